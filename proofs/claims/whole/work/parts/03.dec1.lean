theorem dX10_isBlank_0 : decode cX10_isBlank 0 = .ok (.iload_n 0, 1) := by decide +kernel
theorem dX10_isBlank_1 : decode cX10_isBlank 1 = .ok (.bipush 9, 2) := by decide +kernel
theorem dX10_isBlank_3 : decode cX10_isBlank 3 = .ok (.if_icmp .eq 9, 3) := by decide +kernel
theorem dX10_isBlank_6 : decode cX10_isBlank 6 = .ok (.iload_n 0, 1) := by decide +kernel
theorem dX10_isBlank_7 : decode cX10_isBlank 7 = .ok (.bipush 32, 2) := by decide +kernel
theorem dX10_isBlank_9 : decode cX10_isBlank 9 = .ok (.if_icmp .ne 7, 3) := by decide +kernel
theorem dX10_isBlank_12 : decode cX10_isBlank 12 = .ok (.iconst 1, 1) := by decide +kernel
theorem dX10_isBlank_13 : decode cX10_isBlank 13 = .ok (.goto 4, 3) := by decide +kernel
theorem dX10_isBlank_16 : decode cX10_isBlank 16 = .ok (.iconst 0, 1) := by decide +kernel
theorem dX10_isBlank_17 : decode cX10_isBlank 17 = .ok (.ireturn, 1) := by decide +kernel
theorem dX9_becomeSimple_0 : decode cX9_becomeSimple 0 = .ok (.aload_n 0, 1) := by decide +kernel
theorem dX9_becomeSimple_1 : decode cX9_becomeSimple 1 = .ok (.iconst 0, 1) := by decide +kernel
theorem dX9_becomeSimple_2 : decode cX9_becomeSimple 2 = .ok (.putfield 15, 3) := by decide +kernel
theorem dX9_becomeSimple_5 : decode cX9_becomeSimple 5 = .ok (.iconst 0, 1) := by decide +kernel
theorem dX9_becomeSimple_6 : decode cX9_becomeSimple 6 = .ok (.istore_n 2, 1) := by decide +kernel
theorem dX9_becomeSimple_7 : decode cX9_becomeSimple 7 = .ok (.iload_n 2, 1) := by decide +kernel
theorem dX9_becomeSimple_8 : decode cX9_becomeSimple 8 = .ok (.aload_n 1, 1) := by decide +kernel
theorem dX9_becomeSimple_9 : decode cX9_becomeSimple 9 = .ok (.getfield 15, 3) := by decide +kernel
theorem dX9_becomeSimple_12 : decode cX9_becomeSimple 12 = .ok (.if_icmp .ge 19, 3) := by decide +kernel
theorem dX9_becomeSimple_15 : decode cX9_becomeSimple 15 = .ok (.aload_n 0, 1) := by decide +kernel
theorem dX9_becomeSimple_16 : decode cX9_becomeSimple 16 = .ok (.aload_n 1, 1) := by decide +kernel
theorem dX9_becomeSimple_17 : decode cX9_becomeSimple 17 = .ok (.getfield 9, 3) := by decide +kernel
theorem dX9_becomeSimple_20 : decode cX9_becomeSimple 20 = .ok (.iload_n 2, 1) := by decide +kernel
theorem dX9_becomeSimple_21 : decode cX9_becomeSimple 21 = .ok (.iaload, 1) := by decide +kernel
theorem dX9_becomeSimple_22 : decode cX9_becomeSimple 22 = .ok (.invokevirtual 23, 3) := by decide +kernel
theorem dX9_becomeSimple_25 : decode cX9_becomeSimple 25 = .ok (.iinc 2 1, 3) := by decide +kernel
theorem dX9_becomeSimple_28 : decode cX9_becomeSimple 28 = .ok (.goto (-21), 3) := by decide +kernel
theorem dX9_becomeSimple_31 : decode cX9_becomeSimple 31 = .ok (.return_, 1) := by decide +kernel
theorem dX9_endWithOneLineEnd_0 : decode cX9_endWithOneLineEnd 0 = .ok (.aload_n 0, 1) := by decide +kernel
theorem dX9_endWithOneLineEnd_1 : decode cX9_endWithOneLineEnd 1 = .ok (.getfield 15, 3) := by decide +kernel
theorem dX9_endWithOneLineEnd_4 : decode cX9_endWithOneLineEnd 4 = .ok (.ifCond .le 32, 3) := by decide +kernel
theorem dX9_endWithOneLineEnd_7 : decode cX9_endWithOneLineEnd 7 = .ok (.aload_n 0, 1) := by decide +kernel
theorem dX9_endWithOneLineEnd_8 : decode cX9_endWithOneLineEnd 8 = .ok (.getfield 9, 3) := by decide +kernel
theorem dX9_endWithOneLineEnd_11 : decode cX9_endWithOneLineEnd 11 = .ok (.aload_n 0, 1) := by decide +kernel
theorem dX9_endWithOneLineEnd_12 : decode cX9_endWithOneLineEnd 12 = .ok (.getfield 15, 3) := by decide +kernel
theorem dX9_endWithOneLineEnd_15 : decode cX9_endWithOneLineEnd 15 = .ok (.iconst 1, 1) := by decide +kernel
theorem dX9_endWithOneLineEnd_16 : decode cX9_endWithOneLineEnd 16 = .ok (.isub, 1) := by decide +kernel
theorem dX9_endWithOneLineEnd_17 : decode cX9_endWithOneLineEnd 17 = .ok (.iaload, 1) := by decide +kernel
theorem dX9_endWithOneLineEnd_18 : decode cX9_endWithOneLineEnd 18 = .ok (.bipush 10, 2) := by decide +kernel
theorem dX9_endWithOneLineEnd_20 : decode cX9_endWithOneLineEnd 20 = .ok (.if_icmp .ne 16, 3) := by decide +kernel
theorem dX9_endWithOneLineEnd_23 : decode cX9_endWithOneLineEnd 23 = .ok (.aload_n 0, 1) := by decide +kernel
theorem dX9_endWithOneLineEnd_24 : decode cX9_endWithOneLineEnd 24 = .ok (.dup, 1) := by decide +kernel
theorem dX9_endWithOneLineEnd_25 : decode cX9_endWithOneLineEnd 25 = .ok (.getfield 15, 3) := by decide +kernel
theorem dX9_endWithOneLineEnd_28 : decode cX9_endWithOneLineEnd 28 = .ok (.iconst 1, 1) := by decide +kernel
theorem dX9_endWithOneLineEnd_29 : decode cX9_endWithOneLineEnd 29 = .ok (.isub, 1) := by decide +kernel
theorem dX9_endWithOneLineEnd_30 : decode cX9_endWithOneLineEnd 30 = .ok (.putfield 15, 3) := by decide +kernel
theorem dX9_endWithOneLineEnd_33 : decode cX9_endWithOneLineEnd 33 = .ok (.goto (-33), 3) := by decide +kernel
theorem dX9_endWithOneLineEnd_36 : decode cX9_endWithOneLineEnd 36 = .ok (.aload_n 0, 1) := by decide +kernel
theorem dX9_endWithOneLineEnd_37 : decode cX9_endWithOneLineEnd 37 = .ok (.bipush 10, 2) := by decide +kernel
theorem dX9_endWithOneLineEnd_39 : decode cX9_endWithOneLineEnd 39 = .ok (.invokevirtual 23, 3) := by decide +kernel
theorem dX9_endWithOneLineEnd_42 : decode cX9_endWithOneLineEnd 42 = .ok (.return_, 1) := by decide +kernel
theorem dX4_headerForm_0 : decode cX4_headerForm 0 = .ok (.iload_n 2, 1) := by decide +kernel
theorem dX4_headerForm_1 : decode cX4_headerForm 1 = .ok (.ifCond .eq 15, 3) := by decide +kernel
theorem dX4_headerForm_4 : decode cX4_headerForm 4 = .ok (.aload_n 0, 1) := by decide +kernel
theorem dX4_headerForm_5 : decode cX4_headerForm 5 = .ok (.getfield 28, 3) := by decide +kernel
theorem dX4_headerForm_8 : decode cX4_headerForm 8 = .ok (.aload_n 1, 1) := by decide +kernel
theorem dX4_headerForm_9 : decode cX4_headerForm 9 = .ok (.iconst 0, 1) := by decide +kernel
theorem dX4_headerForm_10 : decode cX4_headerForm 10 = .ok (.invokevirtual 75, 3) := by decide +kernel
theorem dX4_headerForm_13 : decode cX4_headerForm 13 = .ok (.goto 11, 3) := by decide +kernel
theorem dX4_headerForm_16 : decode cX4_headerForm 16 = .ok (.aload_n 0, 1) := by decide +kernel
theorem dX4_headerForm_17 : decode cX4_headerForm 17 = .ok (.getfield 28, 3) := by decide +kernel
theorem dX4_headerForm_20 : decode cX4_headerForm 20 = .ok (.aload_n 1, 1) := by decide +kernel
theorem dX4_headerForm_21 : decode cX4_headerForm 21 = .ok (.invokevirtual 79, 3) := by decide +kernel
theorem dX4_headerForm_24 : decode cX4_headerForm 24 = .ok (.aload_n 0, 1) := by decide +kernel
theorem dX4_headerForm_25 : decode cX4_headerForm 25 = .ok (.getfield 28, 3) := by decide +kernel
theorem dX4_headerForm_28 : decode cX4_headerForm 28 = .ok (.areturn, 1) := by decide +kernel
theorem dX10_sign_0 : decode cX10_sign 0 = .ok (.iload_n 2, 1) := by decide +kernel
theorem dX10_sign_1 : decode cX10_sign 1 = .ok (.iconst 1, 1) := by decide +kernel
theorem dX10_sign_2 : decode cX10_sign 2 = .ok (.iand, 1) := by decide +kernel
theorem dX10_sign_3 : decode cX10_sign 3 = .ok (.istore 6, 2) := by decide +kernel
theorem dX10_sign_5 : decode cX10_sign 5 = .ok (.iload_n 2, 1) := by decide +kernel
theorem dX10_sign_6 : decode cX10_sign 6 = .ok (.iconst 1, 1) := by decide +kernel
theorem dX10_sign_7 : decode cX10_sign 7 = .ok (.ishr, 1) := by decide +kernel
theorem dX10_sign_8 : decode cX10_sign 8 = .ok (.istore 7, 2) := by decide +kernel
theorem dX10_sign_10 : decode cX10_sign 10 = .ok (.aload_n 0, 1) := by decide +kernel
theorem dX10_sign_11 : decode cX10_sign 11 = .ok (.getfield 30, 3) := by decide +kernel
theorem dX10_sign_14 : decode cX10_sign 14 = .ok (.getfield 126, 3) := by decide +kernel
theorem dX10_sign_17 : decode cX10_sign 17 = .ok (.ifCond .eq 23, 3) := by decide +kernel
theorem dX10_sign_20 : decode cX10_sign 20 = .ok (.iload 7, 2) := by decide +kernel
theorem dX10_sign_22 : decode cX10_sign 22 = .ok (.iconst 0, 1) := by decide +kernel
theorem dX10_sign_23 : decode cX10_sign 23 = .ok (.iconst 3, 1) := by decide +kernel
theorem dX10_sign_24 : decode cX10_sign 24 = .ok (.invokestatic 72, 3) := by decide +kernel
theorem dX10_sign_27 : decode cX10_sign 27 = .ok (.ifCond .eq 13, 3) := by decide +kernel
theorem dX10_sign_30 : decode cX10_sign 30 = .ok (.aload_n 0, 1) := by decide +kernel
theorem dX10_sign_31 : decode cX10_sign 31 = .ok (.iload_n 1, 1) := by decide +kernel
theorem dX10_sign_32 : decode cX10_sign 32 = .ok (.iload 6, 2) := by decide +kernel
theorem dX10_sign_34 : decode cX10_sign 34 = .ok (.invokevirtual 155, 3) := by decide +kernel
theorem dX10_sign_37 : decode cX10_sign 37 = .ok (.ifCond .ne 5, 3) := by decide +kernel
theorem dX10_sign_40 : decode cX10_sign 40 = .ok (.iconst (-1), 1) := by decide +kernel
theorem dX10_sign_41 : decode cX10_sign 41 = .ok (.ireturn, 1) := by decide +kernel
theorem dX10_sign_42 : decode cX10_sign 42 = .ok (.iload_n 3, 1) := by decide +kernel
theorem dX10_sign_43 : decode cX10_sign 43 = .ok (.iconst 0, 1) := by decide +kernel
theorem dX10_sign_44 : decode cX10_sign 44 = .ok (.sipush 255, 3) := by decide +kernel
theorem dX10_sign_47 : decode cX10_sign 47 = .ok (.invokestatic 72, 3) := by decide +kernel
theorem dX10_sign_50 : decode cX10_sign 50 = .ok (.ifCond .eq 20, 3) := by decide +kernel
theorem dX10_sign_53 : decode cX10_sign 53 = .ok (.iload 4, 2) := by decide +kernel
theorem dX10_sign_55 : decode cX10_sign 55 = .ok (.iconst (-1), 1) := by decide +kernel
theorem dX10_sign_56 : decode cX10_sign 56 = .ok (.if_icmp .lt 14, 3) := by decide +kernel
theorem dX10_sign_59 : decode cX10_sign 59 = .ok (.iload 5, 2) := by decide +kernel
theorem dX10_sign_61 : decode cX10_sign 61 = .ok (.iconst (-1), 1) := by decide +kernel
theorem dX10_sign_62 : decode cX10_sign 62 = .ok (.ldc 159, 2) := by decide +kernel
theorem dX10_sign_64 : decode cX10_sign 64 = .ok (.invokestatic 72, 3) := by decide +kernel
theorem dX10_sign_67 : decode cX10_sign 67 = .ok (.ifCond .ne 5, 3) := by decide +kernel
theorem dX10_sign_70 : decode cX10_sign 70 = .ok (.iconst (-1), 1) := by decide +kernel
theorem dX10_sign_71 : decode cX10_sign 71 = .ok (.ireturn, 1) := by decide +kernel
theorem dX10_sign_72 : decode cX10_sign 72 = .ok (.iload 4, 2) := by decide +kernel
theorem dX10_sign_74 : decode cX10_sign 74 = .ok (.aload_n 0, 1) := by decide +kernel
theorem dX10_sign_75 : decode cX10_sign 75 = .ok (.getfield 30, 3) := by decide +kernel
theorem dX10_sign_78 : decode cX10_sign 78 = .ok (.iload 7, 2) := by decide +kernel
theorem dX10_sign_80 : decode cX10_sign 80 = .ok (.iconst 2, 1) := by decide +kernel
theorem dX10_sign_81 : decode cX10_sign 81 = .ok (.iand, 1) := by decide +kernel
theorem dX10_sign_82 : decode cX10_sign 82 = .ok (.ifCond .eq 7, 3) := by decide +kernel
theorem dX10_sign_85 : decode cX10_sign 85 = .ok (.iconst 1, 1) := by decide +kernel
theorem dX10_sign_86 : decode cX10_sign 86 = .ok (.goto 4, 3) := by decide +kernel
theorem dX10_sign_89 : decode cX10_sign 89 = .ok (.iconst 0, 1) := by decide +kernel
theorem dX10_sign_90 : decode cX10_sign 90 = .ok (.invokevirtual 144, 3) := by decide +kernel
theorem dX10_sign_93 : decode cX10_sign 93 = .ok (.getfield 148, 3) := by decide +kernel
theorem dX10_sign_96 : decode cX10_sign 96 = .ok (.if_icmp .le 5, 3) := by decide +kernel
theorem dX10_sign_99 : decode cX10_sign 99 = .ok (.iconst (-1), 1) := by decide +kernel
theorem dX10_sign_100 : decode cX10_sign 100 = .ok (.ireturn, 1) := by decide +kernel
theorem dX10_sign_101 : decode cX10_sign 101 = .ok (.aload_n 0, 1) := by decide +kernel
theorem dX10_sign_102 : decode cX10_sign 102 = .ok (.getfield 30, 3) := by decide +kernel
theorem dX10_sign_105 : decode cX10_sign 105 = .ok (.invokevirtual 160, 3) := by decide +kernel
theorem dX10_sign_108 : decode cX10_sign 108 = .ok (.astore 8, 2) := by decide +kernel
theorem dX10_sign_110 : decode cX10_sign 110 = .ok (.aload 8, 2) := by decide +kernel
theorem dX10_sign_112 : decode cX10_sign 112 = .ok (.ifnonnull 6, 3) := by decide +kernel
theorem dX10_sign_115 : decode cX10_sign 115 = .ok (.bipush (-2), 2) := by decide +kernel
theorem dX10_sign_117 : decode cX10_sign 117 = .ok (.ireturn, 1) := by decide +kernel
theorem dX10_sign_118 : decode cX10_sign 118 = .ok (.aload 8, 2) := by decide +kernel
theorem dX10_sign_120 : decode cX10_sign 120 = .ok (.iload_n 1, 1) := by decide +kernel
theorem dX10_sign_121 : decode cX10_sign 121 = .ok (.iload 6, 2) := by decide +kernel
theorem dX10_sign_123 : decode cX10_sign 123 = .ok (.iload 7, 2) := by decide +kernel
theorem dX10_sign_125 : decode cX10_sign 125 = .ok (.iload_n 3, 1) := by decide +kernel
theorem dX10_sign_126 : decode cX10_sign 126 = .ok (.iload 4, 2) := by decide +kernel
theorem dX10_sign_128 : decode cX10_sign 128 = .ok (.iload 5, 2) := by decide +kernel
theorem dX10_sign_130 : decode cX10_sign 130 = .ok (.iconst (-1), 1) := by decide +kernel
theorem dX10_sign_131 : decode cX10_sign 131 = .ok (.if_icmp .ne 7, 3) := by decide +kernel
theorem dX10_sign_134 : decode cX10_sign 134 = .ok (.iconst (-1), 1) := by decide +kernel
theorem dX10_sign_135 : decode cX10_sign 135 = .ok (.goto 10, 3) := by decide +kernel
theorem dX10_sign_138 : decode cX10_sign 138 = .ok (.aload_n 0, 1) := by decide +kernel
theorem dX10_sign_139 : decode cX10_sign 139 = .ok (.getfield 51, 3) := by decide +kernel
theorem dX10_sign_142 : decode cX10_sign 142 = .ok (.iload 5, 2) := by decide +kernel
theorem dX10_sign_144 : decode cX10_sign 144 = .ok (.iadd, 1) := by decide +kernel
theorem dX10_sign_145 : decode cX10_sign 145 = .ok (.invokevirtual 164, 3) := by decide +kernel
theorem dX10_sign_148 : decode cX10_sign 148 = .ok (.aload_n 0, 1) := by decide +kernel
theorem dX10_sign_149 : decode cX10_sign 149 = .ok (.getfield 30, 3) := by decide +kernel
theorem dX10_sign_152 : decode cX10_sign 152 = .ok (.aload 8, 2) := by decide +kernel
theorem dX10_sign_154 : decode cX10_sign 154 = .ok (.aload_n 0, 1) := by decide +kernel
theorem dX10_sign_155 : decode cX10_sign 155 = .ok (.getfield 11, 3) := by decide +kernel
theorem dX10_sign_158 : decode cX10_sign 158 = .ok (.iload_n 1, 1) := by decide +kernel
theorem dX10_sign_159 : decode cX10_sign 159 = .ok (.aaload, 1) := by decide +kernel
theorem dX10_sign_160 : decode cX10_sign 160 = .ok (.getfield 108, 3) := by decide +kernel
theorem dX10_sign_163 : decode cX10_sign 163 = .ok (.iload 6, 2) := by decide +kernel
theorem dX10_sign_165 : decode cX10_sign 165 = .ok (.iaload, 1) := by decide +kernel
theorem dX10_sign_166 : decode cX10_sign 166 = .ok (.invokevirtual 169, 3) := by decide +kernel
theorem dX10_sign_169 : decode cX10_sign 169 = .ok (.aload_n 0, 1) := by decide +kernel
theorem dX10_sign_170 : decode cX10_sign 170 = .ok (.getfield 30, 3) := by decide +kernel
theorem dX10_sign_173 : decode cX10_sign 173 = .ok (.dup, 1) := by decide +kernel
theorem dX10_sign_174 : decode cX10_sign 174 = .ok (.getfield 173, 3) := by decide +kernel
theorem dX10_sign_177 : decode cX10_sign 177 = .ok (.iconst 1, 1) := by decide +kernel
theorem dX10_sign_178 : decode cX10_sign 178 = .ok (.iadd, 1) := by decide +kernel
theorem dX10_sign_179 : decode cX10_sign 179 = .ok (.putfield 173, 3) := by decide +kernel
theorem dX10_sign_182 : decode cX10_sign 182 = .ok (.aload_n 0, 1) := by decide +kernel
theorem dX10_sign_183 : decode cX10_sign 183 = .ok (.getfield 30, 3) := by decide +kernel
theorem dX10_sign_186 : decode cX10_sign 186 = .ok (.getfield 173, 3) := by decide +kernel
theorem dX10_sign_189 : decode cX10_sign 189 = .ok (.iconst 1, 1) := by decide +kernel
theorem dX10_sign_190 : decode cX10_sign 190 = .ok (.isub, 1) := by decide +kernel
theorem dX10_sign_191 : decode cX10_sign 191 = .ok (.ireturn, 1) := by decide +kernel
theorem dX10_hasKey_0 : decode cX10_hasKey 0 = .ok (.aload_n 0, 1) := by decide +kernel
theorem dX10_hasKey_1 : decode cX10_hasKey 1 = .ok (.iload_n 1, 1) := by decide +kernel
theorem dX10_hasKey_2 : decode cX10_hasKey 2 = .ok (.invokevirtual 54, 3) := by decide +kernel
theorem dX10_hasKey_5 : decode cX10_hasKey 5 = .ok (.ifCond .eq 28, 3) := by decide +kernel
theorem dX10_hasKey_8 : decode cX10_hasKey 8 = .ok (.iload_n 2, 1) := by decide +kernel
theorem dX10_hasKey_9 : decode cX10_hasKey 9 = .ok (.invokestatic 104, 3) := by decide +kernel
theorem dX10_hasKey_12 : decode cX10_hasKey 12 = .ok (.ifCond .eq 21, 3) := by decide +kernel
theorem dX10_hasKey_15 : decode cX10_hasKey 15 = .ok (.aload_n 0, 1) := by decide +kernel
theorem dX10_hasKey_16 : decode cX10_hasKey 16 = .ok (.getfield 11, 3) := by decide +kernel
theorem dX10_hasKey_19 : decode cX10_hasKey 19 = .ok (.iload_n 1, 1) := by decide +kernel
theorem dX10_hasKey_20 : decode cX10_hasKey 20 = .ok (.aaload, 1) := by decide +kernel
theorem dX10_hasKey_21 : decode cX10_hasKey 21 = .ok (.getfield 108, 3) := by decide +kernel
theorem dX10_hasKey_24 : decode cX10_hasKey 24 = .ok (.iload_n 2, 1) := by decide +kernel
theorem dX10_hasKey_25 : decode cX10_hasKey 25 = .ok (.iaload, 1) := by decide +kernel
theorem dX10_hasKey_26 : decode cX10_hasKey 26 = .ok (.ifCond .eq 7, 3) := by decide +kernel
theorem dX10_hasKey_29 : decode cX10_hasKey 29 = .ok (.iconst 1, 1) := by decide +kernel
theorem dX10_hasKey_30 : decode cX10_hasKey 30 = .ok (.goto 4, 3) := by decide +kernel
theorem dX10_hasKey_33 : decode cX10_hasKey 33 = .ok (.iconst 0, 1) := by decide +kernel
theorem dX10_hasKey_34 : decode cX10_hasKey 34 = .ok (.ireturn, 1) := by decide +kernel
theorem dX4_nextSignature_0 : decode cX4_nextSignature 0 = .ok (.aload_n 0, 1) := by decide +kernel
theorem dX4_nextSignature_1 : decode cX4_nextSignature 1 = .ok (.getfield 65, 3) := by decide +kernel
theorem dX4_nextSignature_4 : decode cX4_nextSignature 4 = .ok (.iconst 3, 1) := by decide +kernel
theorem dX4_nextSignature_5 : decode cX4_nextSignature 5 = .ok (.if_icmp .ge 15, 3) := by decide +kernel
theorem dX4_nextSignature_8 : decode cX4_nextSignature 8 = .ok (.aload_n 0, 1) := by decide +kernel
theorem dX4_nextSignature_9 : decode cX4_nextSignature 9 = .ok (.getfield 33, 3) := by decide +kernel
theorem dX4_nextSignature_12 : decode cX4_nextSignature 12 = .ok (.aload_n 0, 1) := by decide +kernel
theorem dX4_nextSignature_13 : decode cX4_nextSignature 13 = .ok (.getfield 65, 3) := by decide +kernel
theorem dX4_nextSignature_16 : decode cX4_nextSignature 16 = .ok (.aaload, 1) := by decide +kernel
theorem dX4_nextSignature_17 : decode cX4_nextSignature 17 = .ok (.goto 4, 3) := by decide +kernel
theorem dX4_nextSignature_20 : decode cX4_nextSignature 20 = .ok (.aconst_null, 1) := by decide +kernel
theorem dX4_nextSignature_21 : decode cX4_nextSignature 21 = .ok (.areturn, 1) := by decide +kernel
theorem dX8_fill_0 : decode cX8_fill 0 = .ok (.aload_n 0, 1) := by decide +kernel
theorem dX8_fill_1 : decode cX8_fill 1 = .ok (.iload_n 1, 1) := by decide +kernel
theorem dX8_fill_2 : decode cX8_fill 2 = .ok (.putfield 9, 3) := by decide +kernel
theorem dX8_fill_5 : decode cX8_fill 5 = .ok (.aload_n 0, 1) := by decide +kernel
theorem dX8_fill_6 : decode cX8_fill 6 = .ok (.iload_n 2, 1) := by decide +kernel
theorem dX8_fill_7 : decode cX8_fill 7 = .ok (.putfield 15, 3) := by decide +kernel
theorem dX8_fill_10 : decode cX8_fill 10 = .ok (.aload_n 0, 1) := by decide +kernel
theorem dX8_fill_11 : decode cX8_fill 11 = .ok (.iload_n 3, 1) := by decide +kernel
theorem dX8_fill_12 : decode cX8_fill 12 = .ok (.putfield 18, 3) := by decide +kernel
theorem dX8_fill_15 : decode cX8_fill 15 = .ok (.aload_n 0, 1) := by decide +kernel
theorem dX8_fill_16 : decode cX8_fill 16 = .ok (.iload 4, 2) := by decide +kernel
theorem dX8_fill_18 : decode cX8_fill 18 = .ok (.putfield 21, 3) := by decide +kernel
theorem dX8_fill_21 : decode cX8_fill 21 = .ok (.aload_n 0, 1) := by decide +kernel
theorem dX8_fill_22 : decode cX8_fill 22 = .ok (.iload 5, 2) := by decide +kernel
theorem dX8_fill_24 : decode cX8_fill 24 = .ok (.putfield 24, 3) := by decide +kernel
theorem dX8_fill_27 : decode cX8_fill 27 = .ok (.aload_n 0, 1) := by decide +kernel
theorem dX8_fill_28 : decode cX8_fill 28 = .ok (.iload 6, 2) := by decide +kernel
theorem dX8_fill_30 : decode cX8_fill 30 = .ok (.putfield 27, 3) := by decide +kernel
theorem dX8_fill_33 : decode cX8_fill 33 = .ok (.return_, 1) := by decide +kernel
theorem dX4_seal_0 : decode cX4_seal 0 = .ok (.aload_n 1, 1) := by decide +kernel
theorem dX4_seal_1 : decode cX4_seal 1 = .ok (.aload_n 0, 1) := by decide +kernel
theorem dX4_seal_2 : decode cX4_seal 2 = .ok (.aload_n 1, 1) := by decide +kernel
theorem dX4_seal_3 : decode cX4_seal 3 = .ok (.invokevirtual 108, 3) := by decide +kernel
theorem dX4_seal_6 : decode cX4_seal 6 = .ok (.putfield 112, 3) := by decide +kernel
theorem dX4_seal_9 : decode cX4_seal 9 = .ok (.aload_n 1, 1) := by decide +kernel
theorem dX4_seal_10 : decode cX4_seal 10 = .ok (.aload_n 0, 1) := by decide +kernel
theorem dX4_seal_11 : decode cX4_seal 11 = .ok (.aload_n 1, 1) := by decide +kernel
theorem dX4_seal_12 : decode cX4_seal 12 = .ok (.iload_n 2, 1) := by decide +kernel
theorem dX4_seal_13 : decode cX4_seal 13 = .ok (.invokevirtual 115, 3) := by decide +kernel
theorem dX4_seal_16 : decode cX4_seal 16 = .ok (.putfield 119, 3) := by decide +kernel
theorem dX4_seal_19 : decode cX4_seal 19 = .ok (.return_, 1) := by decide +kernel
theorem dX4_bodyDigestFor_0 : decode cX4_bodyDigestFor 0 = .ok (.aload_n 0, 1) := by decide +kernel
theorem dX4_bodyDigestFor_1 : decode cX4_bodyDigestFor 1 = .ok (.aload_n 1, 1) := by decide +kernel
theorem dX4_bodyDigestFor_2 : decode cX4_bodyDigestFor 2 = .ok (.invokevirtual 121, 3) := by decide +kernel
theorem dX4_bodyDigestFor_5 : decode cX4_bodyDigestFor 5 = .ok (.invokevirtual 125, 3) := by decide +kernel
theorem dX4_bodyDigestFor_8 : decode cX4_bodyDigestFor 8 = .ok (.astore_n 2, 1) := by decide +kernel
theorem dX4_bodyDigestFor_9 : decode cX4_bodyDigestFor 9 = .ok (.lconst 0, 1) := by decide +kernel
theorem dX4_bodyDigestFor_10 : decode cX4_bodyDigestFor 10 = .ok (.aload_n 2, 1) := by decide +kernel
theorem dX4_bodyDigestFor_11 : decode cX4_bodyDigestFor 11 = .ok (.aload_n 1, 1) := by decide +kernel
theorem dX4_bodyDigestFor_12 : decode cX4_bodyDigestFor 12 = .ok (.getfield 129, 3) := by decide +kernel
theorem dX4_bodyDigestFor_15 : decode cX4_bodyDigestFor 15 = .ok (.iconst (-1), 1) := by decide +kernel
theorem dX4_bodyDigestFor_16 : decode cX4_bodyDigestFor 16 = .ok (.if_icmp .ne 10, 3) := by decide +kernel
theorem dX4_bodyDigestFor_19 : decode cX4_bodyDigestFor 19 = .ok (.aload_n 2, 1) := by decide +kernel
theorem dX4_bodyDigestFor_20 : decode cX4_bodyDigestFor 20 = .ok (.getfield 62, 3) := by decide +kernel
theorem dX4_bodyDigestFor_23 : decode cX4_bodyDigestFor 23 = .ok (.goto 7, 3) := by decide +kernel
theorem dX4_bodyDigestFor_26 : decode cX4_bodyDigestFor 26 = .ok (.aload_n 1, 1) := by decide +kernel
theorem dX4_bodyDigestFor_27 : decode cX4_bodyDigestFor 27 = .ok (.getfield 129, 3) := by decide +kernel
theorem dX4_bodyDigestFor_30 : decode cX4_bodyDigestFor 30 = .ok (.invokestatic 132, 3) := by decide +kernel
theorem dX4_bodyDigestFor_33 : decode cX4_bodyDigestFor 33 = .ok (.invokestatic 136, 3) := by decide +kernel
theorem dX4_bodyDigestFor_36 : decode cX4_bodyDigestFor 36 = .ok (.ireturn, 1) := by decide +kernel
theorem dX8_isBodyRelaxed_0 : decode cX8_isBodyRelaxed 0 = .ok (.aload_n 0, 1) := by decide +kernel
theorem dX8_isBodyRelaxed_1 : decode cX8_isBodyRelaxed 1 = .ok (.getfield 18, 3) := by decide +kernel
theorem dX8_isBodyRelaxed_4 : decode cX8_isBodyRelaxed 4 = .ok (.iconst 2, 1) := by decide +kernel
theorem dX8_isBodyRelaxed_5 : decode cX8_isBodyRelaxed 5 = .ok (.iand, 1) := by decide +kernel
theorem dX8_isBodyRelaxed_6 : decode cX8_isBodyRelaxed 6 = .ok (.ifCond .eq 7, 3) := by decide +kernel
theorem dX8_isBodyRelaxed_9 : decode cX8_isBodyRelaxed 9 = .ok (.iconst 1, 1) := by decide +kernel
theorem dX8_isBodyRelaxed_10 : decode cX8_isBodyRelaxed 10 = .ok (.goto 4, 3) := by decide +kernel
theorem dX8_isBodyRelaxed_13 : decode cX8_isBodyRelaxed 13 = .ok (.iconst 0, 1) := by decide +kernel
theorem dX8_isBodyRelaxed_14 : decode cX8_isBodyRelaxed 14 = .ok (.ireturn, 1) := by decide +kernel
theorem dX10_mixText_0 : decode cX10_mixText 0 = .ok (.lload_n 0, 1) := by decide +kernel
theorem dX10_mixText_1 : decode cX10_mixText 1 = .ok (.lstore 4, 2) := by decide +kernel
theorem dX10_mixText_3 : decode cX10_mixText 3 = .ok (.iconst 0, 1) := by decide +kernel
theorem dX10_mixText_4 : decode cX10_mixText 4 = .ok (.istore 6, 2) := by decide +kernel
theorem dX10_mixText_6 : decode cX10_mixText 6 = .ok (.iload 6, 2) := by decide +kernel
theorem dX10_mixText_8 : decode cX10_mixText 8 = .ok (.iload_n 3, 1) := by decide +kernel
theorem dX10_mixText_9 : decode cX10_mixText 9 = .ok (.if_icmp .ge 32, 3) := by decide +kernel
theorem dX10_mixText_12 : decode cX10_mixText 12 = .ok (.iload 6, 2) := by decide +kernel
theorem dX10_mixText_14 : decode cX10_mixText 14 = .ok (.aload_n 2, 1) := by decide +kernel
theorem dX10_mixText_15 : decode cX10_mixText 15 = .ok (.getfield 148, 3) := by decide +kernel
theorem dX10_mixText_18 : decode cX10_mixText 18 = .ok (.if_icmp .ge 23, 3) := by decide +kernel
theorem dX10_mixText_21 : decode cX10_mixText 21 = .ok (.lload 4, 2) := by decide +kernel
theorem dX10_mixText_23 : decode cX10_mixText 23 = .ok (.aload_n 2, 1) := by decide +kernel
theorem dX10_mixText_24 : decode cX10_mixText 24 = .ok (.getfield 242, 3) := by decide +kernel
theorem dX10_mixText_27 : decode cX10_mixText 27 = .ok (.iload 6, 2) := by decide +kernel
theorem dX10_mixText_29 : decode cX10_mixText 29 = .ok (.iaload, 1) := by decide +kernel
theorem dX10_mixText_30 : decode cX10_mixText 30 = .ok (.invokestatic 245, 3) := by decide +kernel
theorem dX10_mixText_33 : decode cX10_mixText 33 = .ok (.lstore 4, 2) := by decide +kernel
theorem dX10_mixText_35 : decode cX10_mixText 35 = .ok (.iinc 6 1, 3) := by decide +kernel
theorem dX10_mixText_38 : decode cX10_mixText 38 = .ok (.goto (-32), 3) := by decide +kernel
theorem dX10_mixText_41 : decode cX10_mixText 41 = .ok (.lload 4, 2) := by decide +kernel
theorem dX10_mixText_43 : decode cX10_mixText 43 = .ok (.lreturn, 1) := by decide +kernel
theorem dX10_mix_0 : decode cX10_mix 0 = .ok (.lload_n 0, 1) := by decide +kernel
theorem dX10_mix_1 : decode cX10_mix 1 = .ok (.iload_n 2, 1) := by decide +kernel
theorem dX10_mix_2 : decode cX10_mix 2 = .ok (.i2l, 1) := by decide +kernel
theorem dX10_mix_3 : decode cX10_mix 3 = .ok (.lxor, 1) := by decide +kernel
theorem dX10_mix_4 : decode cX10_mix 4 = .ok (.ldc2_w 240, 3) := by decide +kernel
theorem dX10_mix_7 : decode cX10_mix 7 = .ok (.lmul, 1) := by decide +kernel
theorem dX10_mix_8 : decode cX10_mix 8 = .ok (.lstore_n 3, 1) := by decide +kernel
theorem dX10_mix_9 : decode cX10_mix 9 = .ok (.lload_n 3, 1) := by decide +kernel
theorem dX10_mix_10 : decode cX10_mix 10 = .ok (.lload_n 3, 1) := by decide +kernel
theorem dX10_mix_11 : decode cX10_mix 11 = .ok (.bipush 30, 2) := by decide +kernel
theorem dX10_mix_13 : decode cX10_mix 13 = .ok (.lushr, 1) := by decide +kernel
theorem dX10_mix_14 : decode cX10_mix 14 = .ok (.lxor, 1) := by decide +kernel
theorem dX10_mix_15 : decode cX10_mix 15 = .ok (.lreturn, 1) := by decide +kernel
theorem dX10_digestOf_0 : decode cX10_digestOf 0 = .ok (.lload_n 0, 1) := by decide +kernel
theorem dX10_digestOf_1 : decode cX10_digestOf 1 = .ok (.bipush 33, 2) := by decide +kernel
theorem dX10_digestOf_3 : decode cX10_digestOf 3 = .ok (.lushr, 1) := by decide +kernel
theorem dX10_digestOf_4 : decode cX10_digestOf 4 = .ok (.l2i, 1) := by decide +kernel
theorem dX10_digestOf_5 : decode cX10_digestOf 5 = .ok (.ireturn, 1) := by decide +kernel
theorem dX4_sealFor_0 : decode cX4_sealFor 0 = .ok (.lconst 0, 1) := by decide +kernel
theorem dX4_sealFor_1 : decode cX4_sealFor 1 = .ok (.iload_n 2, 1) := by decide +kernel
theorem dX4_sealFor_2 : decode cX4_sealFor 2 = .ok (.invokestatic 140, 3) := by decide +kernel
theorem dX4_sealFor_5 : decode cX4_sealFor 5 = .ok (.lstore_n 3, 1) := by decide +kernel
theorem dX4_sealFor_6 : decode cX4_sealFor 6 = .ok (.lload_n 3, 1) := by decide +kernel
theorem dX4_sealFor_7 : decode cX4_sealFor 7 = .ok (.aload_n 1, 1) := by decide +kernel
theorem dX4_sealFor_8 : decode cX4_sealFor 8 = .ok (.getfield 144, 3) := by decide +kernel
theorem dX4_sealFor_11 : decode cX4_sealFor 11 = .ok (.invokestatic 140, 3) := by decide +kernel
theorem dX4_sealFor_14 : decode cX4_sealFor 14 = .ok (.lstore_n 3, 1) := by decide +kernel
theorem dX4_sealFor_15 : decode cX4_sealFor 15 = .ok (.lload_n 3, 1) := by decide +kernel
theorem dX4_sealFor_16 : decode cX4_sealFor 16 = .ok (.aload_n 1, 1) := by decide +kernel
theorem dX4_sealFor_17 : decode cX4_sealFor 17 = .ok (.getfield 147, 3) := by decide +kernel
theorem dX4_sealFor_20 : decode cX4_sealFor 20 = .ok (.invokestatic 140, 3) := by decide +kernel
theorem dX4_sealFor_23 : decode cX4_sealFor 23 = .ok (.lstore_n 3, 1) := by decide +kernel
theorem dX4_sealFor_24 : decode cX4_sealFor 24 = .ok (.lload_n 3, 1) := by decide +kernel
theorem dX4_sealFor_25 : decode cX4_sealFor 25 = .ok (.aload_n 1, 1) := by decide +kernel
theorem dX4_sealFor_26 : decode cX4_sealFor 26 = .ok (.getfield 150, 3) := by decide +kernel
theorem dX4_sealFor_29 : decode cX4_sealFor 29 = .ok (.invokestatic 140, 3) := by decide +kernel
theorem dX4_sealFor_32 : decode cX4_sealFor 32 = .ok (.lstore_n 3, 1) := by decide +kernel
theorem dX4_sealFor_33 : decode cX4_sealFor 33 = .ok (.lload_n 3, 1) := by decide +kernel
theorem dX4_sealFor_34 : decode cX4_sealFor 34 = .ok (.aload_n 1, 1) := by decide +kernel
theorem dX4_sealFor_35 : decode cX4_sealFor 35 = .ok (.getfield 153, 3) := by decide +kernel
theorem dX4_sealFor_38 : decode cX4_sealFor 38 = .ok (.invokestatic 140, 3) := by decide +kernel
theorem dX4_sealFor_41 : decode cX4_sealFor 41 = .ok (.lstore_n 3, 1) := by decide +kernel
theorem dX4_sealFor_42 : decode cX4_sealFor 42 = .ok (.lload_n 3, 1) := by decide +kernel
theorem dX4_sealFor_43 : decode cX4_sealFor 43 = .ok (.aload_n 1, 1) := by decide +kernel
theorem dX4_sealFor_44 : decode cX4_sealFor 44 = .ok (.getfield 129, 3) := by decide +kernel
theorem dX4_sealFor_47 : decode cX4_sealFor 47 = .ok (.invokestatic 140, 3) := by decide +kernel
theorem dX4_sealFor_50 : decode cX4_sealFor 50 = .ok (.lstore_n 3, 1) := by decide +kernel
theorem dX4_sealFor_51 : decode cX4_sealFor 51 = .ok (.lload_n 3, 1) := by decide +kernel
theorem dX4_sealFor_52 : decode cX4_sealFor 52 = .ok (.aload_n 1, 1) := by decide +kernel
theorem dX4_sealFor_53 : decode cX4_sealFor 53 = .ok (.getfield 155, 3) := by decide +kernel
theorem dX4_sealFor_56 : decode cX4_sealFor 56 = .ok (.invokestatic 140, 3) := by decide +kernel
theorem dX4_sealFor_59 : decode cX4_sealFor 59 = .ok (.lstore_n 3, 1) := by decide +kernel
theorem dX4_sealFor_60 : decode cX4_sealFor 60 = .ok (.lload_n 3, 1) := by decide +kernel
theorem dX4_sealFor_61 : decode cX4_sealFor 61 = .ok (.aload_n 1, 1) := by decide +kernel
theorem dX4_sealFor_62 : decode cX4_sealFor 62 = .ok (.getfield 112, 3) := by decide +kernel
theorem dX4_sealFor_65 : decode cX4_sealFor 65 = .ok (.invokestatic 140, 3) := by decide +kernel
theorem dX4_sealFor_68 : decode cX4_sealFor 68 = .ok (.lstore_n 3, 1) := by decide +kernel
theorem dX4_sealFor_69 : decode cX4_sealFor 69 = .ok (.iconst 0, 1) := by decide +kernel
theorem dX4_sealFor_70 : decode cX4_sealFor 70 = .ok (.istore 5, 2) := by decide +kernel
theorem dX4_sealFor_72 : decode cX4_sealFor 72 = .ok (.iload 5, 2) := by decide +kernel
theorem dX4_sealFor_74 : decode cX4_sealFor 74 = .ok (.aload_n 0, 1) := by decide +kernel
theorem dX4_sealFor_75 : decode cX4_sealFor 75 = .ok (.getfield 59, 3) := by decide +kernel
theorem dX4_sealFor_78 : decode cX4_sealFor 78 = .ok (.if_icmp .ge 70, 3) := by decide +kernel
theorem dX4_sealFor_81 : decode cX4_sealFor 81 = .ok (.aload_n 1, 1) := by decide +kernel
theorem dX4_sealFor_82 : decode cX4_sealFor 82 = .ok (.aload_n 0, 1) := by decide +kernel
theorem dX4_sealFor_83 : decode cX4_sealFor 83 = .ok (.getfield 9, 3) := by decide +kernel
theorem dX4_sealFor_86 : decode cX4_sealFor 86 = .ok (.iload 5, 2) := by decide +kernel
theorem dX4_sealFor_88 : decode cX4_sealFor 88 = .ok (.iaload, 1) := by decide +kernel
theorem dX4_sealFor_89 : decode cX4_sealFor 89 = .ok (.invokevirtual 158, 3) := by decide +kernel
theorem dX4_sealFor_92 : decode cX4_sealFor 92 = .ok (.ifCond .eq 50, 3) := by decide +kernel
theorem dX4_sealFor_95 : decode cX4_sealFor 95 = .ok (.lload_n 3, 1) := by decide +kernel
theorem dX4_sealFor_96 : decode cX4_sealFor 96 = .ok (.aload_n 0, 1) := by decide +kernel
theorem dX4_sealFor_97 : decode cX4_sealFor 97 = .ok (.getfield 9, 3) := by decide +kernel
theorem dX4_sealFor_100 : decode cX4_sealFor 100 = .ok (.iload 5, 2) := by decide +kernel
theorem dX4_sealFor_102 : decode cX4_sealFor 102 = .ok (.iaload, 1) := by decide +kernel
theorem dX4_sealFor_103 : decode cX4_sealFor 103 = .ok (.invokestatic 140, 3) := by decide +kernel
theorem dX4_sealFor_106 : decode cX4_sealFor 106 = .ok (.lstore_n 3, 1) := by decide +kernel
theorem dX4_sealFor_107 : decode cX4_sealFor 107 = .ok (.aload_n 0, 1) := by decide +kernel
theorem dX4_sealFor_108 : decode cX4_sealFor 108 = .ok (.aload_n 0, 1) := by decide +kernel
theorem dX4_sealFor_109 : decode cX4_sealFor 109 = .ok (.getfield 17, 3) := by decide +kernel
theorem dX4_sealFor_112 : decode cX4_sealFor 112 = .ok (.iload 5, 2) := by decide +kernel
theorem dX4_sealFor_114 : decode cX4_sealFor 114 = .ok (.aaload, 1) := by decide +kernel
theorem dX4_sealFor_115 : decode cX4_sealFor 115 = .ok (.aload_n 1, 1) := by decide +kernel
theorem dX4_sealFor_116 : decode cX4_sealFor 116 = .ok (.invokevirtual 162, 3) := by decide +kernel
theorem dX4_sealFor_119 : decode cX4_sealFor 119 = .ok (.invokevirtual 165, 3) := by decide +kernel
theorem dX4_sealFor_122 : decode cX4_sealFor 122 = .ok (.astore 6, 2) := by decide +kernel
theorem dX4_sealFor_124 : decode cX4_sealFor 124 = .ok (.lload_n 3, 1) := by decide +kernel
theorem dX4_sealFor_125 : decode cX4_sealFor 125 = .ok (.aload 6, 2) := by decide +kernel
theorem dX4_sealFor_127 : decode cX4_sealFor 127 = .ok (.aload 6, 2) := by decide +kernel
theorem dX4_sealFor_129 : decode cX4_sealFor 129 = .ok (.getfield 62, 3) := by decide +kernel
theorem dX4_sealFor_132 : decode cX4_sealFor 132 = .ok (.invokestatic 132, 3) := by decide +kernel
theorem dX4_sealFor_135 : decode cX4_sealFor 135 = .ok (.lstore_n 3, 1) := by decide +kernel
theorem dX4_sealFor_136 : decode cX4_sealFor 136 = .ok (.lload_n 3, 1) := by decide +kernel
theorem dX4_sealFor_137 : decode cX4_sealFor 137 = .ok (.iconst 0, 1) := by decide +kernel
theorem dX4_sealFor_138 : decode cX4_sealFor 138 = .ok (.invokestatic 140, 3) := by decide +kernel
theorem dX4_sealFor_141 : decode cX4_sealFor 141 = .ok (.lstore_n 3, 1) := by decide +kernel
theorem dX4_sealFor_142 : decode cX4_sealFor 142 = .ok (.iinc 5 1, 3) := by decide +kernel
theorem dX4_sealFor_145 : decode cX4_sealFor 145 = .ok (.goto (-73), 3) := by decide +kernel
theorem dX4_sealFor_148 : decode cX4_sealFor 148 = .ok (.lload_n 3, 1) := by decide +kernel
theorem dX4_sealFor_149 : decode cX4_sealFor 149 = .ok (.invokestatic 136, 3) := by decide +kernel
theorem dX4_sealFor_152 : decode cX4_sealFor 152 = .ok (.ireturn, 1) := by decide +kernel
theorem dX8_hasName_0 : decode cX8_hasName 0 = .ok (.aload_n 0, 1) := by decide +kernel
theorem dX8_hasName_1 : decode cX8_hasName 1 = .ok (.getfield 21, 3) := by decide +kernel
theorem dX8_hasName_4 : decode cX8_hasName 4 = .ok (.iload_n 1, 1) := by decide +kernel
theorem dX8_hasName_5 : decode cX8_hasName 5 = .ok (.ishr, 1) := by decide +kernel
theorem dX8_hasName_6 : decode cX8_hasName 6 = .ok (.iconst 1, 1) := by decide +kernel
theorem dX8_hasName_7 : decode cX8_hasName 7 = .ok (.iand, 1) := by decide +kernel
theorem dX8_hasName_8 : decode cX8_hasName 8 = .ok (.ifCond .eq 7, 3) := by decide +kernel
theorem dX8_hasName_11 : decode cX8_hasName 11 = .ok (.iconst 1, 1) := by decide +kernel
theorem dX8_hasName_12 : decode cX8_hasName 12 = .ok (.goto 4, 3) := by decide +kernel
theorem dX8_hasName_15 : decode cX8_hasName 15 = .ok (.iconst 0, 1) := by decide +kernel
theorem dX8_hasName_16 : decode cX8_hasName 16 = .ok (.ireturn, 1) := by decide +kernel
theorem dX8_isHeaderRelaxed_0 : decode cX8_isHeaderRelaxed 0 = .ok (.aload_n 0, 1) := by decide +kernel
theorem dX8_isHeaderRelaxed_1 : decode cX8_isHeaderRelaxed 1 = .ok (.getfield 18, 3) := by decide +kernel
theorem dX8_isHeaderRelaxed_4 : decode cX8_isHeaderRelaxed 4 = .ok (.iconst 1, 1) := by decide +kernel
theorem dX8_isHeaderRelaxed_5 : decode cX8_isHeaderRelaxed 5 = .ok (.iand, 1) := by decide +kernel
theorem dX8_isHeaderRelaxed_6 : decode cX8_isHeaderRelaxed 6 = .ok (.ifCond .eq 7, 3) := by decide +kernel
theorem dX8_isHeaderRelaxed_9 : decode cX8_isHeaderRelaxed 9 = .ok (.iconst 1, 1) := by decide +kernel
theorem dX8_isHeaderRelaxed_10 : decode cX8_isHeaderRelaxed 10 = .ok (.goto 4, 3) := by decide +kernel
theorem dX8_isHeaderRelaxed_13 : decode cX8_isHeaderRelaxed 13 = .ok (.iconst 0, 1) := by decide +kernel
theorem dX8_isHeaderRelaxed_14 : decode cX8_isHeaderRelaxed 14 = .ok (.ireturn, 1) := by decide +kernel
theorem dX10_spoil_0 : decode cX10_spoil 0 = .ok (.aload_n 0, 1) := by decide +kernel
theorem dX10_spoil_1 : decode cX10_spoil 1 = .ok (.iload_n 1, 1) := by decide +kernel
theorem dX10_spoil_2 : decode cX10_spoil 2 = .ok (.invokevirtual 176, 3) := by decide +kernel
theorem dX10_spoil_5 : decode cX10_spoil 5 = .ok (.ifCond .ne 5, 3) := by decide +kernel
theorem dX10_spoil_8 : decode cX10_spoil 8 = .ok (.iconst 0, 1) := by decide +kernel
theorem dX10_spoil_9 : decode cX10_spoil 9 = .ok (.ireturn, 1) := by decide +kernel
theorem dX10_spoil_10 : decode cX10_spoil 10 = .ok (.aload_n 0, 1) := by decide +kernel
theorem dX10_spoil_11 : decode cX10_spoil 11 = .ok (.getfield 30, 3) := by decide +kernel
theorem dX10_spoil_14 : decode cX10_spoil 14 = .ok (.getfield 179, 3) := by decide +kernel
theorem dX10_spoil_17 : decode cX10_spoil 17 = .ok (.iload_n 1, 1) := by decide +kernel
theorem dX10_spoil_18 : decode cX10_spoil 18 = .ok (.aaload, 1) := by decide +kernel
theorem dX10_spoil_19 : decode cX10_spoil 19 = .ok (.dup, 1) := by decide +kernel
theorem dX10_spoil_20 : decode cX10_spoil 20 = .ok (.getfield 183, 3) := by decide +kernel
theorem dX10_spoil_23 : decode cX10_spoil 23 = .ok (.iload_n 2, 1) := by decide +kernel
theorem dX10_spoil_24 : decode cX10_spoil 24 = .ok (.iadd, 1) := by decide +kernel
theorem dX10_spoil_25 : decode cX10_spoil 25 = .ok (.putfield 183, 3) := by decide +kernel
theorem dX10_spoil_28 : decode cX10_spoil 28 = .ok (.iconst 1, 1) := by decide +kernel
theorem dX10_spoil_29 : decode cX10_spoil 29 = .ok (.ireturn, 1) := by decide +kernel
theorem dX10_isSignature_0 : decode cX10_isSignature 0 = .ok (.iload_n 1, 1) := by decide +kernel
theorem dX10_isSignature_1 : decode cX10_isSignature 1 = .ok (.iconst 0, 1) := by decide +kernel
theorem dX10_isSignature_2 : decode cX10_isSignature 2 = .ok (.aload_n 0, 1) := by decide +kernel
theorem dX10_isSignature_3 : decode cX10_isSignature 3 = .ok (.getfield 30, 3) := by decide +kernel
theorem dX10_isSignature_6 : decode cX10_isSignature 6 = .ok (.getfield 173, 3) := by decide +kernel
theorem dX10_isSignature_9 : decode cX10_isSignature 9 = .ok (.iconst 1, 1) := by decide +kernel
theorem dX10_isSignature_10 : decode cX10_isSignature 10 = .ok (.isub, 1) := by decide +kernel
theorem dX10_isSignature_11 : decode cX10_isSignature 11 = .ok (.invokestatic 72, 3) := by decide +kernel
theorem dX10_isSignature_14 : decode cX10_isSignature 14 = .ok (.ireturn, 1) := by decide +kernel
theorem dX10_signature_0 : decode cX10_signature 0 = .ok (.aload_n 0, 1) := by decide +kernel
theorem dX10_signature_1 : decode cX10_signature 1 = .ok (.iload_n 1, 1) := by decide +kernel
theorem dX10_signature_2 : decode cX10_signature 2 = .ok (.invokevirtual 176, 3) := by decide +kernel
theorem dX10_signature_5 : decode cX10_signature 5 = .ok (.ifCond .eq 19, 3) := by decide +kernel
theorem dX10_signature_8 : decode cX10_signature 8 = .ok (.aload_n 0, 1) := by decide +kernel
theorem dX10_signature_9 : decode cX10_signature 9 = .ok (.aload_n 0, 1) := by decide +kernel
theorem dX10_signature_10 : decode cX10_signature 10 = .ok (.getfield 30, 3) := by decide +kernel
theorem dX10_signature_13 : decode cX10_signature 13 = .ok (.getfield 179, 3) := by decide +kernel
theorem dX10_signature_16 : decode cX10_signature 16 = .ok (.iload_n 1, 1) := by decide +kernel
theorem dX10_signature_17 : decode cX10_signature 17 = .ok (.aaload, 1) := by decide +kernel
theorem dX10_signature_18 : decode cX10_signature 18 = .ok (.invokevirtual 185, 3) := by decide +kernel
theorem dX10_signature_21 : decode cX10_signature 21 = .ok (.goto 4, 3) := by decide +kernel
theorem dX10_signature_24 : decode cX10_signature 24 = .ok (.iconst (-1), 1) := by decide +kernel
theorem dX10_signature_25 : decode cX10_signature 25 = .ok (.ireturn, 1) := by decide +kernel
theorem dX10_checkSignature_0 : decode cX10_checkSignature 0 = .ok (.aload_n 0, 1) := by decide +kernel
theorem dX10_checkSignature_1 : decode cX10_checkSignature 1 = .ok (.getfield 11, 3) := by decide +kernel
theorem dX10_checkSignature_4 : decode cX10_checkSignature 4 = .ok (.aload_n 1, 1) := by decide +kernel
theorem dX10_checkSignature_5 : decode cX10_checkSignature 5 = .ok (.getfield 249, 3) := by decide +kernel
theorem dX10_checkSignature_8 : decode cX10_checkSignature 8 = .ok (.aaload, 1) := by decide +kernel
theorem dX10_checkSignature_9 : decode cX10_checkSignature 9 = .ok (.astore_n 2, 1) := by decide +kernel
theorem dX10_checkSignature_10 : decode cX10_checkSignature 10 = .ok (.aload_n 2, 1) := by decide +kernel
theorem dX10_checkSignature_11 : decode cX10_checkSignature 11 = .ok (.getfield 69, 3) := by decide +kernel
theorem dX10_checkSignature_14 : decode cX10_checkSignature 14 = .ok (.ifCond .eq 5, 3) := by decide +kernel
theorem dX10_checkSignature_17 : decode cX10_checkSignature 17 = .ok (.iconst 5, 1) := by decide +kernel
theorem dX10_checkSignature_18 : decode cX10_checkSignature 18 = .ok (.ireturn, 1) := by decide +kernel
theorem dX10_checkSignature_19 : decode cX10_checkSignature 19 = .ok (.aload_n 2, 1) := by decide +kernel
theorem dX10_checkSignature_20 : decode cX10_checkSignature 20 = .ok (.getfield 108, 3) := by decide +kernel
theorem dX10_checkSignature_23 : decode cX10_checkSignature 23 = .ok (.aload_n 1, 1) := by decide +kernel
theorem dX10_checkSignature_24 : decode cX10_checkSignature 24 = .ok (.getfield 252, 3) := by decide +kernel
theorem dX10_checkSignature_27 : decode cX10_checkSignature 27 = .ok (.iaload, 1) := by decide +kernel
theorem dX10_checkSignature_28 : decode cX10_checkSignature 28 = .ok (.istore_n 3, 1) := by decide +kernel
theorem dX10_checkSignature_29 : decode cX10_checkSignature 29 = .ok (.iload_n 3, 1) := by decide +kernel
theorem dX10_checkSignature_30 : decode cX10_checkSignature 30 = .ok (.ifCond .eq 22, 3) := by decide +kernel
theorem dX10_checkSignature_33 : decode cX10_checkSignature 33 = .ok (.aload_n 1, 1) := by decide +kernel
theorem dX10_checkSignature_34 : decode cX10_checkSignature 34 = .ok (.getfield 255, 3) := by decide +kernel
theorem dX10_checkSignature_37 : decode cX10_checkSignature 37 = .ok (.iconst (-1), 1) := by decide +kernel
theorem dX10_checkSignature_38 : decode cX10_checkSignature 38 = .ok (.if_icmp .eq 17, 3) := by decide +kernel
theorem dX10_checkSignature_41 : decode cX10_checkSignature 41 = .ok (.aload_n 1, 1) := by decide +kernel
theorem dX10_checkSignature_42 : decode cX10_checkSignature 42 = .ok (.getfield 255, 3) := by decide +kernel
theorem dX10_checkSignature_45 : decode cX10_checkSignature 45 = .ok (.aload_n 0, 1) := by decide +kernel
theorem dX10_checkSignature_46 : decode cX10_checkSignature 46 = .ok (.getfield 51, 3) := by decide +kernel
theorem dX10_checkSignature_49 : decode cX10_checkSignature 49 = .ok (.if_icmp .gt 6, 3) := by decide +kernel
theorem dX10_checkSignature_52 : decode cX10_checkSignature 52 = .ok (.bipush 6, 2) := by decide +kernel
theorem dX10_checkSignature_54 : decode cX10_checkSignature 54 = .ok (.ireturn, 1) := by decide +kernel
theorem dX10_checkSignature_55 : decode cX10_checkSignature 55 = .ok (.aload_n 1, 1) := by decide +kernel
theorem dX10_checkSignature_56 : decode cX10_checkSignature 56 = .ok (.getfield 258, 3) := by decide +kernel
theorem dX10_checkSignature_59 : decode cX10_checkSignature 59 = .ok (.aload_n 0, 1) := by decide +kernel
theorem dX10_checkSignature_60 : decode cX10_checkSignature 60 = .ok (.getfield 30, 3) := by decide +kernel
theorem dX10_checkSignature_63 : decode cX10_checkSignature 63 = .ok (.aload_n 1, 1) := by decide +kernel
theorem dX10_checkSignature_64 : decode cX10_checkSignature 64 = .ok (.invokevirtual 261, 3) := by decide +kernel
theorem dX10_checkSignature_67 : decode cX10_checkSignature 67 = .ok (.invokevirtual 144, 3) := by decide +kernel
theorem dX10_checkSignature_70 : decode cX10_checkSignature 70 = .ok (.getfield 148, 3) := by decide +kernel
theorem dX10_checkSignature_73 : decode cX10_checkSignature 73 = .ok (.if_icmp .le 6, 3) := by decide +kernel
theorem dX10_checkSignature_76 : decode cX10_checkSignature 76 = .ok (.bipush 6, 2) := by decide +kernel
theorem dX10_checkSignature_78 : decode cX10_checkSignature 78 = .ok (.ireturn, 1) := by decide +kernel
theorem dX10_checkSignature_79 : decode cX10_checkSignature 79 = .ok (.aload_n 1, 1) := by decide +kernel
theorem dX10_checkSignature_80 : decode cX10_checkSignature 80 = .ok (.getfield 265, 3) := by decide +kernel
theorem dX10_checkSignature_83 : decode cX10_checkSignature 83 = .ok (.aload_n 0, 1) := by decide +kernel
theorem dX10_checkSignature_84 : decode cX10_checkSignature 84 = .ok (.getfield 30, 3) := by decide +kernel
theorem dX10_checkSignature_87 : decode cX10_checkSignature 87 = .ok (.aload_n 1, 1) := by decide +kernel
theorem dX10_checkSignature_88 : decode cX10_checkSignature 88 = .ok (.invokevirtual 268, 3) := by decide +kernel
theorem dX10_checkSignature_91 : decode cX10_checkSignature 91 = .ok (.if_icmp .ne 23, 3) := by decide +kernel
theorem dX10_checkSignature_94 : decode cX10_checkSignature 94 = .ok (.aload_n 1, 1) := by decide +kernel
theorem dX10_checkSignature_95 : decode cX10_checkSignature 95 = .ok (.getfield 183, 3) := by decide +kernel
theorem dX10_checkSignature_98 : decode cX10_checkSignature 98 = .ok (.aload_n 0, 1) := by decide +kernel
theorem dX10_checkSignature_99 : decode cX10_checkSignature 99 = .ok (.getfield 30, 3) := by decide +kernel
theorem dX10_checkSignature_102 : decode cX10_checkSignature 102 = .ok (.aload_n 1, 1) := by decide +kernel
theorem dX10_checkSignature_103 : decode cX10_checkSignature 103 = .ok (.iload_n 3, 1) := by decide +kernel
theorem dX10_checkSignature_104 : decode cX10_checkSignature 104 = .ok (.invokevirtual 271, 3) := by decide +kernel
theorem dX10_checkSignature_107 : decode cX10_checkSignature 107 = .ok (.if_icmp .ne 7, 3) := by decide +kernel
theorem dX10_checkSignature_110 : decode cX10_checkSignature 110 = .ok (.iconst 1, 1) := by decide +kernel
theorem dX10_checkSignature_111 : decode cX10_checkSignature 111 = .ok (.goto 4, 3) := by decide +kernel
theorem dX10_checkSignature_114 : decode cX10_checkSignature 114 = .ok (.iconst 0, 1) := by decide +kernel
theorem dX10_checkSignature_115 : decode cX10_checkSignature 115 = .ok (.istore 4, 2) := by decide +kernel
theorem dX10_checkSignature_117 : decode cX10_checkSignature 117 = .ok (.iload 4, 2) := by decide +kernel
theorem dX10_checkSignature_119 : decode cX10_checkSignature 119 = .ok (.ifCond .eq 7, 3) := by decide +kernel
theorem dX10_checkSignature_122 : decode cX10_checkSignature 122 = .ok (.iconst 1, 1) := by decide +kernel
theorem dX10_checkSignature_123 : decode cX10_checkSignature 123 = .ok (.goto 4, 3) := by decide +kernel
theorem dX10_checkSignature_126 : decode cX10_checkSignature 126 = .ok (.iconst 2, 1) := by decide +kernel
theorem dX10_checkSignature_127 : decode cX10_checkSignature 127 = .ok (.ireturn, 1) := by decide +kernel
theorem dX10_sender_0 : decode cX10_sender 0 = .ok (.aload_n 0, 1) := by decide +kernel
theorem dX10_sender_1 : decode cX10_sender 1 = .ok (.getfield 30, 3) := by decide +kernel
theorem dX10_sender_4 : decode cX10_sender 4 = .ok (.getfield 126, 3) := by decide +kernel
theorem dX10_sender_7 : decode cX10_sender 7 = .ok (.ifCond .eq 31, 3) := by decide +kernel
theorem dX10_sender_10 : decode cX10_sender 10 = .ok (.aload_n 0, 1) := by decide +kernel
theorem dX10_sender_11 : decode cX10_sender 11 = .ok (.getfield 37, 3) := by decide +kernel
theorem dX10_sender_14 : decode cX10_sender 14 = .ok (.aload_n 0, 1) := by decide +kernel
theorem dX10_sender_15 : decode cX10_sender 15 = .ok (.getfield 11, 3) := by decide +kernel
theorem dX10_sender_18 : decode cX10_sender 18 = .ok (.aload_n 0, 1) := by decide +kernel
theorem dX10_sender_19 : decode cX10_sender 19 = .ok (.getfield 30, 3) := by decide +kernel
theorem dX10_sender_22 : decode cX10_sender 22 = .ok (.getfield 189, 3) := by decide +kernel
theorem dX10_sender_25 : decode cX10_sender 25 = .ok (.aload_n 0, 1) := by decide +kernel
theorem dX10_sender_26 : decode cX10_sender 26 = .ok (.getfield 30, 3) := by decide +kernel
theorem dX10_sender_29 : decode cX10_sender 29 = .ok (.getfield 192, 3) := by decide +kernel
theorem dX10_sender_32 : decode cX10_sender 32 = .ok (.invokevirtual 195, 3) := by decide +kernel
theorem dX10_sender_35 : decode cX10_sender 35 = .ok (.goto 4, 3) := by decide +kernel
theorem dX10_sender_38 : decode cX10_sender 38 = .ok (.iconst (-1), 1) := by decide +kernel
theorem dX10_sender_39 : decode cX10_sender 39 = .ok (.ireturn, 1) := by decide +kernel
theorem dX0_start_0 : decode cX0_start 0 = .ok (.aload_n 0, 1) := by decide +kernel
theorem dX0_start_1 : decode cX0_start 1 = .ok (.iconst 0, 1) := by decide +kernel
theorem dX0_start_2 : decode cX0_start 2 = .ok (.putfield 9, 3) := by decide +kernel
theorem dX0_start_5 : decode cX0_start 5 = .ok (.aload_n 0, 1) := by decide +kernel
theorem dX0_start_6 : decode cX0_start 6 = .ok (.iconst 0, 1) := by decide +kernel
theorem dX0_start_7 : decode cX0_start 7 = .ok (.putfield 15, 3) := by decide +kernel
theorem dX0_start_10 : decode cX0_start 10 = .ok (.aload_n 0, 1) := by decide +kernel
theorem dX0_start_11 : decode cX0_start 11 = .ok (.aload_n 1, 1) := by decide +kernel
theorem dX0_start_12 : decode cX0_start 12 = .ok (.iload_n 2, 1) := by decide +kernel
theorem dX0_start_13 : decode cX0_start 13 = .ok (.iload_n 3, 1) := by decide +kernel
theorem dX0_start_14 : decode cX0_start 14 = .ok (.invokevirtual 18, 3) := by decide +kernel
theorem dX0_start_17 : decode cX0_start 17 = .ok (.ireturn, 1) := by decide +kernel
theorem dX0_resultBy_0 : decode cX0_resultBy 0 = .ok (.aload_n 1, 1) := by decide +kernel
theorem dX0_resultBy_1 : decode cX0_resultBy 1 = .ok (.iload_n 2, 1) := by decide +kernel
theorem dX0_resultBy_2 : decode cX0_resultBy 2 = .ok (.aaload, 1) := by decide +kernel
theorem dX0_resultBy_3 : decode cX0_resultBy 3 = .ok (.getfield 22, 3) := by decide +kernel
theorem dX0_resultBy_6 : decode cX0_resultBy 6 = .ok (.ifCond .eq 5, 3) := by decide +kernel
theorem dX0_resultBy_9 : decode cX0_resultBy 9 = .ok (.iconst 5, 1) := by decide +kernel
theorem dX0_resultBy_10 : decode cX0_resultBy 10 = .ok (.ireturn, 1) := by decide +kernel
theorem dX0_resultBy_11 : decode cX0_resultBy 11 = .ok (.aload_n 1, 1) := by decide +kernel
theorem dX0_resultBy_12 : decode cX0_resultBy 12 = .ok (.iload_n 2, 1) := by decide +kernel
theorem dX0_resultBy_13 : decode cX0_resultBy 13 = .ok (.aaload, 1) := by decide +kernel
theorem dX0_resultBy_14 : decode cX0_resultBy 14 = .ok (.getfield 28, 3) := by decide +kernel
theorem dX0_resultBy_17 : decode cX0_resultBy 17 = .ok (.astore 4, 2) := by decide +kernel
theorem dX0_resultBy_19 : decode cX0_resultBy 19 = .ok (.aload 4, 2) := by decide +kernel
theorem dX0_resultBy_21 : decode cX0_resultBy 21 = .ok (.getfield 32, 3) := by decide +kernel
theorem dX0_resultBy_24 : decode cX0_resultBy 24 = .ok (.ifCond .ne 5, 3) := by decide +kernel
theorem dX0_resultBy_27 : decode cX0_resultBy 27 = .ok (.iconst 0, 1) := by decide +kernel
theorem dX0_resultBy_28 : decode cX0_resultBy 28 = .ok (.ireturn, 1) := by decide +kernel
theorem dX0_resultBy_29 : decode cX0_resultBy 29 = .ok (.iconst 0, 1) := by decide +kernel
theorem dX0_resultBy_30 : decode cX0_resultBy 30 = .ok (.istore 5, 2) := by decide +kernel
theorem dX0_resultBy_32 : decode cX0_resultBy 32 = .ok (.iload 5, 2) := by decide +kernel
theorem dX0_resultBy_34 : decode cX0_resultBy 34 = .ok (.aload 4, 2) := by decide +kernel
theorem dX0_resultBy_36 : decode cX0_resultBy 36 = .ok (.getfield 37, 3) := by decide +kernel
theorem dX0_resultBy_39 : decode cX0_resultBy 39 = .ok (.if_icmp .ge 46, 3) := by decide +kernel
theorem dX0_resultBy_42 : decode cX0_resultBy 42 = .ok (.aload_n 0, 1) := by decide +kernel
theorem dX0_resultBy_43 : decode cX0_resultBy 43 = .ok (.aload_n 1, 1) := by decide +kernel
theorem dX0_resultBy_44 : decode cX0_resultBy 44 = .ok (.aload 4, 2) := by decide +kernel
theorem dX0_resultBy_46 : decode cX0_resultBy 46 = .ok (.iload 5, 2) := by decide +kernel
theorem dX0_resultBy_48 : decode cX0_resultBy 48 = .ok (.iload_n 3, 1) := by decide +kernel
theorem dX0_resultBy_49 : decode cX0_resultBy 49 = .ok (.invokevirtual 40, 3) := by decide +kernel
theorem dX0_resultBy_52 : decode cX0_resultBy 52 = .ok (.istore 6, 2) := by decide +kernel
theorem dX0_resultBy_54 : decode cX0_resultBy 54 = .ok (.iload 6, 2) := by decide +kernel
theorem dX0_resultBy_56 : decode cX0_resultBy 56 = .ok (.iconst 1, 1) := by decide +kernel
theorem dX0_resultBy_57 : decode cX0_resultBy 57 = .ok (.if_icmp .ne 14, 3) := by decide +kernel
theorem dX0_resultBy_60 : decode cX0_resultBy 60 = .ok (.iconst 1, 1) := by decide +kernel
theorem dX0_resultBy_61 : decode cX0_resultBy 61 = .ok (.aload 4, 2) := by decide +kernel
theorem dX0_resultBy_63 : decode cX0_resultBy 63 = .ok (.getfield 44, 3) := by decide +kernel
theorem dX0_resultBy_66 : decode cX0_resultBy 66 = .ok (.iload 5, 2) := by decide +kernel
theorem dX0_resultBy_68 : decode cX0_resultBy 68 = .ok (.iaload, 1) := by decide +kernel
theorem dX0_resultBy_69 : decode cX0_resultBy 69 = .ok (.iadd, 1) := by decide +kernel
theorem dX0_resultBy_70 : decode cX0_resultBy 70 = .ok (.ireturn, 1) := by decide +kernel
theorem dX0_resultBy_71 : decode cX0_resultBy 71 = .ok (.iload 6, 2) := by decide +kernel
theorem dX0_resultBy_73 : decode cX0_resultBy 73 = .ok (.ifCond .eq 6, 3) := by decide +kernel
theorem dX0_resultBy_76 : decode cX0_resultBy 76 = .ok (.iload 6, 2) := by decide +kernel
theorem dX0_resultBy_78 : decode cX0_resultBy 78 = .ok (.ireturn, 1) := by decide +kernel
theorem dX0_resultBy_79 : decode cX0_resultBy 79 = .ok (.iinc 5 1, 3) := by decide +kernel
theorem dX0_resultBy_82 : decode cX0_resultBy 82 = .ok (.goto (-50), 3) := by decide +kernel
theorem dX0_resultBy_85 : decode cX0_resultBy 85 = .ok (.aload 4, 2) := by decide +kernel
theorem dX0_resultBy_87 : decode cX0_resultBy 87 = .ok (.getfield 48, 3) := by decide +kernel
theorem dX0_resultBy_90 : decode cX0_resultBy 90 = .ok (.iconst (-1), 1) := by decide +kernel
theorem dX0_resultBy_91 : decode cX0_resultBy 91 = .ok (.if_icmp .ne 7, 3) := by decide +kernel
theorem dX0_resultBy_94 : decode cX0_resultBy 94 = .ok (.iconst 4, 1) := by decide +kernel
theorem dX0_resultBy_95 : decode cX0_resultBy 95 = .ok (.goto 14, 3) := by decide +kernel
theorem dX0_resultBy_98 : decode cX0_resultBy 98 = .ok (.aload_n 0, 1) := by decide +kernel
theorem dX0_resultBy_99 : decode cX0_resultBy 99 = .ok (.aload_n 1, 1) := by decide +kernel
theorem dX0_resultBy_100 : decode cX0_resultBy 100 = .ok (.aload 4, 2) := by decide +kernel
theorem dX0_resultBy_102 : decode cX0_resultBy 102 = .ok (.getfield 48, 3) := by decide +kernel
theorem dX0_resultBy_105 : decode cX0_resultBy 105 = .ok (.iload_n 3, 1) := by decide +kernel
theorem dX0_resultBy_106 : decode cX0_resultBy 106 = .ok (.invokevirtual 51, 3) := by decide +kernel
theorem dX0_resultBy_109 : decode cX0_resultBy 109 = .ok (.ireturn, 1) := by decide +kernel
theorem dX0_outcomeOf_0 : decode cX0_outcomeOf 0 = .ok (.aload_n 2, 1) := by decide +kernel
theorem dX0_outcomeOf_1 : decode cX0_outcomeOf 1 = .ok (.getfield 58, 3) := by decide +kernel
theorem dX0_outcomeOf_4 : decode cX0_outcomeOf 4 = .ok (.iload_n 3, 1) := by decide +kernel
theorem dX0_outcomeOf_5 : decode cX0_outcomeOf 5 = .ok (.iaload, 1) := by decide +kernel
theorem dX0_outcomeOf_6 : decode cX0_outcomeOf 6 = .ok (.istore 5, 2) := by decide +kernel
theorem dX0_outcomeOf_8 : decode cX0_outcomeOf 8 = .ok (.aload_n 2, 1) := by decide +kernel
theorem dX0_outcomeOf_9 : decode cX0_outcomeOf 9 = .ok (.getfield 61, 3) := by decide +kernel
theorem dX0_outcomeOf_12 : decode cX0_outcomeOf 12 = .ok (.iload_n 3, 1) := by decide +kernel
theorem dX0_outcomeOf_13 : decode cX0_outcomeOf 13 = .ok (.iaload, 1) := by decide +kernel
theorem dX0_outcomeOf_14 : decode cX0_outcomeOf 14 = .ok (.istore 6, 2) := by decide +kernel
theorem dX0_outcomeOf_16 : decode cX0_outcomeOf 16 = .ok (.aload_n 2, 1) := by decide +kernel
theorem dX0_outcomeOf_17 : decode cX0_outcomeOf 17 = .ok (.getfield 64, 3) := by decide +kernel
theorem dX0_outcomeOf_20 : decode cX0_outcomeOf 20 = .ok (.iload_n 3, 1) := by decide +kernel
theorem dX0_outcomeOf_21 : decode cX0_outcomeOf 21 = .ok (.iaload, 1) := by decide +kernel
theorem dX0_outcomeOf_22 : decode cX0_outcomeOf 22 = .ok (.istore 7, 2) := by decide +kernel
theorem dX0_outcomeOf_24 : decode cX0_outcomeOf 24 = .ok (.iload 5, 2) := by decide +kernel
theorem dX0_outcomeOf_26 : decode cX0_outcomeOf 26 = .ok (.ifCond .ne 5, 3) := by decide +kernel
theorem dX0_outcomeOf_29 : decode cX0_outcomeOf 29 = .ok (.iconst 1, 1) := by decide +kernel
theorem dX0_outcomeOf_30 : decode cX0_outcomeOf 30 = .ok (.ireturn, 1) := by decide +kernel
theorem dX0_outcomeOf_31 : decode cX0_outcomeOf 31 = .ok (.iload 5, 2) := by decide +kernel
theorem dX0_outcomeOf_33 : decode cX0_outcomeOf 33 = .ok (.iconst 1, 1) := by decide +kernel
theorem dX0_outcomeOf_34 : decode cX0_outcomeOf 34 = .ok (.if_icmp .ne 16, 3) := by decide +kernel
theorem dX0_outcomeOf_37 : decode cX0_outcomeOf 37 = .ok (.iload 6, 2) := by decide +kernel
theorem dX0_outcomeOf_39 : decode cX0_outcomeOf 39 = .ok (.iload 4, 2) := by decide +kernel
theorem dX0_outcomeOf_41 : decode cX0_outcomeOf 41 = .ok (.iload 7, 2) := by decide +kernel
theorem dX0_outcomeOf_43 : decode cX0_outcomeOf 43 = .ok (.invokestatic 67, 3) := by decide +kernel
theorem dX0_outcomeOf_46 : decode cX0_outcomeOf 46 = .ok (.invokestatic 71, 3) := by decide +kernel
theorem dX0_outcomeOf_49 : decode cX0_outcomeOf 49 = .ok (.ireturn, 1) := by decide +kernel
theorem dX0_outcomeOf_50 : decode cX0_outcomeOf 50 = .ok (.aload_n 0, 1) := by decide +kernel
theorem dX0_outcomeOf_51 : decode cX0_outcomeOf 51 = .ok (.invokevirtual 54, 3) := by decide +kernel
theorem dX0_outcomeOf_54 : decode cX0_outcomeOf 54 = .ok (.ifCond .eq 6, 3) := by decide +kernel
theorem dX0_outcomeOf_57 : decode cX0_outcomeOf 57 = .ok (.bipush 6, 2) := by decide +kernel
theorem dX0_outcomeOf_59 : decode cX0_outcomeOf 59 = .ok (.ireturn, 1) := by decide +kernel
theorem dX0_outcomeOf_60 : decode cX0_outcomeOf 60 = .ok (.iload 5, 2) := by decide +kernel
theorem dX0_outcomeOf_62 : decode cX0_outcomeOf 62 = .ok (.iconst 4, 1) := by decide +kernel
theorem dX0_outcomeOf_63 : decode cX0_outcomeOf 63 = .ok (.if_icmp .ne 13, 3) := by decide +kernel
theorem dX0_outcomeOf_66 : decode cX0_outcomeOf 66 = .ok (.aload_n 0, 1) := by decide +kernel
theorem dX0_outcomeOf_67 : decode cX0_outcomeOf 67 = .ok (.aload_n 1, 1) := by decide +kernel
theorem dX0_outcomeOf_68 : decode cX0_outcomeOf 68 = .ok (.iload 6, 2) := by decide +kernel
theorem dX0_outcomeOf_70 : decode cX0_outcomeOf 70 = .ok (.iload 4, 2) := by decide +kernel
theorem dX0_outcomeOf_72 : decode cX0_outcomeOf 72 = .ok (.invokevirtual 75, 3) := by decide +kernel
theorem dX0_outcomeOf_75 : decode cX0_outcomeOf 75 = .ok (.ireturn, 1) := by decide +kernel
theorem dX0_outcomeOf_76 : decode cX0_outcomeOf 76 = .ok (.aload_n 1, 1) := by decide +kernel
theorem dX0_outcomeOf_77 : decode cX0_outcomeOf 77 = .ok (.iload 6, 2) := by decide +kernel
theorem dX0_outcomeOf_79 : decode cX0_outcomeOf 79 = .ok (.aaload, 1) := by decide +kernel
theorem dX0_outcomeOf_80 : decode cX0_outcomeOf 80 = .ok (.getfield 22, 3) := by decide +kernel
theorem dX0_outcomeOf_83 : decode cX0_outcomeOf 83 = .ok (.ifCond .eq 5, 3) := by decide +kernel
theorem dX0_outcomeOf_86 : decode cX0_outcomeOf 86 = .ok (.iconst 5, 1) := by decide +kernel
theorem dX0_outcomeOf_87 : decode cX0_outcomeOf 87 = .ok (.ireturn, 1) := by decide +kernel
theorem dX0_outcomeOf_88 : decode cX0_outcomeOf 88 = .ok (.iload 5, 2) := by decide +kernel
theorem dX0_outcomeOf_90 : decode cX0_outcomeOf 90 = .ok (.iconst 3, 1) := by decide +kernel
theorem dX0_outcomeOf_91 : decode cX0_outcomeOf 91 = .ok (.if_icmp .ne 13, 3) := by decide +kernel
theorem dX0_outcomeOf_94 : decode cX0_outcomeOf 94 = .ok (.aload_n 1, 1) := by decide +kernel
theorem dX0_outcomeOf_95 : decode cX0_outcomeOf 95 = .ok (.iload 6, 2) := by decide +kernel
theorem dX0_outcomeOf_97 : decode cX0_outcomeOf 97 = .ok (.aaload, 1) := by decide +kernel
theorem dX0_outcomeOf_98 : decode cX0_outcomeOf 98 = .ok (.getfield 78, 3) := by decide +kernel
theorem dX0_outcomeOf_101 : decode cX0_outcomeOf 101 = .ok (.goto 10, 3) := by decide +kernel
theorem dX0_outcomeOf_104 : decode cX0_outcomeOf 104 = .ok (.aload_n 1, 1) := by decide +kernel
theorem dX0_outcomeOf_105 : decode cX0_outcomeOf 105 = .ok (.iload 6, 2) := by decide +kernel
theorem dX0_outcomeOf_107 : decode cX0_outcomeOf 107 = .ok (.aaload, 1) := by decide +kernel
theorem dX0_outcomeOf_108 : decode cX0_outcomeOf 108 = .ok (.getfield 82, 3) := by decide +kernel
theorem dX0_outcomeOf_111 : decode cX0_outcomeOf 111 = .ok (.astore 8, 2) := by decide +kernel
theorem dX0_outcomeOf_113 : decode cX0_outcomeOf 113 = .ok (.aload 8, 2) := by decide +kernel
theorem dX0_outcomeOf_115 : decode cX0_outcomeOf 115 = .ok (.getfield 85, 3) := by decide +kernel
theorem dX0_outcomeOf_118 : decode cX0_outcomeOf 118 = .ok (.ifCond .ne 8, 3) := by decide +kernel
theorem dX0_outcomeOf_121 : decode cX0_outcomeOf 121 = .ok (.aload_n 0, 1) := by decide +kernel
theorem dX0_outcomeOf_122 : decode cX0_outcomeOf 122 = .ok (.invokevirtual 88, 3) := by decide +kernel
theorem dX0_outcomeOf_125 : decode cX0_outcomeOf 125 = .ok (.ireturn, 1) := by decide +kernel
theorem dX0_outcomeOf_126 : decode cX0_outcomeOf 126 = .ok (.iload 5, 2) := by decide +kernel
theorem dX0_outcomeOf_128 : decode cX0_outcomeOf 128 = .ok (.iconst 3, 1) := by decide +kernel
theorem dX0_outcomeOf_129 : decode cX0_outcomeOf 129 = .ok (.if_icmp .ne 15, 3) := by decide +kernel
theorem dX0_outcomeOf_132 : decode cX0_outcomeOf 132 = .ok (.aload_n 0, 1) := by decide +kernel
theorem dX0_outcomeOf_133 : decode cX0_outcomeOf 133 = .ok (.aload_n 1, 1) := by decide +kernel
theorem dX0_outcomeOf_134 : decode cX0_outcomeOf 134 = .ok (.aload 8, 2) := by decide +kernel
theorem dX0_outcomeOf_136 : decode cX0_outcomeOf 136 = .ok (.iload 4, 2) := by decide +kernel
theorem dX0_outcomeOf_138 : decode cX0_outcomeOf 138 = .ok (.iload 7, 2) := by decide +kernel
theorem dX0_outcomeOf_140 : decode cX0_outcomeOf 140 = .ok (.invokevirtual 92, 3) := by decide +kernel
theorem dX0_outcomeOf_143 : decode cX0_outcomeOf 143 = .ok (.ireturn, 1) := by decide +kernel
theorem dX0_outcomeOf_144 : decode cX0_outcomeOf 144 = .ok (.iload 5, 2) := by decide +kernel
theorem dX0_outcomeOf_146 : decode cX0_outcomeOf 146 = .ok (.iconst 5, 1) := by decide +kernel
theorem dX0_outcomeOf_147 : decode cX0_outcomeOf 147 = .ok (.if_icmp .eq 15, 3) := by decide +kernel
theorem dX0_outcomeOf_150 : decode cX0_outcomeOf 150 = .ok (.aload 8, 2) := by decide +kernel
theorem dX0_outcomeOf_152 : decode cX0_outcomeOf 152 = .ok (.iload 4, 2) := by decide +kernel
theorem dX0_outcomeOf_154 : decode cX0_outcomeOf 154 = .ok (.iload 7, 2) := by decide +kernel
theorem dX0_outcomeOf_156 : decode cX0_outcomeOf 156 = .ok (.invokevirtual 95, 3) := by decide +kernel
theorem dX0_outcomeOf_159 : decode cX0_outcomeOf 159 = .ok (.ifCond .eq 7, 3) := by decide +kernel
theorem dX0_outcomeOf_162 : decode cX0_outcomeOf 162 = .ok (.iconst 1, 1) := by decide +kernel
theorem dX0_outcomeOf_163 : decode cX0_outcomeOf 163 = .ok (.goto 4, 3) := by decide +kernel
theorem dX0_outcomeOf_166 : decode cX0_outcomeOf 166 = .ok (.iconst 0, 1) := by decide +kernel
theorem dX0_outcomeOf_167 : decode cX0_outcomeOf 167 = .ok (.invokestatic 71, 3) := by decide +kernel
theorem dX0_outcomeOf_170 : decode cX0_outcomeOf 170 = .ok (.ireturn, 1) := by decide +kernel
theorem dX10_agree_0 : decode cX10_agree 0 = .ok (.iload_n 2, 1) := by decide +kernel
theorem dX10_agree_1 : decode cX10_agree 1 = .ok (.ifCond .eq 14, 3) := by decide +kernel
theorem dX10_agree_4 : decode cX10_agree 4 = .ok (.iload_n 0, 1) := by decide +kernel
theorem dX10_agree_5 : decode cX10_agree 5 = .ok (.iload_n 1, 1) := by decide +kernel
theorem dX10_agree_6 : decode cX10_agree 6 = .ok (.ixor, 1) := by decide +kernel
theorem dX10_agree_7 : decode cX10_agree 7 = .ok (.bipush 32, 2) := by decide +kernel
theorem dX10_agree_9 : decode cX10_agree 9 = .ok (.iload_n 2, 1) := by decide +kernel
theorem dX10_agree_10 : decode cX10_agree 10 = .ok (.isub, 1) := by decide +kernel
theorem dX10_agree_11 : decode cX10_agree 11 = .ok (.iushr, 1) := by decide +kernel
theorem dX10_agree_12 : decode cX10_agree 12 = .ok (.ifCond .ne 7, 3) := by decide +kernel
theorem dX10_agree_15 : decode cX10_agree 15 = .ok (.iconst 1, 1) := by decide +kernel
theorem dX10_agree_16 : decode cX10_agree 16 = .ok (.goto 4, 3) := by decide +kernel
theorem dX10_agree_19 : decode cX10_agree 19 = .ok (.iconst 0, 1) := by decide +kernel
theorem dX10_agree_20 : decode cX10_agree 20 = .ok (.ireturn, 1) := by decide +kernel
theorem dX0_matchIf_0 : decode cX0_matchIf 0 = .ok (.iload_n 0, 1) := by decide +kernel
theorem dX0_matchIf_1 : decode cX0_matchIf 1 = .ok (.ifCond .eq 7, 3) := by decide +kernel
theorem dX0_matchIf_4 : decode cX0_matchIf 4 = .ok (.iconst 1, 1) := by decide +kernel
theorem dX0_matchIf_5 : decode cX0_matchIf 5 = .ok (.goto 4, 3) := by decide +kernel
theorem dX0_matchIf_8 : decode cX0_matchIf 8 = .ok (.iconst 0, 1) := by decide +kernel
theorem dX0_matchIf_9 : decode cX0_matchIf 9 = .ok (.ireturn, 1) := by decide +kernel
theorem dX0_isLookupTooMany_0 : decode cX0_isLookupTooMany 0 = .ok (.aload_n 0, 1) := by decide +kernel
theorem dX0_isLookupTooMany_1 : decode cX0_isLookupTooMany 1 = .ok (.dup, 1) := by decide +kernel
theorem dX0_isLookupTooMany_2 : decode cX0_isLookupTooMany 2 = .ok (.getfield 9, 3) := by decide +kernel
theorem dX0_isLookupTooMany_5 : decode cX0_isLookupTooMany 5 = .ok (.iconst 1, 1) := by decide +kernel
theorem dX0_isLookupTooMany_6 : decode cX0_isLookupTooMany 6 = .ok (.iadd, 1) := by decide +kernel
theorem dX0_isLookupTooMany_7 : decode cX0_isLookupTooMany 7 = .ok (.putfield 9, 3) := by decide +kernel
theorem dX0_isLookupTooMany_10 : decode cX0_isLookupTooMany 10 = .ok (.aload_n 0, 1) := by decide +kernel
theorem dX0_isLookupTooMany_11 : decode cX0_isLookupTooMany 11 = .ok (.getfield 9, 3) := by decide +kernel
theorem dX0_isLookupTooMany_14 : decode cX0_isLookupTooMany 14 = .ok (.bipush 10, 2) := by decide +kernel
theorem dX0_isLookupTooMany_16 : decode cX0_isLookupTooMany 16 = .ok (.if_icmp .le 7, 3) := by decide +kernel
theorem dX0_isLookupTooMany_19 : decode cX0_isLookupTooMany 19 = .ok (.iconst 1, 1) := by decide +kernel
theorem dX0_isLookupTooMany_20 : decode cX0_isLookupTooMany 20 = .ok (.goto 4, 3) := by decide +kernel
theorem dX0_isLookupTooMany_23 : decode cX0_isLookupTooMany 23 = .ok (.iconst 0, 1) := by decide +kernel
theorem dX0_isLookupTooMany_24 : decode cX0_isLookupTooMany 24 = .ok (.ireturn, 1) := by decide +kernel
theorem dX0_including_0 : decode cX0_including 0 = .ok (.aload_n 0, 1) := by decide +kernel
theorem dX0_including_1 : decode cX0_including 1 = .ok (.aload_n 1, 1) := by decide +kernel
theorem dX0_including_2 : decode cX0_including 2 = .ok (.iload_n 2, 1) := by decide +kernel
theorem dX0_including_3 : decode cX0_including 3 = .ok (.iload_n 3, 1) := by decide +kernel
theorem dX0_including_4 : decode cX0_including 4 = .ok (.invokevirtual 18, 3) := by decide +kernel
theorem dX0_including_7 : decode cX0_including 7 = .ok (.istore 4, 2) := by decide +kernel
theorem dX0_including_9 : decode cX0_including 9 = .ok (.iload 4, 2) := by decide +kernel
theorem dX0_including_11 : decode cX0_including 11 = .ok (.ifCond .ne 6, 3) := by decide +kernel
theorem dX0_including_14 : decode cX0_including 14 = .ok (.bipush 6, 2) := by decide +kernel
theorem dX0_including_16 : decode cX0_including 16 = .ok (.ireturn, 1) := by decide +kernel
theorem dX0_including_17 : decode cX0_including 17 = .ok (.iload 4, 2) := by decide +kernel
theorem dX0_including_19 : decode cX0_including 19 = .ok (.iconst 5, 1) := by decide +kernel
theorem dX0_including_20 : decode cX0_including 20 = .ok (.if_icmp .eq 10, 3) := by decide +kernel
theorem dX0_including_23 : decode cX0_including 23 = .ok (.iload 4, 2) := by decide +kernel
theorem dX0_including_25 : decode cX0_including 25 = .ok (.bipush 6, 2) := by decide +kernel
theorem dX0_including_27 : decode cX0_including 27 = .ok (.if_icmp .ne 7, 3) := by decide +kernel
theorem dX0_including_30 : decode cX0_including 30 = .ok (.iconst 1, 1) := by decide +kernel
theorem dX0_including_31 : decode cX0_including 31 = .ok (.goto 4, 3) := by decide +kernel
theorem dX0_including_34 : decode cX0_including 34 = .ok (.iconst 0, 1) := by decide +kernel
theorem dX0_including_35 : decode cX0_including 35 = .ok (.istore 5, 2) := by decide +kernel
theorem dX0_including_37 : decode cX0_including 37 = .ok (.iload 5, 2) := by decide +kernel
theorem dX0_including_39 : decode cX0_including 39 = .ok (.ifCond .eq 8, 3) := by decide +kernel
theorem dX0_including_42 : decode cX0_including 42 = .ok (.iload 4, 2) := by decide +kernel
theorem dX0_including_44 : decode cX0_including 44 = .ok (.goto 17, 3) := by decide +kernel
theorem dX0_including_47 : decode cX0_including 47 = .ok (.iload 4, 2) := by decide +kernel
theorem dX0_including_49 : decode cX0_including 49 = .ok (.iconst 1, 1) := by decide +kernel
theorem dX0_including_50 : decode cX0_including 50 = .ok (.if_icmp .ne 7, 3) := by decide +kernel
theorem dX0_including_53 : decode cX0_including 53 = .ok (.iconst 1, 1) := by decide +kernel
theorem dX0_including_54 : decode cX0_including 54 = .ok (.goto 4, 3) := by decide +kernel
theorem dX0_including_57 : decode cX0_including 57 = .ok (.iconst 0, 1) := by decide +kernel
theorem dX0_including_58 : decode cX0_including 58 = .ok (.invokestatic 71, 3) := by decide +kernel
theorem dX0_including_61 : decode cX0_including 61 = .ok (.ireturn, 1) := by decide +kernel
theorem dX0_empty_0 : decode cX0_empty 0 = .ok (.aload_n 0, 1) := by decide +kernel
theorem dX0_empty_1 : decode cX0_empty 1 = .ok (.dup, 1) := by decide +kernel
theorem dX0_empty_2 : decode cX0_empty 2 = .ok (.getfield 15, 3) := by decide +kernel
theorem dX0_empty_5 : decode cX0_empty 5 = .ok (.iconst 1, 1) := by decide +kernel
theorem dX0_empty_6 : decode cX0_empty 6 = .ok (.iadd, 1) := by decide +kernel
theorem dX0_empty_7 : decode cX0_empty 7 = .ok (.putfield 15, 3) := by decide +kernel
theorem dX0_empty_10 : decode cX0_empty 10 = .ok (.aload_n 0, 1) := by decide +kernel
theorem dX0_empty_11 : decode cX0_empty 11 = .ok (.getfield 15, 3) := by decide +kernel
theorem dX0_empty_14 : decode cX0_empty 14 = .ok (.iconst 2, 1) := by decide +kernel
theorem dX0_empty_15 : decode cX0_empty 15 = .ok (.if_icmp .le 8, 3) := by decide +kernel
theorem dX0_empty_18 : decode cX0_empty 18 = .ok (.bipush 6, 2) := by decide +kernel
theorem dX0_empty_20 : decode cX0_empty 20 = .ok (.goto 4, 3) := by decide +kernel
theorem dX0_empty_23 : decode cX0_empty 23 = .ok (.iconst 0, 1) := by decide +kernel
theorem dX0_empty_24 : decode cX0_empty 24 = .ok (.ireturn, 1) := by decide +kernel
theorem dX0_exchangers_0 : decode cX0_exchangers 0 = .ok (.iconst 0, 1) := by decide +kernel
theorem dX0_exchangers_1 : decode cX0_exchangers 1 = .ok (.istore 5, 2) := by decide +kernel
theorem dX0_exchangers_3 : decode cX0_exchangers 3 = .ok (.iload 5, 2) := by decide +kernel
theorem dX0_exchangers_5 : decode cX0_exchangers 5 = .ok (.aload_n 2, 1) := by decide +kernel
theorem dX0_exchangers_6 : decode cX0_exchangers 6 = .ok (.getfield 85, 3) := by decide +kernel
theorem dX0_exchangers_9 : decode cX0_exchangers 9 = .ok (.if_icmp .ge 46, 3) := by decide +kernel
theorem dX0_exchangers_12 : decode cX0_exchangers 12 = .ok (.aload_n 1, 1) := by decide +kernel
theorem dX0_exchangers_13 : decode cX0_exchangers 13 = .ok (.aload_n 2, 1) := by decide +kernel
theorem dX0_exchangers_14 : decode cX0_exchangers 14 = .ok (.getfield 99, 3) := by decide +kernel
theorem dX0_exchangers_17 : decode cX0_exchangers 17 = .ok (.iload 5, 2) := by decide +kernel
theorem dX0_exchangers_19 : decode cX0_exchangers 19 = .ok (.iaload, 1) := by decide +kernel
theorem dX0_exchangers_20 : decode cX0_exchangers 20 = .ok (.aaload, 1) := by decide +kernel
theorem dX0_exchangers_21 : decode cX0_exchangers 21 = .ok (.astore 6, 2) := by decide +kernel
theorem dX0_exchangers_23 : decode cX0_exchangers 23 = .ok (.aload 6, 2) := by decide +kernel
theorem dX0_exchangers_25 : decode cX0_exchangers 25 = .ok (.getfield 22, 3) := by decide +kernel
theorem dX0_exchangers_28 : decode cX0_exchangers 28 = .ok (.ifCond .eq 5, 3) := by decide +kernel
theorem dX0_exchangers_31 : decode cX0_exchangers 31 = .ok (.iconst 5, 1) := by decide +kernel
theorem dX0_exchangers_32 : decode cX0_exchangers 32 = .ok (.ireturn, 1) := by decide +kernel
theorem dX0_exchangers_33 : decode cX0_exchangers 33 = .ok (.aload 6, 2) := by decide +kernel
theorem dX0_exchangers_35 : decode cX0_exchangers 35 = .ok (.getfield 82, 3) := by decide +kernel
theorem dX0_exchangers_38 : decode cX0_exchangers 38 = .ok (.iload_n 3, 1) := by decide +kernel
theorem dX0_exchangers_39 : decode cX0_exchangers 39 = .ok (.iload 4, 2) := by decide +kernel
theorem dX0_exchangers_41 : decode cX0_exchangers 41 = .ok (.invokevirtual 95, 3) := by decide +kernel
theorem dX0_exchangers_44 : decode cX0_exchangers 44 = .ok (.ifCond .eq 5, 3) := by decide +kernel
theorem dX0_exchangers_47 : decode cX0_exchangers 47 = .ok (.iconst 1, 1) := by decide +kernel
theorem dX0_exchangers_48 : decode cX0_exchangers 48 = .ok (.ireturn, 1) := by decide +kernel
theorem dX0_exchangers_49 : decode cX0_exchangers 49 = .ok (.iinc 5 1, 3) := by decide +kernel
theorem dX0_exchangers_52 : decode cX0_exchangers 52 = .ok (.goto (-49), 3) := by decide +kernel
theorem dX0_exchangers_55 : decode cX0_exchangers 55 = .ok (.iconst 0, 1) := by decide +kernel
theorem dX0_exchangers_56 : decode cX0_exchangers 56 = .ok (.ireturn, 1) := by decide +kernel
theorem dX2_holdOneLike_0 : decode cX2_holdOneLike 0 = .ok (.iconst 0, 1) := by decide +kernel
theorem dX2_holdOneLike_1 : decode cX2_holdOneLike 1 = .ok (.istore_n 3, 1) := by decide +kernel
theorem dX2_holdOneLike_2 : decode cX2_holdOneLike 2 = .ok (.iload_n 3, 1) := by decide +kernel
theorem dX2_holdOneLike_3 : decode cX2_holdOneLike 3 = .ok (.aload_n 0, 1) := by decide +kernel
theorem dX2_holdOneLike_4 : decode cX2_holdOneLike 4 = .ok (.getfield 15, 3) := by decide +kernel
theorem dX2_holdOneLike_7 : decode cX2_holdOneLike 7 = .ok (.if_icmp .ge 25, 3) := by decide +kernel
theorem dX2_holdOneLike_10 : decode cX2_holdOneLike 10 = .ok (.aload_n 0, 1) := by decide +kernel
theorem dX2_holdOneLike_11 : decode cX2_holdOneLike 11 = .ok (.getfield 9, 3) := by decide +kernel
theorem dX2_holdOneLike_14 : decode cX2_holdOneLike 14 = .ok (.iload_n 3, 1) := by decide +kernel
theorem dX2_holdOneLike_15 : decode cX2_holdOneLike 15 = .ok (.iaload, 1) := by decide +kernel
theorem dX2_holdOneLike_16 : decode cX2_holdOneLike 16 = .ok (.iload_n 1, 1) := by decide +kernel
theorem dX2_holdOneLike_17 : decode cX2_holdOneLike 17 = .ok (.iload_n 2, 1) := by decide +kernel
theorem dX2_holdOneLike_18 : decode cX2_holdOneLike 18 = .ok (.invokestatic 19, 3) := by decide +kernel
theorem dX2_holdOneLike_21 : decode cX2_holdOneLike 21 = .ok (.ifCond .eq 5, 3) := by decide +kernel
theorem dX2_holdOneLike_24 : decode cX2_holdOneLike 24 = .ok (.iconst 1, 1) := by decide +kernel
theorem dX2_holdOneLike_25 : decode cX2_holdOneLike 25 = .ok (.ireturn, 1) := by decide +kernel
theorem dX2_holdOneLike_26 : decode cX2_holdOneLike 26 = .ok (.iinc 3 1, 3) := by decide +kernel
theorem dX2_holdOneLike_29 : decode cX2_holdOneLike 29 = .ok (.goto (-27), 3) := by decide +kernel
theorem dX2_holdOneLike_32 : decode cX2_holdOneLike 32 = .ok (.iconst 0, 1) := by decide +kernel
theorem dX2_holdOneLike_33 : decode cX2_holdOneLike 33 = .ok (.ireturn, 1) := by decide +kernel
theorem dX0_redirected_0 : decode cX0_redirected 0 = .ok (.aload_n 0, 1) := by decide +kernel
theorem dX0_redirected_1 : decode cX0_redirected 1 = .ok (.invokevirtual 54, 3) := by decide +kernel
theorem dX0_redirected_4 : decode cX0_redirected 4 = .ok (.ifCond .eq 6, 3) := by decide +kernel
theorem dX0_redirected_7 : decode cX0_redirected 7 = .ok (.bipush 6, 2) := by decide +kernel
theorem dX0_redirected_9 : decode cX0_redirected 9 = .ok (.ireturn, 1) := by decide +kernel
theorem dX0_redirected_10 : decode cX0_redirected 10 = .ok (.aload_n 0, 1) := by decide +kernel
theorem dX0_redirected_11 : decode cX0_redirected 11 = .ok (.aload_n 1, 1) := by decide +kernel
theorem dX0_redirected_12 : decode cX0_redirected 12 = .ok (.iload_n 2, 1) := by decide +kernel
theorem dX0_redirected_13 : decode cX0_redirected 13 = .ok (.iload_n 3, 1) := by decide +kernel
theorem dX0_redirected_14 : decode cX0_redirected 14 = .ok (.invokevirtual 18, 3) := by decide +kernel
theorem dX0_redirected_17 : decode cX0_redirected 17 = .ok (.istore 4, 2) := by decide +kernel
theorem dX0_redirected_19 : decode cX0_redirected 19 = .ok (.iload 4, 2) := by decide +kernel
theorem dX0_redirected_21 : decode cX0_redirected 21 = .ok (.ifCond .ne 8, 3) := by decide +kernel
theorem dX0_redirected_24 : decode cX0_redirected 24 = .ok (.bipush 6, 2) := by decide +kernel
theorem dX0_redirected_26 : decode cX0_redirected 26 = .ok (.goto 5, 3) := by decide +kernel
theorem dX0_redirected_29 : decode cX0_redirected 29 = .ok (.iload 4, 2) := by decide +kernel
theorem dX0_redirected_31 : decode cX0_redirected 31 = .ok (.ireturn, 1) := by decide +kernel
theorem dX10_counted_0 : decode cX10_counted 0 = .ok (.iload_n 1, 1) := by decide +kernel
theorem dX10_counted_1 : decode cX10_counted 1 = .ok (.lookupswitch 43 #[(0, 27), (1, 35)], 27) := by decide +kernel
theorem dX10_counted_28 : decode cX10_counted 28 = .ok (.aload_n 0, 1) := by decide +kernel
theorem dX10_counted_29 : decode cX10_counted 29 = .ok (.getfield 37, 3) := by decide +kernel
theorem dX10_counted_32 : decode cX10_counted 32 = .ok (.getfield 199, 3) := by decide +kernel
theorem dX10_counted_35 : decode cX10_counted 35 = .ok (.ireturn, 1) := by decide +kernel
theorem dX10_counted_36 : decode cX10_counted 36 = .ok (.aload_n 0, 1) := by decide +kernel
theorem dX10_counted_37 : decode cX10_counted 37 = .ok (.getfield 37, 3) := by decide +kernel
theorem dX10_counted_40 : decode cX10_counted 40 = .ok (.getfield 202, 3) := by decide +kernel
theorem dX10_counted_43 : decode cX10_counted 43 = .ok (.ireturn, 1) := by decide +kernel
theorem dX10_counted_44 : decode cX10_counted 44 = .ok (.iconst 0, 1) := by decide +kernel
theorem dX10_counted_45 : decode cX10_counted 45 = .ok (.ireturn, 1) := by decide +kernel
theorem dX10_chain_0 : decode cX10_chain 0 = .ok (.aload_n 0, 1) := by decide +kernel
theorem dX10_chain_1 : decode cX10_chain 1 = .ok (.getfield 30, 3) := by decide +kernel
theorem dX10_chain_4 : decode cX10_chain 4 = .ok (.getfield 126, 3) := by decide +kernel
theorem dX10_chain_7 : decode cX10_chain 7 = .ok (.ifCond .eq 10, 3) := by decide +kernel
theorem dX10_chain_10 : decode cX10_chain 10 = .ok (.aload_n 0, 1) := by decide +kernel
theorem dX10_chain_11 : decode cX10_chain 11 = .ok (.invokevirtual 205, 3) := by decide +kernel
theorem dX10_chain_14 : decode cX10_chain 14 = .ok (.goto 4, 3) := by decide +kernel
theorem dX10_chain_17 : decode cX10_chain 17 = .ok (.iconst (-1), 1) := by decide +kernel
theorem dX10_chain_18 : decode cX10_chain 18 = .ok (.ireturn, 1) := by decide +kernel
theorem dX10_chainState_0 : decode cX10_chainState 0 = .ok (.aload_n 0, 1) := by decide +kernel
theorem dX10_chainState_1 : decode cX10_chainState 1 = .ok (.getfield 30, 3) := by decide +kernel
theorem dX10_chainState_4 : decode cX10_chainState 4 = .ok (.getfield 275, 3) := by decide +kernel
theorem dX10_chainState_7 : decode cX10_chainState 7 = .ok (.ifCond .ne 5, 3) := by decide +kernel
theorem dX10_chainState_10 : decode cX10_chainState 10 = .ok (.iconst 0, 1) := by decide +kernel
theorem dX10_chainState_11 : decode cX10_chainState 11 = .ok (.ireturn, 1) := by decide +kernel
theorem dX10_chainState_12 : decode cX10_chainState 12 = .ok (.iconst 0, 1) := by decide +kernel
theorem dX10_chainState_13 : decode cX10_chainState 13 = .ok (.istore_n 1, 1) := by decide +kernel
theorem dX10_chainState_14 : decode cX10_chainState 14 = .ok (.iload_n 1, 1) := by decide +kernel
theorem dX10_chainState_15 : decode cX10_chainState 15 = .ok (.aload_n 0, 1) := by decide +kernel
theorem dX10_chainState_16 : decode cX10_chainState 16 = .ok (.getfield 30, 3) := by decide +kernel
theorem dX10_chainState_19 : decode cX10_chainState 19 = .ok (.getfield 275, 3) := by decide +kernel
theorem dX10_chainState_22 : decode cX10_chainState 22 = .ok (.if_icmp .ge 19, 3) := by decide +kernel
theorem dX10_chainState_25 : decode cX10_chainState 25 = .ok (.aload_n 0, 1) := by decide +kernel
theorem dX10_chainState_26 : decode cX10_chainState 26 = .ok (.iload_n 1, 1) := by decide +kernel
theorem dX10_chainState_27 : decode cX10_chainState 27 = .ok (.invokevirtual 278, 3) := by decide +kernel
theorem dX10_chainState_30 : decode cX10_chainState 30 = .ok (.ifCond .ne 5, 3) := by decide +kernel
theorem dX10_chainState_33 : decode cX10_chainState 33 = .ok (.iconst 2, 1) := by decide +kernel
theorem dX10_chainState_34 : decode cX10_chainState 34 = .ok (.ireturn, 1) := by decide +kernel
theorem dX10_chainState_35 : decode cX10_chainState 35 = .ok (.iinc 1 1, 3) := by decide +kernel
theorem dX10_chainState_38 : decode cX10_chainState 38 = .ok (.goto (-24), 3) := by decide +kernel
theorem dX10_chainState_41 : decode cX10_chainState 41 = .ok (.aload_n 0, 1) := by decide +kernel
theorem dX10_chainState_42 : decode cX10_chainState 42 = .ok (.getfield 30, 3) := by decide +kernel
theorem dX10_chainState_45 : decode cX10_chainState 45 = .ok (.getfield 281, 3) := by decide +kernel
theorem dX10_chainState_48 : decode cX10_chainState 48 = .ok (.aload_n 0, 1) := by decide +kernel
theorem dX10_chainState_49 : decode cX10_chainState 49 = .ok (.getfield 30, 3) := by decide +kernel
theorem dX10_chainState_52 : decode cX10_chainState 52 = .ok (.getfield 275, 3) := by decide +kernel
theorem dX10_chainState_55 : decode cX10_chainState 55 = .ok (.iconst 1, 1) := by decide +kernel
theorem dX10_chainState_56 : decode cX10_chainState 56 = .ok (.isub, 1) := by decide +kernel
theorem dX10_chainState_57 : decode cX10_chainState 57 = .ok (.aaload, 1) := by decide +kernel
theorem dX10_chainState_58 : decode cX10_chainState 58 = .ok (.getfield 285, 3) := by decide +kernel
theorem dX10_chainState_61 : decode cX10_chainState 61 = .ok (.astore_n 1, 1) := by decide +kernel
theorem dX10_chainState_62 : decode cX10_chainState 62 = .ok (.aload_n 0, 1) := by decide +kernel
theorem dX10_chainState_63 : decode cX10_chainState 63 = .ok (.aload_n 1, 1) := by decide +kernel
theorem dX10_chainState_64 : decode cX10_chainState 64 = .ok (.invokevirtual 185, 3) := by decide +kernel
theorem dX10_chainState_67 : decode cX10_chainState 67 = .ok (.iconst 1, 1) := by decide +kernel
theorem dX10_chainState_68 : decode cX10_chainState 68 = .ok (.if_icmp .ne 7, 3) := by decide +kernel
theorem dX10_chainState_71 : decode cX10_chainState 71 = .ok (.iconst 1, 1) := by decide +kernel
theorem dX10_chainState_72 : decode cX10_chainState 72 = .ok (.goto 4, 3) := by decide +kernel
theorem dX10_chainState_75 : decode cX10_chainState 75 = .ok (.iconst 2, 1) := by decide +kernel
theorem dX10_chainState_76 : decode cX10_chainState 76 = .ok (.ireturn, 1) := by decide +kernel
theorem dX10_isLinkGood_0 : decode cX10_isLinkGood 0 = .ok (.aload_n 0, 1) := by decide +kernel
theorem dX10_isLinkGood_1 : decode cX10_isLinkGood 1 = .ok (.getfield 30, 3) := by decide +kernel
theorem dX10_isLinkGood_4 : decode cX10_isLinkGood 4 = .ok (.getfield 281, 3) := by decide +kernel
theorem dX10_isLinkGood_7 : decode cX10_isLinkGood 7 = .ok (.iload_n 1, 1) := by decide +kernel
theorem dX10_isLinkGood_8 : decode cX10_isLinkGood 8 = .ok (.aaload, 1) := by decide +kernel
theorem dX10_isLinkGood_9 : decode cX10_isLinkGood 9 = .ok (.astore_n 2, 1) := by decide +kernel
theorem dX10_isLinkGood_10 : decode cX10_isLinkGood 10 = .ok (.aload_n 0, 1) := by decide +kernel
theorem dX10_isLinkGood_11 : decode cX10_isLinkGood 11 = .ok (.getfield 11, 3) := by decide +kernel
theorem dX10_isLinkGood_14 : decode cX10_isLinkGood 14 = .ok (.aload_n 2, 1) := by decide +kernel
theorem dX10_isLinkGood_15 : decode cX10_isLinkGood 15 = .ok (.getfield 285, 3) := by decide +kernel
theorem dX10_isLinkGood_18 : decode cX10_isLinkGood 18 = .ok (.getfield 249, 3) := by decide +kernel
theorem dX10_isLinkGood_21 : decode cX10_isLinkGood 21 = .ok (.aaload, 1) := by decide +kernel
theorem dX10_isLinkGood_22 : decode cX10_isLinkGood 22 = .ok (.astore_n 3, 1) := by decide +kernel
theorem dX10_isLinkGood_23 : decode cX10_isLinkGood 23 = .ok (.aload_n 3, 1) := by decide +kernel
theorem dX10_isLinkGood_24 : decode cX10_isLinkGood 24 = .ok (.getfield 108, 3) := by decide +kernel
theorem dX10_isLinkGood_27 : decode cX10_isLinkGood 27 = .ok (.aload_n 2, 1) := by decide +kernel
theorem dX10_isLinkGood_28 : decode cX10_isLinkGood 28 = .ok (.getfield 285, 3) := by decide +kernel
theorem dX10_isLinkGood_31 : decode cX10_isLinkGood 31 = .ok (.getfield 252, 3) := by decide +kernel
theorem dX10_isLinkGood_34 : decode cX10_isLinkGood 34 = .ok (.iaload, 1) := by decide +kernel
theorem dX10_isLinkGood_35 : decode cX10_isLinkGood 35 = .ok (.istore 4, 2) := by decide +kernel
theorem dX10_isLinkGood_37 : decode cX10_isLinkGood 37 = .ok (.iload_n 1, 1) := by decide +kernel
theorem dX10_isLinkGood_38 : decode cX10_isLinkGood 38 = .ok (.ifCond .ne 7, 3) := by decide +kernel
theorem dX10_isLinkGood_41 : decode cX10_isLinkGood 41 = .ok (.iconst 0, 1) := by decide +kernel
theorem dX10_isLinkGood_42 : decode cX10_isLinkGood 42 = .ok (.goto 4, 3) := by decide +kernel
theorem dX10_isLinkGood_45 : decode cX10_isLinkGood 45 = .ok (.iconst 1, 1) := by decide +kernel
theorem dX10_isLinkGood_46 : decode cX10_isLinkGood 46 = .ok (.istore 5, 2) := by decide +kernel
theorem dX10_isLinkGood_48 : decode cX10_isLinkGood 48 = .ok (.aload_n 3, 1) := by decide +kernel
theorem dX10_isLinkGood_49 : decode cX10_isLinkGood 49 = .ok (.getfield 69, 3) := by decide +kernel
theorem dX10_isLinkGood_52 : decode cX10_isLinkGood 52 = .ok (.ifCond .ne 38, 3) := by decide +kernel
theorem dX10_isLinkGood_55 : decode cX10_isLinkGood 55 = .ok (.iload 4, 2) := by decide +kernel
theorem dX10_isLinkGood_57 : decode cX10_isLinkGood 57 = .ok (.ifCond .eq 33, 3) := by decide +kernel
theorem dX10_isLinkGood_60 : decode cX10_isLinkGood 60 = .ok (.aload_n 2, 1) := by decide +kernel
theorem dX10_isLinkGood_61 : decode cX10_isLinkGood 61 = .ok (.getfield 291, 3) := by decide +kernel
theorem dX10_isLinkGood_64 : decode cX10_isLinkGood 64 = .ok (.iload 5, 2) := by decide +kernel
theorem dX10_isLinkGood_66 : decode cX10_isLinkGood 66 = .ok (.if_icmp .ne 24, 3) := by decide +kernel
theorem dX10_isLinkGood_69 : decode cX10_isLinkGood 69 = .ok (.aload_n 2, 1) := by decide +kernel
theorem dX10_isLinkGood_70 : decode cX10_isLinkGood 70 = .ok (.getfield 294, 3) := by decide +kernel
theorem dX10_isLinkGood_73 : decode cX10_isLinkGood 73 = .ok (.aload_n 0, 1) := by decide +kernel
theorem dX10_isLinkGood_74 : decode cX10_isLinkGood 74 = .ok (.getfield 30, 3) := by decide +kernel
theorem dX10_isLinkGood_77 : decode cX10_isLinkGood 77 = .ok (.iload_n 1, 1) := by decide +kernel
theorem dX10_isLinkGood_78 : decode cX10_isLinkGood 78 = .ok (.iload 4, 2) := by decide +kernel
theorem dX10_isLinkGood_80 : decode cX10_isLinkGood 80 = .ok (.invokevirtual 297, 3) := by decide +kernel
theorem dX10_isLinkGood_83 : decode cX10_isLinkGood 83 = .ok (.if_icmp .ne 7, 3) := by decide +kernel
theorem dX10_isLinkGood_86 : decode cX10_isLinkGood 86 = .ok (.iconst 1, 1) := by decide +kernel
theorem dX10_isLinkGood_87 : decode cX10_isLinkGood 87 = .ok (.goto 4, 3) := by decide +kernel
theorem dX10_isLinkGood_90 : decode cX10_isLinkGood 90 = .ok (.iconst 0, 1) := by decide +kernel
theorem dX10_isLinkGood_91 : decode cX10_isLinkGood 91 = .ok (.ireturn, 1) := by decide +kernel
