theorem dX4_coverFor_0 : decode cX4_coverFor 0 = .ok (.aload_n 0, 1) := by decide +kernel
theorem dX4_coverFor_1 : decode cX4_coverFor 1 = .ok (.getfield 39, 3) := by decide +kernel
theorem dX4_coverFor_4 : decode cX4_coverFor 4 = .ok (.iload_n 1, 1) := by decide +kernel
theorem dX4_coverFor_5 : decode cX4_coverFor 5 = .ok (.aaload, 1) := by decide +kernel
theorem dX4_coverFor_6 : decode cX4_coverFor 6 = .ok (.astore_n 3, 1) := by decide +kernel
theorem dX4_coverFor_7 : decode cX4_coverFor 7 = .ok (.lconst 0, 1) := by decide +kernel
theorem dX4_coverFor_8 : decode cX4_coverFor 8 = .ok (.iload_n 2, 1) := by decide +kernel
theorem dX4_coverFor_9 : decode cX4_coverFor 9 = .ok (.invokestatic 140, 3) := by decide +kernel
theorem dX4_coverFor_12 : decode cX4_coverFor 12 = .ok (.lstore 4, 2) := by decide +kernel
theorem dX4_coverFor_14 : decode cX4_coverFor 14 = .ok (.lload 4, 2) := by decide +kernel
theorem dX4_coverFor_16 : decode cX4_coverFor 16 = .ok (.aload_n 3, 1) := by decide +kernel
theorem dX4_coverFor_17 : decode cX4_coverFor 17 = .ok (.getfield 86, 3) := by decide +kernel
theorem dX4_coverFor_20 : decode cX4_coverFor 20 = .ok (.getfield 144, 3) := by decide +kernel
theorem dX4_coverFor_23 : decode cX4_coverFor 23 = .ok (.invokestatic 140, 3) := by decide +kernel
theorem dX4_coverFor_26 : decode cX4_coverFor 26 = .ok (.lstore 4, 2) := by decide +kernel
theorem dX4_coverFor_28 : decode cX4_coverFor 28 = .ok (.lload 4, 2) := by decide +kernel
theorem dX4_coverFor_30 : decode cX4_coverFor 30 = .ok (.aload_n 3, 1) := by decide +kernel
theorem dX4_coverFor_31 : decode cX4_coverFor 31 = .ok (.getfield 86, 3) := by decide +kernel
theorem dX4_coverFor_34 : decode cX4_coverFor 34 = .ok (.getfield 147, 3) := by decide +kernel
theorem dX4_coverFor_37 : decode cX4_coverFor 37 = .ok (.invokestatic 140, 3) := by decide +kernel
theorem dX4_coverFor_40 : decode cX4_coverFor 40 = .ok (.lstore 4, 2) := by decide +kernel
theorem dX4_coverFor_42 : decode cX4_coverFor 42 = .ok (.lload 4, 2) := by decide +kernel
theorem dX4_coverFor_44 : decode cX4_coverFor 44 = .ok (.aload_n 3, 1) := by decide +kernel
theorem dX4_coverFor_45 : decode cX4_coverFor 45 = .ok (.getfield 98, 3) := by decide +kernel
theorem dX4_coverFor_48 : decode cX4_coverFor 48 = .ok (.invokestatic 140, 3) := by decide +kernel
theorem dX4_coverFor_51 : decode cX4_coverFor 51 = .ok (.lstore 4, 2) := by decide +kernel
theorem dX4_coverFor_53 : decode cX4_coverFor 53 = .ok (.lload 4, 2) := by decide +kernel
theorem dX4_coverFor_55 : decode cX4_coverFor 55 = .ok (.aload_n 3, 1) := by decide +kernel
theorem dX4_coverFor_56 : decode cX4_coverFor 56 = .ok (.getfield 86, 3) := by decide +kernel
theorem dX4_coverFor_59 : decode cX4_coverFor 59 = .ok (.getfield 119, 3) := by decide +kernel
theorem dX4_coverFor_62 : decode cX4_coverFor 62 = .ok (.invokestatic 140, 3) := by decide +kernel
theorem dX4_coverFor_65 : decode cX4_coverFor 65 = .ok (.lstore 4, 2) := by decide +kernel
theorem dX4_coverFor_67 : decode cX4_coverFor 67 = .ok (.iconst 0, 1) := by decide +kernel
theorem dX4_coverFor_68 : decode cX4_coverFor 68 = .ok (.istore 6, 2) := by decide +kernel
theorem dX4_coverFor_70 : decode cX4_coverFor 70 = .ok (.iload 6, 2) := by decide +kernel
theorem dX4_coverFor_72 : decode cX4_coverFor 72 = .ok (.iload_n 1, 1) := by decide +kernel
theorem dX4_coverFor_73 : decode cX4_coverFor 73 = .ok (.if_icmp .ge 26, 3) := by decide +kernel
theorem dX4_coverFor_76 : decode cX4_coverFor 76 = .ok (.lload 4, 2) := by decide +kernel
theorem dX4_coverFor_78 : decode cX4_coverFor 78 = .ok (.aload_n 0, 1) := by decide +kernel
theorem dX4_coverFor_79 : decode cX4_coverFor 79 = .ok (.getfield 39, 3) := by decide +kernel
theorem dX4_coverFor_82 : decode cX4_coverFor 82 = .ok (.iload 6, 2) := by decide +kernel
theorem dX4_coverFor_84 : decode cX4_coverFor 84 = .ok (.aaload, 1) := by decide +kernel
theorem dX4_coverFor_85 : decode cX4_coverFor 85 = .ok (.getfield 105, 3) := by decide +kernel
theorem dX4_coverFor_88 : decode cX4_coverFor 88 = .ok (.invokestatic 140, 3) := by decide +kernel
theorem dX4_coverFor_91 : decode cX4_coverFor 91 = .ok (.lstore 4, 2) := by decide +kernel
theorem dX4_coverFor_93 : decode cX4_coverFor 93 = .ok (.iinc 6 1, 3) := by decide +kernel
theorem dX4_coverFor_96 : decode cX4_coverFor 96 = .ok (.goto (-26), 3) := by decide +kernel
theorem dX4_coverFor_99 : decode cX4_coverFor 99 = .ok (.lload 4, 2) := by decide +kernel
theorem dX4_coverFor_101 : decode cX4_coverFor 101 = .ok (.invokestatic 136, 3) := by decide +kernel
theorem dX4_coverFor_104 : decode cX4_coverFor 104 = .ok (.ireturn, 1) := by decide +kernel
theorem dX10_link_0 : decode cX10_link 0 = .ok (.aload_n 0, 1) := by decide +kernel
theorem dX10_link_1 : decode cX10_link 1 = .ok (.getfield 30, 3) := by decide +kernel
theorem dX10_link_4 : decode cX10_link 4 = .ok (.getfield 126, 3) := by decide +kernel
theorem dX10_link_7 : decode cX10_link 7 = .ok (.ifCond .eq 12, 3) := by decide +kernel
theorem dX10_link_10 : decode cX10_link 10 = .ok (.aload_n 0, 1) := by decide +kernel
theorem dX10_link_11 : decode cX10_link 11 = .ok (.iload_n 1, 1) := by decide +kernel
theorem dX10_link_12 : decode cX10_link 12 = .ok (.iload_n 2, 1) := by decide +kernel
theorem dX10_link_13 : decode cX10_link 13 = .ok (.invokevirtual 155, 3) := by decide +kernel
theorem dX10_link_16 : decode cX10_link 16 = .ok (.ifCond .ne 5, 3) := by decide +kernel
theorem dX10_link_19 : decode cX10_link 19 = .ok (.iconst (-1), 1) := by decide +kernel
theorem dX10_link_20 : decode cX10_link 20 = .ok (.ireturn, 1) := by decide +kernel
theorem dX10_link_21 : decode cX10_link 21 = .ok (.aload_n 0, 1) := by decide +kernel
theorem dX10_link_22 : decode cX10_link 22 = .ok (.invokevirtual 205, 3) := by decide +kernel
theorem dX10_link_25 : decode cX10_link 25 = .ok (.istore_n 3, 1) := by decide +kernel
theorem dX10_link_26 : decode cX10_link 26 = .ok (.iload_n 3, 1) := by decide +kernel
theorem dX10_link_27 : decode cX10_link 27 = .ok (.iconst 2, 1) := by decide +kernel
theorem dX10_link_28 : decode cX10_link 28 = .ok (.if_icmp .ne 5, 3) := by decide +kernel
theorem dX10_link_31 : decode cX10_link 31 = .ok (.iconst (-1), 1) := by decide +kernel
theorem dX10_link_32 : decode cX10_link 32 = .ok (.ireturn, 1) := by decide +kernel
theorem dX10_link_33 : decode cX10_link 33 = .ok (.aload_n 0, 1) := by decide +kernel
theorem dX10_link_34 : decode cX10_link 34 = .ok (.getfield 30, 3) := by decide +kernel
theorem dX10_link_37 : decode cX10_link 37 = .ok (.iload_n 1, 1) := by decide +kernel
theorem dX10_link_38 : decode cX10_link 38 = .ok (.iload_n 2, 1) := by decide +kernel
theorem dX10_link_39 : decode cX10_link 39 = .ok (.iload_n 3, 1) := by decide +kernel
theorem dX10_link_40 : decode cX10_link 40 = .ok (.aload_n 0, 1) := by decide +kernel
theorem dX10_link_41 : decode cX10_link 41 = .ok (.getfield 11, 3) := by decide +kernel
theorem dX10_link_44 : decode cX10_link 44 = .ok (.iload_n 1, 1) := by decide +kernel
theorem dX10_link_45 : decode cX10_link 45 = .ok (.aaload, 1) := by decide +kernel
theorem dX10_link_46 : decode cX10_link 46 = .ok (.getfield 108, 3) := by decide +kernel
theorem dX10_link_49 : decode cX10_link 49 = .ok (.iload_n 2, 1) := by decide +kernel
theorem dX10_link_50 : decode cX10_link 50 = .ok (.iaload, 1) := by decide +kernel
theorem dX10_link_51 : decode cX10_link 51 = .ok (.invokevirtual 209, 3) := by decide +kernel
theorem dX10_link_54 : decode cX10_link 54 = .ok (.ireturn, 1) := by decide +kernel
theorem dX4_appendLink_0 : decode cX4_appendLink 0 = .ok (.aload_n 0, 1) := by decide +kernel
theorem dX4_appendLink_1 : decode cX4_appendLink 1 = .ok (.getfield 68, 3) := by decide +kernel
theorem dX4_appendLink_4 : decode cX4_appendLink 4 = .ok (.iconst 4, 1) := by decide +kernel
theorem dX4_appendLink_5 : decode cX4_appendLink 5 = .ok (.if_icmp .lt 6, 3) := by decide +kernel
theorem dX4_appendLink_8 : decode cX4_appendLink 8 = .ok (.bipush (-2), 2) := by decide +kernel
theorem dX4_appendLink_10 : decode cX4_appendLink 10 = .ok (.ireturn, 1) := by decide +kernel
theorem dX4_appendLink_11 : decode cX4_appendLink 11 = .ok (.aload_n 0, 1) := by decide +kernel
theorem dX4_appendLink_12 : decode cX4_appendLink 12 = .ok (.getfield 39, 3) := by decide +kernel
theorem dX4_appendLink_15 : decode cX4_appendLink 15 = .ok (.aload_n 0, 1) := by decide +kernel
theorem dX4_appendLink_16 : decode cX4_appendLink 16 = .ok (.getfield 68, 3) := by decide +kernel
theorem dX4_appendLink_19 : decode cX4_appendLink 19 = .ok (.aaload, 1) := by decide +kernel
theorem dX4_appendLink_20 : decode cX4_appendLink 20 = .ok (.astore 5, 2) := by decide +kernel
theorem dX4_appendLink_22 : decode cX4_appendLink 22 = .ok (.aload 5, 2) := by decide +kernel
theorem dX4_appendLink_24 : decode cX4_appendLink 24 = .ok (.getfield 86, 3) := by decide +kernel
theorem dX4_appendLink_27 : decode cX4_appendLink 27 = .ok (.iload_n 1, 1) := by decide +kernel
theorem dX4_appendLink_28 : decode cX4_appendLink 28 = .ok (.iload_n 2, 1) := by decide +kernel
theorem dX4_appendLink_29 : decode cX4_appendLink 29 = .ok (.iconst 3, 1) := by decide +kernel
theorem dX4_appendLink_30 : decode cX4_appendLink 30 = .ok (.sipush 255, 3) := by decide +kernel
theorem dX4_appendLink_33 : decode cX4_appendLink 33 = .ok (.iconst (-1), 1) := by decide +kernel
theorem dX4_appendLink_34 : decode cX4_appendLink 34 = .ok (.iconst (-1), 1) := by decide +kernel
theorem dX4_appendLink_35 : decode cX4_appendLink 35 = .ok (.invokevirtual 90, 3) := by decide +kernel
theorem dX4_appendLink_38 : decode cX4_appendLink 38 = .ok (.aload_n 0, 1) := by decide +kernel
theorem dX4_appendLink_39 : decode cX4_appendLink 39 = .ok (.aload 5, 2) := by decide +kernel
theorem dX4_appendLink_41 : decode cX4_appendLink 41 = .ok (.getfield 86, 3) := by decide +kernel
theorem dX4_appendLink_44 : decode cX4_appendLink 44 = .ok (.iload 4, 2) := by decide +kernel
theorem dX4_appendLink_46 : decode cX4_appendLink 46 = .ok (.invokevirtual 94, 3) := by decide +kernel
theorem dX4_appendLink_49 : decode cX4_appendLink 49 = .ok (.aload 5, 2) := by decide +kernel
theorem dX4_appendLink_51 : decode cX4_appendLink 51 = .ok (.iload_n 3, 1) := by decide +kernel
theorem dX4_appendLink_52 : decode cX4_appendLink 52 = .ok (.putfield 98, 3) := by decide +kernel
theorem dX4_appendLink_55 : decode cX4_appendLink 55 = .ok (.aload 5, 2) := by decide +kernel
theorem dX4_appendLink_57 : decode cX4_appendLink 57 = .ok (.aload_n 0, 1) := by decide +kernel
theorem dX4_appendLink_58 : decode cX4_appendLink 58 = .ok (.aload_n 0, 1) := by decide +kernel
theorem dX4_appendLink_59 : decode cX4_appendLink 59 = .ok (.getfield 68, 3) := by decide +kernel
theorem dX4_appendLink_62 : decode cX4_appendLink 62 = .ok (.iload 4, 2) := by decide +kernel
theorem dX4_appendLink_64 : decode cX4_appendLink 64 = .ok (.invokevirtual 101, 3) := by decide +kernel
theorem dX4_appendLink_67 : decode cX4_appendLink 67 = .ok (.putfield 105, 3) := by decide +kernel
theorem dX4_appendLink_70 : decode cX4_appendLink 70 = .ok (.aload_n 0, 1) := by decide +kernel
theorem dX4_appendLink_71 : decode cX4_appendLink 71 = .ok (.dup, 1) := by decide +kernel
theorem dX4_appendLink_72 : decode cX4_appendLink 72 = .ok (.getfield 68, 3) := by decide +kernel
theorem dX4_appendLink_75 : decode cX4_appendLink 75 = .ok (.iconst 1, 1) := by decide +kernel
theorem dX4_appendLink_76 : decode cX4_appendLink 76 = .ok (.iadd, 1) := by decide +kernel
theorem dX4_appendLink_77 : decode cX4_appendLink 77 = .ok (.putfield 68, 3) := by decide +kernel
theorem dX4_appendLink_80 : decode cX4_appendLink 80 = .ok (.aload_n 0, 1) := by decide +kernel
theorem dX4_appendLink_81 : decode cX4_appendLink 81 = .ok (.getfield 68, 3) := by decide +kernel
theorem dX4_appendLink_84 : decode cX4_appendLink 84 = .ok (.iconst 1, 1) := by decide +kernel
theorem dX4_appendLink_85 : decode cX4_appendLink 85 = .ok (.isub, 1) := by decide +kernel
theorem dX4_appendLink_86 : decode cX4_appendLink 86 = .ok (.ireturn, 1) := by decide +kernel
theorem dX10_judge_0 : decode cX10_judge 0 = .ok (.aload_n 0, 1) := by decide +kernel
theorem dX10_judge_1 : decode cX10_judge 1 = .ok (.getfield 30, 3) := by decide +kernel
theorem dX10_judge_4 : decode cX10_judge 4 = .ok (.getfield 126, 3) := by decide +kernel
theorem dX10_judge_7 : decode cX10_judge 7 = .ok (.ifCond .eq 13, 3) := by decide +kernel
theorem dX10_judge_10 : decode cX10_judge 10 = .ok (.iload_n 1, 1) := by decide +kernel
theorem dX10_judge_11 : decode cX10_judge 11 = .ok (.iconst 0, 1) := by decide +kernel
theorem dX10_judge_12 : decode cX10_judge 12 = .ok (.bipush 99, 2) := by decide +kernel
theorem dX10_judge_14 : decode cX10_judge 14 = .ok (.invokestatic 72, 3) := by decide +kernel
theorem dX10_judge_17 : decode cX10_judge 17 = .ok (.ifCond .ne 5, 3) := by decide +kernel
theorem dX10_judge_20 : decode cX10_judge 20 = .ok (.iconst (-1), 1) := by decide +kernel
theorem dX10_judge_21 : decode cX10_judge 21 = .ok (.ireturn, 1) := by decide +kernel
theorem dX10_judge_22 : decode cX10_judge 22 = .ok (.aload_n 0, 1) := by decide +kernel
theorem dX10_judge_23 : decode cX10_judge 23 = .ok (.getfield 37, 3) := by decide +kernel
theorem dX10_judge_26 : decode cX10_judge 26 = .ok (.aload_n 0, 1) := by decide +kernel
theorem dX10_judge_27 : decode cX10_judge 27 = .ok (.getfield 11, 3) := by decide +kernel
theorem dX10_judge_30 : decode cX10_judge 30 = .ok (.aload_n 0, 1) := by decide +kernel
theorem dX10_judge_31 : decode cX10_judge 31 = .ok (.getfield 30, 3) := by decide +kernel
theorem dX10_judge_34 : decode cX10_judge 34 = .ok (.getfield 189, 3) := by decide +kernel
theorem dX10_judge_37 : decode cX10_judge 37 = .ok (.aload_n 0, 1) := by decide +kernel
theorem dX10_judge_38 : decode cX10_judge 38 = .ok (.getfield 30, 3) := by decide +kernel
theorem dX10_judge_41 : decode cX10_judge 41 = .ok (.getfield 192, 3) := by decide +kernel
theorem dX10_judge_44 : decode cX10_judge 44 = .ok (.invokevirtual 195, 3) := by decide +kernel
theorem dX10_judge_47 : decode cX10_judge 47 = .ok (.istore_n 2, 1) := by decide +kernel
theorem dX10_judge_48 : decode cX10_judge 48 = .ok (.aload_n 0, 1) := by decide +kernel
theorem dX10_judge_49 : decode cX10_judge 49 = .ok (.invokevirtual 212, 3) := by decide +kernel
theorem dX10_judge_52 : decode cX10_judge 52 = .ok (.astore_n 3, 1) := by decide +kernel
theorem dX10_judge_53 : decode cX10_judge 53 = .ok (.aload_n 0, 1) := by decide +kernel
theorem dX10_judge_54 : decode cX10_judge 54 = .ok (.iload_n 2, 1) := by decide +kernel
theorem dX10_judge_55 : decode cX10_judge 55 = .ok (.aload_n 3, 1) := by decide +kernel
theorem dX10_judge_56 : decode cX10_judge 56 = .ok (.invokevirtual 216, 3) := by decide +kernel
theorem dX10_judge_59 : decode cX10_judge 59 = .ok (.ifCond .ne 11, 3) := by decide +kernel
theorem dX10_judge_62 : decode cX10_judge 62 = .ok (.aload_n 0, 1) := by decide +kernel
theorem dX10_judge_63 : decode cX10_judge 63 = .ok (.aload_n 3, 1) := by decide +kernel
theorem dX10_judge_64 : decode cX10_judge 64 = .ok (.invokevirtual 220, 3) := by decide +kernel
theorem dX10_judge_67 : decode cX10_judge 67 = .ok (.ifCond .eq 7, 3) := by decide +kernel
theorem dX10_judge_70 : decode cX10_judge 70 = .ok (.iconst 1, 1) := by decide +kernel
theorem dX10_judge_71 : decode cX10_judge 71 = .ok (.goto 4, 3) := by decide +kernel
theorem dX10_judge_74 : decode cX10_judge 74 = .ok (.iconst 0, 1) := by decide +kernel
theorem dX10_judge_75 : decode cX10_judge 75 = .ok (.istore 4, 2) := by decide +kernel
theorem dX10_judge_77 : decode cX10_judge 77 = .ok (.iload 4, 2) := by decide +kernel
theorem dX10_judge_79 : decode cX10_judge 79 = .ok (.ifCond .eq 7, 3) := by decide +kernel
theorem dX10_judge_82 : decode cX10_judge 82 = .ok (.iconst 0, 1) := by decide +kernel
theorem dX10_judge_83 : decode cX10_judge 83 = .ok (.goto 9, 3) := by decide +kernel
theorem dX10_judge_86 : decode cX10_judge 86 = .ok (.aload_n 0, 1) := by decide +kernel
theorem dX10_judge_87 : decode cX10_judge 87 = .ok (.aload_n 3, 1) := by decide +kernel
theorem dX10_judge_88 : decode cX10_judge 88 = .ok (.iload_n 1, 1) := by decide +kernel
theorem dX10_judge_89 : decode cX10_judge 89 = .ok (.invokevirtual 224, 3) := by decide +kernel
theorem dX10_judge_92 : decode cX10_judge 92 = .ok (.istore 5, 2) := by decide +kernel
theorem dX10_judge_94 : decode cX10_judge 94 = .ok (.aload_n 0, 1) := by decide +kernel
theorem dX10_judge_95 : decode cX10_judge 95 = .ok (.aload_n 0, 1) := by decide +kernel
theorem dX10_judge_96 : decode cX10_judge 96 = .ok (.getfield 11, 3) := by decide +kernel
theorem dX10_judge_99 : decode cX10_judge 99 = .ok (.aload_n 0, 1) := by decide +kernel
theorem dX10_judge_100 : decode cX10_judge 100 = .ok (.getfield 30, 3) := by decide +kernel
theorem dX10_judge_103 : decode cX10_judge 103 = .ok (.getfield 228, 3) := by decide +kernel
theorem dX10_judge_106 : decode cX10_judge 106 = .ok (.aaload, 1) := by decide +kernel
theorem dX10_judge_107 : decode cX10_judge 107 = .ok (.getfield 66, 3) := by decide +kernel
theorem dX10_judge_110 : decode cX10_judge 110 = .ok (.aload_n 0, 1) := by decide +kernel
theorem dX10_judge_111 : decode cX10_judge 111 = .ok (.getfield 30, 3) := by decide +kernel
theorem dX10_judge_114 : decode cX10_judge 114 = .ok (.getfield 192, 3) := by decide +kernel
theorem dX10_judge_117 : decode cX10_judge 117 = .ok (.iload 5, 2) := by decide +kernel
theorem dX10_judge_119 : decode cX10_judge 119 = .ok (.iload_n 2, 1) := by decide +kernel
theorem dX10_judge_120 : decode cX10_judge 120 = .ok (.invokevirtual 231, 3) := by decide +kernel
theorem dX10_judge_123 : decode cX10_judge 123 = .ok (.iload 4, 2) := by decide +kernel
theorem dX10_judge_125 : decode cX10_judge 125 = .ok (.ifCond .eq 10, 3) := by decide +kernel
theorem dX10_judge_128 : decode cX10_judge 128 = .ok (.iload 5, 2) := by decide +kernel
theorem dX10_judge_130 : decode cX10_judge 130 = .ok (.iconst 4, 1) := by decide +kernel
theorem dX10_judge_131 : decode cX10_judge 131 = .ok (.iadd, 1) := by decide +kernel
theorem dX10_judge_132 : decode cX10_judge 132 = .ok (.goto 5, 3) := by decide +kernel
theorem dX10_judge_135 : decode cX10_judge 135 = .ok (.iload 5, 2) := by decide +kernel
theorem dX10_judge_137 : decode cX10_judge 137 = .ok (.ireturn, 1) := by decide +kernel
theorem dX10_policyOfAuthor_0 : decode cX10_policyOfAuthor 0 = .ok (.aload_n 0, 1) := by decide +kernel
theorem dX10_policyOfAuthor_1 : decode cX10_policyOfAuthor 1 = .ok (.getfield 11, 3) := by decide +kernel
theorem dX10_policyOfAuthor_4 : decode cX10_policyOfAuthor 4 = .ok (.aload_n 0, 1) := by decide +kernel
theorem dX10_policyOfAuthor_5 : decode cX10_policyOfAuthor 5 = .ok (.getfield 30, 3) := by decide +kernel
theorem dX10_policyOfAuthor_8 : decode cX10_policyOfAuthor 8 = .ok (.getfield 228, 3) := by decide +kernel
theorem dX10_policyOfAuthor_11 : decode cX10_policyOfAuthor 11 = .ok (.aaload, 1) := by decide +kernel
theorem dX10_policyOfAuthor_12 : decode cX10_policyOfAuthor 12 = .ok (.astore_n 1, 1) := by decide +kernel
theorem dX10_policyOfAuthor_13 : decode cX10_policyOfAuthor 13 = .ok (.aload_n 0, 1) := by decide +kernel
theorem dX10_policyOfAuthor_14 : decode cX10_policyOfAuthor 14 = .ok (.getfield 11, 3) := by decide +kernel
theorem dX10_policyOfAuthor_17 : decode cX10_policyOfAuthor 17 = .ok (.aload_n 1, 1) := by decide +kernel
theorem dX10_policyOfAuthor_18 : decode cX10_policyOfAuthor 18 = .ok (.getfield 66, 3) := by decide +kernel
theorem dX10_policyOfAuthor_21 : decode cX10_policyOfAuthor 21 = .ok (.aaload, 1) := by decide +kernel
theorem dX10_policyOfAuthor_22 : decode cX10_policyOfAuthor 22 = .ok (.astore_n 2, 1) := by decide +kernel
theorem dX10_policyOfAuthor_23 : decode cX10_policyOfAuthor 23 = .ok (.aload_n 1, 1) := by decide +kernel
theorem dX10_policyOfAuthor_24 : decode cX10_policyOfAuthor 24 = .ok (.getfield 69, 3) := by decide +kernel
theorem dX10_policyOfAuthor_27 : decode cX10_policyOfAuthor 27 = .ok (.ifCond .ne 10, 3) := by decide +kernel
theorem dX10_policyOfAuthor_30 : decode cX10_policyOfAuthor 30 = .ok (.aload_n 2, 1) := by decide +kernel
theorem dX10_policyOfAuthor_31 : decode cX10_policyOfAuthor 31 = .ok (.getfield 69, 3) := by decide +kernel
theorem dX10_policyOfAuthor_34 : decode cX10_policyOfAuthor 34 = .ok (.ifCond .eq 8, 3) := by decide +kernel
theorem dX10_policyOfAuthor_37 : decode cX10_policyOfAuthor 37 = .ok (.aload_n 0, 1) := by decide +kernel
theorem dX10_policyOfAuthor_38 : decode cX10_policyOfAuthor 38 = .ok (.getfield 23, 3) := by decide +kernel
theorem dX10_policyOfAuthor_41 : decode cX10_policyOfAuthor 41 = .ok (.areturn, 1) := by decide +kernel
theorem dX10_policyOfAuthor_42 : decode cX10_policyOfAuthor 42 = .ok (.aload_n 1, 1) := by decide +kernel
theorem dX10_policyOfAuthor_43 : decode cX10_policyOfAuthor 43 = .ok (.getfield 112, 3) := by decide +kernel
theorem dX10_policyOfAuthor_46 : decode cX10_policyOfAuthor 46 = .ok (.getfield 115, 3) := by decide +kernel
theorem dX10_policyOfAuthor_49 : decode cX10_policyOfAuthor 49 = .ok (.ifCond .eq 8, 3) := by decide +kernel
theorem dX10_policyOfAuthor_52 : decode cX10_policyOfAuthor 52 = .ok (.aload_n 1, 1) := by decide +kernel
theorem dX10_policyOfAuthor_53 : decode cX10_policyOfAuthor 53 = .ok (.getfield 112, 3) := by decide +kernel
theorem dX10_policyOfAuthor_56 : decode cX10_policyOfAuthor 56 = .ok (.areturn, 1) := by decide +kernel
theorem dX10_policyOfAuthor_57 : decode cX10_policyOfAuthor 57 = .ok (.aload_n 2, 1) := by decide +kernel
theorem dX10_policyOfAuthor_58 : decode cX10_policyOfAuthor 58 = .ok (.getfield 112, 3) := by decide +kernel
theorem dX10_policyOfAuthor_61 : decode cX10_policyOfAuthor 61 = .ok (.getfield 115, 3) := by decide +kernel
theorem dX10_policyOfAuthor_64 : decode cX10_policyOfAuthor 64 = .ok (.ifCond .eq 10, 3) := by decide +kernel
theorem dX10_policyOfAuthor_67 : decode cX10_policyOfAuthor 67 = .ok (.aload_n 2, 1) := by decide +kernel
theorem dX10_policyOfAuthor_68 : decode cX10_policyOfAuthor 68 = .ok (.getfield 112, 3) := by decide +kernel
theorem dX10_policyOfAuthor_71 : decode cX10_policyOfAuthor 71 = .ok (.goto 7, 3) := by decide +kernel
theorem dX10_policyOfAuthor_74 : decode cX10_policyOfAuthor 74 = .ok (.aload_n 0, 1) := by decide +kernel
theorem dX10_policyOfAuthor_75 : decode cX10_policyOfAuthor 75 = .ok (.getfield 23, 3) := by decide +kernel
theorem dX10_policyOfAuthor_78 : decode cX10_policyOfAuthor 78 = .ok (.areturn, 1) := by decide +kernel
theorem dX10_senderAgrees_0 : decode cX10_senderAgrees 0 = .ok (.iload_n 1, 1) := by decide +kernel
theorem dX10_senderAgrees_1 : decode cX10_senderAgrees 1 = .ok (.iconst 1, 1) := by decide +kernel
theorem dX10_senderAgrees_2 : decode cX10_senderAgrees 2 = .ok (.if_icmp .ne 35, 3) := by decide +kernel
theorem dX10_senderAgrees_5 : decode cX10_senderAgrees 5 = .ok (.aload_n 0, 1) := by decide +kernel
theorem dX10_senderAgrees_6 : decode cX10_senderAgrees 6 = .ok (.aload_n 0, 1) := by decide +kernel
theorem dX10_senderAgrees_7 : decode cX10_senderAgrees 7 = .ok (.getfield 30, 3) := by decide +kernel
theorem dX10_senderAgrees_10 : decode cX10_senderAgrees 10 = .ok (.getfield 189, 3) := by decide +kernel
theorem dX10_senderAgrees_13 : decode cX10_senderAgrees 13 = .ok (.aload_n 2, 1) := by decide +kernel
theorem dX10_senderAgrees_14 : decode cX10_senderAgrees 14 = .ok (.getfield 300, 3) := by decide +kernel
theorem dX10_senderAgrees_17 : decode cX10_senderAgrees 17 = .ok (.iconst 2, 1) := by decide +kernel
theorem dX10_senderAgrees_18 : decode cX10_senderAgrees 18 = .ok (.iand, 1) := by decide +kernel
theorem dX10_senderAgrees_19 : decode cX10_senderAgrees 19 = .ok (.ifCond .eq 7, 3) := by decide +kernel
theorem dX10_senderAgrees_22 : decode cX10_senderAgrees 22 = .ok (.iconst 1, 1) := by decide +kernel
theorem dX10_senderAgrees_23 : decode cX10_senderAgrees 23 = .ok (.goto 4, 3) := by decide +kernel
theorem dX10_senderAgrees_26 : decode cX10_senderAgrees 26 = .ok (.iconst 0, 1) := by decide +kernel
theorem dX10_senderAgrees_27 : decode cX10_senderAgrees 27 = .ok (.invokevirtual 303, 3) := by decide +kernel
theorem dX10_senderAgrees_30 : decode cX10_senderAgrees 30 = .ok (.ifCond .eq 7, 3) := by decide +kernel
theorem dX10_senderAgrees_33 : decode cX10_senderAgrees 33 = .ok (.iconst 1, 1) := by decide +kernel
theorem dX10_senderAgrees_34 : decode cX10_senderAgrees 34 = .ok (.goto 4, 3) := by decide +kernel
theorem dX10_senderAgrees_37 : decode cX10_senderAgrees 37 = .ok (.iconst 0, 1) := by decide +kernel
theorem dX10_senderAgrees_38 : decode cX10_senderAgrees 38 = .ok (.ireturn, 1) := by decide +kernel
theorem dX10_isAligned_0 : decode cX10_isAligned 0 = .ok (.iload_n 1, 1) := by decide +kernel
theorem dX10_isAligned_1 : decode cX10_isAligned 1 = .ok (.aload_n 0, 1) := by decide +kernel
theorem dX10_isAligned_2 : decode cX10_isAligned 2 = .ok (.getfield 30, 3) := by decide +kernel
theorem dX10_isAligned_5 : decode cX10_isAligned 5 = .ok (.getfield 228, 3) := by decide +kernel
theorem dX10_isAligned_8 : decode cX10_isAligned 8 = .ok (.if_icmp .eq 34, 3) := by decide +kernel
theorem dX10_isAligned_11 : decode cX10_isAligned 11 = .ok (.iload_n 2, 1) := by decide +kernel
theorem dX10_isAligned_12 : decode cX10_isAligned 12 = .ok (.ifCond .ne 34, 3) := by decide +kernel
theorem dX10_isAligned_15 : decode cX10_isAligned 15 = .ok (.aload_n 0, 1) := by decide +kernel
theorem dX10_isAligned_16 : decode cX10_isAligned 16 = .ok (.getfield 11, 3) := by decide +kernel
theorem dX10_isAligned_19 : decode cX10_isAligned 19 = .ok (.iload_n 1, 1) := by decide +kernel
theorem dX10_isAligned_20 : decode cX10_isAligned 20 = .ok (.aaload, 1) := by decide +kernel
theorem dX10_isAligned_21 : decode cX10_isAligned 21 = .ok (.getfield 66, 3) := by decide +kernel
theorem dX10_isAligned_24 : decode cX10_isAligned 24 = .ok (.aload_n 0, 1) := by decide +kernel
theorem dX10_isAligned_25 : decode cX10_isAligned 25 = .ok (.getfield 11, 3) := by decide +kernel
theorem dX10_isAligned_28 : decode cX10_isAligned 28 = .ok (.aload_n 0, 1) := by decide +kernel
theorem dX10_isAligned_29 : decode cX10_isAligned 29 = .ok (.getfield 30, 3) := by decide +kernel
theorem dX10_isAligned_32 : decode cX10_isAligned 32 = .ok (.getfield 228, 3) := by decide +kernel
theorem dX10_isAligned_35 : decode cX10_isAligned 35 = .ok (.aaload, 1) := by decide +kernel
theorem dX10_isAligned_36 : decode cX10_isAligned 36 = .ok (.getfield 66, 3) := by decide +kernel
theorem dX10_isAligned_39 : decode cX10_isAligned 39 = .ok (.if_icmp .ne 7, 3) := by decide +kernel
theorem dX10_isAligned_42 : decode cX10_isAligned 42 = .ok (.iconst 1, 1) := by decide +kernel
theorem dX10_isAligned_43 : decode cX10_isAligned 43 = .ok (.goto 4, 3) := by decide +kernel
theorem dX10_isAligned_46 : decode cX10_isAligned 46 = .ok (.iconst 0, 1) := by decide +kernel
theorem dX10_isAligned_47 : decode cX10_isAligned 47 = .ok (.ireturn, 1) := by decide +kernel
theorem dX10_signatureAgrees_0 : decode cX10_signatureAgrees 0 = .ok (.aload_n 1, 1) := by decide +kernel
theorem dX10_signatureAgrees_1 : decode cX10_signatureAgrees 1 = .ok (.getfield 300, 3) := by decide +kernel
theorem dX10_signatureAgrees_4 : decode cX10_signatureAgrees 4 = .ok (.iconst 1, 1) := by decide +kernel
theorem dX10_signatureAgrees_5 : decode cX10_signatureAgrees 5 = .ok (.iand, 1) := by decide +kernel
theorem dX10_signatureAgrees_6 : decode cX10_signatureAgrees 6 = .ok (.ifCond .eq 7, 3) := by decide +kernel
theorem dX10_signatureAgrees_9 : decode cX10_signatureAgrees 9 = .ok (.iconst 1, 1) := by decide +kernel
theorem dX10_signatureAgrees_10 : decode cX10_signatureAgrees 10 = .ok (.goto 4, 3) := by decide +kernel
theorem dX10_signatureAgrees_13 : decode cX10_signatureAgrees 13 = .ok (.iconst 0, 1) := by decide +kernel
theorem dX10_signatureAgrees_14 : decode cX10_signatureAgrees 14 = .ok (.istore_n 2, 1) := by decide +kernel
theorem dX10_signatureAgrees_15 : decode cX10_signatureAgrees 15 = .ok (.iconst 0, 1) := by decide +kernel
theorem dX10_signatureAgrees_16 : decode cX10_signatureAgrees 16 = .ok (.istore_n 3, 1) := by decide +kernel
theorem dX10_signatureAgrees_17 : decode cX10_signatureAgrees 17 = .ok (.iload_n 3, 1) := by decide +kernel
theorem dX10_signatureAgrees_18 : decode cX10_signatureAgrees 18 = .ok (.aload_n 0, 1) := by decide +kernel
theorem dX10_signatureAgrees_19 : decode cX10_signatureAgrees 19 = .ok (.getfield 30, 3) := by decide +kernel
theorem dX10_signatureAgrees_22 : decode cX10_signatureAgrees 22 = .ok (.getfield 173, 3) := by decide +kernel
theorem dX10_signatureAgrees_25 : decode cX10_signatureAgrees 25 = .ok (.if_icmp .ge 45, 3) := by decide +kernel
theorem dX10_signatureAgrees_28 : decode cX10_signatureAgrees 28 = .ok (.aload_n 0, 1) := by decide +kernel
theorem dX10_signatureAgrees_29 : decode cX10_signatureAgrees 29 = .ok (.getfield 30, 3) := by decide +kernel
theorem dX10_signatureAgrees_32 : decode cX10_signatureAgrees 32 = .ok (.getfield 179, 3) := by decide +kernel
theorem dX10_signatureAgrees_35 : decode cX10_signatureAgrees 35 = .ok (.iload_n 3, 1) := by decide +kernel
theorem dX10_signatureAgrees_36 : decode cX10_signatureAgrees 36 = .ok (.aaload, 1) := by decide +kernel
theorem dX10_signatureAgrees_37 : decode cX10_signatureAgrees 37 = .ok (.astore 4, 2) := by decide +kernel
theorem dX10_signatureAgrees_39 : decode cX10_signatureAgrees 39 = .ok (.aload_n 0, 1) := by decide +kernel
theorem dX10_signatureAgrees_40 : decode cX10_signatureAgrees 40 = .ok (.aload 4, 2) := by decide +kernel
theorem dX10_signatureAgrees_42 : decode cX10_signatureAgrees 42 = .ok (.getfield 249, 3) := by decide +kernel
theorem dX10_signatureAgrees_45 : decode cX10_signatureAgrees 45 = .ok (.iload_n 2, 1) := by decide +kernel
theorem dX10_signatureAgrees_46 : decode cX10_signatureAgrees 46 = .ok (.invokevirtual 303, 3) := by decide +kernel
theorem dX10_signatureAgrees_49 : decode cX10_signatureAgrees 49 = .ok (.ifCond .eq 15, 3) := by decide +kernel
theorem dX10_signatureAgrees_52 : decode cX10_signatureAgrees 52 = .ok (.aload_n 0, 1) := by decide +kernel
theorem dX10_signatureAgrees_53 : decode cX10_signatureAgrees 53 = .ok (.aload 4, 2) := by decide +kernel
theorem dX10_signatureAgrees_55 : decode cX10_signatureAgrees 55 = .ok (.invokevirtual 185, 3) := by decide +kernel
theorem dX10_signatureAgrees_58 : decode cX10_signatureAgrees 58 = .ok (.iconst 1, 1) := by decide +kernel
theorem dX10_signatureAgrees_59 : decode cX10_signatureAgrees 59 = .ok (.if_icmp .ne 5, 3) := by decide +kernel
theorem dX10_signatureAgrees_62 : decode cX10_signatureAgrees 62 = .ok (.iconst 1, 1) := by decide +kernel
theorem dX10_signatureAgrees_63 : decode cX10_signatureAgrees 63 = .ok (.ireturn, 1) := by decide +kernel
theorem dX10_signatureAgrees_64 : decode cX10_signatureAgrees 64 = .ok (.iinc 3 1, 3) := by decide +kernel
theorem dX10_signatureAgrees_67 : decode cX10_signatureAgrees 67 = .ok (.goto (-50), 3) := by decide +kernel
theorem dX10_signatureAgrees_70 : decode cX10_signatureAgrees 70 = .ok (.iconst 0, 1) := by decide +kernel
theorem dX10_signatureAgrees_71 : decode cX10_signatureAgrees 71 = .ok (.ireturn, 1) := by decide +kernel
theorem dX10_actionBy_0 : decode cX10_actionBy 0 = .ok (.aload_n 0, 1) := by decide +kernel
theorem dX10_actionBy_1 : decode cX10_actionBy 1 = .ok (.getfield 11, 3) := by decide +kernel
theorem dX10_actionBy_4 : decode cX10_actionBy 4 = .ok (.aload_n 0, 1) := by decide +kernel
theorem dX10_actionBy_5 : decode cX10_actionBy 5 = .ok (.getfield 30, 3) := by decide +kernel
theorem dX10_actionBy_8 : decode cX10_actionBy 8 = .ok (.getfield 228, 3) := by decide +kernel
theorem dX10_actionBy_11 : decode cX10_actionBy 11 = .ok (.aaload, 1) := by decide +kernel
theorem dX10_actionBy_12 : decode cX10_actionBy 12 = .ok (.getfield 112, 3) := by decide +kernel
theorem dX10_actionBy_15 : decode cX10_actionBy 15 = .ok (.getfield 115, 3) := by decide +kernel
theorem dX10_actionBy_18 : decode cX10_actionBy 18 = .ok (.ifCond .eq 10, 3) := by decide +kernel
theorem dX10_actionBy_21 : decode cX10_actionBy 21 = .ok (.aload_n 1, 1) := by decide +kernel
theorem dX10_actionBy_22 : decode cX10_actionBy 22 = .ok (.getfield 307, 3) := by decide +kernel
theorem dX10_actionBy_25 : decode cX10_actionBy 25 = .ok (.goto 7, 3) := by decide +kernel
theorem dX10_actionBy_28 : decode cX10_actionBy 28 = .ok (.aload_n 1, 1) := by decide +kernel
theorem dX10_actionBy_29 : decode cX10_actionBy 29 = .ok (.getfield 310, 3) := by decide +kernel
theorem dX10_actionBy_32 : decode cX10_actionBy 32 = .ok (.istore_n 3, 1) := by decide +kernel
theorem dX10_actionBy_33 : decode cX10_actionBy 33 = .ok (.iload_n 2, 1) := by decide +kernel
theorem dX10_actionBy_34 : decode cX10_actionBy 34 = .ok (.aload_n 1, 1) := by decide +kernel
theorem dX10_actionBy_35 : decode cX10_actionBy 35 = .ok (.getfield 313, 3) := by decide +kernel
theorem dX10_actionBy_38 : decode cX10_actionBy 38 = .ok (.if_icmp .lt 13, 3) := by decide +kernel
theorem dX10_actionBy_41 : decode cX10_actionBy 41 = .ok (.iload_n 3, 1) := by decide +kernel
theorem dX10_actionBy_42 : decode cX10_actionBy 42 = .ok (.ifCond .le 9, 3) := by decide +kernel
theorem dX10_actionBy_45 : decode cX10_actionBy 45 = .ok (.iload_n 3, 1) := by decide +kernel
theorem dX10_actionBy_46 : decode cX10_actionBy 46 = .ok (.iconst 1, 1) := by decide +kernel
theorem dX10_actionBy_47 : decode cX10_actionBy 47 = .ok (.isub, 1) := by decide +kernel
theorem dX10_actionBy_48 : decode cX10_actionBy 48 = .ok (.goto 4, 3) := by decide +kernel
theorem dX10_actionBy_51 : decode cX10_actionBy 51 = .ok (.iload_n 3, 1) := by decide +kernel
theorem dX10_actionBy_52 : decode cX10_actionBy 52 = .ok (.ireturn, 1) := by decide +kernel
theorem dX10_report_0 : decode cX10_report 0 = .ok (.iconst 0, 1) := by decide +kernel
theorem dX10_report_1 : decode cX10_report 1 = .ok (.istore 5, 2) := by decide +kernel
theorem dX10_report_3 : decode cX10_report 3 = .ok (.iload 5, 2) := by decide +kernel
theorem dX10_report_5 : decode cX10_report 5 = .ok (.aload_n 0, 1) := by decide +kernel
theorem dX10_report_6 : decode cX10_report 6 = .ok (.getfield 48, 3) := by decide +kernel
theorem dX10_report_9 : decode cX10_report 9 = .ok (.if_icmp .ge 44, 3) := by decide +kernel
theorem dX10_report_12 : decode cX10_report 12 = .ok (.aload_n 0, 1) := by decide +kernel
theorem dX10_report_13 : decode cX10_report 13 = .ok (.getfield 43, 3) := by decide +kernel
theorem dX10_report_16 : decode cX10_report 16 = .ok (.iload 5, 2) := by decide +kernel
theorem dX10_report_18 : decode cX10_report 18 = .ok (.aaload, 1) := by decide +kernel
theorem dX10_report_19 : decode cX10_report 19 = .ok (.iload_n 1, 1) := by decide +kernel
theorem dX10_report_20 : decode cX10_report 20 = .ok (.iload_n 2, 1) := by decide +kernel
theorem dX10_report_21 : decode cX10_report 21 = .ok (.iload_n 3, 1) := by decide +kernel
theorem dX10_report_22 : decode cX10_report 22 = .ok (.iload 4, 2) := by decide +kernel
theorem dX10_report_24 : decode cX10_report 24 = .ok (.invokevirtual 316, 3) := by decide +kernel
theorem dX10_report_27 : decode cX10_report 27 = .ok (.ifCond .eq 20, 3) := by decide +kernel
theorem dX10_report_30 : decode cX10_report 30 = .ok (.aload_n 0, 1) := by decide +kernel
theorem dX10_report_31 : decode cX10_report 31 = .ok (.getfield 43, 3) := by decide +kernel
theorem dX10_report_34 : decode cX10_report 34 = .ok (.iload 5, 2) := by decide +kernel
theorem dX10_report_36 : decode cX10_report 36 = .ok (.aaload, 1) := by decide +kernel
theorem dX10_report_37 : decode cX10_report 37 = .ok (.dup, 1) := by decide +kernel
theorem dX10_report_38 : decode cX10_report 38 = .ok (.getfield 320, 3) := by decide +kernel
theorem dX10_report_41 : decode cX10_report 41 = .ok (.iconst 1, 1) := by decide +kernel
theorem dX10_report_42 : decode cX10_report 42 = .ok (.iadd, 1) := by decide +kernel
theorem dX10_report_43 : decode cX10_report 43 = .ok (.putfield 320, 3) := by decide +kernel
theorem dX10_report_46 : decode cX10_report 46 = .ok (.return_, 1) := by decide +kernel
theorem dX10_report_47 : decode cX10_report 47 = .ok (.iinc 5 1, 3) := by decide +kernel
theorem dX10_report_50 : decode cX10_report 50 = .ok (.goto (-47), 3) := by decide +kernel
theorem dX10_report_53 : decode cX10_report 53 = .ok (.aload_n 0, 1) := by decide +kernel
theorem dX10_report_54 : decode cX10_report 54 = .ok (.getfield 48, 3) := by decide +kernel
theorem dX10_report_57 : decode cX10_report 57 = .ok (.bipush 12, 2) := by decide +kernel
theorem dX10_report_59 : decode cX10_report 59 = .ok (.if_icmp .ge 30, 3) := by decide +kernel
theorem dX10_report_62 : decode cX10_report 62 = .ok (.aload_n 0, 1) := by decide +kernel
theorem dX10_report_63 : decode cX10_report 63 = .ok (.getfield 43, 3) := by decide +kernel
theorem dX10_report_66 : decode cX10_report 66 = .ok (.aload_n 0, 1) := by decide +kernel
theorem dX10_report_67 : decode cX10_report 67 = .ok (.getfield 48, 3) := by decide +kernel
theorem dX10_report_70 : decode cX10_report 70 = .ok (.aaload, 1) := by decide +kernel
theorem dX10_report_71 : decode cX10_report 71 = .ok (.iload_n 1, 1) := by decide +kernel
theorem dX10_report_72 : decode cX10_report 72 = .ok (.iload_n 2, 1) := by decide +kernel
theorem dX10_report_73 : decode cX10_report 73 = .ok (.iload_n 3, 1) := by decide +kernel
theorem dX10_report_74 : decode cX10_report 74 = .ok (.iload 4, 2) := by decide +kernel
theorem dX10_report_76 : decode cX10_report 76 = .ok (.invokevirtual 323, 3) := by decide +kernel
theorem dX10_report_79 : decode cX10_report 79 = .ok (.aload_n 0, 1) := by decide +kernel
theorem dX10_report_80 : decode cX10_report 80 = .ok (.dup, 1) := by decide +kernel
theorem dX10_report_81 : decode cX10_report 81 = .ok (.getfield 48, 3) := by decide +kernel
theorem dX10_report_84 : decode cX10_report 84 = .ok (.iconst 1, 1) := by decide +kernel
theorem dX10_report_85 : decode cX10_report 85 = .ok (.iadd, 1) := by decide +kernel
theorem dX10_report_86 : decode cX10_report 86 = .ok (.putfield 48, 3) := by decide +kernel
theorem dX10_report_89 : decode cX10_report 89 = .ok (.return_, 1) := by decide +kernel
theorem dX6_isFor_0 : decode cX6_isFor 0 = .ok (.aload_n 0, 1) := by decide +kernel
theorem dX6_isFor_1 : decode cX6_isFor 1 = .ok (.getfield 9, 3) := by decide +kernel
theorem dX6_isFor_4 : decode cX6_isFor 4 = .ok (.iload_n 1, 1) := by decide +kernel
theorem dX6_isFor_5 : decode cX6_isFor 5 = .ok (.if_icmp .ne 32, 3) := by decide +kernel
theorem dX6_isFor_8 : decode cX6_isFor 8 = .ok (.aload_n 0, 1) := by decide +kernel
theorem dX6_isFor_9 : decode cX6_isFor 9 = .ok (.getfield 15, 3) := by decide +kernel
theorem dX6_isFor_12 : decode cX6_isFor 12 = .ok (.iload_n 2, 1) := by decide +kernel
theorem dX6_isFor_13 : decode cX6_isFor 13 = .ok (.if_icmp .ne 24, 3) := by decide +kernel
theorem dX6_isFor_16 : decode cX6_isFor 16 = .ok (.aload_n 0, 1) := by decide +kernel
theorem dX6_isFor_17 : decode cX6_isFor 17 = .ok (.getfield 18, 3) := by decide +kernel
theorem dX6_isFor_20 : decode cX6_isFor 20 = .ok (.iload_n 3, 1) := by decide +kernel
theorem dX6_isFor_21 : decode cX6_isFor 21 = .ok (.if_icmp .ne 16, 3) := by decide +kernel
theorem dX6_isFor_24 : decode cX6_isFor 24 = .ok (.aload_n 0, 1) := by decide +kernel
theorem dX6_isFor_25 : decode cX6_isFor 25 = .ok (.getfield 21, 3) := by decide +kernel
theorem dX6_isFor_28 : decode cX6_isFor 28 = .ok (.iload 4, 2) := by decide +kernel
theorem dX6_isFor_30 : decode cX6_isFor 30 = .ok (.if_icmp .ne 7, 3) := by decide +kernel
theorem dX6_isFor_33 : decode cX6_isFor 33 = .ok (.iconst 1, 1) := by decide +kernel
theorem dX6_isFor_34 : decode cX6_isFor 34 = .ok (.goto 4, 3) := by decide +kernel
theorem dX6_isFor_37 : decode cX6_isFor 37 = .ok (.iconst 0, 1) := by decide +kernel
theorem dX6_isFor_38 : decode cX6_isFor 38 = .ok (.ireturn, 1) := by decide +kernel
theorem dX6_fill_0 : decode cX6_fill 0 = .ok (.aload_n 0, 1) := by decide +kernel
theorem dX6_fill_1 : decode cX6_fill 1 = .ok (.iload_n 1, 1) := by decide +kernel
theorem dX6_fill_2 : decode cX6_fill 2 = .ok (.putfield 9, 3) := by decide +kernel
theorem dX6_fill_5 : decode cX6_fill 5 = .ok (.aload_n 0, 1) := by decide +kernel
theorem dX6_fill_6 : decode cX6_fill 6 = .ok (.iload_n 2, 1) := by decide +kernel
theorem dX6_fill_7 : decode cX6_fill 7 = .ok (.putfield 15, 3) := by decide +kernel
theorem dX6_fill_10 : decode cX6_fill 10 = .ok (.aload_n 0, 1) := by decide +kernel
theorem dX6_fill_11 : decode cX6_fill 11 = .ok (.iload_n 3, 1) := by decide +kernel
theorem dX6_fill_12 : decode cX6_fill 12 = .ok (.putfield 18, 3) := by decide +kernel
theorem dX6_fill_15 : decode cX6_fill 15 = .ok (.aload_n 0, 1) := by decide +kernel
theorem dX6_fill_16 : decode cX6_fill 16 = .ok (.iload 4, 2) := by decide +kernel
theorem dX6_fill_18 : decode cX6_fill 18 = .ok (.putfield 21, 3) := by decide +kernel
theorem dX6_fill_21 : decode cX6_fill 21 = .ok (.aload_n 0, 1) := by decide +kernel
theorem dX6_fill_22 : decode cX6_fill 22 = .ok (.iconst 1, 1) := by decide +kernel
theorem dX6_fill_23 : decode cX6_fill 23 = .ok (.putfield 24, 3) := by decide +kernel
theorem dX6_fill_26 : decode cX6_fill 26 = .ok (.return_, 1) := by decide +kernel
theorem dX10_row_0 : decode cX10_row 0 = .ok (.iload_n 1, 1) := by decide +kernel
theorem dX10_row_1 : decode cX10_row 1 = .ok (.iconst 0, 1) := by decide +kernel
theorem dX10_row_2 : decode cX10_row 2 = .ok (.aload_n 0, 1) := by decide +kernel
theorem dX10_row_3 : decode cX10_row 3 = .ok (.getfield 48, 3) := by decide +kernel
theorem dX10_row_6 : decode cX10_row 6 = .ok (.iconst 1, 1) := by decide +kernel
theorem dX10_row_7 : decode cX10_row 7 = .ok (.isub, 1) := by decide +kernel
theorem dX10_row_8 : decode cX10_row 8 = .ok (.invokestatic 72, 3) := by decide +kernel
theorem dX10_row_11 : decode cX10_row 11 = .ok (.ifCond .eq 16, 3) := by decide +kernel
theorem dX10_row_14 : decode cX10_row 14 = .ok (.aload_n 0, 1) := by decide +kernel
theorem dX10_row_15 : decode cX10_row 15 = .ok (.getfield 43, 3) := by decide +kernel
theorem dX10_row_18 : decode cX10_row 18 = .ok (.iload_n 1, 1) := by decide +kernel
theorem dX10_row_19 : decode cX10_row 19 = .ok (.aaload, 1) := by decide +kernel
theorem dX10_row_20 : decode cX10_row 20 = .ok (.iload_n 2, 1) := by decide +kernel
theorem dX10_row_21 : decode cX10_row 21 = .ok (.invokevirtual 234, 3) := by decide +kernel
theorem dX10_row_24 : decode cX10_row 24 = .ok (.goto 4, 3) := by decide +kernel
theorem dX10_row_27 : decode cX10_row 27 = .ok (.iconst (-1), 1) := by decide +kernel
theorem dX10_row_28 : decode cX10_row 28 = .ok (.ireturn, 1) := by decide +kernel
theorem dX6_fieldAt_0 : decode cX6_fieldAt 0 = .ok (.iload_n 1, 1) := by decide +kernel
theorem dX6_fieldAt_1 : decode cX6_fieldAt 1 = .ok (.tableswitch 60 0 4 #[35, 40, 45, 50, 55], 35) := by decide +kernel
theorem dX6_fieldAt_36 : decode cX6_fieldAt 36 = .ok (.aload_n 0, 1) := by decide +kernel
theorem dX6_fieldAt_37 : decode cX6_fieldAt 37 = .ok (.getfield 9, 3) := by decide +kernel
theorem dX6_fieldAt_40 : decode cX6_fieldAt 40 = .ok (.ireturn, 1) := by decide +kernel
theorem dX6_fieldAt_41 : decode cX6_fieldAt 41 = .ok (.aload_n 0, 1) := by decide +kernel
theorem dX6_fieldAt_42 : decode cX6_fieldAt 42 = .ok (.getfield 15, 3) := by decide +kernel
theorem dX6_fieldAt_45 : decode cX6_fieldAt 45 = .ok (.ireturn, 1) := by decide +kernel
theorem dX6_fieldAt_46 : decode cX6_fieldAt 46 = .ok (.aload_n 0, 1) := by decide +kernel
theorem dX6_fieldAt_47 : decode cX6_fieldAt 47 = .ok (.getfield 18, 3) := by decide +kernel
theorem dX6_fieldAt_50 : decode cX6_fieldAt 50 = .ok (.ireturn, 1) := by decide +kernel
theorem dX6_fieldAt_51 : decode cX6_fieldAt 51 = .ok (.aload_n 0, 1) := by decide +kernel
theorem dX6_fieldAt_52 : decode cX6_fieldAt 52 = .ok (.getfield 21, 3) := by decide +kernel
theorem dX6_fieldAt_55 : decode cX6_fieldAt 55 = .ok (.ireturn, 1) := by decide +kernel
theorem dX6_fieldAt_56 : decode cX6_fieldAt 56 = .ok (.aload_n 0, 1) := by decide +kernel
theorem dX6_fieldAt_57 : decode cX6_fieldAt 57 = .ok (.getfield 24, 3) := by decide +kernel
theorem dX6_fieldAt_60 : decode cX6_fieldAt 60 = .ok (.ireturn, 1) := by decide +kernel
theorem dX6_fieldAt_61 : decode cX6_fieldAt 61 = .ok (.iconst (-1), 1) := by decide +kernel
theorem dX6_fieldAt_62 : decode cX6_fieldAt 62 = .ok (.ireturn, 1) := by decide +kernel
theorem dX10_tick_0 : decode cX10_tick 0 = .ok (.iload_n 1, 1) := by decide +kernel
theorem dX10_tick_1 : decode cX10_tick 1 = .ok (.iconst 0, 1) := by decide +kernel
theorem dX10_tick_2 : decode cX10_tick 2 = .ok (.sipush 1000, 3) := by decide +kernel
theorem dX10_tick_5 : decode cX10_tick 5 = .ok (.invokestatic 72, 3) := by decide +kernel
theorem dX10_tick_8 : decode cX10_tick 8 = .ok (.ifCond .ne 5, 3) := by decide +kernel
theorem dX10_tick_11 : decode cX10_tick 11 = .ok (.iconst (-1), 1) := by decide +kernel
theorem dX10_tick_12 : decode cX10_tick 12 = .ok (.ireturn, 1) := by decide +kernel
theorem dX10_tick_13 : decode cX10_tick 13 = .ok (.aload_n 0, 1) := by decide +kernel
theorem dX10_tick_14 : decode cX10_tick 14 = .ok (.dup, 1) := by decide +kernel
theorem dX10_tick_15 : decode cX10_tick 15 = .ok (.getfield 51, 3) := by decide +kernel
theorem dX10_tick_18 : decode cX10_tick 18 = .ok (.iload_n 1, 1) := by decide +kernel
theorem dX10_tick_19 : decode cX10_tick 19 = .ok (.iadd, 1) := by decide +kernel
theorem dX10_tick_20 : decode cX10_tick 20 = .ok (.putfield 51, 3) := by decide +kernel
theorem dX10_tick_23 : decode cX10_tick 23 = .ok (.aload_n 0, 1) := by decide +kernel
theorem dX10_tick_24 : decode cX10_tick 24 = .ok (.getfield 51, 3) := by decide +kernel
theorem dX10_tick_27 : decode cX10_tick 27 = .ok (.ireturn, 1) := by decide +kernel
theorem dX11_init_0 : decode cX11_init 0 = .ok (.aload_n 0, 1) := by decide +kernel
theorem dX11_init_1 : decode cX11_init 1 = .ok (.invokespecial 1, 3) := by decide +kernel
theorem dX11_init_4 : decode cX11_init 4 = .ok (.aload_n 0, 1) := by decide +kernel
theorem dX11_init_5 : decode cX11_init 5 = .ok (.bipush 20, 2) := by decide +kernel
theorem dX11_init_7 : decode cX11_init 7 = .ok (.newarray .int, 2) := by decide +kernel
theorem dX11_init_9 : decode cX11_init 9 = .ok (.putfield 7, 3) := by decide +kernel
theorem dX11_init_12 : decode cX11_init 12 = .ok (.aload_n 0, 1) := by decide +kernel
theorem dX11_init_13 : decode cX11_init 13 = .ok (.bipush 20, 2) := by decide +kernel
theorem dX11_init_15 : decode cX11_init 15 = .ok (.newarray .boolean, 2) := by decide +kernel
theorem dX11_init_17 : decode cX11_init 17 = .ok (.putfield 13, 3) := by decide +kernel
theorem dX11_init_20 : decode cX11_init 20 = .ok (.aload_n 0, 1) := by decide +kernel
theorem dX11_init_21 : decode cX11_init 21 = .ok (.bipush 20, 2) := by decide +kernel
theorem dX11_init_23 : decode cX11_init 23 = .ok (.newarray .boolean, 2) := by decide +kernel
theorem dX11_init_25 : decode cX11_init 25 = .ok (.putfield 17, 3) := by decide +kernel
theorem dX11_init_28 : decode cX11_init 28 = .ok (.aload_n 0, 1) := by decide +kernel
theorem dX11_init_29 : decode cX11_init 29 = .ok (.bipush 80, 2) := by decide +kernel
theorem dX11_init_31 : decode cX11_init 31 = .ok (.newarray .int, 2) := by decide +kernel
theorem dX11_init_33 : decode cX11_init 33 = .ok (.putfield 20, 3) := by decide +kernel
theorem dX11_init_36 : decode cX11_init 36 = .ok (.aload_n 0, 1) := by decide +kernel
theorem dX11_init_37 : decode cX11_init 37 = .ok (.bipush 40, 2) := by decide +kernel
theorem dX11_init_39 : decode cX11_init 39 = .ok (.newarray .int, 2) := by decide +kernel
theorem dX11_init_41 : decode cX11_init 41 = .ok (.putfield 23, 3) := by decide +kernel
theorem dX11_init_44 : decode cX11_init 44 = .ok (.aload_n 0, 1) := by decide +kernel
theorem dX11_init_45 : decode cX11_init 45 = .ok (.bipush 20, 2) := by decide +kernel
theorem dX11_init_47 : decode cX11_init 47 = .ok (.newarray .boolean, 2) := by decide +kernel
theorem dX11_init_49 : decode cX11_init 49 = .ok (.putfield 26, 3) := by decide +kernel
theorem dX11_init_52 : decode cX11_init 52 = .ok (.aload_n 0, 1) := by decide +kernel
theorem dX11_init_53 : decode cX11_init 53 = .ok (.bipush 20, 2) := by decide +kernel
theorem dX11_init_55 : decode cX11_init 55 = .ok (.newarray .int, 2) := by decide +kernel
theorem dX11_init_57 : decode cX11_init 57 = .ok (.putfield 29, 3) := by decide +kernel
theorem dX11_init_60 : decode cX11_init 60 = .ok (.aload_n 0, 1) := by decide +kernel
theorem dX11_init_61 : decode cX11_init 61 = .ok (.bipush 120, 2) := by decide +kernel
theorem dX11_init_63 : decode cX11_init 63 = .ok (.newarray .int, 2) := by decide +kernel
theorem dX11_init_65 : decode cX11_init 65 = .ok (.putfield 32, 3) := by decide +kernel
theorem dX11_init_68 : decode cX11_init 68 = .ok (.aload_n 0, 1) := by decide +kernel
theorem dX11_init_69 : decode cX11_init 69 = .ok (.bipush 120, 2) := by decide +kernel
theorem dX11_init_71 : decode cX11_init 71 = .ok (.newarray .int, 2) := by decide +kernel
theorem dX11_init_73 : decode cX11_init 73 = .ok (.putfield 35, 3) := by decide +kernel
theorem dX11_init_76 : decode cX11_init 76 = .ok (.aload_n 0, 1) := by decide +kernel
theorem dX11_init_77 : decode cX11_init 77 = .ok (.bipush 120, 2) := by decide +kernel
theorem dX11_init_79 : decode cX11_init 79 = .ok (.newarray .int, 2) := by decide +kernel
theorem dX11_init_81 : decode cX11_init 81 = .ok (.putfield 38, 3) := by decide +kernel
theorem dX11_init_84 : decode cX11_init 84 = .ok (.aload_n 0, 1) := by decide +kernel
theorem dX11_init_85 : decode cX11_init 85 = .ok (.bipush 120, 2) := by decide +kernel
theorem dX11_init_87 : decode cX11_init 87 = .ok (.newarray .int, 2) := by decide +kernel
theorem dX11_init_89 : decode cX11_init 89 = .ok (.putfield 41, 3) := by decide +kernel
theorem dX11_init_92 : decode cX11_init 92 = .ok (.aload_n 0, 1) := by decide +kernel
theorem dX11_init_93 : decode cX11_init 93 = .ok (.bipush 20, 2) := by decide +kernel
theorem dX11_init_95 : decode cX11_init 95 = .ok (.newarray .int, 2) := by decide +kernel
theorem dX11_init_97 : decode cX11_init 97 = .ok (.putfield 44, 3) := by decide +kernel
theorem dX11_init_100 : decode cX11_init 100 = .ok (.aload_n 0, 1) := by decide +kernel
theorem dX11_init_101 : decode cX11_init 101 = .ok (.bipush 40, 2) := by decide +kernel
theorem dX11_init_103 : decode cX11_init 103 = .ok (.newarray .int, 2) := by decide +kernel
theorem dX11_init_105 : decode cX11_init 105 = .ok (.putfield 47, 3) := by decide +kernel
theorem dX11_init_108 : decode cX11_init 108 = .ok (.aload_n 0, 1) := by decide +kernel
theorem dX11_init_109 : decode cX11_init 109 = .ok (.bipush 20, 2) := by decide +kernel
theorem dX11_init_111 : decode cX11_init 111 = .ok (.newarray .int, 2) := by decide +kernel
theorem dX11_init_113 : decode cX11_init 113 = .ok (.putfield 50, 3) := by decide +kernel
theorem dX11_init_116 : decode cX11_init 116 = .ok (.aload_n 0, 1) := by decide +kernel
theorem dX11_init_117 : decode cX11_init 117 = .ok (.bipush 20, 2) := by decide +kernel
theorem dX11_init_119 : decode cX11_init 119 = .ok (.newarray .int, 2) := by decide +kernel
theorem dX11_init_121 : decode cX11_init 121 = .ok (.putfield 53, 3) := by decide +kernel
theorem dX11_init_124 : decode cX11_init 124 = .ok (.aload_n 0, 1) := by decide +kernel
theorem dX11_init_125 : decode cX11_init 125 = .ok (.bipush 20, 2) := by decide +kernel
theorem dX11_init_127 : decode cX11_init 127 = .ok (.newarray .int, 2) := by decide +kernel
theorem dX11_init_129 : decode cX11_init 129 = .ok (.putfield 56, 3) := by decide +kernel
theorem dX11_init_132 : decode cX11_init 132 = .ok (.aload_n 0, 1) := by decide +kernel
theorem dX11_init_133 : decode cX11_init 133 = .ok (.bipush 20, 2) := by decide +kernel
theorem dX11_init_135 : decode cX11_init 135 = .ok (.newarray .int, 2) := by decide +kernel
theorem dX11_init_137 : decode cX11_init 137 = .ok (.putfield 59, 3) := by decide +kernel
theorem dX11_init_140 : decode cX11_init 140 = .ok (.aload_n 0, 1) := by decide +kernel
theorem dX11_init_141 : decode cX11_init 141 = .ok (.bipush 6, 2) := by decide +kernel
theorem dX11_init_143 : decode cX11_init 143 = .ok (.newarray .int, 2) := by decide +kernel
theorem dX11_init_145 : decode cX11_init 145 = .ok (.putfield 62, 3) := by decide +kernel
theorem dX11_init_148 : decode cX11_init 148 = .ok (.aload_n 0, 1) := by decide +kernel
theorem dX11_init_149 : decode cX11_init 149 = .ok (.bipush 6, 2) := by decide +kernel
theorem dX11_init_151 : decode cX11_init 151 = .ok (.newarray .int, 2) := by decide +kernel
theorem dX11_init_153 : decode cX11_init 153 = .ok (.putfield 65, 3) := by decide +kernel
theorem dX11_init_156 : decode cX11_init 156 = .ok (.aload_n 0, 1) := by decide +kernel
theorem dX11_init_157 : decode cX11_init 157 = .ok (.sipush 144, 3) := by decide +kernel
theorem dX11_init_160 : decode cX11_init 160 = .ok (.newarray .int, 2) := by decide +kernel
theorem dX11_init_162 : decode cX11_init 162 = .ok (.putfield 68, 3) := by decide +kernel
theorem dX11_init_165 : decode cX11_init 165 = .ok (.aload_n 0, 1) := by decide +kernel
theorem dX11_init_166 : decode cX11_init 166 = .ok (.bipush 90, 2) := by decide +kernel
theorem dX11_init_168 : decode cX11_init 168 = .ok (.newarray .int, 2) := by decide +kernel
theorem dX11_init_170 : decode cX11_init 170 = .ok (.putfield 71, 3) := by decide +kernel
theorem dX11_init_173 : decode cX11_init 173 = .ok (.aload_n 0, 1) := by decide +kernel
theorem dX11_init_174 : decode cX11_init 174 = .ok (.bipush 7, 2) := by decide +kernel
theorem dX11_init_176 : decode cX11_init 176 = .ok (.newarray .int, 2) := by decide +kernel
theorem dX11_init_178 : decode cX11_init 178 = .ok (.putfield 74, 3) := by decide +kernel
theorem dX11_init_181 : decode cX11_init 181 = .ok (.aload_n 0, 1) := by decide +kernel
theorem dX11_init_182 : decode cX11_init 182 = .ok (.bipush 7, 2) := by decide +kernel
theorem dX11_init_184 : decode cX11_init 184 = .ok (.newarray .int, 2) := by decide +kernel
theorem dX11_init_186 : decode cX11_init 186 = .ok (.putfield 77, 3) := by decide +kernel
theorem dX11_init_189 : decode cX11_init 189 = .ok (.aload_n 0, 1) := by decide +kernel
theorem dX11_init_190 : decode cX11_init 190 = .ok (.bipush 7, 2) := by decide +kernel
theorem dX11_init_192 : decode cX11_init 192 = .ok (.newarray .int, 2) := by decide +kernel
theorem dX11_init_194 : decode cX11_init 194 = .ok (.putfield 80, 3) := by decide +kernel
theorem dX11_init_197 : decode cX11_init 197 = .ok (.aload_n 0, 1) := by decide +kernel
theorem dX11_init_198 : decode cX11_init 198 = .ok (.bipush 7, 2) := by decide +kernel
theorem dX11_init_200 : decode cX11_init 200 = .ok (.newarray .int, 2) := by decide +kernel
theorem dX11_init_202 : decode cX11_init 202 = .ok (.putfield 83, 3) := by decide +kernel
theorem dX11_init_205 : decode cX11_init 205 = .ok (.aload_n 0, 1) := by decide +kernel
theorem dX11_init_206 : decode cX11_init 206 = .ok (.bipush 7, 2) := by decide +kernel
theorem dX11_init_208 : decode cX11_init 208 = .ok (.newarray .int, 2) := by decide +kernel
theorem dX11_init_210 : decode cX11_init 210 = .ok (.putfield 86, 3) := by decide +kernel
theorem dX11_init_213 : decode cX11_init 213 = .ok (.aload_n 0, 1) := by decide +kernel
theorem dX11_init_214 : decode cX11_init 214 = .ok (.bipush 7, 2) := by decide +kernel
theorem dX11_init_216 : decode cX11_init 216 = .ok (.newarray .int, 2) := by decide +kernel
theorem dX11_init_218 : decode cX11_init 218 = .ok (.putfield 89, 3) := by decide +kernel
theorem dX11_init_221 : decode cX11_init 221 = .ok (.aload_n 0, 1) := by decide +kernel
theorem dX11_init_222 : decode cX11_init 222 = .ok (.bipush 7, 2) := by decide +kernel
theorem dX11_init_224 : decode cX11_init 224 = .ok (.newarray .int, 2) := by decide +kernel
theorem dX11_init_226 : decode cX11_init 226 = .ok (.putfield 92, 3) := by decide +kernel
theorem dX11_init_229 : decode cX11_init 229 = .ok (.aload_n 0, 1) := by decide +kernel
theorem dX11_init_230 : decode cX11_init 230 = .ok (.bipush 7, 2) := by decide +kernel
theorem dX11_init_232 : decode cX11_init 232 = .ok (.newarray .int, 2) := by decide +kernel
theorem dX11_init_234 : decode cX11_init 234 = .ok (.putfield 95, 3) := by decide +kernel
theorem dX11_init_237 : decode cX11_init 237 = .ok (.aload_n 0, 1) := by decide +kernel
theorem dX11_init_238 : decode cX11_init 238 = .ok (.iconst 4, 1) := by decide +kernel
theorem dX11_init_239 : decode cX11_init 239 = .ok (.newarray .int, 2) := by decide +kernel
theorem dX11_init_241 : decode cX11_init 241 = .ok (.putfield 98, 3) := by decide +kernel
theorem dX11_init_244 : decode cX11_init 244 = .ok (.aload_n 0, 1) := by decide +kernel
theorem dX11_init_245 : decode cX11_init 245 = .ok (.iconst 4, 1) := by decide +kernel
theorem dX11_init_246 : decode cX11_init 246 = .ok (.newarray .int, 2) := by decide +kernel
theorem dX11_init_248 : decode cX11_init 248 = .ok (.putfield 101, 3) := by decide +kernel
theorem dX11_init_251 : decode cX11_init 251 = .ok (.aload_n 0, 1) := by decide +kernel
theorem dX11_init_252 : decode cX11_init 252 = .ok (.bipush 92, 2) := by decide +kernel
theorem dX11_init_254 : decode cX11_init 254 = .ok (.newarray .int, 2) := by decide +kernel
theorem dX11_init_256 : decode cX11_init 256 = .ok (.putfield 104, 3) := by decide +kernel
theorem dX11_init_259 : decode cX11_init 259 = .ok (.aload_n 0, 1) := by decide +kernel
theorem dX11_init_260 : decode cX11_init 260 = .ok (.bipush 12, 2) := by decide +kernel
theorem dX11_init_262 : decode cX11_init 262 = .ok (.newarray .int, 2) := by decide +kernel
theorem dX11_init_264 : decode cX11_init 264 = .ok (.putfield 107, 3) := by decide +kernel
theorem dX11_init_267 : decode cX11_init 267 = .ok (.aload_n 0, 1) := by decide +kernel
theorem dX11_init_268 : decode cX11_init 268 = .ok (.bipush 12, 2) := by decide +kernel
theorem dX11_init_270 : decode cX11_init 270 = .ok (.newarray .int, 2) := by decide +kernel
theorem dX11_init_272 : decode cX11_init 272 = .ok (.putfield 110, 3) := by decide +kernel
theorem dX11_init_275 : decode cX11_init 275 = .ok (.aload_n 0, 1) := by decide +kernel
theorem dX11_init_276 : decode cX11_init 276 = .ok (.bipush 12, 2) := by decide +kernel
theorem dX11_init_278 : decode cX11_init 278 = .ok (.newarray .int, 2) := by decide +kernel
theorem dX11_init_280 : decode cX11_init 280 = .ok (.putfield 113, 3) := by decide +kernel
theorem dX11_init_283 : decode cX11_init 283 = .ok (.aload_n 0, 1) := by decide +kernel
theorem dX11_init_284 : decode cX11_init 284 = .ok (.bipush 12, 2) := by decide +kernel
theorem dX11_init_286 : decode cX11_init 286 = .ok (.newarray .int, 2) := by decide +kernel
theorem dX11_init_288 : decode cX11_init 288 = .ok (.putfield 116, 3) := by decide +kernel
theorem dX11_init_291 : decode cX11_init 291 = .ok (.aload_n 0, 1) := by decide +kernel
theorem dX11_init_292 : decode cX11_init 292 = .ok (.bipush 12, 2) := by decide +kernel
theorem dX11_init_294 : decode cX11_init 294 = .ok (.newarray .int, 2) := by decide +kernel
theorem dX11_init_296 : decode cX11_init 296 = .ok (.putfield 119, 3) := by decide +kernel
theorem dX11_init_299 : decode cX11_init 299 = .ok (.aload_n 0, 1) := by decide +kernel
theorem dX11_init_300 : decode cX11_init 300 = .ok (.bipush 12, 2) := by decide +kernel
theorem dX11_init_302 : decode cX11_init 302 = .ok (.newarray .int, 2) := by decide +kernel
theorem dX11_init_304 : decode cX11_init 304 = .ok (.putfield 122, 3) := by decide +kernel
theorem dX11_init_307 : decode cX11_init 307 = .ok (.aload_n 0, 1) := by decide +kernel
theorem dX11_init_308 : decode cX11_init 308 = .ok (.bipush 12, 2) := by decide +kernel
theorem dX11_init_310 : decode cX11_init 310 = .ok (.newarray .int, 2) := by decide +kernel
theorem dX11_init_312 : decode cX11_init 312 = .ok (.putfield 125, 3) := by decide +kernel
theorem dX11_init_315 : decode cX11_init 315 = .ok (.return_, 1) := by decide +kernel
theorem dX11_domain_0 : decode cX11_domain 0 = .ok (.iload_n 1, 1) := by decide +kernel
theorem dX11_domain_1 : decode cX11_domain 1 = .ok (.iconst (-1), 1) := by decide +kernel
theorem dX11_domain_2 : decode cX11_domain 2 = .ok (.if_icmp .eq 13, 3) := by decide +kernel
theorem dX11_domain_5 : decode cX11_domain 5 = .ok (.aload_n 0, 1) := by decide +kernel
theorem dX11_domain_6 : decode cX11_domain 6 = .ok (.iload_n 1, 1) := by decide +kernel
theorem dX11_domain_7 : decode cX11_domain 7 = .ok (.invokevirtual 132, 3) := by decide +kernel
theorem dX11_domain_10 : decode cX11_domain 10 = .ok (.ifCond .ne 5, 3) := by decide +kernel
theorem dX11_domain_13 : decode cX11_domain 13 = .ok (.iconst (-1), 1) := by decide +kernel
theorem dX11_domain_14 : decode cX11_domain 14 = .ok (.ireturn, 1) := by decide +kernel
theorem dX11_domain_15 : decode cX11_domain 15 = .ok (.aload_n 0, 1) := by decide +kernel
theorem dX11_domain_16 : decode cX11_domain 16 = .ok (.getfield 128, 3) := by decide +kernel
theorem dX11_domain_19 : decode cX11_domain 19 = .ok (.bipush 20, 2) := by decide +kernel
theorem dX11_domain_21 : decode cX11_domain 21 = .ok (.if_icmp .ne 6, 3) := by decide +kernel
theorem dX11_domain_24 : decode cX11_domain 24 = .ok (.bipush (-2), 2) := by decide +kernel
theorem dX11_domain_26 : decode cX11_domain 26 = .ok (.ireturn, 1) := by decide +kernel
theorem dX11_domain_27 : decode cX11_domain 27 = .ok (.aload_n 0, 1) := by decide +kernel
theorem dX11_domain_28 : decode cX11_domain 28 = .ok (.getfield 7, 3) := by decide +kernel
theorem dX11_domain_31 : decode cX11_domain 31 = .ok (.aload_n 0, 1) := by decide +kernel
theorem dX11_domain_32 : decode cX11_domain 32 = .ok (.getfield 128, 3) := by decide +kernel
theorem dX11_domain_35 : decode cX11_domain 35 = .ok (.iload_n 1, 1) := by decide +kernel
theorem dX11_domain_36 : decode cX11_domain 36 = .ok (.iastore, 1) := by decide +kernel
theorem dX11_domain_37 : decode cX11_domain 37 = .ok (.aload_n 0, 1) := by decide +kernel
theorem dX11_domain_38 : decode cX11_domain 38 = .ok (.getfield 13, 3) := by decide +kernel
theorem dX11_domain_41 : decode cX11_domain 41 = .ok (.aload_n 0, 1) := by decide +kernel
theorem dX11_domain_42 : decode cX11_domain 42 = .ok (.getfield 128, 3) := by decide +kernel
theorem dX11_domain_45 : decode cX11_domain 45 = .ok (.iload_n 2, 1) := by decide +kernel
theorem dX11_domain_46 : decode cX11_domain 46 = .ok (.ifCond .ne 8, 3) := by decide +kernel
theorem dX11_domain_49 : decode cX11_domain 49 = .ok (.iload_n 1, 1) := by decide +kernel
theorem dX11_domain_50 : decode cX11_domain 50 = .ok (.iconst (-1), 1) := by decide +kernel
theorem dX11_domain_51 : decode cX11_domain 51 = .ok (.if_icmp .ne 7, 3) := by decide +kernel
theorem dX11_domain_54 : decode cX11_domain 54 = .ok (.iconst 1, 1) := by decide +kernel
theorem dX11_domain_55 : decode cX11_domain 55 = .ok (.goto 4, 3) := by decide +kernel
theorem dX11_domain_58 : decode cX11_domain 58 = .ok (.iconst 0, 1) := by decide +kernel
theorem dX11_domain_59 : decode cX11_domain 59 = .ok (.bastore, 1) := by decide +kernel
theorem dX11_domain_60 : decode cX11_domain 60 = .ok (.aload_n 0, 1) := by decide +kernel
theorem dX11_domain_61 : decode cX11_domain 61 = .ok (.getfield 44, 3) := by decide +kernel
theorem dX11_domain_64 : decode cX11_domain 64 = .ok (.aload_n 0, 1) := by decide +kernel
theorem dX11_domain_65 : decode cX11_domain 65 = .ok (.getfield 128, 3) := by decide +kernel
theorem dX11_domain_68 : decode cX11_domain 68 = .ok (.iconst (-1), 1) := by decide +kernel
theorem dX11_domain_69 : decode cX11_domain 69 = .ok (.iastore, 1) := by decide +kernel
theorem dX11_domain_70 : decode cX11_domain 70 = .ok (.aload_n 0, 1) := by decide +kernel
theorem dX11_domain_71 : decode cX11_domain 71 = .ok (.getfield 50, 3) := by decide +kernel
theorem dX11_domain_74 : decode cX11_domain 74 = .ok (.aload_n 0, 1) := by decide +kernel
theorem dX11_domain_75 : decode cX11_domain 75 = .ok (.getfield 128, 3) := by decide +kernel
theorem dX11_domain_78 : decode cX11_domain 78 = .ok (.iconst (-1), 1) := by decide +kernel
theorem dX11_domain_79 : decode cX11_domain 79 = .ok (.iastore, 1) := by decide +kernel
theorem dX11_domain_80 : decode cX11_domain 80 = .ok (.aload_n 0, 1) := by decide +kernel
theorem dX11_domain_81 : decode cX11_domain 81 = .ok (.dup, 1) := by decide +kernel
theorem dX11_domain_82 : decode cX11_domain 82 = .ok (.getfield 128, 3) := by decide +kernel
theorem dX11_domain_85 : decode cX11_domain 85 = .ok (.iconst 1, 1) := by decide +kernel
theorem dX11_domain_86 : decode cX11_domain 86 = .ok (.iadd, 1) := by decide +kernel
theorem dX11_domain_87 : decode cX11_domain 87 = .ok (.putfield 128, 3) := by decide +kernel
theorem dX11_domain_90 : decode cX11_domain 90 = .ok (.aload_n 0, 1) := by decide +kernel
theorem dX11_domain_91 : decode cX11_domain 91 = .ok (.getfield 128, 3) := by decide +kernel
theorem dX11_domain_94 : decode cX11_domain 94 = .ok (.iconst 1, 1) := by decide +kernel
theorem dX11_domain_95 : decode cX11_domain 95 = .ok (.isub, 1) := by decide +kernel
theorem dX11_domain_96 : decode cX11_domain 96 = .ok (.ireturn, 1) := by decide +kernel
theorem dX11_isDomain_0 : decode cX11_isDomain 0 = .ok (.iload_n 1, 1) := by decide +kernel
theorem dX11_isDomain_1 : decode cX11_isDomain 1 = .ok (.ifCond .lt 15, 3) := by decide +kernel
theorem dX11_isDomain_4 : decode cX11_isDomain 4 = .ok (.iload_n 1, 1) := by decide +kernel
theorem dX11_isDomain_5 : decode cX11_isDomain 5 = .ok (.aload_n 0, 1) := by decide +kernel
theorem dX11_isDomain_6 : decode cX11_isDomain 6 = .ok (.getfield 128, 3) := by decide +kernel
theorem dX11_isDomain_9 : decode cX11_isDomain 9 = .ok (.if_icmp .ge 7, 3) := by decide +kernel
theorem dX11_isDomain_12 : decode cX11_isDomain 12 = .ok (.iconst 1, 1) := by decide +kernel
theorem dX11_isDomain_13 : decode cX11_isDomain 13 = .ok (.goto 4, 3) := by decide +kernel
theorem dX11_isDomain_16 : decode cX11_isDomain 16 = .ok (.iconst 0, 1) := by decide +kernel
theorem dX11_isDomain_17 : decode cX11_isDomain 17 = .ok (.ireturn, 1) := by decide +kernel
theorem dX11_home_0 : decode cX11_home 0 = .ok (.aload_n 0, 1) := by decide +kernel
theorem dX11_home_1 : decode cX11_home 1 = .ok (.iload_n 1, 1) := by decide +kernel
theorem dX11_home_2 : decode cX11_home 2 = .ok (.invokevirtual 132, 3) := by decide +kernel
theorem dX11_home_5 : decode cX11_home 5 = .ok (.ifCond .eq 11, 3) := by decide +kernel
theorem dX11_home_8 : decode cX11_home 8 = .ok (.aload_n 0, 1) := by decide +kernel
theorem dX11_home_9 : decode cX11_home 9 = .ok (.iload_n 1, 1) := by decide +kernel
theorem dX11_home_10 : decode cX11_home 10 = .ok (.invokevirtual 136, 3) := by decide +kernel
theorem dX11_home_13 : decode cX11_home 13 = .ok (.goto 4, 3) := by decide +kernel
theorem dX11_home_16 : decode cX11_home 16 = .ok (.iconst (-1), 1) := by decide +kernel
theorem dX11_home_17 : decode cX11_home 17 = .ok (.ireturn, 1) := by decide +kernel
theorem dX11_homeOf_0 : decode cX11_homeOf 0 = .ok (.iload_n 1, 1) := by decide +kernel
theorem dX11_homeOf_1 : decode cX11_homeOf 1 = .ok (.istore_n 2, 1) := by decide +kernel
theorem dX11_homeOf_2 : decode cX11_homeOf 2 = .ok (.aload_n 0, 1) := by decide +kernel
theorem dX11_homeOf_3 : decode cX11_homeOf 3 = .ok (.getfield 13, 3) := by decide +kernel
theorem dX11_homeOf_6 : decode cX11_homeOf 6 = .ok (.iload_n 1, 1) := by decide +kernel
theorem dX11_homeOf_7 : decode cX11_homeOf 7 = .ok (.baload, 1) := by decide +kernel
theorem dX11_homeOf_8 : decode cX11_homeOf 8 = .ok (.ifCond .ne 27, 3) := by decide +kernel
theorem dX11_homeOf_11 : decode cX11_homeOf 11 = .ok (.aload_n 0, 1) := by decide +kernel
theorem dX11_homeOf_12 : decode cX11_homeOf 12 = .ok (.getfield 13, 3) := by decide +kernel
theorem dX11_homeOf_15 : decode cX11_homeOf 15 = .ok (.aload_n 0, 1) := by decide +kernel
theorem dX11_homeOf_16 : decode cX11_homeOf 16 = .ok (.getfield 7, 3) := by decide +kernel
theorem dX11_homeOf_19 : decode cX11_homeOf 19 = .ok (.iload_n 2, 1) := by decide +kernel
theorem dX11_homeOf_20 : decode cX11_homeOf 20 = .ok (.iaload, 1) := by decide +kernel
theorem dX11_homeOf_21 : decode cX11_homeOf 21 = .ok (.baload, 1) := by decide +kernel
theorem dX11_homeOf_22 : decode cX11_homeOf 22 = .ok (.ifCond .ne 13, 3) := by decide +kernel
theorem dX11_homeOf_25 : decode cX11_homeOf 25 = .ok (.aload_n 0, 1) := by decide +kernel
theorem dX11_homeOf_26 : decode cX11_homeOf 26 = .ok (.getfield 7, 3) := by decide +kernel
theorem dX11_homeOf_29 : decode cX11_homeOf 29 = .ok (.iload_n 2, 1) := by decide +kernel
theorem dX11_homeOf_30 : decode cX11_homeOf 30 = .ok (.iaload, 1) := by decide +kernel
theorem dX11_homeOf_31 : decode cX11_homeOf 31 = .ok (.istore_n 2, 1) := by decide +kernel
theorem dX11_homeOf_32 : decode cX11_homeOf 32 = .ok (.goto (-30), 3) := by decide +kernel
theorem dX11_homeOf_35 : decode cX11_homeOf 35 = .ok (.iload_n 2, 1) := by decide +kernel
theorem dX11_homeOf_36 : decode cX11_homeOf 36 = .ok (.ireturn, 1) := by decide +kernel
theorem dX11_silent_0 : decode cX11_silent 0 = .ok (.aload_n 0, 1) := by decide +kernel
theorem dX11_silent_1 : decode cX11_silent 1 = .ok (.iload_n 1, 1) := by decide +kernel
theorem dX11_silent_2 : decode cX11_silent 2 = .ok (.invokevirtual 132, 3) := by decide +kernel
theorem dX11_silent_5 : decode cX11_silent 5 = .ok (.ifCond .ne 5, 3) := by decide +kernel
theorem dX11_silent_8 : decode cX11_silent 8 = .ok (.iconst 0, 1) := by decide +kernel
theorem dX11_silent_9 : decode cX11_silent 9 = .ok (.ireturn, 1) := by decide +kernel
theorem dX11_silent_10 : decode cX11_silent 10 = .ok (.aload_n 0, 1) := by decide +kernel
theorem dX11_silent_11 : decode cX11_silent 11 = .ok (.getfield 17, 3) := by decide +kernel
theorem dX11_silent_14 : decode cX11_silent 14 = .ok (.iload_n 1, 1) := by decide +kernel
theorem dX11_silent_15 : decode cX11_silent 15 = .ok (.iload_n 2, 1) := by decide +kernel
theorem dX11_silent_16 : decode cX11_silent 16 = .ok (.bastore, 1) := by decide +kernel
theorem dX11_silent_17 : decode cX11_silent 17 = .ok (.iconst 1, 1) := by decide +kernel
theorem dX11_silent_18 : decode cX11_silent 18 = .ok (.ireturn, 1) := by decide +kernel
theorem dX11_host_0 : decode cX11_host 0 = .ok (.aload_n 0, 1) := by decide +kernel
theorem dX11_host_1 : decode cX11_host 1 = .ok (.iload_n 1, 1) := by decide +kernel
theorem dX11_host_2 : decode cX11_host 2 = .ok (.invokevirtual 132, 3) := by decide +kernel
theorem dX11_host_5 : decode cX11_host 5 = .ok (.ifCond .eq 25, 3) := by decide +kernel
theorem dX11_host_8 : decode cX11_host 8 = .ok (.iload_n 2, 1) := by decide +kernel
theorem dX11_host_9 : decode cX11_host 9 = .ok (.ifCond .lt 21, 3) := by decide +kernel
theorem dX11_host_12 : decode cX11_host 12 = .ok (.iload_n 2, 1) := by decide +kernel
theorem dX11_host_13 : decode cX11_host 13 = .ok (.iconst 1, 1) := by decide +kernel
theorem dX11_host_14 : decode cX11_host 14 = .ok (.if_icmp .gt 16, 3) := by decide +kernel
theorem dX11_host_17 : decode cX11_host 17 = .ok (.iload_n 2, 1) := by decide +kernel
theorem dX11_host_18 : decode cX11_host 18 = .ok (.iconst 1, 1) := by decide +kernel
theorem dX11_host_19 : decode cX11_host 19 = .ok (.if_icmp .ne 13, 3) := by decide +kernel
theorem dX11_host_22 : decode cX11_host 22 = .ok (.aload_n 0, 1) := by decide +kernel
theorem dX11_host_23 : decode cX11_host 23 = .ok (.iload_n 3, 1) := by decide +kernel
theorem dX11_host_24 : decode cX11_host 24 = .ok (.invokevirtual 132, 3) := by decide +kernel
theorem dX11_host_27 : decode cX11_host 27 = .ok (.ifCond .ne 5, 3) := by decide +kernel
theorem dX11_host_30 : decode cX11_host 30 = .ok (.iconst (-1), 1) := by decide +kernel
theorem dX11_host_31 : decode cX11_host 31 = .ok (.ireturn, 1) := by decide +kernel
theorem dX11_host_32 : decode cX11_host 32 = .ok (.iconst 2, 1) := by decide +kernel
theorem dX11_host_33 : decode cX11_host 33 = .ok (.iload_n 1, 1) := by decide +kernel
theorem dX11_host_34 : decode cX11_host 34 = .ok (.imul, 1) := by decide +kernel
theorem dX11_host_35 : decode cX11_host 35 = .ok (.iload_n 2, 1) := by decide +kernel
theorem dX11_host_36 : decode cX11_host 36 = .ok (.iadd, 1) := by decide +kernel
theorem dX11_host_37 : decode cX11_host 37 = .ok (.istore 4, 2) := by decide +kernel
theorem dX11_host_39 : decode cX11_host 39 = .ok (.aload_n 0, 1) := by decide +kernel
theorem dX11_host_40 : decode cX11_host 40 = .ok (.getfield 23, 3) := by decide +kernel
theorem dX11_host_43 : decode cX11_host 43 = .ok (.iload 4, 2) := by decide +kernel
theorem dX11_host_45 : decode cX11_host 45 = .ok (.iaload, 1) := by decide +kernel
theorem dX11_host_46 : decode cX11_host 46 = .ok (.iconst 2, 1) := by decide +kernel
theorem dX11_host_47 : decode cX11_host 47 = .ok (.if_icmp .ne 6, 3) := by decide +kernel
theorem dX11_host_50 : decode cX11_host 50 = .ok (.bipush (-2), 2) := by decide +kernel
theorem dX11_host_52 : decode cX11_host 52 = .ok (.ireturn, 1) := by decide +kernel
theorem dX11_host_53 : decode cX11_host 53 = .ok (.aload_n 0, 1) := by decide +kernel
theorem dX11_host_54 : decode cX11_host 54 = .ok (.getfield 20, 3) := by decide +kernel
theorem dX11_host_57 : decode cX11_host 57 = .ok (.iconst 2, 1) := by decide +kernel
theorem dX11_host_58 : decode cX11_host 58 = .ok (.iload 4, 2) := by decide +kernel
theorem dX11_host_60 : decode cX11_host 60 = .ok (.imul, 1) := by decide +kernel
theorem dX11_host_61 : decode cX11_host 61 = .ok (.aload_n 0, 1) := by decide +kernel
theorem dX11_host_62 : decode cX11_host 62 = .ok (.getfield 23, 3) := by decide +kernel
theorem dX11_host_65 : decode cX11_host 65 = .ok (.iload 4, 2) := by decide +kernel
theorem dX11_host_67 : decode cX11_host 67 = .ok (.iaload, 1) := by decide +kernel
theorem dX11_host_68 : decode cX11_host 68 = .ok (.iadd, 1) := by decide +kernel
theorem dX11_host_69 : decode cX11_host 69 = .ok (.iload_n 3, 1) := by decide +kernel
theorem dX11_host_70 : decode cX11_host 70 = .ok (.iastore, 1) := by decide +kernel
theorem dX11_host_71 : decode cX11_host 71 = .ok (.aload_n 0, 1) := by decide +kernel
theorem dX11_host_72 : decode cX11_host 72 = .ok (.getfield 23, 3) := by decide +kernel
theorem dX11_host_75 : decode cX11_host 75 = .ok (.iload 4, 2) := by decide +kernel
theorem dX11_host_77 : decode cX11_host 77 = .ok (.dup2, 1) := by decide +kernel
theorem dX11_host_78 : decode cX11_host 78 = .ok (.iaload, 1) := by decide +kernel
theorem dX11_host_79 : decode cX11_host 79 = .ok (.iconst 1, 1) := by decide +kernel
theorem dX11_host_80 : decode cX11_host 80 = .ok (.iadd, 1) := by decide +kernel
theorem dX11_host_81 : decode cX11_host 81 = .ok (.iastore, 1) := by decide +kernel
theorem dX11_host_82 : decode cX11_host 82 = .ok (.aload_n 0, 1) := by decide +kernel
theorem dX11_host_83 : decode cX11_host 83 = .ok (.getfield 23, 3) := by decide +kernel
theorem dX11_host_86 : decode cX11_host 86 = .ok (.iload 4, 2) := by decide +kernel
theorem dX11_host_88 : decode cX11_host 88 = .ok (.iaload, 1) := by decide +kernel
theorem dX11_host_89 : decode cX11_host 89 = .ok (.ireturn, 1) := by decide +kernel
theorem dX11_rule_0 : decode cX11_rule 0 = .ok (.iload_n 3, 1) := by decide +kernel
theorem dX11_rule_1 : decode cX11_rule 1 = .ok (.ifCond .lt 21, 3) := by decide +kernel
theorem dX11_rule_4 : decode cX11_rule 4 = .ok (.iload_n 3, 1) := by decide +kernel
theorem dX11_rule_5 : decode cX11_rule 5 = .ok (.iconst 5, 1) := by decide +kernel
theorem dX11_rule_6 : decode cX11_rule 6 = .ok (.if_icmp .gt 16, 3) := by decide +kernel
theorem dX11_rule_9 : decode cX11_rule 9 = .ok (.iload_n 2, 1) := by decide +kernel
theorem dX11_rule_10 : decode cX11_rule 10 = .ok (.ifCond .lt 12, 3) := by decide +kernel
theorem dX11_rule_13 : decode cX11_rule 13 = .ok (.iload_n 2, 1) := by decide +kernel
theorem dX11_rule_14 : decode cX11_rule 14 = .ok (.iconst 3, 1) := by decide +kernel
theorem dX11_rule_15 : decode cX11_rule 15 = .ok (.if_icmp .gt 7, 3) := by decide +kernel
theorem dX11_rule_18 : decode cX11_rule 18 = .ok (.iconst 1, 1) := by decide +kernel
theorem dX11_rule_19 : decode cX11_rule 19 = .ok (.goto 4, 3) := by decide +kernel
theorem dX11_rule_22 : decode cX11_rule 22 = .ok (.iconst 0, 1) := by decide +kernel
theorem dX11_rule_23 : decode cX11_rule 23 = .ok (.istore 6, 2) := by decide +kernel
theorem dX11_rule_25 : decode cX11_rule 25 = .ok (.iload_n 3, 1) := by decide +kernel
theorem dX11_rule_26 : decode cX11_rule 26 = .ok (.iconst 1, 1) := by decide +kernel
theorem dX11_rule_27 : decode cX11_rule 27 = .ok (.if_icmp .lt 24, 3) := by decide +kernel
theorem dX11_rule_30 : decode cX11_rule 30 = .ok (.iload_n 3, 1) := by decide +kernel
theorem dX11_rule_31 : decode cX11_rule 31 = .ok (.iconst 3, 1) := by decide +kernel
theorem dX11_rule_32 : decode cX11_rule 32 = .ok (.if_icmp .gt 19, 3) := by decide +kernel
theorem dX11_rule_35 : decode cX11_rule 35 = .ok (.iload 5, 2) := by decide +kernel
theorem dX11_rule_37 : decode cX11_rule 37 = .ok (.ifCond .lt 10, 3) := by decide +kernel
theorem dX11_rule_40 : decode cX11_rule 40 = .ok (.iload 5, 2) := by decide +kernel
theorem dX11_rule_42 : decode cX11_rule 42 = .ok (.bipush 32, 2) := by decide +kernel
theorem dX11_rule_44 : decode cX11_rule 44 = .ok (.if_icmp .le 7, 3) := by decide +kernel
theorem dX11_rule_47 : decode cX11_rule 47 = .ok (.iconst 1, 1) := by decide +kernel
theorem dX11_rule_48 : decode cX11_rule 48 = .ok (.goto 4, 3) := by decide +kernel
theorem dX11_rule_51 : decode cX11_rule 51 = .ok (.iconst 0, 1) := by decide +kernel
theorem dX11_rule_52 : decode cX11_rule 52 = .ok (.istore 7, 2) := by decide +kernel
theorem dX11_rule_54 : decode cX11_rule 54 = .ok (.iload_n 3, 1) := by decide +kernel
theorem dX11_rule_55 : decode cX11_rule 55 = .ok (.iconst 2, 1) := by decide +kernel
theorem dX11_rule_56 : decode cX11_rule 56 = .ok (.if_icmp .lt 22, 3) := by decide +kernel
theorem dX11_rule_59 : decode cX11_rule 59 = .ok (.iload_n 3, 1) := by decide +kernel
theorem dX11_rule_60 : decode cX11_rule 60 = .ok (.bipush 6, 2) := by decide +kernel
theorem dX11_rule_62 : decode cX11_rule 62 = .ok (.if_icmp .gt 16, 3) := by decide +kernel
theorem dX11_rule_65 : decode cX11_rule 65 = .ok (.aload_n 0, 1) := by decide +kernel
theorem dX11_rule_66 : decode cX11_rule 66 = .ok (.iload 4, 2) := by decide +kernel
theorem dX11_rule_68 : decode cX11_rule 68 = .ok (.invokevirtual 132, 3) := by decide +kernel
theorem dX11_rule_71 : decode cX11_rule 71 = .ok (.ifCond .ne 7, 3) := by decide +kernel
theorem dX11_rule_74 : decode cX11_rule 74 = .ok (.iconst 1, 1) := by decide +kernel
theorem dX11_rule_75 : decode cX11_rule 75 = .ok (.goto 4, 3) := by decide +kernel
theorem dX11_rule_78 : decode cX11_rule 78 = .ok (.iconst 0, 1) := by decide +kernel
theorem dX11_rule_79 : decode cX11_rule 79 = .ok (.istore 8, 2) := by decide +kernel
theorem dX11_rule_81 : decode cX11_rule 81 = .ok (.aload_n 0, 1) := by decide +kernel
theorem dX11_rule_82 : decode cX11_rule 82 = .ok (.iload_n 1, 1) := by decide +kernel
theorem dX11_rule_83 : decode cX11_rule 83 = .ok (.invokevirtual 132, 3) := by decide +kernel
theorem dX11_rule_86 : decode cX11_rule 86 = .ok (.ifCond .eq 24, 3) := by decide +kernel
theorem dX11_rule_89 : decode cX11_rule 89 = .ok (.iload 6, 2) := by decide +kernel
theorem dX11_rule_91 : decode cX11_rule 91 = .ok (.ifCond .ne 9, 3) := by decide +kernel
theorem dX11_rule_94 : decode cX11_rule 94 = .ok (.iload_n 3, 1) := by decide +kernel
theorem dX11_rule_95 : decode cX11_rule 95 = .ok (.bipush 6, 2) := by decide +kernel
theorem dX11_rule_97 : decode cX11_rule 97 = .ok (.if_icmp .ne 13, 3) := by decide +kernel
theorem dX11_rule_100 : decode cX11_rule 100 = .ok (.iload 7, 2) := by decide +kernel
theorem dX11_rule_102 : decode cX11_rule 102 = .ok (.ifCond .ne 8, 3) := by decide +kernel
theorem dX11_rule_105 : decode cX11_rule 105 = .ok (.iload 8, 2) := by decide +kernel
theorem dX11_rule_107 : decode cX11_rule 107 = .ok (.ifCond .eq 5, 3) := by decide +kernel
theorem dX11_rule_110 : decode cX11_rule 110 = .ok (.iconst (-1), 1) := by decide +kernel
theorem dX11_rule_111 : decode cX11_rule 111 = .ok (.ireturn, 1) := by decide +kernel
theorem dX11_rule_112 : decode cX11_rule 112 = .ok (.iload_n 3, 1) := by decide +kernel
theorem dX11_rule_113 : decode cX11_rule 113 = .ok (.bipush 6, 2) := by decide +kernel
theorem dX11_rule_115 : decode cX11_rule 115 = .ok (.if_icmp .ne 25, 3) := by decide +kernel
theorem dX11_rule_118 : decode cX11_rule 118 = .ok (.aload_n 0, 1) := by decide +kernel
theorem dX11_rule_119 : decode cX11_rule 119 = .ok (.getfield 26, 3) := by decide +kernel
theorem dX11_rule_122 : decode cX11_rule 122 = .ok (.iload_n 1, 1) := by decide +kernel
theorem dX11_rule_123 : decode cX11_rule 123 = .ok (.iconst 1, 1) := by decide +kernel
theorem dX11_rule_124 : decode cX11_rule 124 = .ok (.bastore, 1) := by decide +kernel
theorem dX11_rule_125 : decode cX11_rule 125 = .ok (.aload_n 0, 1) := by decide +kernel
theorem dX11_rule_126 : decode cX11_rule 126 = .ok (.getfield 44, 3) := by decide +kernel
theorem dX11_rule_129 : decode cX11_rule 129 = .ok (.iload_n 1, 1) := by decide +kernel
theorem dX11_rule_130 : decode cX11_rule 130 = .ok (.iload 4, 2) := by decide +kernel
theorem dX11_rule_132 : decode cX11_rule 132 = .ok (.iastore, 1) := by decide +kernel
theorem dX11_rule_133 : decode cX11_rule 133 = .ok (.aload_n 0, 1) := by decide +kernel
theorem dX11_rule_134 : decode cX11_rule 134 = .ok (.getfield 29, 3) := by decide +kernel
theorem dX11_rule_137 : decode cX11_rule 137 = .ok (.iload_n 1, 1) := by decide +kernel
theorem dX11_rule_138 : decode cX11_rule 138 = .ok (.iaload, 1) := by decide +kernel
theorem dX11_rule_139 : decode cX11_rule 139 = .ok (.ireturn, 1) := by decide +kernel
theorem dX11_rule_140 : decode cX11_rule 140 = .ok (.aload_n 0, 1) := by decide +kernel
theorem dX11_rule_141 : decode cX11_rule 141 = .ok (.getfield 29, 3) := by decide +kernel
theorem dX11_rule_144 : decode cX11_rule 144 = .ok (.iload_n 1, 1) := by decide +kernel
theorem dX11_rule_145 : decode cX11_rule 145 = .ok (.iaload, 1) := by decide +kernel
theorem dX11_rule_146 : decode cX11_rule 146 = .ok (.bipush 6, 2) := by decide +kernel
theorem dX11_rule_148 : decode cX11_rule 148 = .ok (.if_icmp .ne 6, 3) := by decide +kernel
theorem dX11_rule_151 : decode cX11_rule 151 = .ok (.bipush (-2), 2) := by decide +kernel
theorem dX11_rule_153 : decode cX11_rule 153 = .ok (.ireturn, 1) := by decide +kernel
theorem dX11_rule_154 : decode cX11_rule 154 = .ok (.bipush 6, 2) := by decide +kernel
theorem dX11_rule_156 : decode cX11_rule 156 = .ok (.iload_n 1, 1) := by decide +kernel
theorem dX11_rule_157 : decode cX11_rule 157 = .ok (.imul, 1) := by decide +kernel
theorem dX11_rule_158 : decode cX11_rule 158 = .ok (.aload_n 0, 1) := by decide +kernel
theorem dX11_rule_159 : decode cX11_rule 159 = .ok (.getfield 29, 3) := by decide +kernel
theorem dX11_rule_162 : decode cX11_rule 162 = .ok (.iload_n 1, 1) := by decide +kernel
theorem dX11_rule_163 : decode cX11_rule 163 = .ok (.iaload, 1) := by decide +kernel
theorem dX11_rule_164 : decode cX11_rule 164 = .ok (.iadd, 1) := by decide +kernel
theorem dX11_rule_165 : decode cX11_rule 165 = .ok (.istore 9, 2) := by decide +kernel
theorem dX11_rule_167 : decode cX11_rule 167 = .ok (.aload_n 0, 1) := by decide +kernel
theorem dX11_rule_168 : decode cX11_rule 168 = .ok (.getfield 32, 3) := by decide +kernel
theorem dX11_rule_171 : decode cX11_rule 171 = .ok (.iload 9, 2) := by decide +kernel
theorem dX11_rule_173 : decode cX11_rule 173 = .ok (.iload_n 2, 1) := by decide +kernel
theorem dX11_rule_174 : decode cX11_rule 174 = .ok (.iastore, 1) := by decide +kernel
theorem dX11_rule_175 : decode cX11_rule 175 = .ok (.aload_n 0, 1) := by decide +kernel
theorem dX11_rule_176 : decode cX11_rule 176 = .ok (.getfield 35, 3) := by decide +kernel
theorem dX11_rule_179 : decode cX11_rule 179 = .ok (.iload 9, 2) := by decide +kernel
theorem dX11_rule_181 : decode cX11_rule 181 = .ok (.iload_n 3, 1) := by decide +kernel
theorem dX11_rule_182 : decode cX11_rule 182 = .ok (.iastore, 1) := by decide +kernel
theorem dX11_rule_183 : decode cX11_rule 183 = .ok (.aload_n 0, 1) := by decide +kernel
theorem dX11_rule_184 : decode cX11_rule 184 = .ok (.getfield 38, 3) := by decide +kernel
theorem dX11_rule_187 : decode cX11_rule 187 = .ok (.iload 9, 2) := by decide +kernel
theorem dX11_rule_189 : decode cX11_rule 189 = .ok (.iload 4, 2) := by decide +kernel
theorem dX11_rule_191 : decode cX11_rule 191 = .ok (.iastore, 1) := by decide +kernel
theorem dX11_rule_192 : decode cX11_rule 192 = .ok (.aload_n 0, 1) := by decide +kernel
theorem dX11_rule_193 : decode cX11_rule 193 = .ok (.getfield 41, 3) := by decide +kernel
theorem dX11_rule_196 : decode cX11_rule 196 = .ok (.iload 9, 2) := by decide +kernel
theorem dX11_rule_198 : decode cX11_rule 198 = .ok (.iload 5, 2) := by decide +kernel
theorem dX11_rule_200 : decode cX11_rule 200 = .ok (.iastore, 1) := by decide +kernel
theorem dX11_rule_201 : decode cX11_rule 201 = .ok (.aload_n 0, 1) := by decide +kernel
theorem dX11_rule_202 : decode cX11_rule 202 = .ok (.getfield 26, 3) := by decide +kernel
theorem dX11_rule_205 : decode cX11_rule 205 = .ok (.iload_n 1, 1) := by decide +kernel
theorem dX11_rule_206 : decode cX11_rule 206 = .ok (.iconst 1, 1) := by decide +kernel
theorem dX11_rule_207 : decode cX11_rule 207 = .ok (.bastore, 1) := by decide +kernel
theorem dX11_rule_208 : decode cX11_rule 208 = .ok (.aload_n 0, 1) := by decide +kernel
theorem dX11_rule_209 : decode cX11_rule 209 = .ok (.getfield 29, 3) := by decide +kernel
theorem dX11_rule_212 : decode cX11_rule 212 = .ok (.iload_n 1, 1) := by decide +kernel
theorem dX11_rule_213 : decode cX11_rule 213 = .ok (.dup2, 1) := by decide +kernel
theorem dX11_rule_214 : decode cX11_rule 214 = .ok (.iaload, 1) := by decide +kernel
theorem dX11_rule_215 : decode cX11_rule 215 = .ok (.iconst 1, 1) := by decide +kernel
theorem dX11_rule_216 : decode cX11_rule 216 = .ok (.iadd, 1) := by decide +kernel
theorem dX11_rule_217 : decode cX11_rule 217 = .ok (.iastore, 1) := by decide +kernel
theorem dX11_rule_218 : decode cX11_rule 218 = .ok (.aload_n 0, 1) := by decide +kernel
theorem dX11_rule_219 : decode cX11_rule 219 = .ok (.getfield 29, 3) := by decide +kernel
theorem dX11_rule_222 : decode cX11_rule 222 = .ok (.iload_n 1, 1) := by decide +kernel
theorem dX11_rule_223 : decode cX11_rule 223 = .ok (.iaload, 1) := by decide +kernel
theorem dX11_rule_224 : decode cX11_rule 224 = .ok (.ireturn, 1) := by decide +kernel
