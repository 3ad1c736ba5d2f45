theorem dX11_key_0 : decode cX11_key 0 = .ok (.aload_n 0, 1) := by decide +kernel
theorem dX11_key_1 : decode cX11_key 1 = .ok (.iload_n 1, 1) := by decide +kernel
theorem dX11_key_2 : decode cX11_key 2 = .ok (.invokevirtual 132, 3) := by decide +kernel
theorem dX11_key_5 : decode cX11_key 5 = .ok (.ifCond .eq 22, 3) := by decide +kernel
theorem dX11_key_8 : decode cX11_key 8 = .ok (.iload_n 2, 1) := by decide +kernel
theorem dX11_key_9 : decode cX11_key 9 = .ok (.ifCond .lt 18, 3) := by decide +kernel
theorem dX11_key_12 : decode cX11_key 12 = .ok (.iload_n 2, 1) := by decide +kernel
theorem dX11_key_13 : decode cX11_key 13 = .ok (.iconst 1, 1) := by decide +kernel
theorem dX11_key_14 : decode cX11_key 14 = .ok (.if_icmp .gt 13, 3) := by decide +kernel
theorem dX11_key_17 : decode cX11_key 17 = .ok (.iload_n 3, 1) := by decide +kernel
theorem dX11_key_18 : decode cX11_key 18 = .ok (.ifCond .lt 9, 3) := by decide +kernel
theorem dX11_key_21 : decode cX11_key 21 = .ok (.iload_n 3, 1) := by decide +kernel
theorem dX11_key_22 : decode cX11_key 22 = .ok (.ldc 140, 2) := by decide +kernel
theorem dX11_key_24 : decode cX11_key 24 = .ok (.if_icmp .le 5, 3) := by decide +kernel
theorem dX11_key_27 : decode cX11_key 27 = .ok (.iconst 0, 1) := by decide +kernel
theorem dX11_key_28 : decode cX11_key 28 = .ok (.ireturn, 1) := by decide +kernel
theorem dX11_key_29 : decode cX11_key 29 = .ok (.aload_n 0, 1) := by decide +kernel
theorem dX11_key_30 : decode cX11_key 30 = .ok (.getfield 47, 3) := by decide +kernel
theorem dX11_key_33 : decode cX11_key 33 = .ok (.iconst 2, 1) := by decide +kernel
theorem dX11_key_34 : decode cX11_key 34 = .ok (.iload_n 1, 1) := by decide +kernel
theorem dX11_key_35 : decode cX11_key 35 = .ok (.imul, 1) := by decide +kernel
theorem dX11_key_36 : decode cX11_key 36 = .ok (.iload_n 2, 1) := by decide +kernel
theorem dX11_key_37 : decode cX11_key 37 = .ok (.iadd, 1) := by decide +kernel
theorem dX11_key_38 : decode cX11_key 38 = .ok (.iload_n 3, 1) := by decide +kernel
theorem dX11_key_39 : decode cX11_key 39 = .ok (.iastore, 1) := by decide +kernel
theorem dX11_key_40 : decode cX11_key 40 = .ok (.iconst 1, 1) := by decide +kernel
theorem dX11_key_41 : decode cX11_key 41 = .ok (.ireturn, 1) := by decide +kernel
theorem dX11_policy_0 : decode cX11_policy 0 = .ok (.iload_n 2, 1) := by decide +kernel
theorem dX11_policy_1 : decode cX11_policy 1 = .ok (.ifCond .lt 44, 3) := by decide +kernel
theorem dX11_policy_4 : decode cX11_policy 4 = .ok (.iload_n 2, 1) := by decide +kernel
theorem dX11_policy_5 : decode cX11_policy 5 = .ok (.iconst 2, 1) := by decide +kernel
theorem dX11_policy_6 : decode cX11_policy 6 = .ok (.if_icmp .gt 39, 3) := by decide +kernel
theorem dX11_policy_9 : decode cX11_policy 9 = .ok (.iload_n 3, 1) := by decide +kernel
theorem dX11_policy_10 : decode cX11_policy 10 = .ok (.ifCond .lt 35, 3) := by decide +kernel
theorem dX11_policy_13 : decode cX11_policy 13 = .ok (.iload_n 3, 1) := by decide +kernel
theorem dX11_policy_14 : decode cX11_policy 14 = .ok (.iconst 2, 1) := by decide +kernel
theorem dX11_policy_15 : decode cX11_policy 15 = .ok (.if_icmp .gt 30, 3) := by decide +kernel
theorem dX11_policy_18 : decode cX11_policy 18 = .ok (.iload 4, 2) := by decide +kernel
theorem dX11_policy_20 : decode cX11_policy 20 = .ok (.ifCond .lt 25, 3) := by decide +kernel
theorem dX11_policy_23 : decode cX11_policy 23 = .ok (.iload 4, 2) := by decide +kernel
theorem dX11_policy_25 : decode cX11_policy 25 = .ok (.iconst 3, 1) := by decide +kernel
theorem dX11_policy_26 : decode cX11_policy 26 = .ok (.if_icmp .gt 19, 3) := by decide +kernel
theorem dX11_policy_29 : decode cX11_policy 29 = .ok (.iload 5, 2) := by decide +kernel
theorem dX11_policy_31 : decode cX11_policy 31 = .ok (.ifCond .lt 14, 3) := by decide +kernel
theorem dX11_policy_34 : decode cX11_policy 34 = .ok (.iload 5, 2) := by decide +kernel
theorem dX11_policy_36 : decode cX11_policy 36 = .ok (.bipush 100, 2) := by decide +kernel
theorem dX11_policy_38 : decode cX11_policy 38 = .ok (.if_icmp .gt 7, 3) := by decide +kernel
theorem dX11_policy_41 : decode cX11_policy 41 = .ok (.iconst 1, 1) := by decide +kernel
theorem dX11_policy_42 : decode cX11_policy 42 = .ok (.goto 4, 3) := by decide +kernel
theorem dX11_policy_45 : decode cX11_policy 45 = .ok (.iconst 0, 1) := by decide +kernel
theorem dX11_policy_46 : decode cX11_policy 46 = .ok (.istore 6, 2) := by decide +kernel
theorem dX11_policy_48 : decode cX11_policy 48 = .ok (.aload_n 0, 1) := by decide +kernel
theorem dX11_policy_49 : decode cX11_policy 49 = .ok (.iload_n 1, 1) := by decide +kernel
theorem dX11_policy_50 : decode cX11_policy 50 = .ok (.invokevirtual 132, 3) := by decide +kernel
theorem dX11_policy_53 : decode cX11_policy 53 = .ok (.ifCond .eq 13, 3) := by decide +kernel
theorem dX11_policy_56 : decode cX11_policy 56 = .ok (.iload_n 2, 1) := by decide +kernel
theorem dX11_policy_57 : decode cX11_policy 57 = .ok (.iconst (-1), 1) := by decide +kernel
theorem dX11_policy_58 : decode cX11_policy 58 = .ok (.if_icmp .eq 10, 3) := by decide +kernel
theorem dX11_policy_61 : decode cX11_policy 61 = .ok (.iload 6, 2) := by decide +kernel
theorem dX11_policy_63 : decode cX11_policy 63 = .ok (.ifCond .ne 5, 3) := by decide +kernel
theorem dX11_policy_66 : decode cX11_policy 66 = .ok (.iconst 0, 1) := by decide +kernel
theorem dX11_policy_67 : decode cX11_policy 67 = .ok (.ireturn, 1) := by decide +kernel
theorem dX11_policy_68 : decode cX11_policy 68 = .ok (.aload_n 0, 1) := by decide +kernel
theorem dX11_policy_69 : decode cX11_policy 69 = .ok (.getfield 50, 3) := by decide +kernel
theorem dX11_policy_72 : decode cX11_policy 72 = .ok (.iload_n 1, 1) := by decide +kernel
theorem dX11_policy_73 : decode cX11_policy 73 = .ok (.iload_n 2, 1) := by decide +kernel
theorem dX11_policy_74 : decode cX11_policy 74 = .ok (.iastore, 1) := by decide +kernel
theorem dX11_policy_75 : decode cX11_policy 75 = .ok (.aload_n 0, 1) := by decide +kernel
theorem dX11_policy_76 : decode cX11_policy 76 = .ok (.getfield 53, 3) := by decide +kernel
theorem dX11_policy_79 : decode cX11_policy 79 = .ok (.iload_n 1, 1) := by decide +kernel
theorem dX11_policy_80 : decode cX11_policy 80 = .ok (.iload_n 3, 1) := by decide +kernel
theorem dX11_policy_81 : decode cX11_policy 81 = .ok (.iastore, 1) := by decide +kernel
theorem dX11_policy_82 : decode cX11_policy 82 = .ok (.aload_n 0, 1) := by decide +kernel
theorem dX11_policy_83 : decode cX11_policy 83 = .ok (.getfield 56, 3) := by decide +kernel
theorem dX11_policy_86 : decode cX11_policy 86 = .ok (.iload_n 1, 1) := by decide +kernel
theorem dX11_policy_87 : decode cX11_policy 87 = .ok (.iload 4, 2) := by decide +kernel
theorem dX11_policy_89 : decode cX11_policy 89 = .ok (.iastore, 1) := by decide +kernel
theorem dX11_policy_90 : decode cX11_policy 90 = .ok (.aload_n 0, 1) := by decide +kernel
theorem dX11_policy_91 : decode cX11_policy 91 = .ok (.getfield 59, 3) := by decide +kernel
theorem dX11_policy_94 : decode cX11_policy 94 = .ok (.iload_n 1, 1) := by decide +kernel
theorem dX11_policy_95 : decode cX11_policy 95 = .ok (.iload 5, 2) := by decide +kernel
theorem dX11_policy_97 : decode cX11_policy 97 = .ok (.iastore, 1) := by decide +kernel
theorem dX11_policy_98 : decode cX11_policy 98 = .ok (.iconst 1, 1) := by decide +kernel
theorem dX11_policy_99 : decode cX11_policy 99 = .ok (.ireturn, 1) := by decide +kernel
theorem dX11_sender_0 : decode cX11_sender 0 = .ok (.aload_n 0, 1) := by decide +kernel
theorem dX11_sender_1 : decode cX11_sender 1 = .ok (.getfield 190, 3) := by decide +kernel
theorem dX11_sender_4 : decode cX11_sender 4 = .ok (.ifCond .eq 10, 3) := by decide +kernel
theorem dX11_sender_7 : decode cX11_sender 7 = .ok (.aload_n 0, 1) := by decide +kernel
theorem dX11_sender_8 : decode cX11_sender 8 = .ok (.invokevirtual 194, 3) := by decide +kernel
theorem dX11_sender_11 : decode cX11_sender 11 = .ok (.goto 4, 3) := by decide +kernel
theorem dX11_sender_14 : decode cX11_sender 14 = .ok (.iconst (-1), 1) := by decide +kernel
theorem dX11_sender_15 : decode cX11_sender 15 = .ok (.ireturn, 1) := by decide +kernel
theorem dX11_checkSender_0 : decode cX11_checkSender 0 = .ok (.aload_n 0, 1) := by decide +kernel
theorem dX11_checkSender_1 : decode cX11_checkSender 1 = .ok (.iconst 0, 1) := by decide +kernel
theorem dX11_checkSender_2 : decode cX11_checkSender 2 = .ok (.putfield 151, 3) := by decide +kernel
theorem dX11_checkSender_5 : decode cX11_checkSender 5 = .ok (.aload_n 0, 1) := by decide +kernel
theorem dX11_checkSender_6 : decode cX11_checkSender 6 = .ok (.iconst 0, 1) := by decide +kernel
theorem dX11_checkSender_7 : decode cX11_checkSender 7 = .ok (.putfield 148, 3) := by decide +kernel
theorem dX11_checkSender_10 : decode cX11_checkSender 10 = .ok (.aload_n 0, 1) := by decide +kernel
theorem dX11_checkSender_11 : decode cX11_checkSender 11 = .ok (.getfield 17, 3) := by decide +kernel
theorem dX11_checkSender_14 : decode cX11_checkSender 14 = .ok (.aload_n 0, 1) := by decide +kernel
theorem dX11_checkSender_15 : decode cX11_checkSender 15 = .ok (.getfield 184, 3) := by decide +kernel
theorem dX11_checkSender_18 : decode cX11_checkSender 18 = .ok (.baload, 1) := by decide +kernel
theorem dX11_checkSender_19 : decode cX11_checkSender 19 = .ok (.ifCond .ne 15, 3) := by decide +kernel
theorem dX11_checkSender_22 : decode cX11_checkSender 22 = .ok (.aload_n 0, 1) := by decide +kernel
theorem dX11_checkSender_23 : decode cX11_checkSender 23 = .ok (.getfield 26, 3) := by decide +kernel
theorem dX11_checkSender_26 : decode cX11_checkSender 26 = .ok (.aload_n 0, 1) := by decide +kernel
theorem dX11_checkSender_27 : decode cX11_checkSender 27 = .ok (.getfield 184, 3) := by decide +kernel
theorem dX11_checkSender_30 : decode cX11_checkSender 30 = .ok (.baload, 1) := by decide +kernel
theorem dX11_checkSender_31 : decode cX11_checkSender 31 = .ok (.ifCond .ne 21, 3) := by decide +kernel
theorem dX11_checkSender_34 : decode cX11_checkSender 34 = .ok (.aload_n 0, 1) := by decide +kernel
theorem dX11_checkSender_35 : decode cX11_checkSender 35 = .ok (.getfield 17, 3) := by decide +kernel
theorem dX11_checkSender_38 : decode cX11_checkSender 38 = .ok (.aload_n 0, 1) := by decide +kernel
theorem dX11_checkSender_39 : decode cX11_checkSender 39 = .ok (.getfield 184, 3) := by decide +kernel
theorem dX11_checkSender_42 : decode cX11_checkSender 42 = .ok (.baload, 1) := by decide +kernel
theorem dX11_checkSender_43 : decode cX11_checkSender 43 = .ok (.ifCond .eq 7, 3) := by decide +kernel
theorem dX11_checkSender_46 : decode cX11_checkSender 46 = .ok (.iconst 5, 1) := by decide +kernel
theorem dX11_checkSender_47 : decode cX11_checkSender 47 = .ok (.goto 4, 3) := by decide +kernel
theorem dX11_checkSender_50 : decode cX11_checkSender 50 = .ok (.iconst 0, 1) := by decide +kernel
theorem dX11_checkSender_51 : decode cX11_checkSender 51 = .ok (.ireturn, 1) := by decide +kernel
theorem dX11_checkSender_52 : decode cX11_checkSender 52 = .ok (.aload_n 0, 1) := by decide +kernel
theorem dX11_checkSender_53 : decode cX11_checkSender 53 = .ok (.iconst 0, 1) := by decide +kernel
theorem dX11_checkSender_54 : decode cX11_checkSender 54 = .ok (.putfield 165, 3) := by decide +kernel
theorem dX11_checkSender_57 : decode cX11_checkSender 57 = .ok (.aload_n 0, 1) := by decide +kernel
theorem dX11_checkSender_58 : decode cX11_checkSender 58 = .ok (.aload_n 0, 1) := by decide +kernel
theorem dX11_checkSender_59 : decode cX11_checkSender 59 = .ok (.getfield 184, 3) := by decide +kernel
theorem dX11_checkSender_62 : decode cX11_checkSender 62 = .ok (.invokevirtual 177, 3) := by decide +kernel
theorem dX11_checkSender_65 : decode cX11_checkSender 65 = .ok (.iconst (-1), 1) := by decide +kernel
theorem dX11_checkSender_66 : decode cX11_checkSender 66 = .ok (.istore_n 1, 1) := by decide +kernel
theorem dX11_checkSender_67 : decode cX11_checkSender 67 = .ok (.iconst 0, 1) := by decide +kernel
theorem dX11_checkSender_68 : decode cX11_checkSender 68 = .ok (.istore_n 2, 1) := by decide +kernel
theorem dX11_checkSender_69 : decode cX11_checkSender 69 = .ok (.iload_n 2, 1) := by decide +kernel
theorem dX11_checkSender_70 : decode cX11_checkSender 70 = .ok (.sipush 200, 3) := by decide +kernel
theorem dX11_checkSender_73 : decode cX11_checkSender 73 = .ok (.if_icmp .ge 18, 3) := by decide +kernel
theorem dX11_checkSender_76 : decode cX11_checkSender 76 = .ok (.iload_n 1, 1) := by decide +kernel
theorem dX11_checkSender_77 : decode cX11_checkSender 77 = .ok (.ifCond .ge 14, 3) := by decide +kernel
theorem dX11_checkSender_80 : decode cX11_checkSender 80 = .ok (.aload_n 0, 1) := by decide +kernel
theorem dX11_checkSender_81 : decode cX11_checkSender 81 = .ok (.invokevirtual 187, 3) := by decide +kernel
theorem dX11_checkSender_84 : decode cX11_checkSender 84 = .ok (.istore_n 1, 1) := by decide +kernel
theorem dX11_checkSender_85 : decode cX11_checkSender 85 = .ok (.iinc 2 1, 3) := by decide +kernel
theorem dX11_checkSender_88 : decode cX11_checkSender 88 = .ok (.goto (-19), 3) := by decide +kernel
theorem dX11_checkSender_91 : decode cX11_checkSender 91 = .ok (.iload_n 1, 1) := by decide +kernel
theorem dX11_checkSender_92 : decode cX11_checkSender 92 = .ok (.ireturn, 1) := by decide +kernel
theorem dX11_wait_0 : decode cX11_wait 0 = .ok (.aload_n 0, 1) := by decide +kernel
theorem dX11_wait_1 : decode cX11_wait 1 = .ok (.getfield 107, 3) := by decide +kernel
theorem dX11_wait_4 : decode cX11_wait 4 = .ok (.aload_n 0, 1) := by decide +kernel
theorem dX11_wait_5 : decode cX11_wait 5 = .ok (.getfield 165, 3) := by decide +kernel
theorem dX11_wait_8 : decode cX11_wait 8 = .ok (.iload_n 1, 1) := by decide +kernel
theorem dX11_wait_9 : decode cX11_wait 9 = .ok (.iastore, 1) := by decide +kernel
theorem dX11_wait_10 : decode cX11_wait 10 = .ok (.aload_n 0, 1) := by decide +kernel
theorem dX11_wait_11 : decode cX11_wait 11 = .ok (.getfield 110, 3) := by decide +kernel
theorem dX11_wait_14 : decode cX11_wait 14 = .ok (.aload_n 0, 1) := by decide +kernel
theorem dX11_wait_15 : decode cX11_wait 15 = .ok (.getfield 165, 3) := by decide +kernel
theorem dX11_wait_18 : decode cX11_wait 18 = .ok (.iconst 0, 1) := by decide +kernel
theorem dX11_wait_19 : decode cX11_wait 19 = .ok (.iastore, 1) := by decide +kernel
theorem dX11_wait_20 : decode cX11_wait 20 = .ok (.aload_n 0, 1) := by decide +kernel
theorem dX11_wait_21 : decode cX11_wait 21 = .ok (.dup, 1) := by decide +kernel
theorem dX11_wait_22 : decode cX11_wait 22 = .ok (.getfield 165, 3) := by decide +kernel
theorem dX11_wait_25 : decode cX11_wait 25 = .ok (.iconst 1, 1) := by decide +kernel
theorem dX11_wait_26 : decode cX11_wait 26 = .ok (.iadd, 1) := by decide +kernel
theorem dX11_wait_27 : decode cX11_wait 27 = .ok (.putfield 165, 3) := by decide +kernel
theorem dX11_wait_30 : decode cX11_wait 30 = .ok (.return_, 1) := by decide +kernel
theorem dX11_stepOn_0 : decode cX11_stepOn 0 = .ok (.aload_n 0, 1) := by decide +kernel
theorem dX11_stepOn_1 : decode cX11_stepOn 1 = .ok (.getfield 107, 3) := by decide +kernel
theorem dX11_stepOn_4 : decode cX11_stepOn 4 = .ok (.aload_n 0, 1) := by decide +kernel
theorem dX11_stepOn_5 : decode cX11_stepOn 5 = .ok (.getfield 165, 3) := by decide +kernel
theorem dX11_stepOn_8 : decode cX11_stepOn 8 = .ok (.iconst 1, 1) := by decide +kernel
theorem dX11_stepOn_9 : decode cX11_stepOn 9 = .ok (.isub, 1) := by decide +kernel
theorem dX11_stepOn_10 : decode cX11_stepOn 10 = .ok (.iaload, 1) := by decide +kernel
theorem dX11_stepOn_11 : decode cX11_stepOn 11 = .ok (.istore_n 1, 1) := by decide +kernel
theorem dX11_stepOn_12 : decode cX11_stepOn 12 = .ok (.aload_n 0, 1) := by decide +kernel
theorem dX11_stepOn_13 : decode cX11_stepOn 13 = .ok (.getfield 110, 3) := by decide +kernel
theorem dX11_stepOn_16 : decode cX11_stepOn 16 = .ok (.aload_n 0, 1) := by decide +kernel
theorem dX11_stepOn_17 : decode cX11_stepOn 17 = .ok (.getfield 165, 3) := by decide +kernel
theorem dX11_stepOn_20 : decode cX11_stepOn 20 = .ok (.iconst 1, 1) := by decide +kernel
theorem dX11_stepOn_21 : decode cX11_stepOn 21 = .ok (.isub, 1) := by decide +kernel
theorem dX11_stepOn_22 : decode cX11_stepOn 22 = .ok (.iaload, 1) := by decide +kernel
theorem dX11_stepOn_23 : decode cX11_stepOn 23 = .ok (.istore_n 2, 1) := by decide +kernel
theorem dX11_stepOn_24 : decode cX11_stepOn 24 = .ok (.iload_n 2, 1) := by decide +kernel
theorem dX11_stepOn_25 : decode cX11_stepOn 25 = .ok (.aload_n 0, 1) := by decide +kernel
theorem dX11_stepOn_26 : decode cX11_stepOn 26 = .ok (.getfield 29, 3) := by decide +kernel
theorem dX11_stepOn_29 : decode cX11_stepOn 29 = .ok (.iload_n 1, 1) := by decide +kernel
theorem dX11_stepOn_30 : decode cX11_stepOn 30 = .ok (.iaload, 1) := by decide +kernel
theorem dX11_stepOn_31 : decode cX11_stepOn 31 = .ok (.if_icmp .ne 31, 3) := by decide +kernel
theorem dX11_stepOn_34 : decode cX11_stepOn 34 = .ok (.aload_n 0, 1) := by decide +kernel
theorem dX11_stepOn_35 : decode cX11_stepOn 35 = .ok (.getfield 44, 3) := by decide +kernel
theorem dX11_stepOn_38 : decode cX11_stepOn 38 = .ok (.iload_n 1, 1) := by decide +kernel
theorem dX11_stepOn_39 : decode cX11_stepOn 39 = .ok (.iaload, 1) := by decide +kernel
theorem dX11_stepOn_40 : decode cX11_stepOn 40 = .ok (.ifCond .ge 11, 3) := by decide +kernel
theorem dX11_stepOn_43 : decode cX11_stepOn 43 = .ok (.aload_n 0, 1) := by decide +kernel
theorem dX11_stepOn_44 : decode cX11_stepOn 44 = .ok (.iconst 4, 1) := by decide +kernel
theorem dX11_stepOn_45 : decode cX11_stepOn 45 = .ok (.invokevirtual 168, 3) := by decide +kernel
theorem dX11_stepOn_48 : decode cX11_stepOn 48 = .ok (.goto 13, 3) := by decide +kernel
theorem dX11_stepOn_51 : decode cX11_stepOn 51 = .ok (.aload_n 0, 1) := by decide +kernel
theorem dX11_stepOn_52 : decode cX11_stepOn 52 = .ok (.aload_n 0, 1) := by decide +kernel
theorem dX11_stepOn_53 : decode cX11_stepOn 53 = .ok (.getfield 44, 3) := by decide +kernel
theorem dX11_stepOn_56 : decode cX11_stepOn 56 = .ok (.iload_n 1, 1) := by decide +kernel
theorem dX11_stepOn_57 : decode cX11_stepOn 57 = .ok (.iaload, 1) := by decide +kernel
theorem dX11_stepOn_58 : decode cX11_stepOn 58 = .ok (.invokevirtual 171, 3) := by decide +kernel
theorem dX11_stepOn_61 : decode cX11_stepOn 61 = .ok (.ireturn, 1) := by decide +kernel
theorem dX11_stepOn_62 : decode cX11_stepOn 62 = .ok (.bipush 6, 2) := by decide +kernel
theorem dX11_stepOn_64 : decode cX11_stepOn 64 = .ok (.iload_n 1, 1) := by decide +kernel
theorem dX11_stepOn_65 : decode cX11_stepOn 65 = .ok (.imul, 1) := by decide +kernel
theorem dX11_stepOn_66 : decode cX11_stepOn 66 = .ok (.iload_n 2, 1) := by decide +kernel
theorem dX11_stepOn_67 : decode cX11_stepOn 67 = .ok (.iadd, 1) := by decide +kernel
theorem dX11_stepOn_68 : decode cX11_stepOn 68 = .ok (.istore_n 3, 1) := by decide +kernel
theorem dX11_stepOn_69 : decode cX11_stepOn 69 = .ok (.aload_n 0, 1) := by decide +kernel
theorem dX11_stepOn_70 : decode cX11_stepOn 70 = .ok (.getfield 35, 3) := by decide +kernel
theorem dX11_stepOn_73 : decode cX11_stepOn 73 = .ok (.iload_n 3, 1) := by decide +kernel
theorem dX11_stepOn_74 : decode cX11_stepOn 74 = .ok (.iaload, 1) := by decide +kernel
theorem dX11_stepOn_75 : decode cX11_stepOn 75 = .ok (.iconst 1, 1) := by decide +kernel
theorem dX11_stepOn_76 : decode cX11_stepOn 76 = .ok (.if_icmp .le 13, 3) := by decide +kernel
theorem dX11_stepOn_79 : decode cX11_stepOn 79 = .ok (.aload_n 0, 1) := by decide +kernel
theorem dX11_stepOn_80 : decode cX11_stepOn 80 = .ok (.invokevirtual 174, 3) := by decide +kernel
theorem dX11_stepOn_83 : decode cX11_stepOn 83 = .ok (.ifCond .le 6, 3) := by decide +kernel
theorem dX11_stepOn_86 : decode cX11_stepOn 86 = .ok (.bipush 6, 2) := by decide +kernel
theorem dX11_stepOn_88 : decode cX11_stepOn 88 = .ok (.ireturn, 1) := by decide +kernel
theorem dX11_stepOn_89 : decode cX11_stepOn 89 = .ok (.aload_n 0, 1) := by decide +kernel
theorem dX11_stepOn_90 : decode cX11_stepOn 90 = .ok (.getfield 35, 3) := by decide +kernel
theorem dX11_stepOn_93 : decode cX11_stepOn 93 = .ok (.iload_n 3, 1) := by decide +kernel
theorem dX11_stepOn_94 : decode cX11_stepOn 94 = .ok (.iaload, 1) := by decide +kernel
theorem dX11_stepOn_95 : decode cX11_stepOn 95 = .ok (.iconst 4, 1) := by decide +kernel
theorem dX11_stepOn_96 : decode cX11_stepOn 96 = .ok (.if_icmp .ne 56, 3) := by decide +kernel
theorem dX11_stepOn_99 : decode cX11_stepOn 99 = .ok (.aload_n 0, 1) := by decide +kernel
theorem dX11_stepOn_100 : decode cX11_stepOn 100 = .ok (.getfield 38, 3) := by decide +kernel
theorem dX11_stepOn_103 : decode cX11_stepOn 103 = .ok (.iload_n 3, 1) := by decide +kernel
theorem dX11_stepOn_104 : decode cX11_stepOn 104 = .ok (.iaload, 1) := by decide +kernel
theorem dX11_stepOn_105 : decode cX11_stepOn 105 = .ok (.istore 4, 2) := by decide +kernel
theorem dX11_stepOn_107 : decode cX11_stepOn 107 = .ok (.aload_n 0, 1) := by decide +kernel
theorem dX11_stepOn_108 : decode cX11_stepOn 108 = .ok (.getfield 17, 3) := by decide +kernel
theorem dX11_stepOn_111 : decode cX11_stepOn 111 = .ok (.iload 4, 2) := by decide +kernel
theorem dX11_stepOn_113 : decode cX11_stepOn 113 = .ok (.baload, 1) := by decide +kernel
theorem dX11_stepOn_114 : decode cX11_stepOn 114 = .ok (.ifCond .ne 13, 3) := by decide +kernel
theorem dX11_stepOn_117 : decode cX11_stepOn 117 = .ok (.aload_n 0, 1) := by decide +kernel
theorem dX11_stepOn_118 : decode cX11_stepOn 118 = .ok (.getfield 26, 3) := by decide +kernel
theorem dX11_stepOn_121 : decode cX11_stepOn 121 = .ok (.iload 4, 2) := by decide +kernel
theorem dX11_stepOn_123 : decode cX11_stepOn 123 = .ok (.baload, 1) := by decide +kernel
theorem dX11_stepOn_124 : decode cX11_stepOn 124 = .ok (.ifCond .ne 20, 3) := by decide +kernel
theorem dX11_stepOn_127 : decode cX11_stepOn 127 = .ok (.aload_n 0, 1) := by decide +kernel
theorem dX11_stepOn_128 : decode cX11_stepOn 128 = .ok (.getfield 17, 3) := by decide +kernel
theorem dX11_stepOn_131 : decode cX11_stepOn 131 = .ok (.iload 4, 2) := by decide +kernel
theorem dX11_stepOn_133 : decode cX11_stepOn 133 = .ok (.baload, 1) := by decide +kernel
theorem dX11_stepOn_134 : decode cX11_stepOn 134 = .ok (.ifCond .eq 7, 3) := by decide +kernel
theorem dX11_stepOn_137 : decode cX11_stepOn 137 = .ok (.iconst 5, 1) := by decide +kernel
theorem dX11_stepOn_138 : decode cX11_stepOn 138 = .ok (.goto 5, 3) := by decide +kernel
theorem dX11_stepOn_141 : decode cX11_stepOn 141 = .ok (.bipush 6, 2) := by decide +kernel
theorem dX11_stepOn_143 : decode cX11_stepOn 143 = .ok (.ireturn, 1) := by decide +kernel
theorem dX11_stepOn_144 : decode cX11_stepOn 144 = .ok (.aload_n 0, 1) := by decide +kernel
theorem dX11_stepOn_145 : decode cX11_stepOn 145 = .ok (.iload 4, 2) := by decide +kernel
theorem dX11_stepOn_147 : decode cX11_stepOn 147 = .ok (.invokevirtual 177, 3) := by decide +kernel
theorem dX11_stepOn_150 : decode cX11_stepOn 150 = .ok (.iconst (-1), 1) := by decide +kernel
theorem dX11_stepOn_151 : decode cX11_stepOn 151 = .ok (.ireturn, 1) := by decide +kernel
theorem dX11_stepOn_152 : decode cX11_stepOn 152 = .ok (.aload_n 0, 1) := by decide +kernel
theorem dX11_stepOn_153 : decode cX11_stepOn 153 = .ok (.iload_n 3, 1) := by decide +kernel
theorem dX11_stepOn_154 : decode cX11_stepOn 154 = .ok (.invokevirtual 181, 3) := by decide +kernel
theorem dX11_stepOn_157 : decode cX11_stepOn 157 = .ok (.istore 4, 2) := by decide +kernel
theorem dX11_stepOn_159 : decode cX11_stepOn 159 = .ok (.iload 4, 2) := by decide +kernel
theorem dX11_stepOn_161 : decode cX11_stepOn 161 = .ok (.iconst 1, 1) := by decide +kernel
theorem dX11_stepOn_162 : decode cX11_stepOn 162 = .ok (.if_icmp .le 6, 3) := by decide +kernel
theorem dX11_stepOn_165 : decode cX11_stepOn 165 = .ok (.iload 4, 2) := by decide +kernel
theorem dX11_stepOn_167 : decode cX11_stepOn 167 = .ok (.ireturn, 1) := by decide +kernel
theorem dX11_stepOn_168 : decode cX11_stepOn 168 = .ok (.iload 4, 2) := by decide +kernel
theorem dX11_stepOn_170 : decode cX11_stepOn 170 = .ok (.iconst 1, 1) := by decide +kernel
theorem dX11_stepOn_171 : decode cX11_stepOn 171 = .ok (.if_icmp .ne 16, 3) := by decide +kernel
theorem dX11_stepOn_174 : decode cX11_stepOn 174 = .ok (.aload_n 0, 1) := by decide +kernel
theorem dX11_stepOn_175 : decode cX11_stepOn 175 = .ok (.aload_n 0, 1) := by decide +kernel
theorem dX11_stepOn_176 : decode cX11_stepOn 176 = .ok (.getfield 32, 3) := by decide +kernel
theorem dX11_stepOn_179 : decode cX11_stepOn 179 = .ok (.iload_n 3, 1) := by decide +kernel
theorem dX11_stepOn_180 : decode cX11_stepOn 180 = .ok (.iaload, 1) := by decide +kernel
theorem dX11_stepOn_181 : decode cX11_stepOn 181 = .ok (.iconst 1, 1) := by decide +kernel
theorem dX11_stepOn_182 : decode cX11_stepOn 182 = .ok (.iadd, 1) := by decide +kernel
theorem dX11_stepOn_183 : decode cX11_stepOn 183 = .ok (.invokevirtual 168, 3) := by decide +kernel
theorem dX11_stepOn_186 : decode cX11_stepOn 186 = .ok (.ireturn, 1) := by decide +kernel
theorem dX11_stepOn_187 : decode cX11_stepOn 187 = .ok (.aload_n 0, 1) := by decide +kernel
theorem dX11_stepOn_188 : decode cX11_stepOn 188 = .ok (.getfield 110, 3) := by decide +kernel
theorem dX11_stepOn_191 : decode cX11_stepOn 191 = .ok (.aload_n 0, 1) := by decide +kernel
theorem dX11_stepOn_192 : decode cX11_stepOn 192 = .ok (.getfield 165, 3) := by decide +kernel
theorem dX11_stepOn_195 : decode cX11_stepOn 195 = .ok (.iconst 1, 1) := by decide +kernel
theorem dX11_stepOn_196 : decode cX11_stepOn 196 = .ok (.isub, 1) := by decide +kernel
theorem dX11_stepOn_197 : decode cX11_stepOn 197 = .ok (.dup2, 1) := by decide +kernel
theorem dX11_stepOn_198 : decode cX11_stepOn 198 = .ok (.iaload, 1) := by decide +kernel
theorem dX11_stepOn_199 : decode cX11_stepOn 199 = .ok (.iconst 1, 1) := by decide +kernel
theorem dX11_stepOn_200 : decode cX11_stepOn 200 = .ok (.iadd, 1) := by decide +kernel
theorem dX11_stepOn_201 : decode cX11_stepOn 201 = .ok (.iastore, 1) := by decide +kernel
theorem dX11_stepOn_202 : decode cX11_stepOn 202 = .ok (.iconst (-1), 1) := by decide +kernel
theorem dX11_stepOn_203 : decode cX11_stepOn 203 = .ok (.ireturn, 1) := by decide +kernel
theorem dX11_back_0 : decode cX11_back 0 = .ok (.iload_n 1, 1) := by decide +kernel
theorem dX11_back_1 : decode cX11_back 1 = .ok (.istore_n 2, 1) := by decide +kernel
theorem dX11_back_2 : decode cX11_back 2 = .ok (.aload_n 0, 1) := by decide +kernel
theorem dX11_back_3 : decode cX11_back 3 = .ok (.dup, 1) := by decide +kernel
theorem dX11_back_4 : decode cX11_back 4 = .ok (.getfield 165, 3) := by decide +kernel
theorem dX11_back_7 : decode cX11_back 7 = .ok (.iconst 1, 1) := by decide +kernel
theorem dX11_back_8 : decode cX11_back 8 = .ok (.isub, 1) := by decide +kernel
theorem dX11_back_9 : decode cX11_back 9 = .ok (.putfield 165, 3) := by decide +kernel
theorem dX11_back_12 : decode cX11_back 12 = .ok (.aload_n 0, 1) := by decide +kernel
theorem dX11_back_13 : decode cX11_back 13 = .ok (.getfield 165, 3) := by decide +kernel
theorem dX11_back_16 : decode cX11_back 16 = .ok (.ifCond .le 74, 3) := by decide +kernel
theorem dX11_back_19 : decode cX11_back 19 = .ok (.bipush 6, 2) := by decide +kernel
theorem dX11_back_21 : decode cX11_back 21 = .ok (.aload_n 0, 1) := by decide +kernel
theorem dX11_back_22 : decode cX11_back 22 = .ok (.getfield 107, 3) := by decide +kernel
theorem dX11_back_25 : decode cX11_back 25 = .ok (.aload_n 0, 1) := by decide +kernel
theorem dX11_back_26 : decode cX11_back 26 = .ok (.getfield 165, 3) := by decide +kernel
theorem dX11_back_29 : decode cX11_back 29 = .ok (.iconst 1, 1) := by decide +kernel
theorem dX11_back_30 : decode cX11_back 30 = .ok (.isub, 1) := by decide +kernel
theorem dX11_back_31 : decode cX11_back 31 = .ok (.iaload, 1) := by decide +kernel
theorem dX11_back_32 : decode cX11_back 32 = .ok (.imul, 1) := by decide +kernel
theorem dX11_back_33 : decode cX11_back 33 = .ok (.aload_n 0, 1) := by decide +kernel
theorem dX11_back_34 : decode cX11_back 34 = .ok (.getfield 110, 3) := by decide +kernel
theorem dX11_back_37 : decode cX11_back 37 = .ok (.aload_n 0, 1) := by decide +kernel
theorem dX11_back_38 : decode cX11_back 38 = .ok (.getfield 165, 3) := by decide +kernel
theorem dX11_back_41 : decode cX11_back 41 = .ok (.iconst 1, 1) := by decide +kernel
theorem dX11_back_42 : decode cX11_back 42 = .ok (.isub, 1) := by decide +kernel
theorem dX11_back_43 : decode cX11_back 43 = .ok (.iaload, 1) := by decide +kernel
theorem dX11_back_44 : decode cX11_back 44 = .ok (.iadd, 1) := by decide +kernel
theorem dX11_back_45 : decode cX11_back 45 = .ok (.istore_n 3, 1) := by decide +kernel
theorem dX11_back_46 : decode cX11_back 46 = .ok (.iload_n 2, 1) := by decide +kernel
theorem dX11_back_47 : decode cX11_back 47 = .ok (.iconst 1, 1) := by decide +kernel
theorem dX11_back_48 : decode cX11_back 48 = .ok (.if_icmp .eq 20, 3) := by decide +kernel
theorem dX11_back_51 : decode cX11_back 51 = .ok (.aload_n 0, 1) := by decide +kernel
theorem dX11_back_52 : decode cX11_back 52 = .ok (.getfield 110, 3) := by decide +kernel
theorem dX11_back_55 : decode cX11_back 55 = .ok (.aload_n 0, 1) := by decide +kernel
theorem dX11_back_56 : decode cX11_back 56 = .ok (.getfield 165, 3) := by decide +kernel
theorem dX11_back_59 : decode cX11_back 59 = .ok (.iconst 1, 1) := by decide +kernel
theorem dX11_back_60 : decode cX11_back 60 = .ok (.isub, 1) := by decide +kernel
theorem dX11_back_61 : decode cX11_back 61 = .ok (.dup2, 1) := by decide +kernel
theorem dX11_back_62 : decode cX11_back 62 = .ok (.iaload, 1) := by decide +kernel
theorem dX11_back_63 : decode cX11_back 63 = .ok (.iconst 1, 1) := by decide +kernel
theorem dX11_back_64 : decode cX11_back 64 = .ok (.iadd, 1) := by decide +kernel
theorem dX11_back_65 : decode cX11_back 65 = .ok (.iastore, 1) := by decide +kernel
theorem dX11_back_66 : decode cX11_back 66 = .ok (.iconst (-1), 1) := by decide +kernel
theorem dX11_back_67 : decode cX11_back 67 = .ok (.ireturn, 1) := by decide +kernel
theorem dX11_back_68 : decode cX11_back 68 = .ok (.aload_n 0, 1) := by decide +kernel
theorem dX11_back_69 : decode cX11_back 69 = .ok (.getfield 32, 3) := by decide +kernel
theorem dX11_back_72 : decode cX11_back 72 = .ok (.iload_n 3, 1) := by decide +kernel
theorem dX11_back_73 : decode cX11_back 73 = .ok (.iaload, 1) := by decide +kernel
theorem dX11_back_74 : decode cX11_back 74 = .ok (.iconst 1, 1) := by decide +kernel
theorem dX11_back_75 : decode cX11_back 75 = .ok (.iadd, 1) := by decide +kernel
theorem dX11_back_76 : decode cX11_back 76 = .ok (.istore_n 2, 1) := by decide +kernel
theorem dX11_back_77 : decode cX11_back 77 = .ok (.aload_n 0, 1) := by decide +kernel
theorem dX11_back_78 : decode cX11_back 78 = .ok (.dup, 1) := by decide +kernel
theorem dX11_back_79 : decode cX11_back 79 = .ok (.getfield 165, 3) := by decide +kernel
theorem dX11_back_82 : decode cX11_back 82 = .ok (.iconst 1, 1) := by decide +kernel
theorem dX11_back_83 : decode cX11_back 83 = .ok (.isub, 1) := by decide +kernel
theorem dX11_back_84 : decode cX11_back 84 = .ok (.putfield 165, 3) := by decide +kernel
theorem dX11_back_87 : decode cX11_back 87 = .ok (.goto (-75), 3) := by decide +kernel
theorem dX11_back_90 : decode cX11_back 90 = .ok (.iload_n 2, 1) := by decide +kernel
theorem dX11_back_91 : decode cX11_back 91 = .ok (.ireturn, 1) := by decide +kernel
theorem dX11_sendOn_0 : decode cX11_sendOn 0 = .ok (.aload_n 0, 1) := by decide +kernel
theorem dX11_sendOn_1 : decode cX11_sendOn 1 = .ok (.invokevirtual 174, 3) := by decide +kernel
theorem dX11_sendOn_4 : decode cX11_sendOn 4 = .ok (.ifCond .le 6, 3) := by decide +kernel
theorem dX11_sendOn_7 : decode cX11_sendOn 7 = .ok (.bipush 6, 2) := by decide +kernel
theorem dX11_sendOn_9 : decode cX11_sendOn 9 = .ok (.ireturn, 1) := by decide +kernel
theorem dX11_sendOn_10 : decode cX11_sendOn 10 = .ok (.aload_n 0, 1) := by decide +kernel
theorem dX11_sendOn_11 : decode cX11_sendOn 11 = .ok (.getfield 17, 3) := by decide +kernel
theorem dX11_sendOn_14 : decode cX11_sendOn 14 = .ok (.iload_n 1, 1) := by decide +kernel
theorem dX11_sendOn_15 : decode cX11_sendOn 15 = .ok (.baload, 1) := by decide +kernel
theorem dX11_sendOn_16 : decode cX11_sendOn 16 = .ok (.ifCond .ne 12, 3) := by decide +kernel
theorem dX11_sendOn_19 : decode cX11_sendOn 19 = .ok (.aload_n 0, 1) := by decide +kernel
theorem dX11_sendOn_20 : decode cX11_sendOn 20 = .ok (.getfield 26, 3) := by decide +kernel
theorem dX11_sendOn_23 : decode cX11_sendOn 23 = .ok (.iload_n 1, 1) := by decide +kernel
theorem dX11_sendOn_24 : decode cX11_sendOn 24 = .ok (.baload, 1) := by decide +kernel
theorem dX11_sendOn_25 : decode cX11_sendOn 25 = .ok (.ifCond .ne 19, 3) := by decide +kernel
theorem dX11_sendOn_28 : decode cX11_sendOn 28 = .ok (.aload_n 0, 1) := by decide +kernel
theorem dX11_sendOn_29 : decode cX11_sendOn 29 = .ok (.getfield 17, 3) := by decide +kernel
theorem dX11_sendOn_32 : decode cX11_sendOn 32 = .ok (.iload_n 1, 1) := by decide +kernel
theorem dX11_sendOn_33 : decode cX11_sendOn 33 = .ok (.baload, 1) := by decide +kernel
theorem dX11_sendOn_34 : decode cX11_sendOn 34 = .ok (.ifCond .eq 7, 3) := by decide +kernel
theorem dX11_sendOn_37 : decode cX11_sendOn 37 = .ok (.iconst 5, 1) := by decide +kernel
theorem dX11_sendOn_38 : decode cX11_sendOn 38 = .ok (.goto 5, 3) := by decide +kernel
theorem dX11_sendOn_41 : decode cX11_sendOn 41 = .ok (.bipush 6, 2) := by decide +kernel
theorem dX11_sendOn_43 : decode cX11_sendOn 43 = .ok (.ireturn, 1) := by decide +kernel
theorem dX11_sendOn_44 : decode cX11_sendOn 44 = .ok (.aload_n 0, 1) := by decide +kernel
theorem dX11_sendOn_45 : decode cX11_sendOn 45 = .ok (.getfield 107, 3) := by decide +kernel
theorem dX11_sendOn_48 : decode cX11_sendOn 48 = .ok (.aload_n 0, 1) := by decide +kernel
theorem dX11_sendOn_49 : decode cX11_sendOn 49 = .ok (.getfield 165, 3) := by decide +kernel
theorem dX11_sendOn_52 : decode cX11_sendOn 52 = .ok (.iconst 1, 1) := by decide +kernel
theorem dX11_sendOn_53 : decode cX11_sendOn 53 = .ok (.isub, 1) := by decide +kernel
theorem dX11_sendOn_54 : decode cX11_sendOn 54 = .ok (.iload_n 1, 1) := by decide +kernel
theorem dX11_sendOn_55 : decode cX11_sendOn 55 = .ok (.iastore, 1) := by decide +kernel
theorem dX11_sendOn_56 : decode cX11_sendOn 56 = .ok (.aload_n 0, 1) := by decide +kernel
theorem dX11_sendOn_57 : decode cX11_sendOn 57 = .ok (.getfield 110, 3) := by decide +kernel
theorem dX11_sendOn_60 : decode cX11_sendOn 60 = .ok (.aload_n 0, 1) := by decide +kernel
theorem dX11_sendOn_61 : decode cX11_sendOn 61 = .ok (.getfield 165, 3) := by decide +kernel
theorem dX11_sendOn_64 : decode cX11_sendOn 64 = .ok (.iconst 1, 1) := by decide +kernel
theorem dX11_sendOn_65 : decode cX11_sendOn 65 = .ok (.isub, 1) := by decide +kernel
theorem dX11_sendOn_66 : decode cX11_sendOn 66 = .ok (.iconst 0, 1) := by decide +kernel
theorem dX11_sendOn_67 : decode cX11_sendOn 67 = .ok (.iastore, 1) := by decide +kernel
theorem dX11_sendOn_68 : decode cX11_sendOn 68 = .ok (.iconst (-1), 1) := by decide +kernel
theorem dX11_sendOn_69 : decode cX11_sendOn 69 = .ok (.ireturn, 1) := by decide +kernel
theorem dX11_lookup_0 : decode cX11_lookup 0 = .ok (.aload_n 0, 1) := by decide +kernel
theorem dX11_lookup_1 : decode cX11_lookup 1 = .ok (.dup, 1) := by decide +kernel
theorem dX11_lookup_2 : decode cX11_lookup 2 = .ok (.getfield 151, 3) := by decide +kernel
theorem dX11_lookup_5 : decode cX11_lookup 5 = .ok (.iconst 1, 1) := by decide +kernel
theorem dX11_lookup_6 : decode cX11_lookup 6 = .ok (.iadd, 1) := by decide +kernel
theorem dX11_lookup_7 : decode cX11_lookup 7 = .ok (.putfield 151, 3) := by decide +kernel
theorem dX11_lookup_10 : decode cX11_lookup 10 = .ok (.aload_n 0, 1) := by decide +kernel
theorem dX11_lookup_11 : decode cX11_lookup 11 = .ok (.getfield 151, 3) := by decide +kernel
theorem dX11_lookup_14 : decode cX11_lookup 14 = .ok (.bipush 11, 2) := by decide +kernel
theorem dX11_lookup_16 : decode cX11_lookup 16 = .ok (.if_icmp .ne 8, 3) := by decide +kernel
theorem dX11_lookup_19 : decode cX11_lookup 19 = .ok (.bipush 6, 2) := by decide +kernel
theorem dX11_lookup_21 : decode cX11_lookup 21 = .ok (.goto 4, 3) := by decide +kernel
theorem dX11_lookup_24 : decode cX11_lookup 24 = .ok (.iconst 0, 1) := by decide +kernel
theorem dX11_lookup_25 : decode cX11_lookup 25 = .ok (.ireturn, 1) := by decide +kernel
theorem dX11_tryTerm_0 : decode cX11_tryTerm 0 = .ok (.aload_n 0, 1) := by decide +kernel
theorem dX11_tryTerm_1 : decode cX11_tryTerm 1 = .ok (.getfield 38, 3) := by decide +kernel
theorem dX11_tryTerm_4 : decode cX11_tryTerm 4 = .ok (.iload_n 1, 1) := by decide +kernel
theorem dX11_tryTerm_5 : decode cX11_tryTerm 5 = .ok (.iaload, 1) := by decide +kernel
theorem dX11_tryTerm_6 : decode cX11_tryTerm 6 = .ok (.istore_n 2, 1) := by decide +kernel
theorem dX11_tryTerm_7 : decode cX11_tryTerm 7 = .ok (.aload_n 0, 1) := by decide +kernel
theorem dX11_tryTerm_8 : decode cX11_tryTerm 8 = .ok (.getfield 35, 3) := by decide +kernel
theorem dX11_tryTerm_11 : decode cX11_tryTerm 11 = .ok (.iload_n 1, 1) := by decide +kernel
theorem dX11_tryTerm_12 : decode cX11_tryTerm 12 = .ok (.iaload, 1) := by decide +kernel
theorem dX11_tryTerm_13 : decode cX11_tryTerm 13 = .ok (.ifCond .ne 5, 3) := by decide +kernel
theorem dX11_tryTerm_16 : decode cX11_tryTerm 16 = .ok (.iconst 1, 1) := by decide +kernel
theorem dX11_tryTerm_17 : decode cX11_tryTerm 17 = .ok (.ireturn, 1) := by decide +kernel
theorem dX11_tryTerm_18 : decode cX11_tryTerm 18 = .ok (.aload_n 0, 1) := by decide +kernel
theorem dX11_tryTerm_19 : decode cX11_tryTerm 19 = .ok (.getfield 35, 3) := by decide +kernel
theorem dX11_tryTerm_22 : decode cX11_tryTerm 22 = .ok (.iload_n 1, 1) := by decide +kernel
theorem dX11_tryTerm_23 : decode cX11_tryTerm 23 = .ok (.iaload, 1) := by decide +kernel
theorem dX11_tryTerm_24 : decode cX11_tryTerm 24 = .ok (.iconst 1, 1) := by decide +kernel
theorem dX11_tryTerm_25 : decode cX11_tryTerm 25 = .ok (.if_icmp .ne 23, 3) := by decide +kernel
theorem dX11_tryTerm_28 : decode cX11_tryTerm 28 = .ok (.aload_n 0, 1) := by decide +kernel
theorem dX11_tryTerm_29 : decode cX11_tryTerm 29 = .ok (.iload_n 2, 1) := by decide +kernel
theorem dX11_tryTerm_30 : decode cX11_tryTerm 30 = .ok (.aload_n 0, 1) := by decide +kernel
theorem dX11_tryTerm_31 : decode cX11_tryTerm 31 = .ok (.getfield 41, 3) := by decide +kernel
theorem dX11_tryTerm_34 : decode cX11_tryTerm 34 = .ok (.iload_n 1, 1) := by decide +kernel
theorem dX11_tryTerm_35 : decode cX11_tryTerm 35 = .ok (.iaload, 1) := by decide +kernel
theorem dX11_tryTerm_36 : decode cX11_tryTerm 36 = .ok (.invokevirtual 144, 3) := by decide +kernel
theorem dX11_tryTerm_39 : decode cX11_tryTerm 39 = .ok (.ifCond .eq 7, 3) := by decide +kernel
theorem dX11_tryTerm_42 : decode cX11_tryTerm 42 = .ok (.iconst 1, 1) := by decide +kernel
theorem dX11_tryTerm_43 : decode cX11_tryTerm 43 = .ok (.goto 4, 3) := by decide +kernel
theorem dX11_tryTerm_46 : decode cX11_tryTerm 46 = .ok (.iconst 0, 1) := by decide +kernel
theorem dX11_tryTerm_47 : decode cX11_tryTerm 47 = .ok (.ireturn, 1) := by decide +kernel
theorem dX11_tryTerm_48 : decode cX11_tryTerm 48 = .ok (.aload_n 0, 1) := by decide +kernel
theorem dX11_tryTerm_49 : decode cX11_tryTerm 49 = .ok (.getfield 17, 3) := by decide +kernel
theorem dX11_tryTerm_52 : decode cX11_tryTerm 52 = .ok (.iload_n 2, 1) := by decide +kernel
theorem dX11_tryTerm_53 : decode cX11_tryTerm 53 = .ok (.baload, 1) := by decide +kernel
theorem dX11_tryTerm_54 : decode cX11_tryTerm 54 = .ok (.ifCond .eq 5, 3) := by decide +kernel
theorem dX11_tryTerm_57 : decode cX11_tryTerm 57 = .ok (.iconst 5, 1) := by decide +kernel
theorem dX11_tryTerm_58 : decode cX11_tryTerm 58 = .ok (.ireturn, 1) := by decide +kernel
theorem dX11_tryTerm_59 : decode cX11_tryTerm 59 = .ok (.aload_n 0, 1) := by decide +kernel
theorem dX11_tryTerm_60 : decode cX11_tryTerm 60 = .ok (.getfield 35, 3) := by decide +kernel
theorem dX11_tryTerm_63 : decode cX11_tryTerm 63 = .ok (.iload_n 1, 1) := by decide +kernel
theorem dX11_tryTerm_64 : decode cX11_tryTerm 64 = .ok (.iaload, 1) := by decide +kernel
theorem dX11_tryTerm_65 : decode cX11_tryTerm 65 = .ok (.iconst 3, 1) := by decide +kernel
theorem dX11_tryTerm_66 : decode cX11_tryTerm 66 = .ok (.if_icmp .ne 35, 3) := by decide +kernel
theorem dX11_tryTerm_69 : decode cX11_tryTerm 69 = .ok (.aload_n 0, 1) := by decide +kernel
theorem dX11_tryTerm_70 : decode cX11_tryTerm 70 = .ok (.getfield 23, 3) := by decide +kernel
theorem dX11_tryTerm_73 : decode cX11_tryTerm 73 = .ok (.iconst 2, 1) := by decide +kernel
theorem dX11_tryTerm_74 : decode cX11_tryTerm 74 = .ok (.iload_n 2, 1) := by decide +kernel
theorem dX11_tryTerm_75 : decode cX11_tryTerm 75 = .ok (.imul, 1) := by decide +kernel
theorem dX11_tryTerm_76 : decode cX11_tryTerm 76 = .ok (.iconst 1, 1) := by decide +kernel
theorem dX11_tryTerm_77 : decode cX11_tryTerm 77 = .ok (.iadd, 1) := by decide +kernel
theorem dX11_tryTerm_78 : decode cX11_tryTerm 78 = .ok (.iaload, 1) := by decide +kernel
theorem dX11_tryTerm_79 : decode cX11_tryTerm 79 = .ok (.ifCond .ne 10, 3) := by decide +kernel
theorem dX11_tryTerm_82 : decode cX11_tryTerm 82 = .ok (.aload_n 0, 1) := by decide +kernel
theorem dX11_tryTerm_83 : decode cX11_tryTerm 83 = .ok (.invokevirtual 154, 3) := by decide +kernel
theorem dX11_tryTerm_86 : decode cX11_tryTerm 86 = .ok (.goto 14, 3) := by decide +kernel
theorem dX11_tryTerm_89 : decode cX11_tryTerm 89 = .ok (.aload_n 0, 1) := by decide +kernel
theorem dX11_tryTerm_90 : decode cX11_tryTerm 90 = .ok (.iload_n 2, 1) := by decide +kernel
theorem dX11_tryTerm_91 : decode cX11_tryTerm 91 = .ok (.aload_n 0, 1) := by decide +kernel
theorem dX11_tryTerm_92 : decode cX11_tryTerm 92 = .ok (.getfield 41, 3) := by decide +kernel
theorem dX11_tryTerm_95 : decode cX11_tryTerm 95 = .ok (.iload_n 1, 1) := by decide +kernel
theorem dX11_tryTerm_96 : decode cX11_tryTerm 96 = .ok (.iaload, 1) := by decide +kernel
theorem dX11_tryTerm_97 : decode cX11_tryTerm 97 = .ok (.invokevirtual 158, 3) := by decide +kernel
theorem dX11_tryTerm_100 : decode cX11_tryTerm 100 = .ok (.ireturn, 1) := by decide +kernel
theorem dX11_tryTerm_101 : decode cX11_tryTerm 101 = .ok (.aload_n 0, 1) := by decide +kernel
theorem dX11_tryTerm_102 : decode cX11_tryTerm 102 = .ok (.getfield 23, 3) := by decide +kernel
theorem dX11_tryTerm_105 : decode cX11_tryTerm 105 = .ok (.iconst 2, 1) := by decide +kernel
theorem dX11_tryTerm_106 : decode cX11_tryTerm 106 = .ok (.iload_n 2, 1) := by decide +kernel
theorem dX11_tryTerm_107 : decode cX11_tryTerm 107 = .ok (.imul, 1) := by decide +kernel
theorem dX11_tryTerm_108 : decode cX11_tryTerm 108 = .ok (.iaload, 1) := by decide +kernel
theorem dX11_tryTerm_109 : decode cX11_tryTerm 109 = .ok (.ifCond .ne 8, 3) := by decide +kernel
theorem dX11_tryTerm_112 : decode cX11_tryTerm 112 = .ok (.aload_n 0, 1) := by decide +kernel
theorem dX11_tryTerm_113 : decode cX11_tryTerm 113 = .ok (.invokevirtual 154, 3) := by decide +kernel
theorem dX11_tryTerm_116 : decode cX11_tryTerm 116 = .ok (.ireturn, 1) := by decide +kernel
theorem dX11_tryTerm_117 : decode cX11_tryTerm 117 = .ok (.aload_n 0, 1) := by decide +kernel
theorem dX11_tryTerm_118 : decode cX11_tryTerm 118 = .ok (.getfield 35, 3) := by decide +kernel
theorem dX11_tryTerm_121 : decode cX11_tryTerm 121 = .ok (.iload_n 1, 1) := by decide +kernel
theorem dX11_tryTerm_122 : decode cX11_tryTerm 122 = .ok (.iaload, 1) := by decide +kernel
theorem dX11_tryTerm_123 : decode cX11_tryTerm 123 = .ok (.iconst 5, 1) := by decide +kernel
theorem dX11_tryTerm_124 : decode cX11_tryTerm 124 = .ok (.if_icmp .eq 17, 3) := by decide +kernel
theorem dX11_tryTerm_127 : decode cX11_tryTerm 127 = .ok (.aload_n 0, 1) := by decide +kernel
theorem dX11_tryTerm_128 : decode cX11_tryTerm 128 = .ok (.iload_n 2, 1) := by decide +kernel
theorem dX11_tryTerm_129 : decode cX11_tryTerm 129 = .ok (.aload_n 0, 1) := by decide +kernel
theorem dX11_tryTerm_130 : decode cX11_tryTerm 130 = .ok (.getfield 41, 3) := by decide +kernel
theorem dX11_tryTerm_133 : decode cX11_tryTerm 133 = .ok (.iload_n 1, 1) := by decide +kernel
theorem dX11_tryTerm_134 : decode cX11_tryTerm 134 = .ok (.iaload, 1) := by decide +kernel
theorem dX11_tryTerm_135 : decode cX11_tryTerm 135 = .ok (.invokevirtual 162, 3) := by decide +kernel
theorem dX11_tryTerm_138 : decode cX11_tryTerm 138 = .ok (.ifCond .eq 7, 3) := by decide +kernel
theorem dX11_tryTerm_141 : decode cX11_tryTerm 141 = .ok (.iconst 1, 1) := by decide +kernel
theorem dX11_tryTerm_142 : decode cX11_tryTerm 142 = .ok (.goto 4, 3) := by decide +kernel
theorem dX11_tryTerm_145 : decode cX11_tryTerm 145 = .ok (.iconst 0, 1) := by decide +kernel
theorem dX11_tryTerm_146 : decode cX11_tryTerm 146 = .ok (.ireturn, 1) := by decide +kernel
theorem dX11_agrees_0 : decode cX11_agrees 0 = .ok (.iload_n 2, 1) := by decide +kernel
theorem dX11_agrees_1 : decode cX11_agrees 1 = .ok (.ifCond .eq 17, 3) := by decide +kernel
theorem dX11_agrees_4 : decode cX11_agrees 4 = .ok (.iload_n 1, 1) := by decide +kernel
theorem dX11_agrees_5 : decode cX11_agrees 5 = .ok (.aload_n 0, 1) := by decide +kernel
theorem dX11_agrees_6 : decode cX11_agrees 6 = .ok (.getfield 141, 3) := by decide +kernel
theorem dX11_agrees_9 : decode cX11_agrees 9 = .ok (.ixor, 1) := by decide +kernel
theorem dX11_agrees_10 : decode cX11_agrees 10 = .ok (.bipush 32, 2) := by decide +kernel
theorem dX11_agrees_12 : decode cX11_agrees 12 = .ok (.iload_n 2, 1) := by decide +kernel
theorem dX11_agrees_13 : decode cX11_agrees 13 = .ok (.isub, 1) := by decide +kernel
theorem dX11_agrees_14 : decode cX11_agrees 14 = .ok (.iushr, 1) := by decide +kernel
theorem dX11_agrees_15 : decode cX11_agrees 15 = .ok (.ifCond .ne 7, 3) := by decide +kernel
theorem dX11_agrees_18 : decode cX11_agrees 18 = .ok (.iconst 1, 1) := by decide +kernel
theorem dX11_agrees_19 : decode cX11_agrees 19 = .ok (.goto 4, 3) := by decide +kernel
theorem dX11_agrees_22 : decode cX11_agrees 22 = .ok (.iconst 0, 1) := by decide +kernel
theorem dX11_agrees_23 : decode cX11_agrees 23 = .ok (.ireturn, 1) := by decide +kernel
theorem dX11_empty_0 : decode cX11_empty 0 = .ok (.aload_n 0, 1) := by decide +kernel
theorem dX11_empty_1 : decode cX11_empty 1 = .ok (.dup, 1) := by decide +kernel
theorem dX11_empty_2 : decode cX11_empty 2 = .ok (.getfield 148, 3) := by decide +kernel
theorem dX11_empty_5 : decode cX11_empty 5 = .ok (.iconst 1, 1) := by decide +kernel
theorem dX11_empty_6 : decode cX11_empty 6 = .ok (.iadd, 1) := by decide +kernel
theorem dX11_empty_7 : decode cX11_empty 7 = .ok (.putfield 148, 3) := by decide +kernel
theorem dX11_empty_10 : decode cX11_empty 10 = .ok (.aload_n 0, 1) := by decide +kernel
theorem dX11_empty_11 : decode cX11_empty 11 = .ok (.getfield 148, 3) := by decide +kernel
theorem dX11_empty_14 : decode cX11_empty 14 = .ok (.iconst 3, 1) := by decide +kernel
theorem dX11_empty_15 : decode cX11_empty 15 = .ok (.if_icmp .ne 8, 3) := by decide +kernel
theorem dX11_empty_18 : decode cX11_empty 18 = .ok (.bipush 6, 2) := by decide +kernel
theorem dX11_empty_20 : decode cX11_empty 20 = .ok (.goto 4, 3) := by decide +kernel
theorem dX11_empty_23 : decode cX11_empty 23 = .ok (.iconst 0, 1) := by decide +kernel
theorem dX11_empty_24 : decode cX11_empty 24 = .ok (.ireturn, 1) := by decide +kernel
theorem dX11_tryExchangers_0 : decode cX11_tryExchangers 0 = .ok (.iconst 0, 1) := by decide +kernel
theorem dX11_tryExchangers_1 : decode cX11_tryExchangers 1 = .ok (.istore_n 3, 1) := by decide +kernel
theorem dX11_tryExchangers_2 : decode cX11_tryExchangers 2 = .ok (.iload_n 3, 1) := by decide +kernel
theorem dX11_tryExchangers_3 : decode cX11_tryExchangers 3 = .ok (.aload_n 0, 1) := by decide +kernel
theorem dX11_tryExchangers_4 : decode cX11_tryExchangers 4 = .ok (.getfield 23, 3) := by decide +kernel
theorem dX11_tryExchangers_7 : decode cX11_tryExchangers 7 = .ok (.iconst 2, 1) := by decide +kernel
theorem dX11_tryExchangers_8 : decode cX11_tryExchangers 8 = .ok (.iload_n 1, 1) := by decide +kernel
theorem dX11_tryExchangers_9 : decode cX11_tryExchangers 9 = .ok (.imul, 1) := by decide +kernel
theorem dX11_tryExchangers_10 : decode cX11_tryExchangers 10 = .ok (.iconst 1, 1) := by decide +kernel
theorem dX11_tryExchangers_11 : decode cX11_tryExchangers 11 = .ok (.iadd, 1) := by decide +kernel
theorem dX11_tryExchangers_12 : decode cX11_tryExchangers 12 = .ok (.iaload, 1) := by decide +kernel
theorem dX11_tryExchangers_13 : decode cX11_tryExchangers 13 = .ok (.if_icmp .ge 47, 3) := by decide +kernel
theorem dX11_tryExchangers_16 : decode cX11_tryExchangers 16 = .ok (.aload_n 0, 1) := by decide +kernel
theorem dX11_tryExchangers_17 : decode cX11_tryExchangers 17 = .ok (.getfield 20, 3) := by decide +kernel
theorem dX11_tryExchangers_20 : decode cX11_tryExchangers 20 = .ok (.iconst 4, 1) := by decide +kernel
theorem dX11_tryExchangers_21 : decode cX11_tryExchangers 21 = .ok (.iload_n 1, 1) := by decide +kernel
theorem dX11_tryExchangers_22 : decode cX11_tryExchangers 22 = .ok (.imul, 1) := by decide +kernel
theorem dX11_tryExchangers_23 : decode cX11_tryExchangers 23 = .ok (.iconst 2, 1) := by decide +kernel
theorem dX11_tryExchangers_24 : decode cX11_tryExchangers 24 = .ok (.iadd, 1) := by decide +kernel
theorem dX11_tryExchangers_25 : decode cX11_tryExchangers 25 = .ok (.iload_n 3, 1) := by decide +kernel
theorem dX11_tryExchangers_26 : decode cX11_tryExchangers 26 = .ok (.iadd, 1) := by decide +kernel
theorem dX11_tryExchangers_27 : decode cX11_tryExchangers 27 = .ok (.iaload, 1) := by decide +kernel
theorem dX11_tryExchangers_28 : decode cX11_tryExchangers 28 = .ok (.istore 4, 2) := by decide +kernel
theorem dX11_tryExchangers_30 : decode cX11_tryExchangers 30 = .ok (.aload_n 0, 1) := by decide +kernel
theorem dX11_tryExchangers_31 : decode cX11_tryExchangers 31 = .ok (.getfield 17, 3) := by decide +kernel
theorem dX11_tryExchangers_34 : decode cX11_tryExchangers 34 = .ok (.iload 4, 2) := by decide +kernel
theorem dX11_tryExchangers_36 : decode cX11_tryExchangers 36 = .ok (.baload, 1) := by decide +kernel
theorem dX11_tryExchangers_37 : decode cX11_tryExchangers 37 = .ok (.ifCond .eq 5, 3) := by decide +kernel
theorem dX11_tryExchangers_40 : decode cX11_tryExchangers 40 = .ok (.iconst 5, 1) := by decide +kernel
theorem dX11_tryExchangers_41 : decode cX11_tryExchangers 41 = .ok (.ireturn, 1) := by decide +kernel
theorem dX11_tryExchangers_42 : decode cX11_tryExchangers 42 = .ok (.aload_n 0, 1) := by decide +kernel
theorem dX11_tryExchangers_43 : decode cX11_tryExchangers 43 = .ok (.iload 4, 2) := by decide +kernel
theorem dX11_tryExchangers_45 : decode cX11_tryExchangers 45 = .ok (.iload_n 2, 1) := by decide +kernel
theorem dX11_tryExchangers_46 : decode cX11_tryExchangers 46 = .ok (.invokevirtual 162, 3) := by decide +kernel
theorem dX11_tryExchangers_49 : decode cX11_tryExchangers 49 = .ok (.ifCond .eq 5, 3) := by decide +kernel
theorem dX11_tryExchangers_52 : decode cX11_tryExchangers 52 = .ok (.iconst 1, 1) := by decide +kernel
theorem dX11_tryExchangers_53 : decode cX11_tryExchangers 53 = .ok (.ireturn, 1) := by decide +kernel
theorem dX11_tryExchangers_54 : decode cX11_tryExchangers 54 = .ok (.iinc 3 1, 3) := by decide +kernel
theorem dX11_tryExchangers_57 : decode cX11_tryExchangers 57 = .ok (.goto (-55), 3) := by decide +kernel
theorem dX11_tryExchangers_60 : decode cX11_tryExchangers 60 = .ok (.iconst 0, 1) := by decide +kernel
theorem dX11_tryExchangers_61 : decode cX11_tryExchangers 61 = .ok (.ireturn, 1) := by decide +kernel
theorem dX11_isAt_0 : decode cX11_isAt 0 = .ok (.iconst 0, 1) := by decide +kernel
theorem dX11_isAt_1 : decode cX11_isAt 1 = .ok (.istore_n 3, 1) := by decide +kernel
theorem dX11_isAt_2 : decode cX11_isAt 2 = .ok (.iconst 0, 1) := by decide +kernel
theorem dX11_isAt_3 : decode cX11_isAt 3 = .ok (.istore 4, 2) := by decide +kernel
theorem dX11_isAt_5 : decode cX11_isAt 5 = .ok (.iload 4, 2) := by decide +kernel
theorem dX11_isAt_7 : decode cX11_isAt 7 = .ok (.aload_n 0, 1) := by decide +kernel
theorem dX11_isAt_8 : decode cX11_isAt 8 = .ok (.getfield 23, 3) := by decide +kernel
theorem dX11_isAt_11 : decode cX11_isAt 11 = .ok (.iconst 2, 1) := by decide +kernel
theorem dX11_isAt_12 : decode cX11_isAt 12 = .ok (.iload_n 1, 1) := by decide +kernel
theorem dX11_isAt_13 : decode cX11_isAt 13 = .ok (.imul, 1) := by decide +kernel
theorem dX11_isAt_14 : decode cX11_isAt 14 = .ok (.iaload, 1) := by decide +kernel
theorem dX11_isAt_15 : decode cX11_isAt 15 = .ok (.if_icmp .ge 38, 3) := by decide +kernel
theorem dX11_isAt_18 : decode cX11_isAt 18 = .ok (.iload_n 3, 1) := by decide +kernel
theorem dX11_isAt_19 : decode cX11_isAt 19 = .ok (.ifCond .ne 22, 3) := by decide +kernel
theorem dX11_isAt_22 : decode cX11_isAt 22 = .ok (.aload_n 0, 1) := by decide +kernel
theorem dX11_isAt_23 : decode cX11_isAt 23 = .ok (.aload_n 0, 1) := by decide +kernel
theorem dX11_isAt_24 : decode cX11_isAt 24 = .ok (.getfield 20, 3) := by decide +kernel
theorem dX11_isAt_27 : decode cX11_isAt 27 = .ok (.iconst 4, 1) := by decide +kernel
theorem dX11_isAt_28 : decode cX11_isAt 28 = .ok (.iload_n 1, 1) := by decide +kernel
theorem dX11_isAt_29 : decode cX11_isAt 29 = .ok (.imul, 1) := by decide +kernel
theorem dX11_isAt_30 : decode cX11_isAt 30 = .ok (.iload 4, 2) := by decide +kernel
theorem dX11_isAt_32 : decode cX11_isAt 32 = .ok (.iadd, 1) := by decide +kernel
theorem dX11_isAt_33 : decode cX11_isAt 33 = .ok (.iaload, 1) := by decide +kernel
theorem dX11_isAt_34 : decode cX11_isAt 34 = .ok (.iload_n 2, 1) := by decide +kernel
theorem dX11_isAt_35 : decode cX11_isAt 35 = .ok (.invokevirtual 144, 3) := by decide +kernel
theorem dX11_isAt_38 : decode cX11_isAt 38 = .ok (.ifCond .eq 7, 3) := by decide +kernel
theorem dX11_isAt_41 : decode cX11_isAt 41 = .ok (.iconst 1, 1) := by decide +kernel
theorem dX11_isAt_42 : decode cX11_isAt 42 = .ok (.goto 4, 3) := by decide +kernel
theorem dX11_isAt_45 : decode cX11_isAt 45 = .ok (.iconst 0, 1) := by decide +kernel
theorem dX11_isAt_46 : decode cX11_isAt 46 = .ok (.istore_n 3, 1) := by decide +kernel
theorem dX11_isAt_47 : decode cX11_isAt 47 = .ok (.iinc 4 1, 3) := by decide +kernel
theorem dX11_isAt_50 : decode cX11_isAt 50 = .ok (.goto (-45), 3) := by decide +kernel
theorem dX11_isAt_53 : decode cX11_isAt 53 = .ok (.iload_n 3, 1) := by decide +kernel
theorem dX11_isAt_54 : decode cX11_isAt 54 = .ok (.ireturn, 1) := by decide +kernel
theorem dX11_counted_0 : decode cX11_counted 0 = .ok (.iload_n 1, 1) := by decide +kernel
theorem dX11_counted_1 : decode cX11_counted 1 = .ok (.ifCond .ne 10, 3) := by decide +kernel
theorem dX11_counted_4 : decode cX11_counted 4 = .ok (.aload_n 0, 1) := by decide +kernel
theorem dX11_counted_5 : decode cX11_counted 5 = .ok (.getfield 151, 3) := by decide +kernel
theorem dX11_counted_8 : decode cX11_counted 8 = .ok (.goto 16, 3) := by decide +kernel
theorem dX11_counted_11 : decode cX11_counted 11 = .ok (.iload_n 1, 1) := by decide +kernel
theorem dX11_counted_12 : decode cX11_counted 12 = .ok (.iconst 1, 1) := by decide +kernel
theorem dX11_counted_13 : decode cX11_counted 13 = .ok (.if_icmp .ne 10, 3) := by decide +kernel
theorem dX11_counted_16 : decode cX11_counted 16 = .ok (.aload_n 0, 1) := by decide +kernel
theorem dX11_counted_17 : decode cX11_counted 17 = .ok (.getfield 148, 3) := by decide +kernel
theorem dX11_counted_20 : decode cX11_counted 20 = .ok (.goto 4, 3) := by decide +kernel
theorem dX11_counted_23 : decode cX11_counted 23 = .ok (.iconst 0, 1) := by decide +kernel
theorem dX11_counted_24 : decode cX11_counted 24 = .ok (.ireturn, 1) := by decide +kernel
theorem dX11_mail_0 : decode cX11_mail 0 = .ok (.aload_n 0, 1) := by decide +kernel
theorem dX11_mail_1 : decode cX11_mail 1 = .ok (.iload_n 1, 1) := by decide +kernel
theorem dX11_mail_2 : decode cX11_mail 2 = .ok (.invokevirtual 132, 3) := by decide +kernel
theorem dX11_mail_5 : decode cX11_mail 5 = .ok (.ifCond .eq 11, 3) := by decide +kernel
theorem dX11_mail_8 : decode cX11_mail 8 = .ok (.aload_n 0, 1) := by decide +kernel
theorem dX11_mail_9 : decode cX11_mail 9 = .ok (.iload_n 2, 1) := by decide +kernel
theorem dX11_mail_10 : decode cX11_mail 10 = .ok (.invokevirtual 132, 3) := by decide +kernel
theorem dX11_mail_13 : decode cX11_mail 13 = .ok (.ifCond .ne 5, 3) := by decide +kernel
theorem dX11_mail_16 : decode cX11_mail 16 = .ok (.iconst 0, 1) := by decide +kernel
theorem dX11_mail_17 : decode cX11_mail 17 = .ok (.ireturn, 1) := by decide +kernel
theorem dX11_mail_18 : decode cX11_mail 18 = .ok (.aload_n 0, 1) := by decide +kernel
theorem dX11_mail_19 : decode cX11_mail 19 = .ok (.iconst 1, 1) := by decide +kernel
theorem dX11_mail_20 : decode cX11_mail 20 = .ok (.putfield 190, 3) := by decide +kernel
theorem dX11_mail_23 : decode cX11_mail 23 = .ok (.aload_n 0, 1) := by decide +kernel
theorem dX11_mail_24 : decode cX11_mail 24 = .ok (.iload_n 1, 1) := by decide +kernel
theorem dX11_mail_25 : decode cX11_mail 25 = .ok (.putfield 184, 3) := by decide +kernel
theorem dX11_mail_28 : decode cX11_mail 28 = .ok (.aload_n 0, 1) := by decide +kernel
theorem dX11_mail_29 : decode cX11_mail 29 = .ok (.iload_n 2, 1) := by decide +kernel
theorem dX11_mail_30 : decode cX11_mail 30 = .ok (.putfield 197, 3) := by decide +kernel
theorem dX11_mail_33 : decode cX11_mail 33 = .ok (.aload_n 0, 1) := by decide +kernel
theorem dX11_mail_34 : decode cX11_mail 34 = .ok (.iload_n 3, 1) := by decide +kernel
theorem dX11_mail_35 : decode cX11_mail 35 = .ok (.putfield 141, 3) := by decide +kernel
theorem dX11_mail_38 : decode cX11_mail 38 = .ok (.aload_n 0, 1) := by decide +kernel
theorem dX11_mail_39 : decode cX11_mail 39 = .ok (.iconst 0, 1) := by decide +kernel
theorem dX11_mail_40 : decode cX11_mail 40 = .ok (.putfield 200, 3) := by decide +kernel
theorem dX11_mail_43 : decode cX11_mail 43 = .ok (.aload_n 0, 1) := by decide +kernel
theorem dX11_mail_44 : decode cX11_mail 44 = .ok (.iconst 0, 1) := by decide +kernel
theorem dX11_mail_45 : decode cX11_mail 45 = .ok (.putfield 203, 3) := by decide +kernel
theorem dX11_mail_48 : decode cX11_mail 48 = .ok (.aload_n 0, 1) := by decide +kernel
theorem dX11_mail_49 : decode cX11_mail 49 = .ok (.iconst 0, 1) := by decide +kernel
theorem dX11_mail_50 : decode cX11_mail 50 = .ok (.putfield 206, 3) := by decide +kernel
theorem dX11_mail_53 : decode cX11_mail 53 = .ok (.aload_n 0, 1) := by decide +kernel
theorem dX11_mail_54 : decode cX11_mail 54 = .ok (.iconst 0, 1) := by decide +kernel
theorem dX11_mail_55 : decode cX11_mail 55 = .ok (.putfield 209, 3) := by decide +kernel
theorem dX11_mail_58 : decode cX11_mail 58 = .ok (.iconst 1, 1) := by decide +kernel
theorem dX11_mail_59 : decode cX11_mail 59 = .ok (.ireturn, 1) := by decide +kernel
theorem dX11_header_0 : decode cX11_header 0 = .ok (.aload_n 0, 1) := by decide +kernel
theorem dX11_header_1 : decode cX11_header 1 = .ok (.getfield 190, 3) := by decide +kernel
theorem dX11_header_4 : decode cX11_header 4 = .ok (.ifCond .eq 13, 3) := by decide +kernel
theorem dX11_header_7 : decode cX11_header 7 = .ok (.iload_n 1, 1) := by decide +kernel
theorem dX11_header_8 : decode cX11_header 8 = .ok (.ifCond .lt 9, 3) := by decide +kernel
theorem dX11_header_11 : decode cX11_header 11 = .ok (.iload_n 1, 1) := by decide +kernel
theorem dX11_header_12 : decode cX11_header 12 = .ok (.bipush 7, 2) := by decide +kernel
theorem dX11_header_14 : decode cX11_header 14 = .ok (.if_icmp .le 5, 3) := by decide +kernel
theorem dX11_header_17 : decode cX11_header 17 = .ok (.iconst (-1), 1) := by decide +kernel
theorem dX11_header_18 : decode cX11_header 18 = .ok (.ireturn, 1) := by decide +kernel
theorem dX11_header_19 : decode cX11_header 19 = .ok (.aload_n 0, 1) := by decide +kernel
theorem dX11_header_20 : decode cX11_header 20 = .ok (.getfield 200, 3) := by decide +kernel
theorem dX11_header_23 : decode cX11_header 23 = .ok (.bipush 6, 2) := by decide +kernel
theorem dX11_header_25 : decode cX11_header 25 = .ok (.if_icmp .ne 6, 3) := by decide +kernel
theorem dX11_header_28 : decode cX11_header 28 = .ok (.bipush (-2), 2) := by decide +kernel
theorem dX11_header_30 : decode cX11_header 30 = .ok (.ireturn, 1) := by decide +kernel
theorem dX11_header_31 : decode cX11_header 31 = .ok (.aload_n 0, 1) := by decide +kernel
theorem dX11_header_32 : decode cX11_header 32 = .ok (.getfield 62, 3) := by decide +kernel
theorem dX11_header_35 : decode cX11_header 35 = .ok (.aload_n 0, 1) := by decide +kernel
theorem dX11_header_36 : decode cX11_header 36 = .ok (.getfield 200, 3) := by decide +kernel
theorem dX11_header_39 : decode cX11_header 39 = .ok (.iload_n 1, 1) := by decide +kernel
theorem dX11_header_40 : decode cX11_header 40 = .ok (.iastore, 1) := by decide +kernel
theorem dX11_header_41 : decode cX11_header 41 = .ok (.aload_n 0, 1) := by decide +kernel
theorem dX11_header_42 : decode cX11_header 42 = .ok (.getfield 65, 3) := by decide +kernel
theorem dX11_header_45 : decode cX11_header 45 = .ok (.aload_n 0, 1) := by decide +kernel
theorem dX11_header_46 : decode cX11_header 46 = .ok (.getfield 200, 3) := by decide +kernel
theorem dX11_header_49 : decode cX11_header 49 = .ok (.iconst 0, 1) := by decide +kernel
theorem dX11_header_50 : decode cX11_header 50 = .ok (.iastore, 1) := by decide +kernel
theorem dX11_header_51 : decode cX11_header 51 = .ok (.aload_n 0, 1) := by decide +kernel
theorem dX11_header_52 : decode cX11_header 52 = .ok (.dup, 1) := by decide +kernel
theorem dX11_header_53 : decode cX11_header 53 = .ok (.getfield 200, 3) := by decide +kernel
theorem dX11_header_56 : decode cX11_header 56 = .ok (.iconst 1, 1) := by decide +kernel
theorem dX11_header_57 : decode cX11_header 57 = .ok (.iadd, 1) := by decide +kernel
theorem dX11_header_58 : decode cX11_header 58 = .ok (.putfield 200, 3) := by decide +kernel
theorem dX11_header_61 : decode cX11_header 61 = .ok (.aload_n 0, 1) := by decide +kernel
theorem dX11_header_62 : decode cX11_header 62 = .ok (.getfield 200, 3) := by decide +kernel
theorem dX11_header_65 : decode cX11_header 65 = .ok (.iconst 1, 1) := by decide +kernel
theorem dX11_header_66 : decode cX11_header 66 = .ok (.isub, 1) := by decide +kernel
theorem dX11_header_67 : decode cX11_header 67 = .ok (.ireturn, 1) := by decide +kernel
theorem dX11_type_0 : decode cX11_type 0 = .ok (.aload_n 0, 1) := by decide +kernel
theorem dX11_type_1 : decode cX11_type 1 = .ok (.iload_n 1, 1) := by decide +kernel
theorem dX11_type_2 : decode cX11_type 2 = .ok (.invokevirtual 212, 3) := by decide +kernel
theorem dX11_type_5 : decode cX11_type 5 = .ok (.ifCond .eq 16, 3) := by decide +kernel
theorem dX11_type_8 : decode cX11_type 8 = .ok (.iload 4, 2) := by decide +kernel
theorem dX11_type_10 : decode cX11_type 10 = .ok (.iconst 1, 1) := by decide +kernel
theorem dX11_type_11 : decode cX11_type 11 = .ok (.if_icmp .lt 10, 3) := by decide +kernel
theorem dX11_type_14 : decode cX11_type 14 = .ok (.iload 4, 2) := by decide +kernel
theorem dX11_type_16 : decode cX11_type 16 = .ok (.bipush 8, 2) := by decide +kernel
theorem dX11_type_18 : decode cX11_type 18 = .ok (.if_icmp .le 5, 3) := by decide +kernel
theorem dX11_type_21 : decode cX11_type 21 = .ok (.iconst (-1), 1) := by decide +kernel
theorem dX11_type_22 : decode cX11_type 22 = .ok (.ireturn, 1) := by decide +kernel
theorem dX11_type_23 : decode cX11_type 23 = .ok (.iconst 0, 1) := by decide +kernel
theorem dX11_type_24 : decode cX11_type 24 = .ok (.istore 5, 2) := by decide +kernel
theorem dX11_type_26 : decode cX11_type 26 = .ok (.iload 5, 2) := by decide +kernel
theorem dX11_type_28 : decode cX11_type 28 = .ok (.iload 4, 2) := by decide +kernel
theorem dX11_type_30 : decode cX11_type 30 = .ok (.if_icmp .ge 70, 3) := by decide +kernel
theorem dX11_type_33 : decode cX11_type 33 = .ok (.lload_n 2, 1) := by decide +kernel
theorem dX11_type_34 : decode cX11_type 34 = .ok (.bipush 8, 2) := by decide +kernel
theorem dX11_type_36 : decode cX11_type 36 = .ok (.iload 5, 2) := by decide +kernel
theorem dX11_type_38 : decode cX11_type 38 = .ok (.imul, 1) := by decide +kernel
theorem dX11_type_39 : decode cX11_type 39 = .ok (.lshr, 1) := by decide +kernel
theorem dX11_type_40 : decode cX11_type 40 = .ok (.ldc2_w 215, 3) := by decide +kernel
theorem dX11_type_43 : decode cX11_type 43 = .ok (.land, 1) := by decide +kernel
theorem dX11_type_44 : decode cX11_type 44 = .ok (.l2i, 1) := by decide +kernel
theorem dX11_type_45 : decode cX11_type 45 = .ok (.istore 6, 2) := by decide +kernel
theorem dX11_type_47 : decode cX11_type 47 = .ok (.iload 6, 2) := by decide +kernel
theorem dX11_type_49 : decode cX11_type 49 = .ok (.bipush 9, 2) := by decide +kernel
theorem dX11_type_51 : decode cX11_type 51 = .ok (.if_icmp .eq 29, 3) := by decide +kernel
theorem dX11_type_54 : decode cX11_type 54 = .ok (.iload 6, 2) := by decide +kernel
theorem dX11_type_56 : decode cX11_type 56 = .ok (.bipush 10, 2) := by decide +kernel
theorem dX11_type_58 : decode cX11_type 58 = .ok (.if_icmp .ne 8, 3) := by decide +kernel
theorem dX11_type_61 : decode cX11_type 61 = .ok (.iload_n 1, 1) := by decide +kernel
theorem dX11_type_62 : decode cX11_type 62 = .ok (.iconst (-1), 1) := by decide +kernel
theorem dX11_type_63 : decode cX11_type 63 = .ok (.if_icmp .eq 17, 3) := by decide +kernel
theorem dX11_type_66 : decode cX11_type 66 = .ok (.iload 6, 2) := by decide +kernel
theorem dX11_type_68 : decode cX11_type 68 = .ok (.bipush 32, 2) := by decide +kernel
theorem dX11_type_70 : decode cX11_type 70 = .ok (.if_icmp .lt 14, 3) := by decide +kernel
theorem dX11_type_73 : decode cX11_type 73 = .ok (.iload 6, 2) := by decide +kernel
theorem dX11_type_75 : decode cX11_type 75 = .ok (.bipush 126, 2) := by decide +kernel
theorem dX11_type_77 : decode cX11_type 77 = .ok (.if_icmp .gt 7, 3) := by decide +kernel
theorem dX11_type_80 : decode cX11_type 80 = .ok (.iconst 1, 1) := by decide +kernel
theorem dX11_type_81 : decode cX11_type 81 = .ok (.goto 4, 3) := by decide +kernel
theorem dX11_type_84 : decode cX11_type 84 = .ok (.iconst 0, 1) := by decide +kernel
theorem dX11_type_85 : decode cX11_type 85 = .ok (.istore 7, 2) := by decide +kernel
theorem dX11_type_87 : decode cX11_type 87 = .ok (.iload 7, 2) := by decide +kernel
theorem dX11_type_89 : decode cX11_type 89 = .ok (.ifCond .ne 5, 3) := by decide +kernel
theorem dX11_type_92 : decode cX11_type 92 = .ok (.iconst (-1), 1) := by decide +kernel
theorem dX11_type_93 : decode cX11_type 93 = .ok (.ireturn, 1) := by decide +kernel
theorem dX11_type_94 : decode cX11_type 94 = .ok (.iinc 5 1, 3) := by decide +kernel
theorem dX11_type_97 : decode cX11_type 97 = .ok (.goto (-71), 3) := by decide +kernel
theorem dX11_type_100 : decode cX11_type 100 = .ok (.iload_n 1, 1) := by decide +kernel
theorem dX11_type_101 : decode cX11_type 101 = .ok (.iconst (-1), 1) := by decide +kernel
theorem dX11_type_102 : decode cX11_type 102 = .ok (.if_icmp .ne 10, 3) := by decide +kernel
theorem dX11_type_105 : decode cX11_type 105 = .ok (.aload_n 0, 1) := by decide +kernel
theorem dX11_type_106 : decode cX11_type 106 = .ok (.getfield 203, 3) := by decide +kernel
theorem dX11_type_109 : decode cX11_type 109 = .ok (.goto 9, 3) := by decide +kernel
theorem dX11_type_112 : decode cX11_type 112 = .ok (.aload_n 0, 1) := by decide +kernel
theorem dX11_type_113 : decode cX11_type 113 = .ok (.getfield 65, 3) := by decide +kernel
theorem dX11_type_116 : decode cX11_type 116 = .ok (.iload_n 1, 1) := by decide +kernel
theorem dX11_type_117 : decode cX11_type 117 = .ok (.iaload, 1) := by decide +kernel
theorem dX11_type_118 : decode cX11_type 118 = .ok (.istore 5, 2) := by decide +kernel
theorem dX11_type_120 : decode cX11_type 120 = .ok (.iload 5, 2) := by decide +kernel
theorem dX11_type_122 : decode cX11_type 122 = .ok (.iload 4, 2) := by decide +kernel
theorem dX11_type_124 : decode cX11_type 124 = .ok (.iadd, 1) := by decide +kernel
theorem dX11_type_125 : decode cX11_type 125 = .ok (.iload_n 1, 1) := by decide +kernel
theorem dX11_type_126 : decode cX11_type 126 = .ok (.iconst (-1), 1) := by decide +kernel
theorem dX11_type_127 : decode cX11_type 127 = .ok (.if_icmp .ne 8, 3) := by decide +kernel
theorem dX11_type_130 : decode cX11_type 130 = .ok (.bipush 90, 2) := by decide +kernel
theorem dX11_type_132 : decode cX11_type 132 = .ok (.goto 5, 3) := by decide +kernel
theorem dX11_type_135 : decode cX11_type 135 = .ok (.bipush 24, 2) := by decide +kernel
theorem dX11_type_137 : decode cX11_type 137 = .ok (.if_icmp .le 6, 3) := by decide +kernel
theorem dX11_type_140 : decode cX11_type 140 = .ok (.bipush (-2), 2) := by decide +kernel
theorem dX11_type_142 : decode cX11_type 142 = .ok (.ireturn, 1) := by decide +kernel
theorem dX11_type_143 : decode cX11_type 143 = .ok (.iload 4, 2) := by decide +kernel
theorem dX11_type_145 : decode cX11_type 145 = .ok (.iconst 1, 1) := by decide +kernel
theorem dX11_type_146 : decode cX11_type 146 = .ok (.isub, 1) := by decide +kernel
theorem dX11_type_147 : decode cX11_type 147 = .ok (.istore 6, 2) := by decide +kernel
theorem dX11_type_149 : decode cX11_type 149 = .ok (.iload 6, 2) := by decide +kernel
theorem dX11_type_151 : decode cX11_type 151 = .ok (.ifCond .lt 80, 3) := by decide +kernel
theorem dX11_type_154 : decode cX11_type 154 = .ok (.lload_n 2, 1) := by decide +kernel
theorem dX11_type_155 : decode cX11_type 155 = .ok (.bipush 8, 2) := by decide +kernel
theorem dX11_type_157 : decode cX11_type 157 = .ok (.iload 6, 2) := by decide +kernel
theorem dX11_type_159 : decode cX11_type 159 = .ok (.imul, 1) := by decide +kernel
theorem dX11_type_160 : decode cX11_type 160 = .ok (.lshr, 1) := by decide +kernel
theorem dX11_type_161 : decode cX11_type 161 = .ok (.ldc2_w 215, 3) := by decide +kernel
theorem dX11_type_164 : decode cX11_type 164 = .ok (.land, 1) := by decide +kernel
theorem dX11_type_165 : decode cX11_type 165 = .ok (.l2i, 1) := by decide +kernel
theorem dX11_type_166 : decode cX11_type 166 = .ok (.istore 7, 2) := by decide +kernel
theorem dX11_type_168 : decode cX11_type 168 = .ok (.iload_n 1, 1) := by decide +kernel
theorem dX11_type_169 : decode cX11_type 169 = .ok (.iconst (-1), 1) := by decide +kernel
theorem dX11_type_170 : decode cX11_type 170 = .ok (.if_icmp .ne 27, 3) := by decide +kernel
theorem dX11_type_173 : decode cX11_type 173 = .ok (.aload_n 0, 1) := by decide +kernel
theorem dX11_type_174 : decode cX11_type 174 = .ok (.getfield 71, 3) := by decide +kernel
theorem dX11_type_177 : decode cX11_type 177 = .ok (.aload_n 0, 1) := by decide +kernel
theorem dX11_type_178 : decode cX11_type 178 = .ok (.getfield 203, 3) := by decide +kernel
theorem dX11_type_181 : decode cX11_type 181 = .ok (.iload 7, 2) := by decide +kernel
theorem dX11_type_183 : decode cX11_type 183 = .ok (.iastore, 1) := by decide +kernel
theorem dX11_type_184 : decode cX11_type 184 = .ok (.aload_n 0, 1) := by decide +kernel
theorem dX11_type_185 : decode cX11_type 185 = .ok (.dup, 1) := by decide +kernel
theorem dX11_type_186 : decode cX11_type 186 = .ok (.getfield 203, 3) := by decide +kernel
theorem dX11_type_189 : decode cX11_type 189 = .ok (.iconst 1, 1) := by decide +kernel
theorem dX11_type_190 : decode cX11_type 190 = .ok (.iadd, 1) := by decide +kernel
theorem dX11_type_191 : decode cX11_type 191 = .ok (.putfield 203, 3) := by decide +kernel
theorem dX11_type_194 : decode cX11_type 194 = .ok (.goto 31, 3) := by decide +kernel
theorem dX11_type_197 : decode cX11_type 197 = .ok (.aload_n 0, 1) := by decide +kernel
theorem dX11_type_198 : decode cX11_type 198 = .ok (.getfield 68, 3) := by decide +kernel
theorem dX11_type_201 : decode cX11_type 201 = .ok (.bipush 24, 2) := by decide +kernel
theorem dX11_type_203 : decode cX11_type 203 = .ok (.iload_n 1, 1) := by decide +kernel
theorem dX11_type_204 : decode cX11_type 204 = .ok (.imul, 1) := by decide +kernel
theorem dX11_type_205 : decode cX11_type 205 = .ok (.aload_n 0, 1) := by decide +kernel
theorem dX11_type_206 : decode cX11_type 206 = .ok (.getfield 65, 3) := by decide +kernel
theorem dX11_type_209 : decode cX11_type 209 = .ok (.iload_n 1, 1) := by decide +kernel
theorem dX11_type_210 : decode cX11_type 210 = .ok (.iaload, 1) := by decide +kernel
theorem dX11_type_211 : decode cX11_type 211 = .ok (.iadd, 1) := by decide +kernel
theorem dX11_type_212 : decode cX11_type 212 = .ok (.iload 7, 2) := by decide +kernel
theorem dX11_type_214 : decode cX11_type 214 = .ok (.iastore, 1) := by decide +kernel
theorem dX11_type_215 : decode cX11_type 215 = .ok (.aload_n 0, 1) := by decide +kernel
theorem dX11_type_216 : decode cX11_type 216 = .ok (.getfield 65, 3) := by decide +kernel
theorem dX11_type_219 : decode cX11_type 219 = .ok (.iload_n 1, 1) := by decide +kernel
theorem dX11_type_220 : decode cX11_type 220 = .ok (.dup2, 1) := by decide +kernel
theorem dX11_type_221 : decode cX11_type 221 = .ok (.iaload, 1) := by decide +kernel
theorem dX11_type_222 : decode cX11_type 222 = .ok (.iconst 1, 1) := by decide +kernel
theorem dX11_type_223 : decode cX11_type 223 = .ok (.iadd, 1) := by decide +kernel
theorem dX11_type_224 : decode cX11_type 224 = .ok (.iastore, 1) := by decide +kernel
theorem dX11_type_225 : decode cX11_type 225 = .ok (.iinc 6 (-1), 3) := by decide +kernel
theorem dX11_type_228 : decode cX11_type 228 = .ok (.goto (-79), 3) := by decide +kernel
theorem dX11_type_231 : decode cX11_type 231 = .ok (.iload 5, 2) := by decide +kernel
theorem dX11_type_233 : decode cX11_type 233 = .ok (.iload 4, 2) := by decide +kernel
theorem dX11_type_235 : decode cX11_type 235 = .ok (.iadd, 1) := by decide +kernel
theorem dX11_type_236 : decode cX11_type 236 = .ok (.ireturn, 1) := by decide +kernel
theorem dX11_isThere_0 : decode cX11_isThere 0 = .ok (.aload_n 0, 1) := by decide +kernel
theorem dX11_isThere_1 : decode cX11_isThere 1 = .ok (.getfield 190, 3) := by decide +kernel
theorem dX11_isThere_4 : decode cX11_isThere 4 = .ok (.ifCond .eq 20, 3) := by decide +kernel
theorem dX11_isThere_7 : decode cX11_isThere 7 = .ok (.iload_n 1, 1) := by decide +kernel
theorem dX11_isThere_8 : decode cX11_isThere 8 = .ok (.iconst (-1), 1) := by decide +kernel
theorem dX11_isThere_9 : decode cX11_isThere 9 = .ok (.if_icmp .lt 15, 3) := by decide +kernel
theorem dX11_isThere_12 : decode cX11_isThere 12 = .ok (.iload_n 1, 1) := by decide +kernel
theorem dX11_isThere_13 : decode cX11_isThere 13 = .ok (.aload_n 0, 1) := by decide +kernel
theorem dX11_isThere_14 : decode cX11_isThere 14 = .ok (.getfield 200, 3) := by decide +kernel
theorem dX11_isThere_17 : decode cX11_isThere 17 = .ok (.if_icmp .ge 7, 3) := by decide +kernel
theorem dX11_isThere_20 : decode cX11_isThere 20 = .ok (.iconst 1, 1) := by decide +kernel
theorem dX11_isThere_21 : decode cX11_isThere 21 = .ok (.goto 4, 3) := by decide +kernel
theorem dX11_isThere_24 : decode cX11_isThere 24 = .ok (.iconst 0, 1) := by decide +kernel
theorem dX11_isThere_25 : decode cX11_isThere 25 = .ok (.ireturn, 1) := by decide +kernel
theorem dX11_length_0 : decode cX11_length 0 = .ok (.aload_n 0, 1) := by decide +kernel
theorem dX11_length_1 : decode cX11_length 1 = .ok (.iload_n 1, 1) := by decide +kernel
theorem dX11_length_2 : decode cX11_length 2 = .ok (.invokevirtual 212, 3) := by decide +kernel
theorem dX11_length_5 : decode cX11_length 5 = .ok (.ifCond .ne 5, 3) := by decide +kernel
theorem dX11_length_8 : decode cX11_length 8 = .ok (.iconst (-1), 1) := by decide +kernel
theorem dX11_length_9 : decode cX11_length 9 = .ok (.ireturn, 1) := by decide +kernel
theorem dX11_length_10 : decode cX11_length 10 = .ok (.iload_n 1, 1) := by decide +kernel
theorem dX11_length_11 : decode cX11_length 11 = .ok (.iconst (-1), 1) := by decide +kernel
theorem dX11_length_12 : decode cX11_length 12 = .ok (.if_icmp .ne 11, 3) := by decide +kernel
theorem dX11_length_15 : decode cX11_length 15 = .ok (.aload_n 0, 1) := by decide +kernel
theorem dX11_length_16 : decode cX11_length 16 = .ok (.iload_n 2, 1) := by decide +kernel
theorem dX11_length_17 : decode cX11_length 17 = .ok (.invokevirtual 226, 3) := by decide +kernel
theorem dX11_length_20 : decode cX11_length 20 = .ok (.goto 9, 3) := by decide +kernel
theorem dX11_length_23 : decode cX11_length 23 = .ok (.aload_n 0, 1) := by decide +kernel
theorem dX11_length_24 : decode cX11_length 24 = .ok (.iload_n 1, 1) := by decide +kernel
theorem dX11_length_25 : decode cX11_length 25 = .ok (.iload_n 2, 1) := by decide +kernel
theorem dX11_length_26 : decode cX11_length 26 = .ok (.invokevirtual 230, 3) := by decide +kernel
theorem dX11_length_29 : decode cX11_length 29 = .ok (.aload_n 0, 1) := by decide +kernel
theorem dX11_length_30 : decode cX11_length 30 = .ok (.getfield 217, 3) := by decide +kernel
theorem dX11_length_33 : decode cX11_length 33 = .ok (.ireturn, 1) := by decide +kernel
theorem dX11_makeBody_0 : decode cX11_makeBody 0 = .ok (.aload_n 0, 1) := by decide +kernel
theorem dX11_makeBody_1 : decode cX11_makeBody 1 = .ok (.iconst 0, 1) := by decide +kernel
theorem dX11_makeBody_2 : decode cX11_makeBody 2 = .ok (.putfield 217, 3) := by decide +kernel
theorem dX11_makeBody_5 : decode cX11_makeBody 5 = .ok (.iconst 0, 1) := by decide +kernel
theorem dX11_makeBody_6 : decode cX11_makeBody 6 = .ok (.istore_n 2, 1) := by decide +kernel
theorem dX11_makeBody_7 : decode cX11_makeBody 7 = .ok (.iconst 0, 1) := by decide +kernel
theorem dX11_makeBody_8 : decode cX11_makeBody 8 = .ok (.istore_n 3, 1) := by decide +kernel
theorem dX11_makeBody_9 : decode cX11_makeBody 9 = .ok (.iload_n 3, 1) := by decide +kernel
theorem dX11_makeBody_10 : decode cX11_makeBody 10 = .ok (.aload_n 0, 1) := by decide +kernel
theorem dX11_makeBody_11 : decode cX11_makeBody 11 = .ok (.getfield 203, 3) := by decide +kernel
theorem dX11_makeBody_14 : decode cX11_makeBody 14 = .ok (.if_icmp .ge 59, 3) := by decide +kernel
theorem dX11_makeBody_17 : decode cX11_makeBody 17 = .ok (.aload_n 0, 1) := by decide +kernel
theorem dX11_makeBody_18 : decode cX11_makeBody 18 = .ok (.getfield 71, 3) := by decide +kernel
theorem dX11_makeBody_21 : decode cX11_makeBody 21 = .ok (.iload_n 3, 1) := by decide +kernel
theorem dX11_makeBody_22 : decode cX11_makeBody 22 = .ok (.iaload, 1) := by decide +kernel
theorem dX11_makeBody_23 : decode cX11_makeBody 23 = .ok (.istore 4, 2) := by decide +kernel
theorem dX11_makeBody_25 : decode cX11_makeBody 25 = .ok (.iload_n 1, 1) := by decide +kernel
theorem dX11_makeBody_26 : decode cX11_makeBody 26 = .ok (.ifCond .eq 16, 3) := by decide +kernel
theorem dX11_makeBody_29 : decode cX11_makeBody 29 = .ok (.iload 4, 2) := by decide +kernel
theorem dX11_makeBody_31 : decode cX11_makeBody 31 = .ok (.invokestatic 220, 3) := by decide +kernel
theorem dX11_makeBody_34 : decode cX11_makeBody 34 = .ok (.ifCond .eq 8, 3) := by decide +kernel
theorem dX11_makeBody_37 : decode cX11_makeBody 37 = .ok (.iconst 1, 1) := by decide +kernel
theorem dX11_makeBody_38 : decode cX11_makeBody 38 = .ok (.istore_n 2, 1) := by decide +kernel
theorem dX11_makeBody_39 : decode cX11_makeBody 39 = .ok (.goto 28, 3) := by decide +kernel
theorem dX11_makeBody_42 : decode cX11_makeBody 42 = .ok (.iload_n 2, 1) := by decide +kernel
theorem dX11_makeBody_43 : decode cX11_makeBody 43 = .ok (.ifCond .eq 16, 3) := by decide +kernel
theorem dX11_makeBody_46 : decode cX11_makeBody 46 = .ok (.iload 4, 2) := by decide +kernel
theorem dX11_makeBody_48 : decode cX11_makeBody 48 = .ok (.bipush 10, 2) := by decide +kernel
theorem dX11_makeBody_50 : decode cX11_makeBody 50 = .ok (.if_icmp .eq 9, 3) := by decide +kernel
theorem dX11_makeBody_53 : decode cX11_makeBody 53 = .ok (.aload_n 0, 1) := by decide +kernel
theorem dX11_makeBody_54 : decode cX11_makeBody 54 = .ok (.bipush 32, 2) := by decide +kernel
theorem dX11_makeBody_56 : decode cX11_makeBody 56 = .ok (.invokevirtual 223, 3) := by decide +kernel
theorem dX11_makeBody_59 : decode cX11_makeBody 59 = .ok (.iconst 0, 1) := by decide +kernel
theorem dX11_makeBody_60 : decode cX11_makeBody 60 = .ok (.istore_n 2, 1) := by decide +kernel
theorem dX11_makeBody_61 : decode cX11_makeBody 61 = .ok (.aload_n 0, 1) := by decide +kernel
theorem dX11_makeBody_62 : decode cX11_makeBody 62 = .ok (.iload 4, 2) := by decide +kernel
theorem dX11_makeBody_64 : decode cX11_makeBody 64 = .ok (.invokevirtual 223, 3) := by decide +kernel
theorem dX11_makeBody_67 : decode cX11_makeBody 67 = .ok (.iinc 3 1, 3) := by decide +kernel
theorem dX11_makeBody_70 : decode cX11_makeBody 70 = .ok (.goto (-61), 3) := by decide +kernel
theorem dX11_makeBody_73 : decode cX11_makeBody 73 = .ok (.aload_n 0, 1) := by decide +kernel
theorem dX11_makeBody_74 : decode cX11_makeBody 74 = .ok (.getfield 217, 3) := by decide +kernel
theorem dX11_makeBody_77 : decode cX11_makeBody 77 = .ok (.ifCond .le 32, 3) := by decide +kernel
theorem dX11_makeBody_80 : decode cX11_makeBody 80 = .ok (.aload_n 0, 1) := by decide +kernel
theorem dX11_makeBody_81 : decode cX11_makeBody 81 = .ok (.getfield 104, 3) := by decide +kernel
theorem dX11_makeBody_84 : decode cX11_makeBody 84 = .ok (.aload_n 0, 1) := by decide +kernel
theorem dX11_makeBody_85 : decode cX11_makeBody 85 = .ok (.getfield 217, 3) := by decide +kernel
theorem dX11_makeBody_88 : decode cX11_makeBody 88 = .ok (.iconst 1, 1) := by decide +kernel
theorem dX11_makeBody_89 : decode cX11_makeBody 89 = .ok (.isub, 1) := by decide +kernel
theorem dX11_makeBody_90 : decode cX11_makeBody 90 = .ok (.iaload, 1) := by decide +kernel
theorem dX11_makeBody_91 : decode cX11_makeBody 91 = .ok (.bipush 10, 2) := by decide +kernel
theorem dX11_makeBody_93 : decode cX11_makeBody 93 = .ok (.if_icmp .ne 16, 3) := by decide +kernel
theorem dX11_makeBody_96 : decode cX11_makeBody 96 = .ok (.aload_n 0, 1) := by decide +kernel
theorem dX11_makeBody_97 : decode cX11_makeBody 97 = .ok (.dup, 1) := by decide +kernel
theorem dX11_makeBody_98 : decode cX11_makeBody 98 = .ok (.getfield 217, 3) := by decide +kernel
theorem dX11_makeBody_101 : decode cX11_makeBody 101 = .ok (.iconst 1, 1) := by decide +kernel
theorem dX11_makeBody_102 : decode cX11_makeBody 102 = .ok (.isub, 1) := by decide +kernel
theorem dX11_makeBody_103 : decode cX11_makeBody 103 = .ok (.putfield 217, 3) := by decide +kernel
theorem dX11_makeBody_106 : decode cX11_makeBody 106 = .ok (.goto (-33), 3) := by decide +kernel
theorem dX11_makeBody_109 : decode cX11_makeBody 109 = .ok (.aload_n 0, 1) := by decide +kernel
theorem dX11_makeBody_110 : decode cX11_makeBody 110 = .ok (.bipush 10, 2) := by decide +kernel
theorem dX11_makeBody_112 : decode cX11_makeBody 112 = .ok (.invokevirtual 223, 3) := by decide +kernel
theorem dX11_makeBody_115 : decode cX11_makeBody 115 = .ok (.return_, 1) := by decide +kernel
