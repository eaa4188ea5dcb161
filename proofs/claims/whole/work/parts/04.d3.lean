theorem d_SE_init_0 : decode b_SE_init 0 = .ok (.aload_n 0, 1) := by decide +kernel
theorem d_SE_init_1 : decode b_SE_init 1 = .ok (.invokespecial 3, 3) := by decide +kernel
theorem d_SE_init_4 : decode b_SE_init 4 = .ok (.aload_n 0, 1) := by decide +kernel
theorem d_SE_init_5 : decode b_SE_init 5 = .ok (.new 9, 3) := by decide +kernel
theorem d_SE_init_8 : decode b_SE_init 8 = .ok (.dup, 1) := by decide +kernel
theorem d_SE_init_9 : decode b_SE_init 9 = .ok (.iconst 1, 1) := by decide +kernel
theorem d_SE_init_10 : decode b_SE_init 10 = .ok (.iload_n 1, 1) := by decide +kernel
theorem d_SE_init_11 : decode b_SE_init 11 = .ok (.iconst 1, 1) := by decide +kernel
theorem d_SE_init_12 : decode b_SE_init 12 = .ok (.isub, 1) := by decide +kernel
theorem d_SE_init_13 : decode b_SE_init 13 = .ok (.iconst 4, 1) := by decide +kernel
theorem d_SE_init_14 : decode b_SE_init 14 = .ok (.invokestatic 11, 3) := by decide +kernel
theorem d_SE_init_17 : decode b_SE_init 17 = .ok (.iadd, 1) := by decide +kernel
theorem d_SE_init_18 : decode b_SE_init 18 = .ok (.invokespecial 17, 3) := by decide +kernel
theorem d_SE_init_21 : decode b_SE_init 21 = .ok (.putfield 20, 3) := by decide +kernel
theorem d_SE_init_24 : decode b_SE_init 24 = .ok (.aload_n 0, 1) := by decide +kernel
theorem d_SE_init_25 : decode b_SE_init 25 = .ok (.new 24, 3) := by decide +kernel
theorem d_SE_init_28 : decode b_SE_init 28 = .ok (.dup, 1) := by decide +kernel
theorem d_SE_init_29 : decode b_SE_init 29 = .ok (.iconst 1, 1) := by decide +kernel
theorem d_SE_init_30 : decode b_SE_init 30 = .ok (.iload_n 2, 1) := by decide +kernel
theorem d_SE_init_31 : decode b_SE_init 31 = .ok (.iconst 1, 1) := by decide +kernel
theorem d_SE_init_32 : decode b_SE_init 32 = .ok (.isub, 1) := by decide +kernel
theorem d_SE_init_33 : decode b_SE_init 33 = .ok (.sipush 8192, 3) := by decide +kernel
theorem d_SE_init_36 : decode b_SE_init 36 = .ok (.invokestatic 11, 3) := by decide +kernel
theorem d_SE_init_39 : decode b_SE_init 39 = .ok (.iadd, 1) := by decide +kernel
theorem d_SE_init_40 : decode b_SE_init 40 = .ok (.invokespecial 26, 3) := by decide +kernel
theorem d_SE_init_43 : decode b_SE_init 43 = .ok (.putfield 27, 3) := by decide +kernel
theorem d_SE_init_46 : decode b_SE_init 46 = .ok (.aload_n 0, 1) := by decide +kernel
theorem d_SE_init_47 : decode b_SE_init 47 = .ok (.new 31, 3) := by decide +kernel
theorem d_SE_init_50 : decode b_SE_init 50 = .ok (.dup, 1) := by decide +kernel
theorem d_SE_init_51 : decode b_SE_init 51 = .ok (.aload_n 0, 1) := by decide +kernel
theorem d_SE_init_52 : decode b_SE_init 52 = .ok (.getfield 20, 3) := by decide +kernel
theorem d_SE_init_55 : decode b_SE_init 55 = .ok (.aload_n 0, 1) := by decide +kernel
theorem d_SE_init_56 : decode b_SE_init 56 = .ok (.getfield 27, 3) := by decide +kernel
theorem d_SE_init_59 : decode b_SE_init 59 = .ok (.invokespecial 33, 3) := by decide +kernel
theorem d_SE_init_62 : decode b_SE_init 62 = .ok (.putfield 36, 3) := by decide +kernel
theorem d_SE_init_65 : decode b_SE_init 65 = .ok (.return_, 1) := by decide +kernel
theorem d_SE_state_0 : decode b_SE_state 0 = .ok (.aload_n 0, 1) := by decide +kernel
theorem d_SE_state_1 : decode b_SE_state 1 = .ok (.getfield 20, 3) := by decide +kernel
theorem d_SE_state_4 : decode b_SE_state 4 = .ok (.getfield 40, 3) := by decide +kernel
theorem d_SE_state_7 : decode b_SE_state 7 = .ok (.bipush 8, 2) := by decide +kernel
theorem d_SE_state_9 : decode b_SE_state 9 = .ok (.if_icmp .lt 13, 3) := by decide +kernel
theorem d_SE_state_12 : decode b_SE_state 12 = .ok (.new 44, 3) := by decide +kernel
theorem d_SE_state_15 : decode b_SE_state 15 = .ok (.dup, 1) := by decide +kernel
theorem d_SE_state_16 : decode b_SE_state 16 = .ok (.ldc 46, 2) := by decide +kernel
theorem d_SE_state_18 : decode b_SE_state 18 = .ok (.invokespecial 48, 3) := by decide +kernel
theorem d_SE_state_21 : decode b_SE_state 21 = .ok (.athrow, 1) := by decide +kernel
theorem d_SE_state_22 : decode b_SE_state 22 = .ok (.aload_n 0, 1) := by decide +kernel
theorem d_SE_state_23 : decode b_SE_state 23 = .ok (.getfield 36, 3) := by decide +kernel
theorem d_SE_state_26 : decode b_SE_state 26 = .ok (.invokevirtual 51, 3) := by decide +kernel
theorem d_SE_state_29 : decode b_SE_state 29 = .ok (.aload_n 0, 1) := by decide +kernel
theorem d_SE_state_30 : decode b_SE_state 30 = .ok (.getfield 20, 3) := by decide +kernel
theorem d_SE_state_33 : decode b_SE_state 33 = .ok (.dup, 1) := by decide +kernel
theorem d_SE_state_34 : decode b_SE_state 34 = .ok (.getfield 40, 3) := by decide +kernel
theorem d_SE_state_37 : decode b_SE_state 37 = .ok (.dup_x1, 1) := by decide +kernel
theorem d_SE_state_38 : decode b_SE_state 38 = .ok (.iconst 1, 1) := by decide +kernel
theorem d_SE_state_39 : decode b_SE_state 39 = .ok (.iadd, 1) := by decide +kernel
theorem d_SE_state_40 : decode b_SE_state 40 = .ok (.putfield 40, 3) := by decide +kernel
theorem d_SE_state_43 : decode b_SE_state 43 = .ok (.ireturn, 1) := by decide +kernel
theorem d_SE_message_0 : decode b_SE_message 0 = .ok (.aload_n 0, 1) := by decide +kernel
theorem d_SE_message_1 : decode b_SE_message 1 = .ok (.getfield 20, 3) := by decide +kernel
theorem d_SE_message_4 : decode b_SE_message 4 = .ok (.getfield 54, 3) := by decide +kernel
theorem d_SE_message_7 : decode b_SE_message 7 = .ok (.bipush 6, 2) := by decide +kernel
theorem d_SE_message_9 : decode b_SE_message 9 = .ok (.if_icmp .lt 13, 3) := by decide +kernel
theorem d_SE_message_12 : decode b_SE_message 12 = .ok (.new 44, 3) := by decide +kernel
theorem d_SE_message_15 : decode b_SE_message 15 = .ok (.dup, 1) := by decide +kernel
theorem d_SE_message_16 : decode b_SE_message 16 = .ok (.ldc 57, 2) := by decide +kernel
theorem d_SE_message_18 : decode b_SE_message 18 = .ok (.invokespecial 48, 3) := by decide +kernel
theorem d_SE_message_21 : decode b_SE_message 21 = .ok (.athrow, 1) := by decide +kernel
theorem d_SE_message_22 : decode b_SE_message 22 = .ok (.aload_n 0, 1) := by decide +kernel
theorem d_SE_message_23 : decode b_SE_message 23 = .ok (.getfield 36, 3) := by decide +kernel
theorem d_SE_message_26 : decode b_SE_message 26 = .ok (.invokevirtual 51, 3) := by decide +kernel
theorem d_SE_message_29 : decode b_SE_message 29 = .ok (.aload_n 0, 1) := by decide +kernel
theorem d_SE_message_30 : decode b_SE_message 30 = .ok (.getfield 20, 3) := by decide +kernel
theorem d_SE_message_33 : decode b_SE_message 33 = .ok (.dup, 1) := by decide +kernel
theorem d_SE_message_34 : decode b_SE_message 34 = .ok (.getfield 54, 3) := by decide +kernel
theorem d_SE_message_37 : decode b_SE_message 37 = .ok (.dup_x1, 1) := by decide +kernel
theorem d_SE_message_38 : decode b_SE_message 38 = .ok (.iconst 1, 1) := by decide +kernel
theorem d_SE_message_39 : decode b_SE_message 39 = .ok (.iadd, 1) := by decide +kernel
theorem d_SE_message_40 : decode b_SE_message 40 = .ok (.putfield 54, 3) := by decide +kernel
theorem d_SE_message_43 : decode b_SE_message 43 = .ok (.ireturn, 1) := by decide +kernel
theorem d_SE_rule_0 : decode b_SE_rule 0 = .ok (.aload_n 0, 1) := by decide +kernel
theorem d_SE_rule_1 : decode b_SE_rule 1 = .ok (.getfield 20, 3) := by decide +kernel
theorem d_SE_rule_4 : decode b_SE_rule 4 = .ok (.iload_n 1, 1) := by decide +kernel
theorem d_SE_rule_5 : decode b_SE_rule 5 = .ok (.invokevirtual 59, 3) := by decide +kernel
theorem d_SE_rule_8 : decode b_SE_rule 8 = .ok (.ifCond .eq 14, 3) := by decide +kernel
theorem d_SE_rule_11 : decode b_SE_rule 11 = .ok (.aload_n 0, 1) := by decide +kernel
theorem d_SE_rule_12 : decode b_SE_rule 12 = .ok (.getfield 20, 3) := by decide +kernel
theorem d_SE_rule_15 : decode b_SE_rule 15 = .ok (.iload_n 3, 1) := by decide +kernel
theorem d_SE_rule_16 : decode b_SE_rule 16 = .ok (.invokevirtual 59, 3) := by decide +kernel
theorem d_SE_rule_19 : decode b_SE_rule 19 = .ok (.ifCond .ne 13, 3) := by decide +kernel
theorem d_SE_rule_22 : decode b_SE_rule 22 = .ok (.new 63, 3) := by decide +kernel
theorem d_SE_rule_25 : decode b_SE_rule 25 = .ok (.dup, 1) := by decide +kernel
theorem d_SE_rule_26 : decode b_SE_rule 26 = .ok (.ldc 65, 2) := by decide +kernel
theorem d_SE_rule_28 : decode b_SE_rule 28 = .ok (.invokespecial 67, 3) := by decide +kernel
theorem d_SE_rule_31 : decode b_SE_rule 31 = .ok (.athrow, 1) := by decide +kernel
theorem d_SE_rule_32 : decode b_SE_rule 32 = .ok (.iload_n 2, 1) := by decide +kernel
theorem d_SE_rule_33 : decode b_SE_rule 33 = .ok (.iconst (-1), 1) := by decide +kernel
theorem d_SE_rule_34 : decode b_SE_rule 34 = .ok (.if_icmp .eq 24, 3) := by decide +kernel
theorem d_SE_rule_37 : decode b_SE_rule 37 = .ok (.aload_n 0, 1) := by decide +kernel
theorem d_SE_rule_38 : decode b_SE_rule 38 = .ok (.getfield 20, 3) := by decide +kernel
theorem d_SE_rule_41 : decode b_SE_rule 41 = .ok (.iload_n 2, 1) := by decide +kernel
theorem d_SE_rule_42 : decode b_SE_rule 42 = .ok (.invokevirtual 68, 3) := by decide +kernel
theorem d_SE_rule_45 : decode b_SE_rule 45 = .ok (.ifCond .ne 13, 3) := by decide +kernel
theorem d_SE_rule_48 : decode b_SE_rule 48 = .ok (.new 63, 3) := by decide +kernel
theorem d_SE_rule_51 : decode b_SE_rule 51 = .ok (.dup, 1) := by decide +kernel
theorem d_SE_rule_52 : decode b_SE_rule 52 = .ok (.ldc 71, 2) := by decide +kernel
theorem d_SE_rule_54 : decode b_SE_rule 54 = .ok (.invokespecial 67, 3) := by decide +kernel
theorem d_SE_rule_57 : decode b_SE_rule 57 = .ok (.athrow, 1) := by decide +kernel
theorem d_SE_rule_58 : decode b_SE_rule 58 = .ok (.aload_n 0, 1) := by decide +kernel
theorem d_SE_rule_59 : decode b_SE_rule 59 = .ok (.getfield 20, 3) := by decide +kernel
theorem d_SE_rule_62 : decode b_SE_rule 62 = .ok (.getfield 73, 3) := by decide +kernel
theorem d_SE_rule_65 : decode b_SE_rule 65 = .ok (.bipush 40, 2) := by decide +kernel
theorem d_SE_rule_67 : decode b_SE_rule 67 = .ok (.if_icmp .lt 13, 3) := by decide +kernel
theorem d_SE_rule_70 : decode b_SE_rule 70 = .ok (.new 44, 3) := by decide +kernel
theorem d_SE_rule_73 : decode b_SE_rule 73 = .ok (.dup, 1) := by decide +kernel
theorem d_SE_rule_74 : decode b_SE_rule 74 = .ok (.ldc 76, 2) := by decide +kernel
theorem d_SE_rule_76 : decode b_SE_rule 76 = .ok (.invokespecial 48, 3) := by decide +kernel
theorem d_SE_rule_79 : decode b_SE_rule 79 = .ok (.athrow, 1) := by decide +kernel
theorem d_SE_rule_80 : decode b_SE_rule 80 = .ok (.aload_n 0, 1) := by decide +kernel
theorem d_SE_rule_81 : decode b_SE_rule 81 = .ok (.getfield 36, 3) := by decide +kernel
theorem d_SE_rule_84 : decode b_SE_rule 84 = .ok (.invokevirtual 51, 3) := by decide +kernel
theorem d_SE_rule_87 : decode b_SE_rule 87 = .ok (.aload_n 0, 1) := by decide +kernel
theorem d_SE_rule_88 : decode b_SE_rule 88 = .ok (.getfield 20, 3) := by decide +kernel
theorem d_SE_rule_91 : decode b_SE_rule 91 = .ok (.iload_n 1, 1) := by decide +kernel
theorem d_SE_rule_92 : decode b_SE_rule 92 = .ok (.iload_n 2, 1) := by decide +kernel
theorem d_SE_rule_93 : decode b_SE_rule 93 = .ok (.iload_n 3, 1) := by decide +kernel
theorem d_SE_rule_94 : decode b_SE_rule 94 = .ok (.invokevirtual 78, 3) := by decide +kernel
theorem d_SE_rule_97 : decode b_SE_rule 97 = .ok (.ireturn, 1) := by decide +kernel
theorem d_SE_sends_0 : decode b_SE_sends 0 = .ok (.iload_n 1, 1) := by decide +kernel
theorem d_SE_sends_1 : decode b_SE_sends 1 = .ok (.ifCond .lt 14, 3) := by decide +kernel
theorem d_SE_sends_4 : decode b_SE_sends 4 = .ok (.iload_n 1, 1) := by decide +kernel
theorem d_SE_sends_5 : decode b_SE_sends 5 = .ok (.aload_n 0, 1) := by decide +kernel
theorem d_SE_sends_6 : decode b_SE_sends 6 = .ok (.getfield 20, 3) := by decide +kernel
theorem d_SE_sends_9 : decode b_SE_sends 9 = .ok (.getfield 73, 3) := by decide +kernel
theorem d_SE_sends_12 : decode b_SE_sends 12 = .ok (.if_icmp .lt 13, 3) := by decide +kernel
theorem d_SE_sends_15 : decode b_SE_sends 15 = .ok (.new 63, 3) := by decide +kernel
theorem d_SE_sends_18 : decode b_SE_sends 18 = .ok (.dup, 1) := by decide +kernel
theorem d_SE_sends_19 : decode b_SE_sends 19 = .ok (.ldc 82, 2) := by decide +kernel
theorem d_SE_sends_21 : decode b_SE_sends 21 = .ok (.invokespecial 67, 3) := by decide +kernel
theorem d_SE_sends_24 : decode b_SE_sends 24 = .ok (.athrow, 1) := by decide +kernel
theorem d_SE_sends_25 : decode b_SE_sends 25 = .ok (.aload_n 0, 1) := by decide +kernel
theorem d_SE_sends_26 : decode b_SE_sends 26 = .ok (.getfield 20, 3) := by decide +kernel
theorem d_SE_sends_29 : decode b_SE_sends 29 = .ok (.iload_n 2, 1) := by decide +kernel
theorem d_SE_sends_30 : decode b_SE_sends 30 = .ok (.invokevirtual 68, 3) := by decide +kernel
theorem d_SE_sends_33 : decode b_SE_sends 33 = .ok (.ifCond .ne 13, 3) := by decide +kernel
theorem d_SE_sends_36 : decode b_SE_sends 36 = .ok (.new 63, 3) := by decide +kernel
theorem d_SE_sends_39 : decode b_SE_sends 39 = .ok (.dup, 1) := by decide +kernel
theorem d_SE_sends_40 : decode b_SE_sends 40 = .ok (.ldc 71, 2) := by decide +kernel
theorem d_SE_sends_42 : decode b_SE_sends 42 = .ok (.invokespecial 67, 3) := by decide +kernel
theorem d_SE_sends_45 : decode b_SE_sends 45 = .ok (.athrow, 1) := by decide +kernel
theorem d_SE_sends_46 : decode b_SE_sends 46 = .ok (.iload_n 3, 1) := by decide +kernel
theorem d_SE_sends_47 : decode b_SE_sends 47 = .ok (.ifCond .eq 18, 3) := by decide +kernel
theorem d_SE_sends_50 : decode b_SE_sends 50 = .ok (.iload_n 3, 1) := by decide +kernel
theorem d_SE_sends_51 : decode b_SE_sends 51 = .ok (.iconst 1, 1) := by decide +kernel
theorem d_SE_sends_52 : decode b_SE_sends 52 = .ok (.if_icmp .eq 13, 3) := by decide +kernel
theorem d_SE_sends_55 : decode b_SE_sends 55 = .ok (.new 63, 3) := by decide +kernel
theorem d_SE_sends_58 : decode b_SE_sends 58 = .ok (.dup, 1) := by decide +kernel
theorem d_SE_sends_59 : decode b_SE_sends 59 = .ok (.ldc 84, 2) := by decide +kernel
theorem d_SE_sends_61 : decode b_SE_sends 61 = .ok (.invokespecial 67, 3) := by decide +kernel
theorem d_SE_sends_64 : decode b_SE_sends 64 = .ok (.athrow, 1) := by decide +kernel
theorem d_SE_sends_65 : decode b_SE_sends 65 = .ok (.iload_n 3, 1) := by decide +kernel
theorem d_SE_sends_66 : decode b_SE_sends 66 = .ok (.ifCond .ne 26, 3) := by decide +kernel
theorem d_SE_sends_69 : decode b_SE_sends 69 = .ok (.aload_n 0, 1) := by decide +kernel
theorem d_SE_sends_70 : decode b_SE_sends 70 = .ok (.getfield 20, 3) := by decide +kernel
theorem d_SE_sends_73 : decode b_SE_sends 73 = .ok (.getfield 86, 3) := by decide +kernel
theorem d_SE_sends_76 : decode b_SE_sends 76 = .ok (.iload_n 1, 1) := by decide +kernel
theorem d_SE_sends_77 : decode b_SE_sends 77 = .ok (.iaload, 1) := by decide +kernel
theorem d_SE_sends_78 : decode b_SE_sends 78 = .ok (.iconst (-1), 1) := by decide +kernel
theorem d_SE_sends_79 : decode b_SE_sends 79 = .ok (.if_icmp .ne 13, 3) := by decide +kernel
theorem d_SE_sends_82 : decode b_SE_sends 82 = .ok (.new 63, 3) := by decide +kernel
theorem d_SE_sends_85 : decode b_SE_sends 85 = .ok (.dup, 1) := by decide +kernel
theorem d_SE_sends_86 : decode b_SE_sends 86 = .ok (.ldc 90, 2) := by decide +kernel
theorem d_SE_sends_88 : decode b_SE_sends 88 = .ok (.invokespecial 67, 3) := by decide +kernel
theorem d_SE_sends_91 : decode b_SE_sends 91 = .ok (.athrow, 1) := by decide +kernel
theorem d_SE_sends_92 : decode b_SE_sends 92 = .ok (.aload_n 0, 1) := by decide +kernel
theorem d_SE_sends_93 : decode b_SE_sends 93 = .ok (.getfield 20, 3) := by decide +kernel
theorem d_SE_sends_96 : decode b_SE_sends 96 = .ok (.getfield 92, 3) := by decide +kernel
theorem d_SE_sends_99 : decode b_SE_sends 99 = .ok (.iload_n 1, 1) := by decide +kernel
theorem d_SE_sends_100 : decode b_SE_sends 100 = .ok (.iaload, 1) := by decide +kernel
theorem d_SE_sends_101 : decode b_SE_sends 101 = .ok (.iconst 4, 1) := by decide +kernel
theorem d_SE_sends_102 : decode b_SE_sends 102 = .ok (.if_icmp .lt 13, 3) := by decide +kernel
theorem d_SE_sends_105 : decode b_SE_sends 105 = .ok (.new 44, 3) := by decide +kernel
theorem d_SE_sends_108 : decode b_SE_sends 108 = .ok (.dup, 1) := by decide +kernel
theorem d_SE_sends_109 : decode b_SE_sends 109 = .ok (.ldc 95, 2) := by decide +kernel
theorem d_SE_sends_111 : decode b_SE_sends 111 = .ok (.invokespecial 48, 3) := by decide +kernel
theorem d_SE_sends_114 : decode b_SE_sends 114 = .ok (.athrow, 1) := by decide +kernel
theorem d_SE_sends_115 : decode b_SE_sends 115 = .ok (.aload_n 0, 1) := by decide +kernel
theorem d_SE_sends_116 : decode b_SE_sends 116 = .ok (.getfield 36, 3) := by decide +kernel
theorem d_SE_sends_119 : decode b_SE_sends 119 = .ok (.invokevirtual 51, 3) := by decide +kernel
theorem d_SE_sends_122 : decode b_SE_sends 122 = .ok (.aload_n 0, 1) := by decide +kernel
theorem d_SE_sends_123 : decode b_SE_sends 123 = .ok (.getfield 20, 3) := by decide +kernel
theorem d_SE_sends_126 : decode b_SE_sends 126 = .ok (.iload_n 1, 1) := by decide +kernel
theorem d_SE_sends_127 : decode b_SE_sends 127 = .ok (.iload_n 2, 1) := by decide +kernel
theorem d_SE_sends_128 : decode b_SE_sends 128 = .ok (.iload_n 3, 1) := by decide +kernel
theorem d_SE_sends_129 : decode b_SE_sends 129 = .ok (.invokevirtual 97, 3) := by decide +kernel
theorem d_SE_sends_132 : decode b_SE_sends 132 = .ok (.ireturn, 1) := by decide +kernel
theorem d_SE_bad_0 : decode b_SE_bad 0 = .ok (.aload_n 0, 1) := by decide +kernel
theorem d_SE_bad_1 : decode b_SE_bad 1 = .ok (.getfield 20, 3) := by decide +kernel
theorem d_SE_bad_4 : decode b_SE_bad 4 = .ok (.iload_n 1, 1) := by decide +kernel
theorem d_SE_bad_5 : decode b_SE_bad 5 = .ok (.invokevirtual 59, 3) := by decide +kernel
theorem d_SE_bad_8 : decode b_SE_bad 8 = .ok (.ifCond .eq 14, 3) := by decide +kernel
theorem d_SE_bad_11 : decode b_SE_bad 11 = .ok (.aload_n 0, 1) := by decide +kernel
theorem d_SE_bad_12 : decode b_SE_bad 12 = .ok (.getfield 20, 3) := by decide +kernel
theorem d_SE_bad_15 : decode b_SE_bad 15 = .ok (.iload_n 2, 1) := by decide +kernel
theorem d_SE_bad_16 : decode b_SE_bad 16 = .ok (.invokevirtual 59, 3) := by decide +kernel
theorem d_SE_bad_19 : decode b_SE_bad 19 = .ok (.ifCond .ne 13, 3) := by decide +kernel
theorem d_SE_bad_22 : decode b_SE_bad 22 = .ok (.new 63, 3) := by decide +kernel
theorem d_SE_bad_25 : decode b_SE_bad 25 = .ok (.dup, 1) := by decide +kernel
theorem d_SE_bad_26 : decode b_SE_bad 26 = .ok (.ldc 65, 2) := by decide +kernel
theorem d_SE_bad_28 : decode b_SE_bad 28 = .ok (.invokespecial 67, 3) := by decide +kernel
theorem d_SE_bad_31 : decode b_SE_bad 31 = .ok (.athrow, 1) := by decide +kernel
theorem d_SE_bad_32 : decode b_SE_bad 32 = .ok (.aload_n 0, 1) := by decide +kernel
theorem d_SE_bad_33 : decode b_SE_bad 33 = .ok (.getfield 20, 3) := by decide +kernel
theorem d_SE_bad_36 : decode b_SE_bad 36 = .ok (.iload_n 1, 1) := by decide +kernel
theorem d_SE_bad_37 : decode b_SE_bad 37 = .ok (.iload_n 2, 1) := by decide +kernel
theorem d_SE_bad_38 : decode b_SE_bad 38 = .ok (.invokevirtual 100, 3) := by decide +kernel
theorem d_SE_bad_41 : decode b_SE_bad 41 = .ok (.ifCond .eq 5, 3) := by decide +kernel
theorem d_SE_bad_44 : decode b_SE_bad 44 = .ok (.iconst 0, 1) := by decide +kernel
theorem d_SE_bad_45 : decode b_SE_bad 45 = .ok (.ireturn, 1) := by decide +kernel
theorem d_SE_bad_46 : decode b_SE_bad 46 = .ok (.aload_n 0, 1) := by decide +kernel
theorem d_SE_bad_47 : decode b_SE_bad 47 = .ok (.getfield 36, 3) := by decide +kernel
theorem d_SE_bad_50 : decode b_SE_bad 50 = .ok (.invokevirtual 51, 3) := by decide +kernel
theorem d_SE_bad_53 : decode b_SE_bad 53 = .ok (.aload_n 0, 1) := by decide +kernel
theorem d_SE_bad_54 : decode b_SE_bad 54 = .ok (.getfield 20, 3) := by decide +kernel
theorem d_SE_bad_57 : decode b_SE_bad 57 = .ok (.iload_n 1, 1) := by decide +kernel
theorem d_SE_bad_58 : decode b_SE_bad 58 = .ok (.iload_n 2, 1) := by decide +kernel
theorem d_SE_bad_59 : decode b_SE_bad 59 = .ok (.invokevirtual 104, 3) := by decide +kernel
theorem d_SE_bad_62 : decode b_SE_bad 62 = .ok (.iconst 1, 1) := by decide +kernel
theorem d_SE_bad_63 : decode b_SE_bad 63 = .ok (.ireturn, 1) := by decide +kernel
theorem d_SE_run_0 : decode b_SE_run 0 = .ok (.aload_n 0, 1) := by decide +kernel
theorem d_SE_run_1 : decode b_SE_run 1 = .ok (.getfield 36, 3) := by decide +kernel
theorem d_SE_run_4 : decode b_SE_run 4 = .ok (.sipush 8192, 3) := by decide +kernel
theorem d_SE_run_7 : decode b_SE_run 7 = .ok (.invokevirtual 108, 3) := by decide +kernel
theorem d_SE_run_10 : decode b_SE_run 10 = .ok (.aload_n 0, 1) := by decide +kernel
theorem d_SE_run_11 : decode b_SE_run 11 = .ok (.getfield 36, 3) := by decide +kernel
theorem d_SE_run_14 : decode b_SE_run 14 = .ok (.getfield 111, 3) := by decide +kernel
theorem d_SE_run_17 : decode b_SE_run 17 = .ok (.ifCond .ne 13, 3) := by decide +kernel
theorem d_SE_run_20 : decode b_SE_run 20 = .ok (.aload_n 0, 1) := by decide +kernel
theorem d_SE_run_21 : decode b_SE_run 21 = .ok (.getfield 27, 3) := by decide +kernel
theorem d_SE_run_24 : decode b_SE_run 24 = .ok (.getfield 114, 3) := by decide +kernel
theorem d_SE_run_27 : decode b_SE_run 27 = .ok (.goto 10, 3) := by decide +kernel
theorem d_SE_run_30 : decode b_SE_run 30 = .ok (.aload_n 0, 1) := by decide +kernel
theorem d_SE_run_31 : decode b_SE_run 31 = .ok (.getfield 36, 3) := by decide +kernel
theorem d_SE_run_34 : decode b_SE_run 34 = .ok (.getfield 111, 3) := by decide +kernel
theorem d_SE_run_37 : decode b_SE_run 37 = .ok (.ireturn, 1) := by decide +kernel
theorem d_SE_go_0 : decode b_SE_go 0 = .ok (.iload_n 1, 1) := by decide +kernel
theorem d_SE_go_1 : decode b_SE_go 1 = .ok (.iconst 1, 1) := by decide +kernel
theorem d_SE_go_2 : decode b_SE_go 2 = .ok (.if_icmp .lt 10, 3) := by decide +kernel
theorem d_SE_go_5 : decode b_SE_go 5 = .ok (.iload_n 1, 1) := by decide +kernel
theorem d_SE_go_6 : decode b_SE_go 6 = .ok (.sipush 1000, 3) := by decide +kernel
theorem d_SE_go_9 : decode b_SE_go 9 = .ok (.if_icmp .le 13, 3) := by decide +kernel
theorem d_SE_go_12 : decode b_SE_go 12 = .ok (.new 63, 3) := by decide +kernel
theorem d_SE_go_15 : decode b_SE_go 15 = .ok (.dup, 1) := by decide +kernel
theorem d_SE_go_16 : decode b_SE_go 16 = .ok (.ldc 117, 2) := by decide +kernel
theorem d_SE_go_18 : decode b_SE_go 18 = .ok (.invokespecial 67, 3) := by decide +kernel
theorem d_SE_go_21 : decode b_SE_go 21 = .ok (.athrow, 1) := by decide +kernel
theorem d_SE_go_22 : decode b_SE_go 22 = .ok (.aload_n 0, 1) := by decide +kernel
theorem d_SE_go_23 : decode b_SE_go 23 = .ok (.getfield 36, 3) := by decide +kernel
theorem d_SE_go_26 : decode b_SE_go 26 = .ok (.iload_n 1, 1) := by decide +kernel
theorem d_SE_go_27 : decode b_SE_go 27 = .ok (.invokevirtual 108, 3) := by decide +kernel
theorem d_SE_go_30 : decode b_SE_go 30 = .ok (.aload_n 0, 1) := by decide +kernel
theorem d_SE_go_31 : decode b_SE_go 31 = .ok (.getfield 27, 3) := by decide +kernel
theorem d_SE_go_34 : decode b_SE_go 34 = .ok (.getfield 114, 3) := by decide +kernel
theorem d_SE_go_37 : decode b_SE_go 37 = .ok (.ireturn, 1) := by decide +kernel
theorem d_SE_node_0 : decode b_SE_node 0 = .ok (.aload_n 0, 1) := by decide +kernel
theorem d_SE_node_1 : decode b_SE_node 1 = .ok (.getfield 27, 3) := by decide +kernel
theorem d_SE_node_4 : decode b_SE_node 4 = .ok (.iload_n 1, 1) := by decide +kernel
theorem d_SE_node_5 : decode b_SE_node 5 = .ok (.invokevirtual 119, 3) := by decide +kernel
theorem d_SE_node_8 : decode b_SE_node 8 = .ok (.ifCond .eq 18, 3) := by decide +kernel
theorem d_SE_node_11 : decode b_SE_node 11 = .ok (.iload_n 2, 1) := by decide +kernel
theorem d_SE_node_12 : decode b_SE_node 12 = .ok (.ifCond .lt 14, 3) := by decide +kernel
theorem d_SE_node_15 : decode b_SE_node 15 = .ok (.iload_n 2, 1) := by decide +kernel
theorem d_SE_node_16 : decode b_SE_node 16 = .ok (.aload_n 0, 1) := by decide +kernel
theorem d_SE_node_17 : decode b_SE_node 17 = .ok (.getfield 20, 3) := by decide +kernel
theorem d_SE_node_20 : decode b_SE_node 20 = .ok (.getfield 122, 3) := by decide +kernel
theorem d_SE_node_23 : decode b_SE_node 23 = .ok (.if_icmp .lt 13, 3) := by decide +kernel
theorem d_SE_node_26 : decode b_SE_node 26 = .ok (.new 125, 3) := by decide +kernel
theorem d_SE_node_29 : decode b_SE_node 29 = .ok (.dup, 1) := by decide +kernel
theorem d_SE_node_30 : decode b_SE_node 30 = .ok (.ldc 127, 2) := by decide +kernel
theorem d_SE_node_32 : decode b_SE_node 32 = .ok (.invokespecial 129, 3) := by decide +kernel
theorem d_SE_node_35 : decode b_SE_node 35 = .ok (.athrow, 1) := by decide +kernel
theorem d_SE_node_36 : decode b_SE_node 36 = .ok (.aload_n 0, 1) := by decide +kernel
theorem d_SE_node_37 : decode b_SE_node 37 = .ok (.getfield 27, 3) := by decide +kernel
theorem d_SE_node_40 : decode b_SE_node 40 = .ok (.getfield 130, 3) := by decide +kernel
theorem d_SE_node_43 : decode b_SE_node 43 = .ok (.iload_n 1, 1) := by decide +kernel
theorem d_SE_node_44 : decode b_SE_node 44 = .ok (.laload, 1) := by decide +kernel
theorem d_SE_node_45 : decode b_SE_node 45 = .ok (.iload_n 2, 1) := by decide +kernel
theorem d_SE_node_46 : decode b_SE_node 46 = .ok (.invokestatic 134, 3) := by decide +kernel
theorem d_SE_node_49 : decode b_SE_node 49 = .ok (.ireturn, 1) := by decide +kernel
theorem d_SE_code_0 : decode b_SE_code 0 = .ok (.aload_n 0, 1) := by decide +kernel
theorem d_SE_code_1 : decode b_SE_code 1 = .ok (.getfield 27, 3) := by decide +kernel
theorem d_SE_code_4 : decode b_SE_code 4 = .ok (.iload_n 1, 1) := by decide +kernel
theorem d_SE_code_5 : decode b_SE_code 5 = .ok (.invokevirtual 119, 3) := by decide +kernel
theorem d_SE_code_8 : decode b_SE_code 8 = .ok (.ifCond .eq 23, 3) := by decide +kernel
theorem d_SE_code_11 : decode b_SE_code 11 = .ok (.iload_n 2, 1) := by decide +kernel
theorem d_SE_code_12 : decode b_SE_code 12 = .ok (.ifCond .lt 19, 3) := by decide +kernel
theorem d_SE_code_15 : decode b_SE_code 15 = .ok (.iload_n 2, 1) := by decide +kernel
theorem d_SE_code_16 : decode b_SE_code 16 = .ok (.aload_n 0, 1) := by decide +kernel
theorem d_SE_code_17 : decode b_SE_code 17 = .ok (.getfield 27, 3) := by decide +kernel
theorem d_SE_code_20 : decode b_SE_code 20 = .ok (.getfield 130, 3) := by decide +kernel
theorem d_SE_code_23 : decode b_SE_code 23 = .ok (.iload_n 1, 1) := by decide +kernel
theorem d_SE_code_24 : decode b_SE_code 24 = .ok (.laload, 1) := by decide +kernel
theorem d_SE_code_25 : decode b_SE_code 25 = .ok (.invokestatic 138, 3) := by decide +kernel
theorem d_SE_code_28 : decode b_SE_code 28 = .ok (.if_icmp .lt 13, 3) := by decide +kernel
theorem d_SE_code_31 : decode b_SE_code 31 = .ok (.new 125, 3) := by decide +kernel
theorem d_SE_code_34 : decode b_SE_code 34 = .ok (.dup, 1) := by decide +kernel
theorem d_SE_code_35 : decode b_SE_code 35 = .ok (.ldc 142, 2) := by decide +kernel
theorem d_SE_code_37 : decode b_SE_code 37 = .ok (.invokespecial 129, 3) := by decide +kernel
theorem d_SE_code_40 : decode b_SE_code 40 = .ok (.athrow, 1) := by decide +kernel
theorem d_SE_code_41 : decode b_SE_code 41 = .ok (.aload_n 0, 1) := by decide +kernel
theorem d_SE_code_42 : decode b_SE_code 42 = .ok (.getfield 27, 3) := by decide +kernel
theorem d_SE_code_45 : decode b_SE_code 45 = .ok (.getfield 130, 3) := by decide +kernel
theorem d_SE_code_48 : decode b_SE_code 48 = .ok (.iload_n 1, 1) := by decide +kernel
theorem d_SE_code_49 : decode b_SE_code 49 = .ok (.laload, 1) := by decide +kernel
theorem d_SE_code_50 : decode b_SE_code 50 = .ok (.iload_n 2, 1) := by decide +kernel
theorem d_SE_code_51 : decode b_SE_code 51 = .ok (.invokestatic 144, 3) := by decide +kernel
theorem d_SE_code_54 : decode b_SE_code 54 = .ok (.ireturn, 1) := by decide +kernel
theorem d_SE_whole_0 : decode b_SE_whole 0 = .ok (.aload_n 0, 1) := by decide +kernel
theorem d_SE_whole_1 : decode b_SE_whole 1 = .ok (.getfield 27, 3) := by decide +kernel
theorem d_SE_whole_4 : decode b_SE_whole 4 = .ok (.iload_n 1, 1) := by decide +kernel
theorem d_SE_whole_5 : decode b_SE_whole 5 = .ok (.invokevirtual 119, 3) := by decide +kernel
theorem d_SE_whole_8 : decode b_SE_whole 8 = .ok (.ifCond .ne 13, 3) := by decide +kernel
theorem d_SE_whole_11 : decode b_SE_whole 11 = .ok (.new 125, 3) := by decide +kernel
theorem d_SE_whole_14 : decode b_SE_whole 14 = .ok (.dup, 1) := by decide +kernel
theorem d_SE_whole_15 : decode b_SE_whole 15 = .ok (.ldc 147, 2) := by decide +kernel
theorem d_SE_whole_17 : decode b_SE_whole 17 = .ok (.invokespecial 129, 3) := by decide +kernel
theorem d_SE_whole_20 : decode b_SE_whole 20 = .ok (.athrow, 1) := by decide +kernel
theorem d_SE_whole_21 : decode b_SE_whole 21 = .ok (.iload_n 2, 1) := by decide +kernel
theorem d_SE_whole_22 : decode b_SE_whole 22 = .ok (.tableswitch 101 0 5 #[38, 51, 61, 71, 81, 91], 38) := by decide +kernel
theorem d_SE_whole_60 : decode b_SE_whole 60 = .ok (.aload_n 0, 1) := by decide +kernel
theorem d_SE_whole_61 : decode b_SE_whole 61 = .ok (.getfield 27, 3) := by decide +kernel
theorem d_SE_whole_64 : decode b_SE_whole 64 = .ok (.getfield 130, 3) := by decide +kernel
theorem d_SE_whole_67 : decode b_SE_whole 67 = .ok (.iload_n 1, 1) := by decide +kernel
theorem d_SE_whole_68 : decode b_SE_whole 68 = .ok (.laload, 1) := by decide +kernel
theorem d_SE_whole_69 : decode b_SE_whole 69 = .ok (.invokestatic 138, 3) := by decide +kernel
theorem d_SE_whole_72 : decode b_SE_whole 72 = .ok (.ireturn, 1) := by decide +kernel
theorem d_SE_whole_73 : decode b_SE_whole 73 = .ok (.aload_n 0, 1) := by decide +kernel
theorem d_SE_whole_74 : decode b_SE_whole 74 = .ok (.getfield 27, 3) := by decide +kernel
theorem d_SE_whole_77 : decode b_SE_whole 77 = .ok (.getfield 149, 3) := by decide +kernel
theorem d_SE_whole_80 : decode b_SE_whole 80 = .ok (.iload_n 1, 1) := by decide +kernel
theorem d_SE_whole_81 : decode b_SE_whole 81 = .ok (.iaload, 1) := by decide +kernel
theorem d_SE_whole_82 : decode b_SE_whole 82 = .ok (.ireturn, 1) := by decide +kernel
theorem d_SE_whole_83 : decode b_SE_whole 83 = .ok (.aload_n 0, 1) := by decide +kernel
theorem d_SE_whole_84 : decode b_SE_whole 84 = .ok (.getfield 27, 3) := by decide +kernel
theorem d_SE_whole_87 : decode b_SE_whole 87 = .ok (.getfield 152, 3) := by decide +kernel
theorem d_SE_whole_90 : decode b_SE_whole 90 = .ok (.iload_n 1, 1) := by decide +kernel
theorem d_SE_whole_91 : decode b_SE_whole 91 = .ok (.iaload, 1) := by decide +kernel
theorem d_SE_whole_92 : decode b_SE_whole 92 = .ok (.ireturn, 1) := by decide +kernel
theorem d_SE_whole_93 : decode b_SE_whole 93 = .ok (.aload_n 0, 1) := by decide +kernel
theorem d_SE_whole_94 : decode b_SE_whole 94 = .ok (.getfield 27, 3) := by decide +kernel
theorem d_SE_whole_97 : decode b_SE_whole 97 = .ok (.getfield 155, 3) := by decide +kernel
theorem d_SE_whole_100 : decode b_SE_whole 100 = .ok (.iload_n 1, 1) := by decide +kernel
theorem d_SE_whole_101 : decode b_SE_whole 101 = .ok (.iaload, 1) := by decide +kernel
theorem d_SE_whole_102 : decode b_SE_whole 102 = .ok (.ireturn, 1) := by decide +kernel
theorem d_SE_whole_103 : decode b_SE_whole 103 = .ok (.aload_n 0, 1) := by decide +kernel
theorem d_SE_whole_104 : decode b_SE_whole 104 = .ok (.getfield 27, 3) := by decide +kernel
theorem d_SE_whole_107 : decode b_SE_whole 107 = .ok (.getfield 157, 3) := by decide +kernel
theorem d_SE_whole_110 : decode b_SE_whole 110 = .ok (.iload_n 1, 1) := by decide +kernel
theorem d_SE_whole_111 : decode b_SE_whole 111 = .ok (.iaload, 1) := by decide +kernel
theorem d_SE_whole_112 : decode b_SE_whole 112 = .ok (.ireturn, 1) := by decide +kernel
theorem d_SE_whole_113 : decode b_SE_whole 113 = .ok (.aload_n 0, 1) := by decide +kernel
theorem d_SE_whole_114 : decode b_SE_whole 114 = .ok (.getfield 27, 3) := by decide +kernel
theorem d_SE_whole_117 : decode b_SE_whole 117 = .ok (.getfield 160, 3) := by decide +kernel
theorem d_SE_whole_120 : decode b_SE_whole 120 = .ok (.iload_n 1, 1) := by decide +kernel
theorem d_SE_whole_121 : decode b_SE_whole 121 = .ok (.iaload, 1) := by decide +kernel
theorem d_SE_whole_122 : decode b_SE_whole 122 = .ok (.ireturn, 1) := by decide +kernel
theorem d_SE_whole_123 : decode b_SE_whole 123 = .ok (.new 125, 3) := by decide +kernel
theorem d_SE_whole_126 : decode b_SE_whole 126 = .ok (.dup, 1) := by decide +kernel
theorem d_SE_whole_127 : decode b_SE_whole 127 = .ok (.ldc 163, 2) := by decide +kernel
theorem d_SE_whole_129 : decode b_SE_whole 129 = .ok (.invokespecial 129, 3) := by decide +kernel
theorem d_SE_whole_132 : decode b_SE_whole 132 = .ok (.athrow, 1) := by decide +kernel
theorem d_SE_way_0 : decode b_SE_way 0 = .ok (.aload_n 0, 1) := by decide +kernel
theorem d_SE_way_1 : decode b_SE_way 1 = .ok (.getfield 36, 3) := by decide +kernel
theorem d_SE_way_4 : decode b_SE_way 4 = .ok (.getfield 111, 3) := by decide +kernel
theorem d_SE_way_7 : decode b_SE_way 7 = .ok (.bipush (-2), 2) := by decide +kernel
theorem d_SE_way_9 : decode b_SE_way 9 = .ok (.if_icmp .ne 13, 3) := by decide +kernel
theorem d_SE_way_12 : decode b_SE_way 12 = .ok (.aload_n 0, 1) := by decide +kernel
theorem d_SE_way_13 : decode b_SE_way 13 = .ok (.getfield 27, 3) := by decide +kernel
theorem d_SE_way_16 : decode b_SE_way 16 = .ok (.invokevirtual 165, 3) := by decide +kernel
theorem d_SE_way_19 : decode b_SE_way 19 = .ok (.goto 4, 3) := by decide +kernel
theorem d_SE_way_22 : decode b_SE_way 22 = .ok (.iconst (-1), 1) := by decide +kernel
theorem d_SE_way_23 : decode b_SE_way 23 = .ok (.ireturn, 1) := by decide +kernel
theorem d_SE_wayAt_0 : decode b_SE_wayAt 0 = .ok (.aload_n 0, 1) := by decide +kernel
theorem d_SE_wayAt_1 : decode b_SE_wayAt 1 = .ok (.getfield 36, 3) := by decide +kernel
theorem d_SE_wayAt_4 : decode b_SE_wayAt 4 = .ok (.getfield 111, 3) := by decide +kernel
theorem d_SE_wayAt_7 : decode b_SE_wayAt 7 = .ok (.bipush (-2), 2) := by decide +kernel
theorem d_SE_wayAt_9 : decode b_SE_wayAt 9 = .ok (.if_icmp .ne 18, 3) := by decide +kernel
theorem d_SE_wayAt_12 : decode b_SE_wayAt 12 = .ok (.iload_n 1, 1) := by decide +kernel
theorem d_SE_wayAt_13 : decode b_SE_wayAt 13 = .ok (.ifCond .lt 14, 3) := by decide +kernel
theorem d_SE_wayAt_16 : decode b_SE_wayAt 16 = .ok (.iload_n 1, 1) := by decide +kernel
theorem d_SE_wayAt_17 : decode b_SE_wayAt 17 = .ok (.aload_n 0, 1) := by decide +kernel
theorem d_SE_wayAt_18 : decode b_SE_wayAt 18 = .ok (.getfield 27, 3) := by decide +kernel
theorem d_SE_wayAt_21 : decode b_SE_wayAt 21 = .ok (.invokevirtual 165, 3) := by decide +kernel
theorem d_SE_wayAt_24 : decode b_SE_wayAt 24 = .ok (.if_icmp .le 13, 3) := by decide +kernel
theorem d_SE_wayAt_27 : decode b_SE_wayAt 27 = .ok (.new 125, 3) := by decide +kernel
theorem d_SE_wayAt_30 : decode b_SE_wayAt 30 = .ok (.dup, 1) := by decide +kernel
theorem d_SE_wayAt_31 : decode b_SE_wayAt 31 = .ok (.ldc 169, 2) := by decide +kernel
theorem d_SE_wayAt_33 : decode b_SE_wayAt 33 = .ok (.invokespecial 129, 3) := by decide +kernel
theorem d_SE_wayAt_36 : decode b_SE_wayAt 36 = .ok (.athrow, 1) := by decide +kernel
theorem d_SE_wayAt_37 : decode b_SE_wayAt 37 = .ok (.aload_n 0, 1) := by decide +kernel
theorem d_SE_wayAt_38 : decode b_SE_wayAt 38 = .ok (.getfield 27, 3) := by decide +kernel
theorem d_SE_wayAt_41 : decode b_SE_wayAt 41 = .ok (.iload_n 1, 1) := by decide +kernel
theorem d_SE_wayAt_42 : decode b_SE_wayAt 42 = .ok (.invokevirtual 171, 3) := by decide +kernel
theorem d_SE_wayAt_45 : decode b_SE_wayAt 45 = .ok (.ireturn, 1) := by decide +kernel
theorem d_SE_count_0 : decode b_SE_count 0 = .ok (.iload_n 1, 1) := by decide +kernel
theorem d_SE_count_1 : decode b_SE_count 1 = .ok (.tableswitch 147 0 10 #[59, 67, 75, 83, 91, 99, 107, 115, 123, 131, 139], 59) := by decide +kernel
theorem d_SE_count_60 : decode b_SE_count 60 = .ok (.aload_n 0, 1) := by decide +kernel
theorem d_SE_count_61 : decode b_SE_count 61 = .ok (.getfield 20, 3) := by decide +kernel
theorem d_SE_count_64 : decode b_SE_count 64 = .ok (.getfield 122, 3) := by decide +kernel
theorem d_SE_count_67 : decode b_SE_count 67 = .ok (.ireturn, 1) := by decide +kernel
theorem d_SE_count_68 : decode b_SE_count 68 = .ok (.aload_n 0, 1) := by decide +kernel
theorem d_SE_count_69 : decode b_SE_count 69 = .ok (.getfield 20, 3) := by decide +kernel
theorem d_SE_count_72 : decode b_SE_count 72 = .ok (.getfield 40, 3) := by decide +kernel
theorem d_SE_count_75 : decode b_SE_count 75 = .ok (.ireturn, 1) := by decide +kernel
theorem d_SE_count_76 : decode b_SE_count 76 = .ok (.aload_n 0, 1) := by decide +kernel
theorem d_SE_count_77 : decode b_SE_count 77 = .ok (.getfield 20, 3) := by decide +kernel
theorem d_SE_count_80 : decode b_SE_count 80 = .ok (.getfield 54, 3) := by decide +kernel
theorem d_SE_count_83 : decode b_SE_count 83 = .ok (.ireturn, 1) := by decide +kernel
theorem d_SE_count_84 : decode b_SE_count 84 = .ok (.aload_n 0, 1) := by decide +kernel
theorem d_SE_count_85 : decode b_SE_count 85 = .ok (.getfield 20, 3) := by decide +kernel
theorem d_SE_count_88 : decode b_SE_count 88 = .ok (.getfield 73, 3) := by decide +kernel
theorem d_SE_count_91 : decode b_SE_count 91 = .ok (.ireturn, 1) := by decide +kernel
theorem d_SE_count_92 : decode b_SE_count 92 = .ok (.aload_n 0, 1) := by decide +kernel
theorem d_SE_count_93 : decode b_SE_count 93 = .ok (.getfield 27, 3) := by decide +kernel
theorem d_SE_count_96 : decode b_SE_count 96 = .ok (.getfield 114, 3) := by decide +kernel
theorem d_SE_count_99 : decode b_SE_count 99 = .ok (.ireturn, 1) := by decide +kernel
theorem d_SE_count_100 : decode b_SE_count 100 = .ok (.aload_n 0, 1) := by decide +kernel
theorem d_SE_count_101 : decode b_SE_count 101 = .ok (.getfield 36, 3) := by decide +kernel
theorem d_SE_count_104 : decode b_SE_count 104 = .ok (.getfield 175, 3) := by decide +kernel
theorem d_SE_count_107 : decode b_SE_count 107 = .ok (.ireturn, 1) := by decide +kernel
theorem d_SE_count_108 : decode b_SE_count 108 = .ok (.aload_n 0, 1) := by decide +kernel
theorem d_SE_count_109 : decode b_SE_count 109 = .ok (.getfield 27, 3) := by decide +kernel
theorem d_SE_count_112 : decode b_SE_count 112 = .ok (.invokevirtual 165, 3) := by decide +kernel
theorem d_SE_count_115 : decode b_SE_count 115 = .ok (.ireturn, 1) := by decide +kernel
theorem d_SE_count_116 : decode b_SE_count 116 = .ok (.aload_n 0, 1) := by decide +kernel
theorem d_SE_count_117 : decode b_SE_count 117 = .ok (.getfield 36, 3) := by decide +kernel
theorem d_SE_count_120 : decode b_SE_count 120 = .ok (.getfield 178, 3) := by decide +kernel
theorem d_SE_count_123 : decode b_SE_count 123 = .ok (.ireturn, 1) := by decide +kernel
theorem d_SE_count_124 : decode b_SE_count 124 = .ok (.aload_n 0, 1) := by decide +kernel
theorem d_SE_count_125 : decode b_SE_count 125 = .ok (.getfield 36, 3) := by decide +kernel
theorem d_SE_count_128 : decode b_SE_count 128 = .ok (.getfield 180, 3) := by decide +kernel
theorem d_SE_count_131 : decode b_SE_count 131 = .ok (.ireturn, 1) := by decide +kernel
theorem d_SE_count_132 : decode b_SE_count 132 = .ok (.aload_n 0, 1) := by decide +kernel
theorem d_SE_count_133 : decode b_SE_count 133 = .ok (.getfield 36, 3) := by decide +kernel
theorem d_SE_count_136 : decode b_SE_count 136 = .ok (.getfield 183, 3) := by decide +kernel
theorem d_SE_count_139 : decode b_SE_count 139 = .ok (.ireturn, 1) := by decide +kernel
theorem d_SE_count_140 : decode b_SE_count 140 = .ok (.aload_n 0, 1) := by decide +kernel
theorem d_SE_count_141 : decode b_SE_count 141 = .ok (.getfield 36, 3) := by decide +kernel
theorem d_SE_count_144 : decode b_SE_count 144 = .ok (.getfield 186, 3) := by decide +kernel
theorem d_SE_count_147 : decode b_SE_count 147 = .ok (.ireturn, 1) := by decide +kernel
theorem d_SE_count_148 : decode b_SE_count 148 = .ok (.iconst (-1), 1) := by decide +kernel
theorem d_SE_count_149 : decode b_SE_count 149 = .ok (.ireturn, 1) := by decide +kernel
theorem d_SE_stateIn_0 : decode b_SE_stateIn 0 = .ok (.lload_n 0, 1) := by decide +kernel
theorem d_SE_stateIn_1 : decode b_SE_stateIn 1 = .ok (.bipush 49, 2) := by decide +kernel
theorem d_SE_stateIn_3 : decode b_SE_stateIn 3 = .ok (.iconst 3, 1) := by decide +kernel
theorem d_SE_stateIn_4 : decode b_SE_stateIn 4 = .ok (.iconst 3, 1) := by decide +kernel
theorem d_SE_stateIn_5 : decode b_SE_stateIn 5 = .ok (.iload_n 2, 1) := by decide +kernel
theorem d_SE_stateIn_6 : decode b_SE_stateIn 6 = .ok (.isub, 1) := by decide +kernel
theorem d_SE_stateIn_7 : decode b_SE_stateIn 7 = .ok (.imul, 1) := by decide +kernel
theorem d_SE_stateIn_8 : decode b_SE_stateIn 8 = .ok (.iadd, 1) := by decide +kernel
theorem d_SE_stateIn_9 : decode b_SE_stateIn 9 = .ok (.lushr, 1) := by decide +kernel
theorem d_SE_stateIn_10 : decode b_SE_stateIn 10 = .ok (.l2i, 1) := by decide +kernel
theorem d_SE_stateIn_11 : decode b_SE_stateIn 11 = .ok (.bipush 7, 2) := by decide +kernel
theorem d_SE_stateIn_13 : decode b_SE_stateIn 13 = .ok (.iand, 1) := by decide +kernel
theorem d_SE_stateIn_14 : decode b_SE_stateIn 14 = .ok (.ireturn, 1) := by decide +kernel
theorem d_SE_codeIn_0 : decode b_SE_codeIn 0 = .ok (.lload_n 0, 1) := by decide +kernel
theorem d_SE_codeIn_1 : decode b_SE_codeIn 1 = .ok (.bipush 7, 2) := by decide +kernel
theorem d_SE_codeIn_3 : decode b_SE_codeIn 3 = .ok (.bipush 6, 2) := by decide +kernel
theorem d_SE_codeIn_5 : decode b_SE_codeIn 5 = .ok (.iload_n 2, 1) := by decide +kernel
theorem d_SE_codeIn_6 : decode b_SE_codeIn 6 = .ok (.isub, 1) := by decide +kernel
theorem d_SE_codeIn_7 : decode b_SE_codeIn 7 = .ok (.imul, 1) := by decide +kernel
theorem d_SE_codeIn_8 : decode b_SE_codeIn 8 = .ok (.lushr, 1) := by decide +kernel
theorem d_SE_codeIn_9 : decode b_SE_codeIn 9 = .ok (.l2i, 1) := by decide +kernel
theorem d_SE_codeIn_10 : decode b_SE_codeIn 10 = .ok (.bipush 127, 2) := by decide +kernel
theorem d_SE_codeIn_12 : decode b_SE_codeIn 12 = .ok (.iand, 1) := by decide +kernel
theorem d_SE_codeIn_13 : decode b_SE_codeIn 13 = .ok (.iconst 1, 1) := by decide +kernel
theorem d_SE_codeIn_14 : decode b_SE_codeIn 14 = .ok (.isub, 1) := by decide +kernel
theorem d_SE_codeIn_15 : decode b_SE_codeIn 15 = .ok (.ireturn, 1) := by decide +kernel
theorem d_SE_codesIn_0 : decode b_SE_codesIn 0 = .ok (.iconst 0, 1) := by decide +kernel
theorem d_SE_codesIn_1 : decode b_SE_codesIn 1 = .ok (.istore_n 2, 1) := by decide +kernel
theorem d_SE_codesIn_2 : decode b_SE_codesIn 2 = .ok (.iload_n 2, 1) := by decide +kernel
theorem d_SE_codesIn_3 : decode b_SE_codesIn 3 = .ok (.bipush 7, 2) := by decide +kernel
theorem d_SE_codesIn_5 : decode b_SE_codesIn 5 = .ok (.if_icmp .ge 18, 3) := by decide +kernel
theorem d_SE_codesIn_8 : decode b_SE_codesIn 8 = .ok (.lload_n 0, 1) := by decide +kernel
theorem d_SE_codesIn_9 : decode b_SE_codesIn 9 = .ok (.iload_n 2, 1) := by decide +kernel
theorem d_SE_codesIn_10 : decode b_SE_codesIn 10 = .ok (.invokestatic 144, 3) := by decide +kernel
theorem d_SE_codesIn_13 : decode b_SE_codesIn 13 = .ok (.iconst (-1), 1) := by decide +kernel
theorem d_SE_codesIn_14 : decode b_SE_codesIn 14 = .ok (.if_icmp .eq 9, 3) := by decide +kernel
theorem d_SE_codesIn_17 : decode b_SE_codesIn 17 = .ok (.iinc 2 1, 3) := by decide +kernel
theorem d_SE_codesIn_20 : decode b_SE_codesIn 20 = .ok (.goto (-18), 3) := by decide +kernel
theorem d_SE_codesIn_23 : decode b_SE_codesIn 23 = .ok (.iload_n 2, 1) := by decide +kernel
theorem d_SE_codesIn_24 : decode b_SE_codesIn 24 = .ok (.ireturn, 1) := by decide +kernel
theorem d_SE_numberingsOf_0 : decode b_SE_numberingsOf 0 = .ok (.iconst 1, 1) := by decide +kernel
theorem d_SE_numberingsOf_1 : decode b_SE_numberingsOf 1 = .ok (.istore_n 1, 1) := by decide +kernel
theorem d_SE_numberingsOf_2 : decode b_SE_numberingsOf 2 = .ok (.iconst 2, 1) := by decide +kernel
theorem d_SE_numberingsOf_3 : decode b_SE_numberingsOf 3 = .ok (.istore_n 2, 1) := by decide +kernel
theorem d_SE_numberingsOf_4 : decode b_SE_numberingsOf 4 = .ok (.iload_n 2, 1) := by decide +kernel
theorem d_SE_numberingsOf_5 : decode b_SE_numberingsOf 5 = .ok (.iload_n 0, 1) := by decide +kernel
theorem d_SE_numberingsOf_6 : decode b_SE_numberingsOf 6 = .ok (.if_icmp .gt 13, 3) := by decide +kernel
theorem d_SE_numberingsOf_9 : decode b_SE_numberingsOf 9 = .ok (.iload_n 1, 1) := by decide +kernel
theorem d_SE_numberingsOf_10 : decode b_SE_numberingsOf 10 = .ok (.iload_n 2, 1) := by decide +kernel
theorem d_SE_numberingsOf_11 : decode b_SE_numberingsOf 11 = .ok (.imul, 1) := by decide +kernel
theorem d_SE_numberingsOf_12 : decode b_SE_numberingsOf 12 = .ok (.istore_n 1, 1) := by decide +kernel
theorem d_SE_numberingsOf_13 : decode b_SE_numberingsOf 13 = .ok (.iinc 2 1, 3) := by decide +kernel
theorem d_SE_numberingsOf_16 : decode b_SE_numberingsOf 16 = .ok (.goto (-12), 3) := by decide +kernel
theorem d_SE_numberingsOf_19 : decode b_SE_numberingsOf 19 = .ok (.iload_n 1, 1) := by decide +kernel
theorem d_SE_numberingsOf_20 : decode b_SE_numberingsOf 20 = .ok (.getstatic 189, 3) := by decide +kernel
theorem d_SE_numberingsOf_23 : decode b_SE_numberingsOf 23 = .ok (.arraylength, 1) := by decide +kernel
theorem d_SE_numberingsOf_24 : decode b_SE_numberingsOf 24 = .ok (.invokestatic 192, 3) := by decide +kernel
theorem d_SE_numberingsOf_27 : decode b_SE_numberingsOf 27 = .ok (.ireturn, 1) := by decide +kernel
