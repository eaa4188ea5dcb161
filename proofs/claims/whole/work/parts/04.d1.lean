theorem d_Mo_init_0 : decode b_Mo_init 0 = .ok (.aload_n 0, 1) := by decide +kernel
theorem d_Mo_init_1 : decode b_Mo_init 1 = .ok (.invokespecial 3, 3) := by decide +kernel
theorem d_Mo_init_4 : decode b_Mo_init 4 = .ok (.aload_n 0, 1) := by decide +kernel
theorem d_Mo_init_5 : decode b_Mo_init 5 = .ok (.iconst 1, 1) := by decide +kernel
theorem d_Mo_init_6 : decode b_Mo_init 6 = .ok (.putfield 9, 3) := by decide +kernel
theorem d_Mo_init_9 : decode b_Mo_init 9 = .ok (.aload_n 0, 1) := by decide +kernel
theorem d_Mo_init_10 : decode b_Mo_init 10 = .ok (.iconst 0, 1) := by decide +kernel
theorem d_Mo_init_11 : decode b_Mo_init 11 = .ok (.putfield 15, 3) := by decide +kernel
theorem d_Mo_init_14 : decode b_Mo_init 14 = .ok (.aload_n 0, 1) := by decide +kernel
theorem d_Mo_init_15 : decode b_Mo_init 15 = .ok (.iconst 0, 1) := by decide +kernel
theorem d_Mo_init_16 : decode b_Mo_init 16 = .ok (.putfield 18, 3) := by decide +kernel
theorem d_Mo_init_19 : decode b_Mo_init 19 = .ok (.aload_n 0, 1) := by decide +kernel
theorem d_Mo_init_20 : decode b_Mo_init 20 = .ok (.bipush 40, 2) := by decide +kernel
theorem d_Mo_init_22 : decode b_Mo_init 22 = .ok (.newarray .int, 2) := by decide +kernel
theorem d_Mo_init_24 : decode b_Mo_init 24 = .ok (.putfield 21, 3) := by decide +kernel
theorem d_Mo_init_27 : decode b_Mo_init 27 = .ok (.aload_n 0, 1) := by decide +kernel
theorem d_Mo_init_28 : decode b_Mo_init 28 = .ok (.bipush 40, 2) := by decide +kernel
theorem d_Mo_init_30 : decode b_Mo_init 30 = .ok (.newarray .int, 2) := by decide +kernel
theorem d_Mo_init_32 : decode b_Mo_init 32 = .ok (.putfield 25, 3) := by decide +kernel
theorem d_Mo_init_35 : decode b_Mo_init 35 = .ok (.aload_n 0, 1) := by decide +kernel
theorem d_Mo_init_36 : decode b_Mo_init 36 = .ok (.bipush 40, 2) := by decide +kernel
theorem d_Mo_init_38 : decode b_Mo_init 38 = .ok (.newarray .int, 2) := by decide +kernel
theorem d_Mo_init_40 : decode b_Mo_init 40 = .ok (.putfield 28, 3) := by decide +kernel
theorem d_Mo_init_43 : decode b_Mo_init 43 = .ok (.aload_n 0, 1) := by decide +kernel
theorem d_Mo_init_44 : decode b_Mo_init 44 = .ok (.bipush 40, 2) := by decide +kernel
theorem d_Mo_init_46 : decode b_Mo_init 46 = .ok (.newarray .int, 2) := by decide +kernel
theorem d_Mo_init_48 : decode b_Mo_init 48 = .ok (.putfield 31, 3) := by decide +kernel
theorem d_Mo_init_51 : decode b_Mo_init 51 = .ok (.aload_n 0, 1) := by decide +kernel
theorem d_Mo_init_52 : decode b_Mo_init 52 = .ok (.sipush 160, 3) := by decide +kernel
theorem d_Mo_init_55 : decode b_Mo_init 55 = .ok (.newarray .int, 2) := by decide +kernel
theorem d_Mo_init_57 : decode b_Mo_init 57 = .ok (.putfield 34, 3) := by decide +kernel
theorem d_Mo_init_60 : decode b_Mo_init 60 = .ok (.aload_n 0, 1) := by decide +kernel
theorem d_Mo_init_61 : decode b_Mo_init 61 = .ok (.sipush 160, 3) := by decide +kernel
theorem d_Mo_init_64 : decode b_Mo_init 64 = .ok (.newarray .int, 2) := by decide +kernel
theorem d_Mo_init_66 : decode b_Mo_init 66 = .ok (.putfield 37, 3) := by decide +kernel
theorem d_Mo_init_69 : decode b_Mo_init 69 = .ok (.aload_n 0, 1) := by decide +kernel
theorem d_Mo_init_70 : decode b_Mo_init 70 = .ok (.bipush 40, 2) := by decide +kernel
theorem d_Mo_init_72 : decode b_Mo_init 72 = .ok (.newarray .int, 2) := by decide +kernel
theorem d_Mo_init_74 : decode b_Mo_init 74 = .ok (.putfield 40, 3) := by decide +kernel
theorem d_Mo_init_77 : decode b_Mo_init 77 = .ok (.aload_n 0, 1) := by decide +kernel
theorem d_Mo_init_78 : decode b_Mo_init 78 = .ok (.lconst 0, 1) := by decide +kernel
theorem d_Mo_init_79 : decode b_Mo_init 79 = .ok (.putfield 43, 3) := by decide +kernel
theorem d_Mo_init_82 : decode b_Mo_init 82 = .ok (.aload_n 0, 1) := by decide +kernel
theorem d_Mo_init_83 : decode b_Mo_init 83 = .ok (.iload_n 1, 1) := by decide +kernel
theorem d_Mo_init_84 : decode b_Mo_init 84 = .ok (.putfield 47, 3) := by decide +kernel
theorem d_Mo_init_87 : decode b_Mo_init 87 = .ok (.return_, 1) := by decide +kernel
theorem d_Mo_hasState_0 : decode b_Mo_hasState 0 = .ok (.iload_n 1, 1) := by decide +kernel
theorem d_Mo_hasState_1 : decode b_Mo_hasState 1 = .ok (.ifCond .lt 15, 3) := by decide +kernel
theorem d_Mo_hasState_4 : decode b_Mo_hasState 4 = .ok (.iload_n 1, 1) := by decide +kernel
theorem d_Mo_hasState_5 : decode b_Mo_hasState 5 = .ok (.aload_n 0, 1) := by decide +kernel
theorem d_Mo_hasState_6 : decode b_Mo_hasState 6 = .ok (.getfield 9, 3) := by decide +kernel
theorem d_Mo_hasState_9 : decode b_Mo_hasState 9 = .ok (.if_icmp .ge 7, 3) := by decide +kernel
theorem d_Mo_hasState_12 : decode b_Mo_hasState 12 = .ok (.iconst 1, 1) := by decide +kernel
theorem d_Mo_hasState_13 : decode b_Mo_hasState 13 = .ok (.goto 4, 3) := by decide +kernel
theorem d_Mo_hasState_16 : decode b_Mo_hasState 16 = .ok (.iconst 0, 1) := by decide +kernel
theorem d_Mo_hasState_17 : decode b_Mo_hasState 17 = .ok (.ireturn, 1) := by decide +kernel
theorem d_Mo_hasKind_0 : decode b_Mo_hasKind 0 = .ok (.iload_n 1, 1) := by decide +kernel
theorem d_Mo_hasKind_1 : decode b_Mo_hasKind 1 = .ok (.ifCond .lt 15, 3) := by decide +kernel
theorem d_Mo_hasKind_4 : decode b_Mo_hasKind 4 = .ok (.iload_n 1, 1) := by decide +kernel
theorem d_Mo_hasKind_5 : decode b_Mo_hasKind 5 = .ok (.aload_n 0, 1) := by decide +kernel
theorem d_Mo_hasKind_6 : decode b_Mo_hasKind 6 = .ok (.getfield 15, 3) := by decide +kernel
theorem d_Mo_hasKind_9 : decode b_Mo_hasKind 9 = .ok (.if_icmp .ge 7, 3) := by decide +kernel
theorem d_Mo_hasKind_12 : decode b_Mo_hasKind 12 = .ok (.iconst 1, 1) := by decide +kernel
theorem d_Mo_hasKind_13 : decode b_Mo_hasKind 13 = .ok (.goto 4, 3) := by decide +kernel
theorem d_Mo_hasKind_16 : decode b_Mo_hasKind 16 = .ok (.iconst 0, 1) := by decide +kernel
theorem d_Mo_hasKind_17 : decode b_Mo_hasKind 17 = .ok (.ireturn, 1) := by decide +kernel
theorem d_Mo_addRule_0 : decode b_Mo_addRule 0 = .ok (.aload_n 0, 1) := by decide +kernel
theorem d_Mo_addRule_1 : decode b_Mo_addRule 1 = .ok (.getfield 21, 3) := by decide +kernel
theorem d_Mo_addRule_4 : decode b_Mo_addRule 4 = .ok (.aload_n 0, 1) := by decide +kernel
theorem d_Mo_addRule_5 : decode b_Mo_addRule 5 = .ok (.getfield 18, 3) := by decide +kernel
theorem d_Mo_addRule_8 : decode b_Mo_addRule 8 = .ok (.iload_n 1, 1) := by decide +kernel
theorem d_Mo_addRule_9 : decode b_Mo_addRule 9 = .ok (.iastore, 1) := by decide +kernel
theorem d_Mo_addRule_10 : decode b_Mo_addRule 10 = .ok (.aload_n 0, 1) := by decide +kernel
theorem d_Mo_addRule_11 : decode b_Mo_addRule 11 = .ok (.getfield 25, 3) := by decide +kernel
theorem d_Mo_addRule_14 : decode b_Mo_addRule 14 = .ok (.aload_n 0, 1) := by decide +kernel
theorem d_Mo_addRule_15 : decode b_Mo_addRule 15 = .ok (.getfield 18, 3) := by decide +kernel
theorem d_Mo_addRule_18 : decode b_Mo_addRule 18 = .ok (.iload_n 2, 1) := by decide +kernel
theorem d_Mo_addRule_19 : decode b_Mo_addRule 19 = .ok (.iastore, 1) := by decide +kernel
theorem d_Mo_addRule_20 : decode b_Mo_addRule 20 = .ok (.aload_n 0, 1) := by decide +kernel
theorem d_Mo_addRule_21 : decode b_Mo_addRule 21 = .ok (.getfield 28, 3) := by decide +kernel
theorem d_Mo_addRule_24 : decode b_Mo_addRule 24 = .ok (.aload_n 0, 1) := by decide +kernel
theorem d_Mo_addRule_25 : decode b_Mo_addRule 25 = .ok (.getfield 18, 3) := by decide +kernel
theorem d_Mo_addRule_28 : decode b_Mo_addRule 28 = .ok (.iload_n 3, 1) := by decide +kernel
theorem d_Mo_addRule_29 : decode b_Mo_addRule 29 = .ok (.iastore, 1) := by decide +kernel
theorem d_Mo_addRule_30 : decode b_Mo_addRule 30 = .ok (.aload_n 0, 1) := by decide +kernel
theorem d_Mo_addRule_31 : decode b_Mo_addRule 31 = .ok (.getfield 40, 3) := by decide +kernel
theorem d_Mo_addRule_34 : decode b_Mo_addRule 34 = .ok (.aload_n 0, 1) := by decide +kernel
theorem d_Mo_addRule_35 : decode b_Mo_addRule 35 = .ok (.getfield 18, 3) := by decide +kernel
theorem d_Mo_addRule_38 : decode b_Mo_addRule 38 = .ok (.iload_n 2, 1) := by decide +kernel
theorem d_Mo_addRule_39 : decode b_Mo_addRule 39 = .ok (.iconst (-1), 1) := by decide +kernel
theorem d_Mo_addRule_40 : decode b_Mo_addRule 40 = .ok (.if_icmp .ne 7, 3) := by decide +kernel
theorem d_Mo_addRule_43 : decode b_Mo_addRule 43 = .ok (.iconst 0, 1) := by decide +kernel
theorem d_Mo_addRule_44 : decode b_Mo_addRule 44 = .ok (.goto 4, 3) := by decide +kernel
theorem d_Mo_addRule_47 : decode b_Mo_addRule 47 = .ok (.iconst (-1), 1) := by decide +kernel
theorem d_Mo_addRule_48 : decode b_Mo_addRule 48 = .ok (.iastore, 1) := by decide +kernel
theorem d_Mo_addRule_49 : decode b_Mo_addRule 49 = .ok (.aload_n 0, 1) := by decide +kernel
theorem d_Mo_addRule_50 : decode b_Mo_addRule 50 = .ok (.dup, 1) := by decide +kernel
theorem d_Mo_addRule_51 : decode b_Mo_addRule 51 = .ok (.getfield 18, 3) := by decide +kernel
theorem d_Mo_addRule_54 : decode b_Mo_addRule 54 = .ok (.dup_x1, 1) := by decide +kernel
theorem d_Mo_addRule_55 : decode b_Mo_addRule 55 = .ok (.iconst 1, 1) := by decide +kernel
theorem d_Mo_addRule_56 : decode b_Mo_addRule 56 = .ok (.iadd, 1) := by decide +kernel
theorem d_Mo_addRule_57 : decode b_Mo_addRule 57 = .ok (.putfield 18, 3) := by decide +kernel
theorem d_Mo_addRule_60 : decode b_Mo_addRule 60 = .ok (.ireturn, 1) := by decide +kernel
theorem d_Mo_addSend_0 : decode b_Mo_addSend 0 = .ok (.iload_n 1, 1) := by decide +kernel
theorem d_Mo_addSend_1 : decode b_Mo_addSend 1 = .ok (.iconst 4, 1) := by decide +kernel
theorem d_Mo_addSend_2 : decode b_Mo_addSend 2 = .ok (.imul, 1) := by decide +kernel
theorem d_Mo_addSend_3 : decode b_Mo_addSend 3 = .ok (.aload_n 0, 1) := by decide +kernel
theorem d_Mo_addSend_4 : decode b_Mo_addSend 4 = .ok (.getfield 31, 3) := by decide +kernel
theorem d_Mo_addSend_7 : decode b_Mo_addSend 7 = .ok (.iload_n 1, 1) := by decide +kernel
theorem d_Mo_addSend_8 : decode b_Mo_addSend 8 = .ok (.iaload, 1) := by decide +kernel
theorem d_Mo_addSend_9 : decode b_Mo_addSend 9 = .ok (.iadd, 1) := by decide +kernel
theorem d_Mo_addSend_10 : decode b_Mo_addSend 10 = .ok (.istore 4, 2) := by decide +kernel
theorem d_Mo_addSend_12 : decode b_Mo_addSend 12 = .ok (.aload_n 0, 1) := by decide +kernel
theorem d_Mo_addSend_13 : decode b_Mo_addSend 13 = .ok (.getfield 34, 3) := by decide +kernel
theorem d_Mo_addSend_16 : decode b_Mo_addSend 16 = .ok (.iload 4, 2) := by decide +kernel
theorem d_Mo_addSend_18 : decode b_Mo_addSend 18 = .ok (.iload_n 2, 1) := by decide +kernel
theorem d_Mo_addSend_19 : decode b_Mo_addSend 19 = .ok (.iastore, 1) := by decide +kernel
theorem d_Mo_addSend_20 : decode b_Mo_addSend 20 = .ok (.aload_n 0, 1) := by decide +kernel
theorem d_Mo_addSend_21 : decode b_Mo_addSend 21 = .ok (.getfield 37, 3) := by decide +kernel
theorem d_Mo_addSend_24 : decode b_Mo_addSend 24 = .ok (.iload 4, 2) := by decide +kernel
theorem d_Mo_addSend_26 : decode b_Mo_addSend 26 = .ok (.iload_n 3, 1) := by decide +kernel
theorem d_Mo_addSend_27 : decode b_Mo_addSend 27 = .ok (.iastore, 1) := by decide +kernel
theorem d_Mo_addSend_28 : decode b_Mo_addSend 28 = .ok (.aload_n 0, 1) := by decide +kernel
theorem d_Mo_addSend_29 : decode b_Mo_addSend 29 = .ok (.getfield 40, 3) := by decide +kernel
theorem d_Mo_addSend_32 : decode b_Mo_addSend 32 = .ok (.iload_n 1, 1) := by decide +kernel
theorem d_Mo_addSend_33 : decode b_Mo_addSend 33 = .ok (.dup2, 1) := by decide +kernel
theorem d_Mo_addSend_34 : decode b_Mo_addSend 34 = .ok (.iaload, 1) := by decide +kernel
theorem d_Mo_addSend_35 : decode b_Mo_addSend 35 = .ok (.iload_n 3, 1) := by decide +kernel
theorem d_Mo_addSend_36 : decode b_Mo_addSend 36 = .ok (.ifCond .ne 7, 3) := by decide +kernel
theorem d_Mo_addSend_39 : decode b_Mo_addSend 39 = .ok (.iconst 1, 1) := by decide +kernel
theorem d_Mo_addSend_40 : decode b_Mo_addSend 40 = .ok (.goto 9, 3) := by decide +kernel
theorem d_Mo_addSend_43 : decode b_Mo_addSend 43 = .ok (.aload_n 0, 1) := by decide +kernel
theorem d_Mo_addSend_44 : decode b_Mo_addSend 44 = .ok (.getfield 47, 3) := by decide +kernel
theorem d_Mo_addSend_47 : decode b_Mo_addSend 47 = .ok (.iconst 1, 1) := by decide +kernel
theorem d_Mo_addSend_48 : decode b_Mo_addSend 48 = .ok (.isub, 1) := by decide +kernel
theorem d_Mo_addSend_49 : decode b_Mo_addSend 49 = .ok (.iadd, 1) := by decide +kernel
theorem d_Mo_addSend_50 : decode b_Mo_addSend 50 = .ok (.iastore, 1) := by decide +kernel
theorem d_Mo_addSend_51 : decode b_Mo_addSend 51 = .ok (.aload_n 0, 1) := by decide +kernel
theorem d_Mo_addSend_52 : decode b_Mo_addSend 52 = .ok (.getfield 31, 3) := by decide +kernel
theorem d_Mo_addSend_55 : decode b_Mo_addSend 55 = .ok (.iload_n 1, 1) := by decide +kernel
theorem d_Mo_addSend_56 : decode b_Mo_addSend 56 = .ok (.dup2, 1) := by decide +kernel
theorem d_Mo_addSend_57 : decode b_Mo_addSend 57 = .ok (.iaload, 1) := by decide +kernel
theorem d_Mo_addSend_58 : decode b_Mo_addSend 58 = .ok (.iconst 1, 1) := by decide +kernel
theorem d_Mo_addSend_59 : decode b_Mo_addSend 59 = .ok (.iadd, 1) := by decide +kernel
theorem d_Mo_addSend_60 : decode b_Mo_addSend 60 = .ok (.dup_x2, 1) := by decide +kernel
theorem d_Mo_addSend_61 : decode b_Mo_addSend 61 = .ok (.iastore, 1) := by decide +kernel
theorem d_Mo_addSend_62 : decode b_Mo_addSend 62 = .ok (.ireturn, 1) := by decide +kernel
theorem d_Mo_isBadPair_0 : decode b_Mo_isBadPair 0 = .ok (.aload_n 0, 1) := by decide +kernel
theorem d_Mo_isBadPair_1 : decode b_Mo_isBadPair 1 = .ok (.getfield 43, 3) := by decide +kernel
theorem d_Mo_isBadPair_4 : decode b_Mo_isBadPair 4 = .ok (.lconst 1, 1) := by decide +kernel
theorem d_Mo_isBadPair_5 : decode b_Mo_isBadPair 5 = .ok (.bipush 8, 2) := by decide +kernel
theorem d_Mo_isBadPair_7 : decode b_Mo_isBadPair 7 = .ok (.iload_n 1, 1) := by decide +kernel
theorem d_Mo_isBadPair_8 : decode b_Mo_isBadPair 8 = .ok (.imul, 1) := by decide +kernel
theorem d_Mo_isBadPair_9 : decode b_Mo_isBadPair 9 = .ok (.iload_n 2, 1) := by decide +kernel
theorem d_Mo_isBadPair_10 : decode b_Mo_isBadPair 10 = .ok (.iadd, 1) := by decide +kernel
theorem d_Mo_isBadPair_11 : decode b_Mo_isBadPair 11 = .ok (.lshl, 1) := by decide +kernel
theorem d_Mo_isBadPair_12 : decode b_Mo_isBadPair 12 = .ok (.land, 1) := by decide +kernel
theorem d_Mo_isBadPair_13 : decode b_Mo_isBadPair 13 = .ok (.lconst 0, 1) := by decide +kernel
theorem d_Mo_isBadPair_14 : decode b_Mo_isBadPair 14 = .ok (.lcmp, 1) := by decide +kernel
theorem d_Mo_isBadPair_15 : decode b_Mo_isBadPair 15 = .ok (.ifCond .eq 7, 3) := by decide +kernel
theorem d_Mo_isBadPair_18 : decode b_Mo_isBadPair 18 = .ok (.iconst 1, 1) := by decide +kernel
theorem d_Mo_isBadPair_19 : decode b_Mo_isBadPair 19 = .ok (.goto 4, 3) := by decide +kernel
theorem d_Mo_isBadPair_22 : decode b_Mo_isBadPair 22 = .ok (.iconst 0, 1) := by decide +kernel
theorem d_Mo_isBadPair_23 : decode b_Mo_isBadPair 23 = .ok (.ireturn, 1) := by decide +kernel
theorem d_Mo_addBadPair_0 : decode b_Mo_addBadPair 0 = .ok (.aload_n 0, 1) := by decide +kernel
theorem d_Mo_addBadPair_1 : decode b_Mo_addBadPair 1 = .ok (.dup, 1) := by decide +kernel
theorem d_Mo_addBadPair_2 : decode b_Mo_addBadPair 2 = .ok (.getfield 43, 3) := by decide +kernel
theorem d_Mo_addBadPair_5 : decode b_Mo_addBadPair 5 = .ok (.lconst 1, 1) := by decide +kernel
theorem d_Mo_addBadPair_6 : decode b_Mo_addBadPair 6 = .ok (.bipush 8, 2) := by decide +kernel
theorem d_Mo_addBadPair_8 : decode b_Mo_addBadPair 8 = .ok (.iload_n 1, 1) := by decide +kernel
theorem d_Mo_addBadPair_9 : decode b_Mo_addBadPair 9 = .ok (.imul, 1) := by decide +kernel
theorem d_Mo_addBadPair_10 : decode b_Mo_addBadPair 10 = .ok (.iload_n 2, 1) := by decide +kernel
theorem d_Mo_addBadPair_11 : decode b_Mo_addBadPair 11 = .ok (.iadd, 1) := by decide +kernel
theorem d_Mo_addBadPair_12 : decode b_Mo_addBadPair 12 = .ok (.lshl, 1) := by decide +kernel
theorem d_Mo_addBadPair_13 : decode b_Mo_addBadPair 13 = .ok (.lconst 1, 1) := by decide +kernel
theorem d_Mo_addBadPair_14 : decode b_Mo_addBadPair 14 = .ok (.bipush 8, 2) := by decide +kernel
theorem d_Mo_addBadPair_16 : decode b_Mo_addBadPair 16 = .ok (.iload_n 2, 1) := by decide +kernel
theorem d_Mo_addBadPair_17 : decode b_Mo_addBadPair 17 = .ok (.imul, 1) := by decide +kernel
theorem d_Mo_addBadPair_18 : decode b_Mo_addBadPair 18 = .ok (.iload_n 1, 1) := by decide +kernel
theorem d_Mo_addBadPair_19 : decode b_Mo_addBadPair 19 = .ok (.iadd, 1) := by decide +kernel
theorem d_Mo_addBadPair_20 : decode b_Mo_addBadPair 20 = .ok (.lshl, 1) := by decide +kernel
theorem d_Mo_addBadPair_21 : decode b_Mo_addBadPair 21 = .ok (.lor, 1) := by decide +kernel
theorem d_Mo_addBadPair_22 : decode b_Mo_addBadPair 22 = .ok (.lor, 1) := by decide +kernel
theorem d_Mo_addBadPair_23 : decode b_Mo_addBadPair 23 = .ok (.putfield 43, 3) := by decide +kernel
theorem d_Mo_addBadPair_26 : decode b_Mo_addBadPair 26 = .ok (.return_, 1) := by decide +kernel
theorem d_Mo_isBadWhole_0 : decode b_Mo_isBadWhole 0 = .ok (.iconst 0, 1) := by decide +kernel
theorem d_Mo_isBadWhole_1 : decode b_Mo_isBadWhole 1 = .ok (.istore_n 2, 1) := by decide +kernel
theorem d_Mo_isBadWhole_2 : decode b_Mo_isBadWhole 2 = .ok (.iload_n 2, 1) := by decide +kernel
theorem d_Mo_isBadWhole_3 : decode b_Mo_isBadWhole 3 = .ok (.aload_n 0, 1) := by decide +kernel
theorem d_Mo_isBadWhole_4 : decode b_Mo_isBadWhole 4 = .ok (.getfield 47, 3) := by decide +kernel
theorem d_Mo_isBadWhole_7 : decode b_Mo_isBadWhole 7 = .ok (.if_icmp .ge 48, 3) := by decide +kernel
theorem d_Mo_isBadWhole_10 : decode b_Mo_isBadWhole 10 = .ok (.iload_n 2, 1) := by decide +kernel
theorem d_Mo_isBadWhole_11 : decode b_Mo_isBadWhole 11 = .ok (.iconst 1, 1) := by decide +kernel
theorem d_Mo_isBadWhole_12 : decode b_Mo_isBadWhole 12 = .ok (.iadd, 1) := by decide +kernel
theorem d_Mo_isBadWhole_13 : decode b_Mo_isBadWhole 13 = .ok (.istore_n 3, 1) := by decide +kernel
theorem d_Mo_isBadWhole_14 : decode b_Mo_isBadWhole 14 = .ok (.iload_n 3, 1) := by decide +kernel
theorem d_Mo_isBadWhole_15 : decode b_Mo_isBadWhole 15 = .ok (.aload_n 0, 1) := by decide +kernel
theorem d_Mo_isBadWhole_16 : decode b_Mo_isBadWhole 16 = .ok (.getfield 47, 3) := by decide +kernel
theorem d_Mo_isBadWhole_19 : decode b_Mo_isBadWhole 19 = .ok (.if_icmp .ge 30, 3) := by decide +kernel
theorem d_Mo_isBadWhole_22 : decode b_Mo_isBadWhole 22 = .ok (.aload_n 0, 1) := by decide +kernel
theorem d_Mo_isBadWhole_23 : decode b_Mo_isBadWhole 23 = .ok (.aload_n 1, 1) := by decide +kernel
theorem d_Mo_isBadWhole_24 : decode b_Mo_isBadWhole 24 = .ok (.getfield 50, 3) := by decide +kernel
theorem d_Mo_isBadWhole_27 : decode b_Mo_isBadWhole 27 = .ok (.iload_n 2, 1) := by decide +kernel
theorem d_Mo_isBadWhole_28 : decode b_Mo_isBadWhole 28 = .ok (.iaload, 1) := by decide +kernel
theorem d_Mo_isBadWhole_29 : decode b_Mo_isBadWhole 29 = .ok (.aload_n 1, 1) := by decide +kernel
theorem d_Mo_isBadWhole_30 : decode b_Mo_isBadWhole 30 = .ok (.getfield 50, 3) := by decide +kernel
theorem d_Mo_isBadWhole_33 : decode b_Mo_isBadWhole 33 = .ok (.iload_n 3, 1) := by decide +kernel
theorem d_Mo_isBadWhole_34 : decode b_Mo_isBadWhole 34 = .ok (.iaload, 1) := by decide +kernel
theorem d_Mo_isBadWhole_35 : decode b_Mo_isBadWhole 35 = .ok (.invokevirtual 54, 3) := by decide +kernel
theorem d_Mo_isBadWhole_38 : decode b_Mo_isBadWhole 38 = .ok (.ifCond .eq 5, 3) := by decide +kernel
theorem d_Mo_isBadWhole_41 : decode b_Mo_isBadWhole 41 = .ok (.iconst 1, 1) := by decide +kernel
theorem d_Mo_isBadWhole_42 : decode b_Mo_isBadWhole 42 = .ok (.ireturn, 1) := by decide +kernel
theorem d_Mo_isBadWhole_43 : decode b_Mo_isBadWhole 43 = .ok (.iinc 3 1, 3) := by decide +kernel
theorem d_Mo_isBadWhole_46 : decode b_Mo_isBadWhole 46 = .ok (.goto (-32), 3) := by decide +kernel
theorem d_Mo_isBadWhole_49 : decode b_Mo_isBadWhole 49 = .ok (.iinc 2 1, 3) := by decide +kernel
theorem d_Mo_isBadWhole_52 : decode b_Mo_isBadWhole 52 = .ok (.goto (-50), 3) := by decide +kernel
theorem d_Mo_isBadWhole_55 : decode b_Mo_isBadWhole 55 = .ok (.iconst 0, 1) := by decide +kernel
theorem d_Mo_isBadWhole_56 : decode b_Mo_isBadWhole 56 = .ok (.ireturn, 1) := by decide +kernel
theorem d_St_init_0 : decode b_St_init 0 = .ok (.aload_n 0, 1) := by decide +kernel
theorem d_St_init_1 : decode b_St_init 1 = .ok (.invokespecial 3, 3) := by decide +kernel
theorem d_St_init_4 : decode b_St_init 4 = .ok (.aload_n 0, 1) := by decide +kernel
theorem d_St_init_5 : decode b_St_init 5 = .ok (.iconst 0, 1) := by decide +kernel
theorem d_St_init_6 : decode b_St_init 6 = .ok (.putfield 9, 3) := by decide +kernel
theorem d_St_init_9 : decode b_St_init 9 = .ok (.aload_n 0, 1) := by decide +kernel
theorem d_St_init_10 : decode b_St_init 10 = .ok (.iload_n 1, 1) := by decide +kernel
theorem d_St_init_11 : decode b_St_init 11 = .ok (.newarray .long, 2) := by decide +kernel
theorem d_St_init_13 : decode b_St_init 13 = .ok (.putfield 15, 3) := by decide +kernel
theorem d_St_init_16 : decode b_St_init 16 = .ok (.aload_n 0, 1) := by decide +kernel
theorem d_St_init_17 : decode b_St_init 17 = .ok (.iload_n 1, 1) := by decide +kernel
theorem d_St_init_18 : decode b_St_init 18 = .ok (.newarray .int, 2) := by decide +kernel
theorem d_St_init_20 : decode b_St_init 20 = .ok (.putfield 19, 3) := by decide +kernel
theorem d_St_init_23 : decode b_St_init 23 = .ok (.aload_n 0, 1) := by decide +kernel
theorem d_St_init_24 : decode b_St_init 24 = .ok (.iload_n 1, 1) := by decide +kernel
theorem d_St_init_25 : decode b_St_init 25 = .ok (.newarray .int, 2) := by decide +kernel
theorem d_St_init_27 : decode b_St_init 27 = .ok (.putfield 23, 3) := by decide +kernel
theorem d_St_init_30 : decode b_St_init 30 = .ok (.aload_n 0, 1) := by decide +kernel
theorem d_St_init_31 : decode b_St_init 31 = .ok (.iload_n 1, 1) := by decide +kernel
theorem d_St_init_32 : decode b_St_init 32 = .ok (.newarray .int, 2) := by decide +kernel
theorem d_St_init_34 : decode b_St_init 34 = .ok (.putfield 26, 3) := by decide +kernel
theorem d_St_init_37 : decode b_St_init 37 = .ok (.aload_n 0, 1) := by decide +kernel
theorem d_St_init_38 : decode b_St_init 38 = .ok (.iload_n 1, 1) := by decide +kernel
theorem d_St_init_39 : decode b_St_init 39 = .ok (.newarray .int, 2) := by decide +kernel
theorem d_St_init_41 : decode b_St_init 41 = .ok (.putfield 29, 3) := by decide +kernel
theorem d_St_init_44 : decode b_St_init 44 = .ok (.aload_n 0, 1) := by decide +kernel
theorem d_St_init_45 : decode b_St_init 45 = .ok (.iload_n 1, 1) := by decide +kernel
theorem d_St_init_46 : decode b_St_init 46 = .ok (.newarray .int, 2) := by decide +kernel
theorem d_St_init_48 : decode b_St_init 48 = .ok (.putfield 32, 3) := by decide +kernel
theorem d_St_init_51 : decode b_St_init 51 = .ok (.aload_n 0, 1) := by decide +kernel
theorem d_St_init_52 : decode b_St_init 52 = .ok (.iload_n 1, 1) := by decide +kernel
theorem d_St_init_53 : decode b_St_init 53 = .ok (.invokestatic 35, 3) := by decide +kernel
theorem d_St_init_56 : decode b_St_init 56 = .ok (.newarray .int, 2) := by decide +kernel
theorem d_St_init_58 : decode b_St_init 58 = .ok (.putfield 39, 3) := by decide +kernel
theorem d_St_init_61 : decode b_St_init 61 = .ok (.return_, 1) := by decide +kernel
theorem d_St_slotsFor_0 : decode b_St_slotsFor 0 = .ok (.iconst 2, 1) := by decide +kernel
theorem d_St_slotsFor_1 : decode b_St_slotsFor 1 = .ok (.istore_n 1, 1) := by decide +kernel
theorem d_St_slotsFor_2 : decode b_St_slotsFor 2 = .ok (.iload_n 1, 1) := by decide +kernel
theorem d_St_slotsFor_3 : decode b_St_slotsFor 3 = .ok (.iconst 2, 1) := by decide +kernel
theorem d_St_slotsFor_4 : decode b_St_slotsFor 4 = .ok (.iload_n 0, 1) := by decide +kernel
theorem d_St_slotsFor_5 : decode b_St_slotsFor 5 = .ok (.imul, 1) := by decide +kernel
theorem d_St_slotsFor_6 : decode b_St_slotsFor 6 = .ok (.if_icmp .ge 10, 3) := by decide +kernel
theorem d_St_slotsFor_9 : decode b_St_slotsFor 9 = .ok (.iload_n 1, 1) := by decide +kernel
theorem d_St_slotsFor_10 : decode b_St_slotsFor 10 = .ok (.iconst 2, 1) := by decide +kernel
theorem d_St_slotsFor_11 : decode b_St_slotsFor 11 = .ok (.imul, 1) := by decide +kernel
theorem d_St_slotsFor_12 : decode b_St_slotsFor 12 = .ok (.istore_n 1, 1) := by decide +kernel
theorem d_St_slotsFor_13 : decode b_St_slotsFor 13 = .ok (.goto (-11), 3) := by decide +kernel
theorem d_St_slotsFor_16 : decode b_St_slotsFor 16 = .ok (.iload_n 1, 1) := by decide +kernel
theorem d_St_slotsFor_17 : decode b_St_slotsFor 17 = .ok (.ireturn, 1) := by decide +kernel
theorem d_St_has_0 : decode b_St_has 0 = .ok (.iload_n 1, 1) := by decide +kernel
theorem d_St_has_1 : decode b_St_has 1 = .ok (.ifCond .lt 15, 3) := by decide +kernel
theorem d_St_has_4 : decode b_St_has 4 = .ok (.iload_n 1, 1) := by decide +kernel
theorem d_St_has_5 : decode b_St_has 5 = .ok (.aload_n 0, 1) := by decide +kernel
theorem d_St_has_6 : decode b_St_has 6 = .ok (.getfield 9, 3) := by decide +kernel
theorem d_St_has_9 : decode b_St_has 9 = .ok (.if_icmp .ge 7, 3) := by decide +kernel
theorem d_St_has_12 : decode b_St_has 12 = .ok (.iconst 1, 1) := by decide +kernel
theorem d_St_has_13 : decode b_St_has 13 = .ok (.goto 4, 3) := by decide +kernel
theorem d_St_has_16 : decode b_St_has 16 = .ok (.iconst 0, 1) := by decide +kernel
theorem d_St_has_17 : decode b_St_has 17 = .ok (.ireturn, 1) := by decide +kernel
theorem d_St_isFull_0 : decode b_St_isFull 0 = .ok (.aload_n 0, 1) := by decide +kernel
theorem d_St_isFull_1 : decode b_St_isFull 1 = .ok (.getfield 9, 3) := by decide +kernel
theorem d_St_isFull_4 : decode b_St_isFull 4 = .ok (.aload_n 0, 1) := by decide +kernel
theorem d_St_isFull_5 : decode b_St_isFull 5 = .ok (.getfield 15, 3) := by decide +kernel
theorem d_St_isFull_8 : decode b_St_isFull 8 = .ok (.arraylength, 1) := by decide +kernel
theorem d_St_isFull_9 : decode b_St_isFull 9 = .ok (.if_icmp .lt 7, 3) := by decide +kernel
theorem d_St_isFull_12 : decode b_St_isFull 12 = .ok (.iconst 1, 1) := by decide +kernel
theorem d_St_isFull_13 : decode b_St_isFull 13 = .ok (.goto 4, 3) := by decide +kernel
theorem d_St_isFull_16 : decode b_St_isFull 16 = .ok (.iconst 0, 1) := by decide +kernel
theorem d_St_isFull_17 : decode b_St_isFull 17 = .ok (.ireturn, 1) := by decide +kernel
theorem d_St_clear_0 : decode b_St_clear 0 = .ok (.aload_n 0, 1) := by decide +kernel
theorem d_St_clear_1 : decode b_St_clear 1 = .ok (.getfield 9, 3) := by decide +kernel
theorem d_St_clear_4 : decode b_St_clear 4 = .ok (.ifCond .le 16, 3) := by decide +kernel
theorem d_St_clear_7 : decode b_St_clear 7 = .ok (.aload_n 0, 1) := by decide +kernel
theorem d_St_clear_8 : decode b_St_clear 8 = .ok (.getfield 39, 3) := by decide +kernel
theorem d_St_clear_11 : decode b_St_clear 11 = .ok (.iconst 0, 1) := by decide +kernel
theorem d_St_clear_12 : decode b_St_clear 12 = .ok (.invokestatic 42, 3) := by decide +kernel
theorem d_St_clear_15 : decode b_St_clear 15 = .ok (.aload_n 0, 1) := by decide +kernel
theorem d_St_clear_16 : decode b_St_clear 16 = .ok (.iconst 0, 1) := by decide +kernel
theorem d_St_clear_17 : decode b_St_clear 17 = .ok (.putfield 9, 3) := by decide +kernel
theorem d_St_clear_20 : decode b_St_clear 20 = .ok (.return_, 1) := by decide +kernel
theorem d_St_slotOf_0 : decode b_St_slotOf 0 = .ok (.aload_n 0, 1) := by decide +kernel
theorem d_St_slotOf_1 : decode b_St_slotOf 1 = .ok (.getfield 39, 3) := by decide +kernel
theorem d_St_slotOf_4 : decode b_St_slotOf 4 = .ok (.arraylength, 1) := by decide +kernel
theorem d_St_slotOf_5 : decode b_St_slotOf 5 = .ok (.iconst 1, 1) := by decide +kernel
theorem d_St_slotOf_6 : decode b_St_slotOf 6 = .ok (.isub, 1) := by decide +kernel
theorem d_St_slotOf_7 : decode b_St_slotOf 7 = .ok (.istore_n 3, 1) := by decide +kernel
theorem d_St_slotOf_8 : decode b_St_slotOf 8 = .ok (.lload_n 1, 1) := by decide +kernel
theorem d_St_slotOf_9 : decode b_St_slotOf 9 = .ok (.ldc2_w 48, 3) := by decide +kernel
theorem d_St_slotOf_12 : decode b_St_slotOf 12 = .ok (.lmul, 1) := by decide +kernel
theorem d_St_slotOf_13 : decode b_St_slotOf 13 = .ok (.bipush 40, 2) := by decide +kernel
theorem d_St_slotOf_15 : decode b_St_slotOf 15 = .ok (.lushr, 1) := by decide +kernel
theorem d_St_slotOf_16 : decode b_St_slotOf 16 = .ok (.l2i, 1) := by decide +kernel
theorem d_St_slotOf_17 : decode b_St_slotOf 17 = .ok (.iload_n 3, 1) := by decide +kernel
theorem d_St_slotOf_18 : decode b_St_slotOf 18 = .ok (.iand, 1) := by decide +kernel
theorem d_St_slotOf_19 : decode b_St_slotOf 19 = .ok (.istore 4, 2) := by decide +kernel
theorem d_St_slotOf_21 : decode b_St_slotOf 21 = .ok (.iconst 0, 1) := by decide +kernel
theorem d_St_slotOf_22 : decode b_St_slotOf 22 = .ok (.istore 5, 2) := by decide +kernel
theorem d_St_slotOf_24 : decode b_St_slotOf 24 = .ok (.iload 5, 2) := by decide +kernel
theorem d_St_slotOf_26 : decode b_St_slotOf 26 = .ok (.iload_n 3, 1) := by decide +kernel
theorem d_St_slotOf_27 : decode b_St_slotOf 27 = .ok (.if_icmp .ge 46, 3) := by decide +kernel
theorem d_St_slotOf_30 : decode b_St_slotOf 30 = .ok (.aload_n 0, 1) := by decide +kernel
theorem d_St_slotOf_31 : decode b_St_slotOf 31 = .ok (.getfield 39, 3) := by decide +kernel
theorem d_St_slotOf_34 : decode b_St_slotOf 34 = .ok (.iload 4, 2) := by decide +kernel
theorem d_St_slotOf_36 : decode b_St_slotOf 36 = .ok (.iaload, 1) := by decide +kernel
theorem d_St_slotOf_37 : decode b_St_slotOf 37 = .ok (.ifCond .eq 36, 3) := by decide +kernel
theorem d_St_slotOf_40 : decode b_St_slotOf 40 = .ok (.aload_n 0, 1) := by decide +kernel
theorem d_St_slotOf_41 : decode b_St_slotOf 41 = .ok (.getfield 15, 3) := by decide +kernel
theorem d_St_slotOf_44 : decode b_St_slotOf 44 = .ok (.aload_n 0, 1) := by decide +kernel
theorem d_St_slotOf_45 : decode b_St_slotOf 45 = .ok (.getfield 39, 3) := by decide +kernel
theorem d_St_slotOf_48 : decode b_St_slotOf 48 = .ok (.iload 4, 2) := by decide +kernel
theorem d_St_slotOf_50 : decode b_St_slotOf 50 = .ok (.iaload, 1) := by decide +kernel
theorem d_St_slotOf_51 : decode b_St_slotOf 51 = .ok (.iconst 1, 1) := by decide +kernel
theorem d_St_slotOf_52 : decode b_St_slotOf 52 = .ok (.isub, 1) := by decide +kernel
theorem d_St_slotOf_53 : decode b_St_slotOf 53 = .ok (.laload, 1) := by decide +kernel
theorem d_St_slotOf_54 : decode b_St_slotOf 54 = .ok (.lload_n 1, 1) := by decide +kernel
theorem d_St_slotOf_55 : decode b_St_slotOf 55 = .ok (.lcmp, 1) := by decide +kernel
theorem d_St_slotOf_56 : decode b_St_slotOf 56 = .ok (.ifCond .eq 17, 3) := by decide +kernel
theorem d_St_slotOf_59 : decode b_St_slotOf 59 = .ok (.iload 4, 2) := by decide +kernel
theorem d_St_slotOf_61 : decode b_St_slotOf 61 = .ok (.iconst 1, 1) := by decide +kernel
theorem d_St_slotOf_62 : decode b_St_slotOf 62 = .ok (.iadd, 1) := by decide +kernel
theorem d_St_slotOf_63 : decode b_St_slotOf 63 = .ok (.iload_n 3, 1) := by decide +kernel
theorem d_St_slotOf_64 : decode b_St_slotOf 64 = .ok (.iand, 1) := by decide +kernel
theorem d_St_slotOf_65 : decode b_St_slotOf 65 = .ok (.istore 4, 2) := by decide +kernel
theorem d_St_slotOf_67 : decode b_St_slotOf 67 = .ok (.iinc 5 1, 3) := by decide +kernel
theorem d_St_slotOf_70 : decode b_St_slotOf 70 = .ok (.goto (-46), 3) := by decide +kernel
theorem d_St_slotOf_73 : decode b_St_slotOf 73 = .ok (.iload 4, 2) := by decide +kernel
theorem d_St_slotOf_75 : decode b_St_slotOf 75 = .ok (.ireturn, 1) := by decide +kernel
theorem d_St_isTaken_0 : decode b_St_isTaken 0 = .ok (.aload_n 0, 1) := by decide +kernel
theorem d_St_isTaken_1 : decode b_St_isTaken 1 = .ok (.getfield 39, 3) := by decide +kernel
theorem d_St_isTaken_4 : decode b_St_isTaken 4 = .ok (.iload_n 1, 1) := by decide +kernel
theorem d_St_isTaken_5 : decode b_St_isTaken 5 = .ok (.iaload, 1) := by decide +kernel
theorem d_St_isTaken_6 : decode b_St_isTaken 6 = .ok (.ifCond .eq 7, 3) := by decide +kernel
theorem d_St_isTaken_9 : decode b_St_isTaken 9 = .ok (.iconst 1, 1) := by decide +kernel
theorem d_St_isTaken_10 : decode b_St_isTaken 10 = .ok (.goto 4, 3) := by decide +kernel
theorem d_St_isTaken_13 : decode b_St_isTaken 13 = .ok (.iconst 0, 1) := by decide +kernel
theorem d_St_isTaken_14 : decode b_St_isTaken 14 = .ok (.ireturn, 1) := by decide +kernel
theorem d_St_add_0 : decode b_St_add 0 = .ok (.aload_n 0, 1) := by decide +kernel
theorem d_St_add_1 : decode b_St_add 1 = .ok (.getfield 15, 3) := by decide +kernel
theorem d_St_add_4 : decode b_St_add 4 = .ok (.aload_n 0, 1) := by decide +kernel
theorem d_St_add_5 : decode b_St_add 5 = .ok (.getfield 9, 3) := by decide +kernel
theorem d_St_add_8 : decode b_St_add 8 = .ok (.aload_n 2, 1) := by decide +kernel
theorem d_St_add_9 : decode b_St_add 9 = .ok (.getfield 50, 3) := by decide +kernel
theorem d_St_add_12 : decode b_St_add 12 = .ok (.lastore, 1) := by decide +kernel
theorem d_St_add_13 : decode b_St_add 13 = .ok (.aload_n 0, 1) := by decide +kernel
theorem d_St_add_14 : decode b_St_add 14 = .ok (.getfield 19, 3) := by decide +kernel
theorem d_St_add_17 : decode b_St_add 17 = .ok (.aload_n 0, 1) := by decide +kernel
theorem d_St_add_18 : decode b_St_add 18 = .ok (.getfield 9, 3) := by decide +kernel
theorem d_St_add_21 : decode b_St_add 21 = .ok (.aload_n 0, 1) := by decide +kernel
theorem d_St_add_22 : decode b_St_add 22 = .ok (.iload_n 3, 1) := by decide +kernel
theorem d_St_add_23 : decode b_St_add 23 = .ok (.invokevirtual 56, 3) := by decide +kernel
theorem d_St_add_26 : decode b_St_add 26 = .ok (.ifCond .eq 14, 3) := by decide +kernel
theorem d_St_add_29 : decode b_St_add 29 = .ok (.aload_n 0, 1) := by decide +kernel
theorem d_St_add_30 : decode b_St_add 30 = .ok (.getfield 19, 3) := by decide +kernel
theorem d_St_add_33 : decode b_St_add 33 = .ok (.iload_n 3, 1) := by decide +kernel
theorem d_St_add_34 : decode b_St_add 34 = .ok (.iaload, 1) := by decide +kernel
theorem d_St_add_35 : decode b_St_add 35 = .ok (.iconst 1, 1) := by decide +kernel
theorem d_St_add_36 : decode b_St_add 36 = .ok (.iadd, 1) := by decide +kernel
theorem d_St_add_37 : decode b_St_add 37 = .ok (.goto 4, 3) := by decide +kernel
theorem d_St_add_40 : decode b_St_add 40 = .ok (.iconst 0, 1) := by decide +kernel
theorem d_St_add_41 : decode b_St_add 41 = .ok (.iastore, 1) := by decide +kernel
theorem d_St_add_42 : decode b_St_add 42 = .ok (.aload_n 0, 1) := by decide +kernel
theorem d_St_add_43 : decode b_St_add 43 = .ok (.getfield 23, 3) := by decide +kernel
theorem d_St_add_46 : decode b_St_add 46 = .ok (.aload_n 0, 1) := by decide +kernel
theorem d_St_add_47 : decode b_St_add 47 = .ok (.getfield 9, 3) := by decide +kernel
theorem d_St_add_50 : decode b_St_add 50 = .ok (.iload_n 3, 1) := by decide +kernel
theorem d_St_add_51 : decode b_St_add 51 = .ok (.iastore, 1) := by decide +kernel
theorem d_St_add_52 : decode b_St_add 52 = .ok (.aload_n 0, 1) := by decide +kernel
theorem d_St_add_53 : decode b_St_add 53 = .ok (.getfield 26, 3) := by decide +kernel
theorem d_St_add_56 : decode b_St_add 56 = .ok (.aload_n 0, 1) := by decide +kernel
theorem d_St_add_57 : decode b_St_add 57 = .ok (.getfield 9, 3) := by decide +kernel
theorem d_St_add_60 : decode b_St_add 60 = .ok (.iload 4, 2) := by decide +kernel
theorem d_St_add_62 : decode b_St_add 62 = .ok (.iastore, 1) := by decide +kernel
theorem d_St_add_63 : decode b_St_add 63 = .ok (.aload_n 0, 1) := by decide +kernel
theorem d_St_add_64 : decode b_St_add 64 = .ok (.getfield 29, 3) := by decide +kernel
theorem d_St_add_67 : decode b_St_add 67 = .ok (.aload_n 0, 1) := by decide +kernel
theorem d_St_add_68 : decode b_St_add 68 = .ok (.getfield 9, 3) := by decide +kernel
theorem d_St_add_71 : decode b_St_add 71 = .ok (.iconst (-1), 1) := by decide +kernel
theorem d_St_add_72 : decode b_St_add 72 = .ok (.iastore, 1) := by decide +kernel
theorem d_St_add_73 : decode b_St_add 73 = .ok (.aload_n 0, 1) := by decide +kernel
theorem d_St_add_74 : decode b_St_add 74 = .ok (.getfield 32, 3) := by decide +kernel
theorem d_St_add_77 : decode b_St_add 77 = .ok (.aload_n 0, 1) := by decide +kernel
theorem d_St_add_78 : decode b_St_add 78 = .ok (.getfield 9, 3) := by decide +kernel
theorem d_St_add_81 : decode b_St_add 81 = .ok (.aload_n 2, 1) := by decide +kernel
theorem d_St_add_82 : decode b_St_add 82 = .ok (.getfield 60, 3) := by decide +kernel
theorem d_St_add_85 : decode b_St_add 85 = .ok (.iastore, 1) := by decide +kernel
theorem d_St_add_86 : decode b_St_add 86 = .ok (.aload_n 0, 1) := by decide +kernel
theorem d_St_add_87 : decode b_St_add 87 = .ok (.getfield 39, 3) := by decide +kernel
theorem d_St_add_90 : decode b_St_add 90 = .ok (.iload_n 1, 1) := by decide +kernel
theorem d_St_add_91 : decode b_St_add 91 = .ok (.aload_n 0, 1) := by decide +kernel
theorem d_St_add_92 : decode b_St_add 92 = .ok (.dup, 1) := by decide +kernel
theorem d_St_add_93 : decode b_St_add 93 = .ok (.getfield 9, 3) := by decide +kernel
theorem d_St_add_96 : decode b_St_add 96 = .ok (.iconst 1, 1) := by decide +kernel
theorem d_St_add_97 : decode b_St_add 97 = .ok (.iadd, 1) := by decide +kernel
theorem d_St_add_98 : decode b_St_add 98 = .ok (.dup_x1, 1) := by decide +kernel
theorem d_St_add_99 : decode b_St_add 99 = .ok (.putfield 9, 3) := by decide +kernel
theorem d_St_add_102 : decode b_St_add 102 = .ok (.iastore, 1) := by decide +kernel
theorem d_St_add_103 : decode b_St_add 103 = .ok (.return_, 1) := by decide +kernel
theorem d_St_greatestLevel_0 : decode b_St_greatestLevel 0 = .ok (.aload_n 0, 1) := by decide +kernel
theorem d_St_greatestLevel_1 : decode b_St_greatestLevel 1 = .ok (.getfield 9, 3) := by decide +kernel
theorem d_St_greatestLevel_4 : decode b_St_greatestLevel 4 = .ok (.ifCond .le 17, 3) := by decide +kernel
theorem d_St_greatestLevel_7 : decode b_St_greatestLevel 7 = .ok (.aload_n 0, 1) := by decide +kernel
theorem d_St_greatestLevel_8 : decode b_St_greatestLevel 8 = .ok (.getfield 19, 3) := by decide +kernel
theorem d_St_greatestLevel_11 : decode b_St_greatestLevel 11 = .ok (.aload_n 0, 1) := by decide +kernel
theorem d_St_greatestLevel_12 : decode b_St_greatestLevel 12 = .ok (.getfield 9, 3) := by decide +kernel
theorem d_St_greatestLevel_15 : decode b_St_greatestLevel 15 = .ok (.iconst 1, 1) := by decide +kernel
theorem d_St_greatestLevel_16 : decode b_St_greatestLevel 16 = .ok (.isub, 1) := by decide +kernel
theorem d_St_greatestLevel_17 : decode b_St_greatestLevel 17 = .ok (.iaload, 1) := by decide +kernel
theorem d_St_greatestLevel_18 : decode b_St_greatestLevel 18 = .ok (.goto 4, 3) := by decide +kernel
theorem d_St_greatestLevel_21 : decode b_St_greatestLevel 21 = .ok (.iconst (-1), 1) := by decide +kernel
theorem d_St_greatestLevel_22 : decode b_St_greatestLevel 22 = .ok (.ireturn, 1) := by decide +kernel
theorem d_St_beforeLast_0 : decode b_St_beforeLast 0 = .ok (.aload_n 0, 1) := by decide +kernel
theorem d_St_beforeLast_1 : decode b_St_beforeLast 1 = .ok (.getfield 9, 3) := by decide +kernel
theorem d_St_beforeLast_4 : decode b_St_beforeLast 4 = .ok (.iconst 1, 1) := by decide +kernel
theorem d_St_beforeLast_5 : decode b_St_beforeLast 5 = .ok (.isub, 1) := by decide +kernel
theorem d_St_beforeLast_6 : decode b_St_beforeLast 6 = .ok (.istore_n 2, 1) := by decide +kernel
theorem d_St_beforeLast_7 : decode b_St_beforeLast 7 = .ok (.iconst 0, 1) := by decide +kernel
theorem d_St_beforeLast_8 : decode b_St_beforeLast 8 = .ok (.istore_n 3, 1) := by decide +kernel
theorem d_St_beforeLast_9 : decode b_St_beforeLast 9 = .ok (.iload_n 3, 1) := by decide +kernel
theorem d_St_beforeLast_10 : decode b_St_beforeLast 10 = .ok (.aload_n 0, 1) := by decide +kernel
theorem d_St_beforeLast_11 : decode b_St_beforeLast 11 = .ok (.getfield 9, 3) := by decide +kernel
theorem d_St_beforeLast_14 : decode b_St_beforeLast 14 = .ok (.if_icmp .ge 34, 3) := by decide +kernel
theorem d_St_beforeLast_17 : decode b_St_beforeLast 17 = .ok (.aload_n 0, 1) := by decide +kernel
theorem d_St_beforeLast_18 : decode b_St_beforeLast 18 = .ok (.iload_n 2, 1) := by decide +kernel
theorem d_St_beforeLast_19 : decode b_St_beforeLast 19 = .ok (.invokevirtual 56, 3) := by decide +kernel
theorem d_St_beforeLast_22 : decode b_St_beforeLast 22 = .ok (.ifCond .eq 26, 3) := by decide +kernel
theorem d_St_beforeLast_25 : decode b_St_beforeLast 25 = .ok (.aload_n 0, 1) := by decide +kernel
theorem d_St_beforeLast_26 : decode b_St_beforeLast 26 = .ok (.getfield 19, 3) := by decide +kernel
theorem d_St_beforeLast_29 : decode b_St_beforeLast 29 = .ok (.iload_n 2, 1) := by decide +kernel
theorem d_St_beforeLast_30 : decode b_St_beforeLast 30 = .ok (.iaload, 1) := by decide +kernel
theorem d_St_beforeLast_31 : decode b_St_beforeLast 31 = .ok (.iload_n 1, 1) := by decide +kernel
theorem d_St_beforeLast_32 : decode b_St_beforeLast 32 = .ok (.if_icmp .le 16, 3) := by decide +kernel
theorem d_St_beforeLast_35 : decode b_St_beforeLast 35 = .ok (.aload_n 0, 1) := by decide +kernel
theorem d_St_beforeLast_36 : decode b_St_beforeLast 36 = .ok (.getfield 23, 3) := by decide +kernel
theorem d_St_beforeLast_39 : decode b_St_beforeLast 39 = .ok (.iload_n 2, 1) := by decide +kernel
theorem d_St_beforeLast_40 : decode b_St_beforeLast 40 = .ok (.iaload, 1) := by decide +kernel
theorem d_St_beforeLast_41 : decode b_St_beforeLast 41 = .ok (.istore_n 2, 1) := by decide +kernel
theorem d_St_beforeLast_42 : decode b_St_beforeLast 42 = .ok (.iinc 3 1, 3) := by decide +kernel
theorem d_St_beforeLast_45 : decode b_St_beforeLast 45 = .ok (.goto (-36), 3) := by decide +kernel
theorem d_St_beforeLast_48 : decode b_St_beforeLast 48 = .ok (.iload_n 2, 1) := by decide +kernel
theorem d_St_beforeLast_49 : decode b_St_beforeLast 49 = .ok (.ireturn, 1) := by decide +kernel
theorem d_Ma_floorMod_0 : decode b_Ma_floorMod 0 = .ok (.iload_n 0, 1) := by decide +kernel
theorem d_Ma_floorMod_1 : decode b_Ma_floorMod 1 = .ok (.iload_n 1, 1) := by decide +kernel
theorem d_Ma_floorMod_2 : decode b_Ma_floorMod 2 = .ok (.irem, 1) := by decide +kernel
theorem d_Ma_floorMod_3 : decode b_Ma_floorMod 3 = .ok (.istore_n 2, 1) := by decide +kernel
theorem d_Ma_floorMod_4 : decode b_Ma_floorMod 4 = .ok (.iload_n 0, 1) := by decide +kernel
theorem d_Ma_floorMod_5 : decode b_Ma_floorMod 5 = .ok (.iload_n 1, 1) := by decide +kernel
theorem d_Ma_floorMod_6 : decode b_Ma_floorMod 6 = .ok (.ixor, 1) := by decide +kernel
theorem d_Ma_floorMod_7 : decode b_Ma_floorMod 7 = .ok (.ifCond .ge 11, 3) := by decide +kernel
theorem d_Ma_floorMod_10 : decode b_Ma_floorMod 10 = .ok (.iload_n 2, 1) := by decide +kernel
theorem d_Ma_floorMod_11 : decode b_Ma_floorMod 11 = .ok (.ifCond .eq 7, 3) := by decide +kernel
theorem d_Ma_floorMod_14 : decode b_Ma_floorMod 14 = .ok (.iload_n 2, 1) := by decide +kernel
theorem d_Ma_floorMod_15 : decode b_Ma_floorMod 15 = .ok (.iload_n 1, 1) := by decide +kernel
theorem d_Ma_floorMod_16 : decode b_Ma_floorMod 16 = .ok (.iadd, 1) := by decide +kernel
theorem d_Ma_floorMod_17 : decode b_Ma_floorMod 17 = .ok (.ireturn, 1) := by decide +kernel
theorem d_Ma_floorMod_18 : decode b_Ma_floorMod 18 = .ok (.iload_n 2, 1) := by decide +kernel
theorem d_Ma_floorMod_19 : decode b_Ma_floorMod 19 = .ok (.ireturn, 1) := by decide +kernel
theorem d_Ar_fill_0 : decode b_Ar_fill 0 = .ok (.iconst 0, 1) := by decide +kernel
theorem d_Ar_fill_1 : decode b_Ar_fill 1 = .ok (.istore_n 2, 1) := by decide +kernel
theorem d_Ar_fill_2 : decode b_Ar_fill 2 = .ok (.aload_n 0, 1) := by decide +kernel
theorem d_Ar_fill_3 : decode b_Ar_fill 3 = .ok (.arraylength, 1) := by decide +kernel
theorem d_Ar_fill_4 : decode b_Ar_fill 4 = .ok (.istore_n 3, 1) := by decide +kernel
theorem d_Ar_fill_5 : decode b_Ar_fill 5 = .ok (.iload_n 2, 1) := by decide +kernel
theorem d_Ar_fill_6 : decode b_Ar_fill 6 = .ok (.iload_n 3, 1) := by decide +kernel
theorem d_Ar_fill_7 : decode b_Ar_fill 7 = .ok (.if_icmp .ge 13, 3) := by decide +kernel
theorem d_Ar_fill_10 : decode b_Ar_fill 10 = .ok (.aload_n 0, 1) := by decide +kernel
theorem d_Ar_fill_11 : decode b_Ar_fill 11 = .ok (.iload_n 2, 1) := by decide +kernel
theorem d_Ar_fill_12 : decode b_Ar_fill 12 = .ok (.iload_n 1, 1) := by decide +kernel
theorem d_Ar_fill_13 : decode b_Ar_fill 13 = .ok (.iastore, 1) := by decide +kernel
theorem d_Ar_fill_14 : decode b_Ar_fill 14 = .ok (.iinc 2 1, 3) := by decide +kernel
theorem d_Ar_fill_17 : decode b_Ar_fill 17 = .ok (.goto (-12), 3) := by decide +kernel
theorem d_Ar_fill_20 : decode b_Ar_fill 20 = .ok (.return_, 1) := by decide +kernel
