theorem d_Ex_init_0 : decode b_Ex_init 0 = .ok (.aload_n 0, 1) := by decide +kernel
theorem d_Ex_init_1 : decode b_Ex_init 1 = .ok (.invokespecial 3, 3) := by decide +kernel
theorem d_Ex_init_4 : decode b_Ex_init 4 = .ok (.aload_n 0, 1) := by decide +kernel
theorem d_Ex_init_5 : decode b_Ex_init 5 = .ok (.iconst 0, 1) := by decide +kernel
theorem d_Ex_init_6 : decode b_Ex_init 6 = .ok (.putfield 9, 3) := by decide +kernel
theorem d_Ex_init_9 : decode b_Ex_init 9 = .ok (.aload_n 0, 1) := by decide +kernel
theorem d_Ex_init_10 : decode b_Ex_init 10 = .ok (.iconst 0, 1) := by decide +kernel
theorem d_Ex_init_11 : decode b_Ex_init 11 = .ok (.putfield 15, 3) := by decide +kernel
theorem d_Ex_init_14 : decode b_Ex_init 14 = .ok (.aload_n 0, 1) := by decide +kernel
theorem d_Ex_init_15 : decode b_Ex_init 15 = .ok (.iconst 0, 1) := by decide +kernel
theorem d_Ex_init_16 : decode b_Ex_init 16 = .ok (.putfield 18, 3) := by decide +kernel
theorem d_Ex_init_19 : decode b_Ex_init 19 = .ok (.aload_n 0, 1) := by decide +kernel
theorem d_Ex_init_20 : decode b_Ex_init 20 = .ok (.iconst 0, 1) := by decide +kernel
theorem d_Ex_init_21 : decode b_Ex_init 21 = .ok (.putfield 21, 3) := by decide +kernel
theorem d_Ex_init_24 : decode b_Ex_init 24 = .ok (.aload_n 0, 1) := by decide +kernel
theorem d_Ex_init_25 : decode b_Ex_init 25 = .ok (.iconst 0, 1) := by decide +kernel
theorem d_Ex_init_26 : decode b_Ex_init 26 = .ok (.putfield 24, 3) := by decide +kernel
theorem d_Ex_init_29 : decode b_Ex_init 29 = .ok (.aload_n 0, 1) := by decide +kernel
theorem d_Ex_init_30 : decode b_Ex_init 30 = .ok (.iconst 0, 1) := by decide +kernel
theorem d_Ex_init_31 : decode b_Ex_init 31 = .ok (.putfield 27, 3) := by decide +kernel
theorem d_Ex_init_34 : decode b_Ex_init 34 = .ok (.aload_n 0, 1) := by decide +kernel
theorem d_Ex_init_35 : decode b_Ex_init 35 = .ok (.iconst 0, 1) := by decide +kernel
theorem d_Ex_init_36 : decode b_Ex_init 36 = .ok (.putfield 30, 3) := by decide +kernel
theorem d_Ex_init_39 : decode b_Ex_init 39 = .ok (.aload_n 0, 1) := by decide +kernel
theorem d_Ex_init_40 : decode b_Ex_init 40 = .ok (.aload_n 1, 1) := by decide +kernel
theorem d_Ex_init_41 : decode b_Ex_init 41 = .ok (.putfield 33, 3) := by decide +kernel
theorem d_Ex_init_44 : decode b_Ex_init 44 = .ok (.aload_n 0, 1) := by decide +kernel
theorem d_Ex_init_45 : decode b_Ex_init 45 = .ok (.aload_n 2, 1) := by decide +kernel
theorem d_Ex_init_46 : decode b_Ex_init 46 = .ok (.putfield 37, 3) := by decide +kernel
theorem d_Ex_init_49 : decode b_Ex_init 49 = .ok (.aload_n 0, 1) := by decide +kernel
theorem d_Ex_init_50 : decode b_Ex_init 50 = .ok (.new 41, 3) := by decide +kernel
theorem d_Ex_init_53 : decode b_Ex_init 53 = .ok (.dup, 1) := by decide +kernel
theorem d_Ex_init_54 : decode b_Ex_init 54 = .ok (.aload_n 1, 1) := by decide +kernel
theorem d_Ex_init_55 : decode b_Ex_init 55 = .ok (.getfield 43, 3) := by decide +kernel
theorem d_Ex_init_58 : decode b_Ex_init 58 = .ok (.invokespecial 48, 3) := by decide +kernel
theorem d_Ex_init_61 : decode b_Ex_init 61 = .ok (.putfield 51, 3) := by decide +kernel
theorem d_Ex_init_64 : decode b_Ex_init 64 = .ok (.aload_n 0, 1) := by decide +kernel
theorem d_Ex_init_65 : decode b_Ex_init 65 = .ok (.new 41, 3) := by decide +kernel
theorem d_Ex_init_68 : decode b_Ex_init 68 = .ok (.dup, 1) := by decide +kernel
theorem d_Ex_init_69 : decode b_Ex_init 69 = .ok (.aload_n 1, 1) := by decide +kernel
theorem d_Ex_init_70 : decode b_Ex_init 70 = .ok (.getfield 43, 3) := by decide +kernel
theorem d_Ex_init_73 : decode b_Ex_init 73 = .ok (.invokespecial 48, 3) := by decide +kernel
theorem d_Ex_init_76 : decode b_Ex_init 76 = .ok (.putfield 55, 3) := by decide +kernel
theorem d_Ex_init_79 : decode b_Ex_init 79 = .ok (.return_, 1) := by decide +kernel
theorem d_Ex_forget_0 : decode b_Ex_forget 0 = .ok (.aload_n 0, 1) := by decide +kernel
theorem d_Ex_forget_1 : decode b_Ex_forget 1 = .ok (.getfield 37, 3) := by decide +kernel
theorem d_Ex_forget_4 : decode b_Ex_forget 4 = .ok (.invokevirtual 58, 3) := by decide +kernel
theorem d_Ex_forget_7 : decode b_Ex_forget 7 = .ok (.aload_n 0, 1) := by decide +kernel
theorem d_Ex_forget_8 : decode b_Ex_forget 8 = .ok (.iconst 0, 1) := by decide +kernel
theorem d_Ex_forget_9 : decode b_Ex_forget 9 = .ok (.putfield 9, 3) := by decide +kernel
theorem d_Ex_forget_12 : decode b_Ex_forget 12 = .ok (.aload_n 0, 1) := by decide +kernel
theorem d_Ex_forget_13 : decode b_Ex_forget 13 = .ok (.iconst 0, 1) := by decide +kernel
theorem d_Ex_forget_14 : decode b_Ex_forget 14 = .ok (.putfield 15, 3) := by decide +kernel
theorem d_Ex_forget_17 : decode b_Ex_forget 17 = .ok (.aload_n 0, 1) := by decide +kernel
theorem d_Ex_forget_18 : decode b_Ex_forget 18 = .ok (.iconst 0, 1) := by decide +kernel
theorem d_Ex_forget_19 : decode b_Ex_forget 19 = .ok (.putfield 18, 3) := by decide +kernel
theorem d_Ex_forget_22 : decode b_Ex_forget 22 = .ok (.aload_n 0, 1) := by decide +kernel
theorem d_Ex_forget_23 : decode b_Ex_forget 23 = .ok (.iconst 0, 1) := by decide +kernel
theorem d_Ex_forget_24 : decode b_Ex_forget 24 = .ok (.putfield 21, 3) := by decide +kernel
theorem d_Ex_forget_27 : decode b_Ex_forget 27 = .ok (.aload_n 0, 1) := by decide +kernel
theorem d_Ex_forget_28 : decode b_Ex_forget 28 = .ok (.iconst 0, 1) := by decide +kernel
theorem d_Ex_forget_29 : decode b_Ex_forget 29 = .ok (.putfield 24, 3) := by decide +kernel
theorem d_Ex_forget_32 : decode b_Ex_forget 32 = .ok (.aload_n 0, 1) := by decide +kernel
theorem d_Ex_forget_33 : decode b_Ex_forget 33 = .ok (.iconst 0, 1) := by decide +kernel
theorem d_Ex_forget_34 : decode b_Ex_forget 34 = .ok (.putfield 27, 3) := by decide +kernel
theorem d_Ex_forget_37 : decode b_Ex_forget 37 = .ok (.return_, 1) := by decide +kernel
theorem d_Ex_goOn_0 : decode b_Ex_goOn 0 = .ok (.aload_n 0, 1) := by decide +kernel
theorem d_Ex_goOn_1 : decode b_Ex_goOn 1 = .ok (.getfield 37, 3) := by decide +kernel
theorem d_Ex_goOn_4 : decode b_Ex_goOn 4 = .ok (.getfield 63, 3) := by decide +kernel
theorem d_Ex_goOn_7 : decode b_Ex_goOn 7 = .ok (.ifCond .ne 7, 3) := by decide +kernel
theorem d_Ex_goOn_10 : decode b_Ex_goOn 10 = .ok (.aload_n 0, 1) := by decide +kernel
theorem d_Ex_goOn_11 : decode b_Ex_goOn 11 = .ok (.invokevirtual 66, 3) := by decide +kernel
theorem d_Ex_goOn_14 : decode b_Ex_goOn 14 = .ok (.iconst 0, 1) := by decide +kernel
theorem d_Ex_goOn_15 : decode b_Ex_goOn 15 = .ok (.istore_n 2, 1) := by decide +kernel
theorem d_Ex_goOn_16 : decode b_Ex_goOn 16 = .ok (.iload_n 2, 1) := by decide +kernel
theorem d_Ex_goOn_17 : decode b_Ex_goOn 17 = .ok (.iload_n 1, 1) := by decide +kernel
theorem d_Ex_goOn_18 : decode b_Ex_goOn 18 = .ok (.if_icmp .ge 38, 3) := by decide +kernel
theorem d_Ex_goOn_21 : decode b_Ex_goOn 21 = .ok (.aload_n 0, 1) := by decide +kernel
theorem d_Ex_goOn_22 : decode b_Ex_goOn 22 = .ok (.getfield 9, 3) := by decide +kernel
theorem d_Ex_goOn_25 : decode b_Ex_goOn 25 = .ok (.ifCond .ne 31, 3) := by decide +kernel
theorem d_Ex_goOn_28 : decode b_Ex_goOn 28 = .ok (.aload_n 0, 1) := by decide +kernel
theorem d_Ex_goOn_29 : decode b_Ex_goOn 29 = .ok (.getfield 15, 3) := by decide +kernel
theorem d_Ex_goOn_32 : decode b_Ex_goOn 32 = .ok (.aload_n 0, 1) := by decide +kernel
theorem d_Ex_goOn_33 : decode b_Ex_goOn 33 = .ok (.getfield 37, 3) := by decide +kernel
theorem d_Ex_goOn_36 : decode b_Ex_goOn 36 = .ok (.getfield 63, 3) := by decide +kernel
theorem d_Ex_goOn_39 : decode b_Ex_goOn 39 = .ok (.if_icmp .ge 17, 3) := by decide +kernel
theorem d_Ex_goOn_42 : decode b_Ex_goOn 42 = .ok (.aload_n 0, 1) := by decide +kernel
theorem d_Ex_goOn_43 : decode b_Ex_goOn 43 = .ok (.aload_n 0, 1) := by decide +kernel
theorem d_Ex_goOn_44 : decode b_Ex_goOn 44 = .ok (.getfield 15, 3) := by decide +kernel
theorem d_Ex_goOn_47 : decode b_Ex_goOn 47 = .ok (.invokevirtual 69, 3) := by decide +kernel
theorem d_Ex_goOn_50 : decode b_Ex_goOn 50 = .ok (.iinc 2 1, 3) := by decide +kernel
theorem d_Ex_goOn_53 : decode b_Ex_goOn 53 = .ok (.goto (-37), 3) := by decide +kernel
theorem d_Ex_goOn_56 : decode b_Ex_goOn 56 = .ok (.return_, 1) := by decide +kernel
theorem d_Ex_begin_0 : decode b_Ex_begin 0 = .ok (.aload_n 0, 1) := by decide +kernel
theorem d_Ex_begin_1 : decode b_Ex_begin 1 = .ok (.getfield 55, 3) := by decide +kernel
theorem d_Ex_begin_4 : decode b_Ex_begin 4 = .ok (.lconst 0, 1) := by decide +kernel
theorem d_Ex_begin_5 : decode b_Ex_begin 5 = .ok (.invokevirtual 72, 3) := by decide +kernel
theorem d_Ex_begin_8 : decode b_Ex_begin 8 = .ok (.aload_n 0, 1) := by decide +kernel
theorem d_Ex_begin_9 : decode b_Ex_begin 9 = .ok (.getfield 55, 3) := by decide +kernel
theorem d_Ex_begin_12 : decode b_Ex_begin 12 = .ok (.invokevirtual 76, 3) := by decide +kernel
theorem d_Ex_begin_15 : decode b_Ex_begin 15 = .ok (.aload_n 0, 1) := by decide +kernel
theorem d_Ex_begin_16 : decode b_Ex_begin 16 = .ok (.aload_n 0, 1) := by decide +kernel
theorem d_Ex_begin_17 : decode b_Ex_begin 17 = .ok (.getfield 37, 3) := by decide +kernel
theorem d_Ex_begin_20 : decode b_Ex_begin 20 = .ok (.aload_n 0, 1) := by decide +kernel
theorem d_Ex_begin_21 : decode b_Ex_begin 21 = .ok (.getfield 55, 3) := by decide +kernel
theorem d_Ex_begin_24 : decode b_Ex_begin 24 = .ok (.getfield 79, 3) := by decide +kernel
theorem d_Ex_begin_27 : decode b_Ex_begin 27 = .ok (.invokevirtual 83, 3) := by decide +kernel
theorem d_Ex_begin_30 : decode b_Ex_begin 30 = .ok (.iconst (-1), 1) := by decide +kernel
theorem d_Ex_begin_31 : decode b_Ex_begin 31 = .ok (.iconst (-1), 1) := by decide +kernel
theorem d_Ex_begin_32 : decode b_Ex_begin 32 = .ok (.invokevirtual 87, 3) := by decide +kernel
theorem d_Ex_begin_35 : decode b_Ex_begin 35 = .ok (.return_, 1) := by decide +kernel
theorem d_Ex_goThrough_0 : decode b_Ex_goThrough 0 = .ok (.aload_n 0, 1) := by decide +kernel
theorem d_Ex_goThrough_1 : decode b_Ex_goThrough 1 = .ok (.getfield 51, 3) := by decide +kernel
theorem d_Ex_goThrough_4 : decode b_Ex_goThrough 4 = .ok (.aload_n 0, 1) := by decide +kernel
theorem d_Ex_goThrough_5 : decode b_Ex_goThrough 5 = .ok (.getfield 37, 3) := by decide +kernel
theorem d_Ex_goThrough_8 : decode b_Ex_goThrough 8 = .ok (.getfield 91, 3) := by decide +kernel
theorem d_Ex_goThrough_11 : decode b_Ex_goThrough 11 = .ok (.iload_n 1, 1) := by decide +kernel
theorem d_Ex_goThrough_12 : decode b_Ex_goThrough 12 = .ok (.laload, 1) := by decide +kernel
theorem d_Ex_goThrough_13 : decode b_Ex_goThrough 13 = .ok (.invokevirtual 72, 3) := by decide +kernel
theorem d_Ex_goThrough_16 : decode b_Ex_goThrough 16 = .ok (.aload_n 0, 1) := by decide +kernel
theorem d_Ex_goThrough_17 : decode b_Ex_goThrough 17 = .ok (.iconst 0, 1) := by decide +kernel
theorem d_Ex_goThrough_18 : decode b_Ex_goThrough 18 = .ok (.putfield 30, 3) := by decide +kernel
theorem d_Ex_goThrough_21 : decode b_Ex_goThrough 21 = .ok (.iconst 0, 1) := by decide +kernel
theorem d_Ex_goThrough_22 : decode b_Ex_goThrough 22 = .ok (.istore_n 2, 1) := by decide +kernel
theorem d_Ex_goThrough_23 : decode b_Ex_goThrough 23 = .ok (.iload_n 2, 1) := by decide +kernel
theorem d_Ex_goThrough_24 : decode b_Ex_goThrough 24 = .ok (.aload_n 0, 1) := by decide +kernel
theorem d_Ex_goThrough_25 : decode b_Ex_goThrough 25 = .ok (.getfield 33, 3) := by decide +kernel
theorem d_Ex_goThrough_28 : decode b_Ex_goThrough 28 = .ok (.getfield 43, 3) := by decide +kernel
theorem d_Ex_goThrough_31 : decode b_Ex_goThrough 31 = .ok (.if_icmp .ge 42, 3) := by decide +kernel
theorem d_Ex_goThrough_34 : decode b_Ex_goThrough 34 = .ok (.iconst 0, 1) := by decide +kernel
theorem d_Ex_goThrough_35 : decode b_Ex_goThrough 35 = .ok (.istore_n 3, 1) := by decide +kernel
theorem d_Ex_goThrough_36 : decode b_Ex_goThrough 36 = .ok (.iload_n 3, 1) := by decide +kernel
theorem d_Ex_goThrough_37 : decode b_Ex_goThrough 37 = .ok (.aload_n 0, 1) := by decide +kernel
theorem d_Ex_goThrough_38 : decode b_Ex_goThrough 38 = .ok (.getfield 33, 3) := by decide +kernel
theorem d_Ex_goThrough_41 : decode b_Ex_goThrough 41 = .ok (.getfield 95, 3) := by decide +kernel
theorem d_Ex_goThrough_44 : decode b_Ex_goThrough 44 = .ok (.if_icmp .ge 23, 3) := by decide +kernel
theorem d_Ex_goThrough_47 : decode b_Ex_goThrough 47 = .ok (.aload_n 0, 1) := by decide +kernel
theorem d_Ex_goThrough_48 : decode b_Ex_goThrough 48 = .ok (.iload_n 2, 1) := by decide +kernel
theorem d_Ex_goThrough_49 : decode b_Ex_goThrough 49 = .ok (.iload_n 3, 1) := by decide +kernel
theorem d_Ex_goThrough_50 : decode b_Ex_goThrough 50 = .ok (.invokevirtual 98, 3) := by decide +kernel
theorem d_Ex_goThrough_53 : decode b_Ex_goThrough 53 = .ok (.aload_n 0, 1) := by decide +kernel
theorem d_Ex_goThrough_54 : decode b_Ex_goThrough 54 = .ok (.getfield 9, 3) := by decide +kernel
theorem d_Ex_goThrough_57 : decode b_Ex_goThrough 57 = .ok (.ifCond .eq 4, 3) := by decide +kernel
theorem d_Ex_goThrough_60 : decode b_Ex_goThrough 60 = .ok (.return_, 1) := by decide +kernel
theorem d_Ex_goThrough_61 : decode b_Ex_goThrough 61 = .ok (.iinc 3 1, 3) := by decide +kernel
theorem d_Ex_goThrough_64 : decode b_Ex_goThrough 64 = .ok (.goto (-28), 3) := by decide +kernel
theorem d_Ex_goThrough_67 : decode b_Ex_goThrough 67 = .ok (.iinc 2 1, 3) := by decide +kernel
theorem d_Ex_goThrough_70 : decode b_Ex_goThrough 70 = .ok (.goto (-47), 3) := by decide +kernel
theorem d_Ex_goThrough_73 : decode b_Ex_goThrough 73 = .ok (.aload_n 0, 1) := by decide +kernel
theorem d_Ex_goThrough_74 : decode b_Ex_goThrough 74 = .ok (.getfield 37, 3) := by decide +kernel
theorem d_Ex_goThrough_77 : decode b_Ex_goThrough 77 = .ok (.getfield 102, 3) := by decide +kernel
theorem d_Ex_goThrough_80 : decode b_Ex_goThrough 80 = .ok (.iload_n 1, 1) := by decide +kernel
theorem d_Ex_goThrough_81 : decode b_Ex_goThrough 81 = .ok (.aload_n 0, 1) := by decide +kernel
theorem d_Ex_goThrough_82 : decode b_Ex_goThrough 82 = .ok (.getfield 30, 3) := by decide +kernel
theorem d_Ex_goThrough_85 : decode b_Ex_goThrough 85 = .ok (.iastore, 1) := by decide +kernel
theorem d_Ex_goThrough_86 : decode b_Ex_goThrough 86 = .ok (.aload_n 0, 1) := by decide +kernel
theorem d_Ex_goThrough_87 : decode b_Ex_goThrough 87 = .ok (.dup, 1) := by decide +kernel
theorem d_Ex_goThrough_88 : decode b_Ex_goThrough 88 = .ok (.getfield 15, 3) := by decide +kernel
theorem d_Ex_goThrough_91 : decode b_Ex_goThrough 91 = .ok (.iconst 1, 1) := by decide +kernel
theorem d_Ex_goThrough_92 : decode b_Ex_goThrough 92 = .ok (.iadd, 1) := by decide +kernel
theorem d_Ex_goThrough_93 : decode b_Ex_goThrough 93 = .ok (.putfield 15, 3) := by decide +kernel
theorem d_Ex_goThrough_96 : decode b_Ex_goThrough 96 = .ok (.aload_n 0, 1) := by decide +kernel
theorem d_Ex_goThrough_97 : decode b_Ex_goThrough 97 = .ok (.getfield 30, 3) := by decide +kernel
theorem d_Ex_goThrough_100 : decode b_Ex_goThrough 100 = .ok (.ifCond .ne 13, 3) := by decide +kernel
theorem d_Ex_goThrough_103 : decode b_Ex_goThrough 103 = .ok (.aload_n 0, 1) := by decide +kernel
theorem d_Ex_goThrough_104 : decode b_Ex_goThrough 104 = .ok (.dup, 1) := by decide +kernel
theorem d_Ex_goThrough_105 : decode b_Ex_goThrough 105 = .ok (.getfield 24, 3) := by decide +kernel
theorem d_Ex_goThrough_108 : decode b_Ex_goThrough 108 = .ok (.iconst 1, 1) := by decide +kernel
theorem d_Ex_goThrough_109 : decode b_Ex_goThrough 109 = .ok (.iadd, 1) := by decide +kernel
theorem d_Ex_goThrough_110 : decode b_Ex_goThrough 110 = .ok (.putfield 24, 3) := by decide +kernel
theorem d_Ex_goThrough_113 : decode b_Ex_goThrough 113 = .ok (.return_, 1) := by decide +kernel
theorem d_Ex_tryRule_0 : decode b_Ex_tryRule 0 = .ok (.aload_n 0, 1) := by decide +kernel
theorem d_Ex_tryRule_1 : decode b_Ex_tryRule 1 = .ok (.getfield 51, 3) := by decide +kernel
theorem d_Ex_tryRule_4 : decode b_Ex_tryRule 4 = .ok (.getfield 105, 3) := by decide +kernel
theorem d_Ex_tryRule_7 : decode b_Ex_tryRule 7 = .ok (.iload_n 1, 1) := by decide +kernel
theorem d_Ex_tryRule_8 : decode b_Ex_tryRule 8 = .ok (.iaload, 1) := by decide +kernel
theorem d_Ex_tryRule_9 : decode b_Ex_tryRule 9 = .ok (.aload_n 0, 1) := by decide +kernel
theorem d_Ex_tryRule_10 : decode b_Ex_tryRule 10 = .ok (.getfield 33, 3) := by decide +kernel
theorem d_Ex_tryRule_13 : decode b_Ex_tryRule 13 = .ok (.getfield 108, 3) := by decide +kernel
theorem d_Ex_tryRule_16 : decode b_Ex_tryRule 16 = .ok (.iload_n 2, 1) := by decide +kernel
theorem d_Ex_tryRule_17 : decode b_Ex_tryRule 17 = .ok (.iaload, 1) := by decide +kernel
theorem d_Ex_tryRule_18 : decode b_Ex_tryRule 18 = .ok (.if_icmp .ne 25, 3) := by decide +kernel
theorem d_Ex_tryRule_21 : decode b_Ex_tryRule 21 = .ok (.aload_n 0, 1) := by decide +kernel
theorem d_Ex_tryRule_22 : decode b_Ex_tryRule 22 = .ok (.getfield 51, 3) := by decide +kernel
theorem d_Ex_tryRule_25 : decode b_Ex_tryRule 25 = .ok (.getfield 111, 3) := by decide +kernel
theorem d_Ex_tryRule_28 : decode b_Ex_tryRule 28 = .ok (.aload_n 0, 1) := by decide +kernel
theorem d_Ex_tryRule_29 : decode b_Ex_tryRule 29 = .ok (.getfield 33, 3) := by decide +kernel
theorem d_Ex_tryRule_32 : decode b_Ex_tryRule 32 = .ok (.getfield 112, 3) := by decide +kernel
theorem d_Ex_tryRule_35 : decode b_Ex_tryRule 35 = .ok (.iload_n 2, 1) := by decide +kernel
theorem d_Ex_tryRule_36 : decode b_Ex_tryRule 36 = .ok (.iaload, 1) := by decide +kernel
theorem d_Ex_tryRule_37 : decode b_Ex_tryRule 37 = .ok (.iadd, 1) := by decide +kernel
theorem d_Ex_tryRule_38 : decode b_Ex_tryRule 38 = .ok (.bipush 7, 2) := by decide +kernel
theorem d_Ex_tryRule_40 : decode b_Ex_tryRule 40 = .ok (.if_icmp .le 4, 3) := by decide +kernel
theorem d_Ex_tryRule_43 : decode b_Ex_tryRule 43 = .ok (.return_, 1) := by decide +kernel
theorem d_Ex_tryRule_44 : decode b_Ex_tryRule 44 = .ok (.aload_n 0, 1) := by decide +kernel
theorem d_Ex_tryRule_45 : decode b_Ex_tryRule 45 = .ok (.getfield 33, 3) := by decide +kernel
theorem d_Ex_tryRule_48 : decode b_Ex_tryRule 48 = .ok (.getfield 115, 3) := by decide +kernel
theorem d_Ex_tryRule_51 : decode b_Ex_tryRule 51 = .ok (.iload_n 2, 1) := by decide +kernel
theorem d_Ex_tryRule_52 : decode b_Ex_tryRule 52 = .ok (.iaload, 1) := by decide +kernel
theorem d_Ex_tryRule_53 : decode b_Ex_tryRule 53 = .ok (.istore_n 3, 1) := by decide +kernel
theorem d_Ex_tryRule_54 : decode b_Ex_tryRule 54 = .ok (.iload_n 3, 1) := by decide +kernel
theorem d_Ex_tryRule_55 : decode b_Ex_tryRule 55 = .ok (.iconst (-1), 1) := by decide +kernel
theorem d_Ex_tryRule_56 : decode b_Ex_tryRule 56 = .ok (.if_icmp .ne 11, 3) := by decide +kernel
theorem d_Ex_tryRule_59 : decode b_Ex_tryRule 59 = .ok (.aload_n 0, 1) := by decide +kernel
theorem d_Ex_tryRule_60 : decode b_Ex_tryRule 60 = .ok (.iload_n 1, 1) := by decide +kernel
theorem d_Ex_tryRule_61 : decode b_Ex_tryRule 61 = .ok (.iload_n 2, 1) := by decide +kernel
theorem d_Ex_tryRule_62 : decode b_Ex_tryRule 62 = .ok (.iconst (-1), 1) := by decide +kernel
theorem d_Ex_tryRule_63 : decode b_Ex_tryRule 63 = .ok (.invokevirtual 118, 3) := by decide +kernel
theorem d_Ex_tryRule_66 : decode b_Ex_tryRule 66 = .ok (.return_, 1) := by decide +kernel
theorem d_Ex_tryRule_67 : decode b_Ex_tryRule 67 = .ok (.iconst 0, 1) := by decide +kernel
theorem d_Ex_tryRule_68 : decode b_Ex_tryRule 68 = .ok (.istore 4, 2) := by decide +kernel
theorem d_Ex_tryRule_70 : decode b_Ex_tryRule 70 = .ok (.iload 4, 2) := by decide +kernel
theorem d_Ex_tryRule_72 : decode b_Ex_tryRule 72 = .ok (.aload_n 0, 1) := by decide +kernel
theorem d_Ex_tryRule_73 : decode b_Ex_tryRule 73 = .ok (.getfield 51, 3) := by decide +kernel
theorem d_Ex_tryRule_76 : decode b_Ex_tryRule 76 = .ok (.getfield 111, 3) := by decide +kernel
theorem d_Ex_tryRule_79 : decode b_Ex_tryRule 79 = .ok (.if_icmp .ge 86, 3) := by decide +kernel
theorem d_Ex_tryRule_82 : decode b_Ex_tryRule 82 = .ok (.aload_n 0, 1) := by decide +kernel
theorem d_Ex_tryRule_83 : decode b_Ex_tryRule 83 = .ok (.getfield 9, 3) := by decide +kernel
theorem d_Ex_tryRule_86 : decode b_Ex_tryRule 86 = .ok (.ifCond .ne 79, 3) := by decide +kernel
theorem d_Ex_tryRule_89 : decode b_Ex_tryRule 89 = .ok (.aload_n 0, 1) := by decide +kernel
theorem d_Ex_tryRule_90 : decode b_Ex_tryRule 90 = .ok (.getfield 51, 3) := by decide +kernel
theorem d_Ex_tryRule_93 : decode b_Ex_tryRule 93 = .ok (.getfield 121, 3) := by decide +kernel
theorem d_Ex_tryRule_96 : decode b_Ex_tryRule 96 = .ok (.iload 4, 2) := by decide +kernel
theorem d_Ex_tryRule_98 : decode b_Ex_tryRule 98 = .ok (.iaload, 1) := by decide +kernel
theorem d_Ex_tryRule_99 : decode b_Ex_tryRule 99 = .ok (.istore 5, 2) := by decide +kernel
theorem d_Ex_tryRule_101 : decode b_Ex_tryRule 101 = .ok (.iload 4, 2) := by decide +kernel
theorem d_Ex_tryRule_103 : decode b_Ex_tryRule 103 = .ok (.ifCond .le 24, 3) := by decide +kernel
theorem d_Ex_tryRule_106 : decode b_Ex_tryRule 106 = .ok (.aload_n 0, 1) := by decide +kernel
theorem d_Ex_tryRule_107 : decode b_Ex_tryRule 107 = .ok (.getfield 51, 3) := by decide +kernel
theorem d_Ex_tryRule_110 : decode b_Ex_tryRule 110 = .ok (.getfield 121, 3) := by decide +kernel
theorem d_Ex_tryRule_113 : decode b_Ex_tryRule 113 = .ok (.iload 4, 2) := by decide +kernel
theorem d_Ex_tryRule_115 : decode b_Ex_tryRule 115 = .ok (.iconst 1, 1) := by decide +kernel
theorem d_Ex_tryRule_116 : decode b_Ex_tryRule 116 = .ok (.isub, 1) := by decide +kernel
theorem d_Ex_tryRule_117 : decode b_Ex_tryRule 117 = .ok (.iaload, 1) := by decide +kernel
theorem d_Ex_tryRule_118 : decode b_Ex_tryRule 118 = .ok (.iload 5, 2) := by decide +kernel
theorem d_Ex_tryRule_120 : decode b_Ex_tryRule 120 = .ok (.if_icmp .ne 7, 3) := by decide +kernel
theorem d_Ex_tryRule_123 : decode b_Ex_tryRule 123 = .ok (.iconst 1, 1) := by decide +kernel
theorem d_Ex_tryRule_124 : decode b_Ex_tryRule 124 = .ok (.goto 4, 3) := by decide +kernel
theorem d_Ex_tryRule_127 : decode b_Ex_tryRule 127 = .ok (.iconst 0, 1) := by decide +kernel
theorem d_Ex_tryRule_128 : decode b_Ex_tryRule 128 = .ok (.istore 6, 2) := by decide +kernel
theorem d_Ex_tryRule_130 : decode b_Ex_tryRule 130 = .ok (.iload 6, 2) := by decide +kernel
theorem d_Ex_tryRule_132 : decode b_Ex_tryRule 132 = .ok (.ifCond .ne 27, 3) := by decide +kernel
theorem d_Ex_tryRule_135 : decode b_Ex_tryRule 135 = .ok (.iload 5, 2) := by decide +kernel
theorem d_Ex_tryRule_137 : decode b_Ex_tryRule 137 = .ok (.iconst 4, 1) := by decide +kernel
theorem d_Ex_tryRule_138 : decode b_Ex_tryRule 138 = .ok (.ishr, 1) := by decide +kernel
theorem d_Ex_tryRule_139 : decode b_Ex_tryRule 139 = .ok (.iload_n 3, 1) := by decide +kernel
theorem d_Ex_tryRule_140 : decode b_Ex_tryRule 140 = .ok (.if_icmp .ne 19, 3) := by decide +kernel
theorem d_Ex_tryRule_143 : decode b_Ex_tryRule 143 = .ok (.iload 5, 2) := by decide +kernel
theorem d_Ex_tryRule_145 : decode b_Ex_tryRule 145 = .ok (.iconst 3, 1) := by decide +kernel
theorem d_Ex_tryRule_146 : decode b_Ex_tryRule 146 = .ok (.iand, 1) := by decide +kernel
theorem d_Ex_tryRule_147 : decode b_Ex_tryRule 147 = .ok (.iload_n 1, 1) := by decide +kernel
theorem d_Ex_tryRule_148 : decode b_Ex_tryRule 148 = .ok (.if_icmp .ne 11, 3) := by decide +kernel
theorem d_Ex_tryRule_151 : decode b_Ex_tryRule 151 = .ok (.aload_n 0, 1) := by decide +kernel
theorem d_Ex_tryRule_152 : decode b_Ex_tryRule 152 = .ok (.iload_n 1, 1) := by decide +kernel
theorem d_Ex_tryRule_153 : decode b_Ex_tryRule 153 = .ok (.iload_n 2, 1) := by decide +kernel
theorem d_Ex_tryRule_154 : decode b_Ex_tryRule 154 = .ok (.iload 4, 2) := by decide +kernel
theorem d_Ex_tryRule_156 : decode b_Ex_tryRule 156 = .ok (.invokevirtual 118, 3) := by decide +kernel
theorem d_Ex_tryRule_159 : decode b_Ex_tryRule 159 = .ok (.iinc 4 1, 3) := by decide +kernel
theorem d_Ex_tryRule_162 : decode b_Ex_tryRule 162 = .ok (.goto (-92), 3) := by decide +kernel
theorem d_Ex_tryRule_165 : decode b_Ex_tryRule 165 = .ok (.return_, 1) := by decide +kernel
theorem d_Ex_makeStep_0 : decode b_Ex_makeStep 0 = .ok (.aload_n 0, 1) := by decide +kernel
theorem d_Ex_makeStep_1 : decode b_Ex_makeStep 1 = .ok (.dup, 1) := by decide +kernel
theorem d_Ex_makeStep_2 : decode b_Ex_makeStep 2 = .ok (.getfield 18, 3) := by decide +kernel
theorem d_Ex_makeStep_5 : decode b_Ex_makeStep 5 = .ok (.iconst 1, 1) := by decide +kernel
theorem d_Ex_makeStep_6 : decode b_Ex_makeStep 6 = .ok (.iadd, 1) := by decide +kernel
theorem d_Ex_makeStep_7 : decode b_Ex_makeStep 7 = .ok (.putfield 18, 3) := by decide +kernel
theorem d_Ex_makeStep_10 : decode b_Ex_makeStep 10 = .ok (.aload_n 0, 1) := by decide +kernel
theorem d_Ex_makeStep_11 : decode b_Ex_makeStep 11 = .ok (.dup, 1) := by decide +kernel
theorem d_Ex_makeStep_12 : decode b_Ex_makeStep 12 = .ok (.getfield 30, 3) := by decide +kernel
theorem d_Ex_makeStep_15 : decode b_Ex_makeStep 15 = .ok (.iconst 1, 1) := by decide +kernel
theorem d_Ex_makeStep_16 : decode b_Ex_makeStep 16 = .ok (.iadd, 1) := by decide +kernel
theorem d_Ex_makeStep_17 : decode b_Ex_makeStep 17 = .ok (.putfield 30, 3) := by decide +kernel
theorem d_Ex_makeStep_20 : decode b_Ex_makeStep 20 = .ok (.aload_n 0, 1) := by decide +kernel
theorem d_Ex_makeStep_21 : decode b_Ex_makeStep 21 = .ok (.getfield 55, 3) := by decide +kernel
theorem d_Ex_makeStep_24 : decode b_Ex_makeStep 24 = .ok (.aload_n 0, 1) := by decide +kernel
theorem d_Ex_makeStep_25 : decode b_Ex_makeStep 25 = .ok (.getfield 51, 3) := by decide +kernel
theorem d_Ex_makeStep_28 : decode b_Ex_makeStep 28 = .ok (.invokevirtual 124, 3) := by decide +kernel
theorem d_Ex_makeStep_31 : decode b_Ex_makeStep 31 = .ok (.aload_n 0, 1) := by decide +kernel
theorem d_Ex_makeStep_32 : decode b_Ex_makeStep 32 = .ok (.getfield 55, 3) := by decide +kernel
theorem d_Ex_makeStep_35 : decode b_Ex_makeStep 35 = .ok (.getfield 105, 3) := by decide +kernel
theorem d_Ex_makeStep_38 : decode b_Ex_makeStep 38 = .ok (.iload_n 1, 1) := by decide +kernel
theorem d_Ex_makeStep_39 : decode b_Ex_makeStep 39 = .ok (.aload_n 0, 1) := by decide +kernel
theorem d_Ex_makeStep_40 : decode b_Ex_makeStep 40 = .ok (.getfield 33, 3) := by decide +kernel
theorem d_Ex_makeStep_43 : decode b_Ex_makeStep 43 = .ok (.getfield 128, 3) := by decide +kernel
theorem d_Ex_makeStep_46 : decode b_Ex_makeStep 46 = .ok (.iload_n 2, 1) := by decide +kernel
theorem d_Ex_makeStep_47 : decode b_Ex_makeStep 47 = .ok (.iaload, 1) := by decide +kernel
theorem d_Ex_makeStep_48 : decode b_Ex_makeStep 48 = .ok (.iastore, 1) := by decide +kernel
theorem d_Ex_makeStep_49 : decode b_Ex_makeStep 49 = .ok (.aload_n 0, 1) := by decide +kernel
theorem d_Ex_makeStep_50 : decode b_Ex_makeStep 50 = .ok (.getfield 55, 3) := by decide +kernel
theorem d_Ex_makeStep_53 : decode b_Ex_makeStep 53 = .ok (.iload_n 3, 1) := by decide +kernel
theorem d_Ex_makeStep_54 : decode b_Ex_makeStep 54 = .ok (.invokevirtual 131, 3) := by decide +kernel
theorem d_Ex_makeStep_57 : decode b_Ex_makeStep 57 = .ok (.aload_n 0, 1) := by decide +kernel
theorem d_Ex_makeStep_58 : decode b_Ex_makeStep 58 = .ok (.iload_n 1, 1) := by decide +kernel
theorem d_Ex_makeStep_59 : decode b_Ex_makeStep 59 = .ok (.iload_n 2, 1) := by decide +kernel
theorem d_Ex_makeStep_60 : decode b_Ex_makeStep 60 = .ok (.iload_n 3, 1) := by decide +kernel
theorem d_Ex_makeStep_61 : decode b_Ex_makeStep 61 = .ok (.iconst (-1), 1) := by decide +kernel
theorem d_Ex_makeStep_62 : decode b_Ex_makeStep 62 = .ok (.if_icmp .ne 7, 3) := by decide +kernel
theorem d_Ex_makeStep_65 : decode b_Ex_makeStep 65 = .ok (.iconst (-1), 1) := by decide +kernel
theorem d_Ex_makeStep_66 : decode b_Ex_makeStep 66 = .ok (.goto 16, 3) := by decide +kernel
theorem d_Ex_makeStep_69 : decode b_Ex_makeStep 69 = .ok (.aload_n 0, 1) := by decide +kernel
theorem d_Ex_makeStep_70 : decode b_Ex_makeStep 70 = .ok (.getfield 51, 3) := by decide +kernel
theorem d_Ex_makeStep_73 : decode b_Ex_makeStep 73 = .ok (.getfield 121, 3) := by decide +kernel
theorem d_Ex_makeStep_76 : decode b_Ex_makeStep 76 = .ok (.iload_n 3, 1) := by decide +kernel
theorem d_Ex_makeStep_77 : decode b_Ex_makeStep 77 = .ok (.iaload, 1) := by decide +kernel
theorem d_Ex_makeStep_78 : decode b_Ex_makeStep 78 = .ok (.iconst 2, 1) := by decide +kernel
theorem d_Ex_makeStep_79 : decode b_Ex_makeStep 79 = .ok (.ishr, 1) := by decide +kernel
theorem d_Ex_makeStep_80 : decode b_Ex_makeStep 80 = .ok (.iconst 3, 1) := by decide +kernel
theorem d_Ex_makeStep_81 : decode b_Ex_makeStep 81 = .ok (.iand, 1) := by decide +kernel
theorem d_Ex_makeStep_82 : decode b_Ex_makeStep 82 = .ok (.invokevirtual 134, 3) := by decide +kernel
theorem d_Ex_makeStep_85 : decode b_Ex_makeStep 85 = .ok (.aload_n 0, 1) := by decide +kernel
theorem d_Ex_makeStep_86 : decode b_Ex_makeStep 86 = .ok (.getfield 55, 3) := by decide +kernel
theorem d_Ex_makeStep_89 : decode b_Ex_makeStep 89 = .ok (.invokevirtual 76, 3) := by decide +kernel
theorem d_Ex_makeStep_92 : decode b_Ex_makeStep 92 = .ok (.aload_n 0, 1) := by decide +kernel
theorem d_Ex_makeStep_93 : decode b_Ex_makeStep 93 = .ok (.getfield 37, 3) := by decide +kernel
theorem d_Ex_makeStep_96 : decode b_Ex_makeStep 96 = .ok (.aload_n 0, 1) := by decide +kernel
theorem d_Ex_makeStep_97 : decode b_Ex_makeStep 97 = .ok (.getfield 55, 3) := by decide +kernel
theorem d_Ex_makeStep_100 : decode b_Ex_makeStep 100 = .ok (.getfield 79, 3) := by decide +kernel
theorem d_Ex_makeStep_103 : decode b_Ex_makeStep 103 = .ok (.invokevirtual 83, 3) := by decide +kernel
theorem d_Ex_makeStep_106 : decode b_Ex_makeStep 106 = .ok (.istore 4, 2) := by decide +kernel
theorem d_Ex_makeStep_108 : decode b_Ex_makeStep 108 = .ok (.aload_n 0, 1) := by decide +kernel
theorem d_Ex_makeStep_109 : decode b_Ex_makeStep 109 = .ok (.getfield 37, 3) := by decide +kernel
theorem d_Ex_makeStep_112 : decode b_Ex_makeStep 112 = .ok (.iload 4, 2) := by decide +kernel
theorem d_Ex_makeStep_114 : decode b_Ex_makeStep 114 = .ok (.invokevirtual 137, 3) := by decide +kernel
theorem d_Ex_makeStep_117 : decode b_Ex_makeStep 117 = .ok (.ifCond .eq 16, 3) := by decide +kernel
theorem d_Ex_makeStep_120 : decode b_Ex_makeStep 120 = .ok (.aload_n 0, 1) := by decide +kernel
theorem d_Ex_makeStep_121 : decode b_Ex_makeStep 121 = .ok (.dup, 1) := by decide +kernel
theorem d_Ex_makeStep_122 : decode b_Ex_makeStep 122 = .ok (.getfield 21, 3) := by decide +kernel
theorem d_Ex_makeStep_125 : decode b_Ex_makeStep 125 = .ok (.iconst 1, 1) := by decide +kernel
theorem d_Ex_makeStep_126 : decode b_Ex_makeStep 126 = .ok (.iadd, 1) := by decide +kernel
theorem d_Ex_makeStep_127 : decode b_Ex_makeStep 127 = .ok (.putfield 21, 3) := by decide +kernel
theorem d_Ex_makeStep_130 : decode b_Ex_makeStep 130 = .ok (.goto 32, 3) := by decide +kernel
theorem d_Ex_makeStep_133 : decode b_Ex_makeStep 133 = .ok (.aload_n 0, 1) := by decide +kernel
theorem d_Ex_makeStep_134 : decode b_Ex_makeStep 134 = .ok (.getfield 37, 3) := by decide +kernel
theorem d_Ex_makeStep_137 : decode b_Ex_makeStep 137 = .ok (.invokevirtual 141, 3) := by decide +kernel
theorem d_Ex_makeStep_140 : decode b_Ex_makeStep 140 = .ok (.ifCond .eq 11, 3) := by decide +kernel
theorem d_Ex_makeStep_143 : decode b_Ex_makeStep 143 = .ok (.aload_n 0, 1) := by decide +kernel
theorem d_Ex_makeStep_144 : decode b_Ex_makeStep 144 = .ok (.iconst (-1), 1) := by decide +kernel
theorem d_Ex_makeStep_145 : decode b_Ex_makeStep 145 = .ok (.putfield 9, 3) := by decide +kernel
theorem d_Ex_makeStep_148 : decode b_Ex_makeStep 148 = .ok (.goto 14, 3) := by decide +kernel
theorem d_Ex_makeStep_151 : decode b_Ex_makeStep 151 = .ok (.aload_n 0, 1) := by decide +kernel
theorem d_Ex_makeStep_152 : decode b_Ex_makeStep 152 = .ok (.iload 4, 2) := by decide +kernel
theorem d_Ex_makeStep_154 : decode b_Ex_makeStep 154 = .ok (.aload_n 0, 1) := by decide +kernel
theorem d_Ex_makeStep_155 : decode b_Ex_makeStep 155 = .ok (.getfield 15, 3) := by decide +kernel
theorem d_Ex_makeStep_158 : decode b_Ex_makeStep 158 = .ok (.iload_n 2, 1) := by decide +kernel
theorem d_Ex_makeStep_159 : decode b_Ex_makeStep 159 = .ok (.invokevirtual 87, 3) := by decide +kernel
theorem d_Ex_makeStep_162 : decode b_Ex_makeStep 162 = .ok (.return_, 1) := by decide +kernel
theorem d_Ex_send_0 : decode b_Ex_send 0 = .ok (.iload_n 2, 1) := by decide +kernel
theorem d_Ex_send_1 : decode b_Ex_send 1 = .ok (.iconst 4, 1) := by decide +kernel
theorem d_Ex_send_2 : decode b_Ex_send 2 = .ok (.imul, 1) := by decide +kernel
theorem d_Ex_send_3 : decode b_Ex_send 3 = .ok (.istore 4, 2) := by decide +kernel
theorem d_Ex_send_5 : decode b_Ex_send 5 = .ok (.iload 4, 2) := by decide +kernel
theorem d_Ex_send_7 : decode b_Ex_send 7 = .ok (.istore 5, 2) := by decide +kernel
theorem d_Ex_send_9 : decode b_Ex_send 9 = .ok (.iload 5, 2) := by decide +kernel
theorem d_Ex_send_11 : decode b_Ex_send 11 = .ok (.iload 4, 2) := by decide +kernel
theorem d_Ex_send_13 : decode b_Ex_send 13 = .ok (.aload_n 0, 1) := by decide +kernel
theorem d_Ex_send_14 : decode b_Ex_send 14 = .ok (.getfield 33, 3) := by decide +kernel
theorem d_Ex_send_17 : decode b_Ex_send 17 = .ok (.getfield 145, 3) := by decide +kernel
theorem d_Ex_send_20 : decode b_Ex_send 20 = .ok (.iload_n 2, 1) := by decide +kernel
theorem d_Ex_send_21 : decode b_Ex_send 21 = .ok (.iaload, 1) := by decide +kernel
theorem d_Ex_send_22 : decode b_Ex_send 22 = .ok (.iadd, 1) := by decide +kernel
theorem d_Ex_send_23 : decode b_Ex_send 23 = .ok (.if_icmp .ge 78, 3) := by decide +kernel
theorem d_Ex_send_26 : decode b_Ex_send 26 = .ok (.iconst 0, 1) := by decide +kernel
theorem d_Ex_send_27 : decode b_Ex_send 27 = .ok (.istore 6, 2) := by decide +kernel
theorem d_Ex_send_29 : decode b_Ex_send 29 = .ok (.iload 6, 2) := by decide +kernel
theorem d_Ex_send_31 : decode b_Ex_send 31 = .ok (.aload_n 0, 1) := by decide +kernel
theorem d_Ex_send_32 : decode b_Ex_send 32 = .ok (.getfield 33, 3) := by decide +kernel
theorem d_Ex_send_35 : decode b_Ex_send 35 = .ok (.getfield 43, 3) := by decide +kernel
theorem d_Ex_send_38 : decode b_Ex_send 38 = .ok (.if_icmp .ge 57, 3) := by decide +kernel
theorem d_Ex_send_41 : decode b_Ex_send 41 = .ok (.aload_n 0, 1) := by decide +kernel
theorem d_Ex_send_42 : decode b_Ex_send 42 = .ok (.getfield 33, 3) := by decide +kernel
theorem d_Ex_send_45 : decode b_Ex_send 45 = .ok (.getfield 148, 3) := by decide +kernel
theorem d_Ex_send_48 : decode b_Ex_send 48 = .ok (.iload 5, 2) := by decide +kernel
theorem d_Ex_send_50 : decode b_Ex_send 50 = .ok (.iaload, 1) := by decide +kernel
theorem d_Ex_send_51 : decode b_Ex_send 51 = .ok (.ifCond .ne 12, 3) := by decide +kernel
theorem d_Ex_send_54 : decode b_Ex_send 54 = .ok (.iload 6, 2) := by decide +kernel
theorem d_Ex_send_56 : decode b_Ex_send 56 = .ok (.iload_n 3, 1) := by decide +kernel
theorem d_Ex_send_57 : decode b_Ex_send 57 = .ok (.if_icmp .ne 32, 3) := by decide +kernel
theorem d_Ex_send_60 : decode b_Ex_send 60 = .ok (.goto 9, 3) := by decide +kernel
theorem d_Ex_send_63 : decode b_Ex_send 63 = .ok (.iload 6, 2) := by decide +kernel
theorem d_Ex_send_65 : decode b_Ex_send 65 = .ok (.iload_n 1, 1) := by decide +kernel
theorem d_Ex_send_66 : decode b_Ex_send 66 = .ok (.if_icmp .eq 23, 3) := by decide +kernel
theorem d_Ex_send_69 : decode b_Ex_send 69 = .ok (.aload_n 0, 1) := by decide +kernel
theorem d_Ex_send_70 : decode b_Ex_send 70 = .ok (.getfield 55, 3) := by decide +kernel
theorem d_Ex_send_73 : decode b_Ex_send 73 = .ok (.aload_n 0, 1) := by decide +kernel
theorem d_Ex_send_74 : decode b_Ex_send 74 = .ok (.getfield 33, 3) := by decide +kernel
theorem d_Ex_send_77 : decode b_Ex_send 77 = .ok (.getfield 151, 3) := by decide +kernel
theorem d_Ex_send_80 : decode b_Ex_send 80 = .ok (.iload 5, 2) := by decide +kernel
theorem d_Ex_send_82 : decode b_Ex_send 82 = .ok (.iaload, 1) := by decide +kernel
theorem d_Ex_send_83 : decode b_Ex_send 83 = .ok (.iload_n 1, 1) := by decide +kernel
theorem d_Ex_send_84 : decode b_Ex_send 84 = .ok (.iload 6, 2) := by decide +kernel
theorem d_Ex_send_86 : decode b_Ex_send 86 = .ok (.invokevirtual 154, 3) := by decide +kernel
theorem d_Ex_send_89 : decode b_Ex_send 89 = .ok (.iinc 6 1, 3) := by decide +kernel
theorem d_Ex_send_92 : decode b_Ex_send 92 = .ok (.goto (-63), 3) := by decide +kernel
theorem d_Ex_send_95 : decode b_Ex_send 95 = .ok (.iinc 5 1, 3) := by decide +kernel
theorem d_Ex_send_98 : decode b_Ex_send 98 = .ok (.goto (-89), 3) := by decide +kernel
theorem d_Ex_send_101 : decode b_Ex_send 101 = .ok (.return_, 1) := by decide +kernel
theorem d_Ex_take_0 : decode b_Ex_take 0 = .ok (.aload_n 0, 1) := by decide +kernel
theorem d_Ex_take_1 : decode b_Ex_take 1 = .ok (.getfield 37, 3) := by decide +kernel
theorem d_Ex_take_4 : decode b_Ex_take 4 = .ok (.iload_n 1, 1) := by decide +kernel
theorem d_Ex_take_5 : decode b_Ex_take 5 = .ok (.aload_n 0, 1) := by decide +kernel
theorem d_Ex_take_6 : decode b_Ex_take 6 = .ok (.getfield 55, 3) := by decide +kernel
theorem d_Ex_take_9 : decode b_Ex_take 9 = .ok (.iload_n 2, 1) := by decide +kernel
theorem d_Ex_take_10 : decode b_Ex_take 10 = .ok (.iload_n 3, 1) := by decide +kernel
theorem d_Ex_take_11 : decode b_Ex_take 11 = .ok (.invokevirtual 157, 3) := by decide +kernel
theorem d_Ex_take_14 : decode b_Ex_take 14 = .ok (.aload_n 0, 1) := by decide +kernel
theorem d_Ex_take_15 : decode b_Ex_take 15 = .ok (.getfield 55, 3) := by decide +kernel
theorem d_Ex_take_18 : decode b_Ex_take 18 = .ok (.getfield 161, 3) := by decide +kernel
theorem d_Ex_take_21 : decode b_Ex_take 21 = .ok (.ifCond .le 27, 3) := by decide +kernel
theorem d_Ex_take_24 : decode b_Ex_take 24 = .ok (.aload_n 0, 1) := by decide +kernel
theorem d_Ex_take_25 : decode b_Ex_take 25 = .ok (.dup, 1) := by decide +kernel
theorem d_Ex_take_26 : decode b_Ex_take 26 = .ok (.getfield 27, 3) := by decide +kernel
theorem d_Ex_take_29 : decode b_Ex_take 29 = .ok (.aload_n 0, 1) := by decide +kernel
theorem d_Ex_take_30 : decode b_Ex_take 30 = .ok (.getfield 55, 3) := by decide +kernel
theorem d_Ex_take_33 : decode b_Ex_take 33 = .ok (.getfield 164, 3) := by decide +kernel
theorem d_Ex_take_36 : decode b_Ex_take 36 = .ok (.aload_n 0, 1) := by decide +kernel
theorem d_Ex_take_37 : decode b_Ex_take 37 = .ok (.getfield 55, 3) := by decide +kernel
theorem d_Ex_take_40 : decode b_Ex_take 40 = .ok (.getfield 161, 3) := by decide +kernel
theorem d_Ex_take_43 : decode b_Ex_take 43 = .ok (.idiv, 1) := by decide +kernel
theorem d_Ex_take_44 : decode b_Ex_take 44 = .ok (.iadd, 1) := by decide +kernel
theorem d_Ex_take_45 : decode b_Ex_take 45 = .ok (.putfield 27, 3) := by decide +kernel
theorem d_Ex_take_48 : decode b_Ex_take 48 = .ok (.aload_n 0, 1) := by decide +kernel
theorem d_Ex_take_49 : decode b_Ex_take 49 = .ok (.getfield 33, 3) := by decide +kernel
theorem d_Ex_take_52 : decode b_Ex_take 52 = .ok (.aload_n 0, 1) := by decide +kernel
theorem d_Ex_take_53 : decode b_Ex_take 53 = .ok (.getfield 55, 3) := by decide +kernel
theorem d_Ex_take_56 : decode b_Ex_take 56 = .ok (.invokevirtual 167, 3) := by decide +kernel
theorem d_Ex_take_59 : decode b_Ex_take 59 = .ok (.ifCond .eq 9, 3) := by decide +kernel
theorem d_Ex_take_62 : decode b_Ex_take 62 = .ok (.aload_n 0, 1) := by decide +kernel
theorem d_Ex_take_63 : decode b_Ex_take 63 = .ok (.bipush (-2), 2) := by decide +kernel
theorem d_Ex_take_65 : decode b_Ex_take 65 = .ok (.putfield 9, 3) := by decide +kernel
theorem d_Ex_take_68 : decode b_Ex_take 68 = .ok (.return_, 1) := by decide +kernel
theorem d_Dr_init_0 : decode b_Dr_init 0 = .ok (.aload_n 0, 1) := by decide +kernel
theorem d_Dr_init_1 : decode b_Dr_init 1 = .ok (.invokespecial 3, 3) := by decide +kernel
theorem d_Dr_init_4 : decode b_Dr_init 4 = .ok (.aload_n 0, 1) := by decide +kernel
theorem d_Dr_init_5 : decode b_Dr_init 5 = .ok (.iconst 4, 1) := by decide +kernel
theorem d_Dr_init_6 : decode b_Dr_init 6 = .ok (.newarray .int, 2) := by decide +kernel
theorem d_Dr_init_8 : decode b_Dr_init 8 = .ok (.putfield 9, 3) := by decide +kernel
theorem d_Dr_init_11 : decode b_Dr_init 11 = .ok (.aload_n 0, 1) := by decide +kernel
theorem d_Dr_init_12 : decode b_Dr_init 12 = .ok (.bipush 7, 2) := by decide +kernel
theorem d_Dr_init_14 : decode b_Dr_init 14 = .ok (.newarray .int, 2) := by decide +kernel
theorem d_Dr_init_16 : decode b_Dr_init 16 = .ok (.putfield 15, 3) := by decide +kernel
theorem d_Dr_init_19 : decode b_Dr_init 19 = .ok (.aload_n 0, 1) := by decide +kernel
theorem d_Dr_init_20 : decode b_Dr_init 20 = .ok (.iconst 0, 1) := by decide +kernel
theorem d_Dr_init_21 : decode b_Dr_init 21 = .ok (.putfield 18, 3) := by decide +kernel
theorem d_Dr_init_24 : decode b_Dr_init 24 = .ok (.aload_n 0, 1) := by decide +kernel
theorem d_Dr_init_25 : decode b_Dr_init 25 = .ok (.lconst 0, 1) := by decide +kernel
theorem d_Dr_init_26 : decode b_Dr_init 26 = .ok (.putfield 22, 3) := by decide +kernel
theorem d_Dr_init_29 : decode b_Dr_init 29 = .ok (.aload_n 0, 1) := by decide +kernel
theorem d_Dr_init_30 : decode b_Dr_init 30 = .ok (.iconst 0, 1) := by decide +kernel
theorem d_Dr_init_31 : decode b_Dr_init 31 = .ok (.putfield 26, 3) := by decide +kernel
theorem d_Dr_init_34 : decode b_Dr_init 34 = .ok (.aload_n 0, 1) := by decide +kernel
theorem d_Dr_init_35 : decode b_Dr_init 35 = .ok (.bipush 7, 2) := by decide +kernel
theorem d_Dr_init_37 : decode b_Dr_init 37 = .ok (.newarray .int, 2) := by decide +kernel
theorem d_Dr_init_39 : decode b_Dr_init 39 = .ok (.putfield 29, 3) := by decide +kernel
theorem d_Dr_init_42 : decode b_Dr_init 42 = .ok (.aload_n 0, 1) := by decide +kernel
theorem d_Dr_init_43 : decode b_Dr_init 43 = .ok (.iload_n 1, 1) := by decide +kernel
theorem d_Dr_init_44 : decode b_Dr_init 44 = .ok (.putfield 32, 3) := by decide +kernel
theorem d_Dr_init_47 : decode b_Dr_init 47 = .ok (.aload_n 0, 1) := by decide +kernel
theorem d_Dr_init_48 : decode b_Dr_init 48 = .ok (.iload_n 1, 1) := by decide +kernel
theorem d_Dr_init_49 : decode b_Dr_init 49 = .ok (.invokestatic 35, 3) := by decide +kernel
theorem d_Dr_init_52 : decode b_Dr_init 52 = .ok (.putfield 39, 3) := by decide +kernel
theorem d_Dr_init_55 : decode b_Dr_init 55 = .ok (.return_, 1) := by decide +kernel
theorem d_Dr_load_0 : decode b_Dr_load 0 = .ok (.iconst 0, 1) := by decide +kernel
theorem d_Dr_load_1 : decode b_Dr_load 1 = .ok (.istore_n 3, 1) := by decide +kernel
theorem d_Dr_load_2 : decode b_Dr_load 2 = .ok (.iload_n 3, 1) := by decide +kernel
theorem d_Dr_load_3 : decode b_Dr_load 3 = .ok (.aload_n 0, 1) := by decide +kernel
theorem d_Dr_load_4 : decode b_Dr_load 4 = .ok (.getfield 32, 3) := by decide +kernel
theorem d_Dr_load_7 : decode b_Dr_load 7 = .ok (.if_icmp .ge 20, 3) := by decide +kernel
theorem d_Dr_load_10 : decode b_Dr_load 10 = .ok (.aload_n 0, 1) := by decide +kernel
theorem d_Dr_load_11 : decode b_Dr_load 11 = .ok (.getfield 9, 3) := by decide +kernel
theorem d_Dr_load_14 : decode b_Dr_load 14 = .ok (.iload_n 3, 1) := by decide +kernel
theorem d_Dr_load_15 : decode b_Dr_load 15 = .ok (.lload_n 1, 1) := by decide +kernel
theorem d_Dr_load_16 : decode b_Dr_load 16 = .ok (.iload_n 3, 1) := by decide +kernel
theorem d_Dr_load_17 : decode b_Dr_load 17 = .ok (.invokestatic 42, 3) := by decide +kernel
theorem d_Dr_load_20 : decode b_Dr_load 20 = .ok (.iastore, 1) := by decide +kernel
theorem d_Dr_load_21 : decode b_Dr_load 21 = .ok (.iinc 3 1, 3) := by decide +kernel
theorem d_Dr_load_24 : decode b_Dr_load 24 = .ok (.goto (-22), 3) := by decide +kernel
theorem d_Dr_load_27 : decode b_Dr_load 27 = .ok (.aload_n 0, 1) := by decide +kernel
theorem d_Dr_load_28 : decode b_Dr_load 28 = .ok (.lload_n 1, 1) := by decide +kernel
theorem d_Dr_load_29 : decode b_Dr_load 29 = .ok (.invokestatic 46, 3) := by decide +kernel
theorem d_Dr_load_32 : decode b_Dr_load 32 = .ok (.putfield 18, 3) := by decide +kernel
theorem d_Dr_load_35 : decode b_Dr_load 35 = .ok (.iconst 0, 1) := by decide +kernel
theorem d_Dr_load_36 : decode b_Dr_load 36 = .ok (.istore_n 3, 1) := by decide +kernel
theorem d_Dr_load_37 : decode b_Dr_load 37 = .ok (.iload_n 3, 1) := by decide +kernel
theorem d_Dr_load_38 : decode b_Dr_load 38 = .ok (.aload_n 0, 1) := by decide +kernel
theorem d_Dr_load_39 : decode b_Dr_load 39 = .ok (.getfield 18, 3) := by decide +kernel
theorem d_Dr_load_42 : decode b_Dr_load 42 = .ok (.if_icmp .ge 20, 3) := by decide +kernel
theorem d_Dr_load_45 : decode b_Dr_load 45 = .ok (.aload_n 0, 1) := by decide +kernel
theorem d_Dr_load_46 : decode b_Dr_load 46 = .ok (.getfield 15, 3) := by decide +kernel
theorem d_Dr_load_49 : decode b_Dr_load 49 = .ok (.iload_n 3, 1) := by decide +kernel
theorem d_Dr_load_50 : decode b_Dr_load 50 = .ok (.lload_n 1, 1) := by decide +kernel
theorem d_Dr_load_51 : decode b_Dr_load 51 = .ok (.iload_n 3, 1) := by decide +kernel
theorem d_Dr_load_52 : decode b_Dr_load 52 = .ok (.invokestatic 50, 3) := by decide +kernel
theorem d_Dr_load_55 : decode b_Dr_load 55 = .ok (.iastore, 1) := by decide +kernel
theorem d_Dr_load_56 : decode b_Dr_load 56 = .ok (.iinc 3 1, 3) := by decide +kernel
theorem d_Dr_load_59 : decode b_Dr_load 59 = .ok (.goto (-22), 3) := by decide +kernel
theorem d_Dr_load_62 : decode b_Dr_load 62 = .ok (.return_, 1) := by decide +kernel
theorem d_Dr_copyOf_0 : decode b_Dr_copyOf 0 = .ok (.aload_n 1, 1) := by decide +kernel
theorem d_Dr_copyOf_1 : decode b_Dr_copyOf 1 = .ok (.getfield 9, 3) := by decide +kernel
theorem d_Dr_copyOf_4 : decode b_Dr_copyOf 4 = .ok (.iconst 0, 1) := by decide +kernel
theorem d_Dr_copyOf_5 : decode b_Dr_copyOf 5 = .ok (.aload_n 0, 1) := by decide +kernel
theorem d_Dr_copyOf_6 : decode b_Dr_copyOf 6 = .ok (.getfield 9, 3) := by decide +kernel
theorem d_Dr_copyOf_9 : decode b_Dr_copyOf 9 = .ok (.iconst 0, 1) := by decide +kernel
theorem d_Dr_copyOf_10 : decode b_Dr_copyOf 10 = .ok (.iconst 4, 1) := by decide +kernel
theorem d_Dr_copyOf_11 : decode b_Dr_copyOf 11 = .ok (.invokestatic 53, 3) := by decide +kernel
theorem d_Dr_copyOf_14 : decode b_Dr_copyOf 14 = .ok (.aload_n 1, 1) := by decide +kernel
theorem d_Dr_copyOf_15 : decode b_Dr_copyOf 15 = .ok (.getfield 15, 3) := by decide +kernel
theorem d_Dr_copyOf_18 : decode b_Dr_copyOf 18 = .ok (.iconst 0, 1) := by decide +kernel
theorem d_Dr_copyOf_19 : decode b_Dr_copyOf 19 = .ok (.aload_n 0, 1) := by decide +kernel
theorem d_Dr_copyOf_20 : decode b_Dr_copyOf 20 = .ok (.getfield 15, 3) := by decide +kernel
theorem d_Dr_copyOf_23 : decode b_Dr_copyOf 23 = .ok (.iconst 0, 1) := by decide +kernel
theorem d_Dr_copyOf_24 : decode b_Dr_copyOf 24 = .ok (.bipush 7, 2) := by decide +kernel
theorem d_Dr_copyOf_26 : decode b_Dr_copyOf 26 = .ok (.invokestatic 53, 3) := by decide +kernel
theorem d_Dr_copyOf_29 : decode b_Dr_copyOf 29 = .ok (.aload_n 0, 1) := by decide +kernel
theorem d_Dr_copyOf_30 : decode b_Dr_copyOf 30 = .ok (.aload_n 1, 1) := by decide +kernel
theorem d_Dr_copyOf_31 : decode b_Dr_copyOf 31 = .ok (.getfield 18, 3) := by decide +kernel
theorem d_Dr_copyOf_34 : decode b_Dr_copyOf 34 = .ok (.putfield 18, 3) := by decide +kernel
theorem d_Dr_copyOf_37 : decode b_Dr_copyOf 37 = .ok (.return_, 1) := by decide +kernel
theorem d_Dr_removeCode_0 : decode b_Dr_removeCode 0 = .ok (.iload_n 1, 1) := by decide +kernel
theorem d_Dr_removeCode_1 : decode b_Dr_removeCode 1 = .ok (.ifCond .lt 11, 3) := by decide +kernel
theorem d_Dr_removeCode_4 : decode b_Dr_removeCode 4 = .ok (.iload_n 1, 1) := by decide +kernel
theorem d_Dr_removeCode_5 : decode b_Dr_removeCode 5 = .ok (.aload_n 0, 1) := by decide +kernel
theorem d_Dr_removeCode_6 : decode b_Dr_removeCode 6 = .ok (.getfield 18, 3) := by decide +kernel
theorem d_Dr_removeCode_9 : decode b_Dr_removeCode 9 = .ok (.if_icmp .lt 4, 3) := by decide +kernel
theorem d_Dr_removeCode_12 : decode b_Dr_removeCode 12 = .ok (.return_, 1) := by decide +kernel
theorem d_Dr_removeCode_13 : decode b_Dr_removeCode 13 = .ok (.aload_n 0, 1) := by decide +kernel
theorem d_Dr_removeCode_14 : decode b_Dr_removeCode 14 = .ok (.dup, 1) := by decide +kernel
theorem d_Dr_removeCode_15 : decode b_Dr_removeCode 15 = .ok (.getfield 18, 3) := by decide +kernel
theorem d_Dr_removeCode_18 : decode b_Dr_removeCode 18 = .ok (.iconst 1, 1) := by decide +kernel
theorem d_Dr_removeCode_19 : decode b_Dr_removeCode 19 = .ok (.isub, 1) := by decide +kernel
theorem d_Dr_removeCode_20 : decode b_Dr_removeCode 20 = .ok (.putfield 18, 3) := by decide +kernel
theorem d_Dr_removeCode_23 : decode b_Dr_removeCode 23 = .ok (.iload_n 1, 1) := by decide +kernel
theorem d_Dr_removeCode_24 : decode b_Dr_removeCode 24 = .ok (.istore_n 2, 1) := by decide +kernel
theorem d_Dr_removeCode_25 : decode b_Dr_removeCode 25 = .ok (.iload_n 2, 1) := by decide +kernel
theorem d_Dr_removeCode_26 : decode b_Dr_removeCode 26 = .ok (.aload_n 0, 1) := by decide +kernel
theorem d_Dr_removeCode_27 : decode b_Dr_removeCode 27 = .ok (.getfield 18, 3) := by decide +kernel
theorem d_Dr_removeCode_30 : decode b_Dr_removeCode 30 = .ok (.if_icmp .ge 23, 3) := by decide +kernel
theorem d_Dr_removeCode_33 : decode b_Dr_removeCode 33 = .ok (.aload_n 0, 1) := by decide +kernel
theorem d_Dr_removeCode_34 : decode b_Dr_removeCode 34 = .ok (.getfield 15, 3) := by decide +kernel
theorem d_Dr_removeCode_37 : decode b_Dr_removeCode 37 = .ok (.iload_n 2, 1) := by decide +kernel
theorem d_Dr_removeCode_38 : decode b_Dr_removeCode 38 = .ok (.aload_n 0, 1) := by decide +kernel
theorem d_Dr_removeCode_39 : decode b_Dr_removeCode 39 = .ok (.getfield 15, 3) := by decide +kernel
theorem d_Dr_removeCode_42 : decode b_Dr_removeCode 42 = .ok (.iload_n 2, 1) := by decide +kernel
theorem d_Dr_removeCode_43 : decode b_Dr_removeCode 43 = .ok (.iconst 1, 1) := by decide +kernel
theorem d_Dr_removeCode_44 : decode b_Dr_removeCode 44 = .ok (.iadd, 1) := by decide +kernel
theorem d_Dr_removeCode_45 : decode b_Dr_removeCode 45 = .ok (.iaload, 1) := by decide +kernel
theorem d_Dr_removeCode_46 : decode b_Dr_removeCode 46 = .ok (.iastore, 1) := by decide +kernel
theorem d_Dr_removeCode_47 : decode b_Dr_removeCode 47 = .ok (.iinc 2 1, 3) := by decide +kernel
theorem d_Dr_removeCode_50 : decode b_Dr_removeCode 50 = .ok (.goto (-25), 3) := by decide +kernel
theorem d_Dr_removeCode_53 : decode b_Dr_removeCode 53 = .ok (.return_, 1) := by decide +kernel
theorem d_Dr_addCode_0 : decode b_Dr_addCode 0 = .ok (.aload_n 0, 1) := by decide +kernel
theorem d_Dr_addCode_1 : decode b_Dr_addCode 1 = .ok (.getfield 18, 3) := by decide +kernel
theorem d_Dr_addCode_4 : decode b_Dr_addCode 4 = .ok (.bipush 7, 2) := by decide +kernel
theorem d_Dr_addCode_6 : decode b_Dr_addCode 6 = .ok (.if_icmp .ge 29, 3) := by decide +kernel
theorem d_Dr_addCode_9 : decode b_Dr_addCode 9 = .ok (.aload_n 0, 1) := by decide +kernel
theorem d_Dr_addCode_10 : decode b_Dr_addCode 10 = .ok (.getfield 15, 3) := by decide +kernel
theorem d_Dr_addCode_13 : decode b_Dr_addCode 13 = .ok (.aload_n 0, 1) := by decide +kernel
theorem d_Dr_addCode_14 : decode b_Dr_addCode 14 = .ok (.dup, 1) := by decide +kernel
theorem d_Dr_addCode_15 : decode b_Dr_addCode 15 = .ok (.getfield 18, 3) := by decide +kernel
theorem d_Dr_addCode_18 : decode b_Dr_addCode 18 = .ok (.dup_x1, 1) := by decide +kernel
theorem d_Dr_addCode_19 : decode b_Dr_addCode 19 = .ok (.iconst 1, 1) := by decide +kernel
theorem d_Dr_addCode_20 : decode b_Dr_addCode 20 = .ok (.iadd, 1) := by decide +kernel
theorem d_Dr_addCode_21 : decode b_Dr_addCode 21 = .ok (.putfield 18, 3) := by decide +kernel
theorem d_Dr_addCode_24 : decode b_Dr_addCode 24 = .ok (.bipush 16, 2) := by decide +kernel
theorem d_Dr_addCode_26 : decode b_Dr_addCode 26 = .ok (.iload_n 1, 1) := by decide +kernel
theorem d_Dr_addCode_27 : decode b_Dr_addCode 27 = .ok (.imul, 1) := by decide +kernel
theorem d_Dr_addCode_28 : decode b_Dr_addCode 28 = .ok (.iconst 4, 1) := by decide +kernel
theorem d_Dr_addCode_29 : decode b_Dr_addCode 29 = .ok (.iload_n 2, 1) := by decide +kernel
theorem d_Dr_addCode_30 : decode b_Dr_addCode 30 = .ok (.imul, 1) := by decide +kernel
theorem d_Dr_addCode_31 : decode b_Dr_addCode 31 = .ok (.iadd, 1) := by decide +kernel
theorem d_Dr_addCode_32 : decode b_Dr_addCode 32 = .ok (.iload_n 3, 1) := by decide +kernel
theorem d_Dr_addCode_33 : decode b_Dr_addCode 33 = .ok (.iadd, 1) := by decide +kernel
theorem d_Dr_addCode_34 : decode b_Dr_addCode 34 = .ok (.iastore, 1) := by decide +kernel
theorem d_Dr_addCode_35 : decode b_Dr_addCode 35 = .ok (.return_, 1) := by decide +kernel
theorem d_Dr_settle_0 : decode b_Dr_settle 0 = .ok (.aload_n 0, 1) := by decide +kernel
theorem d_Dr_settle_1 : decode b_Dr_settle 1 = .ok (.ldc2_w 61, 3) := by decide +kernel
theorem d_Dr_settle_4 : decode b_Dr_settle 4 = .ok (.putfield 22, 3) := by decide +kernel
theorem d_Dr_settle_7 : decode b_Dr_settle 7 = .ok (.aload_n 0, 1) := by decide +kernel
theorem d_Dr_settle_8 : decode b_Dr_settle 8 = .ok (.iconst 0, 1) := by decide +kernel
theorem d_Dr_settle_9 : decode b_Dr_settle 9 = .ok (.putfield 26, 3) := by decide +kernel
theorem d_Dr_settle_12 : decode b_Dr_settle 12 = .ok (.iconst 0, 1) := by decide +kernel
theorem d_Dr_settle_13 : decode b_Dr_settle 13 = .ok (.istore_n 1, 1) := by decide +kernel
theorem d_Dr_settle_14 : decode b_Dr_settle 14 = .ok (.iload_n 1, 1) := by decide +kernel
theorem d_Dr_settle_15 : decode b_Dr_settle 15 = .ok (.aload_n 0, 1) := by decide +kernel
theorem d_Dr_settle_16 : decode b_Dr_settle 16 = .ok (.getfield 39, 3) := by decide +kernel
theorem d_Dr_settle_19 : decode b_Dr_settle 19 = .ok (.if_icmp .ge 91, 3) := by decide +kernel
theorem d_Dr_settle_22 : decode b_Dr_settle 22 = .ok (.aload_n 0, 1) := by decide +kernel
theorem d_Dr_settle_23 : decode b_Dr_settle 23 = .ok (.getstatic 63, 3) := by decide +kernel
theorem d_Dr_settle_26 : decode b_Dr_settle 26 = .ok (.iload_n 1, 1) := by decide +kernel
theorem d_Dr_settle_27 : decode b_Dr_settle 27 = .ok (.iaload, 1) := by decide +kernel
theorem d_Dr_settle_28 : decode b_Dr_settle 28 = .ok (.invokevirtual 66, 3) := by decide +kernel
theorem d_Dr_settle_31 : decode b_Dr_settle 31 = .ok (.lstore_n 2, 1) := by decide +kernel
theorem d_Dr_settle_32 : decode b_Dr_settle 32 = .ok (.lload_n 2, 1) := by decide +kernel
theorem d_Dr_settle_33 : decode b_Dr_settle 33 = .ok (.aload_n 0, 1) := by decide +kernel
theorem d_Dr_settle_34 : decode b_Dr_settle 34 = .ok (.getfield 22, 3) := by decide +kernel
theorem d_Dr_settle_37 : decode b_Dr_settle 37 = .ok (.bipush 49, 2) := by decide +kernel
theorem d_Dr_settle_39 : decode b_Dr_settle 39 = .ok (.lushr, 1) := by decide +kernel
theorem d_Dr_settle_40 : decode b_Dr_settle 40 = .ok (.lcmp, 1) := by decide +kernel
theorem d_Dr_settle_41 : decode b_Dr_settle 41 = .ok (.ifCond .le 6, 3) := by decide +kernel
theorem d_Dr_settle_44 : decode b_Dr_settle 44 = .ok (.goto 60, 3) := by decide +kernel
theorem d_Dr_settle_47 : decode b_Dr_settle 47 = .ok (.lload_n 2, 1) := by decide +kernel
theorem d_Dr_settle_48 : decode b_Dr_settle 48 = .ok (.bipush 49, 2) := by decide +kernel
theorem d_Dr_settle_50 : decode b_Dr_settle 50 = .ok (.lshl, 1) := by decide +kernel
theorem d_Dr_settle_51 : decode b_Dr_settle 51 = .ok (.aload_n 0, 1) := by decide +kernel
theorem d_Dr_settle_52 : decode b_Dr_settle 52 = .ok (.getstatic 63, 3) := by decide +kernel
theorem d_Dr_settle_55 : decode b_Dr_settle 55 = .ok (.iload_n 1, 1) := by decide +kernel
theorem d_Dr_settle_56 : decode b_Dr_settle 56 = .ok (.iaload, 1) := by decide +kernel
theorem d_Dr_settle_57 : decode b_Dr_settle 57 = .ok (.invokevirtual 70, 3) := by decide +kernel
theorem d_Dr_settle_60 : decode b_Dr_settle 60 = .ok (.lor, 1) := by decide +kernel
theorem d_Dr_settle_61 : decode b_Dr_settle 61 = .ok (.lstore 4, 2) := by decide +kernel
theorem d_Dr_settle_63 : decode b_Dr_settle 63 = .ok (.lload 4, 2) := by decide +kernel
theorem d_Dr_settle_65 : decode b_Dr_settle 65 = .ok (.aload_n 0, 1) := by decide +kernel
theorem d_Dr_settle_66 : decode b_Dr_settle 66 = .ok (.getfield 22, 3) := by decide +kernel
theorem d_Dr_settle_69 : decode b_Dr_settle 69 = .ok (.lcmp, 1) := by decide +kernel
theorem d_Dr_settle_70 : decode b_Dr_settle 70 = .ok (.ifCond .ge 14, 3) := by decide +kernel
theorem d_Dr_settle_73 : decode b_Dr_settle 73 = .ok (.aload_n 0, 1) := by decide +kernel
theorem d_Dr_settle_74 : decode b_Dr_settle 74 = .ok (.lload 4, 2) := by decide +kernel
theorem d_Dr_settle_76 : decode b_Dr_settle 76 = .ok (.putfield 22, 3) := by decide +kernel
theorem d_Dr_settle_79 : decode b_Dr_settle 79 = .ok (.aload_n 0, 1) := by decide +kernel
theorem d_Dr_settle_80 : decode b_Dr_settle 80 = .ok (.iconst 0, 1) := by decide +kernel
theorem d_Dr_settle_81 : decode b_Dr_settle 81 = .ok (.putfield 26, 3) := by decide +kernel
theorem d_Dr_settle_84 : decode b_Dr_settle 84 = .ok (.lload 4, 2) := by decide +kernel
theorem d_Dr_settle_86 : decode b_Dr_settle 86 = .ok (.aload_n 0, 1) := by decide +kernel
theorem d_Dr_settle_87 : decode b_Dr_settle 87 = .ok (.getfield 22, 3) := by decide +kernel
theorem d_Dr_settle_90 : decode b_Dr_settle 90 = .ok (.lcmp, 1) := by decide +kernel
theorem d_Dr_settle_91 : decode b_Dr_settle 91 = .ok (.ifCond .ne 13, 3) := by decide +kernel
theorem d_Dr_settle_94 : decode b_Dr_settle 94 = .ok (.aload_n 0, 1) := by decide +kernel
theorem d_Dr_settle_95 : decode b_Dr_settle 95 = .ok (.dup, 1) := by decide +kernel
theorem d_Dr_settle_96 : decode b_Dr_settle 96 = .ok (.getfield 26, 3) := by decide +kernel
theorem d_Dr_settle_99 : decode b_Dr_settle 99 = .ok (.iconst 1, 1) := by decide +kernel
theorem d_Dr_settle_100 : decode b_Dr_settle 100 = .ok (.iadd, 1) := by decide +kernel
theorem d_Dr_settle_101 : decode b_Dr_settle 101 = .ok (.putfield 26, 3) := by decide +kernel
theorem d_Dr_settle_104 : decode b_Dr_settle 104 = .ok (.iinc 1 1, 3) := by decide +kernel
theorem d_Dr_settle_107 : decode b_Dr_settle 107 = .ok (.goto (-93), 3) := by decide +kernel
theorem d_Dr_settle_110 : decode b_Dr_settle 110 = .ok (.return_, 1) := by decide +kernel
theorem d_Dr_statesBy_0 : decode b_Dr_statesBy 0 = .ok (.iconst 0, 1) := by decide +kernel
theorem d_Dr_statesBy_1 : decode b_Dr_statesBy 1 = .ok (.istore_n 2, 1) := by decide +kernel
theorem d_Dr_statesBy_2 : decode b_Dr_statesBy 2 = .ok (.iconst 0, 1) := by decide +kernel
theorem d_Dr_statesBy_3 : decode b_Dr_statesBy 3 = .ok (.istore_n 3, 1) := by decide +kernel
theorem d_Dr_statesBy_4 : decode b_Dr_statesBy 4 = .ok (.iload_n 3, 1) := by decide +kernel
theorem d_Dr_statesBy_5 : decode b_Dr_statesBy 5 = .ok (.aload_n 0, 1) := by decide +kernel
theorem d_Dr_statesBy_6 : decode b_Dr_statesBy 6 = .ok (.getfield 32, 3) := by decide +kernel
theorem d_Dr_statesBy_9 : decode b_Dr_statesBy 9 = .ok (.if_icmp .ge 34, 3) := by decide +kernel
theorem d_Dr_statesBy_12 : decode b_Dr_statesBy 12 = .ok (.iload_n 1, 1) := by decide +kernel
theorem d_Dr_statesBy_13 : decode b_Dr_statesBy 13 = .ok (.iconst 4, 1) := by decide +kernel
theorem d_Dr_statesBy_14 : decode b_Dr_statesBy 14 = .ok (.iload_n 3, 1) := by decide +kernel
theorem d_Dr_statesBy_15 : decode b_Dr_statesBy 15 = .ok (.imul, 1) := by decide +kernel
theorem d_Dr_statesBy_16 : decode b_Dr_statesBy 16 = .ok (.ishr, 1) := by decide +kernel
theorem d_Dr_statesBy_17 : decode b_Dr_statesBy 17 = .ok (.iconst 3, 1) := by decide +kernel
theorem d_Dr_statesBy_18 : decode b_Dr_statesBy 18 = .ok (.iand, 1) := by decide +kernel
theorem d_Dr_statesBy_19 : decode b_Dr_statesBy 19 = .ok (.istore 4, 2) := by decide +kernel
theorem d_Dr_statesBy_21 : decode b_Dr_statesBy 21 = .ok (.iload_n 2, 1) := by decide +kernel
theorem d_Dr_statesBy_22 : decode b_Dr_statesBy 22 = .ok (.aload_n 0, 1) := by decide +kernel
theorem d_Dr_statesBy_23 : decode b_Dr_statesBy 23 = .ok (.getfield 9, 3) := by decide +kernel
theorem d_Dr_statesBy_26 : decode b_Dr_statesBy 26 = .ok (.iload_n 3, 1) := by decide +kernel
theorem d_Dr_statesBy_27 : decode b_Dr_statesBy 27 = .ok (.iaload, 1) := by decide +kernel
theorem d_Dr_statesBy_28 : decode b_Dr_statesBy 28 = .ok (.iconst 3, 1) := by decide +kernel
theorem d_Dr_statesBy_29 : decode b_Dr_statesBy 29 = .ok (.iconst 3, 1) := by decide +kernel
theorem d_Dr_statesBy_30 : decode b_Dr_statesBy 30 = .ok (.iload 4, 2) := by decide +kernel
theorem d_Dr_statesBy_32 : decode b_Dr_statesBy 32 = .ok (.isub, 1) := by decide +kernel
theorem d_Dr_statesBy_33 : decode b_Dr_statesBy 33 = .ok (.imul, 1) := by decide +kernel
theorem d_Dr_statesBy_34 : decode b_Dr_statesBy 34 = .ok (.ishl, 1) := by decide +kernel
theorem d_Dr_statesBy_35 : decode b_Dr_statesBy 35 = .ok (.ior, 1) := by decide +kernel
theorem d_Dr_statesBy_36 : decode b_Dr_statesBy 36 = .ok (.istore_n 2, 1) := by decide +kernel
theorem d_Dr_statesBy_37 : decode b_Dr_statesBy 37 = .ok (.iinc 3 1, 3) := by decide +kernel
theorem d_Dr_statesBy_40 : decode b_Dr_statesBy 40 = .ok (.goto (-36), 3) := by decide +kernel
theorem d_Dr_statesBy_43 : decode b_Dr_statesBy 43 = .ok (.iload_n 2, 1) := by decide +kernel
theorem d_Dr_statesBy_44 : decode b_Dr_statesBy 44 = .ok (.i2l, 1) := by decide +kernel
theorem d_Dr_statesBy_45 : decode b_Dr_statesBy 45 = .ok (.lreturn, 1) := by decide +kernel
theorem d_Dr_codesBy_0 : decode b_Dr_codesBy 0 = .ok (.iconst 0, 1) := by decide +kernel
theorem d_Dr_codesBy_1 : decode b_Dr_codesBy 1 = .ok (.istore_n 2, 1) := by decide +kernel
theorem d_Dr_codesBy_2 : decode b_Dr_codesBy 2 = .ok (.iload_n 2, 1) := by decide +kernel
theorem d_Dr_codesBy_3 : decode b_Dr_codesBy 3 = .ok (.aload_n 0, 1) := by decide +kernel
theorem d_Dr_codesBy_4 : decode b_Dr_codesBy 4 = .ok (.getfield 18, 3) := by decide +kernel
theorem d_Dr_codesBy_7 : decode b_Dr_codesBy 7 = .ok (.if_icmp .ge 107, 3) := by decide +kernel
theorem d_Dr_codesBy_10 : decode b_Dr_codesBy 10 = .ok (.aload_n 0, 1) := by decide +kernel
theorem d_Dr_codesBy_11 : decode b_Dr_codesBy 11 = .ok (.getfield 15, 3) := by decide +kernel
theorem d_Dr_codesBy_14 : decode b_Dr_codesBy 14 = .ok (.iload_n 2, 1) := by decide +kernel
theorem d_Dr_codesBy_15 : decode b_Dr_codesBy 15 = .ok (.iaload, 1) := by decide +kernel
theorem d_Dr_codesBy_16 : decode b_Dr_codesBy 16 = .ok (.istore_n 3, 1) := by decide +kernel
theorem d_Dr_codesBy_17 : decode b_Dr_codesBy 17 = .ok (.iload_n 1, 1) := by decide +kernel
theorem d_Dr_codesBy_18 : decode b_Dr_codesBy 18 = .ok (.iconst 4, 1) := by decide +kernel
theorem d_Dr_codesBy_19 : decode b_Dr_codesBy 19 = .ok (.iload_n 3, 1) := by decide +kernel
theorem d_Dr_codesBy_20 : decode b_Dr_codesBy 20 = .ok (.iconst 2, 1) := by decide +kernel
theorem d_Dr_codesBy_21 : decode b_Dr_codesBy 21 = .ok (.ishr, 1) := by decide +kernel
theorem d_Dr_codesBy_22 : decode b_Dr_codesBy 22 = .ok (.iconst 3, 1) := by decide +kernel
theorem d_Dr_codesBy_23 : decode b_Dr_codesBy 23 = .ok (.iand, 1) := by decide +kernel
theorem d_Dr_codesBy_24 : decode b_Dr_codesBy 24 = .ok (.imul, 1) := by decide +kernel
theorem d_Dr_codesBy_25 : decode b_Dr_codesBy 25 = .ok (.ishr, 1) := by decide +kernel
theorem d_Dr_codesBy_26 : decode b_Dr_codesBy 26 = .ok (.iconst 3, 1) := by decide +kernel
theorem d_Dr_codesBy_27 : decode b_Dr_codesBy 27 = .ok (.iand, 1) := by decide +kernel
theorem d_Dr_codesBy_28 : decode b_Dr_codesBy 28 = .ok (.istore 4, 2) := by decide +kernel
theorem d_Dr_codesBy_30 : decode b_Dr_codesBy 30 = .ok (.iload_n 1, 1) := by decide +kernel
theorem d_Dr_codesBy_31 : decode b_Dr_codesBy 31 = .ok (.iconst 4, 1) := by decide +kernel
theorem d_Dr_codesBy_32 : decode b_Dr_codesBy 32 = .ok (.iload_n 3, 1) := by decide +kernel
theorem d_Dr_codesBy_33 : decode b_Dr_codesBy 33 = .ok (.iconst 3, 1) := by decide +kernel
theorem d_Dr_codesBy_34 : decode b_Dr_codesBy 34 = .ok (.iand, 1) := by decide +kernel
theorem d_Dr_codesBy_35 : decode b_Dr_codesBy 35 = .ok (.imul, 1) := by decide +kernel
theorem d_Dr_codesBy_36 : decode b_Dr_codesBy 36 = .ok (.ishr, 1) := by decide +kernel
theorem d_Dr_codesBy_37 : decode b_Dr_codesBy 37 = .ok (.iconst 3, 1) := by decide +kernel
theorem d_Dr_codesBy_38 : decode b_Dr_codesBy 38 = .ok (.iand, 1) := by decide +kernel
theorem d_Dr_codesBy_39 : decode b_Dr_codesBy 39 = .ok (.istore 5, 2) := by decide +kernel
theorem d_Dr_codesBy_41 : decode b_Dr_codesBy 41 = .ok (.iload_n 3, 1) := by decide +kernel
theorem d_Dr_codesBy_42 : decode b_Dr_codesBy 42 = .ok (.bipush (-16), 2) := by decide +kernel
theorem d_Dr_codesBy_44 : decode b_Dr_codesBy 44 = .ok (.iand, 1) := by decide +kernel
theorem d_Dr_codesBy_45 : decode b_Dr_codesBy 45 = .ok (.iconst 4, 1) := by decide +kernel
theorem d_Dr_codesBy_46 : decode b_Dr_codesBy 46 = .ok (.iload 4, 2) := by decide +kernel
theorem d_Dr_codesBy_48 : decode b_Dr_codesBy 48 = .ok (.imul, 1) := by decide +kernel
theorem d_Dr_codesBy_49 : decode b_Dr_codesBy 49 = .ok (.iadd, 1) := by decide +kernel
theorem d_Dr_codesBy_50 : decode b_Dr_codesBy 50 = .ok (.iload 5, 2) := by decide +kernel
theorem d_Dr_codesBy_52 : decode b_Dr_codesBy 52 = .ok (.iadd, 1) := by decide +kernel
theorem d_Dr_codesBy_53 : decode b_Dr_codesBy 53 = .ok (.istore 6, 2) := by decide +kernel
theorem d_Dr_codesBy_55 : decode b_Dr_codesBy 55 = .ok (.iload_n 2, 1) := by decide +kernel
theorem d_Dr_codesBy_56 : decode b_Dr_codesBy 56 = .ok (.istore 7, 2) := by decide +kernel
theorem d_Dr_codesBy_58 : decode b_Dr_codesBy 58 = .ok (.iload 7, 2) := by decide +kernel
theorem d_Dr_codesBy_60 : decode b_Dr_codesBy 60 = .ok (.ifCond .le 39, 3) := by decide +kernel
theorem d_Dr_codesBy_63 : decode b_Dr_codesBy 63 = .ok (.aload_n 0, 1) := by decide +kernel
theorem d_Dr_codesBy_64 : decode b_Dr_codesBy 64 = .ok (.getfield 29, 3) := by decide +kernel
theorem d_Dr_codesBy_67 : decode b_Dr_codesBy 67 = .ok (.iload 7, 2) := by decide +kernel
theorem d_Dr_codesBy_69 : decode b_Dr_codesBy 69 = .ok (.iconst 1, 1) := by decide +kernel
theorem d_Dr_codesBy_70 : decode b_Dr_codesBy 70 = .ok (.isub, 1) := by decide +kernel
theorem d_Dr_codesBy_71 : decode b_Dr_codesBy 71 = .ok (.iaload, 1) := by decide +kernel
theorem d_Dr_codesBy_72 : decode b_Dr_codesBy 72 = .ok (.iload 6, 2) := by decide +kernel
theorem d_Dr_codesBy_74 : decode b_Dr_codesBy 74 = .ok (.if_icmp .le 25, 3) := by decide +kernel
theorem d_Dr_codesBy_77 : decode b_Dr_codesBy 77 = .ok (.aload_n 0, 1) := by decide +kernel
theorem d_Dr_codesBy_78 : decode b_Dr_codesBy 78 = .ok (.getfield 29, 3) := by decide +kernel
theorem d_Dr_codesBy_81 : decode b_Dr_codesBy 81 = .ok (.iload 7, 2) := by decide +kernel
theorem d_Dr_codesBy_83 : decode b_Dr_codesBy 83 = .ok (.aload_n 0, 1) := by decide +kernel
theorem d_Dr_codesBy_84 : decode b_Dr_codesBy 84 = .ok (.getfield 29, 3) := by decide +kernel
theorem d_Dr_codesBy_87 : decode b_Dr_codesBy 87 = .ok (.iload 7, 2) := by decide +kernel
theorem d_Dr_codesBy_89 : decode b_Dr_codesBy 89 = .ok (.iconst 1, 1) := by decide +kernel
theorem d_Dr_codesBy_90 : decode b_Dr_codesBy 90 = .ok (.isub, 1) := by decide +kernel
theorem d_Dr_codesBy_91 : decode b_Dr_codesBy 91 = .ok (.iaload, 1) := by decide +kernel
theorem d_Dr_codesBy_92 : decode b_Dr_codesBy 92 = .ok (.iastore, 1) := by decide +kernel
theorem d_Dr_codesBy_93 : decode b_Dr_codesBy 93 = .ok (.iinc 7 (-1), 3) := by decide +kernel
theorem d_Dr_codesBy_96 : decode b_Dr_codesBy 96 = .ok (.goto (-38), 3) := by decide +kernel
theorem d_Dr_codesBy_99 : decode b_Dr_codesBy 99 = .ok (.aload_n 0, 1) := by decide +kernel
theorem d_Dr_codesBy_100 : decode b_Dr_codesBy 100 = .ok (.getfield 29, 3) := by decide +kernel
theorem d_Dr_codesBy_103 : decode b_Dr_codesBy 103 = .ok (.iload 7, 2) := by decide +kernel
theorem d_Dr_codesBy_105 : decode b_Dr_codesBy 105 = .ok (.iload 6, 2) := by decide +kernel
theorem d_Dr_codesBy_107 : decode b_Dr_codesBy 107 = .ok (.iastore, 1) := by decide +kernel
theorem d_Dr_codesBy_108 : decode b_Dr_codesBy 108 = .ok (.iinc 2 1, 3) := by decide +kernel
theorem d_Dr_codesBy_111 : decode b_Dr_codesBy 111 = .ok (.goto (-109), 3) := by decide +kernel
theorem d_Dr_codesBy_114 : decode b_Dr_codesBy 114 = .ok (.lconst 0, 1) := by decide +kernel
theorem d_Dr_codesBy_115 : decode b_Dr_codesBy 115 = .ok (.lstore_n 2, 1) := by decide +kernel
theorem d_Dr_codesBy_116 : decode b_Dr_codesBy 116 = .ok (.iconst 0, 1) := by decide +kernel
theorem d_Dr_codesBy_117 : decode b_Dr_codesBy 117 = .ok (.istore 4, 2) := by decide +kernel
theorem d_Dr_codesBy_119 : decode b_Dr_codesBy 119 = .ok (.iload 4, 2) := by decide +kernel
theorem d_Dr_codesBy_121 : decode b_Dr_codesBy 121 = .ok (.aload_n 0, 1) := by decide +kernel
theorem d_Dr_codesBy_122 : decode b_Dr_codesBy 122 = .ok (.getfield 18, 3) := by decide +kernel
theorem d_Dr_codesBy_125 : decode b_Dr_codesBy 125 = .ok (.if_icmp .ge 25, 3) := by decide +kernel
theorem d_Dr_codesBy_128 : decode b_Dr_codesBy 128 = .ok (.lload_n 2, 1) := by decide +kernel
theorem d_Dr_codesBy_129 : decode b_Dr_codesBy 129 = .ok (.bipush 7, 2) := by decide +kernel
theorem d_Dr_codesBy_131 : decode b_Dr_codesBy 131 = .ok (.lshl, 1) := by decide +kernel
theorem d_Dr_codesBy_132 : decode b_Dr_codesBy 132 = .ok (.aload_n 0, 1) := by decide +kernel
theorem d_Dr_codesBy_133 : decode b_Dr_codesBy 133 = .ok (.getfield 29, 3) := by decide +kernel
theorem d_Dr_codesBy_136 : decode b_Dr_codesBy 136 = .ok (.iload 4, 2) := by decide +kernel
theorem d_Dr_codesBy_138 : decode b_Dr_codesBy 138 = .ok (.iaload, 1) := by decide +kernel
theorem d_Dr_codesBy_139 : decode b_Dr_codesBy 139 = .ok (.iconst 1, 1) := by decide +kernel
theorem d_Dr_codesBy_140 : decode b_Dr_codesBy 140 = .ok (.iadd, 1) := by decide +kernel
theorem d_Dr_codesBy_141 : decode b_Dr_codesBy 141 = .ok (.i2l, 1) := by decide +kernel
theorem d_Dr_codesBy_142 : decode b_Dr_codesBy 142 = .ok (.lor, 1) := by decide +kernel
theorem d_Dr_codesBy_143 : decode b_Dr_codesBy 143 = .ok (.lstore_n 2, 1) := by decide +kernel
theorem d_Dr_codesBy_144 : decode b_Dr_codesBy 144 = .ok (.iinc 4 1, 3) := by decide +kernel
theorem d_Dr_codesBy_147 : decode b_Dr_codesBy 147 = .ok (.goto (-28), 3) := by decide +kernel
theorem d_Dr_codesBy_150 : decode b_Dr_codesBy 150 = .ok (.lload_n 2, 1) := by decide +kernel
theorem d_Dr_codesBy_151 : decode b_Dr_codesBy 151 = .ok (.bipush 7, 2) := by decide +kernel
theorem d_Dr_codesBy_153 : decode b_Dr_codesBy 153 = .ok (.bipush 7, 2) := by decide +kernel
theorem d_Dr_codesBy_155 : decode b_Dr_codesBy 155 = .ok (.aload_n 0, 1) := by decide +kernel
theorem d_Dr_codesBy_156 : decode b_Dr_codesBy 156 = .ok (.getfield 18, 3) := by decide +kernel
theorem d_Dr_codesBy_159 : decode b_Dr_codesBy 159 = .ok (.isub, 1) := by decide +kernel
theorem d_Dr_codesBy_160 : decode b_Dr_codesBy 160 = .ok (.imul, 1) := by decide +kernel
theorem d_Dr_codesBy_161 : decode b_Dr_codesBy 161 = .ok (.lshl, 1) := by decide +kernel
theorem d_Dr_codesBy_162 : decode b_Dr_codesBy 162 = .ok (.lreturn, 1) := by decide +kernel
