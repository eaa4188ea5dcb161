theorem d_RM_isBad_0 : decode b_RM_isBad 0 = .ok (.iconst 0, 1) := by decide +kernel
theorem d_RM_isBad_1 : decode b_RM_isBad 1 = .ok (.istore_n 1, 1) := by decide +kernel
theorem d_RM_isBad_2 : decode b_RM_isBad 2 = .ok (.iconst 0, 1) := by decide +kernel
theorem d_RM_isBad_3 : decode b_RM_isBad 3 = .ok (.istore_n 2, 1) := by decide +kernel
theorem d_RM_isBad_4 : decode b_RM_isBad 4 = .ok (.iload_n 2, 1) := by decide +kernel
theorem d_RM_isBad_5 : decode b_RM_isBad 5 = .ok (.aload_n 0, 1) := by decide +kernel
theorem d_RM_isBad_6 : decode b_RM_isBad 6 = .ok (.getfield 70, 3) := by decide +kernel
theorem d_RM_isBad_9 : decode b_RM_isBad 9 = .ok (.if_icmp .ge 56, 3) := by decide +kernel
theorem d_RM_isBad_12 : decode b_RM_isBad 12 = .ok (.iconst 0, 1) := by decide +kernel
theorem d_RM_isBad_13 : decode b_RM_isBad 13 = .ok (.istore_n 3, 1) := by decide +kernel
theorem d_RM_isBad_14 : decode b_RM_isBad 14 = .ok (.iload_n 3, 1) := by decide +kernel
theorem d_RM_isBad_15 : decode b_RM_isBad 15 = .ok (.iload_n 2, 1) := by decide +kernel
theorem d_RM_isBad_16 : decode b_RM_isBad 16 = .ok (.if_icmp .ge 43, 3) := by decide +kernel
theorem d_RM_isBad_19 : decode b_RM_isBad 19 = .ok (.iload_n 1, 1) := by decide +kernel
theorem d_RM_isBad_20 : decode b_RM_isBad 20 = .ok (.ifCond .ne 27, 3) := by decide +kernel
theorem d_RM_isBad_23 : decode b_RM_isBad 23 = .ok (.aload_n 0, 1) := by decide +kernel
theorem d_RM_isBad_24 : decode b_RM_isBad 24 = .ok (.getfield 32, 3) := by decide +kernel
theorem d_RM_isBad_27 : decode b_RM_isBad 27 = .ok (.bipush 8, 2) := by decide +kernel
theorem d_RM_isBad_29 : decode b_RM_isBad 29 = .ok (.aload_n 0, 1) := by decide +kernel
theorem d_RM_isBad_30 : decode b_RM_isBad 30 = .ok (.getfield 67, 3) := by decide +kernel
theorem d_RM_isBad_33 : decode b_RM_isBad 33 = .ok (.iload_n 2, 1) := by decide +kernel
theorem d_RM_isBad_34 : decode b_RM_isBad 34 = .ok (.iaload, 1) := by decide +kernel
theorem d_RM_isBad_35 : decode b_RM_isBad 35 = .ok (.imul, 1) := by decide +kernel
theorem d_RM_isBad_36 : decode b_RM_isBad 36 = .ok (.aload_n 0, 1) := by decide +kernel
theorem d_RM_isBad_37 : decode b_RM_isBad 37 = .ok (.getfield 67, 3) := by decide +kernel
theorem d_RM_isBad_40 : decode b_RM_isBad 40 = .ok (.iload_n 3, 1) := by decide +kernel
theorem d_RM_isBad_41 : decode b_RM_isBad 41 = .ok (.iaload, 1) := by decide +kernel
theorem d_RM_isBad_42 : decode b_RM_isBad 42 = .ok (.iadd, 1) := by decide +kernel
theorem d_RM_isBad_43 : decode b_RM_isBad 43 = .ok (.baload, 1) := by decide +kernel
theorem d_RM_isBad_44 : decode b_RM_isBad 44 = .ok (.ifCond .eq 7, 3) := by decide +kernel
theorem d_RM_isBad_47 : decode b_RM_isBad 47 = .ok (.iconst 1, 1) := by decide +kernel
theorem d_RM_isBad_48 : decode b_RM_isBad 48 = .ok (.goto 4, 3) := by decide +kernel
theorem d_RM_isBad_51 : decode b_RM_isBad 51 = .ok (.iconst 0, 1) := by decide +kernel
theorem d_RM_isBad_52 : decode b_RM_isBad 52 = .ok (.istore_n 1, 1) := by decide +kernel
theorem d_RM_isBad_53 : decode b_RM_isBad 53 = .ok (.iinc 3 1, 3) := by decide +kernel
theorem d_RM_isBad_56 : decode b_RM_isBad 56 = .ok (.goto (-42), 3) := by decide +kernel
theorem d_RM_isBad_59 : decode b_RM_isBad 59 = .ok (.iinc 2 1, 3) := by decide +kernel
theorem d_RM_isBad_62 : decode b_RM_isBad 62 = .ok (.goto (-58), 3) := by decide +kernel
theorem d_RM_isBad_65 : decode b_RM_isBad 65 = .ok (.iload_n 1, 1) := by decide +kernel
theorem d_RM_isBad_66 : decode b_RM_isBad 66 = .ok (.ireturn, 1) := by decide +kernel
theorem d_RM_come_0 : decode b_RM_come 0 = .ok (.aload_n 0, 1) := by decide +kernel
theorem d_RM_come_1 : decode b_RM_come 1 = .ok (.getfield 82, 3) := by decide +kernel
theorem d_RM_come_4 : decode b_RM_come 4 = .ok (.istore_n 3, 1) := by decide +kernel
theorem d_RM_come_5 : decode b_RM_come 5 = .ok (.iload_n 3, 1) := by decide +kernel
theorem d_RM_come_6 : decode b_RM_come 6 = .ok (.aload_n 0, 1) := by decide +kernel
theorem d_RM_come_7 : decode b_RM_come 7 = .ok (.getfield 139, 3) := by decide +kernel
theorem d_RM_come_10 : decode b_RM_come 10 = .ok (.if_icmp .le 23, 3) := by decide +kernel
theorem d_RM_come_13 : decode b_RM_come 13 = .ok (.aload_n 0, 1) := by decide +kernel
theorem d_RM_come_14 : decode b_RM_come 14 = .ok (.getfield 43, 3) := by decide +kernel
theorem d_RM_come_17 : decode b_RM_come 17 = .ok (.iload_n 3, 1) := by decide +kernel
theorem d_RM_come_18 : decode b_RM_come 18 = .ok (.aload_n 0, 1) := by decide +kernel
theorem d_RM_come_19 : decode b_RM_come 19 = .ok (.getfield 43, 3) := by decide +kernel
theorem d_RM_come_22 : decode b_RM_come 22 = .ok (.iload_n 3, 1) := by decide +kernel
theorem d_RM_come_23 : decode b_RM_come 23 = .ok (.iconst 1, 1) := by decide +kernel
theorem d_RM_come_24 : decode b_RM_come 24 = .ok (.isub, 1) := by decide +kernel
theorem d_RM_come_25 : decode b_RM_come 25 = .ok (.iaload, 1) := by decide +kernel
theorem d_RM_come_26 : decode b_RM_come 26 = .ok (.iastore, 1) := by decide +kernel
theorem d_RM_come_27 : decode b_RM_come 27 = .ok (.iinc 3 (-1), 3) := by decide +kernel
theorem d_RM_come_30 : decode b_RM_come 30 = .ok (.goto (-25), 3) := by decide +kernel
theorem d_RM_come_33 : decode b_RM_come 33 = .ok (.aload_n 0, 1) := by decide +kernel
theorem d_RM_come_34 : decode b_RM_come 34 = .ok (.getfield 43, 3) := by decide +kernel
theorem d_RM_come_37 : decode b_RM_come 37 = .ok (.aload_n 0, 1) := by decide +kernel
theorem d_RM_come_38 : decode b_RM_come 38 = .ok (.getfield 139, 3) := by decide +kernel
theorem d_RM_come_41 : decode b_RM_come 41 = .ok (.aload_n 0, 1) := by decide +kernel
theorem d_RM_come_42 : decode b_RM_come 42 = .ok (.getfield 82, 3) := by decide +kernel
theorem d_RM_come_45 : decode b_RM_come 45 = .ok (.iastore, 1) := by decide +kernel
theorem d_RM_come_46 : decode b_RM_come 46 = .ok (.iconst 0, 1) := by decide +kernel
theorem d_RM_come_47 : decode b_RM_come 47 = .ok (.istore_n 3, 1) := by decide +kernel
theorem d_RM_come_48 : decode b_RM_come 48 = .ok (.iload_n 3, 1) := by decide +kernel
theorem d_RM_come_49 : decode b_RM_come 49 = .ok (.iconst 5, 1) := by decide +kernel
theorem d_RM_come_50 : decode b_RM_come 50 = .ok (.aload_n 0, 1) := by decide +kernel
theorem d_RM_come_51 : decode b_RM_come 51 = .ok (.getfield 67, 3) := by decide +kernel
theorem d_RM_come_54 : decode b_RM_come 54 = .ok (.iconst 4, 1) := by decide +kernel
theorem d_RM_come_55 : decode b_RM_come 55 = .ok (.iaload, 1) := by decide +kernel
theorem d_RM_come_56 : decode b_RM_come 56 = .ok (.iadd, 1) := by decide +kernel
theorem d_RM_come_57 : decode b_RM_come 57 = .ok (.if_icmp .ge 29, 3) := by decide +kernel
theorem d_RM_come_60 : decode b_RM_come 60 = .ok (.aload_n 0, 1) := by decide +kernel
theorem d_RM_come_61 : decode b_RM_come 61 = .ok (.getfield 40, 3) := by decide +kernel
theorem d_RM_come_64 : decode b_RM_come 64 = .ok (.bipush 12, 2) := by decide +kernel
theorem d_RM_come_66 : decode b_RM_come 66 = .ok (.aload_n 0, 1) := by decide +kernel
theorem d_RM_come_67 : decode b_RM_come 67 = .ok (.getfield 82, 3) := by decide +kernel
theorem d_RM_come_70 : decode b_RM_come 70 = .ok (.imul, 1) := by decide +kernel
theorem d_RM_come_71 : decode b_RM_come 71 = .ok (.iload_n 3, 1) := by decide +kernel
theorem d_RM_come_72 : decode b_RM_come 72 = .ok (.iadd, 1) := by decide +kernel
theorem d_RM_come_73 : decode b_RM_come 73 = .ok (.aload_n 0, 1) := by decide +kernel
theorem d_RM_come_74 : decode b_RM_come 74 = .ok (.getfield 67, 3) := by decide +kernel
theorem d_RM_come_77 : decode b_RM_come 77 = .ok (.iload_n 3, 1) := by decide +kernel
theorem d_RM_come_78 : decode b_RM_come 78 = .ok (.iaload, 1) := by decide +kernel
theorem d_RM_come_79 : decode b_RM_come 79 = .ok (.iastore, 1) := by decide +kernel
theorem d_RM_come_80 : decode b_RM_come 80 = .ok (.iinc 3 1, 3) := by decide +kernel
theorem d_RM_come_83 : decode b_RM_come 83 = .ok (.goto (-35), 3) := by decide +kernel
theorem d_RM_come_86 : decode b_RM_come 86 = .ok (.aload_n 0, 1) := by decide +kernel
theorem d_RM_come_87 : decode b_RM_come 87 = .ok (.getfield 46, 3) := by decide +kernel
theorem d_RM_come_90 : decode b_RM_come 90 = .ok (.aload_n 0, 1) := by decide +kernel
theorem d_RM_come_91 : decode b_RM_come 91 = .ok (.getfield 82, 3) := by decide +kernel
theorem d_RM_come_94 : decode b_RM_come 94 = .ok (.iload_n 1, 1) := by decide +kernel
theorem d_RM_come_95 : decode b_RM_come 95 = .ok (.ifCond .ge 7, 3) := by decide +kernel
theorem d_RM_come_98 : decode b_RM_come 98 = .ok (.iconst 0, 1) := by decide +kernel
theorem d_RM_come_99 : decode b_RM_come 99 = .ok (.goto 11, 3) := by decide +kernel
theorem d_RM_come_102 : decode b_RM_come 102 = .ok (.aload_n 0, 1) := by decide +kernel
theorem d_RM_come_103 : decode b_RM_come 103 = .ok (.getfield 46, 3) := by decide +kernel
theorem d_RM_come_106 : decode b_RM_come 106 = .ok (.iload_n 1, 1) := by decide +kernel
theorem d_RM_come_107 : decode b_RM_come 107 = .ok (.iaload, 1) := by decide +kernel
theorem d_RM_come_108 : decode b_RM_come 108 = .ok (.iconst 1, 1) := by decide +kernel
theorem d_RM_come_109 : decode b_RM_come 109 = .ok (.iadd, 1) := by decide +kernel
theorem d_RM_come_110 : decode b_RM_come 110 = .ok (.iastore, 1) := by decide +kernel
theorem d_RM_come_111 : decode b_RM_come 111 = .ok (.aload_n 0, 1) := by decide +kernel
theorem d_RM_come_112 : decode b_RM_come 112 = .ok (.getfield 49, 3) := by decide +kernel
theorem d_RM_come_115 : decode b_RM_come 115 = .ok (.aload_n 0, 1) := by decide +kernel
theorem d_RM_come_116 : decode b_RM_come 116 = .ok (.getfield 82, 3) := by decide +kernel
theorem d_RM_come_119 : decode b_RM_come 119 = .ok (.iload_n 1, 1) := by decide +kernel
theorem d_RM_come_120 : decode b_RM_come 120 = .ok (.iastore, 1) := by decide +kernel
theorem d_RM_come_121 : decode b_RM_come 121 = .ok (.aload_n 0, 1) := by decide +kernel
theorem d_RM_come_122 : decode b_RM_come 122 = .ok (.getfield 52, 3) := by decide +kernel
theorem d_RM_come_125 : decode b_RM_come 125 = .ok (.aload_n 0, 1) := by decide +kernel
theorem d_RM_come_126 : decode b_RM_come 126 = .ok (.getfield 82, 3) := by decide +kernel
theorem d_RM_come_129 : decode b_RM_come 129 = .ok (.iload_n 2, 1) := by decide +kernel
theorem d_RM_come_130 : decode b_RM_come 130 = .ok (.iastore, 1) := by decide +kernel
theorem d_RM_come_131 : decode b_RM_come 131 = .ok (.aload_n 0, 1) := by decide +kernel
theorem d_RM_come_132 : decode b_RM_come 132 = .ok (.getfield 55, 3) := by decide +kernel
theorem d_RM_come_135 : decode b_RM_come 135 = .ok (.aload_n 0, 1) := by decide +kernel
theorem d_RM_come_136 : decode b_RM_come 136 = .ok (.getfield 82, 3) := by decide +kernel
theorem d_RM_come_139 : decode b_RM_come 139 = .ok (.iconst (-1), 1) := by decide +kernel
theorem d_RM_come_140 : decode b_RM_come 140 = .ok (.iastore, 1) := by decide +kernel
theorem d_RM_come_141 : decode b_RM_come 141 = .ok (.aload_n 0, 1) := by decide +kernel
theorem d_RM_come_142 : decode b_RM_come 142 = .ok (.getfield 58, 3) := by decide +kernel
theorem d_RM_come_145 : decode b_RM_come 145 = .ok (.aload_n 0, 1) := by decide +kernel
theorem d_RM_come_146 : decode b_RM_come 146 = .ok (.getfield 82, 3) := by decide +kernel
theorem d_RM_come_149 : decode b_RM_come 149 = .ok (.aload_n 0, 1) := by decide +kernel
theorem d_RM_come_150 : decode b_RM_come 150 = .ok (.getfield 124, 3) := by decide +kernel
theorem d_RM_come_153 : decode b_RM_come 153 = .ok (.iastore, 1) := by decide +kernel
theorem d_RM_come_154 : decode b_RM_come 154 = .ok (.aload_n 0, 1) := by decide +kernel
theorem d_RM_come_155 : decode b_RM_come 155 = .ok (.invokevirtual 142, 3) := by decide +kernel
theorem d_RM_come_158 : decode b_RM_come 158 = .ok (.ifCond .eq 17, 3) := by decide +kernel
theorem d_RM_come_161 : decode b_RM_come 161 = .ok (.aload_n 0, 1) := by decide +kernel
theorem d_RM_come_162 : decode b_RM_come 162 = .ok (.aload_n 0, 1) := by decide +kernel
theorem d_RM_come_163 : decode b_RM_come 163 = .ok (.getfield 82, 3) := by decide +kernel
theorem d_RM_come_166 : decode b_RM_come 166 = .ok (.putfield 100, 3) := by decide +kernel
theorem d_RM_come_169 : decode b_RM_come 169 = .ok (.aload_n 0, 1) := by decide +kernel
theorem d_RM_come_170 : decode b_RM_come 170 = .ok (.bipush (-2), 2) := by decide +kernel
theorem d_RM_come_172 : decode b_RM_come 172 = .ok (.putfield 97, 3) := by decide +kernel
theorem d_RM_come_175 : decode b_RM_come 175 = .ok (.aload_n 0, 1) := by decide +kernel
theorem d_RM_come_176 : decode b_RM_come 176 = .ok (.dup, 1) := by decide +kernel
theorem d_RM_come_177 : decode b_RM_come 177 = .ok (.getfield 82, 3) := by decide +kernel
theorem d_RM_come_180 : decode b_RM_come 180 = .ok (.iconst 1, 1) := by decide +kernel
theorem d_RM_come_181 : decode b_RM_come 181 = .ok (.iadd, 1) := by decide +kernel
theorem d_RM_come_182 : decode b_RM_come 182 = .ok (.putfield 82, 3) := by decide +kernel
theorem d_RM_come_185 : decode b_RM_come 185 = .ok (.return_, 1) := by decide +kernel
theorem d_RM_begin_0 : decode b_RM_begin 0 = .ok (.aload_n 0, 1) := by decide +kernel
theorem d_RM_begin_1 : decode b_RM_begin 1 = .ok (.getfield 82, 3) := by decide +kernel
theorem d_RM_begin_4 : decode b_RM_begin 4 = .ok (.ifCond .le 4, 3) := by decide +kernel
theorem d_RM_begin_7 : decode b_RM_begin 7 = .ok (.return_, 1) := by decide +kernel
theorem d_RM_begin_8 : decode b_RM_begin 8 = .ok (.aload_n 0, 1) := by decide +kernel
theorem d_RM_begin_9 : decode b_RM_begin 9 = .ok (.invokevirtual 107, 3) := by decide +kernel
theorem d_RM_begin_12 : decode b_RM_begin 12 = .ok (.iconst 0, 1) := by decide +kernel
theorem d_RM_begin_13 : decode b_RM_begin 13 = .ok (.istore_n 1, 1) := by decide +kernel
theorem d_RM_begin_14 : decode b_RM_begin 14 = .ok (.iload_n 1, 1) := by decide +kernel
theorem d_RM_begin_15 : decode b_RM_begin 15 = .ok (.bipush 12, 2) := by decide +kernel
theorem d_RM_begin_17 : decode b_RM_begin 17 = .ok (.if_icmp .ge 16, 3) := by decide +kernel
theorem d_RM_begin_20 : decode b_RM_begin 20 = .ok (.aload_n 0, 1) := by decide +kernel
theorem d_RM_begin_21 : decode b_RM_begin 21 = .ok (.getfield 61, 3) := by decide +kernel
theorem d_RM_begin_24 : decode b_RM_begin 24 = .ok (.iload_n 1, 1) := by decide +kernel
theorem d_RM_begin_25 : decode b_RM_begin 25 = .ok (.iconst 0, 1) := by decide +kernel
theorem d_RM_begin_26 : decode b_RM_begin 26 = .ok (.iastore, 1) := by decide +kernel
theorem d_RM_begin_27 : decode b_RM_begin 27 = .ok (.iinc 1 1, 3) := by decide +kernel
theorem d_RM_begin_30 : decode b_RM_begin 30 = .ok (.goto (-16), 3) := by decide +kernel
theorem d_RM_begin_33 : decode b_RM_begin 33 = .ok (.aload_n 0, 1) := by decide +kernel
theorem d_RM_begin_34 : decode b_RM_begin 34 = .ok (.invokevirtual 146, 3) := by decide +kernel
theorem d_RM_begin_37 : decode b_RM_begin 37 = .ok (.aload_n 0, 1) := by decide +kernel
theorem d_RM_begin_38 : decode b_RM_begin 38 = .ok (.iconst 0, 1) := by decide +kernel
theorem d_RM_begin_39 : decode b_RM_begin 39 = .ok (.putfield 139, 3) := by decide +kernel
theorem d_RM_begin_42 : decode b_RM_begin 42 = .ok (.aload_n 0, 1) := by decide +kernel
theorem d_RM_begin_43 : decode b_RM_begin 43 = .ok (.iconst (-1), 1) := by decide +kernel
theorem d_RM_begin_44 : decode b_RM_begin 44 = .ok (.iconst (-1), 1) := by decide +kernel
theorem d_RM_begin_45 : decode b_RM_begin 45 = .ok (.invokevirtual 149, 3) := by decide +kernel
theorem d_RM_begin_48 : decode b_RM_begin 48 = .ok (.return_, 1) := by decide +kernel
theorem d_RM_make_0 : decode b_RM_make 0 = .ok (.iconst 0, 1) := by decide +kernel
theorem d_RM_make_1 : decode b_RM_make 1 = .ok (.istore 5, 2) := by decide +kernel
theorem d_RM_make_3 : decode b_RM_make 3 = .ok (.iconst 0, 1) := by decide +kernel
theorem d_RM_make_4 : decode b_RM_make 4 = .ok (.istore 6, 2) := by decide +kernel
theorem d_RM_make_6 : decode b_RM_make 6 = .ok (.iload 6, 2) := by decide +kernel
theorem d_RM_make_8 : decode b_RM_make 8 = .ok (.aload_n 0, 1) := by decide +kernel
theorem d_RM_make_9 : decode b_RM_make 9 = .ok (.getfield 23, 3) := by decide +kernel
theorem d_RM_make_12 : decode b_RM_make 12 = .ok (.iload_n 3, 1) := by decide +kernel
theorem d_RM_make_13 : decode b_RM_make 13 = .ok (.iaload, 1) := by decide +kernel
theorem d_RM_make_14 : decode b_RM_make 14 = .ok (.if_icmp .ge 38, 3) := by decide +kernel
theorem d_RM_make_17 : decode b_RM_make 17 = .ok (.iload 5, 2) := by decide +kernel
theorem d_RM_make_19 : decode b_RM_make 19 = .ok (.aload_n 0, 1) := by decide +kernel
theorem d_RM_make_20 : decode b_RM_make 20 = .ok (.getfield 29, 3) := by decide +kernel
theorem d_RM_make_23 : decode b_RM_make 23 = .ok (.iconst 4, 1) := by decide +kernel
theorem d_RM_make_24 : decode b_RM_make 24 = .ok (.iload_n 3, 1) := by decide +kernel
theorem d_RM_make_25 : decode b_RM_make 25 = .ok (.imul, 1) := by decide +kernel
theorem d_RM_make_26 : decode b_RM_make 26 = .ok (.iload 6, 2) := by decide +kernel
theorem d_RM_make_28 : decode b_RM_make 28 = .ok (.iadd, 1) := by decide +kernel
theorem d_RM_make_29 : decode b_RM_make 29 = .ok (.iaload, 1) := by decide +kernel
theorem d_RM_make_30 : decode b_RM_make 30 = .ok (.ifCond .ne 7, 3) := by decide +kernel
theorem d_RM_make_33 : decode b_RM_make 33 = .ok (.iconst 1, 1) := by decide +kernel
theorem d_RM_make_34 : decode b_RM_make 34 = .ok (.goto 9, 3) := by decide +kernel
theorem d_RM_make_37 : decode b_RM_make 37 = .ok (.aload_n 0, 1) := by decide +kernel
theorem d_RM_make_38 : decode b_RM_make 38 = .ok (.getfield 70, 3) := by decide +kernel
theorem d_RM_make_41 : decode b_RM_make 41 = .ok (.iconst 1, 1) := by decide +kernel
theorem d_RM_make_42 : decode b_RM_make 42 = .ok (.isub, 1) := by decide +kernel
theorem d_RM_make_43 : decode b_RM_make 43 = .ok (.iadd, 1) := by decide +kernel
theorem d_RM_make_44 : decode b_RM_make 44 = .ok (.istore 5, 2) := by decide +kernel
theorem d_RM_make_46 : decode b_RM_make 46 = .ok (.iinc 6 1, 3) := by decide +kernel
theorem d_RM_make_49 : decode b_RM_make 49 = .ok (.goto (-43), 3) := by decide +kernel
theorem d_RM_make_52 : decode b_RM_make 52 = .ok (.aload_n 0, 1) := by decide +kernel
theorem d_RM_make_53 : decode b_RM_make 53 = .ok (.getfield 40, 3) := by decide +kernel
theorem d_RM_make_56 : decode b_RM_make 56 = .ok (.bipush 12, 2) := by decide +kernel
theorem d_RM_make_58 : decode b_RM_make 58 = .ok (.iload_n 1, 1) := by decide +kernel
theorem d_RM_make_59 : decode b_RM_make 59 = .ok (.imul, 1) := by decide +kernel
theorem d_RM_make_60 : decode b_RM_make 60 = .ok (.iconst 4, 1) := by decide +kernel
theorem d_RM_make_61 : decode b_RM_make 61 = .ok (.iadd, 1) := by decide +kernel
theorem d_RM_make_62 : decode b_RM_make 62 = .ok (.iaload, 1) := by decide +kernel
theorem d_RM_make_63 : decode b_RM_make 63 = .ok (.iload 4, 2) := by decide +kernel
theorem d_RM_make_65 : decode b_RM_make 65 = .ok (.ifCond .ge 7, 3) := by decide +kernel
theorem d_RM_make_68 : decode b_RM_make 68 = .ok (.iconst 0, 1) := by decide +kernel
theorem d_RM_make_69 : decode b_RM_make 69 = .ok (.goto 4, 3) := by decide +kernel
theorem d_RM_make_72 : decode b_RM_make 72 = .ok (.iconst 1, 1) := by decide +kernel
theorem d_RM_make_73 : decode b_RM_make 73 = .ok (.isub, 1) := by decide +kernel
theorem d_RM_make_74 : decode b_RM_make 74 = .ok (.iload 5, 2) := by decide +kernel
theorem d_RM_make_76 : decode b_RM_make 76 = .ok (.iadd, 1) := by decide +kernel
theorem d_RM_make_77 : decode b_RM_make 77 = .ok (.bipush 7, 2) := by decide +kernel
theorem d_RM_make_79 : decode b_RM_make 79 = .ok (.if_icmp .le 5, 3) := by decide +kernel
theorem d_RM_make_82 : decode b_RM_make 82 = .ok (.iconst 0, 1) := by decide +kernel
theorem d_RM_make_83 : decode b_RM_make 83 = .ok (.ireturn, 1) := by decide +kernel
theorem d_RM_make_84 : decode b_RM_make 84 = .ok (.iconst 0, 1) := by decide +kernel
theorem d_RM_make_85 : decode b_RM_make 85 = .ok (.istore 6, 2) := by decide +kernel
theorem d_RM_make_87 : decode b_RM_make 87 = .ok (.iload 6, 2) := by decide +kernel
theorem d_RM_make_89 : decode b_RM_make 89 = .ok (.iconst 4, 1) := by decide +kernel
theorem d_RM_make_90 : decode b_RM_make 90 = .ok (.if_icmp .ge 28, 3) := by decide +kernel
theorem d_RM_make_93 : decode b_RM_make 93 = .ok (.aload_n 0, 1) := by decide +kernel
theorem d_RM_make_94 : decode b_RM_make 94 = .ok (.getfield 61, 3) := by decide +kernel
theorem d_RM_make_97 : decode b_RM_make 97 = .ok (.iload 6, 2) := by decide +kernel
theorem d_RM_make_99 : decode b_RM_make 99 = .ok (.aload_n 0, 1) := by decide +kernel
theorem d_RM_make_100 : decode b_RM_make 100 = .ok (.getfield 40, 3) := by decide +kernel
theorem d_RM_make_103 : decode b_RM_make 103 = .ok (.bipush 12, 2) := by decide +kernel
theorem d_RM_make_105 : decode b_RM_make 105 = .ok (.iload_n 1, 1) := by decide +kernel
theorem d_RM_make_106 : decode b_RM_make 106 = .ok (.imul, 1) := by decide +kernel
theorem d_RM_make_107 : decode b_RM_make 107 = .ok (.iload 6, 2) := by decide +kernel
theorem d_RM_make_109 : decode b_RM_make 109 = .ok (.iadd, 1) := by decide +kernel
theorem d_RM_make_110 : decode b_RM_make 110 = .ok (.iaload, 1) := by decide +kernel
theorem d_RM_make_111 : decode b_RM_make 111 = .ok (.iastore, 1) := by decide +kernel
theorem d_RM_make_112 : decode b_RM_make 112 = .ok (.iinc 6 1, 3) := by decide +kernel
theorem d_RM_make_115 : decode b_RM_make 115 = .ok (.goto (-28), 3) := by decide +kernel
theorem d_RM_make_118 : decode b_RM_make 118 = .ok (.aload_n 0, 1) := by decide +kernel
theorem d_RM_make_119 : decode b_RM_make 119 = .ok (.getfield 61, 3) := by decide +kernel
theorem d_RM_make_122 : decode b_RM_make 122 = .ok (.iload_n 2, 1) := by decide +kernel
theorem d_RM_make_123 : decode b_RM_make 123 = .ok (.aload_n 0, 1) := by decide +kernel
theorem d_RM_make_124 : decode b_RM_make 124 = .ok (.getfield 20, 3) := by decide +kernel
theorem d_RM_make_127 : decode b_RM_make 127 = .ok (.iload_n 3, 1) := by decide +kernel
theorem d_RM_make_128 : decode b_RM_make 128 = .ok (.iaload, 1) := by decide +kernel
theorem d_RM_make_129 : decode b_RM_make 129 = .ok (.iastore, 1) := by decide +kernel
theorem d_RM_make_130 : decode b_RM_make 130 = .ok (.aload_n 0, 1) := by decide +kernel
theorem d_RM_make_131 : decode b_RM_make 131 = .ok (.getfield 61, 3) := by decide +kernel
theorem d_RM_make_134 : decode b_RM_make 134 = .ok (.iconst 4, 1) := by decide +kernel
theorem d_RM_make_135 : decode b_RM_make 135 = .ok (.iconst 0, 1) := by decide +kernel
theorem d_RM_make_136 : decode b_RM_make 136 = .ok (.iastore, 1) := by decide +kernel
theorem d_RM_make_137 : decode b_RM_make 137 = .ok (.iload 4, 2) := by decide +kernel
theorem d_RM_make_139 : decode b_RM_make 139 = .ok (.ifCond .ge 7, 3) := by decide +kernel
theorem d_RM_make_142 : decode b_RM_make 142 = .ok (.iconst 1, 1) := by decide +kernel
theorem d_RM_make_143 : decode b_RM_make 143 = .ok (.goto 4, 3) := by decide +kernel
theorem d_RM_make_146 : decode b_RM_make 146 = .ok (.iconst 0, 1) := by decide +kernel
theorem d_RM_make_147 : decode b_RM_make 147 = .ok (.istore 6, 2) := by decide +kernel
theorem d_RM_make_149 : decode b_RM_make 149 = .ok (.iconst 0, 1) := by decide +kernel
theorem d_RM_make_150 : decode b_RM_make 150 = .ok (.istore 7, 2) := by decide +kernel
theorem d_RM_make_152 : decode b_RM_make 152 = .ok (.iload 7, 2) := by decide +kernel
theorem d_RM_make_154 : decode b_RM_make 154 = .ok (.aload_n 0, 1) := by decide +kernel
theorem d_RM_make_155 : decode b_RM_make 155 = .ok (.getfield 40, 3) := by decide +kernel
theorem d_RM_make_158 : decode b_RM_make 158 = .ok (.bipush 12, 2) := by decide +kernel
theorem d_RM_make_160 : decode b_RM_make 160 = .ok (.iload_n 1, 1) := by decide +kernel
theorem d_RM_make_161 : decode b_RM_make 161 = .ok (.imul, 1) := by decide +kernel
theorem d_RM_make_162 : decode b_RM_make 162 = .ok (.iconst 4, 1) := by decide +kernel
theorem d_RM_make_163 : decode b_RM_make 163 = .ok (.iadd, 1) := by decide +kernel
theorem d_RM_make_164 : decode b_RM_make 164 = .ok (.iaload, 1) := by decide +kernel
theorem d_RM_make_165 : decode b_RM_make 165 = .ok (.if_icmp .ge 53, 3) := by decide +kernel
theorem d_RM_make_168 : decode b_RM_make 168 = .ok (.aload_n 0, 1) := by decide +kernel
theorem d_RM_make_169 : decode b_RM_make 169 = .ok (.getfield 40, 3) := by decide +kernel
theorem d_RM_make_172 : decode b_RM_make 172 = .ok (.bipush 12, 2) := by decide +kernel
theorem d_RM_make_174 : decode b_RM_make 174 = .ok (.iload_n 1, 1) := by decide +kernel
theorem d_RM_make_175 : decode b_RM_make 175 = .ok (.imul, 1) := by decide +kernel
theorem d_RM_make_176 : decode b_RM_make 176 = .ok (.iconst 5, 1) := by decide +kernel
theorem d_RM_make_177 : decode b_RM_make 177 = .ok (.iadd, 1) := by decide +kernel
theorem d_RM_make_178 : decode b_RM_make 178 = .ok (.iload 7, 2) := by decide +kernel
theorem d_RM_make_180 : decode b_RM_make 180 = .ok (.iadd, 1) := by decide +kernel
theorem d_RM_make_181 : decode b_RM_make 181 = .ok (.iaload, 1) := by decide +kernel
theorem d_RM_make_182 : decode b_RM_make 182 = .ok (.istore 8, 2) := by decide +kernel
theorem d_RM_make_184 : decode b_RM_make 184 = .ok (.iload 6, 2) := by decide +kernel
theorem d_RM_make_186 : decode b_RM_make 186 = .ok (.ifCond .ne 16, 3) := by decide +kernel
theorem d_RM_make_189 : decode b_RM_make 189 = .ok (.iload 8, 2) := by decide +kernel
theorem d_RM_make_191 : decode b_RM_make 191 = .ok (.iload 4, 2) := by decide +kernel
theorem d_RM_make_193 : decode b_RM_make 193 = .ok (.if_icmp .ne 9, 3) := by decide +kernel
theorem d_RM_make_196 : decode b_RM_make 196 = .ok (.iconst 1, 1) := by decide +kernel
theorem d_RM_make_197 : decode b_RM_make 197 = .ok (.istore 6, 2) := by decide +kernel
theorem d_RM_make_199 : decode b_RM_make 199 = .ok (.goto 13, 3) := by decide +kernel
theorem d_RM_make_202 : decode b_RM_make 202 = .ok (.aload_n 0, 1) := by decide +kernel
theorem d_RM_make_203 : decode b_RM_make 203 = .ok (.aload_n 0, 1) := by decide +kernel
theorem d_RM_make_204 : decode b_RM_make 204 = .ok (.getfield 61, 3) := by decide +kernel
theorem d_RM_make_207 : decode b_RM_make 207 = .ok (.iload 8, 2) := by decide +kernel
theorem d_RM_make_209 : decode b_RM_make 209 = .ok (.invokevirtual 120, 3) := by decide +kernel
theorem d_RM_make_212 : decode b_RM_make 212 = .ok (.iinc 7 1, 3) := by decide +kernel
theorem d_RM_make_215 : decode b_RM_make 215 = .ok (.goto (-63), 3) := by decide +kernel
theorem d_RM_make_218 : decode b_RM_make 218 = .ok (.iconst 0, 1) := by decide +kernel
theorem d_RM_make_219 : decode b_RM_make 219 = .ok (.istore 7, 2) := by decide +kernel
theorem d_RM_make_221 : decode b_RM_make 221 = .ok (.iload 7, 2) := by decide +kernel
theorem d_RM_make_223 : decode b_RM_make 223 = .ok (.aload_n 0, 1) := by decide +kernel
theorem d_RM_make_224 : decode b_RM_make 224 = .ok (.getfield 23, 3) := by decide +kernel
theorem d_RM_make_227 : decode b_RM_make 227 = .ok (.iload_n 3, 1) := by decide +kernel
theorem d_RM_make_228 : decode b_RM_make 228 = .ok (.iaload, 1) := by decide +kernel
theorem d_RM_make_229 : decode b_RM_make 229 = .ok (.if_icmp .ge 112, 3) := by decide +kernel
theorem d_RM_make_232 : decode b_RM_make 232 = .ok (.bipush 16, 2) := by decide +kernel
theorem d_RM_make_234 : decode b_RM_make 234 = .ok (.aload_n 0, 1) := by decide +kernel
theorem d_RM_make_235 : decode b_RM_make 235 = .ok (.getfield 26, 3) := by decide +kernel
theorem d_RM_make_238 : decode b_RM_make 238 = .ok (.iconst 4, 1) := by decide +kernel
theorem d_RM_make_239 : decode b_RM_make 239 = .ok (.iload_n 3, 1) := by decide +kernel
theorem d_RM_make_240 : decode b_RM_make 240 = .ok (.imul, 1) := by decide +kernel
theorem d_RM_make_241 : decode b_RM_make 241 = .ok (.iload 7, 2) := by decide +kernel
theorem d_RM_make_243 : decode b_RM_make 243 = .ok (.iadd, 1) := by decide +kernel
theorem d_RM_make_244 : decode b_RM_make 244 = .ok (.iaload, 1) := by decide +kernel
theorem d_RM_make_245 : decode b_RM_make 245 = .ok (.imul, 1) := by decide +kernel
theorem d_RM_make_246 : decode b_RM_make 246 = .ok (.iconst 4, 1) := by decide +kernel
theorem d_RM_make_247 : decode b_RM_make 247 = .ok (.iload_n 2, 1) := by decide +kernel
theorem d_RM_make_248 : decode b_RM_make 248 = .ok (.imul, 1) := by decide +kernel
theorem d_RM_make_249 : decode b_RM_make 249 = .ok (.iadd, 1) := by decide +kernel
theorem d_RM_make_250 : decode b_RM_make 250 = .ok (.istore 8, 2) := by decide +kernel
theorem d_RM_make_252 : decode b_RM_make 252 = .ok (.aload_n 0, 1) := by decide +kernel
theorem d_RM_make_253 : decode b_RM_make 253 = .ok (.getfield 29, 3) := by decide +kernel
theorem d_RM_make_256 : decode b_RM_make 256 = .ok (.iconst 4, 1) := by decide +kernel
theorem d_RM_make_257 : decode b_RM_make 257 = .ok (.iload_n 3, 1) := by decide +kernel
theorem d_RM_make_258 : decode b_RM_make 258 = .ok (.imul, 1) := by decide +kernel
theorem d_RM_make_259 : decode b_RM_make 259 = .ok (.iload 7, 2) := by decide +kernel
theorem d_RM_make_261 : decode b_RM_make 261 = .ok (.iadd, 1) := by decide +kernel
theorem d_RM_make_262 : decode b_RM_make 262 = .ok (.iaload, 1) := by decide +kernel
theorem d_RM_make_263 : decode b_RM_make 263 = .ok (.ifCond .ne 20, 3) := by decide +kernel
theorem d_RM_make_266 : decode b_RM_make 266 = .ok (.aload_n 0, 1) := by decide +kernel
theorem d_RM_make_267 : decode b_RM_make 267 = .ok (.aload_n 0, 1) := by decide +kernel
theorem d_RM_make_268 : decode b_RM_make 268 = .ok (.getfield 61, 3) := by decide +kernel
theorem d_RM_make_271 : decode b_RM_make 271 = .ok (.iload 8, 2) := by decide +kernel
theorem d_RM_make_273 : decode b_RM_make 273 = .ok (.iload 4, 2) := by decide +kernel
theorem d_RM_make_275 : decode b_RM_make 275 = .ok (.iconst 4, 1) := by decide +kernel
theorem d_RM_make_276 : decode b_RM_make 276 = .ok (.idiv, 1) := by decide +kernel
theorem d_RM_make_277 : decode b_RM_make 277 = .ok (.iconst 4, 1) := by decide +kernel
theorem d_RM_make_278 : decode b_RM_make 278 = .ok (.irem, 1) := by decide +kernel
theorem d_RM_make_279 : decode b_RM_make 279 = .ok (.iadd, 1) := by decide +kernel
theorem d_RM_make_280 : decode b_RM_make 280 = .ok (.invokevirtual 120, 3) := by decide +kernel
theorem d_RM_make_283 : decode b_RM_make 283 = .ok (.iconst 0, 1) := by decide +kernel
theorem d_RM_make_284 : decode b_RM_make 284 = .ok (.istore 9, 2) := by decide +kernel
theorem d_RM_make_286 : decode b_RM_make 286 = .ok (.iload 9, 2) := by decide +kernel
theorem d_RM_make_288 : decode b_RM_make 288 = .ok (.aload_n 0, 1) := by decide +kernel
theorem d_RM_make_289 : decode b_RM_make 289 = .ok (.getfield 70, 3) := by decide +kernel
theorem d_RM_make_292 : decode b_RM_make 292 = .ok (.if_icmp .ge 43, 3) := by decide +kernel
theorem d_RM_make_295 : decode b_RM_make 295 = .ok (.aload_n 0, 1) := by decide +kernel
theorem d_RM_make_296 : decode b_RM_make 296 = .ok (.getfield 29, 3) := by decide +kernel
theorem d_RM_make_299 : decode b_RM_make 299 = .ok (.iconst 4, 1) := by decide +kernel
theorem d_RM_make_300 : decode b_RM_make 300 = .ok (.iload_n 3, 1) := by decide +kernel
theorem d_RM_make_301 : decode b_RM_make 301 = .ok (.imul, 1) := by decide +kernel
theorem d_RM_make_302 : decode b_RM_make 302 = .ok (.iload 7, 2) := by decide +kernel
theorem d_RM_make_304 : decode b_RM_make 304 = .ok (.iadd, 1) := by decide +kernel
theorem d_RM_make_305 : decode b_RM_make 305 = .ok (.iaload, 1) := by decide +kernel
theorem d_RM_make_306 : decode b_RM_make 306 = .ok (.iconst 1, 1) := by decide +kernel
theorem d_RM_make_307 : decode b_RM_make 307 = .ok (.if_icmp .ne 28, 3) := by decide +kernel
theorem d_RM_make_310 : decode b_RM_make 310 = .ok (.iload 9, 2) := by decide +kernel
theorem d_RM_make_312 : decode b_RM_make 312 = .ok (.iload_n 2, 1) := by decide +kernel
theorem d_RM_make_313 : decode b_RM_make 313 = .ok (.if_icmp .eq 16, 3) := by decide +kernel
theorem d_RM_make_316 : decode b_RM_make 316 = .ok (.aload_n 0, 1) := by decide +kernel
theorem d_RM_make_317 : decode b_RM_make 317 = .ok (.aload_n 0, 1) := by decide +kernel
theorem d_RM_make_318 : decode b_RM_make 318 = .ok (.getfield 61, 3) := by decide +kernel
theorem d_RM_make_321 : decode b_RM_make 321 = .ok (.iload 8, 2) := by decide +kernel
theorem d_RM_make_323 : decode b_RM_make 323 = .ok (.iload 9, 2) := by decide +kernel
theorem d_RM_make_325 : decode b_RM_make 325 = .ok (.iadd, 1) := by decide +kernel
theorem d_RM_make_326 : decode b_RM_make 326 = .ok (.invokevirtual 120, 3) := by decide +kernel
theorem d_RM_make_329 : decode b_RM_make 329 = .ok (.iinc 9 1, 3) := by decide +kernel
theorem d_RM_make_332 : decode b_RM_make 332 = .ok (.goto (-46), 3) := by decide +kernel
theorem d_RM_make_335 : decode b_RM_make 335 = .ok (.iinc 7 1, 3) := by decide +kernel
theorem d_RM_make_338 : decode b_RM_make 338 = .ok (.goto (-117), 3) := by decide +kernel
theorem d_RM_make_341 : decode b_RM_make 341 = .ok (.iconst 1, 1) := by decide +kernel
theorem d_RM_make_342 : decode b_RM_make 342 = .ok (.ireturn, 1) := by decide +kernel
theorem d_RM_step_0 : decode b_RM_step 0 = .ok (.aload_n 0, 1) := by decide +kernel
theorem d_RM_step_1 : decode b_RM_step 1 = .ok (.dup, 1) := by decide +kernel
theorem d_RM_step_2 : decode b_RM_step 2 = .ok (.getfield 88, 3) := by decide +kernel
theorem d_RM_step_5 : decode b_RM_step 5 = .ok (.iconst 1, 1) := by decide +kernel
theorem d_RM_step_6 : decode b_RM_step 6 = .ok (.iadd, 1) := by decide +kernel
theorem d_RM_step_7 : decode b_RM_step 7 = .ok (.putfield 88, 3) := by decide +kernel
theorem d_RM_step_10 : decode b_RM_step 10 = .ok (.aload_n 0, 1) := by decide +kernel
theorem d_RM_step_11 : decode b_RM_step 11 = .ok (.invokevirtual 146, 3) := by decide +kernel
theorem d_RM_step_14 : decode b_RM_step 14 = .ok (.aload_n 0, 1) := by decide +kernel
theorem d_RM_step_15 : decode b_RM_step 15 = .ok (.invokevirtual 153, 3) := by decide +kernel
theorem d_RM_step_18 : decode b_RM_step 18 = .ok (.ifCond .eq 15, 3) := by decide +kernel
theorem d_RM_step_21 : decode b_RM_step 21 = .ok (.aload_n 0, 1) := by decide +kernel
theorem d_RM_step_22 : decode b_RM_step 22 = .ok (.dup, 1) := by decide +kernel
theorem d_RM_step_23 : decode b_RM_step 23 = .ok (.getfield 91, 3) := by decide +kernel
theorem d_RM_step_26 : decode b_RM_step 26 = .ok (.iconst 1, 1) := by decide +kernel
theorem d_RM_step_27 : decode b_RM_step 27 = .ok (.iadd, 1) := by decide +kernel
theorem d_RM_step_28 : decode b_RM_step 28 = .ok (.putfield 91, 3) := by decide +kernel
theorem d_RM_step_31 : decode b_RM_step 31 = .ok (.iconst 1, 1) := by decide +kernel
theorem d_RM_step_32 : decode b_RM_step 32 = .ok (.ireturn, 1) := by decide +kernel
theorem d_RM_step_33 : decode b_RM_step 33 = .ok (.aload_n 0, 1) := by decide +kernel
theorem d_RM_step_34 : decode b_RM_step 34 = .ok (.getfield 82, 3) := by decide +kernel
theorem d_RM_step_37 : decode b_RM_step 37 = .ok (.aload_n 0, 1) := by decide +kernel
theorem d_RM_step_38 : decode b_RM_step 38 = .ok (.getfield 73, 3) := by decide +kernel
theorem d_RM_step_41 : decode b_RM_step 41 = .ok (.if_icmp .ne 10, 3) := by decide +kernel
theorem d_RM_step_44 : decode b_RM_step 44 = .ok (.aload_n 0, 1) := by decide +kernel
theorem d_RM_step_45 : decode b_RM_step 45 = .ok (.iconst (-1), 1) := by decide +kernel
theorem d_RM_step_46 : decode b_RM_step 46 = .ok (.putfield 97, 3) := by decide +kernel
theorem d_RM_step_49 : decode b_RM_step 49 = .ok (.iconst 0, 1) := by decide +kernel
theorem d_RM_step_50 : decode b_RM_step 50 = .ok (.ireturn, 1) := by decide +kernel
theorem d_RM_step_51 : decode b_RM_step 51 = .ok (.aload_n 0, 1) := by decide +kernel
theorem d_RM_step_52 : decode b_RM_step 52 = .ok (.iload_n 1, 1) := by decide +kernel
theorem d_RM_step_53 : decode b_RM_step 53 = .ok (.iload_n 2, 1) := by decide +kernel
theorem d_RM_step_54 : decode b_RM_step 54 = .ok (.invokevirtual 149, 3) := by decide +kernel
theorem d_RM_step_57 : decode b_RM_step 57 = .ok (.aload_n 0, 1) := by decide +kernel
theorem d_RM_step_58 : decode b_RM_step 58 = .ok (.getfield 97, 3) := by decide +kernel
theorem d_RM_step_61 : decode b_RM_step 61 = .ok (.ifCond .ne 7, 3) := by decide +kernel
theorem d_RM_step_64 : decode b_RM_step 64 = .ok (.iconst 1, 1) := by decide +kernel
theorem d_RM_step_65 : decode b_RM_step 65 = .ok (.goto 4, 3) := by decide +kernel
theorem d_RM_step_68 : decode b_RM_step 68 = .ok (.iconst 0, 1) := by decide +kernel
theorem d_RM_step_69 : decode b_RM_step 69 = .ok (.ireturn, 1) := by decide +kernel
theorem d_RM_allSteps_0 : decode b_RM_allSteps 0 = .ok (.aload_n 0, 1) := by decide +kernel
theorem d_RM_allSteps_1 : decode b_RM_allSteps 1 = .ok (.getfield 17, 3) := by decide +kernel
theorem d_RM_allSteps_4 : decode b_RM_allSteps 4 = .ok (.iload_n 3, 1) := by decide +kernel
theorem d_RM_allSteps_5 : decode b_RM_allSteps 5 = .ok (.iaload, 1) := by decide +kernel
theorem d_RM_allSteps_6 : decode b_RM_allSteps 6 = .ok (.iconst (-1), 1) := by decide +kernel
theorem d_RM_allSteps_7 : decode b_RM_allSteps 7 = .ok (.if_icmp .ne 31, 3) := by decide +kernel
theorem d_RM_allSteps_10 : decode b_RM_allSteps 10 = .ok (.aload_n 0, 1) := by decide +kernel
theorem d_RM_allSteps_11 : decode b_RM_allSteps 11 = .ok (.iload_n 1, 1) := by decide +kernel
theorem d_RM_allSteps_12 : decode b_RM_allSteps 12 = .ok (.iload_n 2, 1) := by decide +kernel
theorem d_RM_allSteps_13 : decode b_RM_allSteps 13 = .ok (.iload_n 3, 1) := by decide +kernel
theorem d_RM_allSteps_14 : decode b_RM_allSteps 14 = .ok (.iconst (-1), 1) := by decide +kernel
theorem d_RM_allSteps_15 : decode b_RM_allSteps 15 = .ok (.invokevirtual 156, 3) := by decide +kernel
theorem d_RM_allSteps_18 : decode b_RM_allSteps 18 = .ok (.ifCond .ne 5, 3) := by decide +kernel
theorem d_RM_allSteps_21 : decode b_RM_allSteps 21 = .ok (.iconst 0, 1) := by decide +kernel
theorem d_RM_allSteps_22 : decode b_RM_allSteps 22 = .ok (.ireturn, 1) := by decide +kernel
theorem d_RM_allSteps_23 : decode b_RM_allSteps 23 = .ok (.aload_n 0, 1) := by decide +kernel
theorem d_RM_allSteps_24 : decode b_RM_allSteps 24 = .ok (.iload_n 1, 1) := by decide +kernel
theorem d_RM_allSteps_25 : decode b_RM_allSteps 25 = .ok (.iload_n 3, 1) := by decide +kernel
theorem d_RM_allSteps_26 : decode b_RM_allSteps 26 = .ok (.invokevirtual 160, 3) := by decide +kernel
theorem d_RM_allSteps_29 : decode b_RM_allSteps 29 = .ok (.ifCond .eq 7, 3) := by decide +kernel
theorem d_RM_allSteps_32 : decode b_RM_allSteps 32 = .ok (.iconst 1, 1) := by decide +kernel
theorem d_RM_allSteps_33 : decode b_RM_allSteps 33 = .ok (.goto 4, 3) := by decide +kernel
theorem d_RM_allSteps_36 : decode b_RM_allSteps 36 = .ok (.iconst (-1), 1) := by decide +kernel
theorem d_RM_allSteps_37 : decode b_RM_allSteps 37 = .ok (.ireturn, 1) := by decide +kernel
theorem d_RM_allSteps_38 : decode b_RM_allSteps 38 = .ok (.iconst 0, 1) := by decide +kernel
theorem d_RM_allSteps_39 : decode b_RM_allSteps 39 = .ok (.istore 4, 2) := by decide +kernel
theorem d_RM_allSteps_41 : decode b_RM_allSteps 41 = .ok (.iconst 0, 1) := by decide +kernel
theorem d_RM_allSteps_42 : decode b_RM_allSteps 42 = .ok (.istore 5, 2) := by decide +kernel
theorem d_RM_allSteps_44 : decode b_RM_allSteps 44 = .ok (.iload 5, 2) := by decide +kernel
theorem d_RM_allSteps_46 : decode b_RM_allSteps 46 = .ok (.aload_n 0, 1) := by decide +kernel
theorem d_RM_allSteps_47 : decode b_RM_allSteps 47 = .ok (.getfield 40, 3) := by decide +kernel
theorem d_RM_allSteps_50 : decode b_RM_allSteps 50 = .ok (.bipush 12, 2) := by decide +kernel
theorem d_RM_allSteps_52 : decode b_RM_allSteps 52 = .ok (.iload_n 1, 1) := by decide +kernel
theorem d_RM_allSteps_53 : decode b_RM_allSteps 53 = .ok (.imul, 1) := by decide +kernel
theorem d_RM_allSteps_54 : decode b_RM_allSteps 54 = .ok (.iconst 4, 1) := by decide +kernel
theorem d_RM_allSteps_55 : decode b_RM_allSteps 55 = .ok (.iadd, 1) := by decide +kernel
theorem d_RM_allSteps_56 : decode b_RM_allSteps 56 = .ok (.iaload, 1) := by decide +kernel
theorem d_RM_allSteps_57 : decode b_RM_allSteps 57 = .ok (.if_icmp .ge 112, 3) := by decide +kernel
theorem d_RM_allSteps_60 : decode b_RM_allSteps 60 = .ok (.aload_n 0, 1) := by decide +kernel
theorem d_RM_allSteps_61 : decode b_RM_allSteps 61 = .ok (.getfield 40, 3) := by decide +kernel
theorem d_RM_allSteps_64 : decode b_RM_allSteps 64 = .ok (.bipush 12, 2) := by decide +kernel
theorem d_RM_allSteps_66 : decode b_RM_allSteps 66 = .ok (.iload_n 1, 1) := by decide +kernel
theorem d_RM_allSteps_67 : decode b_RM_allSteps 67 = .ok (.imul, 1) := by decide +kernel
theorem d_RM_allSteps_68 : decode b_RM_allSteps 68 = .ok (.iconst 5, 1) := by decide +kernel
theorem d_RM_allSteps_69 : decode b_RM_allSteps 69 = .ok (.iadd, 1) := by decide +kernel
theorem d_RM_allSteps_70 : decode b_RM_allSteps 70 = .ok (.iload 5, 2) := by decide +kernel
theorem d_RM_allSteps_72 : decode b_RM_allSteps 72 = .ok (.iadd, 1) := by decide +kernel
theorem d_RM_allSteps_73 : decode b_RM_allSteps 73 = .ok (.iaload, 1) := by decide +kernel
theorem d_RM_allSteps_74 : decode b_RM_allSteps 74 = .ok (.istore 6, 2) := by decide +kernel
theorem d_RM_allSteps_76 : decode b_RM_allSteps 76 = .ok (.iload 5, 2) := by decide +kernel
theorem d_RM_allSteps_78 : decode b_RM_allSteps 78 = .ok (.ifCond .le 26, 3) := by decide +kernel
theorem d_RM_allSteps_81 : decode b_RM_allSteps 81 = .ok (.aload_n 0, 1) := by decide +kernel
theorem d_RM_allSteps_82 : decode b_RM_allSteps 82 = .ok (.getfield 40, 3) := by decide +kernel
theorem d_RM_allSteps_85 : decode b_RM_allSteps 85 = .ok (.bipush 12, 2) := by decide +kernel
theorem d_RM_allSteps_87 : decode b_RM_allSteps 87 = .ok (.iload_n 1, 1) := by decide +kernel
theorem d_RM_allSteps_88 : decode b_RM_allSteps 88 = .ok (.imul, 1) := by decide +kernel
theorem d_RM_allSteps_89 : decode b_RM_allSteps 89 = .ok (.iconst 4, 1) := by decide +kernel
theorem d_RM_allSteps_90 : decode b_RM_allSteps 90 = .ok (.iadd, 1) := by decide +kernel
theorem d_RM_allSteps_91 : decode b_RM_allSteps 91 = .ok (.iload 5, 2) := by decide +kernel
theorem d_RM_allSteps_93 : decode b_RM_allSteps 93 = .ok (.iadd, 1) := by decide +kernel
theorem d_RM_allSteps_94 : decode b_RM_allSteps 94 = .ok (.iaload, 1) := by decide +kernel
theorem d_RM_allSteps_95 : decode b_RM_allSteps 95 = .ok (.iload 6, 2) := by decide +kernel
theorem d_RM_allSteps_97 : decode b_RM_allSteps 97 = .ok (.if_icmp .ne 7, 3) := by decide +kernel
theorem d_RM_allSteps_100 : decode b_RM_allSteps 100 = .ok (.iconst 1, 1) := by decide +kernel
theorem d_RM_allSteps_101 : decode b_RM_allSteps 101 = .ok (.goto 4, 3) := by decide +kernel
theorem d_RM_allSteps_104 : decode b_RM_allSteps 104 = .ok (.iconst 0, 1) := by decide +kernel
theorem d_RM_allSteps_105 : decode b_RM_allSteps 105 = .ok (.istore 7, 2) := by decide +kernel
theorem d_RM_allSteps_107 : decode b_RM_allSteps 107 = .ok (.iload 7, 2) := by decide +kernel
theorem d_RM_allSteps_109 : decode b_RM_allSteps 109 = .ok (.ifCond .ne 54, 3) := by decide +kernel
theorem d_RM_allSteps_112 : decode b_RM_allSteps 112 = .ok (.iload 6, 2) := by decide +kernel
theorem d_RM_allSteps_114 : decode b_RM_allSteps 114 = .ok (.bipush 16, 2) := by decide +kernel
theorem d_RM_allSteps_116 : decode b_RM_allSteps 116 = .ok (.idiv, 1) := by decide +kernel
theorem d_RM_allSteps_117 : decode b_RM_allSteps 117 = .ok (.aload_n 0, 1) := by decide +kernel
theorem d_RM_allSteps_118 : decode b_RM_allSteps 118 = .ok (.getfield 17, 3) := by decide +kernel
theorem d_RM_allSteps_121 : decode b_RM_allSteps 121 = .ok (.iload_n 3, 1) := by decide +kernel
theorem d_RM_allSteps_122 : decode b_RM_allSteps 122 = .ok (.iaload, 1) := by decide +kernel
theorem d_RM_allSteps_123 : decode b_RM_allSteps 123 = .ok (.if_icmp .ne 40, 3) := by decide +kernel
theorem d_RM_allSteps_126 : decode b_RM_allSteps 126 = .ok (.iload 6, 2) := by decide +kernel
theorem d_RM_allSteps_128 : decode b_RM_allSteps 128 = .ok (.iconst 4, 1) := by decide +kernel
theorem d_RM_allSteps_129 : decode b_RM_allSteps 129 = .ok (.irem, 1) := by decide +kernel
theorem d_RM_allSteps_130 : decode b_RM_allSteps 130 = .ok (.iload_n 2, 1) := by decide +kernel
theorem d_RM_allSteps_131 : decode b_RM_allSteps 131 = .ok (.if_icmp .ne 32, 3) := by decide +kernel
theorem d_RM_allSteps_134 : decode b_RM_allSteps 134 = .ok (.aload_n 0, 1) := by decide +kernel
theorem d_RM_allSteps_135 : decode b_RM_allSteps 135 = .ok (.iload_n 1, 1) := by decide +kernel
theorem d_RM_allSteps_136 : decode b_RM_allSteps 136 = .ok (.iload_n 2, 1) := by decide +kernel
theorem d_RM_allSteps_137 : decode b_RM_allSteps 137 = .ok (.iload_n 3, 1) := by decide +kernel
theorem d_RM_allSteps_138 : decode b_RM_allSteps 138 = .ok (.iload 6, 2) := by decide +kernel
theorem d_RM_allSteps_140 : decode b_RM_allSteps 140 = .ok (.invokevirtual 156, 3) := by decide +kernel
theorem d_RM_allSteps_143 : decode b_RM_allSteps 143 = .ok (.ifCond .ne 6, 3) := by decide +kernel
theorem d_RM_allSteps_146 : decode b_RM_allSteps 146 = .ok (.goto 17, 3) := by decide +kernel
theorem d_RM_allSteps_149 : decode b_RM_allSteps 149 = .ok (.aload_n 0, 1) := by decide +kernel
theorem d_RM_allSteps_150 : decode b_RM_allSteps 150 = .ok (.iload_n 1, 1) := by decide +kernel
theorem d_RM_allSteps_151 : decode b_RM_allSteps 151 = .ok (.iload_n 3, 1) := by decide +kernel
theorem d_RM_allSteps_152 : decode b_RM_allSteps 152 = .ok (.invokevirtual 160, 3) := by decide +kernel
theorem d_RM_allSteps_155 : decode b_RM_allSteps 155 = .ok (.ifCond .ne 5, 3) := by decide +kernel
theorem d_RM_allSteps_158 : decode b_RM_allSteps 158 = .ok (.iconst (-1), 1) := by decide +kernel
theorem d_RM_allSteps_159 : decode b_RM_allSteps 159 = .ok (.ireturn, 1) := by decide +kernel
theorem d_RM_allSteps_160 : decode b_RM_allSteps 160 = .ok (.iinc 4 1, 3) := by decide +kernel
theorem d_RM_allSteps_163 : decode b_RM_allSteps 163 = .ok (.iinc 5 1, 3) := by decide +kernel
theorem d_RM_allSteps_166 : decode b_RM_allSteps 166 = .ok (.goto (-122), 3) := by decide +kernel
theorem d_RM_allSteps_169 : decode b_RM_allSteps 169 = .ok (.iload 4, 2) := by decide +kernel
theorem d_RM_allSteps_171 : decode b_RM_allSteps 171 = .ok (.ireturn, 1) := by decide +kernel
theorem d_RM_goThrough_0 : decode b_RM_goThrough 0 = .ok (.aload_n 0, 1) := by decide +kernel
theorem d_RM_goThrough_1 : decode b_RM_goThrough 1 = .ok (.getfield 85, 3) := by decide +kernel
theorem d_RM_goThrough_4 : decode b_RM_goThrough 4 = .ok (.istore_n 1, 1) := by decide +kernel
theorem d_RM_goThrough_5 : decode b_RM_goThrough 5 = .ok (.iconst 0, 1) := by decide +kernel
theorem d_RM_goThrough_6 : decode b_RM_goThrough 6 = .ok (.istore_n 2, 1) := by decide +kernel
theorem d_RM_goThrough_7 : decode b_RM_goThrough 7 = .ok (.iconst 0, 1) := by decide +kernel
theorem d_RM_goThrough_8 : decode b_RM_goThrough 8 = .ok (.istore_n 3, 1) := by decide +kernel
theorem d_RM_goThrough_9 : decode b_RM_goThrough 9 = .ok (.iload_n 3, 1) := by decide +kernel
theorem d_RM_goThrough_10 : decode b_RM_goThrough 10 = .ok (.aload_n 0, 1) := by decide +kernel
theorem d_RM_goThrough_11 : decode b_RM_goThrough 11 = .ok (.getfield 70, 3) := by decide +kernel
theorem d_RM_goThrough_14 : decode b_RM_goThrough 14 = .ok (.if_icmp .ge 72, 3) := by decide +kernel
theorem d_RM_goThrough_17 : decode b_RM_goThrough 17 = .ok (.iconst 0, 1) := by decide +kernel
theorem d_RM_goThrough_18 : decode b_RM_goThrough 18 = .ok (.istore 4, 2) := by decide +kernel
theorem d_RM_goThrough_20 : decode b_RM_goThrough 20 = .ok (.iload 4, 2) := by decide +kernel
theorem d_RM_goThrough_22 : decode b_RM_goThrough 22 = .ok (.aload_n 0, 1) := by decide +kernel
theorem d_RM_goThrough_23 : decode b_RM_goThrough 23 = .ok (.getfield 117, 3) := by decide +kernel
theorem d_RM_goThrough_26 : decode b_RM_goThrough 26 = .ok (.if_icmp .ge 54, 3) := by decide +kernel
theorem d_RM_goThrough_29 : decode b_RM_goThrough 29 = .ok (.aload_n 0, 1) := by decide +kernel
theorem d_RM_goThrough_30 : decode b_RM_goThrough 30 = .ok (.getfield 40, 3) := by decide +kernel
theorem d_RM_goThrough_33 : decode b_RM_goThrough 33 = .ok (.bipush 12, 2) := by decide +kernel
theorem d_RM_goThrough_35 : decode b_RM_goThrough 35 = .ok (.iload_n 1, 1) := by decide +kernel
theorem d_RM_goThrough_36 : decode b_RM_goThrough 36 = .ok (.imul, 1) := by decide +kernel
theorem d_RM_goThrough_37 : decode b_RM_goThrough 37 = .ok (.iload_n 3, 1) := by decide +kernel
theorem d_RM_goThrough_38 : decode b_RM_goThrough 38 = .ok (.iadd, 1) := by decide +kernel
theorem d_RM_goThrough_39 : decode b_RM_goThrough 39 = .ok (.iaload, 1) := by decide +kernel
theorem d_RM_goThrough_40 : decode b_RM_goThrough 40 = .ok (.aload_n 0, 1) := by decide +kernel
theorem d_RM_goThrough_41 : decode b_RM_goThrough 41 = .ok (.getfield 13, 3) := by decide +kernel
theorem d_RM_goThrough_44 : decode b_RM_goThrough 44 = .ok (.iload 4, 2) := by decide +kernel
theorem d_RM_goThrough_46 : decode b_RM_goThrough 46 = .ok (.iaload, 1) := by decide +kernel
theorem d_RM_goThrough_47 : decode b_RM_goThrough 47 = .ok (.if_icmp .eq 6, 3) := by decide +kernel
theorem d_RM_goThrough_50 : decode b_RM_goThrough 50 = .ok (.goto 24, 3) := by decide +kernel
theorem d_RM_goThrough_53 : decode b_RM_goThrough 53 = .ok (.aload_n 0, 1) := by decide +kernel
theorem d_RM_goThrough_54 : decode b_RM_goThrough 54 = .ok (.iload_n 1, 1) := by decide +kernel
theorem d_RM_goThrough_55 : decode b_RM_goThrough 55 = .ok (.iload_n 3, 1) := by decide +kernel
theorem d_RM_goThrough_56 : decode b_RM_goThrough 56 = .ok (.iload 4, 2) := by decide +kernel
theorem d_RM_goThrough_58 : decode b_RM_goThrough 58 = .ok (.invokevirtual 163, 3) := by decide +kernel
theorem d_RM_goThrough_61 : decode b_RM_goThrough 61 = .ok (.istore 5, 2) := by decide +kernel
theorem d_RM_goThrough_63 : decode b_RM_goThrough 63 = .ok (.iload 5, 2) := by decide +kernel
theorem d_RM_goThrough_65 : decode b_RM_goThrough 65 = .ok (.ifCond .ge 4, 3) := by decide +kernel
theorem d_RM_goThrough_68 : decode b_RM_goThrough 68 = .ok (.return_, 1) := by decide +kernel
theorem d_RM_goThrough_69 : decode b_RM_goThrough 69 = .ok (.iload_n 2, 1) := by decide +kernel
theorem d_RM_goThrough_70 : decode b_RM_goThrough 70 = .ok (.iload 5, 2) := by decide +kernel
theorem d_RM_goThrough_72 : decode b_RM_goThrough 72 = .ok (.iadd, 1) := by decide +kernel
theorem d_RM_goThrough_73 : decode b_RM_goThrough 73 = .ok (.istore_n 2, 1) := by decide +kernel
theorem d_RM_goThrough_74 : decode b_RM_goThrough 74 = .ok (.iinc 4 1, 3) := by decide +kernel
theorem d_RM_goThrough_77 : decode b_RM_goThrough 77 = .ok (.goto (-57), 3) := by decide +kernel
theorem d_RM_goThrough_80 : decode b_RM_goThrough 80 = .ok (.iinc 3 1, 3) := by decide +kernel
theorem d_RM_goThrough_83 : decode b_RM_goThrough 83 = .ok (.goto (-74), 3) := by decide +kernel
theorem d_RM_goThrough_86 : decode b_RM_goThrough 86 = .ok (.aload_n 0, 1) := by decide +kernel
theorem d_RM_goThrough_87 : decode b_RM_goThrough 87 = .ok (.getfield 55, 3) := by decide +kernel
theorem d_RM_goThrough_90 : decode b_RM_goThrough 90 = .ok (.iload_n 1, 1) := by decide +kernel
theorem d_RM_goThrough_91 : decode b_RM_goThrough 91 = .ok (.iload_n 2, 1) := by decide +kernel
theorem d_RM_goThrough_92 : decode b_RM_goThrough 92 = .ok (.iastore, 1) := by decide +kernel
theorem d_RM_goThrough_93 : decode b_RM_goThrough 93 = .ok (.aload_n 0, 1) := by decide +kernel
theorem d_RM_goThrough_94 : decode b_RM_goThrough 94 = .ok (.dup, 1) := by decide +kernel
theorem d_RM_goThrough_95 : decode b_RM_goThrough 95 = .ok (.getfield 94, 3) := by decide +kernel
theorem d_RM_goThrough_98 : decode b_RM_goThrough 98 = .ok (.iload_n 2, 1) := by decide +kernel
theorem d_RM_goThrough_99 : decode b_RM_goThrough 99 = .ok (.ifCond .ne 7, 3) := by decide +kernel
theorem d_RM_goThrough_102 : decode b_RM_goThrough 102 = .ok (.iconst 1, 1) := by decide +kernel
theorem d_RM_goThrough_103 : decode b_RM_goThrough 103 = .ok (.goto 4, 3) := by decide +kernel
theorem d_RM_goThrough_106 : decode b_RM_goThrough 106 = .ok (.iconst 0, 1) := by decide +kernel
theorem d_RM_goThrough_107 : decode b_RM_goThrough 107 = .ok (.iadd, 1) := by decide +kernel
theorem d_RM_goThrough_108 : decode b_RM_goThrough 108 = .ok (.putfield 94, 3) := by decide +kernel
theorem d_RM_goThrough_111 : decode b_RM_goThrough 111 = .ok (.aload_n 0, 1) := by decide +kernel
theorem d_RM_goThrough_112 : decode b_RM_goThrough 112 = .ok (.dup, 1) := by decide +kernel
theorem d_RM_goThrough_113 : decode b_RM_goThrough 113 = .ok (.getfield 85, 3) := by decide +kernel
theorem d_RM_goThrough_116 : decode b_RM_goThrough 116 = .ok (.iconst 1, 1) := by decide +kernel
theorem d_RM_goThrough_117 : decode b_RM_goThrough 117 = .ok (.iadd, 1) := by decide +kernel
theorem d_RM_goThrough_118 : decode b_RM_goThrough 118 = .ok (.putfield 85, 3) := by decide +kernel
theorem d_RM_goThrough_121 : decode b_RM_goThrough 121 = .ok (.return_, 1) := by decide +kernel
theorem d_RM_run_0 : decode b_RM_run 0 = .ok (.aload_n 0, 1) := by decide +kernel
theorem d_RM_run_1 : decode b_RM_run 1 = .ok (.iconst 0, 1) := by decide +kernel
theorem d_RM_run_2 : decode b_RM_run 2 = .ok (.putfield 79, 3) := by decide +kernel
theorem d_RM_run_5 : decode b_RM_run 5 = .ok (.aload_n 0, 1) := by decide +kernel
theorem d_RM_run_6 : decode b_RM_run 6 = .ok (.invokevirtual 167, 3) := by decide +kernel
theorem d_RM_run_9 : decode b_RM_run 9 = .ok (.aload_n 0, 1) := by decide +kernel
theorem d_RM_run_10 : decode b_RM_run 10 = .ok (.getfield 97, 3) := by decide +kernel
theorem d_RM_run_13 : decode b_RM_run 13 = .ok (.ifCond .ne 21, 3) := by decide +kernel
theorem d_RM_run_16 : decode b_RM_run 16 = .ok (.aload_n 0, 1) := by decide +kernel
theorem d_RM_run_17 : decode b_RM_run 17 = .ok (.getfield 85, 3) := by decide +kernel
theorem d_RM_run_20 : decode b_RM_run 20 = .ok (.aload_n 0, 1) := by decide +kernel
theorem d_RM_run_21 : decode b_RM_run 21 = .ok (.getfield 82, 3) := by decide +kernel
theorem d_RM_run_24 : decode b_RM_run 24 = .ok (.if_icmp .ge 10, 3) := by decide +kernel
theorem d_RM_run_27 : decode b_RM_run 27 = .ok (.aload_n 0, 1) := by decide +kernel
theorem d_RM_run_28 : decode b_RM_run 28 = .ok (.invokevirtual 170, 3) := by decide +kernel
theorem d_RM_run_31 : decode b_RM_run 31 = .ok (.goto (-22), 3) := by decide +kernel
theorem d_RM_run_34 : decode b_RM_run 34 = .ok (.aload_n 0, 1) := by decide +kernel
theorem d_RM_run_35 : decode b_RM_run 35 = .ok (.getfield 97, 3) := by decide +kernel
theorem d_RM_run_38 : decode b_RM_run 38 = .ok (.ifCond .ge 10, 3) := by decide +kernel
theorem d_RM_run_41 : decode b_RM_run 41 = .ok (.aload_n 0, 1) := by decide +kernel
theorem d_RM_run_42 : decode b_RM_run 42 = .ok (.getfield 97, 3) := by decide +kernel
theorem d_RM_run_45 : decode b_RM_run 45 = .ok (.goto 7, 3) := by decide +kernel
theorem d_RM_run_48 : decode b_RM_run 48 = .ok (.aload_n 0, 1) := by decide +kernel
theorem d_RM_run_49 : decode b_RM_run 49 = .ok (.getfield 82, 3) := by decide +kernel
theorem d_RM_run_52 : decode b_RM_run 52 = .ok (.ireturn, 1) := by decide +kernel
theorem d_RM_go_0 : decode b_RM_go 0 = .ok (.aload_n 0, 1) := by decide +kernel
theorem d_RM_go_1 : decode b_RM_go 1 = .ok (.iload_n 1, 1) := by decide +kernel
theorem d_RM_go_2 : decode b_RM_go 2 = .ok (.iconst 1, 1) := by decide +kernel
theorem d_RM_go_3 : decode b_RM_go 3 = .ok (.if_icmp .lt 10, 3) := by decide +kernel
theorem d_RM_go_6 : decode b_RM_go 6 = .ok (.iload_n 1, 1) := by decide +kernel
theorem d_RM_go_7 : decode b_RM_go 7 = .ok (.sipush 1000, 3) := by decide +kernel
theorem d_RM_go_10 : decode b_RM_go 10 = .ok (.if_icmp .le 7, 3) := by decide +kernel
theorem d_RM_go_13 : decode b_RM_go 13 = .ok (.iconst 1, 1) := by decide +kernel
theorem d_RM_go_14 : decode b_RM_go 14 = .ok (.goto 4, 3) := by decide +kernel
theorem d_RM_go_17 : decode b_RM_go 17 = .ok (.iconst 0, 1) := by decide +kernel
theorem d_RM_go_18 : decode b_RM_go 18 = .ok (.iconst 0, 1) := by decide +kernel
theorem d_RM_go_19 : decode b_RM_go 19 = .ok (.invokevirtual 103, 3) := by decide +kernel
theorem d_RM_go_22 : decode b_RM_go 22 = .ok (.ifCond .eq 5, 3) := by decide +kernel
theorem d_RM_go_25 : decode b_RM_go 25 = .ok (.iconst 0, 1) := by decide +kernel
theorem d_RM_go_26 : decode b_RM_go 26 = .ok (.ireturn, 1) := by decide +kernel
theorem d_RM_go_27 : decode b_RM_go 27 = .ok (.aload_n 0, 1) := by decide +kernel
theorem d_RM_go_28 : decode b_RM_go 28 = .ok (.invokevirtual 167, 3) := by decide +kernel
theorem d_RM_go_31 : decode b_RM_go 31 = .ok (.iconst 0, 1) := by decide +kernel
theorem d_RM_go_32 : decode b_RM_go 32 = .ok (.istore_n 2, 1) := by decide +kernel
theorem d_RM_go_33 : decode b_RM_go 33 = .ok (.iload_n 2, 1) := by decide +kernel
theorem d_RM_go_34 : decode b_RM_go 34 = .ok (.iload_n 1, 1) := by decide +kernel
theorem d_RM_go_35 : decode b_RM_go 35 = .ok (.if_icmp .ge 31, 3) := by decide +kernel
theorem d_RM_go_38 : decode b_RM_go 38 = .ok (.aload_n 0, 1) := by decide +kernel
theorem d_RM_go_39 : decode b_RM_go 39 = .ok (.getfield 97, 3) := by decide +kernel
theorem d_RM_go_42 : decode b_RM_go 42 = .ok (.ifCond .ne 24, 3) := by decide +kernel
theorem d_RM_go_45 : decode b_RM_go 45 = .ok (.aload_n 0, 1) := by decide +kernel
theorem d_RM_go_46 : decode b_RM_go 46 = .ok (.getfield 85, 3) := by decide +kernel
theorem d_RM_go_49 : decode b_RM_go 49 = .ok (.aload_n 0, 1) := by decide +kernel
theorem d_RM_go_50 : decode b_RM_go 50 = .ok (.getfield 82, 3) := by decide +kernel
theorem d_RM_go_53 : decode b_RM_go 53 = .ok (.if_icmp .ge 13, 3) := by decide +kernel
theorem d_RM_go_56 : decode b_RM_go 56 = .ok (.aload_n 0, 1) := by decide +kernel
theorem d_RM_go_57 : decode b_RM_go 57 = .ok (.invokevirtual 170, 3) := by decide +kernel
theorem d_RM_go_60 : decode b_RM_go 60 = .ok (.iinc 2 1, 3) := by decide +kernel
theorem d_RM_go_63 : decode b_RM_go 63 = .ok (.goto (-30), 3) := by decide +kernel
theorem d_RM_go_66 : decode b_RM_go 66 = .ok (.aload_n 0, 1) := by decide +kernel
theorem d_RM_go_67 : decode b_RM_go 67 = .ok (.getfield 82, 3) := by decide +kernel
theorem d_RM_go_70 : decode b_RM_go 70 = .ok (.ireturn, 1) := by decide +kernel
theorem d_RM_node_0 : decode b_RM_node 0 = .ok (.aload_n 0, 1) := by decide +kernel
theorem d_RM_node_1 : decode b_RM_node 1 = .ok (.iload_n 1, 1) := by decide +kernel
theorem d_RM_node_2 : decode b_RM_node 2 = .ok (.aload_n 0, 1) := by decide +kernel
theorem d_RM_node_3 : decode b_RM_node 3 = .ok (.getfield 82, 3) := by decide +kernel
theorem d_RM_node_6 : decode b_RM_node 6 = .ok (.invokestatic 113, 3) := by decide +kernel
theorem d_RM_node_9 : decode b_RM_node 9 = .ok (.ifCond .eq 14, 3) := by decide +kernel
theorem d_RM_node_12 : decode b_RM_node 12 = .ok (.iload_n 2, 1) := by decide +kernel
theorem d_RM_node_13 : decode b_RM_node 13 = .ok (.aload_n 0, 1) := by decide +kernel
theorem d_RM_node_14 : decode b_RM_node 14 = .ok (.getfield 70, 3) := by decide +kernel
theorem d_RM_node_17 : decode b_RM_node 17 = .ok (.invokestatic 113, 3) := by decide +kernel
theorem d_RM_node_20 : decode b_RM_node 20 = .ok (.ifCond .ne 7, 3) := by decide +kernel
theorem d_RM_node_23 : decode b_RM_node 23 = .ok (.iconst 1, 1) := by decide +kernel
theorem d_RM_node_24 : decode b_RM_node 24 = .ok (.goto 4, 3) := by decide +kernel
theorem d_RM_node_27 : decode b_RM_node 27 = .ok (.iconst 0, 1) := by decide +kernel
theorem d_RM_node_28 : decode b_RM_node 28 = .ok (.iconst 0, 1) := by decide +kernel
theorem d_RM_node_29 : decode b_RM_node 29 = .ok (.invokevirtual 103, 3) := by decide +kernel
theorem d_RM_node_32 : decode b_RM_node 32 = .ok (.ifCond .eq 5, 3) := by decide +kernel
theorem d_RM_node_35 : decode b_RM_node 35 = .ok (.iconst 0, 1) := by decide +kernel
theorem d_RM_node_36 : decode b_RM_node 36 = .ok (.ireturn, 1) := by decide +kernel
theorem d_RM_node_37 : decode b_RM_node 37 = .ok (.aload_n 0, 1) := by decide +kernel
theorem d_RM_node_38 : decode b_RM_node 38 = .ok (.getfield 40, 3) := by decide +kernel
theorem d_RM_node_41 : decode b_RM_node 41 = .ok (.bipush 12, 2) := by decide +kernel
theorem d_RM_node_43 : decode b_RM_node 43 = .ok (.iload_n 1, 1) := by decide +kernel
theorem d_RM_node_44 : decode b_RM_node 44 = .ok (.imul, 1) := by decide +kernel
theorem d_RM_node_45 : decode b_RM_node 45 = .ok (.iload_n 2, 1) := by decide +kernel
theorem d_RM_node_46 : decode b_RM_node 46 = .ok (.iadd, 1) := by decide +kernel
theorem d_RM_node_47 : decode b_RM_node 47 = .ok (.iaload, 1) := by decide +kernel
theorem d_RM_node_48 : decode b_RM_node 48 = .ok (.ireturn, 1) := by decide +kernel
theorem d_RM_code_0 : decode b_RM_code 0 = .ok (.aload_n 0, 1) := by decide +kernel
theorem d_RM_code_1 : decode b_RM_code 1 = .ok (.iload_n 1, 1) := by decide +kernel
theorem d_RM_code_2 : decode b_RM_code 2 = .ok (.aload_n 0, 1) := by decide +kernel
theorem d_RM_code_3 : decode b_RM_code 3 = .ok (.getfield 82, 3) := by decide +kernel
theorem d_RM_code_6 : decode b_RM_code 6 = .ok (.invokestatic 113, 3) := by decide +kernel
theorem d_RM_code_9 : decode b_RM_code 9 = .ok (.ifCond .eq 36, 3) := by decide +kernel
theorem d_RM_code_12 : decode b_RM_code 12 = .ok (.iload_n 2, 1) := by decide +kernel
theorem d_RM_code_13 : decode b_RM_code 13 = .ok (.iload_n 1, 1) := by decide +kernel
theorem d_RM_code_14 : decode b_RM_code 14 = .ok (.aload_n 0, 1) := by decide +kernel
theorem d_RM_code_15 : decode b_RM_code 15 = .ok (.getfield 82, 3) := by decide +kernel
theorem d_RM_code_18 : decode b_RM_code 18 = .ok (.invokestatic 113, 3) := by decide +kernel
theorem d_RM_code_21 : decode b_RM_code 21 = .ok (.ifCond .eq 17, 3) := by decide +kernel
theorem d_RM_code_24 : decode b_RM_code 24 = .ok (.aload_n 0, 1) := by decide +kernel
theorem d_RM_code_25 : decode b_RM_code 25 = .ok (.getfield 40, 3) := by decide +kernel
theorem d_RM_code_28 : decode b_RM_code 28 = .ok (.bipush 12, 2) := by decide +kernel
theorem d_RM_code_30 : decode b_RM_code 30 = .ok (.iload_n 1, 1) := by decide +kernel
theorem d_RM_code_31 : decode b_RM_code 31 = .ok (.imul, 1) := by decide +kernel
theorem d_RM_code_32 : decode b_RM_code 32 = .ok (.iconst 4, 1) := by decide +kernel
theorem d_RM_code_33 : decode b_RM_code 33 = .ok (.iadd, 1) := by decide +kernel
theorem d_RM_code_34 : decode b_RM_code 34 = .ok (.iaload, 1) := by decide +kernel
theorem d_RM_code_35 : decode b_RM_code 35 = .ok (.goto 4, 3) := by decide +kernel
theorem d_RM_code_38 : decode b_RM_code 38 = .ok (.iconst 0, 1) := by decide +kernel
theorem d_RM_code_39 : decode b_RM_code 39 = .ok (.invokestatic 113, 3) := by decide +kernel
theorem d_RM_code_42 : decode b_RM_code 42 = .ok (.ifCond .ne 7, 3) := by decide +kernel
theorem d_RM_code_45 : decode b_RM_code 45 = .ok (.iconst 1, 1) := by decide +kernel
theorem d_RM_code_46 : decode b_RM_code 46 = .ok (.goto 4, 3) := by decide +kernel
theorem d_RM_code_49 : decode b_RM_code 49 = .ok (.iconst 0, 1) := by decide +kernel
theorem d_RM_code_50 : decode b_RM_code 50 = .ok (.iconst 0, 1) := by decide +kernel
theorem d_RM_code_51 : decode b_RM_code 51 = .ok (.invokevirtual 103, 3) := by decide +kernel
theorem d_RM_code_54 : decode b_RM_code 54 = .ok (.ifCond .eq 5, 3) := by decide +kernel
theorem d_RM_code_57 : decode b_RM_code 57 = .ok (.iconst 0, 1) := by decide +kernel
theorem d_RM_code_58 : decode b_RM_code 58 = .ok (.ireturn, 1) := by decide +kernel
theorem d_RM_code_59 : decode b_RM_code 59 = .ok (.aload_n 0, 1) := by decide +kernel
theorem d_RM_code_60 : decode b_RM_code 60 = .ok (.getfield 40, 3) := by decide +kernel
theorem d_RM_code_63 : decode b_RM_code 63 = .ok (.bipush 12, 2) := by decide +kernel
theorem d_RM_code_65 : decode b_RM_code 65 = .ok (.iload_n 1, 1) := by decide +kernel
theorem d_RM_code_66 : decode b_RM_code 66 = .ok (.imul, 1) := by decide +kernel
theorem d_RM_code_67 : decode b_RM_code 67 = .ok (.iconst 5, 1) := by decide +kernel
theorem d_RM_code_68 : decode b_RM_code 68 = .ok (.iadd, 1) := by decide +kernel
theorem d_RM_code_69 : decode b_RM_code 69 = .ok (.iload_n 2, 1) := by decide +kernel
theorem d_RM_code_70 : decode b_RM_code 70 = .ok (.iadd, 1) := by decide +kernel
theorem d_RM_code_71 : decode b_RM_code 71 = .ok (.iaload, 1) := by decide +kernel
theorem d_RM_code_72 : decode b_RM_code 72 = .ok (.ireturn, 1) := by decide +kernel
theorem d_RM_whole_0 : decode b_RM_whole 0 = .ok (.aload_n 0, 1) := by decide +kernel
theorem d_RM_whole_1 : decode b_RM_whole 1 = .ok (.iload_n 1, 1) := by decide +kernel
theorem d_RM_whole_2 : decode b_RM_whole 2 = .ok (.aload_n 0, 1) := by decide +kernel
theorem d_RM_whole_3 : decode b_RM_whole 3 = .ok (.getfield 82, 3) := by decide +kernel
theorem d_RM_whole_6 : decode b_RM_whole 6 = .ok (.invokestatic 113, 3) := by decide +kernel
theorem d_RM_whole_9 : decode b_RM_whole 9 = .ok (.ifCond .eq 12, 3) := by decide +kernel
theorem d_RM_whole_12 : decode b_RM_whole 12 = .ok (.iload_n 2, 1) := by decide +kernel
theorem d_RM_whole_13 : decode b_RM_whole 13 = .ok (.bipush 6, 2) := by decide +kernel
theorem d_RM_whole_15 : decode b_RM_whole 15 = .ok (.invokestatic 113, 3) := by decide +kernel
theorem d_RM_whole_18 : decode b_RM_whole 18 = .ok (.ifCond .ne 7, 3) := by decide +kernel
theorem d_RM_whole_21 : decode b_RM_whole 21 = .ok (.iconst 1, 1) := by decide +kernel
theorem d_RM_whole_22 : decode b_RM_whole 22 = .ok (.goto 4, 3) := by decide +kernel
theorem d_RM_whole_25 : decode b_RM_whole 25 = .ok (.iconst 0, 1) := by decide +kernel
theorem d_RM_whole_26 : decode b_RM_whole 26 = .ok (.iconst 0, 1) := by decide +kernel
theorem d_RM_whole_27 : decode b_RM_whole 27 = .ok (.invokevirtual 103, 3) := by decide +kernel
theorem d_RM_whole_30 : decode b_RM_whole 30 = .ok (.ifCond .eq 5, 3) := by decide +kernel
theorem d_RM_whole_33 : decode b_RM_whole 33 = .ok (.iconst 0, 1) := by decide +kernel
theorem d_RM_whole_34 : decode b_RM_whole 34 = .ok (.ireturn, 1) := by decide +kernel
theorem d_RM_whole_35 : decode b_RM_whole 35 = .ok (.iload_n 2, 1) := by decide +kernel
theorem d_RM_whole_36 : decode b_RM_whole 36 = .ok (.tableswitch 76 0 4 #[36, 48, 55, 62, 69], 36) := by decide +kernel
theorem d_RM_whole_72 : decode b_RM_whole 72 = .ok (.aload_n 0, 1) := by decide +kernel
theorem d_RM_whole_73 : decode b_RM_whole 73 = .ok (.getfield 40, 3) := by decide +kernel
theorem d_RM_whole_76 : decode b_RM_whole 76 = .ok (.bipush 12, 2) := by decide +kernel
theorem d_RM_whole_78 : decode b_RM_whole 78 = .ok (.iload_n 1, 1) := by decide +kernel
theorem d_RM_whole_79 : decode b_RM_whole 79 = .ok (.imul, 1) := by decide +kernel
theorem d_RM_whole_80 : decode b_RM_whole 80 = .ok (.iconst 4, 1) := by decide +kernel
theorem d_RM_whole_81 : decode b_RM_whole 81 = .ok (.iadd, 1) := by decide +kernel
theorem d_RM_whole_82 : decode b_RM_whole 82 = .ok (.iaload, 1) := by decide +kernel
theorem d_RM_whole_83 : decode b_RM_whole 83 = .ok (.ireturn, 1) := by decide +kernel
theorem d_RM_whole_84 : decode b_RM_whole 84 = .ok (.aload_n 0, 1) := by decide +kernel
theorem d_RM_whole_85 : decode b_RM_whole 85 = .ok (.getfield 46, 3) := by decide +kernel
theorem d_RM_whole_88 : decode b_RM_whole 88 = .ok (.iload_n 1, 1) := by decide +kernel
theorem d_RM_whole_89 : decode b_RM_whole 89 = .ok (.iaload, 1) := by decide +kernel
theorem d_RM_whole_90 : decode b_RM_whole 90 = .ok (.ireturn, 1) := by decide +kernel
theorem d_RM_whole_91 : decode b_RM_whole 91 = .ok (.aload_n 0, 1) := by decide +kernel
theorem d_RM_whole_92 : decode b_RM_whole 92 = .ok (.getfield 49, 3) := by decide +kernel
theorem d_RM_whole_95 : decode b_RM_whole 95 = .ok (.iload_n 1, 1) := by decide +kernel
theorem d_RM_whole_96 : decode b_RM_whole 96 = .ok (.iaload, 1) := by decide +kernel
theorem d_RM_whole_97 : decode b_RM_whole 97 = .ok (.ireturn, 1) := by decide +kernel
theorem d_RM_whole_98 : decode b_RM_whole 98 = .ok (.aload_n 0, 1) := by decide +kernel
theorem d_RM_whole_99 : decode b_RM_whole 99 = .ok (.getfield 52, 3) := by decide +kernel
theorem d_RM_whole_102 : decode b_RM_whole 102 = .ok (.iload_n 1, 1) := by decide +kernel
theorem d_RM_whole_103 : decode b_RM_whole 103 = .ok (.iaload, 1) := by decide +kernel
theorem d_RM_whole_104 : decode b_RM_whole 104 = .ok (.ireturn, 1) := by decide +kernel
theorem d_RM_whole_105 : decode b_RM_whole 105 = .ok (.aload_n 0, 1) := by decide +kernel
theorem d_RM_whole_106 : decode b_RM_whole 106 = .ok (.getfield 55, 3) := by decide +kernel
theorem d_RM_whole_109 : decode b_RM_whole 109 = .ok (.iload_n 1, 1) := by decide +kernel
theorem d_RM_whole_110 : decode b_RM_whole 110 = .ok (.iaload, 1) := by decide +kernel
theorem d_RM_whole_111 : decode b_RM_whole 111 = .ok (.ireturn, 1) := by decide +kernel
theorem d_RM_whole_112 : decode b_RM_whole 112 = .ok (.aload_n 0, 1) := by decide +kernel
theorem d_RM_whole_113 : decode b_RM_whole 113 = .ok (.getfield 58, 3) := by decide +kernel
theorem d_RM_whole_116 : decode b_RM_whole 116 = .ok (.iload_n 1, 1) := by decide +kernel
theorem d_RM_whole_117 : decode b_RM_whole 117 = .ok (.iaload, 1) := by decide +kernel
theorem d_RM_whole_118 : decode b_RM_whole 118 = .ok (.ireturn, 1) := by decide +kernel
theorem d_RM_way_0 : decode b_RM_way 0 = .ok (.aload_n 0, 1) := by decide +kernel
theorem d_RM_way_1 : decode b_RM_way 1 = .ok (.iconst 0, 1) := by decide +kernel
theorem d_RM_way_2 : decode b_RM_way 2 = .ok (.putfield 79, 3) := by decide +kernel
theorem d_RM_way_5 : decode b_RM_way 5 = .ok (.aload_n 0, 1) := by decide +kernel
theorem d_RM_way_6 : decode b_RM_way 6 = .ok (.getfield 97, 3) := by decide +kernel
theorem d_RM_way_9 : decode b_RM_way 9 = .ok (.bipush (-2), 2) := by decide +kernel
theorem d_RM_way_11 : decode b_RM_way 11 = .ok (.if_icmp .ne 15, 3) := by decide +kernel
theorem d_RM_way_14 : decode b_RM_way 14 = .ok (.aload_n 0, 1) := by decide +kernel
theorem d_RM_way_15 : decode b_RM_way 15 = .ok (.getfield 46, 3) := by decide +kernel
theorem d_RM_way_18 : decode b_RM_way 18 = .ok (.aload_n 0, 1) := by decide +kernel
theorem d_RM_way_19 : decode b_RM_way 19 = .ok (.getfield 100, 3) := by decide +kernel
theorem d_RM_way_22 : decode b_RM_way 22 = .ok (.iaload, 1) := by decide +kernel
theorem d_RM_way_23 : decode b_RM_way 23 = .ok (.goto 4, 3) := by decide +kernel
theorem d_RM_way_26 : decode b_RM_way 26 = .ok (.iconst (-1), 1) := by decide +kernel
theorem d_RM_way_27 : decode b_RM_way 27 = .ok (.ireturn, 1) := by decide +kernel
theorem d_RM_wayAt_0 : decode b_RM_wayAt 0 = .ok (.aload_n 0, 1) := by decide +kernel
theorem d_RM_wayAt_1 : decode b_RM_wayAt 1 = .ok (.aload_n 0, 1) := by decide +kernel
theorem d_RM_wayAt_2 : decode b_RM_wayAt 2 = .ok (.getfield 97, 3) := by decide +kernel
theorem d_RM_wayAt_5 : decode b_RM_wayAt 5 = .ok (.bipush (-2), 2) := by decide +kernel
theorem d_RM_wayAt_7 : decode b_RM_wayAt 7 = .ok (.if_icmp .ne 34, 3) := by decide +kernel
theorem d_RM_wayAt_10 : decode b_RM_wayAt 10 = .ok (.iload_n 1, 1) := by decide +kernel
theorem d_RM_wayAt_11 : decode b_RM_wayAt 11 = .ok (.aload_n 0, 1) := by decide +kernel
theorem d_RM_wayAt_12 : decode b_RM_wayAt 12 = .ok (.getfield 97, 3) := by decide +kernel
theorem d_RM_wayAt_15 : decode b_RM_wayAt 15 = .ok (.bipush (-2), 2) := by decide +kernel
theorem d_RM_wayAt_17 : decode b_RM_wayAt 17 = .ok (.if_icmp .ne 17, 3) := by decide +kernel
theorem d_RM_wayAt_20 : decode b_RM_wayAt 20 = .ok (.aload_n 0, 1) := by decide +kernel
theorem d_RM_wayAt_21 : decode b_RM_wayAt 21 = .ok (.getfield 46, 3) := by decide +kernel
theorem d_RM_wayAt_24 : decode b_RM_wayAt 24 = .ok (.aload_n 0, 1) := by decide +kernel
theorem d_RM_wayAt_25 : decode b_RM_wayAt 25 = .ok (.getfield 100, 3) := by decide +kernel
theorem d_RM_wayAt_28 : decode b_RM_wayAt 28 = .ok (.iaload, 1) := by decide +kernel
theorem d_RM_wayAt_29 : decode b_RM_wayAt 29 = .ok (.iconst 1, 1) := by decide +kernel
theorem d_RM_wayAt_30 : decode b_RM_wayAt 30 = .ok (.iadd, 1) := by decide +kernel
theorem d_RM_wayAt_31 : decode b_RM_wayAt 31 = .ok (.goto 4, 3) := by decide +kernel
theorem d_RM_wayAt_34 : decode b_RM_wayAt 34 = .ok (.iconst 0, 1) := by decide +kernel
theorem d_RM_wayAt_35 : decode b_RM_wayAt 35 = .ok (.invokestatic 113, 3) := by decide +kernel
theorem d_RM_wayAt_38 : decode b_RM_wayAt 38 = .ok (.ifCond .ne 7, 3) := by decide +kernel
theorem d_RM_wayAt_41 : decode b_RM_wayAt 41 = .ok (.iconst 1, 1) := by decide +kernel
theorem d_RM_wayAt_42 : decode b_RM_wayAt 42 = .ok (.goto 4, 3) := by decide +kernel
theorem d_RM_wayAt_45 : decode b_RM_wayAt 45 = .ok (.iconst 0, 1) := by decide +kernel
theorem d_RM_wayAt_46 : decode b_RM_wayAt 46 = .ok (.iconst 0, 1) := by decide +kernel
theorem d_RM_wayAt_47 : decode b_RM_wayAt 47 = .ok (.invokevirtual 103, 3) := by decide +kernel
theorem d_RM_wayAt_50 : decode b_RM_wayAt 50 = .ok (.ifCond .eq 5, 3) := by decide +kernel
theorem d_RM_wayAt_53 : decode b_RM_wayAt 53 = .ok (.iconst 0, 1) := by decide +kernel
theorem d_RM_wayAt_54 : decode b_RM_wayAt 54 = .ok (.ireturn, 1) := by decide +kernel
theorem d_RM_wayAt_55 : decode b_RM_wayAt 55 = .ok (.aload_n 0, 1) := by decide +kernel
theorem d_RM_wayAt_56 : decode b_RM_wayAt 56 = .ok (.getfield 100, 3) := by decide +kernel
theorem d_RM_wayAt_59 : decode b_RM_wayAt 59 = .ok (.istore_n 2, 1) := by decide +kernel
theorem d_RM_wayAt_60 : decode b_RM_wayAt 60 = .ok (.aload_n 0, 1) := by decide +kernel
theorem d_RM_wayAt_61 : decode b_RM_wayAt 61 = .ok (.getfield 46, 3) := by decide +kernel
theorem d_RM_wayAt_64 : decode b_RM_wayAt 64 = .ok (.iload_n 2, 1) := by decide +kernel
theorem d_RM_wayAt_65 : decode b_RM_wayAt 65 = .ok (.iaload, 1) := by decide +kernel
theorem d_RM_wayAt_66 : decode b_RM_wayAt 66 = .ok (.iload_n 1, 1) := by decide +kernel
theorem d_RM_wayAt_67 : decode b_RM_wayAt 67 = .ok (.if_icmp .le 13, 3) := by decide +kernel
theorem d_RM_wayAt_70 : decode b_RM_wayAt 70 = .ok (.aload_n 0, 1) := by decide +kernel
theorem d_RM_wayAt_71 : decode b_RM_wayAt 71 = .ok (.getfield 49, 3) := by decide +kernel
theorem d_RM_wayAt_74 : decode b_RM_wayAt 74 = .ok (.iload_n 2, 1) := by decide +kernel
theorem d_RM_wayAt_75 : decode b_RM_wayAt 75 = .ok (.iaload, 1) := by decide +kernel
theorem d_RM_wayAt_76 : decode b_RM_wayAt 76 = .ok (.istore_n 2, 1) := by decide +kernel
theorem d_RM_wayAt_77 : decode b_RM_wayAt 77 = .ok (.goto (-17), 3) := by decide +kernel
theorem d_RM_wayAt_80 : decode b_RM_wayAt 80 = .ok (.iload_n 2, 1) := by decide +kernel
theorem d_RM_wayAt_81 : decode b_RM_wayAt 81 = .ok (.ireturn, 1) := by decide +kernel
theorem d_RM_greatestLevel_0 : decode b_RM_greatestLevel 0 = .ok (.iconst (-1), 1) := by decide +kernel
theorem d_RM_greatestLevel_1 : decode b_RM_greatestLevel 1 = .ok (.istore_n 1, 1) := by decide +kernel
theorem d_RM_greatestLevel_2 : decode b_RM_greatestLevel 2 = .ok (.iconst 0, 1) := by decide +kernel
theorem d_RM_greatestLevel_3 : decode b_RM_greatestLevel 3 = .ok (.istore_n 2, 1) := by decide +kernel
theorem d_RM_greatestLevel_4 : decode b_RM_greatestLevel 4 = .ok (.iload_n 2, 1) := by decide +kernel
theorem d_RM_greatestLevel_5 : decode b_RM_greatestLevel 5 = .ok (.aload_n 0, 1) := by decide +kernel
theorem d_RM_greatestLevel_6 : decode b_RM_greatestLevel 6 = .ok (.getfield 82, 3) := by decide +kernel
theorem d_RM_greatestLevel_9 : decode b_RM_greatestLevel 9 = .ok (.if_icmp .ge 30, 3) := by decide +kernel
theorem d_RM_greatestLevel_12 : decode b_RM_greatestLevel 12 = .ok (.aload_n 0, 1) := by decide +kernel
theorem d_RM_greatestLevel_13 : decode b_RM_greatestLevel 13 = .ok (.getfield 46, 3) := by decide +kernel
theorem d_RM_greatestLevel_16 : decode b_RM_greatestLevel 16 = .ok (.iload_n 2, 1) := by decide +kernel
theorem d_RM_greatestLevel_17 : decode b_RM_greatestLevel 17 = .ok (.iaload, 1) := by decide +kernel
theorem d_RM_greatestLevel_18 : decode b_RM_greatestLevel 18 = .ok (.iload_n 1, 1) := by decide +kernel
theorem d_RM_greatestLevel_19 : decode b_RM_greatestLevel 19 = .ok (.if_icmp .le 12, 3) := by decide +kernel
theorem d_RM_greatestLevel_22 : decode b_RM_greatestLevel 22 = .ok (.aload_n 0, 1) := by decide +kernel
theorem d_RM_greatestLevel_23 : decode b_RM_greatestLevel 23 = .ok (.getfield 46, 3) := by decide +kernel
theorem d_RM_greatestLevel_26 : decode b_RM_greatestLevel 26 = .ok (.iload_n 2, 1) := by decide +kernel
theorem d_RM_greatestLevel_27 : decode b_RM_greatestLevel 27 = .ok (.iaload, 1) := by decide +kernel
theorem d_RM_greatestLevel_28 : decode b_RM_greatestLevel 28 = .ok (.goto 4, 3) := by decide +kernel
theorem d_RM_greatestLevel_31 : decode b_RM_greatestLevel 31 = .ok (.iload_n 1, 1) := by decide +kernel
theorem d_RM_greatestLevel_32 : decode b_RM_greatestLevel 32 = .ok (.istore_n 1, 1) := by decide +kernel
theorem d_RM_greatestLevel_33 : decode b_RM_greatestLevel 33 = .ok (.iinc 2 1, 3) := by decide +kernel
theorem d_RM_greatestLevel_36 : decode b_RM_greatestLevel 36 = .ok (.goto (-32), 3) := by decide +kernel
theorem d_RM_greatestLevel_39 : decode b_RM_greatestLevel 39 = .ok (.iload_n 1, 1) := by decide +kernel
theorem d_RM_greatestLevel_40 : decode b_RM_greatestLevel 40 = .ok (.ireturn, 1) := by decide +kernel
theorem d_RM_sums_0 : decode b_RM_sums 0 = .ok (.iconst 0, 1) := by decide +kernel
theorem d_RM_sums_1 : decode b_RM_sums 1 = .ok (.istore_n 1, 1) := by decide +kernel
theorem d_RM_sums_2 : decode b_RM_sums 2 = .ok (.iconst 0, 1) := by decide +kernel
theorem d_RM_sums_3 : decode b_RM_sums 3 = .ok (.istore_n 2, 1) := by decide +kernel
theorem d_RM_sums_4 : decode b_RM_sums 4 = .ok (.iload_n 2, 1) := by decide +kernel
theorem d_RM_sums_5 : decode b_RM_sums 5 = .ok (.aload_n 0, 1) := by decide +kernel
theorem d_RM_sums_6 : decode b_RM_sums 6 = .ok (.getfield 82, 3) := by decide +kernel
theorem d_RM_sums_9 : decode b_RM_sums 9 = .ok (.if_icmp .ge 23, 3) := by decide +kernel
theorem d_RM_sums_12 : decode b_RM_sums 12 = .ok (.iload_n 1, 1) := by decide +kernel
theorem d_RM_sums_13 : decode b_RM_sums 13 = .ok (.aload_n 0, 1) := by decide +kernel
theorem d_RM_sums_14 : decode b_RM_sums 14 = .ok (.getfield 76, 3) := by decide +kernel
theorem d_RM_sums_17 : decode b_RM_sums 17 = .ok (.aload_n 0, 1) := by decide +kernel
theorem d_RM_sums_18 : decode b_RM_sums 18 = .ok (.getfield 58, 3) := by decide +kernel
theorem d_RM_sums_21 : decode b_RM_sums 21 = .ok (.iload_n 2, 1) := by decide +kernel
theorem d_RM_sums_22 : decode b_RM_sums 22 = .ok (.iaload, 1) := by decide +kernel
theorem d_RM_sums_23 : decode b_RM_sums 23 = .ok (.idiv, 1) := by decide +kernel
theorem d_RM_sums_24 : decode b_RM_sums 24 = .ok (.iadd, 1) := by decide +kernel
theorem d_RM_sums_25 : decode b_RM_sums 25 = .ok (.istore_n 1, 1) := by decide +kernel
theorem d_RM_sums_26 : decode b_RM_sums 26 = .ok (.iinc 2 1, 3) := by decide +kernel
theorem d_RM_sums_29 : decode b_RM_sums 29 = .ok (.goto (-25), 3) := by decide +kernel
theorem d_RM_sums_32 : decode b_RM_sums 32 = .ok (.iload_n 1, 1) := by decide +kernel
theorem d_RM_sums_33 : decode b_RM_sums 33 = .ok (.ireturn, 1) := by decide +kernel
theorem d_RM_count_0 : decode b_RM_count 0 = .ok (.aload_n 0, 1) := by decide +kernel
theorem d_RM_count_1 : decode b_RM_count 1 = .ok (.iconst 0, 1) := by decide +kernel
theorem d_RM_count_2 : decode b_RM_count 2 = .ok (.putfield 79, 3) := by decide +kernel
theorem d_RM_count_5 : decode b_RM_count 5 = .ok (.iload_n 1, 1) := by decide +kernel
theorem d_RM_count_6 : decode b_RM_count 6 = .ok (.tableswitch 113 0 10 #[58, 63, 68, 73, 78, 83, 88, 93, 98, 103, 108], 58) := by decide +kernel
theorem d_RM_count_64 : decode b_RM_count 64 = .ok (.aload_n 0, 1) := by decide +kernel
theorem d_RM_count_65 : decode b_RM_count 65 = .ok (.getfield 70, 3) := by decide +kernel
theorem d_RM_count_68 : decode b_RM_count 68 = .ok (.ireturn, 1) := by decide +kernel
theorem d_RM_count_69 : decode b_RM_count 69 = .ok (.aload_n 0, 1) := by decide +kernel
theorem d_RM_count_70 : decode b_RM_count 70 = .ok (.getfield 7, 3) := by decide +kernel
theorem d_RM_count_73 : decode b_RM_count 73 = .ok (.ireturn, 1) := by decide +kernel
theorem d_RM_count_74 : decode b_RM_count 74 = .ok (.aload_n 0, 1) := by decide +kernel
theorem d_RM_count_75 : decode b_RM_count 75 = .ok (.getfield 110, 3) := by decide +kernel
theorem d_RM_count_78 : decode b_RM_count 78 = .ok (.ireturn, 1) := by decide +kernel
theorem d_RM_count_79 : decode b_RM_count 79 = .ok (.aload_n 0, 1) := by decide +kernel
theorem d_RM_count_80 : decode b_RM_count 80 = .ok (.getfield 117, 3) := by decide +kernel
theorem d_RM_count_83 : decode b_RM_count 83 = .ok (.ireturn, 1) := by decide +kernel
theorem d_RM_count_84 : decode b_RM_count 84 = .ok (.aload_n 0, 1) := by decide +kernel
theorem d_RM_count_85 : decode b_RM_count 85 = .ok (.getfield 82, 3) := by decide +kernel
theorem d_RM_count_88 : decode b_RM_count 88 = .ok (.ireturn, 1) := by decide +kernel
theorem d_RM_count_89 : decode b_RM_count 89 = .ok (.aload_n 0, 1) := by decide +kernel
theorem d_RM_count_90 : decode b_RM_count 90 = .ok (.getfield 85, 3) := by decide +kernel
theorem d_RM_count_93 : decode b_RM_count 93 = .ok (.ireturn, 1) := by decide +kernel
theorem d_RM_count_94 : decode b_RM_count 94 = .ok (.aload_n 0, 1) := by decide +kernel
theorem d_RM_count_95 : decode b_RM_count 95 = .ok (.invokevirtual 173, 3) := by decide +kernel
theorem d_RM_count_98 : decode b_RM_count 98 = .ok (.ireturn, 1) := by decide +kernel
theorem d_RM_count_99 : decode b_RM_count 99 = .ok (.aload_n 0, 1) := by decide +kernel
theorem d_RM_count_100 : decode b_RM_count 100 = .ok (.getfield 88, 3) := by decide +kernel
theorem d_RM_count_103 : decode b_RM_count 103 = .ok (.ireturn, 1) := by decide +kernel
theorem d_RM_count_104 : decode b_RM_count 104 = .ok (.aload_n 0, 1) := by decide +kernel
theorem d_RM_count_105 : decode b_RM_count 105 = .ok (.getfield 91, 3) := by decide +kernel
theorem d_RM_count_108 : decode b_RM_count 108 = .ok (.ireturn, 1) := by decide +kernel
theorem d_RM_count_109 : decode b_RM_count 109 = .ok (.aload_n 0, 1) := by decide +kernel
theorem d_RM_count_110 : decode b_RM_count 110 = .ok (.getfield 94, 3) := by decide +kernel
theorem d_RM_count_113 : decode b_RM_count 113 = .ok (.ireturn, 1) := by decide +kernel
theorem d_RM_count_114 : decode b_RM_count 114 = .ok (.aload_n 0, 1) := by decide +kernel
theorem d_RM_count_115 : decode b_RM_count 115 = .ok (.invokevirtual 177, 3) := by decide +kernel
theorem d_RM_count_118 : decode b_RM_count 118 = .ok (.ireturn, 1) := by decide +kernel
theorem d_RM_count_119 : decode b_RM_count 119 = .ok (.iconst (-1), 1) := by decide +kernel
theorem d_RM_count_120 : decode b_RM_count 120 = .ok (.ireturn, 1) := by decide +kernel
