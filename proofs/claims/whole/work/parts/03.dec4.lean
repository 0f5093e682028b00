theorem dX9_init_0 : decode cX9_init 0 = .ok (.aload_n 0, 1) := by decide +kernel
theorem dX9_init_1 : decode cX9_init 1 = .ok (.invokespecial 1, 3) := by decide +kernel
theorem dX9_init_4 : decode cX9_init 4 = .ok (.aload_n 0, 1) := by decide +kernel
theorem dX9_init_5 : decode cX9_init 5 = .ok (.iconst 4, 1) := by decide +kernel
theorem dX9_init_6 : decode cX9_init 6 = .ok (.newarray .int, 2) := by decide +kernel
theorem dX9_init_8 : decode cX9_init 8 = .ok (.putfield 7, 3) := by decide +kernel
theorem dX9_init_11 : decode cX9_init 11 = .ok (.aload_n 0, 1) := by decide +kernel
theorem dX9_init_12 : decode cX9_init 12 = .ok (.iconst 4, 1) := by decide +kernel
theorem dX9_init_13 : decode cX9_init 13 = .ok (.newarray .int, 2) := by decide +kernel
theorem dX9_init_15 : decode cX9_init 15 = .ok (.putfield 13, 3) := by decide +kernel
theorem dX9_init_18 : decode cX9_init 18 = .ok (.aload_n 0, 1) := by decide +kernel
theorem dX9_init_19 : decode cX9_init 19 = .ok (.sipush 240, 3) := by decide +kernel
theorem dX9_init_22 : decode cX9_init 22 = .ok (.newarray .int, 2) := by decide +kernel
theorem dX9_init_24 : decode cX9_init 24 = .ok (.putfield 16, 3) := by decide +kernel
theorem dX9_init_27 : decode cX9_init 27 = .ok (.aload_n 0, 1) := by decide +kernel
theorem dX9_init_28 : decode cX9_init 28 = .ok (.bipush 60, 2) := by decide +kernel
theorem dX9_init_30 : decode cX9_init 30 = .ok (.newarray .int, 2) := by decide +kernel
theorem dX9_init_32 : decode cX9_init 32 = .ok (.putfield 19, 3) := by decide +kernel
theorem dX9_init_35 : decode cX9_init 35 = .ok (.aload_n 0, 1) := by decide +kernel
theorem dX9_init_36 : decode cX9_init 36 = .ok (.bipush 120, 2) := by decide +kernel
theorem dX9_init_38 : decode cX9_init 38 = .ok (.newarray .int, 2) := by decide +kernel
theorem dX9_init_40 : decode cX9_init 40 = .ok (.putfield 22, 3) := by decide +kernel
theorem dX9_init_43 : decode cX9_init 43 = .ok (.aload_n 0, 1) := by decide +kernel
theorem dX9_init_44 : decode cX9_init 44 = .ok (.iconst 4, 1) := by decide +kernel
theorem dX9_init_45 : decode cX9_init 45 = .ok (.newarray .int, 2) := by decide +kernel
theorem dX9_init_47 : decode cX9_init 47 = .ok (.putfield 25, 3) := by decide +kernel
theorem dX9_init_50 : decode cX9_init 50 = .ok (.aload_n 0, 1) := by decide +kernel
theorem dX9_init_51 : decode cX9_init 51 = .ok (.bipush 7, 2) := by decide +kernel
theorem dX9_init_53 : decode cX9_init 53 = .ok (.newarray .int, 2) := by decide +kernel
theorem dX9_init_55 : decode cX9_init 55 = .ok (.putfield 28, 3) := by decide +kernel
theorem dX9_init_58 : decode cX9_init 58 = .ok (.aload_n 0, 1) := by decide +kernel
theorem dX9_init_59 : decode cX9_init 59 = .ok (.iconst 3, 1) := by decide +kernel
theorem dX9_init_60 : decode cX9_init 60 = .ok (.newarray .int, 2) := by decide +kernel
theorem dX9_init_62 : decode cX9_init 62 = .ok (.putfield 31, 3) := by decide +kernel
theorem dX9_init_65 : decode cX9_init 65 = .ok (.aload_n 0, 1) := by decide +kernel
theorem dX9_init_66 : decode cX9_init 66 = .ok (.bipush 27, 2) := by decide +kernel
theorem dX9_init_68 : decode cX9_init 68 = .ok (.newarray .int, 2) := by decide +kernel
theorem dX9_init_70 : decode cX9_init 70 = .ok (.putfield 34, 3) := by decide +kernel
theorem dX9_init_73 : decode cX9_init 73 = .ok (.aload_n 0, 1) := by decide +kernel
theorem dX9_init_74 : decode cX9_init 74 = .ok (.bipush 93, 2) := by decide +kernel
theorem dX9_init_76 : decode cX9_init 76 = .ok (.newarray .long, 2) := by decide +kernel
theorem dX9_init_78 : decode cX9_init 78 = .ok (.putfield 37, 3) := by decide +kernel
theorem dX9_init_81 : decode cX9_init 81 = .ok (.aload_n 0, 1) := by decide +kernel
theorem dX9_init_82 : decode cX9_init 82 = .ok (.bipush 32, 2) := by decide +kernel
theorem dX9_init_84 : decode cX9_init 84 = .ok (.newarray .int, 2) := by decide +kernel
theorem dX9_init_86 : decode cX9_init 86 = .ok (.putfield 41, 3) := by decide +kernel
theorem dX9_init_89 : decode cX9_init 89 = .ok (.aload_n 0, 1) := by decide +kernel
theorem dX9_init_90 : decode cX9_init 90 = .ok (.bipush 24, 2) := by decide +kernel
theorem dX9_init_92 : decode cX9_init 92 = .ok (.newarray .int, 2) := by decide +kernel
theorem dX9_init_94 : decode cX9_init 94 = .ok (.putfield 44, 3) := by decide +kernel
theorem dX9_init_97 : decode cX9_init 97 = .ok (.iconst 0, 1) := by decide +kernel
theorem dX9_init_98 : decode cX9_init 98 = .ok (.istore_n 1, 1) := by decide +kernel
theorem dX9_init_99 : decode cX9_init 99 = .ok (.iload_n 1, 1) := by decide +kernel
theorem dX9_init_100 : decode cX9_init 100 = .ok (.iconst 4, 1) := by decide +kernel
theorem dX9_init_101 : decode cX9_init 101 = .ok (.if_icmp .ge 16, 3) := by decide +kernel
theorem dX9_init_104 : decode cX9_init 104 = .ok (.aload_n 0, 1) := by decide +kernel
theorem dX9_init_105 : decode cX9_init 105 = .ok (.getfield 7, 3) := by decide +kernel
theorem dX9_init_108 : decode cX9_init 108 = .ok (.iload_n 1, 1) := by decide +kernel
theorem dX9_init_109 : decode cX9_init 109 = .ok (.iconst (-1), 1) := by decide +kernel
theorem dX9_init_110 : decode cX9_init 110 = .ok (.iastore, 1) := by decide +kernel
theorem dX9_init_111 : decode cX9_init 111 = .ok (.iinc 1 1, 3) := by decide +kernel
theorem dX9_init_114 : decode cX9_init 114 = .ok (.goto (-15), 3) := by decide +kernel
theorem dX9_init_117 : decode cX9_init 117 = .ok (.iconst 0, 1) := by decide +kernel
theorem dX9_init_118 : decode cX9_init 118 = .ok (.istore_n 1, 1) := by decide +kernel
theorem dX9_init_119 : decode cX9_init 119 = .ok (.iload_n 1, 1) := by decide +kernel
theorem dX9_init_120 : decode cX9_init 120 = .ok (.iconst 3, 1) := by decide +kernel
theorem dX9_init_121 : decode cX9_init 121 = .ok (.if_icmp .ge 16, 3) := by decide +kernel
theorem dX9_init_124 : decode cX9_init 124 = .ok (.aload_n 0, 1) := by decide +kernel
theorem dX9_init_125 : decode cX9_init 125 = .ok (.getfield 31, 3) := by decide +kernel
theorem dX9_init_128 : decode cX9_init 128 = .ok (.iload_n 1, 1) := by decide +kernel
theorem dX9_init_129 : decode cX9_init 129 = .ok (.iconst 1, 1) := by decide +kernel
theorem dX9_init_130 : decode cX9_init 130 = .ok (.iastore, 1) := by decide +kernel
theorem dX9_init_131 : decode cX9_init 131 = .ok (.iinc 1 1, 3) := by decide +kernel
theorem dX9_init_134 : decode cX9_init 134 = .ok (.goto (-15), 3) := by decide +kernel
theorem dX9_init_137 : decode cX9_init 137 = .ok (.aload_n 0, 1) := by decide +kernel
theorem dX9_init_138 : decode cX9_init 138 = .ok (.getfield 28, 3) := by decide +kernel
theorem dX9_init_141 : decode cX9_init 141 = .ok (.iconst 0, 1) := by decide +kernel
theorem dX9_init_142 : decode cX9_init 142 = .ok (.iconst 3, 1) := by decide +kernel
theorem dX9_init_143 : decode cX9_init 143 = .ok (.iastore, 1) := by decide +kernel
theorem dX9_init_144 : decode cX9_init 144 = .ok (.aload_n 0, 1) := by decide +kernel
theorem dX9_init_145 : decode cX9_init 145 = .ok (.getfield 28, 3) := by decide +kernel
theorem dX9_init_148 : decode cX9_init 148 = .ok (.iconst 1, 1) := by decide +kernel
theorem dX9_init_149 : decode cX9_init 149 = .ok (.bipush 29, 2) := by decide +kernel
theorem dX9_init_151 : decode cX9_init 151 = .ok (.iastore, 1) := by decide +kernel
theorem dX9_init_152 : decode cX9_init 152 = .ok (.aload_n 0, 1) := by decide +kernel
theorem dX9_init_153 : decode cX9_init 153 = .ok (.getfield 28, 3) := by decide +kernel
theorem dX9_init_156 : decode cX9_init 156 = .ok (.iconst 2, 1) := by decide +kernel
theorem dX9_init_157 : decode cX9_init 157 = .ok (.iconst 5, 1) := by decide +kernel
theorem dX9_init_158 : decode cX9_init 158 = .ok (.iastore, 1) := by decide +kernel
theorem dX9_init_159 : decode cX9_init 159 = .ok (.aload_n 0, 1) := by decide +kernel
theorem dX9_init_160 : decode cX9_init 160 = .ok (.getfield 28, 3) := by decide +kernel
theorem dX9_init_163 : decode cX9_init 163 = .ok (.iconst 3, 1) := by decide +kernel
theorem dX9_init_164 : decode cX9_init 164 = .ok (.iconst 3, 1) := by decide +kernel
theorem dX9_init_165 : decode cX9_init 165 = .ok (.iastore, 1) := by decide +kernel
theorem dX9_init_166 : decode cX9_init 166 = .ok (.aload_n 0, 1) := by decide +kernel
theorem dX9_init_167 : decode cX9_init 167 = .ok (.getfield 28, 3) := by decide +kernel
theorem dX9_init_170 : decode cX9_init 170 = .ok (.iconst 4, 1) := by decide +kernel
theorem dX9_init_171 : decode cX9_init 171 = .ok (.iconst 1, 1) := by decide +kernel
theorem dX9_init_172 : decode cX9_init 172 = .ok (.iastore, 1) := by decide +kernel
theorem dX9_init_173 : decode cX9_init 173 = .ok (.aload_n 0, 1) := by decide +kernel
theorem dX9_init_174 : decode cX9_init 174 = .ok (.getfield 28, 3) := by decide +kernel
theorem dX9_init_177 : decode cX9_init 177 = .ok (.iconst 5, 1) := by decide +kernel
theorem dX9_init_178 : decode cX9_init 178 = .ok (.iconst 4, 1) := by decide +kernel
theorem dX9_init_179 : decode cX9_init 179 = .ok (.iastore, 1) := by decide +kernel
theorem dX9_init_180 : decode cX9_init 180 = .ok (.aload_n 0, 1) := by decide +kernel
theorem dX9_init_181 : decode cX9_init 181 = .ok (.getfield 28, 3) := by decide +kernel
theorem dX9_init_184 : decode cX9_init 184 = .ok (.bipush 6, 2) := by decide +kernel
theorem dX9_init_186 : decode cX9_init 186 = .ok (.iconst 1, 1) := by decide +kernel
theorem dX9_init_187 : decode cX9_init 187 = .ok (.iastore, 1) := by decide +kernel
theorem dX9_init_188 : decode cX9_init 188 = .ok (.return_, 1) := by decide +kernel
theorem dX9_in_0 : decode cX9_in 0 = .ok (.lload_n 0, 1) := by decide +kernel
theorem dX9_in_1 : decode cX9_in 1 = .ok (.lload_n 2, 1) := by decide +kernel
theorem dX9_in_2 : decode cX9_in 2 = .ok (.lcmp, 1) := by decide +kernel
theorem dX9_in_3 : decode cX9_in 3 = .ok (.ifCond .lt 14, 3) := by decide +kernel
theorem dX9_in_6 : decode cX9_in 6 = .ok (.lload_n 0, 1) := by decide +kernel
theorem dX9_in_7 : decode cX9_in 7 = .ok (.lload 4, 2) := by decide +kernel
theorem dX9_in_9 : decode cX9_in 9 = .ok (.lcmp, 1) := by decide +kernel
theorem dX9_in_10 : decode cX9_in 10 = .ok (.ifCond .gt 7, 3) := by decide +kernel
theorem dX9_in_13 : decode cX9_in 13 = .ok (.iconst 1, 1) := by decide +kernel
theorem dX9_in_14 : decode cX9_in 14 = .ok (.goto 4, 3) := by decide +kernel
theorem dX9_in_17 : decode cX9_in 17 = .ok (.iconst 0, 1) := by decide +kernel
theorem dX9_in_18 : decode cX9_in 18 = .ok (.ireturn, 1) := by decide +kernel
theorem dX9_no_0 : decode cX9_no 0 = .ok (.ldc2_w 47, 3) := by decide +kernel
theorem dX9_no_3 : decode cX9_no 3 = .ok (.iload_n 0, 1) := by decide +kernel
theorem dX9_no_4 : decode cX9_no 4 = .ok (.i2l, 1) := by decide +kernel
theorem dX9_no_5 : decode cX9_no 5 = .ok (.lsub, 1) := by decide +kernel
theorem dX9_no_6 : decode cX9_no 6 = .ok (.lreturn, 1) := by decide +kernel
theorem dX9_isTwo_0 : decode cX9_isTwo 0 = .ok (.iload_n 0, 1) := by decide +kernel
theorem dX9_isTwo_1 : decode cX9_isTwo 1 = .ok (.i2l, 1) := by decide +kernel
theorem dX9_isTwo_2 : decode cX9_isTwo 2 = .ok (.lconst 0, 1) := by decide +kernel
theorem dX9_isTwo_3 : decode cX9_isTwo 3 = .ok (.lconst 1, 1) := by decide +kernel
theorem dX9_isTwo_4 : decode cX9_isTwo 4 = .ok (.invokestatic 49, 3) := by decide +kernel
theorem dX9_isTwo_7 : decode cX9_isTwo 7 = .ok (.ireturn, 1) := by decide +kernel
theorem dX9_isIn_0 : decode cX9_isIn 0 = .ok (.iload_n 0, 1) := by decide +kernel
theorem dX9_isIn_1 : decode cX9_isIn 1 = .ok (.iload_n 1, 1) := by decide +kernel
theorem dX9_isIn_2 : decode cX9_isIn 2 = .ok (.ishr, 1) := by decide +kernel
theorem dX9_isIn_3 : decode cX9_isIn 3 = .ok (.iconst 1, 1) := by decide +kernel
theorem dX9_isIn_4 : decode cX9_isIn 4 = .ok (.iand, 1) := by decide +kernel
theorem dX9_isIn_5 : decode cX9_isIn 5 = .ok (.iconst 1, 1) := by decide +kernel
theorem dX9_isIn_6 : decode cX9_isIn 6 = .ok (.if_icmp .ne 7, 3) := by decide +kernel
theorem dX9_isIn_9 : decode cX9_isIn 9 = .ok (.iconst 1, 1) := by decide +kernel
theorem dX9_isIn_10 : decode cX9_isIn 10 = .ok (.goto 4, 3) := by decide +kernel
theorem dX9_isIn_13 : decode cX9_isIn 13 = .ok (.iconst 0, 1) := by decide +kernel
theorem dX9_isIn_14 : decode cX9_isIn 14 = .ok (.ireturn, 1) := by decide +kernel
theorem dX9_met_0 : decode cX9_met 0 = .ok (.aload_n 0, 1) := by decide +kernel
theorem dX9_met_1 : decode cX9_met 1 = .ok (.iload_n 1, 1) := by decide +kernel
theorem dX9_met_2 : decode cX9_met 2 = .ok (.putfield 53, 3) := by decide +kernel
theorem dX9_met_5 : decode cX9_met 5 = .ok (.bipush (-10), 2) := by decide +kernel
theorem dX9_met_7 : decode cX9_met 7 = .ok (.iload_n 1, 1) := by decide +kernel
theorem dX9_met_8 : decode cX9_met 8 = .ok (.isub, 1) := by decide +kernel
theorem dX9_met_9 : decode cX9_met 9 = .ok (.ireturn, 1) := by decide +kernel
theorem dX9_isSheet_0 : decode cX9_isSheet 0 = .ok (.iload_n 0, 1) := by decide +kernel
theorem dX9_isSheet_1 : decode cX9_isSheet 1 = .ok (.i2l, 1) := by decide +kernel
theorem dX9_isSheet_2 : decode cX9_isSheet 2 = .ok (.lconst 0, 1) := by decide +kernel
theorem dX9_isSheet_3 : decode cX9_isSheet 3 = .ok (.ldc2_w 57, 3) := by decide +kernel
theorem dX9_isSheet_6 : decode cX9_isSheet 6 = .ok (.invokestatic 49, 3) := by decide +kernel
theorem dX9_isSheet_9 : decode cX9_isSheet 9 = .ok (.ireturn, 1) := by decide +kernel
theorem dX9_sheet_0 : decode cX9_sheet 0 = .ok (.iload_n 1, 1) := by decide +kernel
theorem dX9_sheet_1 : decode cX9_sheet 1 = .ok (.invokestatic 59, 3) := by decide +kernel
theorem dX9_sheet_4 : decode cX9_sheet 4 = .ok (.ifCond .eq 21, 3) := by decide +kernel
theorem dX9_sheet_7 : decode cX9_sheet 7 = .ok (.iload_n 2, 1) := by decide +kernel
theorem dX9_sheet_8 : decode cX9_sheet 8 = .ok (.i2l, 1) := by decide +kernel
theorem dX9_sheet_9 : decode cX9_sheet 9 = .ok (.lconst 0, 1) := by decide +kernel
theorem dX9_sheet_10 : decode cX9_sheet 10 = .ok (.ldc2_w 63, 3) := by decide +kernel
theorem dX9_sheet_13 : decode cX9_sheet 13 = .ok (.invokestatic 49, 3) := by decide +kernel
theorem dX9_sheet_16 : decode cX9_sheet 16 = .ok (.ifCond .eq 9, 3) := by decide +kernel
theorem dX9_sheet_19 : decode cX9_sheet 19 = .ok (.iload_n 3, 1) := by decide +kernel
theorem dX9_sheet_20 : decode cX9_sheet 20 = .ok (.bipush 60, 2) := by decide +kernel
theorem dX9_sheet_22 : decode cX9_sheet 22 = .ok (.if_icmp .le 6, 3) := by decide +kernel
theorem dX9_sheet_25 : decode cX9_sheet 25 = .ok (.bipush (-2), 2) := by decide +kernel
theorem dX9_sheet_27 : decode cX9_sheet 27 = .ok (.ireturn, 1) := by decide +kernel
theorem dX9_sheet_28 : decode cX9_sheet 28 = .ok (.iload_n 3, 1) := by decide +kernel
theorem dX9_sheet_29 : decode cX9_sheet 29 = .ok (.ifCond .ge 9, 3) := by decide +kernel
theorem dX9_sheet_32 : decode cX9_sheet 32 = .ok (.aload_n 0, 1) := by decide +kernel
theorem dX9_sheet_33 : decode cX9_sheet 33 = .ok (.iconst 5, 1) := by decide +kernel
theorem dX9_sheet_34 : decode cX9_sheet 34 = .ok (.invokevirtual 65, 3) := by decide +kernel
theorem dX9_sheet_37 : decode cX9_sheet 37 = .ok (.ireturn, 1) := by decide +kernel
theorem dX9_sheet_38 : decode cX9_sheet 38 = .ok (.aload_n 0, 1) := by decide +kernel
theorem dX9_sheet_39 : decode cX9_sheet 39 = .ok (.getfield 7, 3) := by decide +kernel
theorem dX9_sheet_42 : decode cX9_sheet 42 = .ok (.iload_n 1, 1) := by decide +kernel
theorem dX9_sheet_43 : decode cX9_sheet 43 = .ok (.iload_n 2, 1) := by decide +kernel
theorem dX9_sheet_44 : decode cX9_sheet 44 = .ok (.iastore, 1) := by decide +kernel
theorem dX9_sheet_45 : decode cX9_sheet 45 = .ok (.aload_n 0, 1) := by decide +kernel
theorem dX9_sheet_46 : decode cX9_sheet 46 = .ok (.getfield 13, 3) := by decide +kernel
theorem dX9_sheet_49 : decode cX9_sheet 49 = .ok (.iload_n 1, 1) := by decide +kernel
theorem dX9_sheet_50 : decode cX9_sheet 50 = .ok (.iload_n 3, 1) := by decide +kernel
theorem dX9_sheet_51 : decode cX9_sheet 51 = .ok (.iastore, 1) := by decide +kernel
theorem dX9_sheet_52 : decode cX9_sheet 52 = .ok (.iconst 0, 1) := by decide +kernel
theorem dX9_sheet_53 : decode cX9_sheet 53 = .ok (.istore 4, 2) := by decide +kernel
theorem dX9_sheet_55 : decode cX9_sheet 55 = .ok (.iload 4, 2) := by decide +kernel
theorem dX9_sheet_57 : decode cX9_sheet 57 = .ok (.iload_n 3, 1) := by decide +kernel
theorem dX9_sheet_58 : decode cX9_sheet 58 = .ok (.if_icmp .ge 22, 3) := by decide +kernel
theorem dX9_sheet_61 : decode cX9_sheet 61 = .ok (.aload_n 0, 1) := by decide +kernel
theorem dX9_sheet_62 : decode cX9_sheet 62 = .ok (.getfield 16, 3) := by decide +kernel
theorem dX9_sheet_65 : decode cX9_sheet 65 = .ok (.bipush 60, 2) := by decide +kernel
theorem dX9_sheet_67 : decode cX9_sheet 67 = .ok (.iload_n 1, 1) := by decide +kernel
theorem dX9_sheet_68 : decode cX9_sheet 68 = .ok (.imul, 1) := by decide +kernel
theorem dX9_sheet_69 : decode cX9_sheet 69 = .ok (.iload 4, 2) := by decide +kernel
theorem dX9_sheet_71 : decode cX9_sheet 71 = .ok (.iadd, 1) := by decide +kernel
theorem dX9_sheet_72 : decode cX9_sheet 72 = .ok (.iconst 0, 1) := by decide +kernel
theorem dX9_sheet_73 : decode cX9_sheet 73 = .ok (.iastore, 1) := by decide +kernel
theorem dX9_sheet_74 : decode cX9_sheet 74 = .ok (.iinc 4 1, 3) := by decide +kernel
theorem dX9_sheet_77 : decode cX9_sheet 77 = .ok (.goto (-22), 3) := by decide +kernel
theorem dX9_sheet_80 : decode cX9_sheet 80 = .ok (.iload_n 3, 1) := by decide +kernel
theorem dX9_sheet_81 : decode cX9_sheet 81 = .ok (.ireturn, 1) := by decide +kernel
theorem dX9_lose_0 : decode cX9_lose 0 = .ok (.iload_n 1, 1) := by decide +kernel
theorem dX9_lose_1 : decode cX9_lose 1 = .ok (.invokestatic 59, 3) := by decide +kernel
theorem dX9_lose_4 : decode cX9_lose 4 = .ok (.ifCond .ne 6, 3) := by decide +kernel
theorem dX9_lose_7 : decode cX9_lose 7 = .ok (.bipush (-2), 2) := by decide +kernel
theorem dX9_lose_9 : decode cX9_lose 9 = .ok (.ireturn, 1) := by decide +kernel
theorem dX9_lose_10 : decode cX9_lose 10 = .ok (.aload_n 0, 1) := by decide +kernel
theorem dX9_lose_11 : decode cX9_lose 11 = .ok (.getfield 7, 3) := by decide +kernel
theorem dX9_lose_14 : decode cX9_lose 14 = .ok (.iload_n 1, 1) := by decide +kernel
theorem dX9_lose_15 : decode cX9_lose 15 = .ok (.iaload, 1) := by decide +kernel
theorem dX9_lose_16 : decode cX9_lose 16 = .ok (.ifCond .ge 9, 3) := by decide +kernel
theorem dX9_lose_19 : decode cX9_lose 19 = .ok (.aload_n 0, 1) := by decide +kernel
theorem dX9_lose_20 : decode cX9_lose 20 = .ok (.iconst 1, 1) := by decide +kernel
theorem dX9_lose_21 : decode cX9_lose 21 = .ok (.invokevirtual 65, 3) := by decide +kernel
theorem dX9_lose_24 : decode cX9_lose 24 = .ok (.ireturn, 1) := by decide +kernel
theorem dX9_lose_25 : decode cX9_lose 25 = .ok (.aload_n 0, 1) := by decide +kernel
theorem dX9_lose_26 : decode cX9_lose 26 = .ok (.getfield 7, 3) := by decide +kernel
theorem dX9_lose_29 : decode cX9_lose 29 = .ok (.iload_n 1, 1) := by decide +kernel
theorem dX9_lose_30 : decode cX9_lose 30 = .ok (.iconst (-1), 1) := by decide +kernel
theorem dX9_lose_31 : decode cX9_lose 31 = .ok (.iastore, 1) := by decide +kernel
theorem dX9_lose_32 : decode cX9_lose 32 = .ok (.aload_n 0, 1) := by decide +kernel
theorem dX9_lose_33 : decode cX9_lose 33 = .ok (.getfield 13, 3) := by decide +kernel
theorem dX9_lose_36 : decode cX9_lose 36 = .ok (.iload_n 1, 1) := by decide +kernel
theorem dX9_lose_37 : decode cX9_lose 37 = .ok (.iaload, 1) := by decide +kernel
theorem dX9_lose_38 : decode cX9_lose 38 = .ok (.ireturn, 1) := by decide +kernel
theorem dX9_lacks_0 : decode cX9_lacks 0 = .ok (.aload_n 0, 1) := by decide +kernel
theorem dX9_lacks_1 : decode cX9_lacks 1 = .ok (.getfield 7, 3) := by decide +kernel
theorem dX9_lacks_4 : decode cX9_lacks 4 = .ok (.iload_n 1, 1) := by decide +kernel
theorem dX9_lacks_5 : decode cX9_lacks 5 = .ok (.iaload, 1) := by decide +kernel
theorem dX9_lacks_6 : decode cX9_lacks 6 = .ok (.ifCond .ge 9, 3) := by decide +kernel
theorem dX9_lacks_9 : decode cX9_lacks 9 = .ok (.aload_n 0, 1) := by decide +kernel
theorem dX9_lacks_10 : decode cX9_lacks 10 = .ok (.iconst 1, 1) := by decide +kernel
theorem dX9_lacks_11 : decode cX9_lacks 11 = .ok (.invokevirtual 65, 3) := by decide +kernel
theorem dX9_lacks_14 : decode cX9_lacks 14 = .ok (.ireturn, 1) := by decide +kernel
theorem dX9_lacks_15 : decode cX9_lacks 15 = .ok (.aload_n 0, 1) := by decide +kernel
theorem dX9_lacks_16 : decode cX9_lacks 16 = .ok (.getfield 7, 3) := by decide +kernel
theorem dX9_lacks_19 : decode cX9_lacks 19 = .ok (.iload_n 1, 1) := by decide +kernel
theorem dX9_lacks_20 : decode cX9_lacks 20 = .ok (.iaload, 1) := by decide +kernel
theorem dX9_lacks_21 : decode cX9_lacks 21 = .ok (.iload_n 2, 1) := by decide +kernel
theorem dX9_lacks_22 : decode cX9_lacks 22 = .ok (.if_icmp .eq 9, 3) := by decide +kernel
theorem dX9_lacks_25 : decode cX9_lacks 25 = .ok (.aload_n 0, 1) := by decide +kernel
theorem dX9_lacks_26 : decode cX9_lacks 26 = .ok (.iconst 3, 1) := by decide +kernel
theorem dX9_lacks_27 : decode cX9_lacks 27 = .ok (.invokevirtual 65, 3) := by decide +kernel
theorem dX9_lacks_30 : decode cX9_lacks 30 = .ok (.ireturn, 1) := by decide +kernel
theorem dX9_lacks_31 : decode cX9_lacks 31 = .ok (.iload_n 3, 1) := by decide +kernel
theorem dX9_lacks_32 : decode cX9_lacks 32 = .ok (.i2l, 1) := by decide +kernel
theorem dX9_lacks_33 : decode cX9_lacks 33 = .ok (.lconst 0, 1) := by decide +kernel
theorem dX9_lacks_34 : decode cX9_lacks 34 = .ok (.aload_n 0, 1) := by decide +kernel
theorem dX9_lacks_35 : decode cX9_lacks 35 = .ok (.getfield 13, 3) := by decide +kernel
theorem dX9_lacks_38 : decode cX9_lacks 38 = .ok (.iload_n 1, 1) := by decide +kernel
theorem dX9_lacks_39 : decode cX9_lacks 39 = .ok (.iaload, 1) := by decide +kernel
theorem dX9_lacks_40 : decode cX9_lacks 40 = .ok (.iconst 1, 1) := by decide +kernel
theorem dX9_lacks_41 : decode cX9_lacks 41 = .ok (.isub, 1) := by decide +kernel
theorem dX9_lacks_42 : decode cX9_lacks 42 = .ok (.i2l, 1) := by decide +kernel
theorem dX9_lacks_43 : decode cX9_lacks 43 = .ok (.invokestatic 49, 3) := by decide +kernel
theorem dX9_lacks_46 : decode cX9_lacks 46 = .ok (.ifCond .eq 7, 3) := by decide +kernel
theorem dX9_lacks_49 : decode cX9_lacks 49 = .ok (.iconst 0, 1) := by decide +kernel
theorem dX9_lacks_50 : decode cX9_lacks 50 = .ok (.goto 8, 3) := by decide +kernel
theorem dX9_lacks_53 : decode cX9_lacks 53 = .ok (.aload_n 0, 1) := by decide +kernel
theorem dX9_lacks_54 : decode cX9_lacks 54 = .ok (.iconst 2, 1) := by decide +kernel
theorem dX9_lacks_55 : decode cX9_lacks 55 = .ok (.invokevirtual 65, 3) := by decide +kernel
theorem dX9_lacks_58 : decode cX9_lacks 58 = .ok (.ireturn, 1) := by decide +kernel
theorem dX9_cut_0 : decode cX9_cut 0 = .ok (.iload_n 0, 1) := by decide +kernel
theorem dX9_cut_1 : decode cX9_cut 1 = .ok (.ifCond .ne 8, 3) := by decide +kernel
theorem dX9_cut_4 : decode cX9_cut 4 = .ok (.iload_n 1, 1) := by decide +kernel
theorem dX9_cut_5 : decode cX9_cut 5 = .ok (.i2b, 1) := by decide +kernel
theorem dX9_cut_6 : decode cX9_cut 6 = .ok (.goto 14, 3) := by decide +kernel
theorem dX9_cut_9 : decode cX9_cut 9 = .ok (.iload_n 0, 1) := by decide +kernel
theorem dX9_cut_10 : decode cX9_cut 10 = .ok (.iconst 1, 1) := by decide +kernel
theorem dX9_cut_11 : decode cX9_cut 11 = .ok (.if_icmp .ne 8, 3) := by decide +kernel
theorem dX9_cut_14 : decode cX9_cut 14 = .ok (.iload_n 1, 1) := by decide +kernel
theorem dX9_cut_15 : decode cX9_cut 15 = .ok (.i2s, 1) := by decide +kernel
theorem dX9_cut_16 : decode cX9_cut 16 = .ok (.goto 4, 3) := by decide +kernel
theorem dX9_cut_19 : decode cX9_cut 19 = .ok (.iload_n 1, 1) := by decide +kernel
theorem dX9_cut_20 : decode cX9_cut 20 = .ok (.ireturn, 1) := by decide +kernel
theorem dX9_lay_0 : decode cX9_lay 0 = .ok (.iload_n 1, 1) := by decide +kernel
theorem dX9_lay_1 : decode cX9_lay 1 = .ok (.invokestatic 59, 3) := by decide +kernel
theorem dX9_lay_4 : decode cX9_lay 4 = .ok (.ifCond .eq 15, 3) := by decide +kernel
theorem dX9_lay_7 : decode cX9_lay 7 = .ok (.iload_n 2, 1) := by decide +kernel
theorem dX9_lay_8 : decode cX9_lay 8 = .ok (.i2l, 1) := by decide +kernel
theorem dX9_lay_9 : decode cX9_lay 9 = .ok (.lconst 0, 1) := by decide +kernel
theorem dX9_lay_10 : decode cX9_lay 10 = .ok (.ldc2_w 63, 3) := by decide +kernel
theorem dX9_lay_13 : decode cX9_lay 13 = .ok (.invokestatic 49, 3) := by decide +kernel
theorem dX9_lay_16 : decode cX9_lay 16 = .ok (.ifCond .ne 6, 3) := by decide +kernel
theorem dX9_lay_19 : decode cX9_lay 19 = .ok (.bipush (-2), 2) := by decide +kernel
theorem dX9_lay_21 : decode cX9_lay 21 = .ok (.ireturn, 1) := by decide +kernel
theorem dX9_lay_22 : decode cX9_lay 22 = .ok (.aload_n 0, 1) := by decide +kernel
theorem dX9_lay_23 : decode cX9_lay 23 = .ok (.iload_n 1, 1) := by decide +kernel
theorem dX9_lay_24 : decode cX9_lay 24 = .ok (.iload_n 2, 1) := by decide +kernel
theorem dX9_lay_25 : decode cX9_lay 25 = .ok (.iload_n 3, 1) := by decide +kernel
theorem dX9_lay_26 : decode cX9_lay 26 = .ok (.invokevirtual 69, 3) := by decide +kernel
theorem dX9_lay_29 : decode cX9_lay 29 = .ok (.istore 5, 2) := by decide +kernel
theorem dX9_lay_31 : decode cX9_lay 31 = .ok (.iload 5, 2) := by decide +kernel
theorem dX9_lay_33 : decode cX9_lay 33 = .ok (.ifCond .eq 6, 3) := by decide +kernel
theorem dX9_lay_36 : decode cX9_lay 36 = .ok (.iload 5, 2) := by decide +kernel
theorem dX9_lay_38 : decode cX9_lay 38 = .ok (.ireturn, 1) := by decide +kernel
theorem dX9_lay_39 : decode cX9_lay 39 = .ok (.aload_n 0, 1) := by decide +kernel
theorem dX9_lay_40 : decode cX9_lay 40 = .ok (.getfield 16, 3) := by decide +kernel
theorem dX9_lay_43 : decode cX9_lay 43 = .ok (.bipush 60, 2) := by decide +kernel
theorem dX9_lay_45 : decode cX9_lay 45 = .ok (.iload_n 1, 1) := by decide +kernel
theorem dX9_lay_46 : decode cX9_lay 46 = .ok (.imul, 1) := by decide +kernel
theorem dX9_lay_47 : decode cX9_lay 47 = .ok (.iload_n 3, 1) := by decide +kernel
theorem dX9_lay_48 : decode cX9_lay 48 = .ok (.iadd, 1) := by decide +kernel
theorem dX9_lay_49 : decode cX9_lay 49 = .ok (.iload_n 2, 1) := by decide +kernel
theorem dX9_lay_50 : decode cX9_lay 50 = .ok (.iload 4, 2) := by decide +kernel
theorem dX9_lay_52 : decode cX9_lay 52 = .ok (.invokestatic 73, 3) := by decide +kernel
theorem dX9_lay_55 : decode cX9_lay 55 = .ok (.iastore, 1) := by decide +kernel
theorem dX9_lay_56 : decode cX9_lay 56 = .ok (.iconst 1, 1) := by decide +kernel
theorem dX9_lay_57 : decode cX9_lay 57 = .ok (.ireturn, 1) := by decide +kernel
theorem dX9_get_0 : decode cX9_get 0 = .ok (.iload_n 1, 1) := by decide +kernel
theorem dX9_get_1 : decode cX9_get 1 = .ok (.invokestatic 59, 3) := by decide +kernel
theorem dX9_get_4 : decode cX9_get 4 = .ok (.ifCond .eq 25, 3) := by decide +kernel
theorem dX9_get_7 : decode cX9_get 7 = .ok (.iload_n 2, 1) := by decide +kernel
theorem dX9_get_8 : decode cX9_get 8 = .ok (.i2l, 1) := by decide +kernel
theorem dX9_get_9 : decode cX9_get 9 = .ok (.lconst 0, 1) := by decide +kernel
theorem dX9_get_10 : decode cX9_get 10 = .ok (.ldc2_w 63, 3) := by decide +kernel
theorem dX9_get_13 : decode cX9_get 13 = .ok (.invokestatic 49, 3) := by decide +kernel
theorem dX9_get_16 : decode cX9_get 16 = .ok (.ifCond .eq 13, 3) := by decide +kernel
theorem dX9_get_19 : decode cX9_get 19 = .ok (.aload_n 0, 1) := by decide +kernel
theorem dX9_get_20 : decode cX9_get 20 = .ok (.iload_n 1, 1) := by decide +kernel
theorem dX9_get_21 : decode cX9_get 21 = .ok (.iload_n 2, 1) := by decide +kernel
theorem dX9_get_22 : decode cX9_get 22 = .ok (.iload_n 3, 1) := by decide +kernel
theorem dX9_get_23 : decode cX9_get 23 = .ok (.invokevirtual 69, 3) := by decide +kernel
theorem dX9_get_26 : decode cX9_get 26 = .ok (.ifCond .eq 6, 3) := by decide +kernel
theorem dX9_get_29 : decode cX9_get 29 = .ok (.ldc 77, 2) := by decide +kernel
theorem dX9_get_31 : decode cX9_get 31 = .ok (.ireturn, 1) := by decide +kernel
theorem dX9_get_32 : decode cX9_get 32 = .ok (.aload_n 0, 1) := by decide +kernel
theorem dX9_get_33 : decode cX9_get 33 = .ok (.getfield 16, 3) := by decide +kernel
theorem dX9_get_36 : decode cX9_get 36 = .ok (.bipush 60, 2) := by decide +kernel
theorem dX9_get_38 : decode cX9_get 38 = .ok (.iload_n 1, 1) := by decide +kernel
theorem dX9_get_39 : decode cX9_get 39 = .ok (.imul, 1) := by decide +kernel
theorem dX9_get_40 : decode cX9_get 40 = .ok (.iload_n 3, 1) := by decide +kernel
theorem dX9_get_41 : decode cX9_get 41 = .ok (.iadd, 1) := by decide +kernel
theorem dX9_get_42 : decode cX9_get 42 = .ok (.iaload, 1) := by decide +kernel
theorem dX9_get_43 : decode cX9_get 43 = .ok (.ireturn, 1) := by decide +kernel
theorem dX9_copy_0 : decode cX9_copy 0 = .ok (.iload_n 1, 1) := by decide +kernel
theorem dX9_copy_1 : decode cX9_copy 1 = .ok (.invokestatic 59, 3) := by decide +kernel
theorem dX9_copy_4 : decode cX9_copy 4 = .ok (.ifCond .eq 10, 3) := by decide +kernel
theorem dX9_copy_7 : decode cX9_copy 7 = .ok (.iload_n 3, 1) := by decide +kernel
theorem dX9_copy_8 : decode cX9_copy 8 = .ok (.invokestatic 59, 3) := by decide +kernel
theorem dX9_copy_11 : decode cX9_copy 11 = .ok (.ifCond .ne 6, 3) := by decide +kernel
theorem dX9_copy_14 : decode cX9_copy 14 = .ok (.bipush (-2), 2) := by decide +kernel
theorem dX9_copy_16 : decode cX9_copy 16 = .ok (.ireturn, 1) := by decide +kernel
theorem dX9_copy_17 : decode cX9_copy 17 = .ok (.aload_n 0, 1) := by decide +kernel
theorem dX9_copy_18 : decode cX9_copy 18 = .ok (.getfield 7, 3) := by decide +kernel
theorem dX9_copy_21 : decode cX9_copy 21 = .ok (.iload_n 1, 1) := by decide +kernel
theorem dX9_copy_22 : decode cX9_copy 22 = .ok (.iaload, 1) := by decide +kernel
theorem dX9_copy_23 : decode cX9_copy 23 = .ok (.ifCond .lt 12, 3) := by decide +kernel
theorem dX9_copy_26 : decode cX9_copy 26 = .ok (.aload_n 0, 1) := by decide +kernel
theorem dX9_copy_27 : decode cX9_copy 27 = .ok (.getfield 7, 3) := by decide +kernel
theorem dX9_copy_30 : decode cX9_copy 30 = .ok (.iload_n 3, 1) := by decide +kernel
theorem dX9_copy_31 : decode cX9_copy 31 = .ok (.iaload, 1) := by decide +kernel
theorem dX9_copy_32 : decode cX9_copy 32 = .ok (.ifCond .ge 9, 3) := by decide +kernel
theorem dX9_copy_35 : decode cX9_copy 35 = .ok (.aload_n 0, 1) := by decide +kernel
theorem dX9_copy_36 : decode cX9_copy 36 = .ok (.iconst 1, 1) := by decide +kernel
theorem dX9_copy_37 : decode cX9_copy 37 = .ok (.invokevirtual 65, 3) := by decide +kernel
theorem dX9_copy_40 : decode cX9_copy 40 = .ok (.ireturn, 1) := by decide +kernel
theorem dX9_copy_41 : decode cX9_copy 41 = .ok (.aload_n 0, 1) := by decide +kernel
theorem dX9_copy_42 : decode cX9_copy 42 = .ok (.getfield 7, 3) := by decide +kernel
theorem dX9_copy_45 : decode cX9_copy 45 = .ok (.iload_n 1, 1) := by decide +kernel
theorem dX9_copy_46 : decode cX9_copy 46 = .ok (.iaload, 1) := by decide +kernel
theorem dX9_copy_47 : decode cX9_copy 47 = .ok (.aload_n 0, 1) := by decide +kernel
theorem dX9_copy_48 : decode cX9_copy 48 = .ok (.getfield 7, 3) := by decide +kernel
theorem dX9_copy_51 : decode cX9_copy 51 = .ok (.iload_n 3, 1) := by decide +kernel
theorem dX9_copy_52 : decode cX9_copy 52 = .ok (.iaload, 1) := by decide +kernel
theorem dX9_copy_53 : decode cX9_copy 53 = .ok (.if_icmp .eq 9, 3) := by decide +kernel
theorem dX9_copy_56 : decode cX9_copy 56 = .ok (.aload_n 0, 1) := by decide +kernel
theorem dX9_copy_57 : decode cX9_copy 57 = .ok (.iconst 4, 1) := by decide +kernel
theorem dX9_copy_58 : decode cX9_copy 58 = .ok (.invokevirtual 65, 3) := by decide +kernel
theorem dX9_copy_61 : decode cX9_copy 61 = .ok (.ireturn, 1) := by decide +kernel
theorem dX9_copy_62 : decode cX9_copy 62 = .ok (.iload_n 2, 1) := by decide +kernel
theorem dX9_copy_63 : decode cX9_copy 63 = .ok (.ifCond .lt 48, 3) := by decide +kernel
theorem dX9_copy_66 : decode cX9_copy 66 = .ok (.iload 4, 2) := by decide +kernel
theorem dX9_copy_68 : decode cX9_copy 68 = .ok (.ifCond .lt 43, 3) := by decide +kernel
theorem dX9_copy_71 : decode cX9_copy 71 = .ok (.iload 5, 2) := by decide +kernel
theorem dX9_copy_73 : decode cX9_copy 73 = .ok (.ifCond .lt 38, 3) := by decide +kernel
theorem dX9_copy_76 : decode cX9_copy 76 = .ok (.iload_n 2, 1) := by decide +kernel
theorem dX9_copy_77 : decode cX9_copy 77 = .ok (.i2l, 1) := by decide +kernel
theorem dX9_copy_78 : decode cX9_copy 78 = .ok (.iload 5, 2) := by decide +kernel
theorem dX9_copy_80 : decode cX9_copy 80 = .ok (.i2l, 1) := by decide +kernel
theorem dX9_copy_81 : decode cX9_copy 81 = .ok (.ladd, 1) := by decide +kernel
theorem dX9_copy_82 : decode cX9_copy 82 = .ok (.aload_n 0, 1) := by decide +kernel
theorem dX9_copy_83 : decode cX9_copy 83 = .ok (.getfield 13, 3) := by decide +kernel
theorem dX9_copy_86 : decode cX9_copy 86 = .ok (.iload_n 1, 1) := by decide +kernel
theorem dX9_copy_87 : decode cX9_copy 87 = .ok (.iaload, 1) := by decide +kernel
theorem dX9_copy_88 : decode cX9_copy 88 = .ok (.i2l, 1) := by decide +kernel
theorem dX9_copy_89 : decode cX9_copy 89 = .ok (.lcmp, 1) := by decide +kernel
theorem dX9_copy_90 : decode cX9_copy 90 = .ok (.ifCond .gt 21, 3) := by decide +kernel
theorem dX9_copy_93 : decode cX9_copy 93 = .ok (.iload 4, 2) := by decide +kernel
theorem dX9_copy_95 : decode cX9_copy 95 = .ok (.i2l, 1) := by decide +kernel
theorem dX9_copy_96 : decode cX9_copy 96 = .ok (.iload 5, 2) := by decide +kernel
theorem dX9_copy_98 : decode cX9_copy 98 = .ok (.i2l, 1) := by decide +kernel
theorem dX9_copy_99 : decode cX9_copy 99 = .ok (.ladd, 1) := by decide +kernel
theorem dX9_copy_100 : decode cX9_copy 100 = .ok (.aload_n 0, 1) := by decide +kernel
theorem dX9_copy_101 : decode cX9_copy 101 = .ok (.getfield 13, 3) := by decide +kernel
theorem dX9_copy_104 : decode cX9_copy 104 = .ok (.iload_n 3, 1) := by decide +kernel
theorem dX9_copy_105 : decode cX9_copy 105 = .ok (.iaload, 1) := by decide +kernel
theorem dX9_copy_106 : decode cX9_copy 106 = .ok (.i2l, 1) := by decide +kernel
theorem dX9_copy_107 : decode cX9_copy 107 = .ok (.lcmp, 1) := by decide +kernel
theorem dX9_copy_108 : decode cX9_copy 108 = .ok (.ifCond .le 9, 3) := by decide +kernel
theorem dX9_copy_111 : decode cX9_copy 111 = .ok (.aload_n 0, 1) := by decide +kernel
theorem dX9_copy_112 : decode cX9_copy 112 = .ok (.iconst 2, 1) := by decide +kernel
theorem dX9_copy_113 : decode cX9_copy 113 = .ok (.invokevirtual 65, 3) := by decide +kernel
theorem dX9_copy_116 : decode cX9_copy 116 = .ok (.ireturn, 1) := by decide +kernel
theorem dX9_copy_117 : decode cX9_copy 117 = .ok (.iconst 0, 1) := by decide +kernel
theorem dX9_copy_118 : decode cX9_copy 118 = .ok (.istore 6, 2) := by decide +kernel
theorem dX9_copy_120 : decode cX9_copy 120 = .ok (.iload 6, 2) := by decide +kernel
theorem dX9_copy_122 : decode cX9_copy 122 = .ok (.iload 5, 2) := by decide +kernel
theorem dX9_copy_124 : decode cX9_copy 124 = .ok (.if_icmp .ge 30, 3) := by decide +kernel
theorem dX9_copy_127 : decode cX9_copy 127 = .ok (.aload_n 0, 1) := by decide +kernel
theorem dX9_copy_128 : decode cX9_copy 128 = .ok (.getfield 19, 3) := by decide +kernel
theorem dX9_copy_131 : decode cX9_copy 131 = .ok (.iload 6, 2) := by decide +kernel
theorem dX9_copy_133 : decode cX9_copy 133 = .ok (.aload_n 0, 1) := by decide +kernel
theorem dX9_copy_134 : decode cX9_copy 134 = .ok (.getfield 16, 3) := by decide +kernel
theorem dX9_copy_137 : decode cX9_copy 137 = .ok (.bipush 60, 2) := by decide +kernel
theorem dX9_copy_139 : decode cX9_copy 139 = .ok (.iload_n 1, 1) := by decide +kernel
theorem dX9_copy_140 : decode cX9_copy 140 = .ok (.imul, 1) := by decide +kernel
theorem dX9_copy_141 : decode cX9_copy 141 = .ok (.iload_n 2, 1) := by decide +kernel
theorem dX9_copy_142 : decode cX9_copy 142 = .ok (.iadd, 1) := by decide +kernel
theorem dX9_copy_143 : decode cX9_copy 143 = .ok (.iload 6, 2) := by decide +kernel
theorem dX9_copy_145 : decode cX9_copy 145 = .ok (.iadd, 1) := by decide +kernel
theorem dX9_copy_146 : decode cX9_copy 146 = .ok (.iaload, 1) := by decide +kernel
theorem dX9_copy_147 : decode cX9_copy 147 = .ok (.iastore, 1) := by decide +kernel
theorem dX9_copy_148 : decode cX9_copy 148 = .ok (.iinc 6 1, 3) := by decide +kernel
theorem dX9_copy_151 : decode cX9_copy 151 = .ok (.goto (-31), 3) := by decide +kernel
theorem dX9_copy_154 : decode cX9_copy 154 = .ok (.iconst 0, 1) := by decide +kernel
theorem dX9_copy_155 : decode cX9_copy 155 = .ok (.istore 6, 2) := by decide +kernel
theorem dX9_copy_157 : decode cX9_copy 157 = .ok (.iload 6, 2) := by decide +kernel
theorem dX9_copy_159 : decode cX9_copy 159 = .ok (.iload 5, 2) := by decide +kernel
theorem dX9_copy_161 : decode cX9_copy 161 = .ok (.if_icmp .ge 31, 3) := by decide +kernel
theorem dX9_copy_164 : decode cX9_copy 164 = .ok (.aload_n 0, 1) := by decide +kernel
theorem dX9_copy_165 : decode cX9_copy 165 = .ok (.getfield 16, 3) := by decide +kernel
theorem dX9_copy_168 : decode cX9_copy 168 = .ok (.bipush 60, 2) := by decide +kernel
theorem dX9_copy_170 : decode cX9_copy 170 = .ok (.iload_n 3, 1) := by decide +kernel
theorem dX9_copy_171 : decode cX9_copy 171 = .ok (.imul, 1) := by decide +kernel
theorem dX9_copy_172 : decode cX9_copy 172 = .ok (.iload 4, 2) := by decide +kernel
theorem dX9_copy_174 : decode cX9_copy 174 = .ok (.iadd, 1) := by decide +kernel
theorem dX9_copy_175 : decode cX9_copy 175 = .ok (.iload 6, 2) := by decide +kernel
theorem dX9_copy_177 : decode cX9_copy 177 = .ok (.iadd, 1) := by decide +kernel
theorem dX9_copy_178 : decode cX9_copy 178 = .ok (.aload_n 0, 1) := by decide +kernel
theorem dX9_copy_179 : decode cX9_copy 179 = .ok (.getfield 19, 3) := by decide +kernel
theorem dX9_copy_182 : decode cX9_copy 182 = .ok (.iload 6, 2) := by decide +kernel
theorem dX9_copy_184 : decode cX9_copy 184 = .ok (.iaload, 1) := by decide +kernel
theorem dX9_copy_185 : decode cX9_copy 185 = .ok (.iastore, 1) := by decide +kernel
theorem dX9_copy_186 : decode cX9_copy 186 = .ok (.iinc 6 1, 3) := by decide +kernel
theorem dX9_copy_189 : decode cX9_copy 189 = .ok (.goto (-32), 3) := by decide +kernel
theorem dX9_copy_192 : decode cX9_copy 192 = .ok (.iconst 1, 1) := by decide +kernel
theorem dX9_copy_193 : decode cX9_copy 193 = .ok (.ireturn, 1) := by decide +kernel
theorem dX9_isText_0 : decode cX9_isText 0 = .ok (.iload_n 0, 1) := by decide +kernel
theorem dX9_isText_1 : decode cX9_isText 1 = .ok (.i2l, 1) := by decide +kernel
theorem dX9_isText_2 : decode cX9_isText 2 = .ok (.lconst 0, 1) := by decide +kernel
theorem dX9_isText_3 : decode cX9_isText 3 = .ok (.ldc2_w 57, 3) := by decide +kernel
theorem dX9_isText_6 : decode cX9_isText 6 = .ok (.invokestatic 49, 3) := by decide +kernel
theorem dX9_isText_9 : decode cX9_isText 9 = .ok (.ireturn, 1) := by decide +kernel
theorem dX9_isSpring_0 : decode cX9_isSpring 0 = .ok (.iload_n 0, 1) := by decide +kernel
theorem dX9_isSpring_1 : decode cX9_isSpring 1 = .ok (.i2l, 1) := by decide +kernel
theorem dX9_isSpring_2 : decode cX9_isSpring 2 = .ok (.lconst 0, 1) := by decide +kernel
theorem dX9_isSpring_3 : decode cX9_isSpring 3 = .ok (.ldc2_w 63, 3) := by decide +kernel
theorem dX9_isSpring_6 : decode cX9_isSpring 6 = .ok (.invokestatic 49, 3) := by decide +kernel
theorem dX9_isSpring_9 : decode cX9_isSpring 9 = .ok (.ireturn, 1) := by decide +kernel
theorem dX9_isDay_0 : decode cX9_isDay 0 = .ok (.iload_n 0, 1) := by decide +kernel
theorem dX9_isDay_1 : decode cX9_isDay 1 = .ok (.i2l, 1) := by decide +kernel
theorem dX9_isDay_2 : decode cX9_isDay 2 = .ok (.lconst 0, 1) := by decide +kernel
theorem dX9_isDay_3 : decode cX9_isDay 3 = .ok (.ldc2_w 78, 3) := by decide +kernel
theorem dX9_isDay_6 : decode cX9_isDay 6 = .ok (.invokestatic 49, 3) := by decide +kernel
theorem dX9_isDay_9 : decode cX9_isDay 9 = .ok (.ireturn, 1) := by decide +kernel
theorem dX9_type_0 : decode cX9_type 0 = .ok (.iload_n 1, 1) := by decide +kernel
theorem dX9_type_1 : decode cX9_type 1 = .ok (.invokestatic 80, 3) := by decide +kernel
theorem dX9_type_4 : decode cX9_type 4 = .ok (.ifCond .eq 15, 3) := by decide +kernel
theorem dX9_type_7 : decode cX9_type 7 = .ok (.iload_n 2, 1) := by decide +kernel
theorem dX9_type_8 : decode cX9_type 8 = .ok (.i2l, 1) := by decide +kernel
theorem dX9_type_9 : decode cX9_type 9 = .ok (.lconst 0, 1) := by decide +kernel
theorem dX9_type_10 : decode cX9_type 10 = .ok (.ldc2_w 83, 3) := by decide +kernel
theorem dX9_type_13 : decode cX9_type 13 = .ok (.invokestatic 49, 3) := by decide +kernel
theorem dX9_type_16 : decode cX9_type 16 = .ok (.ifCond .ne 6, 3) := by decide +kernel
theorem dX9_type_19 : decode cX9_type 19 = .ok (.bipush (-2), 2) := by decide +kernel
theorem dX9_type_21 : decode cX9_type 21 = .ok (.ireturn, 1) := by decide +kernel
theorem dX9_type_22 : decode cX9_type 22 = .ok (.aload_n 0, 1) := by decide +kernel
theorem dX9_type_23 : decode cX9_type 23 = .ok (.getfield 25, 3) := by decide +kernel
theorem dX9_type_26 : decode cX9_type 26 = .ok (.iload_n 1, 1) := by decide +kernel
theorem dX9_type_27 : decode cX9_type 27 = .ok (.iaload, 1) := by decide +kernel
theorem dX9_type_28 : decode cX9_type 28 = .ok (.iload_n 1, 1) := by decide +kernel
theorem dX9_type_29 : decode cX9_type 29 = .ok (.iconst 3, 1) := by decide +kernel
theorem dX9_type_30 : decode cX9_type 30 = .ok (.if_icmp .ne 8, 3) := by decide +kernel
theorem dX9_type_33 : decode cX9_type 33 = .ok (.bipush 12, 2) := by decide +kernel
theorem dX9_type_35 : decode cX9_type 35 = .ok (.goto 5, 3) := by decide +kernel
theorem dX9_type_38 : decode cX9_type 38 = .ok (.bipush 30, 2) := by decide +kernel
theorem dX9_type_40 : decode cX9_type 40 = .ok (.if_icmp .ne 6, 3) := by decide +kernel
theorem dX9_type_43 : decode cX9_type 43 = .ok (.bipush (-4), 2) := by decide +kernel
theorem dX9_type_45 : decode cX9_type 45 = .ok (.ireturn, 1) := by decide +kernel
theorem dX9_type_46 : decode cX9_type 46 = .ok (.aload_n 0, 1) := by decide +kernel
theorem dX9_type_47 : decode cX9_type 47 = .ok (.getfield 22, 3) := by decide +kernel
theorem dX9_type_50 : decode cX9_type 50 = .ok (.bipush 30, 2) := by decide +kernel
theorem dX9_type_52 : decode cX9_type 52 = .ok (.iload_n 1, 1) := by decide +kernel
theorem dX9_type_53 : decode cX9_type 53 = .ok (.imul, 1) := by decide +kernel
theorem dX9_type_54 : decode cX9_type 54 = .ok (.aload_n 0, 1) := by decide +kernel
theorem dX9_type_55 : decode cX9_type 55 = .ok (.getfield 25, 3) := by decide +kernel
theorem dX9_type_58 : decode cX9_type 58 = .ok (.iload_n 1, 1) := by decide +kernel
theorem dX9_type_59 : decode cX9_type 59 = .ok (.iaload, 1) := by decide +kernel
theorem dX9_type_60 : decode cX9_type 60 = .ok (.iadd, 1) := by decide +kernel
theorem dX9_type_61 : decode cX9_type 61 = .ok (.iload_n 2, 1) := by decide +kernel
theorem dX9_type_62 : decode cX9_type 62 = .ok (.iastore, 1) := by decide +kernel
theorem dX9_type_63 : decode cX9_type 63 = .ok (.aload_n 0, 1) := by decide +kernel
theorem dX9_type_64 : decode cX9_type 64 = .ok (.getfield 25, 3) := by decide +kernel
theorem dX9_type_67 : decode cX9_type 67 = .ok (.iload_n 1, 1) := by decide +kernel
theorem dX9_type_68 : decode cX9_type 68 = .ok (.dup2, 1) := by decide +kernel
theorem dX9_type_69 : decode cX9_type 69 = .ok (.iaload, 1) := by decide +kernel
theorem dX9_type_70 : decode cX9_type 70 = .ok (.iconst 1, 1) := by decide +kernel
theorem dX9_type_71 : decode cX9_type 71 = .ok (.iadd, 1) := by decide +kernel
theorem dX9_type_72 : decode cX9_type 72 = .ok (.iastore, 1) := by decide +kernel
theorem dX9_type_73 : decode cX9_type 73 = .ok (.aload_n 0, 1) := by decide +kernel
theorem dX9_type_74 : decode cX9_type 74 = .ok (.getfield 25, 3) := by decide +kernel
theorem dX9_type_77 : decode cX9_type 77 = .ok (.iload_n 1, 1) := by decide +kernel
theorem dX9_type_78 : decode cX9_type 78 = .ok (.iaload, 1) := by decide +kernel
theorem dX9_type_79 : decode cX9_type 79 = .ok (.ireturn, 1) := by decide +kernel
theorem dX9_undo_0 : decode cX9_undo 0 = .ok (.iload_n 1, 1) := by decide +kernel
theorem dX9_undo_1 : decode cX9_undo 1 = .ok (.invokestatic 80, 3) := by decide +kernel
theorem dX9_undo_4 : decode cX9_undo 4 = .ok (.ifCond .ne 6, 3) := by decide +kernel
theorem dX9_undo_7 : decode cX9_undo 7 = .ok (.bipush (-2), 2) := by decide +kernel
theorem dX9_undo_9 : decode cX9_undo 9 = .ok (.ireturn, 1) := by decide +kernel
theorem dX9_undo_10 : decode cX9_undo 10 = .ok (.aload_n 0, 1) := by decide +kernel
theorem dX9_undo_11 : decode cX9_undo 11 = .ok (.getfield 25, 3) := by decide +kernel
theorem dX9_undo_14 : decode cX9_undo 14 = .ok (.iload_n 1, 1) := by decide +kernel
theorem dX9_undo_15 : decode cX9_undo 15 = .ok (.iaload, 1) := by decide +kernel
theorem dX9_undo_16 : decode cX9_undo 16 = .ok (.ifCond .ne 6, 3) := by decide +kernel
theorem dX9_undo_19 : decode cX9_undo 19 = .ok (.bipush (-3), 2) := by decide +kernel
theorem dX9_undo_21 : decode cX9_undo 21 = .ok (.ireturn, 1) := by decide +kernel
theorem dX9_undo_22 : decode cX9_undo 22 = .ok (.aload_n 0, 1) := by decide +kernel
theorem dX9_undo_23 : decode cX9_undo 23 = .ok (.getfield 25, 3) := by decide +kernel
theorem dX9_undo_26 : decode cX9_undo 26 = .ok (.iload_n 1, 1) := by decide +kernel
theorem dX9_undo_27 : decode cX9_undo 27 = .ok (.dup2, 1) := by decide +kernel
theorem dX9_undo_28 : decode cX9_undo 28 = .ok (.iaload, 1) := by decide +kernel
theorem dX9_undo_29 : decode cX9_undo 29 = .ok (.iconst 1, 1) := by decide +kernel
theorem dX9_undo_30 : decode cX9_undo 30 = .ok (.isub, 1) := by decide +kernel
theorem dX9_undo_31 : decode cX9_undo 31 = .ok (.iastore, 1) := by decide +kernel
theorem dX9_undo_32 : decode cX9_undo 32 = .ok (.aload_n 0, 1) := by decide +kernel
theorem dX9_undo_33 : decode cX9_undo 33 = .ok (.getfield 25, 3) := by decide +kernel
theorem dX9_undo_36 : decode cX9_undo 36 = .ok (.iload_n 1, 1) := by decide +kernel
theorem dX9_undo_37 : decode cX9_undo 37 = .ok (.iaload, 1) := by decide +kernel
theorem dX9_undo_38 : decode cX9_undo 38 = .ok (.ireturn, 1) := by decide +kernel
theorem dX9_wipe_0 : decode cX9_wipe 0 = .ok (.iload_n 1, 1) := by decide +kernel
theorem dX9_wipe_1 : decode cX9_wipe 1 = .ok (.invokestatic 80, 3) := by decide +kernel
theorem dX9_wipe_4 : decode cX9_wipe 4 = .ok (.ifCond .ne 6, 3) := by decide +kernel
theorem dX9_wipe_7 : decode cX9_wipe 7 = .ok (.bipush (-2), 2) := by decide +kernel
theorem dX9_wipe_9 : decode cX9_wipe 9 = .ok (.ireturn, 1) := by decide +kernel
theorem dX9_wipe_10 : decode cX9_wipe 10 = .ok (.aload_n 0, 1) := by decide +kernel
theorem dX9_wipe_11 : decode cX9_wipe 11 = .ok (.getfield 25, 3) := by decide +kernel
theorem dX9_wipe_14 : decode cX9_wipe 14 = .ok (.iload_n 1, 1) := by decide +kernel
theorem dX9_wipe_15 : decode cX9_wipe 15 = .ok (.iaload, 1) := by decide +kernel
theorem dX9_wipe_16 : decode cX9_wipe 16 = .ok (.istore_n 2, 1) := by decide +kernel
theorem dX9_wipe_17 : decode cX9_wipe 17 = .ok (.aload_n 0, 1) := by decide +kernel
theorem dX9_wipe_18 : decode cX9_wipe 18 = .ok (.getfield 25, 3) := by decide +kernel
theorem dX9_wipe_21 : decode cX9_wipe 21 = .ok (.iload_n 1, 1) := by decide +kernel
theorem dX9_wipe_22 : decode cX9_wipe 22 = .ok (.iconst 0, 1) := by decide +kernel
theorem dX9_wipe_23 : decode cX9_wipe 23 = .ok (.iastore, 1) := by decide +kernel
theorem dX9_wipe_24 : decode cX9_wipe 24 = .ok (.iload_n 2, 1) := by decide +kernel
theorem dX9_wipe_25 : decode cX9_wipe 25 = .ok (.ireturn, 1) := by decide +kernel
theorem dX9_faultOf_0 : decode cX9_faultOf 0 = .ok (.iconst 0, 1) := by decide +kernel
theorem dX9_faultOf_1 : decode cX9_faultOf 1 = .ok (.istore_n 2, 1) := by decide +kernel
theorem dX9_faultOf_2 : decode cX9_faultOf 2 = .ok (.iload_n 2, 1) := by decide +kernel
theorem dX9_faultOf_3 : decode cX9_faultOf 3 = .ok (.aload_n 0, 1) := by decide +kernel
theorem dX9_faultOf_4 : decode cX9_faultOf 4 = .ok (.getfield 25, 3) := by decide +kernel
theorem dX9_faultOf_7 : decode cX9_faultOf 7 = .ok (.iload_n 1, 1) := by decide +kernel
theorem dX9_faultOf_8 : decode cX9_faultOf 8 = .ok (.iaload, 1) := by decide +kernel
theorem dX9_faultOf_9 : decode cX9_faultOf 9 = .ok (.if_icmp .ge 35, 3) := by decide +kernel
theorem dX9_faultOf_12 : decode cX9_faultOf 12 = .ok (.aload_n 0, 1) := by decide +kernel
theorem dX9_faultOf_13 : decode cX9_faultOf 13 = .ok (.getfield 22, 3) := by decide +kernel
theorem dX9_faultOf_16 : decode cX9_faultOf 16 = .ok (.bipush 30, 2) := by decide +kernel
theorem dX9_faultOf_18 : decode cX9_faultOf 18 = .ok (.iload_n 1, 1) := by decide +kernel
theorem dX9_faultOf_19 : decode cX9_faultOf 19 = .ok (.imul, 1) := by decide +kernel
theorem dX9_faultOf_20 : decode cX9_faultOf 20 = .ok (.iload_n 2, 1) := by decide +kernel
theorem dX9_faultOf_21 : decode cX9_faultOf 21 = .ok (.iadd, 1) := by decide +kernel
theorem dX9_faultOf_22 : decode cX9_faultOf 22 = .ok (.iaload, 1) := by decide +kernel
theorem dX9_faultOf_23 : decode cX9_faultOf 23 = .ok (.i2l, 1) := by decide +kernel
theorem dX9_faultOf_24 : decode cX9_faultOf 24 = .ok (.ldc2_w 85, 3) := by decide +kernel
theorem dX9_faultOf_27 : decode cX9_faultOf 27 = .ok (.ldc2_w 87, 3) := by decide +kernel
theorem dX9_faultOf_30 : decode cX9_faultOf 30 = .ok (.invokestatic 49, 3) := by decide +kernel
theorem dX9_faultOf_33 : decode cX9_faultOf 33 = .ok (.ifCond .ne 5, 3) := by decide +kernel
theorem dX9_faultOf_36 : decode cX9_faultOf 36 = .ok (.iload_n 2, 1) := by decide +kernel
theorem dX9_faultOf_37 : decode cX9_faultOf 37 = .ok (.ireturn, 1) := by decide +kernel
theorem dX9_faultOf_38 : decode cX9_faultOf 38 = .ok (.iinc 2 1, 3) := by decide +kernel
theorem dX9_faultOf_41 : decode cX9_faultOf 41 = .ok (.goto (-39), 3) := by decide +kernel
theorem dX9_faultOf_44 : decode cX9_faultOf 44 = .ok (.iconst (-1), 1) := by decide +kernel
theorem dX9_faultOf_45 : decode cX9_faultOf 45 = .ok (.ireturn, 1) := by decide +kernel
theorem dX9_fault_0 : decode cX9_fault 0 = .ok (.iload_n 1, 1) := by decide +kernel
theorem dX9_fault_1 : decode cX9_fault 1 = .ok (.invokestatic 80, 3) := by decide +kernel
theorem dX9_fault_4 : decode cX9_fault 4 = .ok (.ifCond .eq 11, 3) := by decide +kernel
theorem dX9_fault_7 : decode cX9_fault 7 = .ok (.aload_n 0, 1) := by decide +kernel
theorem dX9_fault_8 : decode cX9_fault 8 = .ok (.iload_n 1, 1) := by decide +kernel
theorem dX9_fault_9 : decode cX9_fault 9 = .ok (.invokevirtual 89, 3) := by decide +kernel
theorem dX9_fault_12 : decode cX9_fault 12 = .ok (.goto 5, 3) := by decide +kernel
theorem dX9_fault_15 : decode cX9_fault 15 = .ok (.bipush (-2), 2) := by decide +kernel
theorem dX9_fault_17 : decode cX9_fault 17 = .ok (.ireturn, 1) := by decide +kernel
theorem dX9_figures_0 : decode cX9_figures 0 = .ok (.aload_n 0, 1) := by decide +kernel
theorem dX9_figures_1 : decode cX9_figures 1 = .ok (.iload_n 1, 1) := by decide +kernel
theorem dX9_figures_2 : decode cX9_figures 2 = .ok (.invokevirtual 89, 3) := by decide +kernel
theorem dX9_figures_5 : decode cX9_figures 5 = .ok (.iconst (-1), 1) := by decide +kernel
theorem dX9_figures_6 : decode cX9_figures 6 = .ok (.if_icmp .ne 12, 3) := by decide +kernel
theorem dX9_figures_9 : decode cX9_figures 9 = .ok (.aload_n 0, 1) := by decide +kernel
theorem dX9_figures_10 : decode cX9_figures 10 = .ok (.getfield 25, 3) := by decide +kernel
theorem dX9_figures_13 : decode cX9_figures 13 = .ok (.iload_n 1, 1) := by decide +kernel
theorem dX9_figures_14 : decode cX9_figures 14 = .ok (.iaload, 1) := by decide +kernel
theorem dX9_figures_15 : decode cX9_figures 15 = .ok (.goto 4, 3) := by decide +kernel
theorem dX9_figures_18 : decode cX9_figures 18 = .ok (.iconst 0, 1) := by decide +kernel
theorem dX9_figures_19 : decode cX9_figures 19 = .ok (.ireturn, 1) := by decide +kernel
theorem dX9_yards_0 : decode cX9_yards 0 = .ok (.aload_n 0, 1) := by decide +kernel
theorem dX9_yards_1 : decode cX9_yards 1 = .ok (.iconst 3, 1) := by decide +kernel
theorem dX9_yards_2 : decode cX9_yards 2 = .ok (.invokevirtual 92, 3) := by decide +kernel
theorem dX9_yards_5 : decode cX9_yards 5 = .ok (.ireturn, 1) := by decide +kernel
theorem dX9_isYard_0 : decode cX9_isYard 0 = .ok (.iload_n 1, 1) := by decide +kernel
theorem dX9_isYard_1 : decode cX9_isYard 1 = .ok (.i2l, 1) := by decide +kernel
theorem dX9_isYard_2 : decode cX9_isYard 2 = .ok (.lconst 0, 1) := by decide +kernel
theorem dX9_isYard_3 : decode cX9_isYard 3 = .ok (.aload_n 0, 1) := by decide +kernel
theorem dX9_isYard_4 : decode cX9_isYard 4 = .ok (.invokevirtual 95, 3) := by decide +kernel
theorem dX9_isYard_7 : decode cX9_isYard 7 = .ok (.iconst 1, 1) := by decide +kernel
theorem dX9_isYard_8 : decode cX9_isYard 8 = .ok (.isub, 1) := by decide +kernel
theorem dX9_isYard_9 : decode cX9_isYard 9 = .ok (.i2l, 1) := by decide +kernel
theorem dX9_isYard_10 : decode cX9_isYard 10 = .ok (.invokestatic 49, 3) := by decide +kernel
theorem dX9_isYard_13 : decode cX9_isYard 13 = .ok (.ireturn, 1) := by decide +kernel
theorem dX9_heightOf_0 : decode cX9_heightOf 0 = .ok (.aload_n 0, 1) := by decide +kernel
theorem dX9_heightOf_1 : decode cX9_heightOf 1 = .ok (.getfield 22, 3) := by decide +kernel
theorem dX9_heightOf_4 : decode cX9_heightOf 4 = .ok (.bipush 90, 2) := by decide +kernel
theorem dX9_heightOf_6 : decode cX9_heightOf 6 = .ok (.iload_n 1, 1) := by decide +kernel
theorem dX9_heightOf_7 : decode cX9_heightOf 7 = .ok (.iadd, 1) := by decide +kernel
theorem dX9_heightOf_8 : decode cX9_heightOf 8 = .ok (.iaload, 1) := by decide +kernel
theorem dX9_heightOf_9 : decode cX9_heightOf 9 = .ok (.bipush 48, 2) := by decide +kernel
theorem dX9_heightOf_11 : decode cX9_heightOf 11 = .ok (.isub, 1) := by decide +kernel
theorem dX9_heightOf_12 : decode cX9_heightOf 12 = .ok (.ireturn, 1) := by decide +kernel
theorem dX9_height_0 : decode cX9_height 0 = .ok (.aload_n 0, 1) := by decide +kernel
theorem dX9_height_1 : decode cX9_height 1 = .ok (.iload_n 1, 1) := by decide +kernel
theorem dX9_height_2 : decode cX9_height 2 = .ok (.invokevirtual 99, 3) := by decide +kernel
theorem dX9_height_5 : decode cX9_height 5 = .ok (.ifCond .eq 11, 3) := by decide +kernel
theorem dX9_height_8 : decode cX9_height 8 = .ok (.aload_n 0, 1) := by decide +kernel
theorem dX9_height_9 : decode cX9_height 9 = .ok (.iload_n 1, 1) := by decide +kernel
theorem dX9_height_10 : decode cX9_height 10 = .ok (.invokevirtual 102, 3) := by decide +kernel
theorem dX9_height_13 : decode cX9_height 13 = .ok (.goto 5, 3) := by decide +kernel
theorem dX9_height_16 : decode cX9_height 16 = .ok (.bipush (-2), 2) := by decide +kernel
theorem dX9_height_18 : decode cX9_height 18 = .ok (.ireturn, 1) := by decide +kernel
theorem dX9_levelOf_0 : decode cX9_levelOf 0 = .ok (.iload_n 2, 1) := by decide +kernel
theorem dX9_levelOf_1 : decode cX9_levelOf 1 = .ok (.aload_n 0, 1) := by decide +kernel
theorem dX9_levelOf_2 : decode cX9_levelOf 2 = .ok (.iload_n 1, 1) := by decide +kernel
theorem dX9_levelOf_3 : decode cX9_levelOf 3 = .ok (.invokevirtual 92, 3) := by decide +kernel
theorem dX9_levelOf_6 : decode cX9_levelOf 6 = .ok (.if_icmp .ge 20, 3) := by decide +kernel
theorem dX9_levelOf_9 : decode cX9_levelOf 9 = .ok (.aload_n 0, 1) := by decide +kernel
theorem dX9_levelOf_10 : decode cX9_levelOf 10 = .ok (.getfield 22, 3) := by decide +kernel
theorem dX9_levelOf_13 : decode cX9_levelOf 13 = .ok (.bipush 30, 2) := by decide +kernel
theorem dX9_levelOf_15 : decode cX9_levelOf 15 = .ok (.iload_n 1, 1) := by decide +kernel
theorem dX9_levelOf_16 : decode cX9_levelOf 16 = .ok (.imul, 1) := by decide +kernel
theorem dX9_levelOf_17 : decode cX9_levelOf 17 = .ok (.iload_n 2, 1) := by decide +kernel
theorem dX9_levelOf_18 : decode cX9_levelOf 18 = .ok (.iadd, 1) := by decide +kernel
theorem dX9_levelOf_19 : decode cX9_levelOf 19 = .ok (.iaload, 1) := by decide +kernel
theorem dX9_levelOf_20 : decode cX9_levelOf 20 = .ok (.bipush 48, 2) := by decide +kernel
theorem dX9_levelOf_22 : decode cX9_levelOf 22 = .ok (.isub, 1) := by decide +kernel
theorem dX9_levelOf_23 : decode cX9_levelOf 23 = .ok (.goto 4, 3) := by decide +kernel
theorem dX9_levelOf_26 : decode cX9_levelOf 26 = .ok (.iconst 0, 1) := by decide +kernel
theorem dX9_levelOf_27 : decode cX9_levelOf 27 = .ok (.ireturn, 1) := by decide +kernel
theorem dX9_level_0 : decode cX9_level 0 = .ok (.iload_n 1, 1) := by decide +kernel
theorem dX9_level_1 : decode cX9_level 1 = .ok (.invokestatic 105, 3) := by decide +kernel
theorem dX9_level_4 : decode cX9_level 4 = .ok (.ifCond .eq 19, 3) := by decide +kernel
theorem dX9_level_7 : decode cX9_level 7 = .ok (.iload_n 2, 1) := by decide +kernel
theorem dX9_level_8 : decode cX9_level 8 = .ok (.invokestatic 108, 3) := by decide +kernel
theorem dX9_level_11 : decode cX9_level 11 = .ok (.ifCond .eq 12, 3) := by decide +kernel
theorem dX9_level_14 : decode cX9_level 14 = .ok (.aload_n 0, 1) := by decide +kernel
theorem dX9_level_15 : decode cX9_level 15 = .ok (.iload_n 1, 1) := by decide +kernel
theorem dX9_level_16 : decode cX9_level 16 = .ok (.iload_n 2, 1) := by decide +kernel
theorem dX9_level_17 : decode cX9_level 17 = .ok (.invokevirtual 111, 3) := by decide +kernel
theorem dX9_level_20 : decode cX9_level 20 = .ok (.goto 5, 3) := by decide +kernel
theorem dX9_level_23 : decode cX9_level 23 = .ok (.bipush (-2), 2) := by decide +kernel
theorem dX9_level_25 : decode cX9_level 25 = .ok (.ireturn, 1) := by decide +kernel
theorem dX9_most_0 : decode cX9_most 0 = .ok (.iload_n 0, 1) := by decide +kernel
theorem dX9_most_1 : decode cX9_most 1 = .ok (.ifCond .eq 14, 3) := by decide +kernel
theorem dX9_most_4 : decode cX9_most 4 = .ok (.iload_n 0, 1) := by decide +kernel
theorem dX9_most_5 : decode cX9_most 5 = .ok (.iconst 3, 1) := by decide +kernel
theorem dX9_most_6 : decode cX9_most 6 = .ok (.if_icmp .eq 9, 3) := by decide +kernel
theorem dX9_most_9 : decode cX9_most 9 = .ok (.iload_n 0, 1) := by decide +kernel
theorem dX9_most_10 : decode cX9_most 10 = .ok (.bipush 6, 2) := by decide +kernel
theorem dX9_most_12 : decode cX9_most 12 = .ok (.if_icmp .ne 8, 3) := by decide +kernel
theorem dX9_most_15 : decode cX9_most 15 = .ok (.bipush 9, 2) := by decide +kernel
theorem dX9_most_17 : decode cX9_most 17 = .ok (.goto 15, 3) := by decide +kernel
theorem dX9_most_20 : decode cX9_most 20 = .ok (.iload_n 0, 1) := by decide +kernel
theorem dX9_most_21 : decode cX9_most 21 = .ok (.iconst 1, 1) := by decide +kernel
theorem dX9_most_22 : decode cX9_most 22 = .ok (.if_icmp .ne 8, 3) := by decide +kernel
theorem dX9_most_25 : decode cX9_most 25 = .ok (.bipush 29, 2) := by decide +kernel
theorem dX9_most_27 : decode cX9_most 27 = .ok (.goto 5, 3) := by decide +kernel
theorem dX9_most_30 : decode cX9_most 30 = .ok (.bipush 99, 2) := by decide +kernel
theorem dX9_most_32 : decode cX9_most 32 = .ok (.ireturn, 1) := by decide +kernel
theorem dX9_set_0 : decode cX9_set 0 = .ok (.iload_n 1, 1) := by decide +kernel
theorem dX9_set_1 : decode cX9_set 1 = .ok (.i2l, 1) := by decide +kernel
theorem dX9_set_2 : decode cX9_set 2 = .ok (.lconst 0, 1) := by decide +kernel
theorem dX9_set_3 : decode cX9_set 3 = .ok (.ldc2_w 114, 3) := by decide +kernel
theorem dX9_set_6 : decode cX9_set 6 = .ok (.invokestatic 49, 3) := by decide +kernel
theorem dX9_set_9 : decode cX9_set 9 = .ok (.ifCond .eq 26, 3) := by decide +kernel
theorem dX9_set_12 : decode cX9_set 12 = .ok (.iload_n 2, 1) := by decide +kernel
theorem dX9_set_13 : decode cX9_set 13 = .ok (.i2l, 1) := by decide +kernel
theorem dX9_set_14 : decode cX9_set 14 = .ok (.iload_n 1, 1) := by decide +kernel
theorem dX9_set_15 : decode cX9_set 15 = .ok (.iconst 3, 1) := by decide +kernel
theorem dX9_set_16 : decode cX9_set 16 = .ok (.if_icmp .ne 7, 3) := by decide +kernel
theorem dX9_set_19 : decode cX9_set 19 = .ok (.lconst 1, 1) := by decide +kernel
theorem dX9_set_20 : decode cX9_set 20 = .ok (.goto 4, 3) := by decide +kernel
theorem dX9_set_23 : decode cX9_set 23 = .ok (.lconst 0, 1) := by decide +kernel
theorem dX9_set_24 : decode cX9_set 24 = .ok (.iload_n 1, 1) := by decide +kernel
theorem dX9_set_25 : decode cX9_set 25 = .ok (.invokestatic 116, 3) := by decide +kernel
theorem dX9_set_28 : decode cX9_set 28 = .ok (.i2l, 1) := by decide +kernel
theorem dX9_set_29 : decode cX9_set 29 = .ok (.invokestatic 49, 3) := by decide +kernel
theorem dX9_set_32 : decode cX9_set 32 = .ok (.ifCond .ne 6, 3) := by decide +kernel
theorem dX9_set_35 : decode cX9_set 35 = .ok (.bipush (-2), 2) := by decide +kernel
theorem dX9_set_37 : decode cX9_set 37 = .ok (.ireturn, 1) := by decide +kernel
theorem dX9_set_38 : decode cX9_set 38 = .ok (.aload_n 0, 1) := by decide +kernel
theorem dX9_set_39 : decode cX9_set 39 = .ok (.getfield 28, 3) := by decide +kernel
theorem dX9_set_42 : decode cX9_set 42 = .ok (.iload_n 1, 1) := by decide +kernel
theorem dX9_set_43 : decode cX9_set 43 = .ok (.iaload, 1) := by decide +kernel
theorem dX9_set_44 : decode cX9_set 44 = .ok (.istore_n 3, 1) := by decide +kernel
theorem dX9_set_45 : decode cX9_set 45 = .ok (.aload_n 0, 1) := by decide +kernel
theorem dX9_set_46 : decode cX9_set 46 = .ok (.getfield 28, 3) := by decide +kernel
theorem dX9_set_49 : decode cX9_set 49 = .ok (.iload_n 1, 1) := by decide +kernel
theorem dX9_set_50 : decode cX9_set 50 = .ok (.iload_n 2, 1) := by decide +kernel
theorem dX9_set_51 : decode cX9_set 51 = .ok (.iastore, 1) := by decide +kernel
theorem dX9_set_52 : decode cX9_set 52 = .ok (.iload_n 3, 1) := by decide +kernel
theorem dX9_set_53 : decode cX9_set 53 = .ok (.ireturn, 1) := by decide +kernel
theorem dX9_odds_0 : decode cX9_odds 0 = .ok (.iload_n 1, 1) := by decide +kernel
theorem dX9_odds_1 : decode cX9_odds 1 = .ok (.invokestatic 105, 3) := by decide +kernel
theorem dX9_odds_4 : decode cX9_odds 4 = .ok (.ifCond .eq 15, 3) := by decide +kernel
theorem dX9_odds_7 : decode cX9_odds 7 = .ok (.iload_n 2, 1) := by decide +kernel
theorem dX9_odds_8 : decode cX9_odds 8 = .ok (.i2l, 1) := by decide +kernel
theorem dX9_odds_9 : decode cX9_odds 9 = .ok (.lconst 0, 1) := by decide +kernel
theorem dX9_odds_10 : decode cX9_odds 10 = .ok (.ldc2_w 119, 3) := by decide +kernel
theorem dX9_odds_13 : decode cX9_odds 13 = .ok (.invokestatic 49, 3) := by decide +kernel
theorem dX9_odds_16 : decode cX9_odds 16 = .ok (.ifCond .ne 6, 3) := by decide +kernel
theorem dX9_odds_19 : decode cX9_odds 19 = .ok (.bipush (-2), 2) := by decide +kernel
theorem dX9_odds_21 : decode cX9_odds 21 = .ok (.ireturn, 1) := by decide +kernel
theorem dX9_odds_22 : decode cX9_odds 22 = .ok (.aload_n 0, 1) := by decide +kernel
theorem dX9_odds_23 : decode cX9_odds 23 = .ok (.getfield 31, 3) := by decide +kernel
theorem dX9_odds_26 : decode cX9_odds 26 = .ok (.iload_n 1, 1) := by decide +kernel
theorem dX9_odds_27 : decode cX9_odds 27 = .ok (.iaload, 1) := by decide +kernel
theorem dX9_odds_28 : decode cX9_odds 28 = .ok (.istore_n 3, 1) := by decide +kernel
theorem dX9_odds_29 : decode cX9_odds 29 = .ok (.aload_n 0, 1) := by decide +kernel
theorem dX9_odds_30 : decode cX9_odds 30 = .ok (.getfield 31, 3) := by decide +kernel
theorem dX9_odds_33 : decode cX9_odds 33 = .ok (.iload_n 1, 1) := by decide +kernel
theorem dX9_odds_34 : decode cX9_odds 34 = .ok (.iload_n 2, 1) := by decide +kernel
theorem dX9_odds_35 : decode cX9_odds 35 = .ok (.iastore, 1) := by decide +kernel
theorem dX9_odds_36 : decode cX9_odds 36 = .ok (.iload_n 3, 1) := by decide +kernel
theorem dX9_odds_37 : decode cX9_odds 37 = .ok (.ireturn, 1) := by decide +kernel
theorem dX9_dike_0 : decode cX9_dike 0 = .ok (.iload_n 1, 1) := by decide +kernel
theorem dX9_dike_1 : decode cX9_dike 1 = .ok (.i2l, 1) := by decide +kernel
theorem dX9_dike_2 : decode cX9_dike 2 = .ok (.lconst 0, 1) := by decide +kernel
theorem dX9_dike_3 : decode cX9_dike 3 = .ok (.ldc2_w 121, 3) := by decide +kernel
theorem dX9_dike_6 : decode cX9_dike 6 = .ok (.invokestatic 49, 3) := by decide +kernel
theorem dX9_dike_9 : decode cX9_dike 9 = .ok (.ifCond .eq 23, 3) := by decide +kernel
theorem dX9_dike_12 : decode cX9_dike 12 = .ok (.iload_n 2, 1) := by decide +kernel
theorem dX9_dike_13 : decode cX9_dike 13 = .ok (.i2l, 1) := by decide +kernel
theorem dX9_dike_14 : decode cX9_dike 14 = .ok (.iload_n 1, 1) := by decide +kernel
theorem dX9_dike_15 : decode cX9_dike 15 = .ok (.i2l, 1) := by decide +kernel
theorem dX9_dike_16 : decode cX9_dike 16 = .ok (.ldc2_w 121, 3) := by decide +kernel
theorem dX9_dike_19 : decode cX9_dike 19 = .ok (.invokestatic 49, 3) := by decide +kernel
theorem dX9_dike_22 : decode cX9_dike 22 = .ok (.ifCond .eq 10, 3) := by decide +kernel
theorem dX9_dike_25 : decode cX9_dike 25 = .ok (.iload_n 3, 1) := by decide +kernel
theorem dX9_dike_26 : decode cX9_dike 26 = .ok (.invokestatic 108, 3) := by decide +kernel
theorem dX9_dike_29 : decode cX9_dike 29 = .ok (.ifCond .ne 6, 3) := by decide +kernel
theorem dX9_dike_32 : decode cX9_dike 32 = .ok (.bipush (-2), 2) := by decide +kernel
theorem dX9_dike_34 : decode cX9_dike 34 = .ok (.ireturn, 1) := by decide +kernel
theorem dX9_dike_35 : decode cX9_dike 35 = .ok (.aload_n 0, 1) := by decide +kernel
theorem dX9_dike_36 : decode cX9_dike 36 = .ok (.getfield 123, 3) := by decide +kernel
theorem dX9_dike_39 : decode cX9_dike 39 = .ok (.bipush 8, 2) := by decide +kernel
theorem dX9_dike_41 : decode cX9_dike 41 = .ok (.if_icmp .ne 6, 3) := by decide +kernel
theorem dX9_dike_44 : decode cX9_dike 44 = .ok (.bipush (-4), 2) := by decide +kernel
theorem dX9_dike_46 : decode cX9_dike 46 = .ok (.ireturn, 1) := by decide +kernel
theorem dX9_dike_47 : decode cX9_dike 47 = .ok (.aload_n 0, 1) := by decide +kernel
theorem dX9_dike_48 : decode cX9_dike 48 = .ok (.getfield 34, 3) := by decide +kernel
theorem dX9_dike_51 : decode cX9_dike 51 = .ok (.iconst 3, 1) := by decide +kernel
theorem dX9_dike_52 : decode cX9_dike 52 = .ok (.aload_n 0, 1) := by decide +kernel
theorem dX9_dike_53 : decode cX9_dike 53 = .ok (.getfield 123, 3) := by decide +kernel
theorem dX9_dike_56 : decode cX9_dike 56 = .ok (.imul, 1) := by decide +kernel
theorem dX9_dike_57 : decode cX9_dike 57 = .ok (.iload_n 1, 1) := by decide +kernel
theorem dX9_dike_58 : decode cX9_dike 58 = .ok (.iastore, 1) := by decide +kernel
theorem dX9_dike_59 : decode cX9_dike 59 = .ok (.aload_n 0, 1) := by decide +kernel
theorem dX9_dike_60 : decode cX9_dike 60 = .ok (.getfield 34, 3) := by decide +kernel
theorem dX9_dike_63 : decode cX9_dike 63 = .ok (.iconst 3, 1) := by decide +kernel
theorem dX9_dike_64 : decode cX9_dike 64 = .ok (.aload_n 0, 1) := by decide +kernel
theorem dX9_dike_65 : decode cX9_dike 65 = .ok (.getfield 123, 3) := by decide +kernel
theorem dX9_dike_68 : decode cX9_dike 68 = .ok (.imul, 1) := by decide +kernel
theorem dX9_dike_69 : decode cX9_dike 69 = .ok (.iconst 1, 1) := by decide +kernel
theorem dX9_dike_70 : decode cX9_dike 70 = .ok (.iadd, 1) := by decide +kernel
theorem dX9_dike_71 : decode cX9_dike 71 = .ok (.iload_n 2, 1) := by decide +kernel
theorem dX9_dike_72 : decode cX9_dike 72 = .ok (.iastore, 1) := by decide +kernel
theorem dX9_dike_73 : decode cX9_dike 73 = .ok (.aload_n 0, 1) := by decide +kernel
theorem dX9_dike_74 : decode cX9_dike 74 = .ok (.getfield 34, 3) := by decide +kernel
theorem dX9_dike_77 : decode cX9_dike 77 = .ok (.iconst 3, 1) := by decide +kernel
theorem dX9_dike_78 : decode cX9_dike 78 = .ok (.aload_n 0, 1) := by decide +kernel
theorem dX9_dike_79 : decode cX9_dike 79 = .ok (.getfield 123, 3) := by decide +kernel
theorem dX9_dike_82 : decode cX9_dike 82 = .ok (.imul, 1) := by decide +kernel
theorem dX9_dike_83 : decode cX9_dike 83 = .ok (.iconst 2, 1) := by decide +kernel
theorem dX9_dike_84 : decode cX9_dike 84 = .ok (.iadd, 1) := by decide +kernel
theorem dX9_dike_85 : decode cX9_dike 85 = .ok (.iload_n 3, 1) := by decide +kernel
theorem dX9_dike_86 : decode cX9_dike 86 = .ok (.iastore, 1) := by decide +kernel
theorem dX9_dike_87 : decode cX9_dike 87 = .ok (.aload_n 0, 1) := by decide +kernel
theorem dX9_dike_88 : decode cX9_dike 88 = .ok (.dup, 1) := by decide +kernel
theorem dX9_dike_89 : decode cX9_dike 89 = .ok (.getfield 123, 3) := by decide +kernel
theorem dX9_dike_92 : decode cX9_dike 92 = .ok (.iconst 1, 1) := by decide +kernel
theorem dX9_dike_93 : decode cX9_dike 93 = .ok (.iadd, 1) := by decide +kernel
theorem dX9_dike_94 : decode cX9_dike 94 = .ok (.putfield 123, 3) := by decide +kernel
theorem dX9_dike_97 : decode cX9_dike 97 = .ok (.aload_n 0, 1) := by decide +kernel
theorem dX9_dike_98 : decode cX9_dike 98 = .ok (.getfield 123, 3) := by decide +kernel
theorem dX9_dike_101 : decode cX9_dike 101 = .ok (.ireturn, 1) := by decide +kernel
theorem dX9_read_0 : decode cX9_read 0 = .ok (.iload_n 1, 1) := by decide +kernel
theorem dX9_read_1 : decode cX9_read 1 = .ok (.invokestatic 59, 3) := by decide +kernel
theorem dX9_read_4 : decode cX9_read 4 = .ok (.ifCond .ne 6, 3) := by decide +kernel
theorem dX9_read_7 : decode cX9_read 7 = .ok (.bipush (-2), 2) := by decide +kernel
theorem dX9_read_9 : decode cX9_read 9 = .ok (.ireturn, 1) := by decide +kernel
theorem dX9_read_10 : decode cX9_read 10 = .ok (.aload_n 0, 1) := by decide +kernel
theorem dX9_read_11 : decode cX9_read 11 = .ok (.getfield 7, 3) := by decide +kernel
theorem dX9_read_14 : decode cX9_read 14 = .ok (.iload_n 1, 1) := by decide +kernel
theorem dX9_read_15 : decode cX9_read 15 = .ok (.iaload, 1) := by decide +kernel
theorem dX9_read_16 : decode cX9_read 16 = .ok (.ifCond .ge 9, 3) := by decide +kernel
theorem dX9_read_19 : decode cX9_read 19 = .ok (.aload_n 0, 1) := by decide +kernel
theorem dX9_read_20 : decode cX9_read 20 = .ok (.iconst 1, 1) := by decide +kernel
theorem dX9_read_21 : decode cX9_read 21 = .ok (.invokevirtual 65, 3) := by decide +kernel
theorem dX9_read_24 : decode cX9_read 24 = .ok (.ireturn, 1) := by decide +kernel
theorem dX9_read_25 : decode cX9_read 25 = .ok (.iconst 0, 1) := by decide +kernel
theorem dX9_read_26 : decode cX9_read 26 = .ok (.istore_n 2, 1) := by decide +kernel
theorem dX9_read_27 : decode cX9_read 27 = .ok (.iconst 1, 1) := by decide +kernel
theorem dX9_read_28 : decode cX9_read 28 = .ok (.istore_n 3, 1) := by decide +kernel
theorem dX9_read_29 : decode cX9_read 29 = .ok (.iload_n 3, 1) := by decide +kernel
theorem dX9_read_30 : decode cX9_read 30 = .ok (.ifCond .eq 80, 3) := by decide +kernel
theorem dX9_read_33 : decode cX9_read 33 = .ok (.iconst 3, 1) := by decide +kernel
theorem dX9_read_34 : decode cX9_read 34 = .ok (.iload_n 2, 1) := by decide +kernel
theorem dX9_read_35 : decode cX9_read 35 = .ok (.imul, 1) := by decide +kernel
theorem dX9_read_36 : decode cX9_read 36 = .ok (.iconst 3, 1) := by decide +kernel
theorem dX9_read_37 : decode cX9_read 37 = .ok (.iadd, 1) := by decide +kernel
theorem dX9_read_38 : decode cX9_read 38 = .ok (.aload_n 0, 1) := by decide +kernel
theorem dX9_read_39 : decode cX9_read 39 = .ok (.getfield 13, 3) := by decide +kernel
theorem dX9_read_42 : decode cX9_read 42 = .ok (.iload_n 1, 1) := by decide +kernel
theorem dX9_read_43 : decode cX9_read 43 = .ok (.iaload, 1) := by decide +kernel
theorem dX9_read_44 : decode cX9_read 44 = .ok (.if_icmp .gt 66, 3) := by decide +kernel
theorem dX9_read_47 : decode cX9_read 47 = .ok (.bipush 60, 2) := by decide +kernel
theorem dX9_read_49 : decode cX9_read 49 = .ok (.iload_n 1, 1) := by decide +kernel
theorem dX9_read_50 : decode cX9_read 50 = .ok (.imul, 1) := by decide +kernel
theorem dX9_read_51 : decode cX9_read 51 = .ok (.iconst 3, 1) := by decide +kernel
theorem dX9_read_52 : decode cX9_read 52 = .ok (.iload_n 2, 1) := by decide +kernel
theorem dX9_read_53 : decode cX9_read 53 = .ok (.imul, 1) := by decide +kernel
theorem dX9_read_54 : decode cX9_read 54 = .ok (.iadd, 1) := by decide +kernel
theorem dX9_read_55 : decode cX9_read 55 = .ok (.istore 4, 2) := by decide +kernel
theorem dX9_read_57 : decode cX9_read 57 = .ok (.aload_n 0, 1) := by decide +kernel
theorem dX9_read_58 : decode cX9_read 58 = .ok (.aload_n 0, 1) := by decide +kernel
theorem dX9_read_59 : decode cX9_read 59 = .ok (.getfield 16, 3) := by decide +kernel
theorem dX9_read_62 : decode cX9_read 62 = .ok (.iload 4, 2) := by decide +kernel
theorem dX9_read_64 : decode cX9_read 64 = .ok (.iaload, 1) := by decide +kernel
theorem dX9_read_65 : decode cX9_read 65 = .ok (.aload_n 0, 1) := by decide +kernel
theorem dX9_read_66 : decode cX9_read 66 = .ok (.getfield 16, 3) := by decide +kernel
theorem dX9_read_69 : decode cX9_read 69 = .ok (.iload 4, 2) := by decide +kernel
theorem dX9_read_71 : decode cX9_read 71 = .ok (.iconst 1, 1) := by decide +kernel
theorem dX9_read_72 : decode cX9_read 72 = .ok (.iadd, 1) := by decide +kernel
theorem dX9_read_73 : decode cX9_read 73 = .ok (.iaload, 1) := by decide +kernel
theorem dX9_read_74 : decode cX9_read 74 = .ok (.aload_n 0, 1) := by decide +kernel
theorem dX9_read_75 : decode cX9_read 75 = .ok (.getfield 16, 3) := by decide +kernel
theorem dX9_read_78 : decode cX9_read 78 = .ok (.iload 4, 2) := by decide +kernel
theorem dX9_read_80 : decode cX9_read 80 = .ok (.iconst 2, 1) := by decide +kernel
theorem dX9_read_81 : decode cX9_read 81 = .ok (.iadd, 1) := by decide +kernel
theorem dX9_read_82 : decode cX9_read 82 = .ok (.iaload, 1) := by decide +kernel
theorem dX9_read_83 : decode cX9_read 83 = .ok (.invokevirtual 126, 3) := by decide +kernel
theorem dX9_read_86 : decode cX9_read 86 = .ok (.ifCond .lt 7, 3) := by decide +kernel
theorem dX9_read_89 : decode cX9_read 89 = .ok (.iconst 1, 1) := by decide +kernel
theorem dX9_read_90 : decode cX9_read 90 = .ok (.goto 4, 3) := by decide +kernel
theorem dX9_read_93 : decode cX9_read 93 = .ok (.iconst 0, 1) := by decide +kernel
theorem dX9_read_94 : decode cX9_read 94 = .ok (.istore_n 3, 1) := by decide +kernel
theorem dX9_read_95 : decode cX9_read 95 = .ok (.iload_n 2, 1) := by decide +kernel
theorem dX9_read_96 : decode cX9_read 96 = .ok (.iload_n 3, 1) := by decide +kernel
theorem dX9_read_97 : decode cX9_read 97 = .ok (.ifCond .eq 7, 3) := by decide +kernel
theorem dX9_read_100 : decode cX9_read 100 = .ok (.iconst 1, 1) := by decide +kernel
theorem dX9_read_101 : decode cX9_read 101 = .ok (.goto 4, 3) := by decide +kernel
theorem dX9_read_104 : decode cX9_read 104 = .ok (.iconst 0, 1) := by decide +kernel
theorem dX9_read_105 : decode cX9_read 105 = .ok (.iadd, 1) := by decide +kernel
theorem dX9_read_106 : decode cX9_read 106 = .ok (.istore_n 2, 1) := by decide +kernel
theorem dX9_read_107 : decode cX9_read 107 = .ok (.goto (-78), 3) := by decide +kernel
theorem dX9_read_110 : decode cX9_read 110 = .ok (.iload_n 2, 1) := by decide +kernel
theorem dX9_read_111 : decode cX9_read 111 = .ok (.ireturn, 1) := by decide +kernel
theorem dX9_breaks_0 : decode cX9_breaks 0 = .ok (.aload_n 0, 1) := by decide +kernel
theorem dX9_breaks_1 : decode cX9_breaks 1 = .ok (.getfield 123, 3) := by decide +kernel
theorem dX9_breaks_4 : decode cX9_breaks 4 = .ok (.ifCond .ne 6, 3) := by decide +kernel
theorem dX9_breaks_7 : decode cX9_breaks 7 = .ok (.bipush (-3), 2) := by decide +kernel
theorem dX9_breaks_9 : decode cX9_breaks 9 = .ok (.ireturn, 1) := by decide +kernel
theorem dX9_breaks_10 : decode cX9_breaks 10 = .ok (.aload_n 0, 1) := by decide +kernel
theorem dX9_breaks_11 : decode cX9_breaks 11 = .ok (.dup, 1) := by decide +kernel
theorem dX9_breaks_12 : decode cX9_breaks 12 = .ok (.getfield 123, 3) := by decide +kernel
theorem dX9_breaks_15 : decode cX9_breaks 15 = .ok (.iconst 1, 1) := by decide +kernel
theorem dX9_breaks_16 : decode cX9_breaks 16 = .ok (.isub, 1) := by decide +kernel
theorem dX9_breaks_17 : decode cX9_breaks 17 = .ok (.putfield 123, 3) := by decide +kernel
theorem dX9_breaks_20 : decode cX9_breaks 20 = .ok (.aload_n 0, 1) := by decide +kernel
theorem dX9_breaks_21 : decode cX9_breaks 21 = .ok (.getfield 123, 3) := by decide +kernel
theorem dX9_breaks_24 : decode cX9_breaks 24 = .ok (.ireturn, 1) := by decide +kernel
theorem dX9_isKept_0 : decode cX9_isKept 0 = .ok (.iconst 0, 1) := by decide +kernel
theorem dX9_isKept_1 : decode cX9_isKept 1 = .ok (.istore_n 3, 1) := by decide +kernel
theorem dX9_isKept_2 : decode cX9_isKept 2 = .ok (.iconst 0, 1) := by decide +kernel
theorem dX9_isKept_3 : decode cX9_isKept 3 = .ok (.istore 4, 2) := by decide +kernel
theorem dX9_isKept_5 : decode cX9_isKept 5 = .ok (.iload 4, 2) := by decide +kernel
theorem dX9_isKept_7 : decode cX9_isKept 7 = .ok (.aload_n 0, 1) := by decide +kernel
theorem dX9_isKept_8 : decode cX9_isKept 8 = .ok (.getfield 123, 3) := by decide +kernel
theorem dX9_isKept_11 : decode cX9_isKept 11 = .ok (.if_icmp .ge 84, 3) := by decide +kernel
theorem dX9_isKept_14 : decode cX9_isKept 14 = .ok (.iload_n 3, 1) := by decide +kernel
theorem dX9_isKept_15 : decode cX9_isKept 15 = .ok (.ifCond .ne 68, 3) := by decide +kernel
theorem dX9_isKept_18 : decode cX9_isKept 18 = .ok (.iload_n 2, 1) := by decide +kernel
theorem dX9_isKept_19 : decode cX9_isKept 19 = .ok (.i2l, 1) := by decide +kernel
theorem dX9_isKept_20 : decode cX9_isKept 20 = .ok (.aload_n 0, 1) := by decide +kernel
theorem dX9_isKept_21 : decode cX9_isKept 21 = .ok (.getfield 34, 3) := by decide +kernel
theorem dX9_isKept_24 : decode cX9_isKept 24 = .ok (.iconst 3, 1) := by decide +kernel
theorem dX9_isKept_25 : decode cX9_isKept 25 = .ok (.iload 4, 2) := by decide +kernel
theorem dX9_isKept_27 : decode cX9_isKept 27 = .ok (.imul, 1) := by decide +kernel
theorem dX9_isKept_28 : decode cX9_isKept 28 = .ok (.iaload, 1) := by decide +kernel
theorem dX9_isKept_29 : decode cX9_isKept 29 = .ok (.i2l, 1) := by decide +kernel
theorem dX9_isKept_30 : decode cX9_isKept 30 = .ok (.aload_n 0, 1) := by decide +kernel
theorem dX9_isKept_31 : decode cX9_isKept 31 = .ok (.getfield 34, 3) := by decide +kernel
theorem dX9_isKept_34 : decode cX9_isKept 34 = .ok (.iconst 3, 1) := by decide +kernel
theorem dX9_isKept_35 : decode cX9_isKept 35 = .ok (.iload 4, 2) := by decide +kernel
theorem dX9_isKept_37 : decode cX9_isKept 37 = .ok (.imul, 1) := by decide +kernel
theorem dX9_isKept_38 : decode cX9_isKept 38 = .ok (.iconst 1, 1) := by decide +kernel
theorem dX9_isKept_39 : decode cX9_isKept 39 = .ok (.iadd, 1) := by decide +kernel
theorem dX9_isKept_40 : decode cX9_isKept 40 = .ok (.iaload, 1) := by decide +kernel
theorem dX9_isKept_41 : decode cX9_isKept 41 = .ok (.i2l, 1) := by decide +kernel
theorem dX9_isKept_42 : decode cX9_isKept 42 = .ok (.invokestatic 49, 3) := by decide +kernel
theorem dX9_isKept_45 : decode cX9_isKept 45 = .ok (.ifCond .eq 42, 3) := by decide +kernel
theorem dX9_isKept_48 : decode cX9_isKept 48 = .ok (.iload_n 1, 1) := by decide +kernel
theorem dX9_isKept_49 : decode cX9_isKept 49 = .ok (.i2l, 1) := by decide +kernel
theorem dX9_isKept_50 : decode cX9_isKept 50 = .ok (.aload_n 0, 1) := by decide +kernel
theorem dX9_isKept_51 : decode cX9_isKept 51 = .ok (.getfield 34, 3) := by decide +kernel
theorem dX9_isKept_54 : decode cX9_isKept 54 = .ok (.iconst 3, 1) := by decide +kernel
theorem dX9_isKept_55 : decode cX9_isKept 55 = .ok (.iload 4, 2) := by decide +kernel
theorem dX9_isKept_57 : decode cX9_isKept 57 = .ok (.imul, 1) := by decide +kernel
theorem dX9_isKept_58 : decode cX9_isKept 58 = .ok (.iconst 2, 1) := by decide +kernel
theorem dX9_isKept_59 : decode cX9_isKept 59 = .ok (.iadd, 1) := by decide +kernel
theorem dX9_isKept_60 : decode cX9_isKept 60 = .ok (.iaload, 1) := by decide +kernel
theorem dX9_isKept_61 : decode cX9_isKept 61 = .ok (.i2l, 1) := by decide +kernel
theorem dX9_isKept_62 : decode cX9_isKept 62 = .ok (.aload_n 0, 1) := by decide +kernel
theorem dX9_isKept_63 : decode cX9_isKept 63 = .ok (.getfield 34, 3) := by decide +kernel
theorem dX9_isKept_66 : decode cX9_isKept 66 = .ok (.iconst 3, 1) := by decide +kernel
theorem dX9_isKept_67 : decode cX9_isKept 67 = .ok (.iload 4, 2) := by decide +kernel
theorem dX9_isKept_69 : decode cX9_isKept 69 = .ok (.imul, 1) := by decide +kernel
theorem dX9_isKept_70 : decode cX9_isKept 70 = .ok (.iconst 2, 1) := by decide +kernel
theorem dX9_isKept_71 : decode cX9_isKept 71 = .ok (.iadd, 1) := by decide +kernel
theorem dX9_isKept_72 : decode cX9_isKept 72 = .ok (.iaload, 1) := by decide +kernel
theorem dX9_isKept_73 : decode cX9_isKept 73 = .ok (.bipush 6, 2) := by decide +kernel
theorem dX9_isKept_75 : decode cX9_isKept 75 = .ok (.iadd, 1) := by decide +kernel
theorem dX9_isKept_76 : decode cX9_isKept 76 = .ok (.i2l, 1) := by decide +kernel
theorem dX9_isKept_77 : decode cX9_isKept 77 = .ok (.invokestatic 49, 3) := by decide +kernel
theorem dX9_isKept_80 : decode cX9_isKept 80 = .ok (.ifCond .eq 7, 3) := by decide +kernel
theorem dX9_isKept_83 : decode cX9_isKept 83 = .ok (.iconst 1, 1) := by decide +kernel
theorem dX9_isKept_84 : decode cX9_isKept 84 = .ok (.goto 4, 3) := by decide +kernel
theorem dX9_isKept_87 : decode cX9_isKept 87 = .ok (.iconst 0, 1) := by decide +kernel
theorem dX9_isKept_88 : decode cX9_isKept 88 = .ok (.istore_n 3, 1) := by decide +kernel
theorem dX9_isKept_89 : decode cX9_isKept 89 = .ok (.iinc 4 1, 3) := by decide +kernel
theorem dX9_isKept_92 : decode cX9_isKept 92 = .ok (.goto (-87), 3) := by decide +kernel
theorem dX9_isKept_95 : decode cX9_isKept 95 = .ok (.iload_n 3, 1) := by decide +kernel
theorem dX9_isKept_96 : decode cX9_isKept 96 = .ok (.ireturn, 1) := by decide +kernel
theorem dX9_possessionOf_0 : decode cX9_possessionOf 0 = .ok (.iconst 0, 1) := by decide +kernel
theorem dX9_possessionOf_1 : decode cX9_possessionOf 1 = .ok (.istore_n 2, 1) := by decide +kernel
theorem dX9_possessionOf_2 : decode cX9_possessionOf 2 = .ok (.iload_n 2, 1) := by decide +kernel
theorem dX9_possessionOf_3 : decode cX9_possessionOf 3 = .ok (.aload_n 0, 1) := by decide +kernel
theorem dX9_possessionOf_4 : decode cX9_possessionOf 4 = .ok (.getfield 28, 3) := by decide +kernel
theorem dX9_possessionOf_7 : decode cX9_possessionOf 7 = .ok (.iconst 1, 1) := by decide +kernel
theorem dX9_possessionOf_8 : decode cX9_possessionOf 8 = .ok (.iaload, 1) := by decide +kernel
theorem dX9_possessionOf_9 : decode cX9_possessionOf 9 = .ok (.if_icmp .gt 26, 3) := by decide +kernel
theorem dX9_possessionOf_12 : decode cX9_possessionOf 12 = .ok (.aload_n 0, 1) := by decide +kernel
theorem dX9_possessionOf_13 : decode cX9_possessionOf 13 = .ok (.iload_n 1, 1) := by decide +kernel
theorem dX9_possessionOf_14 : decode cX9_possessionOf 14 = .ok (.iload_n 2, 1) := by decide +kernel
theorem dX9_possessionOf_15 : decode cX9_possessionOf 15 = .ok (.invokevirtual 111, 3) := by decide +kernel
theorem dX9_possessionOf_18 : decode cX9_possessionOf 18 = .ok (.aload_n 0, 1) := by decide +kernel
theorem dX9_possessionOf_19 : decode cX9_possessionOf 19 = .ok (.getfield 28, 3) := by decide +kernel
theorem dX9_possessionOf_22 : decode cX9_possessionOf 22 = .ok (.iconst 0, 1) := by decide +kernel
theorem dX9_possessionOf_23 : decode cX9_possessionOf 23 = .ok (.iaload, 1) := by decide +kernel
theorem dX9_possessionOf_24 : decode cX9_possessionOf 24 = .ok (.if_icmp .lt 5, 3) := by decide +kernel
theorem dX9_possessionOf_27 : decode cX9_possessionOf 27 = .ok (.iload_n 2, 1) := by decide +kernel
theorem dX9_possessionOf_28 : decode cX9_possessionOf 28 = .ok (.ireturn, 1) := by decide +kernel
theorem dX9_possessionOf_29 : decode cX9_possessionOf 29 = .ok (.iinc 2 1, 3) := by decide +kernel
theorem dX9_possessionOf_32 : decode cX9_possessionOf 32 = .ok (.goto (-30), 3) := by decide +kernel
theorem dX9_possessionOf_35 : decode cX9_possessionOf 35 = .ok (.iconst (-1), 1) := by decide +kernel
theorem dX9_possessionOf_36 : decode cX9_possessionOf 36 = .ok (.ireturn, 1) := by decide +kernel
theorem dX9_possession_0 : decode cX9_possession 0 = .ok (.iload_n 1, 1) := by decide +kernel
theorem dX9_possession_1 : decode cX9_possession 1 = .ok (.invokestatic 105, 3) := by decide +kernel
theorem dX9_possession_4 : decode cX9_possession 4 = .ok (.ifCond .eq 11, 3) := by decide +kernel
theorem dX9_possession_7 : decode cX9_possession 7 = .ok (.aload_n 0, 1) := by decide +kernel
theorem dX9_possession_8 : decode cX9_possession 8 = .ok (.iload_n 1, 1) := by decide +kernel
theorem dX9_possession_9 : decode cX9_possession 9 = .ok (.invokevirtual 128, 3) := by decide +kernel
theorem dX9_possession_12 : decode cX9_possession 12 = .ok (.goto 5, 3) := by decide +kernel
theorem dX9_possession_15 : decode cX9_possession 15 = .ok (.bipush (-2), 2) := by decide +kernel
theorem dX9_possession_17 : decode cX9_possession 17 = .ok (.ireturn, 1) := by decide +kernel
theorem dX9_isWet_0 : decode cX9_isWet 0 = .ok (.aload_n 0, 1) := by decide +kernel
theorem dX9_isWet_1 : decode cX9_isWet 1 = .ok (.iload_n 1, 1) := by decide +kernel
theorem dX9_isWet_2 : decode cX9_isWet 2 = .ok (.invokevirtual 128, 3) := by decide +kernel
theorem dX9_isWet_5 : decode cX9_isWet 5 = .ok (.istore 4, 2) := by decide +kernel
theorem dX9_isWet_7 : decode cX9_isWet 7 = .ok (.iload 4, 2) := by decide +kernel
theorem dX9_isWet_9 : decode cX9_isWet 9 = .ok (.iconst (-1), 1) := by decide +kernel
theorem dX9_isWet_10 : decode cX9_isWet 10 = .ok (.if_icmp .eq 48, 3) := by decide +kernel
theorem dX9_isWet_13 : decode cX9_isWet 13 = .ok (.iload_n 2, 1) := by decide +kernel
theorem dX9_isWet_14 : decode cX9_isWet 14 = .ok (.i2l, 1) := by decide +kernel
theorem dX9_isWet_15 : decode cX9_isWet 15 = .ok (.iload 4, 2) := by decide +kernel
theorem dX9_isWet_17 : decode cX9_isWet 17 = .ok (.i2l, 1) := by decide +kernel
theorem dX9_isWet_18 : decode cX9_isWet 18 = .ok (.aload_n 0, 1) := by decide +kernel
theorem dX9_isWet_19 : decode cX9_isWet 19 = .ok (.getfield 28, 3) := by decide +kernel
theorem dX9_isWet_22 : decode cX9_isWet 22 = .ok (.iconst 1, 1) := by decide +kernel
theorem dX9_isWet_23 : decode cX9_isWet 23 = .ok (.iaload, 1) := by decide +kernel
theorem dX9_isWet_24 : decode cX9_isWet 24 = .ok (.i2l, 1) := by decide +kernel
theorem dX9_isWet_25 : decode cX9_isWet 25 = .ok (.invokestatic 49, 3) := by decide +kernel
theorem dX9_isWet_28 : decode cX9_isWet 28 = .ok (.ifCond .eq 30, 3) := by decide +kernel
theorem dX9_isWet_31 : decode cX9_isWet 31 = .ok (.aload_n 0, 1) := by decide +kernel
theorem dX9_isWet_32 : decode cX9_isWet 32 = .ok (.iload_n 1, 1) := by decide +kernel
theorem dX9_isWet_33 : decode cX9_isWet 33 = .ok (.iload_n 2, 1) := by decide +kernel
theorem dX9_isWet_34 : decode cX9_isWet 34 = .ok (.invokevirtual 111, 3) := by decide +kernel
theorem dX9_isWet_37 : decode cX9_isWet 37 = .ok (.aload_n 0, 1) := by decide +kernel
theorem dX9_isWet_38 : decode cX9_isWet 38 = .ok (.iload_n 3, 1) := by decide +kernel
theorem dX9_isWet_39 : decode cX9_isWet 39 = .ok (.invokevirtual 102, 3) := by decide +kernel
theorem dX9_isWet_42 : decode cX9_isWet 42 = .ok (.if_icmp .le 16, 3) := by decide +kernel
theorem dX9_isWet_45 : decode cX9_isWet 45 = .ok (.aload_n 0, 1) := by decide +kernel
theorem dX9_isWet_46 : decode cX9_isWet 46 = .ok (.iload_n 2, 1) := by decide +kernel
theorem dX9_isWet_47 : decode cX9_isWet 47 = .ok (.iload_n 3, 1) := by decide +kernel
theorem dX9_isWet_48 : decode cX9_isWet 48 = .ok (.invokevirtual 131, 3) := by decide +kernel
theorem dX9_isWet_51 : decode cX9_isWet 51 = .ok (.ifCond .ne 7, 3) := by decide +kernel
theorem dX9_isWet_54 : decode cX9_isWet 54 = .ok (.iconst 1, 1) := by decide +kernel
theorem dX9_isWet_55 : decode cX9_isWet 55 = .ok (.goto 4, 3) := by decide +kernel
theorem dX9_isWet_58 : decode cX9_isWet 58 = .ok (.iconst 0, 1) := by decide +kernel
theorem dX9_isWet_59 : decode cX9_isWet 59 = .ok (.ireturn, 1) := by decide +kernel
theorem dX9_wet_0 : decode cX9_wet 0 = .ok (.iload_n 1, 1) := by decide +kernel
theorem dX9_wet_1 : decode cX9_wet 1 = .ok (.invokestatic 105, 3) := by decide +kernel
theorem dX9_wet_4 : decode cX9_wet 4 = .ok (.ifCond .eq 36, 3) := by decide +kernel
theorem dX9_wet_7 : decode cX9_wet 7 = .ok (.iload_n 2, 1) := by decide +kernel
theorem dX9_wet_8 : decode cX9_wet 8 = .ok (.invokestatic 108, 3) := by decide +kernel
theorem dX9_wet_11 : decode cX9_wet 11 = .ok (.ifCond .eq 29, 3) := by decide +kernel
theorem dX9_wet_14 : decode cX9_wet 14 = .ok (.aload_n 0, 1) := by decide +kernel
theorem dX9_wet_15 : decode cX9_wet 15 = .ok (.iload_n 3, 1) := by decide +kernel
theorem dX9_wet_16 : decode cX9_wet 16 = .ok (.invokevirtual 99, 3) := by decide +kernel
theorem dX9_wet_19 : decode cX9_wet 19 = .ok (.ifCond .eq 21, 3) := by decide +kernel
theorem dX9_wet_22 : decode cX9_wet 22 = .ok (.aload_n 0, 1) := by decide +kernel
theorem dX9_wet_23 : decode cX9_wet 23 = .ok (.iload_n 1, 1) := by decide +kernel
theorem dX9_wet_24 : decode cX9_wet 24 = .ok (.iload_n 2, 1) := by decide +kernel
theorem dX9_wet_25 : decode cX9_wet 25 = .ok (.iload_n 3, 1) := by decide +kernel
theorem dX9_wet_26 : decode cX9_wet 26 = .ok (.invokevirtual 135, 3) := by decide +kernel
theorem dX9_wet_29 : decode cX9_wet 29 = .ok (.ifCond .eq 7, 3) := by decide +kernel
theorem dX9_wet_32 : decode cX9_wet 32 = .ok (.iconst 1, 1) := by decide +kernel
theorem dX9_wet_33 : decode cX9_wet 33 = .ok (.goto 9, 3) := by decide +kernel
theorem dX9_wet_36 : decode cX9_wet 36 = .ok (.iconst 0, 1) := by decide +kernel
theorem dX9_wet_37 : decode cX9_wet 37 = .ok (.goto 5, 3) := by decide +kernel
theorem dX9_wet_40 : decode cX9_wet 40 = .ok (.bipush (-2), 2) := by decide +kernel
theorem dX9_wet_42 : decode cX9_wet 42 = .ok (.ireturn, 1) := by decide +kernel
theorem dX9_waterOf_0 : decode cX9_waterOf 0 = .ok (.iconst 0, 1) := by decide +kernel
theorem dX9_waterOf_1 : decode cX9_waterOf 1 = .ok (.istore 4, 2) := by decide +kernel
theorem dX9_waterOf_3 : decode cX9_waterOf 3 = .ok (.iconst 0, 1) := by decide +kernel
theorem dX9_waterOf_4 : decode cX9_waterOf 4 = .ok (.istore 5, 2) := by decide +kernel
theorem dX9_waterOf_6 : decode cX9_waterOf 6 = .ok (.iload 5, 2) := by decide +kernel
theorem dX9_waterOf_8 : decode cX9_waterOf 8 = .ok (.aload_n 0, 1) := by decide +kernel
theorem dX9_waterOf_9 : decode cX9_waterOf 9 = .ok (.invokevirtual 95, 3) := by decide +kernel
theorem dX9_waterOf_12 : decode cX9_waterOf 12 = .ok (.if_icmp .ge 33, 3) := by decide +kernel
theorem dX9_waterOf_15 : decode cX9_waterOf 15 = .ok (.iload 4, 2) := by decide +kernel
theorem dX9_waterOf_17 : decode cX9_waterOf 17 = .ok (.aload_n 0, 1) := by decide +kernel
theorem dX9_waterOf_18 : decode cX9_waterOf 18 = .ok (.iload_n 1, 1) := by decide +kernel
theorem dX9_waterOf_19 : decode cX9_waterOf 19 = .ok (.iload_n 2, 1) := by decide +kernel
theorem dX9_waterOf_20 : decode cX9_waterOf 20 = .ok (.iload 5, 2) := by decide +kernel
theorem dX9_waterOf_22 : decode cX9_waterOf 22 = .ok (.invokevirtual 135, 3) := by decide +kernel
theorem dX9_waterOf_25 : decode cX9_waterOf 25 = .ok (.ifCond .eq 10, 3) := by decide +kernel
theorem dX9_waterOf_28 : decode cX9_waterOf 28 = .ok (.iconst 1, 1) := by decide +kernel
theorem dX9_waterOf_29 : decode cX9_waterOf 29 = .ok (.iload 5, 2) := by decide +kernel
theorem dX9_waterOf_31 : decode cX9_waterOf 31 = .ok (.ishl, 1) := by decide +kernel
theorem dX9_waterOf_32 : decode cX9_waterOf 32 = .ok (.goto 4, 3) := by decide +kernel
theorem dX9_waterOf_35 : decode cX9_waterOf 35 = .ok (.iconst 0, 1) := by decide +kernel
theorem dX9_waterOf_36 : decode cX9_waterOf 36 = .ok (.ior, 1) := by decide +kernel
theorem dX9_waterOf_37 : decode cX9_waterOf 37 = .ok (.istore 4, 2) := by decide +kernel
theorem dX9_waterOf_39 : decode cX9_waterOf 39 = .ok (.iinc 5 1, 3) := by decide +kernel
theorem dX9_waterOf_42 : decode cX9_waterOf 42 = .ok (.goto (-36), 3) := by decide +kernel
theorem dX9_waterOf_45 : decode cX9_waterOf 45 = .ok (.iload_n 3, 1) := by decide +kernel
theorem dX9_waterOf_46 : decode cX9_waterOf 46 = .ok (.ifCond .ne 6, 3) := by decide +kernel
theorem dX9_waterOf_49 : decode cX9_waterOf 49 = .ok (.iload 4, 2) := by decide +kernel
theorem dX9_waterOf_51 : decode cX9_waterOf 51 = .ok (.ireturn, 1) := by decide +kernel
theorem dX9_waterOf_52 : decode cX9_waterOf 52 = .ok (.iconst 0, 1) := by decide +kernel
theorem dX9_waterOf_53 : decode cX9_waterOf 53 = .ok (.istore 5, 2) := by decide +kernel
theorem dX9_waterOf_55 : decode cX9_waterOf 55 = .ok (.iconst 1, 1) := by decide +kernel
theorem dX9_waterOf_56 : decode cX9_waterOf 56 = .ok (.istore 6, 2) := by decide +kernel
theorem dX9_waterOf_58 : decode cX9_waterOf 58 = .ok (.iload 6, 2) := by decide +kernel
theorem dX9_waterOf_60 : decode cX9_waterOf 60 = .ok (.aload_n 0, 1) := by decide +kernel
theorem dX9_waterOf_61 : decode cX9_waterOf 61 = .ok (.invokevirtual 95, 3) := by decide +kernel
theorem dX9_waterOf_64 : decode cX9_waterOf 64 = .ok (.iconst 1, 1) := by decide +kernel
theorem dX9_waterOf_65 : decode cX9_waterOf 65 = .ok (.isub, 1) := by decide +kernel
theorem dX9_waterOf_66 : decode cX9_waterOf 66 = .ok (.if_icmp .ge 56, 3) := by decide +kernel
theorem dX9_waterOf_69 : decode cX9_waterOf 69 = .ok (.iload 5, 2) := by decide +kernel
theorem dX9_waterOf_71 : decode cX9_waterOf 71 = .ok (.iload 4, 2) := by decide +kernel
theorem dX9_waterOf_73 : decode cX9_waterOf 73 = .ok (.iload 6, 2) := by decide +kernel
theorem dX9_waterOf_75 : decode cX9_waterOf 75 = .ok (.invokestatic 139, 3) := by decide +kernel
theorem dX9_waterOf_78 : decode cX9_waterOf 78 = .ok (.ifCond .ne 34, 3) := by decide +kernel
theorem dX9_waterOf_81 : decode cX9_waterOf 81 = .ok (.iload 4, 2) := by decide +kernel
theorem dX9_waterOf_83 : decode cX9_waterOf 83 = .ok (.iload 6, 2) := by decide +kernel
theorem dX9_waterOf_85 : decode cX9_waterOf 85 = .ok (.iconst 1, 1) := by decide +kernel
theorem dX9_waterOf_86 : decode cX9_waterOf 86 = .ok (.isub, 1) := by decide +kernel
theorem dX9_waterOf_87 : decode cX9_waterOf 87 = .ok (.invokestatic 139, 3) := by decide +kernel
theorem dX9_waterOf_90 : decode cX9_waterOf 90 = .ok (.ifCond .eq 22, 3) := by decide +kernel
theorem dX9_waterOf_93 : decode cX9_waterOf 93 = .ok (.iload 4, 2) := by decide +kernel
theorem dX9_waterOf_95 : decode cX9_waterOf 95 = .ok (.iload 6, 2) := by decide +kernel
theorem dX9_waterOf_97 : decode cX9_waterOf 97 = .ok (.iconst 1, 1) := by decide +kernel
theorem dX9_waterOf_98 : decode cX9_waterOf 98 = .ok (.iadd, 1) := by decide +kernel
theorem dX9_waterOf_99 : decode cX9_waterOf 99 = .ok (.invokestatic 139, 3) := by decide +kernel
theorem dX9_waterOf_102 : decode cX9_waterOf 102 = .ok (.ifCond .eq 10, 3) := by decide +kernel
theorem dX9_waterOf_105 : decode cX9_waterOf 105 = .ok (.iconst 1, 1) := by decide +kernel
theorem dX9_waterOf_106 : decode cX9_waterOf 106 = .ok (.iload 6, 2) := by decide +kernel
theorem dX9_waterOf_108 : decode cX9_waterOf 108 = .ok (.ishl, 1) := by decide +kernel
theorem dX9_waterOf_109 : decode cX9_waterOf 109 = .ok (.goto 4, 3) := by decide +kernel
theorem dX9_waterOf_112 : decode cX9_waterOf 112 = .ok (.iconst 0, 1) := by decide +kernel
theorem dX9_waterOf_113 : decode cX9_waterOf 113 = .ok (.ior, 1) := by decide +kernel
theorem dX9_waterOf_114 : decode cX9_waterOf 114 = .ok (.istore 5, 2) := by decide +kernel
theorem dX9_waterOf_116 : decode cX9_waterOf 116 = .ok (.iinc 6 1, 3) := by decide +kernel
theorem dX9_waterOf_119 : decode cX9_waterOf 119 = .ok (.goto (-61), 3) := by decide +kernel
theorem dX9_waterOf_122 : decode cX9_waterOf 122 = .ok (.iload 5, 2) := by decide +kernel
theorem dX9_waterOf_124 : decode cX9_waterOf 124 = .ok (.ireturn, 1) := by decide +kernel
theorem dX9_water_0 : decode cX9_water 0 = .ok (.iload_n 1, 1) := by decide +kernel
theorem dX9_water_1 : decode cX9_water 1 = .ok (.invokestatic 105, 3) := by decide +kernel
theorem dX9_water_4 : decode cX9_water 4 = .ok (.ifCond .eq 27, 3) := by decide +kernel
theorem dX9_water_7 : decode cX9_water 7 = .ok (.iload_n 2, 1) := by decide +kernel
theorem dX9_water_8 : decode cX9_water 8 = .ok (.invokestatic 108, 3) := by decide +kernel
theorem dX9_water_11 : decode cX9_water 11 = .ok (.ifCond .eq 20, 3) := by decide +kernel
theorem dX9_water_14 : decode cX9_water 14 = .ok (.iload_n 3, 1) := by decide +kernel
theorem dX9_water_15 : decode cX9_water 15 = .ok (.invokestatic 142, 3) := by decide +kernel
theorem dX9_water_18 : decode cX9_water 18 = .ok (.ifCond .eq 13, 3) := by decide +kernel
theorem dX9_water_21 : decode cX9_water 21 = .ok (.aload_n 0, 1) := by decide +kernel
theorem dX9_water_22 : decode cX9_water 22 = .ok (.iload_n 1, 1) := by decide +kernel
theorem dX9_water_23 : decode cX9_water 23 = .ok (.iload_n 2, 1) := by decide +kernel
theorem dX9_water_24 : decode cX9_water 24 = .ok (.iload_n 3, 1) := by decide +kernel
theorem dX9_water_25 : decode cX9_water 25 = .ok (.invokevirtual 145, 3) := by decide +kernel
theorem dX9_water_28 : decode cX9_water 28 = .ok (.goto 5, 3) := by decide +kernel
theorem dX9_water_31 : decode cX9_water 31 = .ok (.bipush (-2), 2) := by decide +kernel
theorem dX9_water_33 : decode cX9_water 33 = .ok (.ireturn, 1) := by decide +kernel
theorem dX9_lesser_0 : decode cX9_lesser 0 = .ok (.iload_n 0, 1) := by decide +kernel
theorem dX9_lesser_1 : decode cX9_lesser 1 = .ok (.iload_n 1, 1) := by decide +kernel
theorem dX9_lesser_2 : decode cX9_lesser 2 = .ok (.if_icmp .ge 7, 3) := by decide +kernel
theorem dX9_lesser_5 : decode cX9_lesser 5 = .ok (.iload_n 0, 1) := by decide +kernel
theorem dX9_lesser_6 : decode cX9_lesser 6 = .ok (.goto 4, 3) := by decide +kernel
theorem dX9_lesser_9 : decode cX9_lesser 9 = .ok (.iload_n 1, 1) := by decide +kernel
theorem dX9_lesser_10 : decode cX9_lesser 10 = .ok (.ireturn, 1) := by decide +kernel
theorem dX9_costOf_0 : decode cX9_costOf 0 = .ok (.iload_n 3, 1) := by decide +kernel
theorem dX9_costOf_1 : decode cX9_costOf 1 = .ok (.iload 4, 2) := by decide +kernel
theorem dX9_costOf_3 : decode cX9_costOf 3 = .ok (.invokestatic 148, 3) := by decide +kernel
theorem dX9_costOf_6 : decode cX9_costOf 6 = .ok (.istore 6, 2) := by decide +kernel
theorem dX9_costOf_8 : decode cX9_costOf 8 = .ok (.iload_n 3, 1) := by decide +kernel
theorem dX9_costOf_9 : decode cX9_costOf 9 = .ok (.iload 4, 2) := by decide +kernel
theorem dX9_costOf_11 : decode cX9_costOf 11 = .ok (.iadd, 1) := by decide +kernel
theorem dX9_costOf_12 : decode cX9_costOf 12 = .ok (.iload 6, 2) := by decide +kernel
theorem dX9_costOf_14 : decode cX9_costOf 14 = .ok (.isub, 1) := by decide +kernel
theorem dX9_costOf_15 : decode cX9_costOf 15 = .ok (.istore 7, 2) := by decide +kernel
theorem dX9_costOf_17 : decode cX9_costOf 17 = .ok (.aload_n 0, 1) := by decide +kernel
theorem dX9_costOf_18 : decode cX9_costOf 18 = .ok (.iload_n 1, 1) := by decide +kernel
theorem dX9_costOf_19 : decode cX9_costOf 19 = .ok (.iload_n 2, 1) := by decide +kernel
theorem dX9_costOf_20 : decode cX9_costOf 20 = .ok (.iconst 0, 1) := by decide +kernel
theorem dX9_costOf_21 : decode cX9_costOf 21 = .ok (.invokevirtual 145, 3) := by decide +kernel
theorem dX9_costOf_24 : decode cX9_costOf 24 = .ok (.istore 8, 2) := by decide +kernel
theorem dX9_costOf_26 : decode cX9_costOf 26 = .ok (.iconst 0, 1) := by decide +kernel
theorem dX9_costOf_27 : decode cX9_costOf 27 = .ok (.istore 9, 2) := by decide +kernel
theorem dX9_costOf_29 : decode cX9_costOf 29 = .ok (.iload 6, 2) := by decide +kernel
theorem dX9_costOf_31 : decode cX9_costOf 31 = .ok (.istore 10, 2) := by decide +kernel
theorem dX9_costOf_33 : decode cX9_costOf 33 = .ok (.iload 10, 2) := by decide +kernel
theorem dX9_costOf_35 : decode cX9_costOf 35 = .ok (.iload 7, 2) := by decide +kernel
theorem dX9_costOf_37 : decode cX9_costOf 37 = .ok (.if_icmp .gt 79, 3) := by decide +kernel
theorem dX9_costOf_40 : decode cX9_costOf 40 = .ok (.iload 8, 2) := by decide +kernel
theorem dX9_costOf_42 : decode cX9_costOf 42 = .ok (.iload 10, 2) := by decide +kernel
theorem dX9_costOf_44 : decode cX9_costOf 44 = .ok (.invokestatic 139, 3) := by decide +kernel
theorem dX9_costOf_47 : decode cX9_costOf 47 = .ok (.ifCond .eq 26, 3) := by decide +kernel
theorem dX9_costOf_50 : decode cX9_costOf 50 = .ok (.iload 10, 2) := by decide +kernel
theorem dX9_costOf_52 : decode cX9_costOf 52 = .ok (.iload 6, 2) := by decide +kernel
theorem dX9_costOf_54 : decode cX9_costOf 54 = .ok (.if_icmp .eq 15, 3) := by decide +kernel
theorem dX9_costOf_57 : decode cX9_costOf 57 = .ok (.iload 8, 2) := by decide +kernel
theorem dX9_costOf_59 : decode cX9_costOf 59 = .ok (.iload 10, 2) := by decide +kernel
theorem dX9_costOf_61 : decode cX9_costOf 61 = .ok (.iconst 1, 1) := by decide +kernel
theorem dX9_costOf_62 : decode cX9_costOf 62 = .ok (.isub, 1) := by decide +kernel
theorem dX9_costOf_63 : decode cX9_costOf 63 = .ok (.invokestatic 139, 3) := by decide +kernel
theorem dX9_costOf_66 : decode cX9_costOf 66 = .ok (.ifCond .ne 7, 3) := by decide +kernel
theorem dX9_costOf_69 : decode cX9_costOf 69 = .ok (.iconst 1, 1) := by decide +kernel
theorem dX9_costOf_70 : decode cX9_costOf 70 = .ok (.goto 4, 3) := by decide +kernel
theorem dX9_costOf_73 : decode cX9_costOf 73 = .ok (.iconst 0, 1) := by decide +kernel
theorem dX9_costOf_74 : decode cX9_costOf 74 = .ok (.istore 11, 2) := by decide +kernel
theorem dX9_costOf_76 : decode cX9_costOf 76 = .ok (.iload 9, 2) := by decide +kernel
theorem dX9_costOf_78 : decode cX9_costOf 78 = .ok (.iload 8, 2) := by decide +kernel
theorem dX9_costOf_80 : decode cX9_costOf 80 = .ok (.iload 10, 2) := by decide +kernel
theorem dX9_costOf_82 : decode cX9_costOf 82 = .ok (.invokestatic 139, 3) := by decide +kernel
theorem dX9_costOf_85 : decode cX9_costOf 85 = .ok (.ifCond .ne 7, 3) := by decide +kernel
theorem dX9_costOf_88 : decode cX9_costOf 88 = .ok (.iconst 1, 1) := by decide +kernel
theorem dX9_costOf_89 : decode cX9_costOf 89 = .ok (.goto 18, 3) := by decide +kernel
theorem dX9_costOf_92 : decode cX9_costOf 92 = .ok (.iload 11, 2) := by decide +kernel
theorem dX9_costOf_94 : decode cX9_costOf 94 = .ok (.ifCond .eq 12, 3) := by decide +kernel
theorem dX9_costOf_97 : decode cX9_costOf 97 = .ok (.aload_n 0, 1) := by decide +kernel
theorem dX9_costOf_98 : decode cX9_costOf 98 = .ok (.getfield 28, 3) := by decide +kernel
theorem dX9_costOf_101 : decode cX9_costOf 101 = .ok (.iconst 2, 1) := by decide +kernel
theorem dX9_costOf_102 : decode cX9_costOf 102 = .ok (.iaload, 1) := by decide +kernel
theorem dX9_costOf_103 : decode cX9_costOf 103 = .ok (.goto 4, 3) := by decide +kernel
theorem dX9_costOf_106 : decode cX9_costOf 106 = .ok (.iconst 0, 1) := by decide +kernel
theorem dX9_costOf_107 : decode cX9_costOf 107 = .ok (.iadd, 1) := by decide +kernel
theorem dX9_costOf_108 : decode cX9_costOf 108 = .ok (.istore 9, 2) := by decide +kernel
theorem dX9_costOf_110 : decode cX9_costOf 110 = .ok (.iinc 10 1, 3) := by decide +kernel
theorem dX9_costOf_113 : decode cX9_costOf 113 = .ok (.goto (-80), 3) := by decide +kernel
theorem dX9_costOf_116 : decode cX9_costOf 116 = .ok (.aload_n 0, 1) := by decide +kernel
theorem dX9_costOf_117 : decode cX9_costOf 117 = .ok (.getfield 28, 3) := by decide +kernel
theorem dX9_costOf_120 : decode cX9_costOf 120 = .ok (.iconst 3, 1) := by decide +kernel
theorem dX9_costOf_121 : decode cX9_costOf 121 = .ok (.iaload, 1) := by decide +kernel
theorem dX9_costOf_122 : decode cX9_costOf 122 = .ok (.iload 7, 2) := by decide +kernel
theorem dX9_costOf_124 : decode cX9_costOf 124 = .ok (.iload 6, 2) := by decide +kernel
theorem dX9_costOf_126 : decode cX9_costOf 126 = .ok (.isub, 1) := by decide +kernel
theorem dX9_costOf_127 : decode cX9_costOf 127 = .ok (.iconst 1, 1) := by decide +kernel
theorem dX9_costOf_128 : decode cX9_costOf 128 = .ok (.iadd, 1) := by decide +kernel
theorem dX9_costOf_129 : decode cX9_costOf 129 = .ok (.imul, 1) := by decide +kernel
theorem dX9_costOf_130 : decode cX9_costOf 130 = .ok (.istore 10, 2) := by decide +kernel
theorem dX9_costOf_132 : decode cX9_costOf 132 = .ok (.iload 5, 2) := by decide +kernel
theorem dX9_costOf_134 : decode cX9_costOf 134 = .ok (.ifCond .ne 13, 3) := by decide +kernel
theorem dX9_costOf_137 : decode cX9_costOf 137 = .ok (.iload 9, 2) := by decide +kernel
theorem dX9_costOf_139 : decode cX9_costOf 139 = .ok (.iload 10, 2) := by decide +kernel
theorem dX9_costOf_141 : decode cX9_costOf 141 = .ok (.invokestatic 148, 3) := by decide +kernel
theorem dX9_costOf_144 : decode cX9_costOf 144 = .ok (.goto 16, 3) := by decide +kernel
theorem dX9_costOf_147 : decode cX9_costOf 147 = .ok (.iload 5, 2) := by decide +kernel
theorem dX9_costOf_149 : decode cX9_costOf 149 = .ok (.iconst 1, 1) := by decide +kernel
theorem dX9_costOf_150 : decode cX9_costOf 150 = .ok (.if_icmp .ne 8, 3) := by decide +kernel
theorem dX9_costOf_153 : decode cX9_costOf 153 = .ok (.iload 9, 2) := by decide +kernel
theorem dX9_costOf_155 : decode cX9_costOf 155 = .ok (.goto 5, 3) := by decide +kernel
theorem dX9_costOf_158 : decode cX9_costOf 158 = .ok (.iload 10, 2) := by decide +kernel
theorem dX9_costOf_160 : decode cX9_costOf 160 = .ok (.ireturn, 1) := by decide +kernel
theorem dX9_isWay_0 : decode cX9_isWay 0 = .ok (.iload_n 1, 1) := by decide +kernel
theorem dX9_isWay_1 : decode cX9_isWay 1 = .ok (.invokestatic 105, 3) := by decide +kernel
theorem dX9_isWay_4 : decode cX9_isWay 4 = .ok (.ifCond .eq 31, 3) := by decide +kernel
theorem dX9_isWay_7 : decode cX9_isWay 7 = .ok (.iload_n 2, 1) := by decide +kernel
theorem dX9_isWay_8 : decode cX9_isWay 8 = .ok (.invokestatic 108, 3) := by decide +kernel
theorem dX9_isWay_11 : decode cX9_isWay 11 = .ok (.ifCond .eq 24, 3) := by decide +kernel
theorem dX9_isWay_14 : decode cX9_isWay 14 = .ok (.aload_n 0, 1) := by decide +kernel
theorem dX9_isWay_15 : decode cX9_isWay 15 = .ok (.iload_n 3, 1) := by decide +kernel
theorem dX9_isWay_16 : decode cX9_isWay 16 = .ok (.invokevirtual 99, 3) := by decide +kernel
theorem dX9_isWay_19 : decode cX9_isWay 19 = .ok (.ifCond .eq 16, 3) := by decide +kernel
theorem dX9_isWay_22 : decode cX9_isWay 22 = .ok (.aload_n 0, 1) := by decide +kernel
theorem dX9_isWay_23 : decode cX9_isWay 23 = .ok (.iload 4, 2) := by decide +kernel
theorem dX9_isWay_25 : decode cX9_isWay 25 = .ok (.invokevirtual 99, 3) := by decide +kernel
theorem dX9_isWay_28 : decode cX9_isWay 28 = .ok (.ifCond .eq 7, 3) := by decide +kernel
theorem dX9_isWay_31 : decode cX9_isWay 31 = .ok (.iconst 1, 1) := by decide +kernel
theorem dX9_isWay_32 : decode cX9_isWay 32 = .ok (.goto 4, 3) := by decide +kernel
theorem dX9_isWay_35 : decode cX9_isWay 35 = .ok (.iconst 0, 1) := by decide +kernel
theorem dX9_isWay_36 : decode cX9_isWay 36 = .ok (.ireturn, 1) := by decide +kernel
theorem dX9_cost_0 : decode cX9_cost 0 = .ok (.aload_n 0, 1) := by decide +kernel
theorem dX9_cost_1 : decode cX9_cost 1 = .ok (.iload_n 1, 1) := by decide +kernel
theorem dX9_cost_2 : decode cX9_cost 2 = .ok (.iload_n 2, 1) := by decide +kernel
theorem dX9_cost_3 : decode cX9_cost 3 = .ok (.iload_n 3, 1) := by decide +kernel
theorem dX9_cost_4 : decode cX9_cost 4 = .ok (.iload 4, 2) := by decide +kernel
theorem dX9_cost_6 : decode cX9_cost 6 = .ok (.invokevirtual 151, 3) := by decide +kernel
theorem dX9_cost_9 : decode cX9_cost 9 = .ok (.ifCond .eq 30, 3) := by decide +kernel
theorem dX9_cost_12 : decode cX9_cost 12 = .ok (.iload 5, 2) := by decide +kernel
theorem dX9_cost_14 : decode cX9_cost 14 = .ok (.i2l, 1) := by decide +kernel
theorem dX9_cost_15 : decode cX9_cost 15 = .ok (.lconst 0, 1) := by decide +kernel
theorem dX9_cost_16 : decode cX9_cost 16 = .ok (.ldc2_w 63, 3) := by decide +kernel
theorem dX9_cost_19 : decode cX9_cost 19 = .ok (.invokestatic 49, 3) := by decide +kernel
theorem dX9_cost_22 : decode cX9_cost 22 = .ok (.ifCond .eq 17, 3) := by decide +kernel
theorem dX9_cost_25 : decode cX9_cost 25 = .ok (.aload_n 0, 1) := by decide +kernel
theorem dX9_cost_26 : decode cX9_cost 26 = .ok (.iload_n 1, 1) := by decide +kernel
theorem dX9_cost_27 : decode cX9_cost 27 = .ok (.iload_n 2, 1) := by decide +kernel
theorem dX9_cost_28 : decode cX9_cost 28 = .ok (.iload_n 3, 1) := by decide +kernel
theorem dX9_cost_29 : decode cX9_cost 29 = .ok (.iload 4, 2) := by decide +kernel
theorem dX9_cost_31 : decode cX9_cost 31 = .ok (.iload 5, 2) := by decide +kernel
theorem dX9_cost_33 : decode cX9_cost 33 = .ok (.invokevirtual 155, 3) := by decide +kernel
theorem dX9_cost_36 : decode cX9_cost 36 = .ok (.goto 5, 3) := by decide +kernel
theorem dX9_cost_39 : decode cX9_cost 39 = .ok (.bipush (-2), 2) := by decide +kernel
theorem dX9_cost_41 : decode cX9_cost 41 = .ok (.ireturn, 1) := by decide +kernel
theorem dX9_closedOf_0 : decode cX9_closedOf 0 = .ok (.iconst 0, 1) := by decide +kernel
theorem dX9_closedOf_1 : decode cX9_closedOf 1 = .ok (.istore_n 3, 1) := by decide +kernel
theorem dX9_closedOf_2 : decode cX9_closedOf 2 = .ok (.iconst 0, 1) := by decide +kernel
theorem dX9_closedOf_3 : decode cX9_closedOf 3 = .ok (.istore 4, 2) := by decide +kernel
theorem dX9_closedOf_5 : decode cX9_closedOf 5 = .ok (.iload 4, 2) := by decide +kernel
theorem dX9_closedOf_7 : decode cX9_closedOf 7 = .ok (.bipush 30, 2) := by decide +kernel
theorem dX9_closedOf_9 : decode cX9_closedOf 9 = .ok (.if_icmp .ge 28, 3) := by decide +kernel
theorem dX9_closedOf_12 : decode cX9_closedOf 12 = .ok (.iload_n 3, 1) := by decide +kernel
theorem dX9_closedOf_13 : decode cX9_closedOf 13 = .ok (.aload_n 0, 1) := by decide +kernel
theorem dX9_closedOf_14 : decode cX9_closedOf 14 = .ok (.iload_n 1, 1) := by decide +kernel
theorem dX9_closedOf_15 : decode cX9_closedOf 15 = .ok (.iload 4, 2) := by decide +kernel
theorem dX9_closedOf_17 : decode cX9_closedOf 17 = .ok (.iload_n 2, 1) := by decide +kernel
theorem dX9_closedOf_18 : decode cX9_closedOf 18 = .ok (.invokevirtual 135, 3) := by decide +kernel
theorem dX9_closedOf_21 : decode cX9_closedOf 21 = .ok (.ifCond .eq 7, 3) := by decide +kernel
theorem dX9_closedOf_24 : decode cX9_closedOf 24 = .ok (.iconst 1, 1) := by decide +kernel
theorem dX9_closedOf_25 : decode cX9_closedOf 25 = .ok (.goto 4, 3) := by decide +kernel
theorem dX9_closedOf_28 : decode cX9_closedOf 28 = .ok (.iconst 0, 1) := by decide +kernel
theorem dX9_closedOf_29 : decode cX9_closedOf 29 = .ok (.iadd, 1) := by decide +kernel
theorem dX9_closedOf_30 : decode cX9_closedOf 30 = .ok (.istore_n 3, 1) := by decide +kernel
theorem dX9_closedOf_31 : decode cX9_closedOf 31 = .ok (.iinc 4 1, 3) := by decide +kernel
theorem dX9_closedOf_34 : decode cX9_closedOf 34 = .ok (.goto (-29), 3) := by decide +kernel
theorem dX9_closedOf_37 : decode cX9_closedOf 37 = .ok (.iload_n 3, 1) := by decide +kernel
theorem dX9_closedOf_38 : decode cX9_closedOf 38 = .ok (.ireturn, 1) := by decide +kernel
theorem dX9_closed_0 : decode cX9_closed 0 = .ok (.iload_n 1, 1) := by decide +kernel
theorem dX9_closed_1 : decode cX9_closed 1 = .ok (.invokestatic 105, 3) := by decide +kernel
theorem dX9_closed_4 : decode cX9_closed 4 = .ok (.ifCond .eq 20, 3) := by decide +kernel
theorem dX9_closed_7 : decode cX9_closed 7 = .ok (.aload_n 0, 1) := by decide +kernel
theorem dX9_closed_8 : decode cX9_closed 8 = .ok (.iload_n 2, 1) := by decide +kernel
theorem dX9_closed_9 : decode cX9_closed 9 = .ok (.invokevirtual 99, 3) := by decide +kernel
theorem dX9_closed_12 : decode cX9_closed 12 = .ok (.ifCond .eq 12, 3) := by decide +kernel
theorem dX9_closed_15 : decode cX9_closed 15 = .ok (.aload_n 0, 1) := by decide +kernel
theorem dX9_closed_16 : decode cX9_closed 16 = .ok (.iload_n 1, 1) := by decide +kernel
theorem dX9_closed_17 : decode cX9_closed 17 = .ok (.iload_n 2, 1) := by decide +kernel
theorem dX9_closed_18 : decode cX9_closed 18 = .ok (.invokevirtual 159, 3) := by decide +kernel
theorem dX9_closed_21 : decode cX9_closed 21 = .ok (.goto 5, 3) := by decide +kernel
theorem dX9_closed_24 : decode cX9_closed 24 = .ok (.bipush (-2), 2) := by decide +kernel
theorem dX9_closed_26 : decode cX9_closed 26 = .ok (.ireturn, 1) := by decide +kernel
theorem dX9_deedOf_0 : decode cX9_deedOf 0 = .ok (.iconst 0, 1) := by decide +kernel
theorem dX9_deedOf_1 : decode cX9_deedOf 1 = .ok (.istore_n 3, 1) := by decide +kernel
theorem dX9_deedOf_2 : decode cX9_deedOf 2 = .ok (.iconst 0, 1) := by decide +kernel
theorem dX9_deedOf_3 : decode cX9_deedOf 3 = .ok (.istore 4, 2) := by decide +kernel
theorem dX9_deedOf_5 : decode cX9_deedOf 5 = .ok (.iconst 0, 1) := by decide +kernel
theorem dX9_deedOf_6 : decode cX9_deedOf 6 = .ok (.istore 5, 2) := by decide +kernel
theorem dX9_deedOf_8 : decode cX9_deedOf 8 = .ok (.iload 5, 2) := by decide +kernel
theorem dX9_deedOf_10 : decode cX9_deedOf 10 = .ok (.bipush 30, 2) := by decide +kernel
theorem dX9_deedOf_12 : decode cX9_deedOf 12 = .ok (.if_icmp .ge 62, 3) := by decide +kernel
theorem dX9_deedOf_15 : decode cX9_deedOf 15 = .ok (.aload_n 0, 1) := by decide +kernel
theorem dX9_deedOf_16 : decode cX9_deedOf 16 = .ok (.iload_n 1, 1) := by decide +kernel
theorem dX9_deedOf_17 : decode cX9_deedOf 17 = .ok (.iload 5, 2) := by decide +kernel
theorem dX9_deedOf_19 : decode cX9_deedOf 19 = .ok (.iconst 0, 1) := by decide +kernel
theorem dX9_deedOf_20 : decode cX9_deedOf 20 = .ok (.invokevirtual 145, 3) := by decide +kernel
theorem dX9_deedOf_23 : decode cX9_deedOf 23 = .ok (.istore 6, 2) := by decide +kernel
theorem dX9_deedOf_25 : decode cX9_deedOf 25 = .ok (.iconst 0, 1) := by decide +kernel
theorem dX9_deedOf_26 : decode cX9_deedOf 26 = .ok (.istore 7, 2) := by decide +kernel
theorem dX9_deedOf_28 : decode cX9_deedOf 28 = .ok (.iload 7, 2) := by decide +kernel
theorem dX9_deedOf_30 : decode cX9_deedOf 30 = .ok (.aload_n 0, 1) := by decide +kernel
theorem dX9_deedOf_31 : decode cX9_deedOf 31 = .ok (.invokevirtual 95, 3) := by decide +kernel
theorem dX9_deedOf_34 : decode cX9_deedOf 34 = .ok (.if_icmp .ge 19, 3) := by decide +kernel
theorem dX9_deedOf_37 : decode cX9_deedOf 37 = .ok (.iload_n 3, 1) := by decide +kernel
theorem dX9_deedOf_38 : decode cX9_deedOf 38 = .ok (.iload 6, 2) := by decide +kernel
theorem dX9_deedOf_40 : decode cX9_deedOf 40 = .ok (.iload 7, 2) := by decide +kernel
theorem dX9_deedOf_42 : decode cX9_deedOf 42 = .ok (.ishr, 1) := by decide +kernel
theorem dX9_deedOf_43 : decode cX9_deedOf 43 = .ok (.iconst 1, 1) := by decide +kernel
theorem dX9_deedOf_44 : decode cX9_deedOf 44 = .ok (.iand, 1) := by decide +kernel
theorem dX9_deedOf_45 : decode cX9_deedOf 45 = .ok (.iadd, 1) := by decide +kernel
theorem dX9_deedOf_46 : decode cX9_deedOf 46 = .ok (.istore_n 3, 1) := by decide +kernel
theorem dX9_deedOf_47 : decode cX9_deedOf 47 = .ok (.iinc 7 1, 3) := by decide +kernel
theorem dX9_deedOf_50 : decode cX9_deedOf 50 = .ok (.goto (-22), 3) := by decide +kernel
theorem dX9_deedOf_53 : decode cX9_deedOf 53 = .ok (.iload 4, 2) := by decide +kernel
theorem dX9_deedOf_55 : decode cX9_deedOf 55 = .ok (.iload 6, 2) := by decide +kernel
theorem dX9_deedOf_57 : decode cX9_deedOf 57 = .ok (.ifCond .ne 7, 3) := by decide +kernel
theorem dX9_deedOf_60 : decode cX9_deedOf 60 = .ok (.iconst 0, 1) := by decide +kernel
theorem dX9_deedOf_61 : decode cX9_deedOf 61 = .ok (.goto 4, 3) := by decide +kernel
theorem dX9_deedOf_64 : decode cX9_deedOf 64 = .ok (.iconst 1, 1) := by decide +kernel
theorem dX9_deedOf_65 : decode cX9_deedOf 65 = .ok (.iadd, 1) := by decide +kernel
theorem dX9_deedOf_66 : decode cX9_deedOf 66 = .ok (.istore 4, 2) := by decide +kernel
theorem dX9_deedOf_68 : decode cX9_deedOf 68 = .ok (.iinc 5 1, 3) := by decide +kernel
theorem dX9_deedOf_71 : decode cX9_deedOf 71 = .ok (.goto (-63), 3) := by decide +kernel
theorem dX9_deedOf_74 : decode cX9_deedOf 74 = .ok (.iload_n 2, 1) := by decide +kernel
theorem dX9_deedOf_75 : decode cX9_deedOf 75 = .ok (.ifCond .ne 7, 3) := by decide +kernel
theorem dX9_deedOf_78 : decode cX9_deedOf 78 = .ok (.iload_n 3, 1) := by decide +kernel
theorem dX9_deedOf_79 : decode cX9_deedOf 79 = .ok (.goto 31, 3) := by decide +kernel
theorem dX9_deedOf_82 : decode cX9_deedOf 82 = .ok (.iload_n 2, 1) := by decide +kernel
theorem dX9_deedOf_83 : decode cX9_deedOf 83 = .ok (.iconst 1, 1) := by decide +kernel
theorem dX9_deedOf_84 : decode cX9_deedOf 84 = .ok (.if_icmp .ne 8, 3) := by decide +kernel
theorem dX9_deedOf_87 : decode cX9_deedOf 87 = .ok (.iload 4, 2) := by decide +kernel
theorem dX9_deedOf_89 : decode cX9_deedOf 89 = .ok (.goto 21, 3) := by decide +kernel
theorem dX9_deedOf_92 : decode cX9_deedOf 92 = .ok (.aload_n 0, 1) := by decide +kernel
theorem dX9_deedOf_93 : decode cX9_deedOf 93 = .ok (.getfield 28, 3) := by decide +kernel
theorem dX9_deedOf_96 : decode cX9_deedOf 96 = .ok (.iconst 4, 1) := by decide +kernel
theorem dX9_deedOf_97 : decode cX9_deedOf 97 = .ok (.iaload, 1) := by decide +kernel
theorem dX9_deedOf_98 : decode cX9_deedOf 98 = .ok (.iload_n 3, 1) := by decide +kernel
theorem dX9_deedOf_99 : decode cX9_deedOf 99 = .ok (.imul, 1) := by decide +kernel
theorem dX9_deedOf_100 : decode cX9_deedOf 100 = .ok (.aload_n 0, 1) := by decide +kernel
theorem dX9_deedOf_101 : decode cX9_deedOf 101 = .ok (.getfield 28, 3) := by decide +kernel
theorem dX9_deedOf_104 : decode cX9_deedOf 104 = .ok (.iconst 5, 1) := by decide +kernel
theorem dX9_deedOf_105 : decode cX9_deedOf 105 = .ok (.iaload, 1) := by decide +kernel
theorem dX9_deedOf_106 : decode cX9_deedOf 106 = .ok (.iload 4, 2) := by decide +kernel
theorem dX9_deedOf_108 : decode cX9_deedOf 108 = .ok (.imul, 1) := by decide +kernel
theorem dX9_deedOf_109 : decode cX9_deedOf 109 = .ok (.isub, 1) := by decide +kernel
theorem dX9_deedOf_110 : decode cX9_deedOf 110 = .ok (.ireturn, 1) := by decide +kernel
theorem dX9_deed_0 : decode cX9_deed 0 = .ok (.iload_n 1, 1) := by decide +kernel
theorem dX9_deed_1 : decode cX9_deed 1 = .ok (.invokestatic 105, 3) := by decide +kernel
theorem dX9_deed_4 : decode cX9_deed 4 = .ok (.ifCond .eq 24, 3) := by decide +kernel
theorem dX9_deed_7 : decode cX9_deed 7 = .ok (.iload_n 2, 1) := by decide +kernel
theorem dX9_deed_8 : decode cX9_deed 8 = .ok (.i2l, 1) := by decide +kernel
