theorem dX8_init_0 : decode cX8_init 0 = .ok (.aload_n 0, 1) := by decide +kernel
theorem dX8_init_1 : decode cX8_init 1 = .ok (.invokespecial 3, 3) := by decide +kernel
theorem dX8_init_4 : decode cX8_init 4 = .ok (.aload_n 0, 1) := by decide +kernel
theorem dX8_init_5 : decode cX8_init 5 = .ok (.iconst 4, 1) := by decide +kernel
theorem dX8_init_6 : decode cX8_init 6 = .ok (.anewarray 9, 3) := by decide +kernel
theorem dX8_init_9 : decode cX8_init 9 = .ok (.putfield 11, 3) := by decide +kernel
theorem dX8_init_12 : decode cX8_init 12 = .ok (.aload_n 0, 1) := by decide +kernel
theorem dX8_init_13 : decode cX8_init 13 = .ok (.bipush 7, 2) := by decide +kernel
theorem dX8_init_15 : decode cX8_init 15 = .ok (.newarray .int, 2) := by decide +kernel
theorem dX8_init_17 : decode cX8_init 17 = .ok (.putfield 15, 3) := by decide +kernel
theorem dX8_init_20 : decode cX8_init 20 = .ok (.aload_n 0, 1) := by decide +kernel
theorem dX8_init_21 : decode cX8_init 21 = .ok (.iconst 3, 1) := by decide +kernel
theorem dX8_init_22 : decode cX8_init 22 = .ok (.newarray .int, 2) := by decide +kernel
theorem dX8_init_24 : decode cX8_init 24 = .ok (.putfield 19, 3) := by decide +kernel
theorem dX8_init_27 : decode cX8_init 27 = .ok (.aload_n 0, 1) := by decide +kernel
theorem dX8_init_28 : decode cX8_init 28 = .ok (.new 22, 3) := by decide +kernel
theorem dX8_init_31 : decode cX8_init 31 = .ok (.dup, 1) := by decide +kernel
theorem dX8_init_32 : decode cX8_init 32 = .ok (.invokespecial 24, 3) := by decide +kernel
theorem dX8_init_35 : decode cX8_init 35 = .ok (.putfield 25, 3) := by decide +kernel
theorem dX8_init_38 : decode cX8_init 38 = .ok (.aload_n 0, 1) := by decide +kernel
theorem dX8_init_39 : decode cX8_init 39 = .ok (.new 29, 3) := by decide +kernel
theorem dX8_init_42 : decode cX8_init 42 = .ok (.dup, 1) := by decide +kernel
theorem dX8_init_43 : decode cX8_init 43 = .ok (.aload_n 0, 1) := by decide +kernel
theorem dX8_init_44 : decode cX8_init 44 = .ok (.getfield 11, 3) := by decide +kernel
theorem dX8_init_47 : decode cX8_init 47 = .ok (.aload_n 0, 1) := by decide +kernel
theorem dX8_init_48 : decode cX8_init 48 = .ok (.getfield 15, 3) := by decide +kernel
theorem dX8_init_51 : decode cX8_init 51 = .ok (.aload_n 0, 1) := by decide +kernel
theorem dX8_init_52 : decode cX8_init 52 = .ok (.getfield 25, 3) := by decide +kernel
theorem dX8_init_55 : decode cX8_init 55 = .ok (.invokespecial 31, 3) := by decide +kernel
theorem dX8_init_58 : decode cX8_init 58 = .ok (.putfield 34, 3) := by decide +kernel
theorem dX8_init_61 : decode cX8_init 61 = .ok (.aload_n 0, 1) := by decide +kernel
theorem dX8_init_62 : decode cX8_init 62 = .ok (.new 38, 3) := by decide +kernel
theorem dX8_init_65 : decode cX8_init 65 = .ok (.dup, 1) := by decide +kernel
theorem dX8_init_66 : decode cX8_init 66 = .ok (.aload_n 0, 1) := by decide +kernel
theorem dX8_init_67 : decode cX8_init 67 = .ok (.getfield 34, 3) := by decide +kernel
theorem dX8_init_70 : decode cX8_init 70 = .ok (.aload_n 0, 1) := by decide +kernel
theorem dX8_init_71 : decode cX8_init 71 = .ok (.getfield 15, 3) := by decide +kernel
theorem dX8_init_74 : decode cX8_init 74 = .ok (.aload_n 0, 1) := by decide +kernel
theorem dX8_init_75 : decode cX8_init 75 = .ok (.getfield 19, 3) := by decide +kernel
theorem dX8_init_78 : decode cX8_init 78 = .ok (.invokespecial 40, 3) := by decide +kernel
theorem dX8_init_81 : decode cX8_init 81 = .ok (.putfield 43, 3) := by decide +kernel
theorem dX8_init_84 : decode cX8_init 84 = .ok (.aload_n 0, 1) := by decide +kernel
theorem dX8_init_85 : decode cX8_init 85 = .ok (.new 47, 3) := by decide +kernel
theorem dX8_init_88 : decode cX8_init 88 = .ok (.dup, 1) := by decide +kernel
theorem dX8_init_89 : decode cX8_init 89 = .ok (.aload_n 0, 1) := by decide +kernel
theorem dX8_init_90 : decode cX8_init 90 = .ok (.getfield 34, 3) := by decide +kernel
theorem dX8_init_93 : decode cX8_init 93 = .ok (.invokespecial 49, 3) := by decide +kernel
theorem dX8_init_96 : decode cX8_init 96 = .ok (.putfield 52, 3) := by decide +kernel
theorem dX8_init_99 : decode cX8_init 99 = .ok (.aload_n 0, 1) := by decide +kernel
theorem dX8_init_100 : decode cX8_init 100 = .ok (.new 56, 3) := by decide +kernel
theorem dX8_init_103 : decode cX8_init 103 = .ok (.dup, 1) := by decide +kernel
theorem dX8_init_104 : decode cX8_init 104 = .ok (.aload_n 0, 1) := by decide +kernel
theorem dX8_init_105 : decode cX8_init 105 = .ok (.getfield 34, 3) := by decide +kernel
theorem dX8_init_108 : decode cX8_init 108 = .ok (.aload_n 0, 1) := by decide +kernel
theorem dX8_init_109 : decode cX8_init 109 = .ok (.getfield 19, 3) := by decide +kernel
theorem dX8_init_112 : decode cX8_init 112 = .ok (.invokespecial 58, 3) := by decide +kernel
theorem dX8_init_115 : decode cX8_init 115 = .ok (.putfield 61, 3) := by decide +kernel
theorem dX8_init_118 : decode cX8_init 118 = .ok (.aload_n 0, 1) := by decide +kernel
theorem dX8_init_119 : decode cX8_init 119 = .ok (.new 65, 3) := by decide +kernel
theorem dX8_init_122 : decode cX8_init 122 = .ok (.dup, 1) := by decide +kernel
theorem dX8_init_123 : decode cX8_init 123 = .ok (.invokespecial 67, 3) := by decide +kernel
theorem dX8_init_126 : decode cX8_init 126 = .ok (.putfield 68, 3) := by decide +kernel
theorem dX8_init_129 : decode cX8_init 129 = .ok (.aload_n 0, 1) := by decide +kernel
theorem dX8_init_130 : decode cX8_init 130 = .ok (.iconst 4, 1) := by decide +kernel
theorem dX8_init_131 : decode cX8_init 131 = .ok (.anewarray 72, 3) := by decide +kernel
theorem dX8_init_134 : decode cX8_init 134 = .ok (.putfield 74, 3) := by decide +kernel
theorem dX8_init_137 : decode cX8_init 137 = .ok (.aload_n 0, 1) := by decide +kernel
theorem dX8_init_138 : decode cX8_init 138 = .ok (.iconst 0, 1) := by decide +kernel
theorem dX8_init_139 : decode cX8_init 139 = .ok (.putfield 78, 3) := by decide +kernel
theorem dX8_init_142 : decode cX8_init 142 = .ok (.iconst 0, 1) := by decide +kernel
theorem dX8_init_143 : decode cX8_init 143 = .ok (.istore_n 1, 1) := by decide +kernel
theorem dX8_init_144 : decode cX8_init 144 = .ok (.iload_n 1, 1) := by decide +kernel
theorem dX8_init_145 : decode cX8_init 145 = .ok (.iconst 4, 1) := by decide +kernel
theorem dX8_init_146 : decode cX8_init 146 = .ok (.if_icmp .ge 34, 3) := by decide +kernel
theorem dX8_init_149 : decode cX8_init 149 = .ok (.aload_n 0, 1) := by decide +kernel
theorem dX8_init_150 : decode cX8_init 150 = .ok (.getfield 11, 3) := by decide +kernel
theorem dX8_init_153 : decode cX8_init 153 = .ok (.iload_n 1, 1) := by decide +kernel
theorem dX8_init_154 : decode cX8_init 154 = .ok (.new 9, 3) := by decide +kernel
theorem dX8_init_157 : decode cX8_init 157 = .ok (.dup, 1) := by decide +kernel
theorem dX8_init_158 : decode cX8_init 158 = .ok (.iload_n 1, 1) := by decide +kernel
theorem dX8_init_159 : decode cX8_init 159 = .ok (.iconst 3, 1) := by decide +kernel
theorem dX8_init_160 : decode cX8_init 160 = .ok (.if_icmp .ne 8, 3) := by decide +kernel
theorem dX8_init_163 : decode cX8_init 163 = .ok (.bipush 12, 2) := by decide +kernel
theorem dX8_init_165 : decode cX8_init 165 = .ok (.goto 5, 3) := by decide +kernel
theorem dX8_init_168 : decode cX8_init 168 = .ok (.bipush 30, 2) := by decide +kernel
theorem dX8_init_170 : decode cX8_init 170 = .ok (.invokespecial 82, 3) := by decide +kernel
theorem dX8_init_173 : decode cX8_init 173 = .ok (.aastore, 1) := by decide +kernel
theorem dX8_init_174 : decode cX8_init 174 = .ok (.iinc 1 1, 3) := by decide +kernel
theorem dX8_init_177 : decode cX8_init 177 = .ok (.goto (-33), 3) := by decide +kernel
theorem dX8_init_180 : decode cX8_init 180 = .ok (.iconst 0, 1) := by decide +kernel
theorem dX8_init_181 : decode cX8_init 181 = .ok (.istore_n 1, 1) := by decide +kernel
theorem dX8_init_182 : decode cX8_init 182 = .ok (.iload_n 1, 1) := by decide +kernel
theorem dX8_init_183 : decode cX8_init 183 = .ok (.bipush 7, 2) := by decide +kernel
theorem dX8_init_185 : decode cX8_init 185 = .ok (.if_icmp .ge 20, 3) := by decide +kernel
theorem dX8_init_188 : decode cX8_init 188 = .ok (.aload_n 0, 1) := by decide +kernel
theorem dX8_init_189 : decode cX8_init 189 = .ok (.getfield 15, 3) := by decide +kernel
theorem dX8_init_192 : decode cX8_init 192 = .ok (.iload_n 1, 1) := by decide +kernel
theorem dX8_init_193 : decode cX8_init 193 = .ok (.getstatic 85, 3) := by decide +kernel
theorem dX8_init_196 : decode cX8_init 196 = .ok (.iload_n 1, 1) := by decide +kernel
theorem dX8_init_197 : decode cX8_init 197 = .ok (.iaload, 1) := by decide +kernel
theorem dX8_init_198 : decode cX8_init 198 = .ok (.iastore, 1) := by decide +kernel
theorem dX8_init_199 : decode cX8_init 199 = .ok (.iinc 1 1, 3) := by decide +kernel
theorem dX8_init_202 : decode cX8_init 202 = .ok (.goto (-20), 3) := by decide +kernel
theorem dX8_init_205 : decode cX8_init 205 = .ok (.iconst 0, 1) := by decide +kernel
theorem dX8_init_206 : decode cX8_init 206 = .ok (.istore_n 1, 1) := by decide +kernel
theorem dX8_init_207 : decode cX8_init 207 = .ok (.iload_n 1, 1) := by decide +kernel
theorem dX8_init_208 : decode cX8_init 208 = .ok (.iconst 3, 1) := by decide +kernel
theorem dX8_init_209 : decode cX8_init 209 = .ok (.if_icmp .ge 16, 3) := by decide +kernel
theorem dX8_init_212 : decode cX8_init 212 = .ok (.aload_n 0, 1) := by decide +kernel
theorem dX8_init_213 : decode cX8_init 213 = .ok (.getfield 19, 3) := by decide +kernel
theorem dX8_init_216 : decode cX8_init 216 = .ok (.iload_n 1, 1) := by decide +kernel
theorem dX8_init_217 : decode cX8_init 217 = .ok (.iconst 1, 1) := by decide +kernel
theorem dX8_init_218 : decode cX8_init 218 = .ok (.iastore, 1) := by decide +kernel
theorem dX8_init_219 : decode cX8_init 219 = .ok (.iinc 1 1, 3) := by decide +kernel
theorem dX8_init_222 : decode cX8_init 222 = .ok (.goto (-15), 3) := by decide +kernel
theorem dX8_init_225 : decode cX8_init 225 = .ok (.iconst 0, 1) := by decide +kernel
theorem dX8_init_226 : decode cX8_init 226 = .ok (.istore_n 1, 1) := by decide +kernel
theorem dX8_init_227 : decode cX8_init 227 = .ok (.iload_n 1, 1) := by decide +kernel
theorem dX8_init_228 : decode cX8_init 228 = .ok (.iconst 4, 1) := by decide +kernel
theorem dX8_init_229 : decode cX8_init 229 = .ok (.if_icmp .ge 22, 3) := by decide +kernel
theorem dX8_init_232 : decode cX8_init 232 = .ok (.aload_n 0, 1) := by decide +kernel
theorem dX8_init_233 : decode cX8_init 233 = .ok (.getfield 74, 3) := by decide +kernel
theorem dX8_init_236 : decode cX8_init 236 = .ok (.iload_n 1, 1) := by decide +kernel
theorem dX8_init_237 : decode cX8_init 237 = .ok (.new 72, 3) := by decide +kernel
theorem dX8_init_240 : decode cX8_init 240 = .ok (.dup, 1) := by decide +kernel
theorem dX8_init_241 : decode cX8_init 241 = .ok (.invokespecial 88, 3) := by decide +kernel
theorem dX8_init_244 : decode cX8_init 244 = .ok (.aastore, 1) := by decide +kernel
theorem dX8_init_245 : decode cX8_init 245 = .ok (.iinc 1 1, 3) := by decide +kernel
theorem dX8_init_248 : decode cX8_init 248 = .ok (.goto (-21), 3) := by decide +kernel
theorem dX8_init_251 : decode cX8_init 251 = .ok (.return_, 1) := by decide +kernel
theorem dX8_type_0 : decode cX8_type 0 = .ok (.iload_n 1, 1) := by decide +kernel
theorem dX8_type_1 : decode cX8_type 1 = .ok (.iconst 4, 1) := by decide +kernel
theorem dX8_type_2 : decode cX8_type 2 = .ok (.invokestatic 89, 3) := by decide +kernel
theorem dX8_type_5 : decode cX8_type 5 = .ok (.ifCond .eq 13, 3) := by decide +kernel
theorem dX8_type_8 : decode cX8_type 8 = .ok (.iload_n 2, 1) := by decide +kernel
theorem dX8_type_9 : decode cX8_type 9 = .ok (.sipush 256, 3) := by decide +kernel
theorem dX8_type_12 : decode cX8_type 12 = .ok (.invokestatic 89, 3) := by decide +kernel
theorem dX8_type_15 : decode cX8_type 15 = .ok (.ifCond .ne 6, 3) := by decide +kernel
theorem dX8_type_18 : decode cX8_type 18 = .ok (.bipush (-2), 2) := by decide +kernel
theorem dX8_type_20 : decode cX8_type 20 = .ok (.ireturn, 1) := by decide +kernel
theorem dX8_type_21 : decode cX8_type 21 = .ok (.aload_n 0, 1) := by decide +kernel
theorem dX8_type_22 : decode cX8_type 22 = .ok (.getfield 11, 3) := by decide +kernel
theorem dX8_type_25 : decode cX8_type 25 = .ok (.iload_n 1, 1) := by decide +kernel
theorem dX8_type_26 : decode cX8_type 26 = .ok (.aaload, 1) := by decide +kernel
theorem dX8_type_27 : decode cX8_type 27 = .ok (.invokevirtual 93, 3) := by decide +kernel
theorem dX8_type_30 : decode cX8_type 30 = .ok (.ifCond .eq 6, 3) := by decide +kernel
theorem dX8_type_33 : decode cX8_type 33 = .ok (.bipush (-4), 2) := by decide +kernel
theorem dX8_type_35 : decode cX8_type 35 = .ok (.ireturn, 1) := by decide +kernel
theorem dX8_type_36 : decode cX8_type 36 = .ok (.aload_n 0, 1) := by decide +kernel
theorem dX8_type_37 : decode cX8_type 37 = .ok (.getfield 11, 3) := by decide +kernel
theorem dX8_type_40 : decode cX8_type 40 = .ok (.iload_n 1, 1) := by decide +kernel
theorem dX8_type_41 : decode cX8_type 41 = .ok (.aaload, 1) := by decide +kernel
theorem dX8_type_42 : decode cX8_type 42 = .ok (.iload_n 2, 1) := by decide +kernel
theorem dX8_type_43 : decode cX8_type 43 = .ok (.invokevirtual 97, 3) := by decide +kernel
theorem dX8_type_46 : decode cX8_type 46 = .ok (.aload_n 0, 1) := by decide +kernel
theorem dX8_type_47 : decode cX8_type 47 = .ok (.getfield 34, 3) := by decide +kernel
theorem dX8_type_50 : decode cX8_type 50 = .ok (.invokevirtual 100, 3) := by decide +kernel
theorem dX8_type_53 : decode cX8_type 53 = .ok (.aload_n 0, 1) := by decide +kernel
theorem dX8_type_54 : decode cX8_type 54 = .ok (.getfield 11, 3) := by decide +kernel
theorem dX8_type_57 : decode cX8_type 57 = .ok (.iload_n 1, 1) := by decide +kernel
theorem dX8_type_58 : decode cX8_type 58 = .ok (.aaload, 1) := by decide +kernel
theorem dX8_type_59 : decode cX8_type 59 = .ok (.getfield 103, 3) := by decide +kernel
theorem dX8_type_62 : decode cX8_type 62 = .ok (.ireturn, 1) := by decide +kernel
theorem dX8_undo_0 : decode cX8_undo 0 = .ok (.iload_n 1, 1) := by decide +kernel
theorem dX8_undo_1 : decode cX8_undo 1 = .ok (.iconst 4, 1) := by decide +kernel
theorem dX8_undo_2 : decode cX8_undo 2 = .ok (.invokestatic 89, 3) := by decide +kernel
theorem dX8_undo_5 : decode cX8_undo 5 = .ok (.ifCond .ne 6, 3) := by decide +kernel
theorem dX8_undo_8 : decode cX8_undo 8 = .ok (.bipush (-2), 2) := by decide +kernel
theorem dX8_undo_10 : decode cX8_undo 10 = .ok (.ireturn, 1) := by decide +kernel
theorem dX8_undo_11 : decode cX8_undo 11 = .ok (.aload_n 0, 1) := by decide +kernel
theorem dX8_undo_12 : decode cX8_undo 12 = .ok (.getfield 11, 3) := by decide +kernel
theorem dX8_undo_15 : decode cX8_undo 15 = .ok (.iload_n 1, 1) := by decide +kernel
theorem dX8_undo_16 : decode cX8_undo 16 = .ok (.aaload, 1) := by decide +kernel
theorem dX8_undo_17 : decode cX8_undo 17 = .ok (.getfield 103, 3) := by decide +kernel
theorem dX8_undo_20 : decode cX8_undo 20 = .ok (.ifCond .ne 6, 3) := by decide +kernel
theorem dX8_undo_23 : decode cX8_undo 23 = .ok (.bipush (-3), 2) := by decide +kernel
theorem dX8_undo_25 : decode cX8_undo 25 = .ok (.ireturn, 1) := by decide +kernel
theorem dX8_undo_26 : decode cX8_undo 26 = .ok (.aload_n 0, 1) := by decide +kernel
theorem dX8_undo_27 : decode cX8_undo 27 = .ok (.getfield 11, 3) := by decide +kernel
theorem dX8_undo_30 : decode cX8_undo 30 = .ok (.iload_n 1, 1) := by decide +kernel
theorem dX8_undo_31 : decode cX8_undo 31 = .ok (.aaload, 1) := by decide +kernel
theorem dX8_undo_32 : decode cX8_undo 32 = .ok (.invokevirtual 106, 3) := by decide +kernel
theorem dX8_undo_35 : decode cX8_undo 35 = .ok (.aload_n 0, 1) := by decide +kernel
theorem dX8_undo_36 : decode cX8_undo 36 = .ok (.getfield 34, 3) := by decide +kernel
theorem dX8_undo_39 : decode cX8_undo 39 = .ok (.invokevirtual 100, 3) := by decide +kernel
theorem dX8_undo_42 : decode cX8_undo 42 = .ok (.aload_n 0, 1) := by decide +kernel
theorem dX8_undo_43 : decode cX8_undo 43 = .ok (.getfield 11, 3) := by decide +kernel
theorem dX8_undo_46 : decode cX8_undo 46 = .ok (.iload_n 1, 1) := by decide +kernel
theorem dX8_undo_47 : decode cX8_undo 47 = .ok (.aaload, 1) := by decide +kernel
theorem dX8_undo_48 : decode cX8_undo 48 = .ok (.getfield 103, 3) := by decide +kernel
theorem dX8_undo_51 : decode cX8_undo 51 = .ok (.ireturn, 1) := by decide +kernel
theorem dX8_wipe_0 : decode cX8_wipe 0 = .ok (.iload_n 1, 1) := by decide +kernel
theorem dX8_wipe_1 : decode cX8_wipe 1 = .ok (.iconst 4, 1) := by decide +kernel
theorem dX8_wipe_2 : decode cX8_wipe 2 = .ok (.invokestatic 89, 3) := by decide +kernel
theorem dX8_wipe_5 : decode cX8_wipe 5 = .ok (.ifCond .ne 6, 3) := by decide +kernel
theorem dX8_wipe_8 : decode cX8_wipe 8 = .ok (.bipush (-2), 2) := by decide +kernel
theorem dX8_wipe_10 : decode cX8_wipe 10 = .ok (.ireturn, 1) := by decide +kernel
theorem dX8_wipe_11 : decode cX8_wipe 11 = .ok (.aload_n 0, 1) := by decide +kernel
theorem dX8_wipe_12 : decode cX8_wipe 12 = .ok (.getfield 11, 3) := by decide +kernel
theorem dX8_wipe_15 : decode cX8_wipe 15 = .ok (.iload_n 1, 1) := by decide +kernel
theorem dX8_wipe_16 : decode cX8_wipe 16 = .ok (.aaload, 1) := by decide +kernel
theorem dX8_wipe_17 : decode cX8_wipe 17 = .ok (.getfield 103, 3) := by decide +kernel
theorem dX8_wipe_20 : decode cX8_wipe 20 = .ok (.istore_n 2, 1) := by decide +kernel
theorem dX8_wipe_21 : decode cX8_wipe 21 = .ok (.aload_n 0, 1) := by decide +kernel
theorem dX8_wipe_22 : decode cX8_wipe 22 = .ok (.getfield 11, 3) := by decide +kernel
theorem dX8_wipe_25 : decode cX8_wipe 25 = .ok (.iload_n 1, 1) := by decide +kernel
theorem dX8_wipe_26 : decode cX8_wipe 26 = .ok (.aaload, 1) := by decide +kernel
theorem dX8_wipe_27 : decode cX8_wipe 27 = .ok (.invokevirtual 109, 3) := by decide +kernel
theorem dX8_wipe_30 : decode cX8_wipe 30 = .ok (.aload_n 0, 1) := by decide +kernel
theorem dX8_wipe_31 : decode cX8_wipe 31 = .ok (.getfield 34, 3) := by decide +kernel
theorem dX8_wipe_34 : decode cX8_wipe 34 = .ok (.invokevirtual 100, 3) := by decide +kernel
theorem dX8_wipe_37 : decode cX8_wipe 37 = .ok (.iload_n 2, 1) := by decide +kernel
theorem dX8_wipe_38 : decode cX8_wipe 38 = .ok (.ireturn, 1) := by decide +kernel
theorem dX8_fault_0 : decode cX8_fault 0 = .ok (.iload_n 1, 1) := by decide +kernel
theorem dX8_fault_1 : decode cX8_fault 1 = .ok (.iconst 4, 1) := by decide +kernel
theorem dX8_fault_2 : decode cX8_fault 2 = .ok (.invokestatic 89, 3) := by decide +kernel
theorem dX8_fault_5 : decode cX8_fault 5 = .ok (.ifCond .eq 15, 3) := by decide +kernel
theorem dX8_fault_8 : decode cX8_fault 8 = .ok (.aload_n 0, 1) := by decide +kernel
theorem dX8_fault_9 : decode cX8_fault 9 = .ok (.getfield 11, 3) := by decide +kernel
theorem dX8_fault_12 : decode cX8_fault 12 = .ok (.iload_n 1, 1) := by decide +kernel
theorem dX8_fault_13 : decode cX8_fault 13 = .ok (.aaload, 1) := by decide +kernel
theorem dX8_fault_14 : decode cX8_fault 14 = .ok (.invokevirtual 112, 3) := by decide +kernel
theorem dX8_fault_17 : decode cX8_fault 17 = .ok (.goto 5, 3) := by decide +kernel
theorem dX8_fault_20 : decode cX8_fault 20 = .ok (.bipush (-2), 2) := by decide +kernel
theorem dX8_fault_22 : decode cX8_fault 22 = .ok (.ireturn, 1) := by decide +kernel
theorem dX8_height_0 : decode cX8_height 0 = .ok (.aload_n 0, 1) := by decide +kernel
theorem dX8_height_1 : decode cX8_height 1 = .ok (.iload_n 1, 1) := by decide +kernel
theorem dX8_height_2 : decode cX8_height 2 = .ok (.invokevirtual 116, 3) := by decide +kernel
theorem dX8_height_5 : decode cX8_height 5 = .ok (.ifCond .eq 16, 3) := by decide +kernel
theorem dX8_height_8 : decode cX8_height 8 = .ok (.aload_n 0, 1) := by decide +kernel
theorem dX8_height_9 : decode cX8_height 9 = .ok (.getfield 11, 3) := by decide +kernel
theorem dX8_height_12 : decode cX8_height 12 = .ok (.iconst 3, 1) := by decide +kernel
theorem dX8_height_13 : decode cX8_height 13 = .ok (.aaload, 1) := by decide +kernel
theorem dX8_height_14 : decode cX8_height 14 = .ok (.iload_n 1, 1) := by decide +kernel
theorem dX8_height_15 : decode cX8_height 15 = .ok (.invokevirtual 120, 3) := by decide +kernel
theorem dX8_height_18 : decode cX8_height 18 = .ok (.goto 5, 3) := by decide +kernel
theorem dX8_height_21 : decode cX8_height 21 = .ok (.bipush (-2), 2) := by decide +kernel
theorem dX8_height_23 : decode cX8_height 23 = .ok (.ireturn, 1) := by decide +kernel
theorem dX8_level_0 : decode cX8_level 0 = .ok (.iload_n 1, 1) := by decide +kernel
theorem dX8_level_1 : decode cX8_level 1 = .ok (.iload_n 2, 1) := by decide +kernel
theorem dX8_level_2 : decode cX8_level 2 = .ok (.invokestatic 124, 3) := by decide +kernel
theorem dX8_level_5 : decode cX8_level 5 = .ok (.ifCond .ne 6, 3) := by decide +kernel
theorem dX8_level_8 : decode cX8_level 8 = .ok (.bipush (-2), 2) := by decide +kernel
theorem dX8_level_10 : decode cX8_level 10 = .ok (.ireturn, 1) := by decide +kernel
theorem dX8_level_11 : decode cX8_level 11 = .ok (.aload_n 0, 1) := by decide +kernel
theorem dX8_level_12 : decode cX8_level 12 = .ok (.getfield 34, 3) := by decide +kernel
theorem dX8_level_15 : decode cX8_level 15 = .ok (.invokevirtual 127, 3) := by decide +kernel
theorem dX8_level_18 : decode cX8_level 18 = .ok (.aload_n 0, 1) := by decide +kernel
theorem dX8_level_19 : decode cX8_level 19 = .ok (.getfield 34, 3) := by decide +kernel
theorem dX8_level_22 : decode cX8_level 22 = .ok (.iload_n 1, 1) := by decide +kernel
theorem dX8_level_23 : decode cX8_level 23 = .ok (.iload_n 2, 1) := by decide +kernel
theorem dX8_level_24 : decode cX8_level 24 = .ok (.invokevirtual 130, 3) := by decide +kernel
theorem dX8_level_27 : decode cX8_level 27 = .ok (.ireturn, 1) := by decide +kernel
theorem dX8_set_0 : decode cX8_set 0 = .ok (.iload_n 1, 1) := by decide +kernel
theorem dX8_set_1 : decode cX8_set 1 = .ok (.bipush 7, 2) := by decide +kernel
theorem dX8_set_3 : decode cX8_set 3 = .ok (.invokestatic 89, 3) := by decide +kernel
theorem dX8_set_6 : decode cX8_set 6 = .ok (.ifCond .eq 21, 3) := by decide +kernel
theorem dX8_set_9 : decode cX8_set 9 = .ok (.iload_n 2, 1) := by decide +kernel
theorem dX8_set_10 : decode cX8_set 10 = .ok (.getstatic 134, 3) := by decide +kernel
theorem dX8_set_13 : decode cX8_set 13 = .ok (.iload_n 1, 1) := by decide +kernel
theorem dX8_set_14 : decode cX8_set 14 = .ok (.iaload, 1) := by decide +kernel
theorem dX8_set_15 : decode cX8_set 15 = .ok (.if_icmp .lt 12, 3) := by decide +kernel
theorem dX8_set_18 : decode cX8_set 18 = .ok (.iload_n 2, 1) := by decide +kernel
theorem dX8_set_19 : decode cX8_set 19 = .ok (.getstatic 137, 3) := by decide +kernel
theorem dX8_set_22 : decode cX8_set 22 = .ok (.iload_n 1, 1) := by decide +kernel
theorem dX8_set_23 : decode cX8_set 23 = .ok (.iaload, 1) := by decide +kernel
theorem dX8_set_24 : decode cX8_set 24 = .ok (.if_icmp .le 6, 3) := by decide +kernel
theorem dX8_set_27 : decode cX8_set 27 = .ok (.bipush (-2), 2) := by decide +kernel
theorem dX8_set_29 : decode cX8_set 29 = .ok (.ireturn, 1) := by decide +kernel
theorem dX8_set_30 : decode cX8_set 30 = .ok (.aload_n 0, 1) := by decide +kernel
theorem dX8_set_31 : decode cX8_set 31 = .ok (.getfield 15, 3) := by decide +kernel
theorem dX8_set_34 : decode cX8_set 34 = .ok (.iload_n 1, 1) := by decide +kernel
theorem dX8_set_35 : decode cX8_set 35 = .ok (.iaload, 1) := by decide +kernel
theorem dX8_set_36 : decode cX8_set 36 = .ok (.istore_n 3, 1) := by decide +kernel
theorem dX8_set_37 : decode cX8_set 37 = .ok (.aload_n 0, 1) := by decide +kernel
theorem dX8_set_38 : decode cX8_set 38 = .ok (.getfield 15, 3) := by decide +kernel
theorem dX8_set_41 : decode cX8_set 41 = .ok (.iload_n 1, 1) := by decide +kernel
theorem dX8_set_42 : decode cX8_set 42 = .ok (.iload_n 2, 1) := by decide +kernel
theorem dX8_set_43 : decode cX8_set 43 = .ok (.iastore, 1) := by decide +kernel
theorem dX8_set_44 : decode cX8_set 44 = .ok (.aload_n 0, 1) := by decide +kernel
theorem dX8_set_45 : decode cX8_set 45 = .ok (.getfield 34, 3) := by decide +kernel
theorem dX8_set_48 : decode cX8_set 48 = .ok (.invokevirtual 100, 3) := by decide +kernel
theorem dX8_set_51 : decode cX8_set 51 = .ok (.iload_n 3, 1) := by decide +kernel
theorem dX8_set_52 : decode cX8_set 52 = .ok (.ireturn, 1) := by decide +kernel
theorem dX8_odds_0 : decode cX8_odds 0 = .ok (.iload_n 1, 1) := by decide +kernel
theorem dX8_odds_1 : decode cX8_odds 1 = .ok (.iconst 3, 1) := by decide +kernel
theorem dX8_odds_2 : decode cX8_odds 2 = .ok (.invokestatic 89, 3) := by decide +kernel
theorem dX8_odds_5 : decode cX8_odds 5 = .ok (.ifCond .eq 12, 3) := by decide +kernel
theorem dX8_odds_8 : decode cX8_odds 8 = .ok (.iload_n 2, 1) := by decide +kernel
theorem dX8_odds_9 : decode cX8_odds 9 = .ok (.bipush 100, 2) := by decide +kernel
theorem dX8_odds_11 : decode cX8_odds 11 = .ok (.invokestatic 89, 3) := by decide +kernel
theorem dX8_odds_14 : decode cX8_odds 14 = .ok (.ifCond .ne 6, 3) := by decide +kernel
theorem dX8_odds_17 : decode cX8_odds 17 = .ok (.bipush (-2), 2) := by decide +kernel
theorem dX8_odds_19 : decode cX8_odds 19 = .ok (.ireturn, 1) := by decide +kernel
theorem dX8_odds_20 : decode cX8_odds 20 = .ok (.aload_n 0, 1) := by decide +kernel
theorem dX8_odds_21 : decode cX8_odds 21 = .ok (.getfield 19, 3) := by decide +kernel
theorem dX8_odds_24 : decode cX8_odds 24 = .ok (.iload_n 1, 1) := by decide +kernel
theorem dX8_odds_25 : decode cX8_odds 25 = .ok (.iaload, 1) := by decide +kernel
theorem dX8_odds_26 : decode cX8_odds 26 = .ok (.istore_n 3, 1) := by decide +kernel
theorem dX8_odds_27 : decode cX8_odds 27 = .ok (.aload_n 0, 1) := by decide +kernel
theorem dX8_odds_28 : decode cX8_odds 28 = .ok (.getfield 19, 3) := by decide +kernel
theorem dX8_odds_31 : decode cX8_odds 31 = .ok (.iload_n 1, 1) := by decide +kernel
theorem dX8_odds_32 : decode cX8_odds 32 = .ok (.iload_n 2, 1) := by decide +kernel
theorem dX8_odds_33 : decode cX8_odds 33 = .ok (.iastore, 1) := by decide +kernel
theorem dX8_odds_34 : decode cX8_odds 34 = .ok (.iload_n 3, 1) := by decide +kernel
theorem dX8_odds_35 : decode cX8_odds 35 = .ok (.ireturn, 1) := by decide +kernel
theorem dX8_dike_0 : decode cX8_dike 0 = .ok (.aload_n 0, 1) := by decide +kernel
theorem dX8_dike_1 : decode cX8_dike 1 = .ok (.getfield 25, 3) := by decide +kernel
theorem dX8_dike_4 : decode cX8_dike 4 = .ok (.iload_n 1, 1) := by decide +kernel
theorem dX8_dike_5 : decode cX8_dike 5 = .ok (.iload_n 2, 1) := by decide +kernel
theorem dX8_dike_6 : decode cX8_dike 6 = .ok (.iload_n 3, 1) := by decide +kernel
theorem dX8_dike_7 : decode cX8_dike 7 = .ok (.invokevirtual 140, 3) := by decide +kernel
theorem dX8_dike_10 : decode cX8_dike 10 = .ok (.ifCond .ne 6, 3) := by decide +kernel
theorem dX8_dike_13 : decode cX8_dike 13 = .ok (.bipush (-2), 2) := by decide +kernel
theorem dX8_dike_15 : decode cX8_dike 15 = .ok (.ireturn, 1) := by decide +kernel
theorem dX8_dike_16 : decode cX8_dike 16 = .ok (.aload_n 0, 1) := by decide +kernel
theorem dX8_dike_17 : decode cX8_dike 17 = .ok (.getfield 25, 3) := by decide +kernel
theorem dX8_dike_20 : decode cX8_dike 20 = .ok (.invokevirtual 144, 3) := by decide +kernel
theorem dX8_dike_23 : decode cX8_dike 23 = .ok (.ifCond .eq 6, 3) := by decide +kernel
theorem dX8_dike_26 : decode cX8_dike 26 = .ok (.bipush (-4), 2) := by decide +kernel
theorem dX8_dike_28 : decode cX8_dike 28 = .ok (.ireturn, 1) := by decide +kernel
theorem dX8_dike_29 : decode cX8_dike 29 = .ok (.aload_n 0, 1) := by decide +kernel
theorem dX8_dike_30 : decode cX8_dike 30 = .ok (.getfield 25, 3) := by decide +kernel
theorem dX8_dike_33 : decode cX8_dike 33 = .ok (.iload_n 1, 1) := by decide +kernel
theorem dX8_dike_34 : decode cX8_dike 34 = .ok (.iload_n 2, 1) := by decide +kernel
theorem dX8_dike_35 : decode cX8_dike 35 = .ok (.iload_n 3, 1) := by decide +kernel
theorem dX8_dike_36 : decode cX8_dike 36 = .ok (.invokevirtual 145, 3) := by decide +kernel
theorem dX8_dike_39 : decode cX8_dike 39 = .ok (.aload_n 0, 1) := by decide +kernel
theorem dX8_dike_40 : decode cX8_dike 40 = .ok (.getfield 34, 3) := by decide +kernel
theorem dX8_dike_43 : decode cX8_dike 43 = .ok (.invokevirtual 100, 3) := by decide +kernel
theorem dX8_dike_46 : decode cX8_dike 46 = .ok (.aload_n 0, 1) := by decide +kernel
theorem dX8_dike_47 : decode cX8_dike 47 = .ok (.getfield 25, 3) := by decide +kernel
theorem dX8_dike_50 : decode cX8_dike 50 = .ok (.getfield 149, 3) := by decide +kernel
theorem dX8_dike_53 : decode cX8_dike 53 = .ok (.ireturn, 1) := by decide +kernel
theorem dX8_read_0 : decode cX8_read 0 = .ok (.iload_n 1, 1) := by decide +kernel
theorem dX8_read_1 : decode cX8_read 1 = .ok (.iconst 4, 1) := by decide +kernel
theorem dX8_read_2 : decode cX8_read 2 = .ok (.invokestatic 89, 3) := by decide +kernel
theorem dX8_read_5 : decode cX8_read 5 = .ok (.ifCond .ne 6, 3) := by decide +kernel
theorem dX8_read_8 : decode cX8_read 8 = .ok (.bipush (-2), 2) := by decide +kernel
theorem dX8_read_10 : decode cX8_read 10 = .ok (.ireturn, 1) := by decide +kernel
theorem dX8_read_11 : decode cX8_read 11 = .ok (.aload_n 0, 1) := by decide +kernel
theorem dX8_read_12 : decode cX8_read 12 = .ok (.getfield 74, 3) := by decide +kernel
theorem dX8_read_15 : decode cX8_read 15 = .ok (.iload_n 1, 1) := by decide +kernel
theorem dX8_read_16 : decode cX8_read 16 = .ok (.aaload, 1) := by decide +kernel
theorem dX8_read_17 : decode cX8_read 17 = .ok (.invokevirtual 152, 3) := by decide +kernel
theorem dX8_read_20 : decode cX8_read 20 = .ok (.ifCond .eq 9, 3) := by decide +kernel
theorem dX8_read_23 : decode cX8_read 23 = .ok (.aload_n 0, 1) := by decide +kernel
theorem dX8_read_24 : decode cX8_read 24 = .ok (.iconst 1, 1) := by decide +kernel
theorem dX8_read_25 : decode cX8_read 25 = .ok (.invokevirtual 155, 3) := by decide +kernel
theorem dX8_read_28 : decode cX8_read 28 = .ok (.ireturn, 1) := by decide +kernel
theorem dX8_read_29 : decode cX8_read 29 = .ok (.aload_n 0, 1) := by decide +kernel
theorem dX8_read_30 : decode cX8_read 30 = .ok (.getfield 25, 3) := by decide +kernel
theorem dX8_read_33 : decode cX8_read 33 = .ok (.aload_n 0, 1) := by decide +kernel
theorem dX8_read_34 : decode cX8_read 34 = .ok (.getfield 74, 3) := by decide +kernel
theorem dX8_read_37 : decode cX8_read 37 = .ok (.iload_n 1, 1) := by decide +kernel
theorem dX8_read_38 : decode cX8_read 38 = .ok (.aaload, 1) := by decide +kernel
theorem dX8_read_39 : decode cX8_read 39 = .ok (.invokevirtual 158, 3) := by decide +kernel
theorem dX8_read_42 : decode cX8_read 42 = .ok (.istore_n 2, 1) := by decide +kernel
theorem dX8_read_43 : decode cX8_read 43 = .ok (.aload_n 0, 1) := by decide +kernel
theorem dX8_read_44 : decode cX8_read 44 = .ok (.getfield 34, 3) := by decide +kernel
theorem dX8_read_47 : decode cX8_read 47 = .ok (.invokevirtual 100, 3) := by decide +kernel
theorem dX8_read_50 : decode cX8_read 50 = .ok (.iload_n 2, 1) := by decide +kernel
theorem dX8_read_51 : decode cX8_read 51 = .ok (.ireturn, 1) := by decide +kernel
theorem dX8_breaks_0 : decode cX8_breaks 0 = .ok (.aload_n 0, 1) := by decide +kernel
theorem dX8_breaks_1 : decode cX8_breaks 1 = .ok (.getfield 25, 3) := by decide +kernel
theorem dX8_breaks_4 : decode cX8_breaks 4 = .ok (.getfield 149, 3) := by decide +kernel
theorem dX8_breaks_7 : decode cX8_breaks 7 = .ok (.ifCond .ne 6, 3) := by decide +kernel
theorem dX8_breaks_10 : decode cX8_breaks 10 = .ok (.bipush (-3), 2) := by decide +kernel
theorem dX8_breaks_12 : decode cX8_breaks 12 = .ok (.ireturn, 1) := by decide +kernel
theorem dX8_breaks_13 : decode cX8_breaks 13 = .ok (.aload_n 0, 1) := by decide +kernel
theorem dX8_breaks_14 : decode cX8_breaks 14 = .ok (.getfield 25, 3) := by decide +kernel
theorem dX8_breaks_17 : decode cX8_breaks 17 = .ok (.invokevirtual 162, 3) := by decide +kernel
theorem dX8_breaks_20 : decode cX8_breaks 20 = .ok (.aload_n 0, 1) := by decide +kernel
theorem dX8_breaks_21 : decode cX8_breaks 21 = .ok (.getfield 34, 3) := by decide +kernel
theorem dX8_breaks_24 : decode cX8_breaks 24 = .ok (.invokevirtual 100, 3) := by decide +kernel
theorem dX8_breaks_27 : decode cX8_breaks 27 = .ok (.aload_n 0, 1) := by decide +kernel
theorem dX8_breaks_28 : decode cX8_breaks 28 = .ok (.getfield 25, 3) := by decide +kernel
theorem dX8_breaks_31 : decode cX8_breaks 31 = .ok (.getfield 149, 3) := by decide +kernel
theorem dX8_breaks_34 : decode cX8_breaks 34 = .ok (.ireturn, 1) := by decide +kernel
theorem dX8_possession_0 : decode cX8_possession 0 = .ok (.iload_n 1, 1) := by decide +kernel
theorem dX8_possession_1 : decode cX8_possession 1 = .ok (.iconst 3, 1) := by decide +kernel
theorem dX8_possession_2 : decode cX8_possession 2 = .ok (.invokestatic 89, 3) := by decide +kernel
theorem dX8_possession_5 : decode cX8_possession 5 = .ok (.ifCond .ne 6, 3) := by decide +kernel
theorem dX8_possession_8 : decode cX8_possession 8 = .ok (.bipush (-2), 2) := by decide +kernel
theorem dX8_possession_10 : decode cX8_possession 10 = .ok (.ireturn, 1) := by decide +kernel
theorem dX8_possession_11 : decode cX8_possession 11 = .ok (.aload_n 0, 1) := by decide +kernel
theorem dX8_possession_12 : decode cX8_possession 12 = .ok (.getfield 34, 3) := by decide +kernel
theorem dX8_possession_15 : decode cX8_possession 15 = .ok (.invokevirtual 127, 3) := by decide +kernel
theorem dX8_possession_18 : decode cX8_possession 18 = .ok (.aload_n 0, 1) := by decide +kernel
theorem dX8_possession_19 : decode cX8_possession 19 = .ok (.getfield 34, 3) := by decide +kernel
theorem dX8_possession_22 : decode cX8_possession 22 = .ok (.iload_n 1, 1) := by decide +kernel
theorem dX8_possession_23 : decode cX8_possession 23 = .ok (.invokevirtual 163, 3) := by decide +kernel
theorem dX8_possession_26 : decode cX8_possession 26 = .ok (.ireturn, 1) := by decide +kernel
theorem dX8_wet_0 : decode cX8_wet 0 = .ok (.iload_n 1, 1) := by decide +kernel
theorem dX8_wet_1 : decode cX8_wet 1 = .ok (.iload_n 2, 1) := by decide +kernel
theorem dX8_wet_2 : decode cX8_wet 2 = .ok (.invokestatic 124, 3) := by decide +kernel
theorem dX8_wet_5 : decode cX8_wet 5 = .ok (.ifCond .eq 11, 3) := by decide +kernel
theorem dX8_wet_8 : decode cX8_wet 8 = .ok (.aload_n 0, 1) := by decide +kernel
theorem dX8_wet_9 : decode cX8_wet 9 = .ok (.iload_n 3, 1) := by decide +kernel
theorem dX8_wet_10 : decode cX8_wet 10 = .ok (.invokevirtual 116, 3) := by decide +kernel
theorem dX8_wet_13 : decode cX8_wet 13 = .ok (.ifCond .ne 6, 3) := by decide +kernel
theorem dX8_wet_16 : decode cX8_wet 16 = .ok (.bipush (-2), 2) := by decide +kernel
theorem dX8_wet_18 : decode cX8_wet 18 = .ok (.ireturn, 1) := by decide +kernel
theorem dX8_wet_19 : decode cX8_wet 19 = .ok (.aload_n 0, 1) := by decide +kernel
theorem dX8_wet_20 : decode cX8_wet 20 = .ok (.getfield 34, 3) := by decide +kernel
theorem dX8_wet_23 : decode cX8_wet 23 = .ok (.invokevirtual 127, 3) := by decide +kernel
theorem dX8_wet_26 : decode cX8_wet 26 = .ok (.aload_n 0, 1) := by decide +kernel
theorem dX8_wet_27 : decode cX8_wet 27 = .ok (.getfield 34, 3) := by decide +kernel
theorem dX8_wet_30 : decode cX8_wet 30 = .ok (.iload_n 1, 1) := by decide +kernel
theorem dX8_wet_31 : decode cX8_wet 31 = .ok (.iload_n 2, 1) := by decide +kernel
theorem dX8_wet_32 : decode cX8_wet 32 = .ok (.invokevirtual 166, 3) := by decide +kernel
theorem dX8_wet_35 : decode cX8_wet 35 = .ok (.iload_n 3, 1) := by decide +kernel
theorem dX8_wet_36 : decode cX8_wet 36 = .ok (.ishr, 1) := by decide +kernel
theorem dX8_wet_37 : decode cX8_wet 37 = .ok (.iconst 1, 1) := by decide +kernel
theorem dX8_wet_38 : decode cX8_wet 38 = .ok (.iand, 1) := by decide +kernel
theorem dX8_wet_39 : decode cX8_wet 39 = .ok (.ireturn, 1) := by decide +kernel
theorem dX8_water_0 : decode cX8_water 0 = .ok (.iload_n 1, 1) := by decide +kernel
theorem dX8_water_1 : decode cX8_water 1 = .ok (.iload_n 2, 1) := by decide +kernel
theorem dX8_water_2 : decode cX8_water 2 = .ok (.invokestatic 124, 3) := by decide +kernel
theorem dX8_water_5 : decode cX8_water 5 = .ok (.ifCond .eq 11, 3) := by decide +kernel
theorem dX8_water_8 : decode cX8_water 8 = .ok (.iload_n 3, 1) := by decide +kernel
theorem dX8_water_9 : decode cX8_water 9 = .ok (.iconst 2, 1) := by decide +kernel
theorem dX8_water_10 : decode cX8_water 10 = .ok (.invokestatic 89, 3) := by decide +kernel
theorem dX8_water_13 : decode cX8_water 13 = .ok (.ifCond .ne 6, 3) := by decide +kernel
theorem dX8_water_16 : decode cX8_water 16 = .ok (.bipush (-2), 2) := by decide +kernel
theorem dX8_water_18 : decode cX8_water 18 = .ok (.ireturn, 1) := by decide +kernel
theorem dX8_water_19 : decode cX8_water 19 = .ok (.aload_n 0, 1) := by decide +kernel
theorem dX8_water_20 : decode cX8_water 20 = .ok (.getfield 34, 3) := by decide +kernel
theorem dX8_water_23 : decode cX8_water 23 = .ok (.invokevirtual 127, 3) := by decide +kernel
theorem dX8_water_26 : decode cX8_water 26 = .ok (.aload_n 0, 1) := by decide +kernel
theorem dX8_water_27 : decode cX8_water 27 = .ok (.getfield 34, 3) := by decide +kernel
theorem dX8_water_30 : decode cX8_water 30 = .ok (.iload_n 1, 1) := by decide +kernel
theorem dX8_water_31 : decode cX8_water 31 = .ok (.iload_n 2, 1) := by decide +kernel
theorem dX8_water_32 : decode cX8_water 32 = .ok (.invokevirtual 166, 3) := by decide +kernel
theorem dX8_water_35 : decode cX8_water 35 = .ok (.istore 4, 2) := by decide +kernel
theorem dX8_water_37 : decode cX8_water 37 = .ok (.iload_n 3, 1) := by decide +kernel
theorem dX8_water_38 : decode cX8_water 38 = .ok (.ifCond .ne 8, 3) := by decide +kernel
theorem dX8_water_41 : decode cX8_water 41 = .ok (.iload 4, 2) := by decide +kernel
theorem dX8_water_43 : decode cX8_water 43 = .ok (.goto 8, 3) := by decide +kernel
theorem dX8_water_46 : decode cX8_water 46 = .ok (.iload 4, 2) := by decide +kernel
theorem dX8_water_48 : decode cX8_water 48 = .ok (.invokestatic 169, 3) := by decide +kernel
theorem dX8_water_51 : decode cX8_water 51 = .ok (.ireturn, 1) := by decide +kernel
theorem dX8_cost_0 : decode cX8_cost 0 = .ok (.iload_n 1, 1) := by decide +kernel
theorem dX8_cost_1 : decode cX8_cost 1 = .ok (.iload_n 2, 1) := by decide +kernel
theorem dX8_cost_2 : decode cX8_cost 2 = .ok (.invokestatic 124, 3) := by decide +kernel
theorem dX8_cost_5 : decode cX8_cost 5 = .ok (.ifCond .eq 29, 3) := by decide +kernel
theorem dX8_cost_8 : decode cX8_cost 8 = .ok (.aload_n 0, 1) := by decide +kernel
theorem dX8_cost_9 : decode cX8_cost 9 = .ok (.iload_n 3, 1) := by decide +kernel
theorem dX8_cost_10 : decode cX8_cost 10 = .ok (.invokevirtual 116, 3) := by decide +kernel
theorem dX8_cost_13 : decode cX8_cost 13 = .ok (.ifCond .eq 21, 3) := by decide +kernel
theorem dX8_cost_16 : decode cX8_cost 16 = .ok (.aload_n 0, 1) := by decide +kernel
theorem dX8_cost_17 : decode cX8_cost 17 = .ok (.iload 4, 2) := by decide +kernel
theorem dX8_cost_19 : decode cX8_cost 19 = .ok (.invokevirtual 116, 3) := by decide +kernel
theorem dX8_cost_22 : decode cX8_cost 22 = .ok (.ifCond .eq 12, 3) := by decide +kernel
theorem dX8_cost_25 : decode cX8_cost 25 = .ok (.iload 5, 2) := by decide +kernel
theorem dX8_cost_27 : decode cX8_cost 27 = .ok (.iconst 3, 1) := by decide +kernel
theorem dX8_cost_28 : decode cX8_cost 28 = .ok (.invokestatic 89, 3) := by decide +kernel
theorem dX8_cost_31 : decode cX8_cost 31 = .ok (.ifCond .ne 6, 3) := by decide +kernel
theorem dX8_cost_34 : decode cX8_cost 34 = .ok (.bipush (-2), 2) := by decide +kernel
theorem dX8_cost_36 : decode cX8_cost 36 = .ok (.ireturn, 1) := by decide +kernel
theorem dX8_cost_37 : decode cX8_cost 37 = .ok (.aload_n 0, 1) := by decide +kernel
theorem dX8_cost_38 : decode cX8_cost 38 = .ok (.getfield 34, 3) := by decide +kernel
theorem dX8_cost_41 : decode cX8_cost 41 = .ok (.invokevirtual 127, 3) := by decide +kernel
theorem dX8_cost_44 : decode cX8_cost 44 = .ok (.iload_n 3, 1) := by decide +kernel
theorem dX8_cost_45 : decode cX8_cost 45 = .ok (.iload 4, 2) := by decide +kernel
theorem dX8_cost_47 : decode cX8_cost 47 = .ok (.invokestatic 172, 3) := by decide +kernel
theorem dX8_cost_50 : decode cX8_cost 50 = .ok (.istore 6, 2) := by decide +kernel
theorem dX8_cost_52 : decode cX8_cost 52 = .ok (.iload_n 3, 1) := by decide +kernel
theorem dX8_cost_53 : decode cX8_cost 53 = .ok (.iload 4, 2) := by decide +kernel
theorem dX8_cost_55 : decode cX8_cost 55 = .ok (.invokestatic 177, 3) := by decide +kernel
theorem dX8_cost_58 : decode cX8_cost 58 = .ok (.istore 7, 2) := by decide +kernel
theorem dX8_cost_60 : decode cX8_cost 60 = .ok (.aload_n 0, 1) := by decide +kernel
theorem dX8_cost_61 : decode cX8_cost 61 = .ok (.getfield 34, 3) := by decide +kernel
theorem dX8_cost_64 : decode cX8_cost 64 = .ok (.iload_n 1, 1) := by decide +kernel
theorem dX8_cost_65 : decode cX8_cost 65 = .ok (.iload_n 2, 1) := by decide +kernel
theorem dX8_cost_66 : decode cX8_cost 66 = .ok (.invokevirtual 166, 3) := by decide +kernel
theorem dX8_cost_69 : decode cX8_cost 69 = .ok (.iload 6, 2) := by decide +kernel
theorem dX8_cost_71 : decode cX8_cost 71 = .ok (.iload 7, 2) := by decide +kernel
theorem dX8_cost_73 : decode cX8_cost 73 = .ok (.aload_n 0, 1) := by decide +kernel
theorem dX8_cost_74 : decode cX8_cost 74 = .ok (.getfield 15, 3) := by decide +kernel
theorem dX8_cost_77 : decode cX8_cost 77 = .ok (.iconst 2, 1) := by decide +kernel
theorem dX8_cost_78 : decode cX8_cost 78 = .ok (.iaload, 1) := by decide +kernel
theorem dX8_cost_79 : decode cX8_cost 79 = .ok (.invokestatic 180, 3) := by decide +kernel
theorem dX8_cost_82 : decode cX8_cost 82 = .ok (.istore 8, 2) := by decide +kernel
theorem dX8_cost_84 : decode cX8_cost 84 = .ok (.iload 6, 2) := by decide +kernel
theorem dX8_cost_86 : decode cX8_cost 86 = .ok (.iload 7, 2) := by decide +kernel
theorem dX8_cost_88 : decode cX8_cost 88 = .ok (.aload_n 0, 1) := by decide +kernel
theorem dX8_cost_89 : decode cX8_cost 89 = .ok (.getfield 15, 3) := by decide +kernel
theorem dX8_cost_92 : decode cX8_cost 92 = .ok (.iconst 3, 1) := by decide +kernel
theorem dX8_cost_93 : decode cX8_cost 93 = .ok (.iaload, 1) := by decide +kernel
theorem dX8_cost_94 : decode cX8_cost 94 = .ok (.invokestatic 184, 3) := by decide +kernel
theorem dX8_cost_97 : decode cX8_cost 97 = .ok (.istore 9, 2) := by decide +kernel
theorem dX8_cost_99 : decode cX8_cost 99 = .ok (.iload 5, 2) := by decide +kernel
theorem dX8_cost_101 : decode cX8_cost 101 = .ok (.ifCond .ne 11, 3) := by decide +kernel
theorem dX8_cost_104 : decode cX8_cost 104 = .ok (.iload 8, 2) := by decide +kernel
theorem dX8_cost_106 : decode cX8_cost 106 = .ok (.iload 9, 2) := by decide +kernel
theorem dX8_cost_108 : decode cX8_cost 108 = .ok (.invokestatic 172, 3) := by decide +kernel
theorem dX8_cost_111 : decode cX8_cost 111 = .ok (.ireturn, 1) := by decide +kernel
theorem dX8_cost_112 : decode cX8_cost 112 = .ok (.iload 5, 2) := by decide +kernel
theorem dX8_cost_114 : decode cX8_cost 114 = .ok (.iconst 1, 1) := by decide +kernel
theorem dX8_cost_115 : decode cX8_cost 115 = .ok (.if_icmp .ne 8, 3) := by decide +kernel
theorem dX8_cost_118 : decode cX8_cost 118 = .ok (.iload 8, 2) := by decide +kernel
theorem dX8_cost_120 : decode cX8_cost 120 = .ok (.goto 5, 3) := by decide +kernel
theorem dX8_cost_123 : decode cX8_cost 123 = .ok (.iload 9, 2) := by decide +kernel
theorem dX8_cost_125 : decode cX8_cost 125 = .ok (.ireturn, 1) := by decide +kernel
theorem dX8_closed_0 : decode cX8_closed 0 = .ok (.iload_n 1, 1) := by decide +kernel
theorem dX8_closed_1 : decode cX8_closed 1 = .ok (.iconst 3, 1) := by decide +kernel
theorem dX8_closed_2 : decode cX8_closed 2 = .ok (.invokestatic 89, 3) := by decide +kernel
theorem dX8_closed_5 : decode cX8_closed 5 = .ok (.ifCond .eq 11, 3) := by decide +kernel
theorem dX8_closed_8 : decode cX8_closed 8 = .ok (.aload_n 0, 1) := by decide +kernel
theorem dX8_closed_9 : decode cX8_closed 9 = .ok (.iload_n 2, 1) := by decide +kernel
theorem dX8_closed_10 : decode cX8_closed 10 = .ok (.invokevirtual 116, 3) := by decide +kernel
theorem dX8_closed_13 : decode cX8_closed 13 = .ok (.ifCond .ne 6, 3) := by decide +kernel
theorem dX8_closed_16 : decode cX8_closed 16 = .ok (.bipush (-2), 2) := by decide +kernel
theorem dX8_closed_18 : decode cX8_closed 18 = .ok (.ireturn, 1) := by decide +kernel
theorem dX8_closed_19 : decode cX8_closed 19 = .ok (.aload_n 0, 1) := by decide +kernel
theorem dX8_closed_20 : decode cX8_closed 20 = .ok (.getfield 34, 3) := by decide +kernel
theorem dX8_closed_23 : decode cX8_closed 23 = .ok (.invokevirtual 127, 3) := by decide +kernel
theorem dX8_closed_26 : decode cX8_closed 26 = .ok (.aload_n 0, 1) := by decide +kernel
theorem dX8_closed_27 : decode cX8_closed 27 = .ok (.getfield 34, 3) := by decide +kernel
theorem dX8_closed_30 : decode cX8_closed 30 = .ok (.iload_n 1, 1) := by decide +kernel
theorem dX8_closed_31 : decode cX8_closed 31 = .ok (.iload_n 2, 1) := by decide +kernel
theorem dX8_closed_32 : decode cX8_closed 32 = .ok (.invokevirtual 188, 3) := by decide +kernel
theorem dX8_closed_35 : decode cX8_closed 35 = .ok (.ireturn, 1) := by decide +kernel
theorem dX8_deed_0 : decode cX8_deed 0 = .ok (.iload_n 1, 1) := by decide +kernel
theorem dX8_deed_1 : decode cX8_deed 1 = .ok (.iconst 3, 1) := by decide +kernel
theorem dX8_deed_2 : decode cX8_deed 2 = .ok (.invokestatic 89, 3) := by decide +kernel
theorem dX8_deed_5 : decode cX8_deed 5 = .ok (.ifCond .eq 11, 3) := by decide +kernel
theorem dX8_deed_8 : decode cX8_deed 8 = .ok (.iload_n 2, 1) := by decide +kernel
theorem dX8_deed_9 : decode cX8_deed 9 = .ok (.iconst 3, 1) := by decide +kernel
theorem dX8_deed_10 : decode cX8_deed 10 = .ok (.invokestatic 89, 3) := by decide +kernel
theorem dX8_deed_13 : decode cX8_deed 13 = .ok (.ifCond .ne 6, 3) := by decide +kernel
theorem dX8_deed_16 : decode cX8_deed 16 = .ok (.ldc 191, 2) := by decide +kernel
theorem dX8_deed_18 : decode cX8_deed 18 = .ok (.ireturn, 1) := by decide +kernel
theorem dX8_deed_19 : decode cX8_deed 19 = .ok (.aload_n 0, 1) := by decide +kernel
theorem dX8_deed_20 : decode cX8_deed 20 = .ok (.getfield 34, 3) := by decide +kernel
theorem dX8_deed_23 : decode cX8_deed 23 = .ok (.invokevirtual 127, 3) := by decide +kernel
theorem dX8_deed_26 : decode cX8_deed 26 = .ok (.iconst 0, 1) := by decide +kernel
theorem dX8_deed_27 : decode cX8_deed 27 = .ok (.istore_n 3, 1) := by decide +kernel
theorem dX8_deed_28 : decode cX8_deed 28 = .ok (.iconst 0, 1) := by decide +kernel
theorem dX8_deed_29 : decode cX8_deed 29 = .ok (.istore 4, 2) := by decide +kernel
theorem dX8_deed_31 : decode cX8_deed 31 = .ok (.iconst 0, 1) := by decide +kernel
theorem dX8_deed_32 : decode cX8_deed 32 = .ok (.istore 5, 2) := by decide +kernel
theorem dX8_deed_34 : decode cX8_deed 34 = .ok (.iload 5, 2) := by decide +kernel
theorem dX8_deed_36 : decode cX8_deed 36 = .ok (.bipush 30, 2) := by decide +kernel
theorem dX8_deed_38 : decode cX8_deed 38 = .ok (.if_icmp .ge 44, 3) := by decide +kernel
theorem dX8_deed_41 : decode cX8_deed 41 = .ok (.aload_n 0, 1) := by decide +kernel
theorem dX8_deed_42 : decode cX8_deed 42 = .ok (.getfield 34, 3) := by decide +kernel
theorem dX8_deed_45 : decode cX8_deed 45 = .ok (.iload_n 1, 1) := by decide +kernel
theorem dX8_deed_46 : decode cX8_deed 46 = .ok (.iload 5, 2) := by decide +kernel
theorem dX8_deed_48 : decode cX8_deed 48 = .ok (.invokevirtual 166, 3) := by decide +kernel
theorem dX8_deed_51 : decode cX8_deed 51 = .ok (.istore 6, 2) := by decide +kernel
theorem dX8_deed_53 : decode cX8_deed 53 = .ok (.iload_n 3, 1) := by decide +kernel
theorem dX8_deed_54 : decode cX8_deed 54 = .ok (.iload 6, 2) := by decide +kernel
theorem dX8_deed_56 : decode cX8_deed 56 = .ok (.invokestatic 192, 3) := by decide +kernel
theorem dX8_deed_59 : decode cX8_deed 59 = .ok (.iadd, 1) := by decide +kernel
theorem dX8_deed_60 : decode cX8_deed 60 = .ok (.istore_n 3, 1) := by decide +kernel
theorem dX8_deed_61 : decode cX8_deed 61 = .ok (.iload 4, 2) := by decide +kernel
theorem dX8_deed_63 : decode cX8_deed 63 = .ok (.iload 6, 2) := by decide +kernel
theorem dX8_deed_65 : decode cX8_deed 65 = .ok (.ifCond .ne 7, 3) := by decide +kernel
theorem dX8_deed_68 : decode cX8_deed 68 = .ok (.iconst 0, 1) := by decide +kernel
theorem dX8_deed_69 : decode cX8_deed 69 = .ok (.goto 4, 3) := by decide +kernel
theorem dX8_deed_72 : decode cX8_deed 72 = .ok (.iconst 1, 1) := by decide +kernel
theorem dX8_deed_73 : decode cX8_deed 73 = .ok (.iadd, 1) := by decide +kernel
theorem dX8_deed_74 : decode cX8_deed 74 = .ok (.istore 4, 2) := by decide +kernel
theorem dX8_deed_76 : decode cX8_deed 76 = .ok (.iinc 5 1, 3) := by decide +kernel
theorem dX8_deed_79 : decode cX8_deed 79 = .ok (.goto (-45), 3) := by decide +kernel
theorem dX8_deed_82 : decode cX8_deed 82 = .ok (.iload_n 2, 1) := by decide +kernel
theorem dX8_deed_83 : decode cX8_deed 83 = .ok (.ifCond .ne 5, 3) := by decide +kernel
theorem dX8_deed_86 : decode cX8_deed 86 = .ok (.iload_n 3, 1) := by decide +kernel
theorem dX8_deed_87 : decode cX8_deed 87 = .ok (.ireturn, 1) := by decide +kernel
theorem dX8_deed_88 : decode cX8_deed 88 = .ok (.iload_n 2, 1) := by decide +kernel
theorem dX8_deed_89 : decode cX8_deed 89 = .ok (.iconst 1, 1) := by decide +kernel
theorem dX8_deed_90 : decode cX8_deed 90 = .ok (.if_icmp .ne 8, 3) := by decide +kernel
theorem dX8_deed_93 : decode cX8_deed 93 = .ok (.iload 4, 2) := by decide +kernel
theorem dX8_deed_95 : decode cX8_deed 95 = .ok (.goto 21, 3) := by decide +kernel
theorem dX8_deed_98 : decode cX8_deed 98 = .ok (.aload_n 0, 1) := by decide +kernel
theorem dX8_deed_99 : decode cX8_deed 99 = .ok (.getfield 15, 3) := by decide +kernel
theorem dX8_deed_102 : decode cX8_deed 102 = .ok (.iconst 4, 1) := by decide +kernel
theorem dX8_deed_103 : decode cX8_deed 103 = .ok (.iaload, 1) := by decide +kernel
theorem dX8_deed_104 : decode cX8_deed 104 = .ok (.iload_n 3, 1) := by decide +kernel
theorem dX8_deed_105 : decode cX8_deed 105 = .ok (.imul, 1) := by decide +kernel
theorem dX8_deed_106 : decode cX8_deed 106 = .ok (.aload_n 0, 1) := by decide +kernel
theorem dX8_deed_107 : decode cX8_deed 107 = .ok (.getfield 15, 3) := by decide +kernel
theorem dX8_deed_110 : decode cX8_deed 110 = .ok (.iconst 5, 1) := by decide +kernel
theorem dX8_deed_111 : decode cX8_deed 111 = .ok (.iaload, 1) := by decide +kernel
theorem dX8_deed_112 : decode cX8_deed 112 = .ok (.iload 4, 2) := by decide +kernel
theorem dX8_deed_114 : decode cX8_deed 114 = .ok (.imul, 1) := by decide +kernel
theorem dX8_deed_115 : decode cX8_deed 115 = .ok (.isub, 1) := by decide +kernel
theorem dX8_deed_116 : decode cX8_deed 116 = .ok (.ireturn, 1) := by decide +kernel
theorem dX8_waits_0 : decode cX8_waits 0 = .ok (.iload_n 1, 1) := by decide +kernel
theorem dX8_waits_1 : decode cX8_waits 1 = .ok (.iload_n 2, 1) := by decide +kernel
theorem dX8_waits_2 : decode cX8_waits 2 = .ok (.invokestatic 124, 3) := by decide +kernel
theorem dX8_waits_5 : decode cX8_waits 5 = .ok (.ifCond .eq 29, 3) := by decide +kernel
theorem dX8_waits_8 : decode cX8_waits 8 = .ok (.aload_n 0, 1) := by decide +kernel
theorem dX8_waits_9 : decode cX8_waits 9 = .ok (.iload_n 3, 1) := by decide +kernel
theorem dX8_waits_10 : decode cX8_waits 10 = .ok (.invokevirtual 116, 3) := by decide +kernel
theorem dX8_waits_13 : decode cX8_waits 13 = .ok (.ifCond .eq 21, 3) := by decide +kernel
theorem dX8_waits_16 : decode cX8_waits 16 = .ok (.aload_n 0, 1) := by decide +kernel
theorem dX8_waits_17 : decode cX8_waits 17 = .ok (.iload 4, 2) := by decide +kernel
theorem dX8_waits_19 : decode cX8_waits 19 = .ok (.invokevirtual 116, 3) := by decide +kernel
theorem dX8_waits_22 : decode cX8_waits 22 = .ok (.ifCond .eq 12, 3) := by decide +kernel
theorem dX8_waits_25 : decode cX8_waits 25 = .ok (.iload 5, 2) := by decide +kernel
theorem dX8_waits_27 : decode cX8_waits 27 = .ok (.iconst 2, 1) := by decide +kernel
theorem dX8_waits_28 : decode cX8_waits 28 = .ok (.invokestatic 89, 3) := by decide +kernel
theorem dX8_waits_31 : decode cX8_waits 31 = .ok (.ifCond .ne 7, 3) := by decide +kernel
theorem dX8_waits_34 : decode cX8_waits 34 = .ok (.ldc2_w 197, 3) := by decide +kernel
theorem dX8_waits_37 : decode cX8_waits 37 = .ok (.lreturn, 1) := by decide +kernel
theorem dX8_waits_38 : decode cX8_waits 38 = .ok (.aload_n 0, 1) := by decide +kernel
theorem dX8_waits_39 : decode cX8_waits 39 = .ok (.getfield 34, 3) := by decide +kernel
theorem dX8_waits_42 : decode cX8_waits 42 = .ok (.invokevirtual 127, 3) := by decide +kernel
theorem dX8_waits_45 : decode cX8_waits 45 = .ok (.aload_n 0, 1) := by decide +kernel
theorem dX8_waits_46 : decode cX8_waits 46 = .ok (.getfield 43, 3) := by decide +kernel
theorem dX8_waits_49 : decode cX8_waits 49 = .ok (.iload_n 2, 1) := by decide +kernel
theorem dX8_waits_50 : decode cX8_waits 50 = .ok (.iload_n 3, 1) := by decide +kernel
theorem dX8_waits_51 : decode cX8_waits 51 = .ok (.iload 4, 2) := by decide +kernel
theorem dX8_waits_53 : decode cX8_waits 53 = .ok (.invokestatic 172, 3) := by decide +kernel
theorem dX8_waits_56 : decode cX8_waits 56 = .ok (.iload_n 3, 1) := by decide +kernel
theorem dX8_waits_57 : decode cX8_waits 57 = .ok (.iload 4, 2) := by decide +kernel
theorem dX8_waits_59 : decode cX8_waits 59 = .ok (.invokestatic 177, 3) := by decide +kernel
theorem dX8_waits_62 : decode cX8_waits 62 = .ok (.invokevirtual 199, 3) := by decide +kernel
theorem dX8_waits_65 : decode cX8_waits 65 = .ok (.aload_n 0, 1) := by decide +kernel
theorem dX8_waits_66 : decode cX8_waits 66 = .ok (.getfield 43, 3) := by decide +kernel
theorem dX8_waits_69 : decode cX8_waits 69 = .ok (.iload_n 1, 1) := by decide +kernel
theorem dX8_waits_70 : decode cX8_waits 70 = .ok (.iload_n 2, 1) := by decide +kernel
theorem dX8_waits_71 : decode cX8_waits 71 = .ok (.invokevirtual 202, 3) := by decide +kernel
theorem dX8_waits_74 : decode cX8_waits 74 = .ok (.istore 6, 2) := by decide +kernel
theorem dX8_waits_76 : decode cX8_waits 76 = .ok (.iload 6, 2) := by decide +kernel
theorem dX8_waits_78 : decode cX8_waits 78 = .ok (.ifCond .ne 7, 3) := by decide +kernel
theorem dX8_waits_81 : decode cX8_waits 81 = .ok (.ldc2_w 205, 3) := by decide +kernel
theorem dX8_waits_84 : decode cX8_waits 84 = .ok (.lreturn, 1) := by decide +kernel
theorem dX8_waits_85 : decode cX8_waits 85 = .ok (.aload_n 0, 1) := by decide +kernel
theorem dX8_waits_86 : decode cX8_waits 86 = .ok (.getfield 43, 3) := by decide +kernel
theorem dX8_waits_89 : decode cX8_waits 89 = .ok (.iload_n 1, 1) := by decide +kernel
theorem dX8_waits_90 : decode cX8_waits 90 = .ok (.invokevirtual 207, 3) := by decide +kernel
theorem dX8_waits_93 : decode cX8_waits 93 = .ok (.iload 6, 2) := by decide +kernel
theorem dX8_waits_95 : decode cX8_waits 95 = .ok (.iload 5, 2) := by decide +kernel
theorem dX8_waits_97 : decode cX8_waits 97 = .ok (.invokestatic 210, 3) := by decide +kernel
theorem dX8_waits_100 : decode cX8_waits 100 = .ok (.lreturn, 1) := by decide +kernel
theorem dX8_goes_0 : decode cX8_goes 0 = .ok (.iload_n 1, 1) := by decide +kernel
theorem dX8_goes_1 : decode cX8_goes 1 = .ok (.iload_n 2, 1) := by decide +kernel
theorem dX8_goes_2 : decode cX8_goes 2 = .ok (.invokestatic 124, 3) := by decide +kernel
theorem dX8_goes_5 : decode cX8_goes 5 = .ok (.ifCond .eq 20, 3) := by decide +kernel
theorem dX8_goes_8 : decode cX8_goes 8 = .ok (.aload_n 0, 1) := by decide +kernel
theorem dX8_goes_9 : decode cX8_goes 9 = .ok (.iload_n 3, 1) := by decide +kernel
theorem dX8_goes_10 : decode cX8_goes 10 = .ok (.invokevirtual 116, 3) := by decide +kernel
theorem dX8_goes_13 : decode cX8_goes 13 = .ok (.ifCond .eq 12, 3) := by decide +kernel
theorem dX8_goes_16 : decode cX8_goes 16 = .ok (.aload_n 0, 1) := by decide +kernel
theorem dX8_goes_17 : decode cX8_goes 17 = .ok (.iload 4, 2) := by decide +kernel
theorem dX8_goes_19 : decode cX8_goes 19 = .ok (.invokevirtual 116, 3) := by decide +kernel
theorem dX8_goes_22 : decode cX8_goes 22 = .ok (.ifCond .ne 6, 3) := by decide +kernel
theorem dX8_goes_25 : decode cX8_goes 25 = .ok (.bipush (-2), 2) := by decide +kernel
theorem dX8_goes_27 : decode cX8_goes 27 = .ok (.ireturn, 1) := by decide +kernel
theorem dX8_goes_28 : decode cX8_goes 28 = .ok (.aload_n 0, 1) := by decide +kernel
theorem dX8_goes_29 : decode cX8_goes 29 = .ok (.getfield 34, 3) := by decide +kernel
theorem dX8_goes_32 : decode cX8_goes 32 = .ok (.invokevirtual 127, 3) := by decide +kernel
theorem dX8_goes_35 : decode cX8_goes 35 = .ok (.aload_n 0, 1) := by decide +kernel
theorem dX8_goes_36 : decode cX8_goes 36 = .ok (.getfield 43, 3) := by decide +kernel
theorem dX8_goes_39 : decode cX8_goes 39 = .ok (.iload_n 2, 1) := by decide +kernel
theorem dX8_goes_40 : decode cX8_goes 40 = .ok (.iload_n 3, 1) := by decide +kernel
theorem dX8_goes_41 : decode cX8_goes 41 = .ok (.iload 4, 2) := by decide +kernel
theorem dX8_goes_43 : decode cX8_goes 43 = .ok (.invokestatic 172, 3) := by decide +kernel
theorem dX8_goes_46 : decode cX8_goes 46 = .ok (.iload_n 3, 1) := by decide +kernel
theorem dX8_goes_47 : decode cX8_goes 47 = .ok (.iload 4, 2) := by decide +kernel
theorem dX8_goes_49 : decode cX8_goes 49 = .ok (.invokestatic 177, 3) := by decide +kernel
theorem dX8_goes_52 : decode cX8_goes 52 = .ok (.invokevirtual 199, 3) := by decide +kernel
theorem dX8_goes_55 : decode cX8_goes 55 = .ok (.aload_n 0, 1) := by decide +kernel
theorem dX8_goes_56 : decode cX8_goes 56 = .ok (.getfield 43, 3) := by decide +kernel
theorem dX8_goes_59 : decode cX8_goes 59 = .ok (.iload_n 1, 1) := by decide +kernel
theorem dX8_goes_60 : decode cX8_goes 60 = .ok (.iload_n 2, 1) := by decide +kernel
theorem dX8_goes_61 : decode cX8_goes 61 = .ok (.invokevirtual 202, 3) := by decide +kernel
theorem dX8_goes_64 : decode cX8_goes 64 = .ok (.ifCond .ne 6, 3) := by decide +kernel
theorem dX8_goes_67 : decode cX8_goes 67 = .ok (.bipush (-3), 2) := by decide +kernel
theorem dX8_goes_69 : decode cX8_goes 69 = .ok (.ireturn, 1) := by decide +kernel
theorem dX8_goes_70 : decode cX8_goes 70 = .ok (.aload_n 0, 1) := by decide +kernel
theorem dX8_goes_71 : decode cX8_goes 71 = .ok (.getfield 43, 3) := by decide +kernel
theorem dX8_goes_74 : decode cX8_goes 74 = .ok (.iload_n 1, 1) := by decide +kernel
theorem dX8_goes_75 : decode cX8_goes 75 = .ok (.invokevirtual 214, 3) := by decide +kernel
theorem dX8_goes_78 : decode cX8_goes 78 = .ok (.ifCond .eq 7, 3) := by decide +kernel
theorem dX8_goes_81 : decode cX8_goes 81 = .ok (.iconst 1, 1) := by decide +kernel
theorem dX8_goes_82 : decode cX8_goes 82 = .ok (.goto 4, 3) := by decide +kernel
theorem dX8_goes_85 : decode cX8_goes 85 = .ok (.iconst 0, 1) := by decide +kernel
theorem dX8_goes_86 : decode cX8_goes 86 = .ok (.ireturn, 1) := by decide +kernel
theorem dX8_keep_0 : decode cX8_keep 0 = .ok (.iload_n 1, 1) := by decide +kernel
theorem dX8_keep_1 : decode cX8_keep 1 = .ok (.iload_n 2, 1) := by decide +kernel
theorem dX8_keep_2 : decode cX8_keep 2 = .ok (.invokestatic 124, 3) := by decide +kernel
theorem dX8_keep_5 : decode cX8_keep 5 = .ok (.ifCond .eq 42, 3) := by decide +kernel
theorem dX8_keep_8 : decode cX8_keep 8 = .ok (.aload_n 0, 1) := by decide +kernel
theorem dX8_keep_9 : decode cX8_keep 9 = .ok (.iload_n 3, 1) := by decide +kernel
theorem dX8_keep_10 : decode cX8_keep 10 = .ok (.invokevirtual 116, 3) := by decide +kernel
theorem dX8_keep_13 : decode cX8_keep 13 = .ok (.ifCond .eq 34, 3) := by decide +kernel
theorem dX8_keep_16 : decode cX8_keep 16 = .ok (.aload_n 0, 1) := by decide +kernel
theorem dX8_keep_17 : decode cX8_keep 17 = .ok (.iload 4, 2) := by decide +kernel
theorem dX8_keep_19 : decode cX8_keep 19 = .ok (.invokevirtual 116, 3) := by decide +kernel
theorem dX8_keep_22 : decode cX8_keep 22 = .ok (.ifCond .eq 25, 3) := by decide +kernel
theorem dX8_keep_25 : decode cX8_keep 25 = .ok (.iload 5, 2) := by decide +kernel
theorem dX8_keep_27 : decode cX8_keep 27 = .ok (.iconst 1, 1) := by decide +kernel
theorem dX8_keep_28 : decode cX8_keep 28 = .ok (.if_icmp .lt 19, 3) := by decide +kernel
theorem dX8_keep_31 : decode cX8_keep 31 = .ok (.iload 5, 2) := by decide +kernel
theorem dX8_keep_33 : decode cX8_keep 33 = .ok (.bipush 12, 2) := by decide +kernel
theorem dX8_keep_35 : decode cX8_keep 35 = .ok (.if_icmp .gt 12, 3) := by decide +kernel
theorem dX8_keep_38 : decode cX8_keep 38 = .ok (.iload 6, 2) := by decide +kernel
theorem dX8_keep_40 : decode cX8_keep 40 = .ok (.iconst 3, 1) := by decide +kernel
theorem dX8_keep_41 : decode cX8_keep 41 = .ok (.invokestatic 89, 3) := by decide +kernel
theorem dX8_keep_44 : decode cX8_keep 44 = .ok (.ifCond .ne 6, 3) := by decide +kernel
theorem dX8_keep_47 : decode cX8_keep 47 = .ok (.bipush (-2), 2) := by decide +kernel
theorem dX8_keep_49 : decode cX8_keep 49 = .ok (.ireturn, 1) := by decide +kernel
theorem dX8_keep_50 : decode cX8_keep 50 = .ok (.aload_n 0, 1) := by decide +kernel
theorem dX8_keep_51 : decode cX8_keep 51 = .ok (.getfield 34, 3) := by decide +kernel
theorem dX8_keep_54 : decode cX8_keep 54 = .ok (.invokevirtual 127, 3) := by decide +kernel
theorem dX8_keep_57 : decode cX8_keep 57 = .ok (.aload_n 0, 1) := by decide +kernel
theorem dX8_keep_58 : decode cX8_keep 58 = .ok (.getfield 52, 3) := by decide +kernel
theorem dX8_keep_61 : decode cX8_keep 61 = .ok (.iload_n 1, 1) := by decide +kernel
theorem dX8_keep_62 : decode cX8_keep 62 = .ok (.iload_n 2, 1) := by decide +kernel
theorem dX8_keep_63 : decode cX8_keep 63 = .ok (.iload_n 3, 1) := by decide +kernel
theorem dX8_keep_64 : decode cX8_keep 64 = .ok (.iload 4, 2) := by decide +kernel
theorem dX8_keep_66 : decode cX8_keep 66 = .ok (.invokestatic 172, 3) := by decide +kernel
theorem dX8_keep_69 : decode cX8_keep 69 = .ok (.iload_n 3, 1) := by decide +kernel
theorem dX8_keep_70 : decode cX8_keep 70 = .ok (.iload 4, 2) := by decide +kernel
theorem dX8_keep_72 : decode cX8_keep 72 = .ok (.invokestatic 177, 3) := by decide +kernel
theorem dX8_keep_75 : decode cX8_keep 75 = .ok (.iload 5, 2) := by decide +kernel
theorem dX8_keep_77 : decode cX8_keep 77 = .ok (.invokevirtual 217, 3) := by decide +kernel
theorem dX8_keep_80 : decode cX8_keep 80 = .ok (.iload 6, 2) := by decide +kernel
theorem dX8_keep_82 : decode cX8_keep 82 = .ok (.ifCond .ne 11, 3) := by decide +kernel
theorem dX8_keep_85 : decode cX8_keep 85 = .ok (.aload_n 0, 1) := by decide +kernel
theorem dX8_keep_86 : decode cX8_keep 86 = .ok (.getfield 52, 3) := by decide +kernel
theorem dX8_keep_89 : decode cX8_keep 89 = .ok (.getfield 220, 3) := by decide +kernel
theorem dX8_keep_92 : decode cX8_keep 92 = .ok (.ireturn, 1) := by decide +kernel
theorem dX8_keep_93 : decode cX8_keep 93 = .ok (.iload 6, 2) := by decide +kernel
theorem dX8_keep_95 : decode cX8_keep 95 = .ok (.iconst 1, 1) := by decide +kernel
theorem dX8_keep_96 : decode cX8_keep 96 = .ok (.if_icmp .ne 13, 3) := by decide +kernel
theorem dX8_keep_99 : decode cX8_keep 99 = .ok (.aload_n 0, 1) := by decide +kernel
theorem dX8_keep_100 : decode cX8_keep 100 = .ok (.getfield 52, 3) := by decide +kernel
theorem dX8_keep_103 : decode cX8_keep 103 = .ok (.getfield 223, 3) := by decide +kernel
theorem dX8_keep_106 : decode cX8_keep 106 = .ok (.goto 10, 3) := by decide +kernel
theorem dX8_keep_109 : decode cX8_keep 109 = .ok (.aload_n 0, 1) := by decide +kernel
theorem dX8_keep_110 : decode cX8_keep 110 = .ok (.getfield 52, 3) := by decide +kernel
theorem dX8_keep_113 : decode cX8_keep 113 = .ok (.getfield 226, 3) := by decide +kernel
theorem dX8_keep_116 : decode cX8_keep 116 = .ok (.ireturn, 1) := by decide +kernel
theorem dX8_contract_0 : decode cX8_contract 0 = .ok (.iload_n 1, 1) := by decide +kernel
theorem dX8_contract_1 : decode cX8_contract 1 = .ok (.bipush 8, 2) := by decide +kernel
theorem dX8_contract_3 : decode cX8_contract 3 = .ok (.invokestatic 89, 3) := by decide +kernel
theorem dX8_contract_6 : decode cX8_contract 6 = .ok (.ifCond .eq 31, 3) := by decide +kernel
theorem dX8_contract_9 : decode cX8_contract 9 = .ok (.iload_n 2, 1) := by decide +kernel
theorem dX8_contract_10 : decode cX8_contract 10 = .ok (.bipush 30, 2) := by decide +kernel
theorem dX8_contract_12 : decode cX8_contract 12 = .ok (.invokestatic 89, 3) := by decide +kernel
theorem dX8_contract_15 : decode cX8_contract 15 = .ok (.ifCond .eq 22, 3) := by decide +kernel
theorem dX8_contract_18 : decode cX8_contract 18 = .ok (.iload_n 3, 1) := by decide +kernel
theorem dX8_contract_19 : decode cX8_contract 19 = .ok (.bipush 100, 2) := by decide +kernel
theorem dX8_contract_21 : decode cX8_contract 21 = .ok (.invokestatic 89, 3) := by decide +kernel
theorem dX8_contract_24 : decode cX8_contract 24 = .ok (.ifCond .eq 13, 3) := by decide +kernel
theorem dX8_contract_27 : decode cX8_contract 27 = .ok (.iload 4, 2) := by decide +kernel
theorem dX8_contract_29 : decode cX8_contract 29 = .ok (.bipush 100, 2) := by decide +kernel
theorem dX8_contract_31 : decode cX8_contract 31 = .ok (.invokestatic 89, 3) := by decide +kernel
theorem dX8_contract_34 : decode cX8_contract 34 = .ok (.ifCond .ne 6, 3) := by decide +kernel
theorem dX8_contract_37 : decode cX8_contract 37 = .ok (.bipush (-2), 2) := by decide +kernel
theorem dX8_contract_39 : decode cX8_contract 39 = .ok (.ireturn, 1) := by decide +kernel
theorem dX8_contract_40 : decode cX8_contract 40 = .ok (.aload_n 0, 1) := by decide +kernel
theorem dX8_contract_41 : decode cX8_contract 41 = .ok (.getfield 61, 3) := by decide +kernel
theorem dX8_contract_44 : decode cX8_contract 44 = .ok (.iload_n 1, 1) := by decide +kernel
theorem dX8_contract_45 : decode cX8_contract 45 = .ok (.invokevirtual 229, 3) := by decide +kernel
theorem dX8_contract_48 : decode cX8_contract 48 = .ok (.ifCond .eq 7, 3) := by decide +kernel
theorem dX8_contract_51 : decode cX8_contract 51 = .ok (.iconst 1, 1) := by decide +kernel
theorem dX8_contract_52 : decode cX8_contract 52 = .ok (.goto 4, 3) := by decide +kernel
theorem dX8_contract_55 : decode cX8_contract 55 = .ok (.iconst 0, 1) := by decide +kernel
theorem dX8_contract_56 : decode cX8_contract 56 = .ok (.istore 5, 2) := by decide +kernel
theorem dX8_contract_58 : decode cX8_contract 58 = .ok (.aload_n 0, 1) := by decide +kernel
theorem dX8_contract_59 : decode cX8_contract 59 = .ok (.getfield 61, 3) := by decide +kernel
theorem dX8_contract_62 : decode cX8_contract 62 = .ok (.iload_n 1, 1) := by decide +kernel
theorem dX8_contract_63 : decode cX8_contract 63 = .ok (.iload_n 2, 1) := by decide +kernel
theorem dX8_contract_64 : decode cX8_contract 64 = .ok (.iload_n 3, 1) := by decide +kernel
theorem dX8_contract_65 : decode cX8_contract 65 = .ok (.iload 4, 2) := by decide +kernel
theorem dX8_contract_67 : decode cX8_contract 67 = .ok (.invokevirtual 232, 3) := by decide +kernel
theorem dX8_contract_70 : decode cX8_contract 70 = .ok (.iload 5, 2) := by decide +kernel
theorem dX8_contract_72 : decode cX8_contract 72 = .ok (.ireturn, 1) := by decide +kernel
theorem dX8_tears_0 : decode cX8_tears 0 = .ok (.iload_n 1, 1) := by decide +kernel
theorem dX8_tears_1 : decode cX8_tears 1 = .ok (.bipush 8, 2) := by decide +kernel
theorem dX8_tears_3 : decode cX8_tears 3 = .ok (.invokestatic 89, 3) := by decide +kernel
theorem dX8_tears_6 : decode cX8_tears 6 = .ok (.ifCond .ne 6, 3) := by decide +kernel
theorem dX8_tears_9 : decode cX8_tears 9 = .ok (.bipush (-2), 2) := by decide +kernel
theorem dX8_tears_11 : decode cX8_tears 11 = .ok (.ireturn, 1) := by decide +kernel
theorem dX8_tears_12 : decode cX8_tears 12 = .ok (.aload_n 0, 1) := by decide +kernel
theorem dX8_tears_13 : decode cX8_tears 13 = .ok (.getfield 61, 3) := by decide +kernel
theorem dX8_tears_16 : decode cX8_tears 16 = .ok (.iload_n 1, 1) := by decide +kernel
theorem dX8_tears_17 : decode cX8_tears 17 = .ok (.invokevirtual 229, 3) := by decide +kernel
theorem dX8_tears_20 : decode cX8_tears 20 = .ok (.ifCond .eq 7, 3) := by decide +kernel
theorem dX8_tears_23 : decode cX8_tears 23 = .ok (.iconst 1, 1) := by decide +kernel
theorem dX8_tears_24 : decode cX8_tears 24 = .ok (.goto 4, 3) := by decide +kernel
theorem dX8_tears_27 : decode cX8_tears 27 = .ok (.iconst 0, 1) := by decide +kernel
theorem dX8_tears_28 : decode cX8_tears 28 = .ok (.istore_n 2, 1) := by decide +kernel
theorem dX8_tears_29 : decode cX8_tears 29 = .ok (.aload_n 0, 1) := by decide +kernel
theorem dX8_tears_30 : decode cX8_tears 30 = .ok (.getfield 61, 3) := by decide +kernel
theorem dX8_tears_33 : decode cX8_tears 33 = .ok (.iload_n 1, 1) := by decide +kernel
theorem dX8_tears_34 : decode cX8_tears 34 = .ok (.invokevirtual 236, 3) := by decide +kernel
theorem dX8_tears_37 : decode cX8_tears 37 = .ok (.iload_n 2, 1) := by decide +kernel
theorem dX8_tears_38 : decode cX8_tears 38 = .ok (.ireturn, 1) := by decide +kernel
theorem dX8_never_0 : decode cX8_never 0 = .ok (.iload_n 1, 1) := by decide +kernel
theorem dX8_never_1 : decode cX8_never 1 = .ok (.iconst 2, 1) := by decide +kernel
theorem dX8_never_2 : decode cX8_never 2 = .ok (.invokestatic 89, 3) := by decide +kernel
theorem dX8_never_5 : decode cX8_never 5 = .ok (.ifCond .ne 6, 3) := by decide +kernel
theorem dX8_never_8 : decode cX8_never 8 = .ok (.bipush (-2), 2) := by decide +kernel
theorem dX8_never_10 : decode cX8_never 10 = .ok (.ireturn, 1) := by decide +kernel
theorem dX8_never_11 : decode cX8_never 11 = .ok (.aload_n 0, 1) := by decide +kernel
theorem dX8_never_12 : decode cX8_never 12 = .ok (.getfield 34, 3) := by decide +kernel
theorem dX8_never_15 : decode cX8_never 15 = .ok (.invokevirtual 127, 3) := by decide +kernel
theorem dX8_never_18 : decode cX8_never 18 = .ok (.aload_n 0, 1) := by decide +kernel
theorem dX8_never_19 : decode cX8_never 19 = .ok (.getfield 61, 3) := by decide +kernel
theorem dX8_never_22 : decode cX8_never 22 = .ok (.invokevirtual 239, 3) := by decide +kernel
theorem dX8_never_25 : decode cX8_never 25 = .ok (.iload_n 1, 1) := by decide +kernel
theorem dX8_never_26 : decode cX8_never 26 = .ok (.ifCond .ne 13, 3) := by decide +kernel
theorem dX8_never_29 : decode cX8_never 29 = .ok (.aload_n 0, 1) := by decide +kernel
theorem dX8_never_30 : decode cX8_never 30 = .ok (.getfield 61, 3) := by decide +kernel
theorem dX8_never_33 : decode cX8_never 33 = .ok (.getfield 241, 3) := by decide +kernel
theorem dX8_never_36 : decode cX8_never 36 = .ok (.goto 10, 3) := by decide +kernel
theorem dX8_never_39 : decode cX8_never 39 = .ok (.aload_n 0, 1) := by decide +kernel
theorem dX8_never_40 : decode cX8_never 40 = .ok (.getfield 61, 3) := by decide +kernel
theorem dX8_never_43 : decode cX8_never 43 = .ok (.getfield 244, 3) := by decide +kernel
theorem dX8_never_46 : decode cX8_never 46 = .ok (.ireturn, 1) := by decide +kernel
theorem dX8_gain_0 : decode cX8_gain 0 = .ok (.iload_n 1, 1) := by decide +kernel
theorem dX8_gain_1 : decode cX8_gain 1 = .ok (.iconst 2, 1) := by decide +kernel
theorem dX8_gain_2 : decode cX8_gain 2 = .ok (.invokestatic 89, 3) := by decide +kernel
theorem dX8_gain_5 : decode cX8_gain 5 = .ok (.ifCond .ne 7, 3) := by decide +kernel
theorem dX8_gain_8 : decode cX8_gain 8 = .ok (.ldc2_w 197, 3) := by decide +kernel
theorem dX8_gain_11 : decode cX8_gain 11 = .ok (.lreturn, 1) := by decide +kernel
theorem dX8_gain_12 : decode cX8_gain 12 = .ok (.aload_n 0, 1) := by decide +kernel
theorem dX8_gain_13 : decode cX8_gain 13 = .ok (.getfield 34, 3) := by decide +kernel
theorem dX8_gain_16 : decode cX8_gain 16 = .ok (.invokevirtual 127, 3) := by decide +kernel
theorem dX8_gain_19 : decode cX8_gain 19 = .ok (.aload_n 0, 1) := by decide +kernel
theorem dX8_gain_20 : decode cX8_gain 20 = .ok (.getfield 61, 3) := by decide +kernel
theorem dX8_gain_23 : decode cX8_gain 23 = .ok (.invokevirtual 239, 3) := by decide +kernel
theorem dX8_gain_26 : decode cX8_gain 26 = .ok (.aload_n 0, 1) := by decide +kernel
theorem dX8_gain_27 : decode cX8_gain 27 = .ok (.getfield 61, 3) := by decide +kernel
theorem dX8_gain_30 : decode cX8_gain 30 = .ok (.getfield 247, 3) := by decide +kernel
theorem dX8_gain_33 : decode cX8_gain 33 = .ok (.aload_n 0, 1) := by decide +kernel
theorem dX8_gain_34 : decode cX8_gain 34 = .ok (.invokevirtual 250, 3) := by decide +kernel
theorem dX8_gain_37 : decode cX8_gain 37 = .ok (.iload_n 1, 1) := by decide +kernel
theorem dX8_gain_38 : decode cX8_gain 38 = .ok (.invokestatic 210, 3) := by decide +kernel
theorem dX8_gain_41 : decode cX8_gain 41 = .ok (.lreturn, 1) := by decide +kernel
theorem dX8_watch_0 : decode cX8_watch 0 = .ok (.aload_n 0, 1) := by decide +kernel
theorem dX8_watch_1 : decode cX8_watch 1 = .ok (.getfield 34, 3) := by decide +kernel
theorem dX8_watch_4 : decode cX8_watch 4 = .ok (.invokevirtual 127, 3) := by decide +kernel
theorem dX8_watch_7 : decode cX8_watch 7 = .ok (.iconst 0, 1) := by decide +kernel
