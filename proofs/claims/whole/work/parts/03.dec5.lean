theorem dX9_deed_9 : decode cX9_deed 9 = .ok (.lconst 0, 1) := by decide +kernel
theorem dX9_deed_10 : decode cX9_deed 10 = .ok (.ldc2_w 63, 3) := by decide +kernel
theorem dX9_deed_13 : decode cX9_deed 13 = .ok (.invokestatic 49, 3) := by decide +kernel
theorem dX9_deed_16 : decode cX9_deed 16 = .ok (.ifCond .eq 12, 3) := by decide +kernel
theorem dX9_deed_19 : decode cX9_deed 19 = .ok (.aload_n 0, 1) := by decide +kernel
theorem dX9_deed_20 : decode cX9_deed 20 = .ok (.iload_n 1, 1) := by decide +kernel
theorem dX9_deed_21 : decode cX9_deed 21 = .ok (.iload_n 2, 1) := by decide +kernel
theorem dX9_deed_22 : decode cX9_deed 22 = .ok (.invokevirtual 162, 3) := by decide +kernel
theorem dX9_deed_25 : decode cX9_deed 25 = .ok (.goto 5, 3) := by decide +kernel
theorem dX9_deed_28 : decode cX9_deed 28 = .ok (.ldc 165, 2) := by decide +kernel
theorem dX9_deed_30 : decode cX9_deed 30 = .ok (.ireturn, 1) := by decide +kernel
theorem dX9_alike_0 : decode cX9_alike 0 = .ok (.iconst 0, 1) := by decide +kernel
theorem dX9_alike_1 : decode cX9_alike 1 = .ok (.istore_n 3, 1) := by decide +kernel
theorem dX9_alike_2 : decode cX9_alike 2 = .ok (.iconst 0, 1) := by decide +kernel
theorem dX9_alike_3 : decode cX9_alike 3 = .ok (.istore 4, 2) := by decide +kernel
theorem dX9_alike_5 : decode cX9_alike 5 = .ok (.iload 4, 2) := by decide +kernel
theorem dX9_alike_7 : decode cX9_alike 7 = .ok (.iconst 3, 1) := by decide +kernel
theorem dX9_alike_8 : decode cX9_alike 8 = .ok (.if_icmp .ge 73, 3) := by decide +kernel
theorem dX9_alike_11 : decode cX9_alike 11 = .ok (.iconst 1, 1) := by decide +kernel
theorem dX9_alike_12 : decode cX9_alike 12 = .ok (.istore 5, 2) := by decide +kernel
theorem dX9_alike_14 : decode cX9_alike 14 = .ok (.iconst 0, 1) := by decide +kernel
theorem dX9_alike_15 : decode cX9_alike 15 = .ok (.istore 6, 2) := by decide +kernel
theorem dX9_alike_17 : decode cX9_alike 17 = .ok (.iload 6, 2) := by decide +kernel
theorem dX9_alike_19 : decode cX9_alike 19 = .ok (.iload_n 2, 1) := by decide +kernel
theorem dX9_alike_20 : decode cX9_alike 20 = .ok (.if_icmp .gt 39, 3) := by decide +kernel
theorem dX9_alike_23 : decode cX9_alike 23 = .ok (.iload 5, 2) := by decide +kernel
theorem dX9_alike_25 : decode cX9_alike 25 = .ok (.ifCond .eq 25, 3) := by decide +kernel
theorem dX9_alike_28 : decode cX9_alike 28 = .ok (.aload_n 0, 1) := by decide +kernel
theorem dX9_alike_29 : decode cX9_alike 29 = .ok (.iload_n 1, 1) := by decide +kernel
theorem dX9_alike_30 : decode cX9_alike 30 = .ok (.iload 6, 2) := by decide +kernel
theorem dX9_alike_32 : decode cX9_alike 32 = .ok (.invokevirtual 111, 3) := by decide +kernel
theorem dX9_alike_35 : decode cX9_alike 35 = .ok (.aload_n 0, 1) := by decide +kernel
theorem dX9_alike_36 : decode cX9_alike 36 = .ok (.iload 4, 2) := by decide +kernel
theorem dX9_alike_38 : decode cX9_alike 38 = .ok (.iload 6, 2) := by decide +kernel
theorem dX9_alike_40 : decode cX9_alike 40 = .ok (.invokevirtual 111, 3) := by decide +kernel
theorem dX9_alike_43 : decode cX9_alike 43 = .ok (.if_icmp .ne 7, 3) := by decide +kernel
theorem dX9_alike_46 : decode cX9_alike 46 = .ok (.iconst 1, 1) := by decide +kernel
theorem dX9_alike_47 : decode cX9_alike 47 = .ok (.goto 4, 3) := by decide +kernel
theorem dX9_alike_50 : decode cX9_alike 50 = .ok (.iconst 0, 1) := by decide +kernel
theorem dX9_alike_51 : decode cX9_alike 51 = .ok (.istore 5, 2) := by decide +kernel
theorem dX9_alike_53 : decode cX9_alike 53 = .ok (.iinc 6 1, 3) := by decide +kernel
theorem dX9_alike_56 : decode cX9_alike 56 = .ok (.goto (-39), 3) := by decide +kernel
theorem dX9_alike_59 : decode cX9_alike 59 = .ok (.iload_n 3, 1) := by decide +kernel
theorem dX9_alike_60 : decode cX9_alike 60 = .ok (.iload 5, 2) := by decide +kernel
theorem dX9_alike_62 : decode cX9_alike 62 = .ok (.ifCond .eq 10, 3) := by decide +kernel
theorem dX9_alike_65 : decode cX9_alike 65 = .ok (.iconst 1, 1) := by decide +kernel
theorem dX9_alike_66 : decode cX9_alike 66 = .ok (.iload 4, 2) := by decide +kernel
theorem dX9_alike_68 : decode cX9_alike 68 = .ok (.ishl, 1) := by decide +kernel
theorem dX9_alike_69 : decode cX9_alike 69 = .ok (.goto 4, 3) := by decide +kernel
theorem dX9_alike_72 : decode cX9_alike 72 = .ok (.iconst 0, 1) := by decide +kernel
theorem dX9_alike_73 : decode cX9_alike 73 = .ok (.ior, 1) := by decide +kernel
theorem dX9_alike_74 : decode cX9_alike 74 = .ok (.istore_n 3, 1) := by decide +kernel
theorem dX9_alike_75 : decode cX9_alike 75 = .ok (.iinc 4 1, 3) := by decide +kernel
theorem dX9_alike_78 : decode cX9_alike 78 = .ok (.goto (-73), 3) := by decide +kernel
theorem dX9_alike_81 : decode cX9_alike 81 = .ok (.iload_n 3, 1) := by decide +kernel
theorem dX9_alike_82 : decode cX9_alike 82 = .ok (.ireturn, 1) := by decide +kernel
theorem dX9_weight_0 : decode cX9_weight 0 = .ok (.lconst 0, 1) := by decide +kernel
theorem dX9_weight_1 : decode cX9_weight 1 = .ok (.lstore_n 2, 1) := by decide +kernel
theorem dX9_weight_2 : decode cX9_weight 2 = .ok (.iconst 0, 1) := by decide +kernel
theorem dX9_weight_3 : decode cX9_weight 3 = .ok (.istore 4, 2) := by decide +kernel
theorem dX9_weight_5 : decode cX9_weight 5 = .ok (.iload 4, 2) := by decide +kernel
theorem dX9_weight_7 : decode cX9_weight 7 = .ok (.iconst 3, 1) := by decide +kernel
theorem dX9_weight_8 : decode cX9_weight 8 = .ok (.if_icmp .ge 33, 3) := by decide +kernel
theorem dX9_weight_11 : decode cX9_weight 11 = .ok (.lload_n 2, 1) := by decide +kernel
theorem dX9_weight_12 : decode cX9_weight 12 = .ok (.iload_n 1, 1) := by decide +kernel
theorem dX9_weight_13 : decode cX9_weight 13 = .ok (.iload 4, 2) := by decide +kernel
theorem dX9_weight_15 : decode cX9_weight 15 = .ok (.invokestatic 139, 3) := by decide +kernel
theorem dX9_weight_18 : decode cX9_weight 18 = .ok (.ifCond .eq 14, 3) := by decide +kernel
theorem dX9_weight_21 : decode cX9_weight 21 = .ok (.aload_n 0, 1) := by decide +kernel
theorem dX9_weight_22 : decode cX9_weight 22 = .ok (.getfield 31, 3) := by decide +kernel
theorem dX9_weight_25 : decode cX9_weight 25 = .ok (.iload 4, 2) := by decide +kernel
theorem dX9_weight_27 : decode cX9_weight 27 = .ok (.iaload, 1) := by decide +kernel
theorem dX9_weight_28 : decode cX9_weight 28 = .ok (.i2l, 1) := by decide +kernel
theorem dX9_weight_29 : decode cX9_weight 29 = .ok (.goto 4, 3) := by decide +kernel
theorem dX9_weight_32 : decode cX9_weight 32 = .ok (.lconst 0, 1) := by decide +kernel
theorem dX9_weight_33 : decode cX9_weight 33 = .ok (.ladd, 1) := by decide +kernel
theorem dX9_weight_34 : decode cX9_weight 34 = .ok (.lstore_n 2, 1) := by decide +kernel
theorem dX9_weight_35 : decode cX9_weight 35 = .ok (.iinc 4 1, 3) := by decide +kernel
theorem dX9_weight_38 : decode cX9_weight 38 = .ok (.goto (-33), 3) := by decide +kernel
theorem dX9_weight_41 : decode cX9_weight 41 = .ok (.lload_n 2, 1) := by decide +kernel
theorem dX9_weight_42 : decode cX9_weight 42 = .ok (.lreturn, 1) := by decide +kernel
theorem dX9_waitingFor_0 : decode cX9_waitingFor 0 = .ok (.aload_n 0, 1) := by decide +kernel
theorem dX9_waitingFor_1 : decode cX9_waitingFor 1 = .ok (.getfield 28, 3) := by decide +kernel
theorem dX9_waitingFor_4 : decode cX9_waitingFor 4 = .ok (.bipush 6, 2) := by decide +kernel
theorem dX9_waitingFor_6 : decode cX9_waitingFor 6 = .ok (.iaload, 1) := by decide +kernel
theorem dX9_waitingFor_7 : decode cX9_waitingFor 7 = .ok (.i2l, 1) := by decide +kernel
theorem dX9_waitingFor_8 : decode cX9_waitingFor 8 = .ok (.aload_n 0, 1) := by decide +kernel
theorem dX9_waitingFor_9 : decode cX9_waitingFor 9 = .ok (.iload_n 1, 1) := by decide +kernel
theorem dX9_waitingFor_10 : decode cX9_waitingFor 10 = .ok (.invokevirtual 166, 3) := by decide +kernel
theorem dX9_waitingFor_13 : decode cX9_waitingFor 13 = .ok (.lmul, 1) := by decide +kernel
theorem dX9_waitingFor_14 : decode cX9_waitingFor 14 = .ok (.lstore_n 3, 1) := by decide +kernel
theorem dX9_waitingFor_15 : decode cX9_waitingFor 15 = .ok (.iconst 0, 1) := by decide +kernel
theorem dX9_waitingFor_16 : decode cX9_waitingFor 16 = .ok (.istore 5, 2) := by decide +kernel
theorem dX9_waitingFor_18 : decode cX9_waitingFor 18 = .ok (.iconst 0, 1) := by decide +kernel
theorem dX9_waitingFor_19 : decode cX9_waitingFor 19 = .ok (.istore 6, 2) := by decide +kernel
theorem dX9_waitingFor_21 : decode cX9_waitingFor 21 = .ok (.iload 6, 2) := by decide +kernel
theorem dX9_waitingFor_23 : decode cX9_waitingFor 23 = .ok (.iconst 3, 1) := by decide +kernel
theorem dX9_waitingFor_24 : decode cX9_waitingFor 24 = .ok (.if_icmp .ge 58, 3) := by decide +kernel
theorem dX9_waitingFor_27 : decode cX9_waitingFor 27 = .ok (.iload_n 1, 1) := by decide +kernel
theorem dX9_waitingFor_28 : decode cX9_waitingFor 28 = .ok (.iload 6, 2) := by decide +kernel
theorem dX9_waitingFor_30 : decode cX9_waitingFor 30 = .ok (.invokestatic 139, 3) := by decide +kernel
theorem dX9_waitingFor_33 : decode cX9_waitingFor 33 = .ok (.ifCond .eq 43, 3) := by decide +kernel
theorem dX9_waitingFor_36 : decode cX9_waitingFor 36 = .ok (.iload 5, 2) := by decide +kernel
theorem dX9_waitingFor_38 : decode cX9_waitingFor 38 = .ok (.iload 6, 2) := by decide +kernel
theorem dX9_waitingFor_40 : decode cX9_waitingFor 40 = .ok (.invokestatic 139, 3) := by decide +kernel
theorem dX9_waitingFor_43 : decode cX9_waitingFor 43 = .ok (.ifCond .ne 33, 3) := by decide +kernel
theorem dX9_waitingFor_46 : decode cX9_waitingFor 46 = .ok (.lload_n 3, 1) := by decide +kernel
theorem dX9_waitingFor_47 : decode cX9_waitingFor 47 = .ok (.aload_n 0, 1) := by decide +kernel
theorem dX9_waitingFor_48 : decode cX9_waitingFor 48 = .ok (.getfield 37, 3) := by decide +kernel
theorem dX9_waitingFor_51 : decode cX9_waitingFor 51 = .ok (.iconst 3, 1) := by decide +kernel
theorem dX9_waitingFor_52 : decode cX9_waitingFor 52 = .ok (.iload_n 2, 1) := by decide +kernel
theorem dX9_waitingFor_53 : decode cX9_waitingFor 53 = .ok (.iconst 1, 1) := by decide +kernel
theorem dX9_waitingFor_54 : decode cX9_waitingFor 54 = .ok (.iadd, 1) := by decide +kernel
theorem dX9_waitingFor_55 : decode cX9_waitingFor 55 = .ok (.imul, 1) := by decide +kernel
theorem dX9_waitingFor_56 : decode cX9_waitingFor 56 = .ok (.iload 6, 2) := by decide +kernel
theorem dX9_waitingFor_58 : decode cX9_waitingFor 58 = .ok (.iadd, 1) := by decide +kernel
theorem dX9_waitingFor_59 : decode cX9_waitingFor 59 = .ok (.laload, 1) := by decide +kernel
theorem dX9_waitingFor_60 : decode cX9_waitingFor 60 = .ok (.ladd, 1) := by decide +kernel
theorem dX9_waitingFor_61 : decode cX9_waitingFor 61 = .ok (.lstore_n 3, 1) := by decide +kernel
theorem dX9_waitingFor_62 : decode cX9_waitingFor 62 = .ok (.iload 5, 2) := by decide +kernel
theorem dX9_waitingFor_64 : decode cX9_waitingFor 64 = .ok (.aload_n 0, 1) := by decide +kernel
theorem dX9_waitingFor_65 : decode cX9_waitingFor 65 = .ok (.iload 6, 2) := by decide +kernel
theorem dX9_waitingFor_67 : decode cX9_waitingFor 67 = .ok (.iload_n 2, 1) := by decide +kernel
theorem dX9_waitingFor_68 : decode cX9_waitingFor 68 = .ok (.iconst 1, 1) := by decide +kernel
theorem dX9_waitingFor_69 : decode cX9_waitingFor 69 = .ok (.iadd, 1) := by decide +kernel
theorem dX9_waitingFor_70 : decode cX9_waitingFor 70 = .ok (.invokevirtual 170, 3) := by decide +kernel
theorem dX9_waitingFor_73 : decode cX9_waitingFor 73 = .ok (.ior, 1) := by decide +kernel
theorem dX9_waitingFor_74 : decode cX9_waitingFor 74 = .ok (.istore 5, 2) := by decide +kernel
theorem dX9_waitingFor_76 : decode cX9_waitingFor 76 = .ok (.iinc 6 1, 3) := by decide +kernel
theorem dX9_waitingFor_79 : decode cX9_waitingFor 79 = .ok (.goto (-58), 3) := by decide +kernel
theorem dX9_waitingFor_82 : decode cX9_waitingFor 82 = .ok (.lload_n 3, 1) := by decide +kernel
theorem dX9_waitingFor_83 : decode cX9_waitingFor 83 = .ok (.lreturn, 1) := by decide +kernel
theorem dX9_findWorths_0 : decode cX9_findWorths 0 = .ok (.bipush 29, 2) := by decide +kernel
theorem dX9_findWorths_2 : decode cX9_findWorths 2 = .ok (.istore 5, 2) := by decide +kernel
theorem dX9_findWorths_4 : decode cX9_findWorths 4 = .ok (.iload 5, 2) := by decide +kernel
theorem dX9_findWorths_6 : decode cX9_findWorths 6 = .ok (.iload_n 2, 1) := by decide +kernel
theorem dX9_findWorths_7 : decode cX9_findWorths 7 = .ok (.if_icmp .lt 141, 3) := by decide +kernel
theorem dX9_findWorths_10 : decode cX9_findWorths 10 = .ok (.iconst 0, 1) := by decide +kernel
theorem dX9_findWorths_11 : decode cX9_findWorths 11 = .ok (.istore 6, 2) := by decide +kernel
theorem dX9_findWorths_13 : decode cX9_findWorths 13 = .ok (.iload 6, 2) := by decide +kernel
theorem dX9_findWorths_15 : decode cX9_findWorths 15 = .ok (.iconst 3, 1) := by decide +kernel
theorem dX9_findWorths_16 : decode cX9_findWorths 16 = .ok (.if_icmp .ge 126, 3) := by decide +kernel
theorem dX9_findWorths_19 : decode cX9_findWorths 19 = .ok (.aload_n 0, 1) := by decide +kernel
theorem dX9_findWorths_20 : decode cX9_findWorths 20 = .ok (.iload 6, 2) := by decide +kernel
theorem dX9_findWorths_22 : decode cX9_findWorths 22 = .ok (.iload 5, 2) := by decide +kernel
theorem dX9_findWorths_24 : decode cX9_findWorths 24 = .ok (.invokevirtual 170, 3) := by decide +kernel
theorem dX9_findWorths_27 : decode cX9_findWorths 27 = .ok (.istore 7, 2) := by decide +kernel
theorem dX9_findWorths_29 : decode cX9_findWorths 29 = .ok (.aload_n 0, 1) := by decide +kernel
theorem dX9_findWorths_30 : decode cX9_findWorths 30 = .ok (.iload 7, 2) := by decide +kernel
theorem dX9_findWorths_32 : decode cX9_findWorths 32 = .ok (.invokevirtual 166, 3) := by decide +kernel
theorem dX9_findWorths_35 : decode cX9_findWorths 35 = .ok (.aload_n 0, 1) := by decide +kernel
theorem dX9_findWorths_36 : decode cX9_findWorths 36 = .ok (.iload 6, 2) := by decide +kernel
theorem dX9_findWorths_38 : decode cX9_findWorths 38 = .ok (.iload 5, 2) := by decide +kernel
theorem dX9_findWorths_40 : decode cX9_findWorths 40 = .ok (.iload_n 3, 1) := by decide +kernel
theorem dX9_findWorths_41 : decode cX9_findWorths 41 = .ok (.iload 4, 2) := by decide +kernel
theorem dX9_findWorths_43 : decode cX9_findWorths 43 = .ok (.iconst 0, 1) := by decide +kernel
theorem dX9_findWorths_44 : decode cX9_findWorths 44 = .ok (.invokevirtual 155, 3) := by decide +kernel
theorem dX9_findWorths_47 : decode cX9_findWorths 47 = .ok (.i2l, 1) := by decide +kernel
theorem dX9_findWorths_48 : decode cX9_findWorths 48 = .ok (.lmul, 1) := by decide +kernel
theorem dX9_findWorths_49 : decode cX9_findWorths 49 = .ok (.lstore 8, 2) := by decide +kernel
theorem dX9_findWorths_51 : decode cX9_findWorths 51 = .ok (.iload 5, 2) := by decide +kernel
theorem dX9_findWorths_53 : decode cX9_findWorths 53 = .ok (.bipush 29, 2) := by decide +kernel
theorem dX9_findWorths_55 : decode cX9_findWorths 55 = .ok (.if_icmp .ne 8, 3) := by decide +kernel
theorem dX9_findWorths_58 : decode cX9_findWorths 58 = .ok (.lload 8, 2) := by decide +kernel
theorem dX9_findWorths_60 : decode cX9_findWorths 60 = .ok (.goto 11, 3) := by decide +kernel
theorem dX9_findWorths_63 : decode cX9_findWorths 63 = .ok (.aload_n 0, 1) := by decide +kernel
theorem dX9_findWorths_64 : decode cX9_findWorths 64 = .ok (.iload 7, 2) := by decide +kernel
theorem dX9_findWorths_66 : decode cX9_findWorths 66 = .ok (.iload 5, 2) := by decide +kernel
theorem dX9_findWorths_68 : decode cX9_findWorths 68 = .ok (.invokevirtual 173, 3) := by decide +kernel
theorem dX9_findWorths_71 : decode cX9_findWorths 71 = .ok (.lstore 10, 2) := by decide +kernel
theorem dX9_findWorths_73 : decode cX9_findWorths 73 = .ok (.aload_n 0, 1) := by decide +kernel
theorem dX9_findWorths_74 : decode cX9_findWorths 74 = .ok (.getfield 37, 3) := by decide +kernel
theorem dX9_findWorths_77 : decode cX9_findWorths 77 = .ok (.iconst 3, 1) := by decide +kernel
theorem dX9_findWorths_78 : decode cX9_findWorths 78 = .ok (.iload 5, 2) := by decide +kernel
theorem dX9_findWorths_80 : decode cX9_findWorths 80 = .ok (.imul, 1) := by decide +kernel
theorem dX9_findWorths_81 : decode cX9_findWorths 81 = .ok (.iload 6, 2) := by decide +kernel
theorem dX9_findWorths_83 : decode cX9_findWorths 83 = .ok (.iadd, 1) := by decide +kernel
theorem dX9_findWorths_84 : decode cX9_findWorths 84 = .ok (.lload 8, 2) := by decide +kernel
theorem dX9_findWorths_86 : decode cX9_findWorths 86 = .ok (.lload 10, 2) := by decide +kernel
theorem dX9_findWorths_88 : decode cX9_findWorths 88 = .ok (.lcmp, 1) := by decide +kernel
theorem dX9_findWorths_89 : decode cX9_findWorths 89 = .ok (.ifCond .ge 8, 3) := by decide +kernel
theorem dX9_findWorths_92 : decode cX9_findWorths 92 = .ok (.lload 8, 2) := by decide +kernel
theorem dX9_findWorths_94 : decode cX9_findWorths 94 = .ok (.goto 5, 3) := by decide +kernel
theorem dX9_findWorths_97 : decode cX9_findWorths 97 = .ok (.lload 10, 2) := by decide +kernel
theorem dX9_findWorths_99 : decode cX9_findWorths 99 = .ok (.lastore, 1) := by decide +kernel
theorem dX9_findWorths_100 : decode cX9_findWorths 100 = .ok (.aload_n 0, 1) := by decide +kernel
theorem dX9_findWorths_101 : decode cX9_findWorths 101 = .ok (.iload 5, 2) := by decide +kernel
theorem dX9_findWorths_103 : decode cX9_findWorths 103 = .ok (.iload_n 2, 1) := by decide +kernel
theorem dX9_findWorths_104 : decode cX9_findWorths 104 = .ok (.if_icmp .ne 25, 3) := by decide +kernel
theorem dX9_findWorths_107 : decode cX9_findWorths 107 = .ok (.iload 6, 2) := by decide +kernel
theorem dX9_findWorths_109 : decode cX9_findWorths 109 = .ok (.iload_n 1, 1) := by decide +kernel
theorem dX9_findWorths_110 : decode cX9_findWorths 110 = .ok (.if_icmp .ne 19, 3) := by decide +kernel
theorem dX9_findWorths_113 : decode cX9_findWorths 113 = .ok (.lload 8, 2) := by decide +kernel
theorem dX9_findWorths_115 : decode cX9_findWorths 115 = .ok (.lload 10, 2) := by decide +kernel
theorem dX9_findWorths_117 : decode cX9_findWorths 117 = .ok (.lcmp, 1) := by decide +kernel
theorem dX9_findWorths_118 : decode cX9_findWorths 118 = .ok (.ifCond .gt 7, 3) := by decide +kernel
theorem dX9_findWorths_121 : decode cX9_findWorths 121 = .ok (.iconst 1, 1) := by decide +kernel
theorem dX9_findWorths_122 : decode cX9_findWorths 122 = .ok (.goto 11, 3) := by decide +kernel
theorem dX9_findWorths_125 : decode cX9_findWorths 125 = .ok (.iconst 0, 1) := by decide +kernel
theorem dX9_findWorths_126 : decode cX9_findWorths 126 = .ok (.goto 7, 3) := by decide +kernel
theorem dX9_findWorths_129 : decode cX9_findWorths 129 = .ok (.aload_n 0, 1) := by decide +kernel
theorem dX9_findWorths_130 : decode cX9_findWorths 130 = .ok (.getfield 177, 3) := by decide +kernel
theorem dX9_findWorths_133 : decode cX9_findWorths 133 = .ok (.putfield 177, 3) := by decide +kernel
theorem dX9_findWorths_136 : decode cX9_findWorths 136 = .ok (.iinc 6 1, 3) := by decide +kernel
theorem dX9_findWorths_139 : decode cX9_findWorths 139 = .ok (.goto (-126), 3) := by decide +kernel
theorem dX9_findWorths_142 : decode cX9_findWorths 142 = .ok (.iinc 5 (-1), 3) := by decide +kernel
theorem dX9_findWorths_145 : decode cX9_findWorths 145 = .ok (.goto (-141), 3) := by decide +kernel
theorem dX9_findWorths_148 : decode cX9_findWorths 148 = .ok (.return_, 1) := by decide +kernel
theorem dX9_part_0 : decode cX9_part 0 = .ok (.lload_n 0, 1) := by decide +kernel
theorem dX9_part_1 : decode cX9_part 1 = .ok (.lconst 0, 1) := by decide +kernel
theorem dX9_part_2 : decode cX9_part 2 = .ok (.lcmp, 1) := by decide +kernel
theorem dX9_part_3 : decode cX9_part 3 = .ok (.ifCond .ge 8, 3) := by decide +kernel
theorem dX9_part_6 : decode cX9_part 6 = .ok (.lload_n 0, 1) := by decide +kernel
theorem dX9_part_7 : decode cX9_part 7 = .ok (.lneg, 1) := by decide +kernel
theorem dX9_part_8 : decode cX9_part 8 = .ok (.goto 4, 3) := by decide +kernel
theorem dX9_part_11 : decode cX9_part 11 = .ok (.lload_n 0, 1) := by decide +kernel
theorem dX9_part_12 : decode cX9_part 12 = .ok (.lstore 5, 2) := by decide +kernel
theorem dX9_part_14 : decode cX9_part 14 = .ok (.lload_n 2, 1) := by decide +kernel
theorem dX9_part_15 : decode cX9_part 15 = .ok (.lstore 7, 2) := by decide +kernel
theorem dX9_part_17 : decode cX9_part 17 = .ok (.lload 7, 2) := by decide +kernel
theorem dX9_part_19 : decode cX9_part 19 = .ok (.lconst 0, 1) := by decide +kernel
theorem dX9_part_20 : decode cX9_part 20 = .ok (.lcmp, 1) := by decide +kernel
theorem dX9_part_21 : decode cX9_part 21 = .ok (.ifCond .eq 21, 3) := by decide +kernel
theorem dX9_part_24 : decode cX9_part 24 = .ok (.lload 5, 2) := by decide +kernel
theorem dX9_part_26 : decode cX9_part 26 = .ok (.lload 7, 2) := by decide +kernel
theorem dX9_part_28 : decode cX9_part 28 = .ok (.lrem, 1) := by decide +kernel
theorem dX9_part_29 : decode cX9_part 29 = .ok (.lstore 9, 2) := by decide +kernel
theorem dX9_part_31 : decode cX9_part 31 = .ok (.lload 7, 2) := by decide +kernel
theorem dX9_part_33 : decode cX9_part 33 = .ok (.lstore 5, 2) := by decide +kernel
theorem dX9_part_35 : decode cX9_part 35 = .ok (.lload 9, 2) := by decide +kernel
theorem dX9_part_37 : decode cX9_part 37 = .ok (.lstore 7, 2) := by decide +kernel
theorem dX9_part_39 : decode cX9_part 39 = .ok (.goto (-22), 3) := by decide +kernel
theorem dX9_part_42 : decode cX9_part 42 = .ok (.iload 4, 2) := by decide +kernel
theorem dX9_part_44 : decode cX9_part 44 = .ok (.ifCond .ne 7, 3) := by decide +kernel
theorem dX9_part_47 : decode cX9_part 47 = .ok (.lload_n 0, 1) := by decide +kernel
theorem dX9_part_48 : decode cX9_part 48 = .ok (.goto 4, 3) := by decide +kernel
theorem dX9_part_51 : decode cX9_part 51 = .ok (.lload_n 2, 1) := by decide +kernel
theorem dX9_part_52 : decode cX9_part 52 = .ok (.lload 5, 2) := by decide +kernel
theorem dX9_part_54 : decode cX9_part 54 = .ok (.ldiv, 1) := by decide +kernel
theorem dX9_part_55 : decode cX9_part 55 = .ok (.lreturn, 1) := by decide +kernel
theorem dX9_waitsOf_0 : decode cX9_waitsOf 0 = .ok (.aload_n 0, 1) := by decide +kernel
theorem dX9_waitsOf_1 : decode cX9_waitsOf 1 = .ok (.aload_n 0, 1) := by decide +kernel
theorem dX9_waitsOf_2 : decode cX9_waitsOf 2 = .ok (.iload_n 1, 1) := by decide +kernel
theorem dX9_waitsOf_3 : decode cX9_waitsOf 3 = .ok (.iload_n 2, 1) := by decide +kernel
theorem dX9_waitsOf_4 : decode cX9_waitsOf 4 = .ok (.invokevirtual 170, 3) := by decide +kernel
theorem dX9_waitsOf_7 : decode cX9_waitsOf 7 = .ok (.invokevirtual 166, 3) := by decide +kernel
theorem dX9_waitsOf_10 : decode cX9_waitsOf 10 = .ok (.lstore 6, 2) := by decide +kernel
theorem dX9_waitsOf_12 : decode cX9_waitsOf 12 = .ok (.lload 6, 2) := by decide +kernel
theorem dX9_waitsOf_14 : decode cX9_waitsOf 14 = .ok (.lconst 0, 1) := by decide +kernel
theorem dX9_waitsOf_15 : decode cX9_waitsOf 15 = .ok (.lcmp, 1) := by decide +kernel
theorem dX9_waitsOf_16 : decode cX9_waitsOf 16 = .ok (.ifCond .ne 9, 3) := by decide +kernel
theorem dX9_waitsOf_19 : decode cX9_waitsOf 19 = .ok (.bipush (-3), 2) := by decide +kernel
theorem dX9_waitsOf_21 : decode cX9_waitsOf 21 = .ok (.invokestatic 181, 3) := by decide +kernel
theorem dX9_waitsOf_24 : decode cX9_waitsOf 24 = .ok (.lreturn, 1) := by decide +kernel
theorem dX9_waitsOf_25 : decode cX9_waitsOf 25 = .ok (.aload_n 0, 1) := by decide +kernel
theorem dX9_waitsOf_26 : decode cX9_waitsOf 26 = .ok (.iload_n 1, 1) := by decide +kernel
theorem dX9_waitsOf_27 : decode cX9_waitsOf 27 = .ok (.iload_n 2, 1) := by decide +kernel
theorem dX9_waitsOf_28 : decode cX9_waitsOf 28 = .ok (.iload_n 3, 1) := by decide +kernel
theorem dX9_waitsOf_29 : decode cX9_waitsOf 29 = .ok (.iload 4, 2) := by decide +kernel
theorem dX9_waitsOf_31 : decode cX9_waitsOf 31 = .ok (.invokevirtual 184, 3) := by decide +kernel
theorem dX9_waitsOf_34 : decode cX9_waitsOf 34 = .ok (.aload_n 0, 1) := by decide +kernel
theorem dX9_waitsOf_35 : decode cX9_waitsOf 35 = .ok (.getfield 37, 3) := by decide +kernel
theorem dX9_waitsOf_38 : decode cX9_waitsOf 38 = .ok (.iconst 3, 1) := by decide +kernel
theorem dX9_waitsOf_39 : decode cX9_waitsOf 39 = .ok (.iload_n 2, 1) := by decide +kernel
theorem dX9_waitsOf_40 : decode cX9_waitsOf 40 = .ok (.imul, 1) := by decide +kernel
theorem dX9_waitsOf_41 : decode cX9_waitsOf 41 = .ok (.iload_n 1, 1) := by decide +kernel
theorem dX9_waitsOf_42 : decode cX9_waitsOf 42 = .ok (.iadd, 1) := by decide +kernel
theorem dX9_waitsOf_43 : decode cX9_waitsOf 43 = .ok (.laload, 1) := by decide +kernel
theorem dX9_waitsOf_44 : decode cX9_waitsOf 44 = .ok (.lload 6, 2) := by decide +kernel
theorem dX9_waitsOf_46 : decode cX9_waitsOf 46 = .ok (.iload 5, 2) := by decide +kernel
theorem dX9_waitsOf_48 : decode cX9_waitsOf 48 = .ok (.invokestatic 188, 3) := by decide +kernel
theorem dX9_waitsOf_51 : decode cX9_waitsOf 51 = .ok (.lreturn, 1) := by decide +kernel
theorem dX9_waits_0 : decode cX9_waits 0 = .ok (.aload_n 0, 1) := by decide +kernel
theorem dX9_waits_1 : decode cX9_waits 1 = .ok (.iload_n 1, 1) := by decide +kernel
theorem dX9_waits_2 : decode cX9_waits 2 = .ok (.iload_n 2, 1) := by decide +kernel
theorem dX9_waits_3 : decode cX9_waits 3 = .ok (.iload_n 3, 1) := by decide +kernel
theorem dX9_waits_4 : decode cX9_waits 4 = .ok (.iload 4, 2) := by decide +kernel
theorem dX9_waits_6 : decode cX9_waits 6 = .ok (.invokevirtual 151, 3) := by decide +kernel
theorem dX9_waits_9 : decode cX9_waits 9 = .ok (.ifCond .eq 25, 3) := by decide +kernel
theorem dX9_waits_12 : decode cX9_waits 12 = .ok (.iload 5, 2) := by decide +kernel
theorem dX9_waits_14 : decode cX9_waits 14 = .ok (.invokestatic 142, 3) := by decide +kernel
theorem dX9_waits_17 : decode cX9_waits 17 = .ok (.ifCond .eq 17, 3) := by decide +kernel
theorem dX9_waits_20 : decode cX9_waits 20 = .ok (.aload_n 0, 1) := by decide +kernel
theorem dX9_waits_21 : decode cX9_waits 21 = .ok (.iload_n 1, 1) := by decide +kernel
theorem dX9_waits_22 : decode cX9_waits 22 = .ok (.iload_n 2, 1) := by decide +kernel
theorem dX9_waits_23 : decode cX9_waits 23 = .ok (.iload_n 3, 1) := by decide +kernel
theorem dX9_waits_24 : decode cX9_waits 24 = .ok (.iload 4, 2) := by decide +kernel
theorem dX9_waits_26 : decode cX9_waits 26 = .ok (.iload 5, 2) := by decide +kernel
theorem dX9_waits_28 : decode cX9_waits 28 = .ok (.invokevirtual 192, 3) := by decide +kernel
theorem dX9_waits_31 : decode cX9_waits 31 = .ok (.goto 8, 3) := by decide +kernel
theorem dX9_waits_34 : decode cX9_waits 34 = .ok (.bipush (-2), 2) := by decide +kernel
theorem dX9_waits_36 : decode cX9_waits 36 = .ok (.invokestatic 181, 3) := by decide +kernel
theorem dX9_waits_39 : decode cX9_waits 39 = .ok (.lreturn, 1) := by decide +kernel
theorem dX9_goesOf_0 : decode cX9_goesOf 0 = .ok (.aload_n 0, 1) := by decide +kernel
theorem dX9_goesOf_1 : decode cX9_goesOf 1 = .ok (.aload_n 0, 1) := by decide +kernel
theorem dX9_goesOf_2 : decode cX9_goesOf 2 = .ok (.iload_n 1, 1) := by decide +kernel
theorem dX9_goesOf_3 : decode cX9_goesOf 3 = .ok (.iload_n 2, 1) := by decide +kernel
theorem dX9_goesOf_4 : decode cX9_goesOf 4 = .ok (.invokevirtual 170, 3) := by decide +kernel
theorem dX9_goesOf_7 : decode cX9_goesOf 7 = .ok (.invokevirtual 166, 3) := by decide +kernel
theorem dX9_goesOf_10 : decode cX9_goesOf 10 = .ok (.lconst 0, 1) := by decide +kernel
theorem dX9_goesOf_11 : decode cX9_goesOf 11 = .ok (.lcmp, 1) := by decide +kernel
theorem dX9_goesOf_12 : decode cX9_goesOf 12 = .ok (.ifCond .ne 6, 3) := by decide +kernel
theorem dX9_goesOf_15 : decode cX9_goesOf 15 = .ok (.bipush (-3), 2) := by decide +kernel
theorem dX9_goesOf_17 : decode cX9_goesOf 17 = .ok (.ireturn, 1) := by decide +kernel
theorem dX9_goesOf_18 : decode cX9_goesOf 18 = .ok (.aload_n 0, 1) := by decide +kernel
theorem dX9_goesOf_19 : decode cX9_goesOf 19 = .ok (.iload_n 1, 1) := by decide +kernel
theorem dX9_goesOf_20 : decode cX9_goesOf 20 = .ok (.iload_n 2, 1) := by decide +kernel
theorem dX9_goesOf_21 : decode cX9_goesOf 21 = .ok (.iload_n 3, 1) := by decide +kernel
theorem dX9_goesOf_22 : decode cX9_goesOf 22 = .ok (.iload 4, 2) := by decide +kernel
theorem dX9_goesOf_24 : decode cX9_goesOf 24 = .ok (.invokevirtual 184, 3) := by decide +kernel
theorem dX9_goesOf_27 : decode cX9_goesOf 27 = .ok (.aload_n 0, 1) := by decide +kernel
theorem dX9_goesOf_28 : decode cX9_goesOf 28 = .ok (.getfield 177, 3) := by decide +kernel
theorem dX9_goesOf_31 : decode cX9_goesOf 31 = .ok (.ifCond .eq 7, 3) := by decide +kernel
theorem dX9_goesOf_34 : decode cX9_goesOf 34 = .ok (.iconst 1, 1) := by decide +kernel
theorem dX9_goesOf_35 : decode cX9_goesOf 35 = .ok (.goto 4, 3) := by decide +kernel
theorem dX9_goesOf_38 : decode cX9_goesOf 38 = .ok (.iconst 0, 1) := by decide +kernel
theorem dX9_goesOf_39 : decode cX9_goesOf 39 = .ok (.ireturn, 1) := by decide +kernel
theorem dX9_goes_0 : decode cX9_goes 0 = .ok (.aload_n 0, 1) := by decide +kernel
theorem dX9_goes_1 : decode cX9_goes 1 = .ok (.iload_n 1, 1) := by decide +kernel
theorem dX9_goes_2 : decode cX9_goes 2 = .ok (.iload_n 2, 1) := by decide +kernel
theorem dX9_goes_3 : decode cX9_goes 3 = .ok (.iload_n 3, 1) := by decide +kernel
theorem dX9_goes_4 : decode cX9_goes 4 = .ok (.iload 4, 2) := by decide +kernel
theorem dX9_goes_6 : decode cX9_goes 6 = .ok (.invokevirtual 151, 3) := by decide +kernel
theorem dX9_goes_9 : decode cX9_goes 9 = .ok (.ifCond .eq 15, 3) := by decide +kernel
theorem dX9_goes_12 : decode cX9_goes 12 = .ok (.aload_n 0, 1) := by decide +kernel
theorem dX9_goes_13 : decode cX9_goes 13 = .ok (.iload_n 1, 1) := by decide +kernel
theorem dX9_goes_14 : decode cX9_goes 14 = .ok (.iload_n 2, 1) := by decide +kernel
theorem dX9_goes_15 : decode cX9_goes 15 = .ok (.iload_n 3, 1) := by decide +kernel
theorem dX9_goes_16 : decode cX9_goes 16 = .ok (.iload 4, 2) := by decide +kernel
theorem dX9_goes_18 : decode cX9_goes 18 = .ok (.invokevirtual 196, 3) := by decide +kernel
theorem dX9_goes_21 : decode cX9_goes 21 = .ok (.goto 5, 3) := by decide +kernel
theorem dX9_goes_24 : decode cX9_goes 24 = .ok (.bipush (-2), 2) := by decide +kernel
theorem dX9_goes_26 : decode cX9_goes 26 = .ok (.ireturn, 1) := by decide +kernel
theorem dX9_dryDays_0 : decode cX9_dryDays 0 = .ok (.iconst 0, 1) := by decide +kernel
theorem dX9_dryDays_1 : decode cX9_dryDays 1 = .ok (.istore 5, 2) := by decide +kernel
theorem dX9_dryDays_3 : decode cX9_dryDays 3 = .ok (.iload_n 2, 1) := by decide +kernel
theorem dX9_dryDays_4 : decode cX9_dryDays 4 = .ok (.istore 6, 2) := by decide +kernel
theorem dX9_dryDays_6 : decode cX9_dryDays 6 = .ok (.iload 6, 2) := by decide +kernel
theorem dX9_dryDays_8 : decode cX9_dryDays 8 = .ok (.bipush 30, 2) := by decide +kernel
theorem dX9_dryDays_10 : decode cX9_dryDays 10 = .ok (.if_icmp .ge 76, 3) := by decide +kernel
theorem dX9_dryDays_13 : decode cX9_dryDays 13 = .ok (.iload 6, 2) := by decide +kernel
theorem dX9_dryDays_15 : decode cX9_dryDays 15 = .ok (.iload_n 2, 1) := by decide +kernel
theorem dX9_dryDays_16 : decode cX9_dryDays 16 = .ok (.bipush 7, 2) := by decide +kernel
theorem dX9_dryDays_18 : decode cX9_dryDays 18 = .ok (.iadd, 1) := by decide +kernel
theorem dX9_dryDays_19 : decode cX9_dryDays 19 = .ok (.if_icmp .ge 67, 3) := by decide +kernel
theorem dX9_dryDays_22 : decode cX9_dryDays 22 = .ok (.iconst 1, 1) := by decide +kernel
theorem dX9_dryDays_23 : decode cX9_dryDays 23 = .ok (.istore 7, 2) := by decide +kernel
theorem dX9_dryDays_25 : decode cX9_dryDays 25 = .ok (.iload_n 3, 1) := by decide +kernel
theorem dX9_dryDays_26 : decode cX9_dryDays 26 = .ok (.istore 8, 2) := by decide +kernel
theorem dX9_dryDays_28 : decode cX9_dryDays 28 = .ok (.iload 8, 2) := by decide +kernel
theorem dX9_dryDays_30 : decode cX9_dryDays 30 = .ok (.iload 4, 2) := by decide +kernel
theorem dX9_dryDays_32 : decode cX9_dryDays 32 = .ok (.if_icmp .gt 33, 3) := by decide +kernel
theorem dX9_dryDays_35 : decode cX9_dryDays 35 = .ok (.iload 7, 2) := by decide +kernel
theorem dX9_dryDays_37 : decode cX9_dryDays 37 = .ok (.ifCond .eq 19, 3) := by decide +kernel
theorem dX9_dryDays_40 : decode cX9_dryDays 40 = .ok (.aload_n 0, 1) := by decide +kernel
theorem dX9_dryDays_41 : decode cX9_dryDays 41 = .ok (.iload_n 1, 1) := by decide +kernel
theorem dX9_dryDays_42 : decode cX9_dryDays 42 = .ok (.iload 6, 2) := by decide +kernel
theorem dX9_dryDays_44 : decode cX9_dryDays 44 = .ok (.iload 8, 2) := by decide +kernel
theorem dX9_dryDays_46 : decode cX9_dryDays 46 = .ok (.invokevirtual 135, 3) := by decide +kernel
theorem dX9_dryDays_49 : decode cX9_dryDays 49 = .ok (.ifCond .ne 7, 3) := by decide +kernel
theorem dX9_dryDays_52 : decode cX9_dryDays 52 = .ok (.iconst 1, 1) := by decide +kernel
theorem dX9_dryDays_53 : decode cX9_dryDays 53 = .ok (.goto 4, 3) := by decide +kernel
theorem dX9_dryDays_56 : decode cX9_dryDays 56 = .ok (.iconst 0, 1) := by decide +kernel
theorem dX9_dryDays_57 : decode cX9_dryDays 57 = .ok (.istore 7, 2) := by decide +kernel
theorem dX9_dryDays_59 : decode cX9_dryDays 59 = .ok (.iinc 8 1, 3) := by decide +kernel
theorem dX9_dryDays_62 : decode cX9_dryDays 62 = .ok (.goto (-34), 3) := by decide +kernel
theorem dX9_dryDays_65 : decode cX9_dryDays 65 = .ok (.iload 5, 2) := by decide +kernel
theorem dX9_dryDays_67 : decode cX9_dryDays 67 = .ok (.iload 7, 2) := by decide +kernel
theorem dX9_dryDays_69 : decode cX9_dryDays 69 = .ok (.ifCond .eq 7, 3) := by decide +kernel
theorem dX9_dryDays_72 : decode cX9_dryDays 72 = .ok (.iconst 1, 1) := by decide +kernel
theorem dX9_dryDays_73 : decode cX9_dryDays 73 = .ok (.goto 4, 3) := by decide +kernel
theorem dX9_dryDays_76 : decode cX9_dryDays 76 = .ok (.iconst 0, 1) := by decide +kernel
theorem dX9_dryDays_77 : decode cX9_dryDays 77 = .ok (.iadd, 1) := by decide +kernel
theorem dX9_dryDays_78 : decode cX9_dryDays 78 = .ok (.istore 5, 2) := by decide +kernel
theorem dX9_dryDays_80 : decode cX9_dryDays 80 = .ok (.iinc 6 1, 3) := by decide +kernel
theorem dX9_dryDays_83 : decode cX9_dryDays 83 = .ok (.goto (-77), 3) := by decide +kernel
theorem dX9_dryDays_86 : decode cX9_dryDays 86 = .ok (.iload 5, 2) := by decide +kernel
theorem dX9_dryDays_88 : decode cX9_dryDays 88 = .ok (.ireturn, 1) := by decide +kernel
theorem dX9_keepOf_0 : decode cX9_keepOf 0 = .ok (.iload_n 3, 1) := by decide +kernel
theorem dX9_keepOf_1 : decode cX9_keepOf 1 = .ok (.iload 4, 2) := by decide +kernel
theorem dX9_keepOf_3 : decode cX9_keepOf 3 = .ok (.invokestatic 148, 3) := by decide +kernel
theorem dX9_keepOf_6 : decode cX9_keepOf 6 = .ok (.istore 7, 2) := by decide +kernel
theorem dX9_keepOf_8 : decode cX9_keepOf 8 = .ok (.iload_n 3, 1) := by decide +kernel
theorem dX9_keepOf_9 : decode cX9_keepOf 9 = .ok (.iload 4, 2) := by decide +kernel
theorem dX9_keepOf_11 : decode cX9_keepOf 11 = .ok (.iadd, 1) := by decide +kernel
theorem dX9_keepOf_12 : decode cX9_keepOf 12 = .ok (.iload 7, 2) := by decide +kernel
theorem dX9_keepOf_14 : decode cX9_keepOf 14 = .ok (.isub, 1) := by decide +kernel
theorem dX9_keepOf_15 : decode cX9_keepOf 15 = .ok (.istore 8, 2) := by decide +kernel
theorem dX9_keepOf_17 : decode cX9_keepOf 17 = .ok (.aload_n 0, 1) := by decide +kernel
theorem dX9_keepOf_18 : decode cX9_keepOf 18 = .ok (.iload_n 1, 1) := by decide +kernel
theorem dX9_keepOf_19 : decode cX9_keepOf 19 = .ok (.iload_n 2, 1) := by decide +kernel
theorem dX9_keepOf_20 : decode cX9_keepOf 20 = .ok (.iload 7, 2) := by decide +kernel
theorem dX9_keepOf_22 : decode cX9_keepOf 22 = .ok (.iload 8, 2) := by decide +kernel
theorem dX9_keepOf_24 : decode cX9_keepOf 24 = .ok (.invokevirtual 200, 3) := by decide +kernel
theorem dX9_keepOf_27 : decode cX9_keepOf 27 = .ok (.istore 9, 2) := by decide +kernel
theorem dX9_keepOf_29 : decode cX9_keepOf 29 = .ok (.iconst 0, 1) := by decide +kernel
theorem dX9_keepOf_30 : decode cX9_keepOf 30 = .ok (.istore 10, 2) := by decide +kernel
theorem dX9_keepOf_32 : decode cX9_keepOf 32 = .ok (.iconst 0, 1) := by decide +kernel
theorem dX9_keepOf_33 : decode cX9_keepOf 33 = .ok (.istore 11, 2) := by decide +kernel
theorem dX9_keepOf_35 : decode cX9_keepOf 35 = .ok (.aload_n 0, 1) := by decide +kernel
theorem dX9_keepOf_36 : decode cX9_keepOf 36 = .ok (.getfield 123, 3) := by decide +kernel
theorem dX9_keepOf_39 : decode cX9_keepOf 39 = .ok (.istore 12, 2) := by decide +kernel
theorem dX9_keepOf_41 : decode cX9_keepOf 41 = .ok (.iconst 1, 1) := by decide +kernel
theorem dX9_keepOf_42 : decode cX9_keepOf 42 = .ok (.istore 13, 2) := by decide +kernel
theorem dX9_keepOf_44 : decode cX9_keepOf 44 = .ok (.iload 13, 2) := by decide +kernel
theorem dX9_keepOf_46 : decode cX9_keepOf 46 = .ok (.iload 5, 2) := by decide +kernel
theorem dX9_keepOf_48 : decode cX9_keepOf 48 = .ok (.if_icmp .gt 111, 3) := by decide +kernel
theorem dX9_keepOf_51 : decode cX9_keepOf 51 = .ok (.iload 7, 2) := by decide +kernel
theorem dX9_keepOf_53 : decode cX9_keepOf 53 = .ok (.istore 14, 2) := by decide +kernel
theorem dX9_keepOf_55 : decode cX9_keepOf 55 = .ok (.iload 14, 2) := by decide +kernel
theorem dX9_keepOf_57 : decode cX9_keepOf 57 = .ok (.iload 13, 2) := by decide +kernel
theorem dX9_keepOf_59 : decode cX9_keepOf 59 = .ok (.iadd, 1) := by decide +kernel
theorem dX9_keepOf_60 : decode cX9_keepOf 60 = .ok (.iconst 1, 1) := by decide +kernel
theorem dX9_keepOf_61 : decode cX9_keepOf 61 = .ok (.isub, 1) := by decide +kernel
theorem dX9_keepOf_62 : decode cX9_keepOf 62 = .ok (.iload 8, 2) := by decide +kernel
theorem dX9_keepOf_64 : decode cX9_keepOf 64 = .ok (.if_icmp .gt 89, 3) := by decide +kernel
theorem dX9_keepOf_67 : decode cX9_keepOf 67 = .ok (.aload_n 0, 1) := by decide +kernel
theorem dX9_keepOf_68 : decode cX9_keepOf 68 = .ok (.getfield 34, 3) := by decide +kernel
theorem dX9_keepOf_71 : decode cX9_keepOf 71 = .ok (.iconst 3, 1) := by decide +kernel
theorem dX9_keepOf_72 : decode cX9_keepOf 72 = .ok (.iload 12, 2) := by decide +kernel
theorem dX9_keepOf_74 : decode cX9_keepOf 74 = .ok (.imul, 1) := by decide +kernel
theorem dX9_keepOf_75 : decode cX9_keepOf 75 = .ok (.iload 14, 2) := by decide +kernel
theorem dX9_keepOf_77 : decode cX9_keepOf 77 = .ok (.iastore, 1) := by decide +kernel
theorem dX9_keepOf_78 : decode cX9_keepOf 78 = .ok (.aload_n 0, 1) := by decide +kernel
theorem dX9_keepOf_79 : decode cX9_keepOf 79 = .ok (.getfield 34, 3) := by decide +kernel
theorem dX9_keepOf_82 : decode cX9_keepOf 82 = .ok (.iconst 3, 1) := by decide +kernel
theorem dX9_keepOf_83 : decode cX9_keepOf 83 = .ok (.iload 12, 2) := by decide +kernel
theorem dX9_keepOf_85 : decode cX9_keepOf 85 = .ok (.imul, 1) := by decide +kernel
theorem dX9_keepOf_86 : decode cX9_keepOf 86 = .ok (.iconst 1, 1) := by decide +kernel
theorem dX9_keepOf_87 : decode cX9_keepOf 87 = .ok (.iadd, 1) := by decide +kernel
theorem dX9_keepOf_88 : decode cX9_keepOf 88 = .ok (.iload 14, 2) := by decide +kernel
theorem dX9_keepOf_90 : decode cX9_keepOf 90 = .ok (.iload 13, 2) := by decide +kernel
theorem dX9_keepOf_92 : decode cX9_keepOf 92 = .ok (.iadd, 1) := by decide +kernel
theorem dX9_keepOf_93 : decode cX9_keepOf 93 = .ok (.iconst 1, 1) := by decide +kernel
theorem dX9_keepOf_94 : decode cX9_keepOf 94 = .ok (.isub, 1) := by decide +kernel
theorem dX9_keepOf_95 : decode cX9_keepOf 95 = .ok (.iastore, 1) := by decide +kernel
theorem dX9_keepOf_96 : decode cX9_keepOf 96 = .ok (.aload_n 0, 1) := by decide +kernel
theorem dX9_keepOf_97 : decode cX9_keepOf 97 = .ok (.getfield 34, 3) := by decide +kernel
theorem dX9_keepOf_100 : decode cX9_keepOf 100 = .ok (.iconst 3, 1) := by decide +kernel
theorem dX9_keepOf_101 : decode cX9_keepOf 101 = .ok (.iload 12, 2) := by decide +kernel
theorem dX9_keepOf_103 : decode cX9_keepOf 103 = .ok (.imul, 1) := by decide +kernel
theorem dX9_keepOf_104 : decode cX9_keepOf 104 = .ok (.iconst 2, 1) := by decide +kernel
theorem dX9_keepOf_105 : decode cX9_keepOf 105 = .ok (.iadd, 1) := by decide +kernel
theorem dX9_keepOf_106 : decode cX9_keepOf 106 = .ok (.iload_n 2, 1) := by decide +kernel
theorem dX9_keepOf_107 : decode cX9_keepOf 107 = .ok (.iastore, 1) := by decide +kernel
theorem dX9_keepOf_108 : decode cX9_keepOf 108 = .ok (.aload_n 0, 1) := by decide +kernel
theorem dX9_keepOf_109 : decode cX9_keepOf 109 = .ok (.iload 12, 2) := by decide +kernel
theorem dX9_keepOf_111 : decode cX9_keepOf 111 = .ok (.iconst 1, 1) := by decide +kernel
theorem dX9_keepOf_112 : decode cX9_keepOf 112 = .ok (.iadd, 1) := by decide +kernel
theorem dX9_keepOf_113 : decode cX9_keepOf 113 = .ok (.putfield 123, 3) := by decide +kernel
theorem dX9_keepOf_116 : decode cX9_keepOf 116 = .ok (.aload_n 0, 1) := by decide +kernel
theorem dX9_keepOf_117 : decode cX9_keepOf 117 = .ok (.iload_n 1, 1) := by decide +kernel
theorem dX9_keepOf_118 : decode cX9_keepOf 118 = .ok (.iload_n 2, 1) := by decide +kernel
theorem dX9_keepOf_119 : decode cX9_keepOf 119 = .ok (.iload 7, 2) := by decide +kernel
theorem dX9_keepOf_121 : decode cX9_keepOf 121 = .ok (.iload 8, 2) := by decide +kernel
theorem dX9_keepOf_123 : decode cX9_keepOf 123 = .ok (.invokevirtual 200, 3) := by decide +kernel
theorem dX9_keepOf_126 : decode cX9_keepOf 126 = .ok (.istore 15, 2) := by decide +kernel
theorem dX9_keepOf_128 : decode cX9_keepOf 128 = .ok (.iload 15, 2) := by decide +kernel
theorem dX9_keepOf_130 : decode cX9_keepOf 130 = .ok (.iload 9, 2) := by decide +kernel
theorem dX9_keepOf_132 : decode cX9_keepOf 132 = .ok (.if_icmp .le 15, 3) := by decide +kernel
theorem dX9_keepOf_135 : decode cX9_keepOf 135 = .ok (.iload 15, 2) := by decide +kernel
theorem dX9_keepOf_137 : decode cX9_keepOf 137 = .ok (.istore 9, 2) := by decide +kernel
theorem dX9_keepOf_139 : decode cX9_keepOf 139 = .ok (.iload 14, 2) := by decide +kernel
theorem dX9_keepOf_141 : decode cX9_keepOf 141 = .ok (.istore 10, 2) := by decide +kernel
theorem dX9_keepOf_143 : decode cX9_keepOf 143 = .ok (.iload 13, 2) := by decide +kernel
theorem dX9_keepOf_145 : decode cX9_keepOf 145 = .ok (.istore 11, 2) := by decide +kernel
theorem dX9_keepOf_147 : decode cX9_keepOf 147 = .ok (.iinc 14 1, 3) := by decide +kernel
theorem dX9_keepOf_150 : decode cX9_keepOf 150 = .ok (.goto (-95), 3) := by decide +kernel
theorem dX9_keepOf_153 : decode cX9_keepOf 153 = .ok (.iinc 13 1, 3) := by decide +kernel
theorem dX9_keepOf_156 : decode cX9_keepOf 156 = .ok (.goto (-112), 3) := by decide +kernel
theorem dX9_keepOf_159 : decode cX9_keepOf 159 = .ok (.aload_n 0, 1) := by decide +kernel
theorem dX9_keepOf_160 : decode cX9_keepOf 160 = .ok (.iload 12, 2) := by decide +kernel
theorem dX9_keepOf_162 : decode cX9_keepOf 162 = .ok (.putfield 123, 3) := by decide +kernel
theorem dX9_keepOf_165 : decode cX9_keepOf 165 = .ok (.iload 6, 2) := by decide +kernel
theorem dX9_keepOf_167 : decode cX9_keepOf 167 = .ok (.ifCond .ne 8, 3) := by decide +kernel
theorem dX9_keepOf_170 : decode cX9_keepOf 170 = .ok (.iload 9, 2) := by decide +kernel
theorem dX9_keepOf_172 : decode cX9_keepOf 172 = .ok (.goto 16, 3) := by decide +kernel
theorem dX9_keepOf_175 : decode cX9_keepOf 175 = .ok (.iload 6, 2) := by decide +kernel
theorem dX9_keepOf_177 : decode cX9_keepOf 177 = .ok (.iconst 1, 1) := by decide +kernel
theorem dX9_keepOf_178 : decode cX9_keepOf 178 = .ok (.if_icmp .ne 8, 3) := by decide +kernel
theorem dX9_keepOf_181 : decode cX9_keepOf 181 = .ok (.iload 10, 2) := by decide +kernel
theorem dX9_keepOf_183 : decode cX9_keepOf 183 = .ok (.goto 5, 3) := by decide +kernel
theorem dX9_keepOf_186 : decode cX9_keepOf 186 = .ok (.iload 11, 2) := by decide +kernel
theorem dX9_keepOf_188 : decode cX9_keepOf 188 = .ok (.ireturn, 1) := by decide +kernel
theorem dX9_keep_0 : decode cX9_keep 0 = .ok (.aload_n 0, 1) := by decide +kernel
theorem dX9_keep_1 : decode cX9_keep 1 = .ok (.iload_n 1, 1) := by decide +kernel
theorem dX9_keep_2 : decode cX9_keep 2 = .ok (.iload_n 2, 1) := by decide +kernel
theorem dX9_keep_3 : decode cX9_keep 3 = .ok (.iload_n 3, 1) := by decide +kernel
theorem dX9_keep_4 : decode cX9_keep 4 = .ok (.iload 4, 2) := by decide +kernel
theorem dX9_keep_6 : decode cX9_keep 6 = .ok (.invokevirtual 151, 3) := by decide +kernel
theorem dX9_keep_9 : decode cX9_keep 9 = .ok (.ifCond .eq 45, 3) := by decide +kernel
theorem dX9_keep_12 : decode cX9_keep 12 = .ok (.iload 5, 2) := by decide +kernel
theorem dX9_keep_14 : decode cX9_keep 14 = .ok (.i2l, 1) := by decide +kernel
theorem dX9_keep_15 : decode cX9_keep 15 = .ok (.lconst 1, 1) := by decide +kernel
theorem dX9_keep_16 : decode cX9_keep 16 = .ok (.ldc2_w 203, 3) := by decide +kernel
theorem dX9_keep_19 : decode cX9_keep 19 = .ok (.invokestatic 49, 3) := by decide +kernel
theorem dX9_keep_22 : decode cX9_keep 22 = .ok (.ifCond .eq 32, 3) := by decide +kernel
theorem dX9_keep_25 : decode cX9_keep 25 = .ok (.iload 6, 2) := by decide +kernel
theorem dX9_keep_27 : decode cX9_keep 27 = .ok (.i2l, 1) := by decide +kernel
theorem dX9_keep_28 : decode cX9_keep 28 = .ok (.lconst 0, 1) := by decide +kernel
theorem dX9_keep_29 : decode cX9_keep 29 = .ok (.ldc2_w 63, 3) := by decide +kernel
theorem dX9_keep_32 : decode cX9_keep 32 = .ok (.invokestatic 49, 3) := by decide +kernel
theorem dX9_keep_35 : decode cX9_keep 35 = .ok (.ifCond .eq 19, 3) := by decide +kernel
theorem dX9_keep_38 : decode cX9_keep 38 = .ok (.aload_n 0, 1) := by decide +kernel
theorem dX9_keep_39 : decode cX9_keep 39 = .ok (.iload_n 1, 1) := by decide +kernel
theorem dX9_keep_40 : decode cX9_keep 40 = .ok (.iload_n 2, 1) := by decide +kernel
theorem dX9_keep_41 : decode cX9_keep 41 = .ok (.iload_n 3, 1) := by decide +kernel
theorem dX9_keep_42 : decode cX9_keep 42 = .ok (.iload 4, 2) := by decide +kernel
theorem dX9_keep_44 : decode cX9_keep 44 = .ok (.iload 5, 2) := by decide +kernel
theorem dX9_keep_46 : decode cX9_keep 46 = .ok (.iload 6, 2) := by decide +kernel
theorem dX9_keep_48 : decode cX9_keep 48 = .ok (.invokevirtual 205, 3) := by decide +kernel
theorem dX9_keep_51 : decode cX9_keep 51 = .ok (.goto 5, 3) := by decide +kernel
theorem dX9_keep_54 : decode cX9_keep 54 = .ok (.bipush (-2), 2) := by decide +kernel
theorem dX9_keep_56 : decode cX9_keep 56 = .ok (.ireturn, 1) := by decide +kernel
theorem dX9_contract_0 : decode cX9_contract 0 = .ok (.iload_n 1, 1) := by decide +kernel
theorem dX9_contract_1 : decode cX9_contract 1 = .ok (.i2l, 1) := by decide +kernel
theorem dX9_contract_2 : decode cX9_contract 2 = .ok (.lconst 0, 1) := by decide +kernel
theorem dX9_contract_3 : decode cX9_contract 3 = .ok (.ldc2_w 209, 3) := by decide +kernel
theorem dX9_contract_6 : decode cX9_contract 6 = .ok (.invokestatic 49, 3) := by decide +kernel
theorem dX9_contract_9 : decode cX9_contract 9 = .ok (.ifCond .eq 35, 3) := by decide +kernel
theorem dX9_contract_12 : decode cX9_contract 12 = .ok (.iload_n 2, 1) := by decide +kernel
theorem dX9_contract_13 : decode cX9_contract 13 = .ok (.invokestatic 108, 3) := by decide +kernel
theorem dX9_contract_16 : decode cX9_contract 16 = .ok (.ifCond .eq 28, 3) := by decide +kernel
theorem dX9_contract_19 : decode cX9_contract 19 = .ok (.iload_n 3, 1) := by decide +kernel
theorem dX9_contract_20 : decode cX9_contract 20 = .ok (.i2l, 1) := by decide +kernel
theorem dX9_contract_21 : decode cX9_contract 21 = .ok (.lconst 0, 1) := by decide +kernel
theorem dX9_contract_22 : decode cX9_contract 22 = .ok (.ldc2_w 119, 3) := by decide +kernel
theorem dX9_contract_25 : decode cX9_contract 25 = .ok (.invokestatic 49, 3) := by decide +kernel
theorem dX9_contract_28 : decode cX9_contract 28 = .ok (.ifCond .eq 16, 3) := by decide +kernel
theorem dX9_contract_31 : decode cX9_contract 31 = .ok (.iload 4, 2) := by decide +kernel
theorem dX9_contract_33 : decode cX9_contract 33 = .ok (.i2l, 1) := by decide +kernel
theorem dX9_contract_34 : decode cX9_contract 34 = .ok (.lconst 0, 1) := by decide +kernel
theorem dX9_contract_35 : decode cX9_contract 35 = .ok (.ldc2_w 119, 3) := by decide +kernel
theorem dX9_contract_38 : decode cX9_contract 38 = .ok (.invokestatic 49, 3) := by decide +kernel
theorem dX9_contract_41 : decode cX9_contract 41 = .ok (.ifCond .ne 6, 3) := by decide +kernel
theorem dX9_contract_44 : decode cX9_contract 44 = .ok (.bipush (-2), 2) := by decide +kernel
theorem dX9_contract_46 : decode cX9_contract 46 = .ok (.ireturn, 1) := by decide +kernel
theorem dX9_contract_47 : decode cX9_contract 47 = .ok (.aload_n 0, 1) := by decide +kernel
theorem dX9_contract_48 : decode cX9_contract 48 = .ok (.getfield 41, 3) := by decide +kernel
theorem dX9_contract_51 : decode cX9_contract 51 = .ok (.iconst 4, 1) := by decide +kernel
theorem dX9_contract_52 : decode cX9_contract 52 = .ok (.iload_n 1, 1) := by decide +kernel
theorem dX9_contract_53 : decode cX9_contract 53 = .ok (.imul, 1) := by decide +kernel
theorem dX9_contract_54 : decode cX9_contract 54 = .ok (.iaload, 1) := by decide +kernel
theorem dX9_contract_55 : decode cX9_contract 55 = .ok (.istore 5, 2) := by decide +kernel
theorem dX9_contract_57 : decode cX9_contract 57 = .ok (.aload_n 0, 1) := by decide +kernel
theorem dX9_contract_58 : decode cX9_contract 58 = .ok (.getfield 41, 3) := by decide +kernel
theorem dX9_contract_61 : decode cX9_contract 61 = .ok (.iconst 4, 1) := by decide +kernel
theorem dX9_contract_62 : decode cX9_contract 62 = .ok (.iload_n 1, 1) := by decide +kernel
theorem dX9_contract_63 : decode cX9_contract 63 = .ok (.imul, 1) := by decide +kernel
theorem dX9_contract_64 : decode cX9_contract 64 = .ok (.iconst 1, 1) := by decide +kernel
theorem dX9_contract_65 : decode cX9_contract 65 = .ok (.iastore, 1) := by decide +kernel
theorem dX9_contract_66 : decode cX9_contract 66 = .ok (.aload_n 0, 1) := by decide +kernel
theorem dX9_contract_67 : decode cX9_contract 67 = .ok (.getfield 41, 3) := by decide +kernel
theorem dX9_contract_70 : decode cX9_contract 70 = .ok (.iconst 4, 1) := by decide +kernel
theorem dX9_contract_71 : decode cX9_contract 71 = .ok (.iload_n 1, 1) := by decide +kernel
theorem dX9_contract_72 : decode cX9_contract 72 = .ok (.imul, 1) := by decide +kernel
theorem dX9_contract_73 : decode cX9_contract 73 = .ok (.iconst 1, 1) := by decide +kernel
theorem dX9_contract_74 : decode cX9_contract 74 = .ok (.iadd, 1) := by decide +kernel
theorem dX9_contract_75 : decode cX9_contract 75 = .ok (.iload_n 2, 1) := by decide +kernel
theorem dX9_contract_76 : decode cX9_contract 76 = .ok (.iastore, 1) := by decide +kernel
theorem dX9_contract_77 : decode cX9_contract 77 = .ok (.aload_n 0, 1) := by decide +kernel
theorem dX9_contract_78 : decode cX9_contract 78 = .ok (.getfield 41, 3) := by decide +kernel
theorem dX9_contract_81 : decode cX9_contract 81 = .ok (.iconst 4, 1) := by decide +kernel
theorem dX9_contract_82 : decode cX9_contract 82 = .ok (.iload_n 1, 1) := by decide +kernel
theorem dX9_contract_83 : decode cX9_contract 83 = .ok (.imul, 1) := by decide +kernel
theorem dX9_contract_84 : decode cX9_contract 84 = .ok (.iconst 2, 1) := by decide +kernel
theorem dX9_contract_85 : decode cX9_contract 85 = .ok (.iadd, 1) := by decide +kernel
theorem dX9_contract_86 : decode cX9_contract 86 = .ok (.iload_n 3, 1) := by decide +kernel
theorem dX9_contract_87 : decode cX9_contract 87 = .ok (.iastore, 1) := by decide +kernel
theorem dX9_contract_88 : decode cX9_contract 88 = .ok (.aload_n 0, 1) := by decide +kernel
theorem dX9_contract_89 : decode cX9_contract 89 = .ok (.getfield 41, 3) := by decide +kernel
theorem dX9_contract_92 : decode cX9_contract 92 = .ok (.iconst 4, 1) := by decide +kernel
theorem dX9_contract_93 : decode cX9_contract 93 = .ok (.iload_n 1, 1) := by decide +kernel
theorem dX9_contract_94 : decode cX9_contract 94 = .ok (.imul, 1) := by decide +kernel
theorem dX9_contract_95 : decode cX9_contract 95 = .ok (.iconst 3, 1) := by decide +kernel
theorem dX9_contract_96 : decode cX9_contract 96 = .ok (.iadd, 1) := by decide +kernel
theorem dX9_contract_97 : decode cX9_contract 97 = .ok (.iload 4, 2) := by decide +kernel
theorem dX9_contract_99 : decode cX9_contract 99 = .ok (.iastore, 1) := by decide +kernel
theorem dX9_contract_100 : decode cX9_contract 100 = .ok (.iload 5, 2) := by decide +kernel
theorem dX9_contract_102 : decode cX9_contract 102 = .ok (.ireturn, 1) := by decide +kernel
theorem dX9_tears_0 : decode cX9_tears 0 = .ok (.iload_n 1, 1) := by decide +kernel
theorem dX9_tears_1 : decode cX9_tears 1 = .ok (.i2l, 1) := by decide +kernel
theorem dX9_tears_2 : decode cX9_tears 2 = .ok (.lconst 0, 1) := by decide +kernel
theorem dX9_tears_3 : decode cX9_tears 3 = .ok (.ldc2_w 209, 3) := by decide +kernel
theorem dX9_tears_6 : decode cX9_tears 6 = .ok (.invokestatic 49, 3) := by decide +kernel
theorem dX9_tears_9 : decode cX9_tears 9 = .ok (.ifCond .ne 6, 3) := by decide +kernel
theorem dX9_tears_12 : decode cX9_tears 12 = .ok (.bipush (-2), 2) := by decide +kernel
theorem dX9_tears_14 : decode cX9_tears 14 = .ok (.ireturn, 1) := by decide +kernel
theorem dX9_tears_15 : decode cX9_tears 15 = .ok (.aload_n 0, 1) := by decide +kernel
theorem dX9_tears_16 : decode cX9_tears 16 = .ok (.getfield 41, 3) := by decide +kernel
theorem dX9_tears_19 : decode cX9_tears 19 = .ok (.iconst 4, 1) := by decide +kernel
theorem dX9_tears_20 : decode cX9_tears 20 = .ok (.iload_n 1, 1) := by decide +kernel
theorem dX9_tears_21 : decode cX9_tears 21 = .ok (.imul, 1) := by decide +kernel
theorem dX9_tears_22 : decode cX9_tears 22 = .ok (.iaload, 1) := by decide +kernel
theorem dX9_tears_23 : decode cX9_tears 23 = .ok (.istore_n 2, 1) := by decide +kernel
theorem dX9_tears_24 : decode cX9_tears 24 = .ok (.aload_n 0, 1) := by decide +kernel
theorem dX9_tears_25 : decode cX9_tears 25 = .ok (.getfield 41, 3) := by decide +kernel
theorem dX9_tears_28 : decode cX9_tears 28 = .ok (.iconst 4, 1) := by decide +kernel
theorem dX9_tears_29 : decode cX9_tears 29 = .ok (.iload_n 1, 1) := by decide +kernel
theorem dX9_tears_30 : decode cX9_tears 30 = .ok (.imul, 1) := by decide +kernel
theorem dX9_tears_31 : decode cX9_tears 31 = .ok (.iconst 0, 1) := by decide +kernel
theorem dX9_tears_32 : decode cX9_tears 32 = .ok (.iastore, 1) := by decide +kernel
theorem dX9_tears_33 : decode cX9_tears 33 = .ok (.iload_n 2, 1) := by decide +kernel
theorem dX9_tears_34 : decode cX9_tears 34 = .ok (.ireturn, 1) := by decide +kernel
theorem dX9_brings_0 : decode cX9_brings 0 = .ok (.aload_n 0, 1) := by decide +kernel
theorem dX9_brings_1 : decode cX9_brings 1 = .ok (.iload_n 2, 1) := by decide +kernel
theorem dX9_brings_2 : decode cX9_brings 2 = .ok (.invokevirtual 128, 3) := by decide +kernel
theorem dX9_brings_5 : decode cX9_brings 5 = .ok (.istore_n 3, 1) := by decide +kernel
theorem dX9_brings_6 : decode cX9_brings 6 = .ok (.iconst 0, 1) := by decide +kernel
theorem dX9_brings_7 : decode cX9_brings 7 = .ok (.istore 4, 2) := by decide +kernel
theorem dX9_brings_9 : decode cX9_brings 9 = .ok (.iconst 0, 1) := by decide +kernel
theorem dX9_brings_10 : decode cX9_brings 10 = .ok (.istore 5, 2) := by decide +kernel
theorem dX9_brings_12 : decode cX9_brings 12 = .ok (.iload 5, 2) := by decide +kernel
theorem dX9_brings_14 : decode cX9_brings 14 = .ok (.bipush 8, 2) := by decide +kernel
theorem dX9_brings_16 : decode cX9_brings 16 = .ok (.if_icmp .ge 74, 3) := by decide +kernel
theorem dX9_brings_19 : decode cX9_brings 19 = .ok (.iload_n 1, 1) := by decide +kernel
theorem dX9_brings_20 : decode cX9_brings 20 = .ok (.iload 5, 2) := by decide +kernel
theorem dX9_brings_22 : decode cX9_brings 22 = .ok (.invokestatic 139, 3) := by decide +kernel
theorem dX9_brings_25 : decode cX9_brings 25 = .ok (.ifCond .eq 59, 3) := by decide +kernel
theorem dX9_brings_28 : decode cX9_brings 28 = .ok (.iload 4, 2) := by decide +kernel
theorem dX9_brings_30 : decode cX9_brings 30 = .ok (.iload_n 3, 1) := by decide +kernel
theorem dX9_brings_31 : decode cX9_brings 31 = .ok (.iconst (-1), 1) := by decide +kernel
theorem dX9_brings_32 : decode cX9_brings 32 = .ok (.if_icmp .eq 32, 3) := by decide +kernel
theorem dX9_brings_35 : decode cX9_brings 35 = .ok (.iload_n 3, 1) := by decide +kernel
theorem dX9_brings_36 : decode cX9_brings 36 = .ok (.aload_n 0, 1) := by decide +kernel
theorem dX9_brings_37 : decode cX9_brings 37 = .ok (.getfield 41, 3) := by decide +kernel
theorem dX9_brings_40 : decode cX9_brings 40 = .ok (.iconst 4, 1) := by decide +kernel
theorem dX9_brings_41 : decode cX9_brings 41 = .ok (.iload 5, 2) := by decide +kernel
theorem dX9_brings_43 : decode cX9_brings 43 = .ok (.imul, 1) := by decide +kernel
theorem dX9_brings_44 : decode cX9_brings 44 = .ok (.iconst 1, 1) := by decide +kernel
theorem dX9_brings_45 : decode cX9_brings 45 = .ok (.iadd, 1) := by decide +kernel
theorem dX9_brings_46 : decode cX9_brings 46 = .ok (.iaload, 1) := by decide +kernel
theorem dX9_brings_47 : decode cX9_brings 47 = .ok (.if_icmp .gt 17, 3) := by decide +kernel
theorem dX9_brings_50 : decode cX9_brings 50 = .ok (.aload_n 0, 1) := by decide +kernel
theorem dX9_brings_51 : decode cX9_brings 51 = .ok (.getfield 41, 3) := by decide +kernel
theorem dX9_brings_54 : decode cX9_brings 54 = .ok (.iconst 4, 1) := by decide +kernel
theorem dX9_brings_55 : decode cX9_brings 55 = .ok (.iload 5, 2) := by decide +kernel
theorem dX9_brings_57 : decode cX9_brings 57 = .ok (.imul, 1) := by decide +kernel
theorem dX9_brings_58 : decode cX9_brings 58 = .ok (.iconst 2, 1) := by decide +kernel
theorem dX9_brings_59 : decode cX9_brings 59 = .ok (.iadd, 1) := by decide +kernel
theorem dX9_brings_60 : decode cX9_brings 60 = .ok (.iaload, 1) := by decide +kernel
theorem dX9_brings_61 : decode cX9_brings 61 = .ok (.goto 4, 3) := by decide +kernel
theorem dX9_brings_64 : decode cX9_brings 64 = .ok (.iconst 0, 1) := by decide +kernel
theorem dX9_brings_65 : decode cX9_brings 65 = .ok (.iadd, 1) := by decide +kernel
theorem dX9_brings_66 : decode cX9_brings 66 = .ok (.istore 4, 2) := by decide +kernel
theorem dX9_brings_68 : decode cX9_brings 68 = .ok (.iload 4, 2) := by decide +kernel
theorem dX9_brings_70 : decode cX9_brings 70 = .ok (.aload_n 0, 1) := by decide +kernel
theorem dX9_brings_71 : decode cX9_brings 71 = .ok (.getfield 41, 3) := by decide +kernel
theorem dX9_brings_74 : decode cX9_brings 74 = .ok (.iconst 4, 1) := by decide +kernel
theorem dX9_brings_75 : decode cX9_brings 75 = .ok (.iload 5, 2) := by decide +kernel
theorem dX9_brings_77 : decode cX9_brings 77 = .ok (.imul, 1) := by decide +kernel
theorem dX9_brings_78 : decode cX9_brings 78 = .ok (.iconst 3, 1) := by decide +kernel
theorem dX9_brings_79 : decode cX9_brings 79 = .ok (.iadd, 1) := by decide +kernel
theorem dX9_brings_80 : decode cX9_brings 80 = .ok (.iaload, 1) := by decide +kernel
theorem dX9_brings_81 : decode cX9_brings 81 = .ok (.isub, 1) := by decide +kernel
theorem dX9_brings_82 : decode cX9_brings 82 = .ok (.istore 4, 2) := by decide +kernel
theorem dX9_brings_84 : decode cX9_brings 84 = .ok (.iinc 5 1, 3) := by decide +kernel
theorem dX9_brings_87 : decode cX9_brings 87 = .ok (.goto (-75), 3) := by decide +kernel
theorem dX9_brings_90 : decode cX9_brings 90 = .ok (.iload 4, 2) := by decide +kernel
theorem dX9_brings_92 : decode cX9_brings 92 = .ok (.ireturn, 1) := by decide +kernel
theorem dX9_areThere_0 : decode cX9_areThere 0 = .ok (.iconst 1, 1) := by decide +kernel
theorem dX9_areThere_1 : decode cX9_areThere 1 = .ok (.istore_n 2, 1) := by decide +kernel
theorem dX9_areThere_2 : decode cX9_areThere 2 = .ok (.iconst 0, 1) := by decide +kernel
theorem dX9_areThere_3 : decode cX9_areThere 3 = .ok (.istore_n 3, 1) := by decide +kernel
theorem dX9_areThere_4 : decode cX9_areThere 4 = .ok (.iload_n 3, 1) := by decide +kernel
theorem dX9_areThere_5 : decode cX9_areThere 5 = .ok (.bipush 8, 2) := by decide +kernel
theorem dX9_areThere_7 : decode cX9_areThere 7 = .ok (.if_icmp .ge 39, 3) := by decide +kernel
theorem dX9_areThere_10 : decode cX9_areThere 10 = .ok (.iload_n 2, 1) := by decide +kernel
theorem dX9_areThere_11 : decode cX9_areThere 11 = .ok (.ifCond .eq 27, 3) := by decide +kernel
theorem dX9_areThere_14 : decode cX9_areThere 14 = .ok (.iload_n 1, 1) := by decide +kernel
theorem dX9_areThere_15 : decode cX9_areThere 15 = .ok (.iload_n 3, 1) := by decide +kernel
theorem dX9_areThere_16 : decode cX9_areThere 16 = .ok (.invokestatic 139, 3) := by decide +kernel
theorem dX9_areThere_19 : decode cX9_areThere 19 = .ok (.ifCond .eq 15, 3) := by decide +kernel
theorem dX9_areThere_22 : decode cX9_areThere 22 = .ok (.aload_n 0, 1) := by decide +kernel
theorem dX9_areThere_23 : decode cX9_areThere 23 = .ok (.getfield 41, 3) := by decide +kernel
theorem dX9_areThere_26 : decode cX9_areThere 26 = .ok (.iconst 4, 1) := by decide +kernel
theorem dX9_areThere_27 : decode cX9_areThere 27 = .ok (.iload_n 3, 1) := by decide +kernel
theorem dX9_areThere_28 : decode cX9_areThere 28 = .ok (.imul, 1) := by decide +kernel
theorem dX9_areThere_29 : decode cX9_areThere 29 = .ok (.iaload, 1) := by decide +kernel
theorem dX9_areThere_30 : decode cX9_areThere 30 = .ok (.iconst 1, 1) := by decide +kernel
theorem dX9_areThere_31 : decode cX9_areThere 31 = .ok (.if_icmp .ne 7, 3) := by decide +kernel
theorem dX9_areThere_34 : decode cX9_areThere 34 = .ok (.iconst 1, 1) := by decide +kernel
theorem dX9_areThere_35 : decode cX9_areThere 35 = .ok (.goto 4, 3) := by decide +kernel
theorem dX9_areThere_38 : decode cX9_areThere 38 = .ok (.iconst 0, 1) := by decide +kernel
theorem dX9_areThere_39 : decode cX9_areThere 39 = .ok (.istore_n 2, 1) := by decide +kernel
theorem dX9_areThere_40 : decode cX9_areThere 40 = .ok (.iinc 3 1, 3) := by decide +kernel
theorem dX9_areThere_43 : decode cX9_areThere 43 = .ok (.goto (-39), 3) := by decide +kernel
theorem dX9_areThere_46 : decode cX9_areThere 46 = .ok (.iload_n 2, 1) := by decide +kernel
theorem dX9_areThere_47 : decode cX9_areThere 47 = .ok (.ireturn, 1) := by decide +kernel
theorem dX9_findNever_0 : decode cX9_findNever 0 = .ok (.aload_n 0, 1) := by decide +kernel
theorem dX9_findNever_1 : decode cX9_findNever 1 = .ok (.iconst 0, 1) := by decide +kernel
theorem dX9_findNever_2 : decode cX9_findNever 2 = .ok (.putfield 211, 3) := by decide +kernel
theorem dX9_findNever_5 : decode cX9_findNever 5 = .ok (.aload_n 0, 1) := by decide +kernel
theorem dX9_findNever_6 : decode cX9_findNever 6 = .ok (.iconst 0, 1) := by decide +kernel
theorem dX9_findNever_7 : decode cX9_findNever 7 = .ok (.putfield 214, 3) := by decide +kernel
theorem dX9_findNever_10 : decode cX9_findNever 10 = .ok (.aload_n 0, 1) := by decide +kernel
theorem dX9_findNever_11 : decode cX9_findNever 11 = .ok (.lconst 0, 1) := by decide +kernel
theorem dX9_findNever_12 : decode cX9_findNever 12 = .ok (.putfield 217, 3) := by decide +kernel
theorem dX9_findNever_15 : decode cX9_findNever 15 = .ok (.iconst 0, 1) := by decide +kernel
theorem dX9_findNever_16 : decode cX9_findNever 16 = .ok (.istore_n 1, 1) := by decide +kernel
theorem dX9_findNever_17 : decode cX9_findNever 17 = .ok (.iload_n 1, 1) := by decide +kernel
theorem dX9_findNever_18 : decode cX9_findNever 18 = .ok (.sipush 256, 3) := by decide +kernel
theorem dX9_findNever_21 : decode cX9_findNever 21 = .ok (.if_icmp .ge 138, 3) := by decide +kernel
theorem dX9_findNever_24 : decode cX9_findNever 24 = .ok (.aload_n 0, 1) := by decide +kernel
theorem dX9_findNever_25 : decode cX9_findNever 25 = .ok (.iload_n 1, 1) := by decide +kernel
theorem dX9_findNever_26 : decode cX9_findNever 26 = .ok (.invokevirtual 221, 3) := by decide +kernel
theorem dX9_findNever_29 : decode cX9_findNever 29 = .ok (.istore_n 2, 1) := by decide +kernel
theorem dX9_findNever_30 : decode cX9_findNever 30 = .ok (.lconst 0, 1) := by decide +kernel
theorem dX9_findNever_31 : decode cX9_findNever 31 = .ok (.lstore_n 3, 1) := by decide +kernel
theorem dX9_findNever_32 : decode cX9_findNever 32 = .ok (.iconst 0, 1) := by decide +kernel
theorem dX9_findNever_33 : decode cX9_findNever 33 = .ok (.istore 5, 2) := by decide +kernel
theorem dX9_findNever_35 : decode cX9_findNever 35 = .ok (.iload 5, 2) := by decide +kernel
theorem dX9_findNever_37 : decode cX9_findNever 37 = .ok (.iconst 3, 1) := by decide +kernel
theorem dX9_findNever_38 : decode cX9_findNever 38 = .ok (.if_icmp .ge 59, 3) := by decide +kernel
theorem dX9_findNever_41 : decode cX9_findNever 41 = .ok (.iload_n 2, 1) := by decide +kernel
theorem dX9_findNever_42 : decode cX9_findNever 42 = .ok (.ifCond .eq 27, 3) := by decide +kernel
theorem dX9_findNever_45 : decode cX9_findNever 45 = .ok (.aload_n 0, 1) := by decide +kernel
theorem dX9_findNever_46 : decode cX9_findNever 46 = .ok (.getfield 31, 3) := by decide +kernel
theorem dX9_findNever_49 : decode cX9_findNever 49 = .ok (.iload 5, 2) := by decide +kernel
theorem dX9_findNever_51 : decode cX9_findNever 51 = .ok (.iaload, 1) := by decide +kernel
theorem dX9_findNever_52 : decode cX9_findNever 52 = .ok (.ifCond .eq 13, 3) := by decide +kernel
theorem dX9_findNever_55 : decode cX9_findNever 55 = .ok (.aload_n 0, 1) := by decide +kernel
theorem dX9_findNever_56 : decode cX9_findNever 56 = .ok (.iload_n 1, 1) := by decide +kernel
theorem dX9_findNever_57 : decode cX9_findNever 57 = .ok (.iload 5, 2) := by decide +kernel
theorem dX9_findNever_59 : decode cX9_findNever 59 = .ok (.invokevirtual 224, 3) := by decide +kernel
theorem dX9_findNever_62 : decode cX9_findNever 62 = .ok (.ifCond .lt 7, 3) := by decide +kernel
theorem dX9_findNever_65 : decode cX9_findNever 65 = .ok (.iconst 1, 1) := by decide +kernel
theorem dX9_findNever_66 : decode cX9_findNever 66 = .ok (.goto 4, 3) := by decide +kernel
theorem dX9_findNever_69 : decode cX9_findNever 69 = .ok (.iconst 0, 1) := by decide +kernel
theorem dX9_findNever_70 : decode cX9_findNever 70 = .ok (.istore_n 2, 1) := by decide +kernel
theorem dX9_findNever_71 : decode cX9_findNever 71 = .ok (.lload_n 3, 1) := by decide +kernel
theorem dX9_findNever_72 : decode cX9_findNever 72 = .ok (.aload_n 0, 1) := by decide +kernel
theorem dX9_findNever_73 : decode cX9_findNever 73 = .ok (.getfield 31, 3) := by decide +kernel
theorem dX9_findNever_76 : decode cX9_findNever 76 = .ok (.iload 5, 2) := by decide +kernel
theorem dX9_findNever_78 : decode cX9_findNever 78 = .ok (.iaload, 1) := by decide +kernel
theorem dX9_findNever_79 : decode cX9_findNever 79 = .ok (.i2l, 1) := by decide +kernel
theorem dX9_findNever_80 : decode cX9_findNever 80 = .ok (.aload_n 0, 1) := by decide +kernel
theorem dX9_findNever_81 : decode cX9_findNever 81 = .ok (.iload_n 1, 1) := by decide +kernel
theorem dX9_findNever_82 : decode cX9_findNever 82 = .ok (.iload 5, 2) := by decide +kernel
theorem dX9_findNever_84 : decode cX9_findNever 84 = .ok (.invokevirtual 224, 3) := by decide +kernel
theorem dX9_findNever_87 : decode cX9_findNever 87 = .ok (.i2l, 1) := by decide +kernel
theorem dX9_findNever_88 : decode cX9_findNever 88 = .ok (.lmul, 1) := by decide +kernel
theorem dX9_findNever_89 : decode cX9_findNever 89 = .ok (.ladd, 1) := by decide +kernel
theorem dX9_findNever_90 : decode cX9_findNever 90 = .ok (.lstore_n 3, 1) := by decide +kernel
theorem dX9_findNever_91 : decode cX9_findNever 91 = .ok (.iinc 5 1, 3) := by decide +kernel
theorem dX9_findNever_94 : decode cX9_findNever 94 = .ok (.goto (-59), 3) := by decide +kernel
theorem dX9_findNever_97 : decode cX9_findNever 97 = .ok (.iload_n 2, 1) := by decide +kernel
theorem dX9_findNever_98 : decode cX9_findNever 98 = .ok (.ifCond .eq 55, 3) := by decide +kernel
theorem dX9_findNever_101 : decode cX9_findNever 101 = .ok (.aload_n 0, 1) := by decide +kernel
theorem dX9_findNever_102 : decode cX9_findNever 102 = .ok (.dup, 1) := by decide +kernel
theorem dX9_findNever_103 : decode cX9_findNever 103 = .ok (.getfield 211, 3) := by decide +kernel
theorem dX9_findNever_106 : decode cX9_findNever 106 = .ok (.iconst 1, 1) := by decide +kernel
theorem dX9_findNever_107 : decode cX9_findNever 107 = .ok (.iadd, 1) := by decide +kernel
theorem dX9_findNever_108 : decode cX9_findNever 108 = .ok (.putfield 211, 3) := by decide +kernel
theorem dX9_findNever_111 : decode cX9_findNever 111 = .ok (.aload_n 0, 1) := by decide +kernel
theorem dX9_findNever_112 : decode cX9_findNever 112 = .ok (.lload_n 3, 1) := by decide +kernel
theorem dX9_findNever_113 : decode cX9_findNever 113 = .ok (.aload_n 0, 1) := by decide +kernel
theorem dX9_findNever_114 : decode cX9_findNever 114 = .ok (.getfield 217, 3) := by decide +kernel
theorem dX9_findNever_117 : decode cX9_findNever 117 = .ok (.lcmp, 1) := by decide +kernel
theorem dX9_findNever_118 : decode cX9_findNever 118 = .ok (.ifCond .le 7, 3) := by decide +kernel
theorem dX9_findNever_121 : decode cX9_findNever 121 = .ok (.iload_n 1, 1) := by decide +kernel
theorem dX9_findNever_122 : decode cX9_findNever 122 = .ok (.goto 7, 3) := by decide +kernel
theorem dX9_findNever_125 : decode cX9_findNever 125 = .ok (.aload_n 0, 1) := by decide +kernel
theorem dX9_findNever_126 : decode cX9_findNever 126 = .ok (.getfield 214, 3) := by decide +kernel
theorem dX9_findNever_129 : decode cX9_findNever 129 = .ok (.putfield 214, 3) := by decide +kernel
theorem dX9_findNever_132 : decode cX9_findNever 132 = .ok (.aload_n 0, 1) := by decide +kernel
theorem dX9_findNever_133 : decode cX9_findNever 133 = .ok (.lload_n 3, 1) := by decide +kernel
theorem dX9_findNever_134 : decode cX9_findNever 134 = .ok (.aload_n 0, 1) := by decide +kernel
theorem dX9_findNever_135 : decode cX9_findNever 135 = .ok (.getfield 217, 3) := by decide +kernel
theorem dX9_findNever_138 : decode cX9_findNever 138 = .ok (.lcmp, 1) := by decide +kernel
theorem dX9_findNever_139 : decode cX9_findNever 139 = .ok (.ifCond .le 7, 3) := by decide +kernel
theorem dX9_findNever_142 : decode cX9_findNever 142 = .ok (.lload_n 3, 1) := by decide +kernel
theorem dX9_findNever_143 : decode cX9_findNever 143 = .ok (.goto 7, 3) := by decide +kernel
theorem dX9_findNever_146 : decode cX9_findNever 146 = .ok (.aload_n 0, 1) := by decide +kernel
theorem dX9_findNever_147 : decode cX9_findNever 147 = .ok (.getfield 217, 3) := by decide +kernel
theorem dX9_findNever_150 : decode cX9_findNever 150 = .ok (.putfield 217, 3) := by decide +kernel
theorem dX9_findNever_153 : decode cX9_findNever 153 = .ok (.iinc 1 1, 3) := by decide +kernel
theorem dX9_findNever_156 : decode cX9_findNever 156 = .ok (.goto (-139), 3) := by decide +kernel
theorem dX9_findNever_159 : decode cX9_findNever 159 = .ok (.return_, 1) := by decide +kernel
theorem dX9_neverOf_0 : decode cX9_neverOf 0 = .ok (.aload_n 0, 1) := by decide +kernel
theorem dX9_neverOf_1 : decode cX9_neverOf 1 = .ok (.invokevirtual 227, 3) := by decide +kernel
theorem dX9_neverOf_4 : decode cX9_neverOf 4 = .ok (.iload_n 1, 1) := by decide +kernel
theorem dX9_neverOf_5 : decode cX9_neverOf 5 = .ok (.ifCond .ne 10, 3) := by decide +kernel
theorem dX9_neverOf_8 : decode cX9_neverOf 8 = .ok (.aload_n 0, 1) := by decide +kernel
theorem dX9_neverOf_9 : decode cX9_neverOf 9 = .ok (.getfield 211, 3) := by decide +kernel
theorem dX9_neverOf_12 : decode cX9_neverOf 12 = .ok (.goto 7, 3) := by decide +kernel
theorem dX9_neverOf_15 : decode cX9_neverOf 15 = .ok (.aload_n 0, 1) := by decide +kernel
theorem dX9_neverOf_16 : decode cX9_neverOf 16 = .ok (.getfield 214, 3) := by decide +kernel
theorem dX9_neverOf_19 : decode cX9_neverOf 19 = .ok (.ireturn, 1) := by decide +kernel
theorem dX9_never_0 : decode cX9_never 0 = .ok (.iload_n 1, 1) := by decide +kernel
theorem dX9_never_1 : decode cX9_never 1 = .ok (.invokestatic 142, 3) := by decide +kernel
theorem dX9_never_4 : decode cX9_never 4 = .ok (.ifCond .eq 11, 3) := by decide +kernel
theorem dX9_never_7 : decode cX9_never 7 = .ok (.aload_n 0, 1) := by decide +kernel
theorem dX9_never_8 : decode cX9_never 8 = .ok (.iload_n 1, 1) := by decide +kernel
theorem dX9_never_9 : decode cX9_never 9 = .ok (.invokevirtual 230, 3) := by decide +kernel
theorem dX9_never_12 : decode cX9_never 12 = .ok (.goto 5, 3) := by decide +kernel
theorem dX9_never_15 : decode cX9_never 15 = .ok (.bipush (-2), 2) := by decide +kernel
theorem dX9_never_17 : decode cX9_never 17 = .ok (.ireturn, 1) := by decide +kernel
theorem dX9_gainOf_0 : decode cX9_gainOf 0 = .ok (.aload_n 0, 1) := by decide +kernel
theorem dX9_gainOf_1 : decode cX9_gainOf 1 = .ok (.invokevirtual 227, 3) := by decide +kernel
theorem dX9_gainOf_4 : decode cX9_gainOf 4 = .ok (.aload_n 0, 1) := by decide +kernel
theorem dX9_gainOf_5 : decode cX9_gainOf 5 = .ok (.bipush 7, 2) := by decide +kernel
theorem dX9_gainOf_7 : decode cX9_gainOf 7 = .ok (.invokevirtual 166, 3) := by decide +kernel
theorem dX9_gainOf_10 : decode cX9_gainOf 10 = .ok (.lstore_n 2, 1) := by decide +kernel
theorem dX9_gainOf_11 : decode cX9_gainOf 11 = .ok (.lload_n 2, 1) := by decide +kernel
theorem dX9_gainOf_12 : decode cX9_gainOf 12 = .ok (.lconst 0, 1) := by decide +kernel
theorem dX9_gainOf_13 : decode cX9_gainOf 13 = .ok (.lcmp, 1) := by decide +kernel
theorem dX9_gainOf_14 : decode cX9_gainOf 14 = .ok (.ifCond .ne 8, 3) := by decide +kernel
theorem dX9_gainOf_17 : decode cX9_gainOf 17 = .ok (.iload_n 1, 1) := by decide +kernel
theorem dX9_gainOf_18 : decode cX9_gainOf 18 = .ok (.i2l, 1) := by decide +kernel
theorem dX9_gainOf_19 : decode cX9_gainOf 19 = .ok (.goto 12, 3) := by decide +kernel
theorem dX9_gainOf_22 : decode cX9_gainOf 22 = .ok (.aload_n 0, 1) := by decide +kernel
theorem dX9_gainOf_23 : decode cX9_gainOf 23 = .ok (.getfield 217, 3) := by decide +kernel
theorem dX9_gainOf_26 : decode cX9_gainOf 26 = .ok (.lload_n 2, 1) := by decide +kernel
theorem dX9_gainOf_27 : decode cX9_gainOf 27 = .ok (.iload_n 1, 1) := by decide +kernel
theorem dX9_gainOf_28 : decode cX9_gainOf 28 = .ok (.invokestatic 188, 3) := by decide +kernel
theorem dX9_gainOf_31 : decode cX9_gainOf 31 = .ok (.lreturn, 1) := by decide +kernel
theorem dX9_gain_0 : decode cX9_gain 0 = .ok (.iload_n 1, 1) := by decide +kernel
theorem dX9_gain_1 : decode cX9_gain 1 = .ok (.invokestatic 142, 3) := by decide +kernel
theorem dX9_gain_4 : decode cX9_gain 4 = .ok (.ifCond .eq 11, 3) := by decide +kernel
theorem dX9_gain_7 : decode cX9_gain 7 = .ok (.aload_n 0, 1) := by decide +kernel
theorem dX9_gain_8 : decode cX9_gain 8 = .ok (.iload_n 1, 1) := by decide +kernel
theorem dX9_gain_9 : decode cX9_gain 9 = .ok (.invokevirtual 233, 3) := by decide +kernel
theorem dX9_gain_12 : decode cX9_gain 12 = .ok (.goto 8, 3) := by decide +kernel
theorem dX9_gain_15 : decode cX9_gain 15 = .ok (.bipush (-2), 2) := by decide +kernel
theorem dX9_gain_17 : decode cX9_gain 17 = .ok (.invokestatic 181, 3) := by decide +kernel
theorem dX9_gain_20 : decode cX9_gain 20 = .ok (.lreturn, 1) := by decide +kernel
theorem dX9_kinds_0 : decode cX9_kinds 0 = .ok (.iconst 0, 1) := by decide +kernel
theorem dX9_kinds_1 : decode cX9_kinds 1 = .ok (.istore_n 2, 1) := by decide +kernel
theorem dX9_kinds_2 : decode cX9_kinds 2 = .ok (.iconst 0, 1) := by decide +kernel
theorem dX9_kinds_3 : decode cX9_kinds 3 = .ok (.istore_n 3, 1) := by decide +kernel
theorem dX9_kinds_4 : decode cX9_kinds 4 = .ok (.iload_n 3, 1) := by decide +kernel
theorem dX9_kinds_5 : decode cX9_kinds 5 = .ok (.iconst 3, 1) := by decide +kernel
theorem dX9_kinds_6 : decode cX9_kinds 6 = .ok (.if_icmp .ge 33, 3) := by decide +kernel
theorem dX9_kinds_9 : decode cX9_kinds 9 = .ok (.iload_n 2, 1) := by decide +kernel
theorem dX9_kinds_10 : decode cX9_kinds 10 = .ok (.aload_n 0, 1) := by decide +kernel
theorem dX9_kinds_11 : decode cX9_kinds 11 = .ok (.getfield 31, 3) := by decide +kernel
theorem dX9_kinds_14 : decode cX9_kinds 14 = .ok (.iload_n 3, 1) := by decide +kernel
theorem dX9_kinds_15 : decode cX9_kinds 15 = .ok (.iaload, 1) := by decide +kernel
theorem dX9_kinds_16 : decode cX9_kinds 16 = .ok (.ifCond .le 14, 3) := by decide +kernel
theorem dX9_kinds_19 : decode cX9_kinds 19 = .ok (.iconst 1, 1) := by decide +kernel
theorem dX9_kinds_20 : decode cX9_kinds 20 = .ok (.aload_n 0, 1) := by decide +kernel
theorem dX9_kinds_21 : decode cX9_kinds 21 = .ok (.iload_n 3, 1) := by decide +kernel
theorem dX9_kinds_22 : decode cX9_kinds 22 = .ok (.iload_n 1, 1) := by decide +kernel
theorem dX9_kinds_23 : decode cX9_kinds 23 = .ok (.invokevirtual 111, 3) := by decide +kernel
theorem dX9_kinds_26 : decode cX9_kinds 26 = .ok (.ishl, 1) := by decide +kernel
theorem dX9_kinds_27 : decode cX9_kinds 27 = .ok (.goto 4, 3) := by decide +kernel
theorem dX9_kinds_30 : decode cX9_kinds 30 = .ok (.iconst 0, 1) := by decide +kernel
theorem dX9_kinds_31 : decode cX9_kinds 31 = .ok (.ior, 1) := by decide +kernel
theorem dX9_kinds_32 : decode cX9_kinds 32 = .ok (.istore_n 2, 1) := by decide +kernel
theorem dX9_kinds_33 : decode cX9_kinds 33 = .ok (.iinc 3 1, 3) := by decide +kernel
theorem dX9_kinds_36 : decode cX9_kinds 36 = .ok (.goto (-32), 3) := by decide +kernel
theorem dX9_kinds_39 : decode cX9_kinds 39 = .ok (.iconst 0, 1) := by decide +kernel
theorem dX9_kinds_40 : decode cX9_kinds 40 = .ok (.istore_n 3, 1) := by decide +kernel
theorem dX9_kinds_41 : decode cX9_kinds 41 = .ok (.iload_n 2, 1) := by decide +kernel
theorem dX9_kinds_42 : decode cX9_kinds 42 = .ok (.istore 4, 2) := by decide +kernel
theorem dX9_kinds_44 : decode cX9_kinds 44 = .ok (.iload 4, 2) := by decide +kernel
theorem dX9_kinds_46 : decode cX9_kinds 46 = .ok (.ifCond .eq 18, 3) := by decide +kernel
theorem dX9_kinds_49 : decode cX9_kinds 49 = .ok (.iinc 3 1, 3) := by decide +kernel
theorem dX9_kinds_52 : decode cX9_kinds 52 = .ok (.iload 4, 2) := by decide +kernel
theorem dX9_kinds_54 : decode cX9_kinds 54 = .ok (.iload 4, 2) := by decide +kernel
theorem dX9_kinds_56 : decode cX9_kinds 56 = .ok (.iconst 1, 1) := by decide +kernel
theorem dX9_kinds_57 : decode cX9_kinds 57 = .ok (.isub, 1) := by decide +kernel
theorem dX9_kinds_58 : decode cX9_kinds 58 = .ok (.iand, 1) := by decide +kernel
theorem dX9_kinds_59 : decode cX9_kinds 59 = .ok (.istore 4, 2) := by decide +kernel
theorem dX9_kinds_61 : decode cX9_kinds 61 = .ok (.goto (-17), 3) := by decide +kernel
theorem dX9_kinds_64 : decode cX9_kinds 64 = .ok (.iload_n 3, 1) := by decide +kernel
theorem dX9_kinds_65 : decode cX9_kinds 65 = .ok (.ireturn, 1) := by decide +kernel
theorem dX9_watchNow_0 : decode cX9_watchNow 0 = .ok (.iconst 0, 1) := by decide +kernel
theorem dX9_watchNow_1 : decode cX9_watchNow 1 = .ok (.istore_n 1, 1) := by decide +kernel
theorem dX9_watchNow_2 : decode cX9_watchNow 2 = .ok (.iconst 1, 1) := by decide +kernel
theorem dX9_watchNow_3 : decode cX9_watchNow 3 = .ok (.istore_n 2, 1) := by decide +kernel
theorem dX9_watchNow_4 : decode cX9_watchNow 4 = .ok (.iload_n 2, 1) := by decide +kernel
theorem dX9_watchNow_5 : decode cX9_watchNow 5 = .ok (.bipush 30, 2) := by decide +kernel
theorem dX9_watchNow_7 : decode cX9_watchNow 7 = .ok (.if_icmp .ge 28, 3) := by decide +kernel
theorem dX9_watchNow_10 : decode cX9_watchNow 10 = .ok (.aload_n 0, 1) := by decide +kernel
theorem dX9_watchNow_11 : decode cX9_watchNow 11 = .ok (.iload_n 2, 1) := by decide +kernel
theorem dX9_watchNow_12 : decode cX9_watchNow 12 = .ok (.invokevirtual 236, 3) := by decide +kernel
theorem dX9_watchNow_15 : decode cX9_watchNow 15 = .ok (.aload_n 0, 1) := by decide +kernel
theorem dX9_watchNow_16 : decode cX9_watchNow 16 = .ok (.iload_n 1, 1) := by decide +kernel
theorem dX9_watchNow_17 : decode cX9_watchNow 17 = .ok (.invokevirtual 236, 3) := by decide +kernel
theorem dX9_watchNow_20 : decode cX9_watchNow 20 = .ok (.if_icmp .le 7, 3) := by decide +kernel
theorem dX9_watchNow_23 : decode cX9_watchNow 23 = .ok (.iload_n 2, 1) := by decide +kernel
theorem dX9_watchNow_24 : decode cX9_watchNow 24 = .ok (.goto 4, 3) := by decide +kernel
theorem dX9_watchNow_27 : decode cX9_watchNow 27 = .ok (.iload_n 1, 1) := by decide +kernel
theorem dX9_watchNow_28 : decode cX9_watchNow 28 = .ok (.istore_n 1, 1) := by decide +kernel
theorem dX9_watchNow_29 : decode cX9_watchNow 29 = .ok (.iinc 2 1, 3) := by decide +kernel
theorem dX9_watchNow_32 : decode cX9_watchNow 32 = .ok (.goto (-28), 3) := by decide +kernel
theorem dX9_watchNow_35 : decode cX9_watchNow 35 = .ok (.iload_n 1, 1) := by decide +kernel
theorem dX9_watchNow_36 : decode cX9_watchNow 36 = .ok (.ireturn, 1) := by decide +kernel
theorem dX9_watch_0 : decode cX9_watch 0 = .ok (.aload_n 0, 1) := by decide +kernel
theorem dX9_watch_1 : decode cX9_watch 1 = .ok (.invokevirtual 239, 3) := by decide +kernel
theorem dX9_watch_4 : decode cX9_watch 4 = .ok (.ireturn, 1) := by decide +kernel
theorem dX9_fact_0 : decode cX9_fact 0 = .ok (.iload_n 1, 1) := by decide +kernel
theorem dX9_fact_1 : decode cX9_fact 1 = .ok (.invokestatic 108, 3) := by decide +kernel
theorem dX9_fact_4 : decode cX9_fact 4 = .ok (.ifCond .eq 22, 3) := by decide +kernel
theorem dX9_fact_7 : decode cX9_fact 7 = .ok (.iload_n 2, 1) := by decide +kernel
theorem dX9_fact_8 : decode cX9_fact 8 = .ok (.i2l, 1) := by decide +kernel
theorem dX9_fact_9 : decode cX9_fact 9 = .ok (.lconst 0, 1) := by decide +kernel
theorem dX9_fact_10 : decode cX9_fact 10 = .ok (.ldc2_w 121, 3) := by decide +kernel
theorem dX9_fact_13 : decode cX9_fact 13 = .ok (.invokestatic 49, 3) := by decide +kernel
theorem dX9_fact_16 : decode cX9_fact 16 = .ok (.ifCond .eq 10, 3) := by decide +kernel
theorem dX9_fact_19 : decode cX9_fact 19 = .ok (.iload_n 3, 1) := by decide +kernel
theorem dX9_fact_20 : decode cX9_fact 20 = .ok (.invokestatic 142, 3) := by decide +kernel
theorem dX9_fact_23 : decode cX9_fact 23 = .ok (.ifCond .ne 6, 3) := by decide +kernel
theorem dX9_fact_26 : decode cX9_fact 26 = .ok (.bipush (-2), 2) := by decide +kernel
theorem dX9_fact_28 : decode cX9_fact 28 = .ok (.ireturn, 1) := by decide +kernel
theorem dX9_fact_29 : decode cX9_fact 29 = .ok (.aload_n 0, 1) := by decide +kernel
theorem dX9_fact_30 : decode cX9_fact 30 = .ok (.getfield 242, 3) := by decide +kernel
theorem dX9_fact_33 : decode cX9_fact 33 = .ok (.bipush 8, 2) := by decide +kernel
theorem dX9_fact_35 : decode cX9_fact 35 = .ok (.if_icmp .ne 6, 3) := by decide +kernel
theorem dX9_fact_38 : decode cX9_fact 38 = .ok (.bipush (-4), 2) := by decide +kernel
theorem dX9_fact_40 : decode cX9_fact 40 = .ok (.ireturn, 1) := by decide +kernel
theorem dX9_fact_41 : decode cX9_fact 41 = .ok (.aload_n 0, 1) := by decide +kernel
theorem dX9_fact_42 : decode cX9_fact 42 = .ok (.getfield 44, 3) := by decide +kernel
theorem dX9_fact_45 : decode cX9_fact 45 = .ok (.iconst 3, 1) := by decide +kernel
theorem dX9_fact_46 : decode cX9_fact 46 = .ok (.aload_n 0, 1) := by decide +kernel
theorem dX9_fact_47 : decode cX9_fact 47 = .ok (.getfield 242, 3) := by decide +kernel
theorem dX9_fact_50 : decode cX9_fact 50 = .ok (.imul, 1) := by decide +kernel
theorem dX9_fact_51 : decode cX9_fact 51 = .ok (.iload_n 1, 1) := by decide +kernel
theorem dX9_fact_52 : decode cX9_fact 52 = .ok (.iastore, 1) := by decide +kernel
theorem dX9_fact_53 : decode cX9_fact 53 = .ok (.aload_n 0, 1) := by decide +kernel
theorem dX9_fact_54 : decode cX9_fact 54 = .ok (.getfield 44, 3) := by decide +kernel
theorem dX9_fact_57 : decode cX9_fact 57 = .ok (.iconst 3, 1) := by decide +kernel
theorem dX9_fact_58 : decode cX9_fact 58 = .ok (.aload_n 0, 1) := by decide +kernel
theorem dX9_fact_59 : decode cX9_fact 59 = .ok (.getfield 242, 3) := by decide +kernel
theorem dX9_fact_62 : decode cX9_fact 62 = .ok (.imul, 1) := by decide +kernel
theorem dX9_fact_63 : decode cX9_fact 63 = .ok (.iconst 1, 1) := by decide +kernel
theorem dX9_fact_64 : decode cX9_fact 64 = .ok (.iadd, 1) := by decide +kernel
theorem dX9_fact_65 : decode cX9_fact 65 = .ok (.iload_n 2, 1) := by decide +kernel
theorem dX9_fact_66 : decode cX9_fact 66 = .ok (.iastore, 1) := by decide +kernel
theorem dX9_fact_67 : decode cX9_fact 67 = .ok (.aload_n 0, 1) := by decide +kernel
theorem dX9_fact_68 : decode cX9_fact 68 = .ok (.getfield 44, 3) := by decide +kernel
theorem dX9_fact_71 : decode cX9_fact 71 = .ok (.iconst 3, 1) := by decide +kernel
theorem dX9_fact_72 : decode cX9_fact 72 = .ok (.aload_n 0, 1) := by decide +kernel
theorem dX9_fact_73 : decode cX9_fact 73 = .ok (.getfield 242, 3) := by decide +kernel
theorem dX9_fact_76 : decode cX9_fact 76 = .ok (.imul, 1) := by decide +kernel
theorem dX9_fact_77 : decode cX9_fact 77 = .ok (.iconst 2, 1) := by decide +kernel
theorem dX9_fact_78 : decode cX9_fact 78 = .ok (.iadd, 1) := by decide +kernel
theorem dX9_fact_79 : decode cX9_fact 79 = .ok (.iload_n 3, 1) := by decide +kernel
theorem dX9_fact_80 : decode cX9_fact 80 = .ok (.iastore, 1) := by decide +kernel
theorem dX9_fact_81 : decode cX9_fact 81 = .ok (.aload_n 0, 1) := by decide +kernel
theorem dX9_fact_82 : decode cX9_fact 82 = .ok (.dup, 1) := by decide +kernel
theorem dX9_fact_83 : decode cX9_fact 83 = .ok (.getfield 242, 3) := by decide +kernel
theorem dX9_fact_86 : decode cX9_fact 86 = .ok (.iconst 1, 1) := by decide +kernel
theorem dX9_fact_87 : decode cX9_fact 87 = .ok (.iadd, 1) := by decide +kernel
theorem dX9_fact_88 : decode cX9_fact 88 = .ok (.putfield 242, 3) := by decide +kernel
theorem dX9_fact_91 : decode cX9_fact 91 = .ok (.aload_n 0, 1) := by decide +kernel
theorem dX9_fact_92 : decode cX9_fact 92 = .ok (.getfield 242, 3) := by decide +kernel
theorem dX9_fact_95 : decode cX9_fact 95 = .ok (.ireturn, 1) := by decide +kernel
theorem dX9_forget_0 : decode cX9_forget 0 = .ok (.aload_n 0, 1) := by decide +kernel
theorem dX9_forget_1 : decode cX9_forget 1 = .ok (.getfield 242, 3) := by decide +kernel
theorem dX9_forget_4 : decode cX9_forget 4 = .ok (.istore_n 1, 1) := by decide +kernel
theorem dX9_forget_5 : decode cX9_forget 5 = .ok (.aload_n 0, 1) := by decide +kernel
theorem dX9_forget_6 : decode cX9_forget 6 = .ok (.iconst 0, 1) := by decide +kernel
theorem dX9_forget_7 : decode cX9_forget 7 = .ok (.putfield 242, 3) := by decide +kernel
theorem dX9_forget_10 : decode cX9_forget 10 = .ok (.iload_n 1, 1) := by decide +kernel
theorem dX9_forget_11 : decode cX9_forget 11 = .ok (.ireturn, 1) := by decide +kernel
theorem dX9_fitNow_0 : decode cX9_fitNow 0 = .ok (.iconst 0, 1) := by decide +kernel
theorem dX9_fitNow_1 : decode cX9_fitNow 1 = .ok (.istore_n 1, 1) := by decide +kernel
theorem dX9_fitNow_2 : decode cX9_fitNow 2 = .ok (.iconst 0, 1) := by decide +kernel
theorem dX9_fitNow_3 : decode cX9_fitNow 3 = .ok (.istore_n 2, 1) := by decide +kernel
theorem dX9_fitNow_4 : decode cX9_fitNow 4 = .ok (.iload_n 2, 1) := by decide +kernel
theorem dX9_fitNow_5 : decode cX9_fitNow 5 = .ok (.iconst 3, 1) := by decide +kernel
theorem dX9_fitNow_6 : decode cX9_fitNow 6 = .ok (.if_icmp .ge 114, 3) := by decide +kernel
theorem dX9_fitNow_9 : decode cX9_fitNow 9 = .ok (.iconst 1, 1) := by decide +kernel
theorem dX9_fitNow_10 : decode cX9_fitNow 10 = .ok (.istore_n 3, 1) := by decide +kernel
theorem dX9_fitNow_11 : decode cX9_fitNow 11 = .ok (.iconst 0, 1) := by decide +kernel
theorem dX9_fitNow_12 : decode cX9_fitNow 12 = .ok (.istore 4, 2) := by decide +kernel
theorem dX9_fitNow_14 : decode cX9_fitNow 14 = .ok (.iload 4, 2) := by decide +kernel
theorem dX9_fitNow_16 : decode cX9_fitNow 16 = .ok (.aload_n 0, 1) := by decide +kernel
theorem dX9_fitNow_17 : decode cX9_fitNow 17 = .ok (.getfield 242, 3) := by decide +kernel
theorem dX9_fitNow_20 : decode cX9_fitNow 20 = .ok (.if_icmp .ge 80, 3) := by decide +kernel
theorem dX9_fitNow_23 : decode cX9_fitNow 23 = .ok (.aload_n 0, 1) := by decide +kernel
theorem dX9_fitNow_24 : decode cX9_fitNow 24 = .ok (.getfield 44, 3) := by decide +kernel
theorem dX9_fitNow_27 : decode cX9_fitNow 27 = .ok (.iconst 3, 1) := by decide +kernel
theorem dX9_fitNow_28 : decode cX9_fitNow 28 = .ok (.iload 4, 2) := by decide +kernel
theorem dX9_fitNow_30 : decode cX9_fitNow 30 = .ok (.imul, 1) := by decide +kernel
theorem dX9_fitNow_31 : decode cX9_fitNow 31 = .ok (.iconst 1, 1) := by decide +kernel
theorem dX9_fitNow_32 : decode cX9_fitNow 32 = .ok (.iadd, 1) := by decide +kernel
theorem dX9_fitNow_33 : decode cX9_fitNow 33 = .ok (.iaload, 1) := by decide +kernel
theorem dX9_fitNow_34 : decode cX9_fitNow 34 = .ok (.istore 5, 2) := by decide +kernel
theorem dX9_fitNow_36 : decode cX9_fitNow 36 = .ok (.iload_n 3, 1) := by decide +kernel
theorem dX9_fitNow_37 : decode cX9_fitNow 37 = .ok (.ifCond .eq 55, 3) := by decide +kernel
theorem dX9_fitNow_40 : decode cX9_fitNow 40 = .ok (.iload 5, 2) := by decide +kernel
theorem dX9_fitNow_42 : decode cX9_fitNow 42 = .ok (.aload_n 0, 1) := by decide +kernel
theorem dX9_fitNow_43 : decode cX9_fitNow 43 = .ok (.invokevirtual 95, 3) := by decide +kernel
theorem dX9_fitNow_46 : decode cX9_fitNow 46 = .ok (.if_icmp .ge 42, 3) := by decide +kernel
theorem dX9_fitNow_49 : decode cX9_fitNow 49 = .ok (.aload_n 0, 1) := by decide +kernel
theorem dX9_fitNow_50 : decode cX9_fitNow 50 = .ok (.iload_n 2, 1) := by decide +kernel
theorem dX9_fitNow_51 : decode cX9_fitNow 51 = .ok (.aload_n 0, 1) := by decide +kernel
theorem dX9_fitNow_52 : decode cX9_fitNow 52 = .ok (.getfield 44, 3) := by decide +kernel
theorem dX9_fitNow_55 : decode cX9_fitNow 55 = .ok (.iconst 3, 1) := by decide +kernel
theorem dX9_fitNow_56 : decode cX9_fitNow 56 = .ok (.iload 4, 2) := by decide +kernel
theorem dX9_fitNow_58 : decode cX9_fitNow 58 = .ok (.imul, 1) := by decide +kernel
theorem dX9_fitNow_59 : decode cX9_fitNow 59 = .ok (.iaload, 1) := by decide +kernel
theorem dX9_fitNow_60 : decode cX9_fitNow 60 = .ok (.iload 5, 2) := by decide +kernel
theorem dX9_fitNow_62 : decode cX9_fitNow 62 = .ok (.invokevirtual 135, 3) := by decide +kernel
theorem dX9_fitNow_65 : decode cX9_fitNow 65 = .ok (.aload_n 0, 1) := by decide +kernel
theorem dX9_fitNow_66 : decode cX9_fitNow 66 = .ok (.getfield 44, 3) := by decide +kernel
theorem dX9_fitNow_69 : decode cX9_fitNow 69 = .ok (.iconst 3, 1) := by decide +kernel
theorem dX9_fitNow_70 : decode cX9_fitNow 70 = .ok (.iload 4, 2) := by decide +kernel
theorem dX9_fitNow_72 : decode cX9_fitNow 72 = .ok (.imul, 1) := by decide +kernel
theorem dX9_fitNow_73 : decode cX9_fitNow 73 = .ok (.iconst 2, 1) := by decide +kernel
theorem dX9_fitNow_74 : decode cX9_fitNow 74 = .ok (.iadd, 1) := by decide +kernel
theorem dX9_fitNow_75 : decode cX9_fitNow 75 = .ok (.iaload, 1) := by decide +kernel
theorem dX9_fitNow_76 : decode cX9_fitNow 76 = .ok (.iconst 1, 1) := by decide +kernel
theorem dX9_fitNow_77 : decode cX9_fitNow 77 = .ok (.if_icmp .ne 7, 3) := by decide +kernel
theorem dX9_fitNow_80 : decode cX9_fitNow 80 = .ok (.iconst 1, 1) := by decide +kernel
theorem dX9_fitNow_81 : decode cX9_fitNow 81 = .ok (.goto 4, 3) := by decide +kernel
theorem dX9_fitNow_84 : decode cX9_fitNow 84 = .ok (.iconst 0, 1) := by decide +kernel
theorem dX9_fitNow_85 : decode cX9_fitNow 85 = .ok (.if_icmp .ne 7, 3) := by decide +kernel
theorem dX9_fitNow_88 : decode cX9_fitNow 88 = .ok (.iconst 1, 1) := by decide +kernel
theorem dX9_fitNow_89 : decode cX9_fitNow 89 = .ok (.goto 4, 3) := by decide +kernel
theorem dX9_fitNow_92 : decode cX9_fitNow 92 = .ok (.iconst 0, 1) := by decide +kernel
theorem dX9_fitNow_93 : decode cX9_fitNow 93 = .ok (.istore_n 3, 1) := by decide +kernel
theorem dX9_fitNow_94 : decode cX9_fitNow 94 = .ok (.iinc 4 1, 3) := by decide +kernel
theorem dX9_fitNow_97 : decode cX9_fitNow 97 = .ok (.goto (-83), 3) := by decide +kernel
theorem dX9_fitNow_100 : decode cX9_fitNow 100 = .ok (.iload_n 1, 1) := by decide +kernel
theorem dX9_fitNow_101 : decode cX9_fitNow 101 = .ok (.iload_n 3, 1) := by decide +kernel
theorem dX9_fitNow_102 : decode cX9_fitNow 102 = .ok (.ifCond .eq 9, 3) := by decide +kernel
theorem dX9_fitNow_105 : decode cX9_fitNow 105 = .ok (.iconst 1, 1) := by decide +kernel
theorem dX9_fitNow_106 : decode cX9_fitNow 106 = .ok (.iload_n 2, 1) := by decide +kernel
theorem dX9_fitNow_107 : decode cX9_fitNow 107 = .ok (.ishl, 1) := by decide +kernel
theorem dX9_fitNow_108 : decode cX9_fitNow 108 = .ok (.goto 4, 3) := by decide +kernel
theorem dX9_fitNow_111 : decode cX9_fitNow 111 = .ok (.iconst 0, 1) := by decide +kernel
theorem dX9_fitNow_112 : decode cX9_fitNow 112 = .ok (.ior, 1) := by decide +kernel
theorem dX9_fitNow_113 : decode cX9_fitNow 113 = .ok (.istore_n 1, 1) := by decide +kernel
theorem dX9_fitNow_114 : decode cX9_fitNow 114 = .ok (.iinc 2 1, 3) := by decide +kernel
theorem dX9_fitNow_117 : decode cX9_fitNow 117 = .ok (.goto (-113), 3) := by decide +kernel
theorem dX9_fitNow_120 : decode cX9_fitNow 120 = .ok (.iload_n 1, 1) := by decide +kernel
theorem dX9_fitNow_121 : decode cX9_fitNow 121 = .ok (.ireturn, 1) := by decide +kernel
theorem dX9_fit_0 : decode cX9_fit 0 = .ok (.aload_n 0, 1) := by decide +kernel
theorem dX9_fit_1 : decode cX9_fit 1 = .ok (.invokevirtual 245, 3) := by decide +kernel
theorem dX9_fit_4 : decode cX9_fit 4 = .ok (.ireturn, 1) := by decide +kernel
theorem dX9_write_0 : decode cX9_write 0 = .ok (.iload_n 1, 1) := by decide +kernel
theorem dX9_write_1 : decode cX9_write 1 = .ok (.invokestatic 105, 3) := by decide +kernel
theorem dX9_write_4 : decode cX9_write 4 = .ok (.ifCond .eq 10, 3) := by decide +kernel
theorem dX9_write_7 : decode cX9_write 7 = .ok (.iload_n 2, 1) := by decide +kernel
theorem dX9_write_8 : decode cX9_write 8 = .ok (.invokestatic 59, 3) := by decide +kernel
theorem dX9_write_11 : decode cX9_write 11 = .ok (.ifCond .ne 6, 3) := by decide +kernel
theorem dX9_write_14 : decode cX9_write 14 = .ok (.bipush (-2), 2) := by decide +kernel
theorem dX9_write_16 : decode cX9_write 16 = .ok (.ireturn, 1) := by decide +kernel
theorem dX9_write_17 : decode cX9_write 17 = .ok (.aload_n 0, 1) := by decide +kernel
theorem dX9_write_18 : decode cX9_write 18 = .ok (.getfield 7, 3) := by decide +kernel
theorem dX9_write_21 : decode cX9_write 21 = .ok (.iload_n 2, 1) := by decide +kernel
theorem dX9_write_22 : decode cX9_write 22 = .ok (.iaload, 1) := by decide +kernel
theorem dX9_write_23 : decode cX9_write 23 = .ok (.ifCond .ge 9, 3) := by decide +kernel
theorem dX9_write_26 : decode cX9_write 26 = .ok (.aload_n 0, 1) := by decide +kernel
theorem dX9_write_27 : decode cX9_write 27 = .ok (.iconst 1, 1) := by decide +kernel
theorem dX9_write_28 : decode cX9_write 28 = .ok (.invokevirtual 65, 3) := by decide +kernel
theorem dX9_write_31 : decode cX9_write 31 = .ok (.ireturn, 1) := by decide +kernel
theorem dX9_write_32 : decode cX9_write 32 = .ok (.aload_n 0, 1) := by decide +kernel
theorem dX9_write_33 : decode cX9_write 33 = .ok (.getfield 13, 3) := by decide +kernel
theorem dX9_write_36 : decode cX9_write 36 = .ok (.iload_n 2, 1) := by decide +kernel
theorem dX9_write_37 : decode cX9_write 37 = .ok (.iaload, 1) := by decide +kernel
theorem dX9_write_38 : decode cX9_write 38 = .ok (.aload_n 0, 1) := by decide +kernel
theorem dX9_write_39 : decode cX9_write 39 = .ok (.invokevirtual 95, 3) := by decide +kernel
theorem dX9_write_42 : decode cX9_write 42 = .ok (.invokestatic 148, 3) := by decide +kernel
theorem dX9_write_45 : decode cX9_write 45 = .ok (.istore_n 3, 1) := by decide +kernel
theorem dX9_write_46 : decode cX9_write 46 = .ok (.iconst 0, 1) := by decide +kernel
theorem dX9_write_47 : decode cX9_write 47 = .ok (.istore 4, 2) := by decide +kernel
theorem dX9_write_49 : decode cX9_write 49 = .ok (.iload 4, 2) := by decide +kernel
theorem dX9_write_51 : decode cX9_write 51 = .ok (.iload_n 3, 1) := by decide +kernel
theorem dX9_write_52 : decode cX9_write 52 = .ok (.if_icmp .ge 37, 3) := by decide +kernel
theorem dX9_write_55 : decode cX9_write 55 = .ok (.aload_n 0, 1) := by decide +kernel
theorem dX9_write_56 : decode cX9_write 56 = .ok (.getfield 16, 3) := by decide +kernel
theorem dX9_write_59 : decode cX9_write 59 = .ok (.bipush 60, 2) := by decide +kernel
theorem dX9_write_61 : decode cX9_write 61 = .ok (.iload_n 2, 1) := by decide +kernel
theorem dX9_write_62 : decode cX9_write 62 = .ok (.imul, 1) := by decide +kernel
theorem dX9_write_63 : decode cX9_write 63 = .ok (.iload 4, 2) := by decide +kernel
theorem dX9_write_65 : decode cX9_write 65 = .ok (.iadd, 1) := by decide +kernel
theorem dX9_write_66 : decode cX9_write 66 = .ok (.aload_n 0, 1) := by decide +kernel
theorem dX9_write_67 : decode cX9_write 67 = .ok (.getfield 7, 3) := by decide +kernel
theorem dX9_write_70 : decode cX9_write 70 = .ok (.iload_n 2, 1) := by decide +kernel
theorem dX9_write_71 : decode cX9_write 71 = .ok (.iaload, 1) := by decide +kernel
theorem dX9_write_72 : decode cX9_write 72 = .ok (.aload_n 0, 1) := by decide +kernel
theorem dX9_write_73 : decode cX9_write 73 = .ok (.iload_n 1, 1) := by decide +kernel
theorem dX9_write_74 : decode cX9_write 74 = .ok (.iload 4, 2) := by decide +kernel
theorem dX9_write_76 : decode cX9_write 76 = .ok (.invokevirtual 159, 3) := by decide +kernel
theorem dX9_write_79 : decode cX9_write 79 = .ok (.invokestatic 73, 3) := by decide +kernel
theorem dX9_write_82 : decode cX9_write 82 = .ok (.iastore, 1) := by decide +kernel
theorem dX9_write_83 : decode cX9_write 83 = .ok (.iinc 4 1, 3) := by decide +kernel
theorem dX9_write_86 : decode cX9_write 86 = .ok (.goto (-37), 3) := by decide +kernel
theorem dX9_write_89 : decode cX9_write 89 = .ok (.iload_n 3, 1) := by decide +kernel
theorem dX9_write_90 : decode cX9_write 90 = .ok (.ireturn, 1) := by decide +kernel
theorem dX9_count_0 : decode cX9_count 0 = .ok (.iconst 0, 1) := by decide +kernel
theorem dX9_count_1 : decode cX9_count 1 = .ok (.istore_n 2, 1) := by decide +kernel
theorem dX9_count_2 : decode cX9_count 2 = .ok (.iload_n 1, 1) := by decide +kernel
theorem dX9_count_3 : decode cX9_count 3 = .ok (.tableswitch 112 0 8 #[49, 54, 54, 54, 62, 67, 94, 99, 107], 49) := by decide +kernel
theorem dX9_count_52 : decode cX9_count 52 = .ok (.aload_n 0, 1) := by decide +kernel
theorem dX9_count_53 : decode cX9_count 53 = .ok (.invokevirtual 95, 3) := by decide +kernel
theorem dX9_count_56 : decode cX9_count 56 = .ok (.ireturn, 1) := by decide +kernel
theorem dX9_count_57 : decode cX9_count 57 = .ok (.aload_n 0, 1) := by decide +kernel
theorem dX9_count_58 : decode cX9_count 58 = .ok (.iload_n 1, 1) := by decide +kernel
theorem dX9_count_59 : decode cX9_count 59 = .ok (.iconst 1, 1) := by decide +kernel
theorem dX9_count_60 : decode cX9_count 60 = .ok (.isub, 1) := by decide +kernel
theorem dX9_count_61 : decode cX9_count 61 = .ok (.invokevirtual 92, 3) := by decide +kernel
theorem dX9_count_64 : decode cX9_count 64 = .ok (.ireturn, 1) := by decide +kernel
theorem dX9_count_65 : decode cX9_count 65 = .ok (.aload_n 0, 1) := by decide +kernel
theorem dX9_count_66 : decode cX9_count 66 = .ok (.getfield 123, 3) := by decide +kernel
theorem dX9_count_69 : decode cX9_count 69 = .ok (.ireturn, 1) := by decide +kernel
theorem dX9_count_70 : decode cX9_count 70 = .ok (.iconst 0, 1) := by decide +kernel
theorem dX9_count_71 : decode cX9_count 71 = .ok (.istore_n 3, 1) := by decide +kernel
theorem dX9_count_72 : decode cX9_count 72 = .ok (.iload_n 3, 1) := by decide +kernel
theorem dX9_count_73 : decode cX9_count 73 = .ok (.bipush 8, 2) := by decide +kernel
theorem dX9_count_75 : decode cX9_count 75 = .ok (.if_icmp .ge 20, 3) := by decide +kernel
theorem dX9_count_78 : decode cX9_count 78 = .ok (.iload_n 2, 1) := by decide +kernel
theorem dX9_count_79 : decode cX9_count 79 = .ok (.aload_n 0, 1) := by decide +kernel
theorem dX9_count_80 : decode cX9_count 80 = .ok (.getfield 41, 3) := by decide +kernel
theorem dX9_count_83 : decode cX9_count 83 = .ok (.iconst 4, 1) := by decide +kernel
theorem dX9_count_84 : decode cX9_count 84 = .ok (.iload_n 3, 1) := by decide +kernel
theorem dX9_count_85 : decode cX9_count 85 = .ok (.imul, 1) := by decide +kernel
theorem dX9_count_86 : decode cX9_count 86 = .ok (.iaload, 1) := by decide +kernel
theorem dX9_count_87 : decode cX9_count 87 = .ok (.iadd, 1) := by decide +kernel
theorem dX9_count_88 : decode cX9_count 88 = .ok (.istore_n 2, 1) := by decide +kernel
theorem dX9_count_89 : decode cX9_count 89 = .ok (.iinc 3 1, 3) := by decide +kernel
theorem dX9_count_92 : decode cX9_count 92 = .ok (.goto (-20), 3) := by decide +kernel
theorem dX9_count_95 : decode cX9_count 95 = .ok (.iload_n 2, 1) := by decide +kernel
theorem dX9_count_96 : decode cX9_count 96 = .ok (.ireturn, 1) := by decide +kernel
theorem dX9_count_97 : decode cX9_count 97 = .ok (.aload_n 0, 1) := by decide +kernel
theorem dX9_count_98 : decode cX9_count 98 = .ok (.getfield 242, 3) := by decide +kernel
theorem dX9_count_101 : decode cX9_count 101 = .ok (.ireturn, 1) := by decide +kernel
theorem dX9_count_102 : decode cX9_count 102 = .ok (.aload_n 0, 1) := by decide +kernel
theorem dX9_count_103 : decode cX9_count 103 = .ok (.bipush 7, 2) := by decide +kernel
theorem dX9_count_105 : decode cX9_count 105 = .ok (.invokevirtual 166, 3) := by decide +kernel
theorem dX9_count_108 : decode cX9_count 108 = .ok (.l2i, 1) := by decide +kernel
theorem dX9_count_109 : decode cX9_count 109 = .ok (.ireturn, 1) := by decide +kernel
theorem dX9_count_110 : decode cX9_count 110 = .ok (.aload_n 0, 1) := by decide +kernel
theorem dX9_count_111 : decode cX9_count 111 = .ok (.getfield 53, 3) := by decide +kernel
theorem dX9_count_114 : decode cX9_count 114 = .ok (.ireturn, 1) := by decide +kernel
theorem dX9_count_115 : decode cX9_count 115 = .ok (.bipush (-2), 2) := by decide +kernel
theorem dX9_count_117 : decode cX9_count 117 = .ok (.ireturn, 1) := by decide +kernel
theorem dX9_digest_0 : decode cX9_digest 0 = .ok (.ldc2_w 248, 3) := by decide +kernel
theorem dX9_digest_3 : decode cX9_digest 3 = .ok (.lstore_n 1, 1) := by decide +kernel
theorem dX9_digest_4 : decode cX9_digest 4 = .ok (.iconst 0, 1) := by decide +kernel
theorem dX9_digest_5 : decode cX9_digest 5 = .ok (.istore_n 3, 1) := by decide +kernel
theorem dX9_digest_6 : decode cX9_digest 6 = .ok (.iload_n 3, 1) := by decide +kernel
theorem dX9_digest_7 : decode cX9_digest 7 = .ok (.bipush 8, 2) := by decide +kernel
theorem dX9_digest_9 : decode cX9_digest 9 = .ok (.if_icmp .ge 22, 3) := by decide +kernel
theorem dX9_digest_12 : decode cX9_digest 12 = .ok (.ldc2_w 250, 3) := by decide +kernel
theorem dX9_digest_15 : decode cX9_digest 15 = .ok (.lload_n 1, 1) := by decide +kernel
theorem dX9_digest_16 : decode cX9_digest 16 = .ok (.lmul, 1) := by decide +kernel
theorem dX9_digest_17 : decode cX9_digest 17 = .ok (.aload_n 0, 1) := by decide +kernel
theorem dX9_digest_18 : decode cX9_digest 18 = .ok (.iload_n 3, 1) := by decide +kernel
theorem dX9_digest_19 : decode cX9_digest 19 = .ok (.invokevirtual 252, 3) := by decide +kernel
theorem dX9_digest_22 : decode cX9_digest 22 = .ok (.i2l, 1) := by decide +kernel
theorem dX9_digest_23 : decode cX9_digest 23 = .ok (.ladd, 1) := by decide +kernel
theorem dX9_digest_24 : decode cX9_digest 24 = .ok (.lstore_n 1, 1) := by decide +kernel
theorem dX9_digest_25 : decode cX9_digest 25 = .ok (.iinc 3 1, 3) := by decide +kernel
theorem dX9_digest_28 : decode cX9_digest 28 = .ok (.goto (-22), 3) := by decide +kernel
theorem dX9_digest_31 : decode cX9_digest 31 = .ok (.iconst 0, 1) := by decide +kernel
theorem dX9_digest_32 : decode cX9_digest 32 = .ok (.istore_n 3, 1) := by decide +kernel
theorem dX9_digest_33 : decode cX9_digest 33 = .ok (.iload_n 3, 1) := by decide +kernel
theorem dX9_digest_34 : decode cX9_digest 34 = .ok (.iconst 4, 1) := by decide +kernel
theorem dX9_digest_35 : decode cX9_digest 35 = .ok (.if_icmp .ge 22, 3) := by decide +kernel
theorem dX9_digest_38 : decode cX9_digest 38 = .ok (.ldc2_w 250, 3) := by decide +kernel
theorem dX9_digest_41 : decode cX9_digest 41 = .ok (.lload_n 1, 1) := by decide +kernel
theorem dX9_digest_42 : decode cX9_digest 42 = .ok (.lmul, 1) := by decide +kernel
theorem dX9_digest_43 : decode cX9_digest 43 = .ok (.aload_n 0, 1) := by decide +kernel
theorem dX9_digest_44 : decode cX9_digest 44 = .ok (.iload_n 3, 1) := by decide +kernel
theorem dX9_digest_45 : decode cX9_digest 45 = .ok (.invokevirtual 89, 3) := by decide +kernel
theorem dX9_digest_48 : decode cX9_digest 48 = .ok (.i2l, 1) := by decide +kernel
theorem dX9_digest_49 : decode cX9_digest 49 = .ok (.ladd, 1) := by decide +kernel
theorem dX9_digest_50 : decode cX9_digest 50 = .ok (.lstore_n 1, 1) := by decide +kernel
theorem dX9_digest_51 : decode cX9_digest 51 = .ok (.iinc 3 1, 3) := by decide +kernel
theorem dX9_digest_54 : decode cX9_digest 54 = .ok (.goto (-21), 3) := by decide +kernel
theorem dX9_digest_57 : decode cX9_digest 57 = .ok (.iconst 0, 1) := by decide +kernel
theorem dX9_digest_58 : decode cX9_digest 58 = .ok (.istore_n 3, 1) := by decide +kernel
theorem dX9_digest_59 : decode cX9_digest 59 = .ok (.iload_n 3, 1) := by decide +kernel
theorem dX9_digest_60 : decode cX9_digest 60 = .ok (.aload_n 0, 1) := by decide +kernel
theorem dX9_digest_61 : decode cX9_digest 61 = .ok (.invokevirtual 95, 3) := by decide +kernel
theorem dX9_digest_64 : decode cX9_digest 64 = .ok (.if_icmp .ge 22, 3) := by decide +kernel
theorem dX9_digest_67 : decode cX9_digest 67 = .ok (.ldc2_w 250, 3) := by decide +kernel
theorem dX9_digest_70 : decode cX9_digest 70 = .ok (.lload_n 1, 1) := by decide +kernel
theorem dX9_digest_71 : decode cX9_digest 71 = .ok (.lmul, 1) := by decide +kernel
theorem dX9_digest_72 : decode cX9_digest 72 = .ok (.aload_n 0, 1) := by decide +kernel
theorem dX9_digest_73 : decode cX9_digest 73 = .ok (.iload_n 3, 1) := by decide +kernel
theorem dX9_digest_74 : decode cX9_digest 74 = .ok (.invokevirtual 102, 3) := by decide +kernel
theorem dX9_digest_77 : decode cX9_digest 77 = .ok (.i2l, 1) := by decide +kernel
theorem dX9_digest_78 : decode cX9_digest 78 = .ok (.ladd, 1) := by decide +kernel
theorem dX9_digest_79 : decode cX9_digest 79 = .ok (.lstore_n 1, 1) := by decide +kernel
theorem dX9_digest_80 : decode cX9_digest 80 = .ok (.iinc 3 1, 3) := by decide +kernel
theorem dX9_digest_83 : decode cX9_digest 83 = .ok (.goto (-24), 3) := by decide +kernel
theorem dX9_digest_86 : decode cX9_digest 86 = .ok (.iconst 0, 1) := by decide +kernel
theorem dX9_digest_87 : decode cX9_digest 87 = .ok (.istore_n 3, 1) := by decide +kernel
theorem dX9_digest_88 : decode cX9_digest 88 = .ok (.iload_n 3, 1) := by decide +kernel
theorem dX9_digest_89 : decode cX9_digest 89 = .ok (.iconst 3, 1) := by decide +kernel
theorem dX9_digest_90 : decode cX9_digest 90 = .ok (.if_icmp .ge 212, 3) := by decide +kernel
theorem dX9_digest_93 : decode cX9_digest 93 = .ok (.ldc2_w 250, 3) := by decide +kernel
theorem dX9_digest_96 : decode cX9_digest 96 = .ok (.lload_n 1, 1) := by decide +kernel
theorem dX9_digest_97 : decode cX9_digest 97 = .ok (.lmul, 1) := by decide +kernel
theorem dX9_digest_98 : decode cX9_digest 98 = .ok (.aload_n 0, 1) := by decide +kernel
theorem dX9_digest_99 : decode cX9_digest 99 = .ok (.iload_n 3, 1) := by decide +kernel
theorem dX9_digest_100 : decode cX9_digest 100 = .ok (.invokevirtual 128, 3) := by decide +kernel
theorem dX9_digest_103 : decode cX9_digest 103 = .ok (.i2l, 1) := by decide +kernel
theorem dX9_digest_104 : decode cX9_digest 104 = .ok (.ladd, 1) := by decide +kernel
theorem dX9_digest_105 : decode cX9_digest 105 = .ok (.lstore_n 1, 1) := by decide +kernel
theorem dX9_digest_106 : decode cX9_digest 106 = .ok (.iconst 0, 1) := by decide +kernel
theorem dX9_digest_107 : decode cX9_digest 107 = .ok (.istore 4, 2) := by decide +kernel
theorem dX9_digest_109 : decode cX9_digest 109 = .ok (.iload 4, 2) := by decide +kernel
theorem dX9_digest_111 : decode cX9_digest 111 = .ok (.iconst 2, 1) := by decide +kernel
theorem dX9_digest_112 : decode cX9_digest 112 = .ok (.if_icmp .ge 25, 3) := by decide +kernel
theorem dX9_digest_115 : decode cX9_digest 115 = .ok (.ldc2_w 250, 3) := by decide +kernel
theorem dX9_digest_118 : decode cX9_digest 118 = .ok (.lload_n 1, 1) := by decide +kernel
theorem dX9_digest_119 : decode cX9_digest 119 = .ok (.lmul, 1) := by decide +kernel
theorem dX9_digest_120 : decode cX9_digest 120 = .ok (.aload_n 0, 1) := by decide +kernel
theorem dX9_digest_121 : decode cX9_digest 121 = .ok (.iload_n 3, 1) := by decide +kernel
theorem dX9_digest_122 : decode cX9_digest 122 = .ok (.iconst 5, 1) := by decide +kernel
theorem dX9_digest_123 : decode cX9_digest 123 = .ok (.iload 4, 2) := by decide +kernel
theorem dX9_digest_125 : decode cX9_digest 125 = .ok (.invokevirtual 145, 3) := by decide +kernel
theorem dX9_digest_128 : decode cX9_digest 128 = .ok (.i2l, 1) := by decide +kernel
theorem dX9_digest_129 : decode cX9_digest 129 = .ok (.ladd, 1) := by decide +kernel
theorem dX9_digest_130 : decode cX9_digest 130 = .ok (.lstore_n 1, 1) := by decide +kernel
theorem dX9_digest_131 : decode cX9_digest 131 = .ok (.iinc 4 1, 3) := by decide +kernel
theorem dX9_digest_134 : decode cX9_digest 134 = .ok (.goto (-25), 3) := by decide +kernel
theorem dX9_digest_137 : decode cX9_digest 137 = .ok (.iconst 0, 1) := by decide +kernel
theorem dX9_digest_138 : decode cX9_digest 138 = .ok (.istore 4, 2) := by decide +kernel
theorem dX9_digest_140 : decode cX9_digest 140 = .ok (.iload 4, 2) := by decide +kernel
theorem dX9_digest_142 : decode cX9_digest 142 = .ok (.iconst 3, 1) := by decide +kernel
theorem dX9_digest_143 : decode cX9_digest 143 = .ok (.if_icmp .ge 27, 3) := by decide +kernel
theorem dX9_digest_146 : decode cX9_digest 146 = .ok (.ldc2_w 250, 3) := by decide +kernel
theorem dX9_digest_149 : decode cX9_digest 149 = .ok (.lload_n 1, 1) := by decide +kernel
theorem dX9_digest_150 : decode cX9_digest 150 = .ok (.lmul, 1) := by decide +kernel
theorem dX9_digest_151 : decode cX9_digest 151 = .ok (.aload_n 0, 1) := by decide +kernel
theorem dX9_digest_152 : decode cX9_digest 152 = .ok (.iload_n 3, 1) := by decide +kernel
theorem dX9_digest_153 : decode cX9_digest 153 = .ok (.iconst 5, 1) := by decide +kernel
theorem dX9_digest_154 : decode cX9_digest 154 = .ok (.iconst 0, 1) := by decide +kernel
theorem dX9_digest_155 : decode cX9_digest 155 = .ok (.iconst 3, 1) := by decide +kernel
theorem dX9_digest_156 : decode cX9_digest 156 = .ok (.iload 4, 2) := by decide +kernel
theorem dX9_digest_158 : decode cX9_digest 158 = .ok (.invokevirtual 255, 3) := by decide +kernel
theorem dX9_digest_161 : decode cX9_digest 161 = .ok (.i2l, 1) := by decide +kernel
theorem dX9_digest_162 : decode cX9_digest 162 = .ok (.ladd, 1) := by decide +kernel
theorem dX9_digest_163 : decode cX9_digest 163 = .ok (.lstore_n 1, 1) := by decide +kernel
theorem dX9_digest_164 : decode cX9_digest 164 = .ok (.iinc 4 1, 3) := by decide +kernel
theorem dX9_digest_167 : decode cX9_digest 167 = .ok (.goto (-27), 3) := by decide +kernel
theorem dX9_digest_170 : decode cX9_digest 170 = .ok (.iconst 0, 1) := by decide +kernel
theorem dX9_digest_171 : decode cX9_digest 171 = .ok (.istore 4, 2) := by decide +kernel
theorem dX9_digest_173 : decode cX9_digest 173 = .ok (.iload 4, 2) := by decide +kernel
theorem dX9_digest_175 : decode cX9_digest 175 = .ok (.iconst 3, 1) := by decide +kernel
theorem dX9_digest_176 : decode cX9_digest 176 = .ok (.if_icmp .ge 24, 3) := by decide +kernel
theorem dX9_digest_179 : decode cX9_digest 179 = .ok (.ldc2_w 250, 3) := by decide +kernel
theorem dX9_digest_182 : decode cX9_digest 182 = .ok (.lload_n 1, 1) := by decide +kernel
theorem dX9_digest_183 : decode cX9_digest 183 = .ok (.lmul, 1) := by decide +kernel
theorem dX9_digest_184 : decode cX9_digest 184 = .ok (.aload_n 0, 1) := by decide +kernel
theorem dX9_digest_185 : decode cX9_digest 185 = .ok (.iload_n 3, 1) := by decide +kernel
theorem dX9_digest_186 : decode cX9_digest 186 = .ok (.iload 4, 2) := by decide +kernel
theorem dX9_digest_188 : decode cX9_digest 188 = .ok (.invokevirtual 162, 3) := by decide +kernel
theorem dX9_digest_191 : decode cX9_digest 191 = .ok (.i2l, 1) := by decide +kernel
theorem dX9_digest_192 : decode cX9_digest 192 = .ok (.ladd, 1) := by decide +kernel
theorem dX9_digest_193 : decode cX9_digest 193 = .ok (.lstore_n 1, 1) := by decide +kernel
theorem dX9_digest_194 : decode cX9_digest 194 = .ok (.iinc 4 1, 3) := by decide +kernel
theorem dX9_digest_197 : decode cX9_digest 197 = .ok (.goto (-24), 3) := by decide +kernel
theorem dX9_digest_200 : decode cX9_digest 200 = .ok (.iconst 0, 1) := by decide +kernel
theorem dX9_digest_201 : decode cX9_digest 201 = .ok (.istore 4, 2) := by decide +kernel
theorem dX9_digest_203 : decode cX9_digest 203 = .ok (.iload 4, 2) := by decide +kernel
theorem dX9_digest_205 : decode cX9_digest 205 = .ok (.iconst 2, 1) := by decide +kernel
theorem dX9_digest_206 : decode cX9_digest 206 = .ok (.if_icmp .ge 26, 3) := by decide +kernel
theorem dX9_digest_209 : decode cX9_digest 209 = .ok (.ldc2_w 250, 3) := by decide +kernel
theorem dX9_digest_212 : decode cX9_digest 212 = .ok (.lload_n 1, 1) := by decide +kernel
theorem dX9_digest_213 : decode cX9_digest 213 = .ok (.lmul, 1) := by decide +kernel
theorem dX9_digest_214 : decode cX9_digest 214 = .ok (.aload_n 0, 1) := by decide +kernel
theorem dX9_digest_215 : decode cX9_digest 215 = .ok (.iload_n 3, 1) := by decide +kernel
theorem dX9_digest_216 : decode cX9_digest 216 = .ok (.iconst 4, 1) := by decide +kernel
theorem dX9_digest_217 : decode cX9_digest 217 = .ok (.iconst 0, 1) := by decide +kernel
theorem dX9_digest_218 : decode cX9_digest 218 = .ok (.iconst 2, 1) := by decide +kernel
theorem dX9_digest_219 : decode cX9_digest 219 = .ok (.iload 4, 2) := by decide +kernel
theorem dX9_digest_221 : decode cX9_digest 221 = .ok (.invokevirtual 258, 3) := by decide +kernel
theorem dX9_digest_224 : decode cX9_digest 224 = .ok (.ladd, 1) := by decide +kernel
theorem dX9_digest_225 : decode cX9_digest 225 = .ok (.lstore_n 1, 1) := by decide +kernel
theorem dX9_digest_226 : decode cX9_digest 226 = .ok (.iinc 4 1, 3) := by decide +kernel
theorem dX9_digest_229 : decode cX9_digest 229 = .ok (.goto (-26), 3) := by decide +kernel
theorem dX9_digest_232 : decode cX9_digest 232 = .ok (.ldc2_w 250, 3) := by decide +kernel
theorem dX9_digest_235 : decode cX9_digest 235 = .ok (.lload_n 1, 1) := by decide +kernel
theorem dX9_digest_236 : decode cX9_digest 236 = .ok (.lmul, 1) := by decide +kernel
theorem dX9_digest_237 : decode cX9_digest 237 = .ok (.aload_n 0, 1) := by decide +kernel
theorem dX9_digest_238 : decode cX9_digest 238 = .ok (.iload_n 3, 1) := by decide +kernel
theorem dX9_digest_239 : decode cX9_digest 239 = .ok (.iconst 4, 1) := by decide +kernel
theorem dX9_digest_240 : decode cX9_digest 240 = .ok (.iconst 0, 1) := by decide +kernel
theorem dX9_digest_241 : decode cX9_digest 241 = .ok (.iconst 2, 1) := by decide +kernel
theorem dX9_digest_242 : decode cX9_digest 242 = .ok (.invokevirtual 261, 3) := by decide +kernel
theorem dX9_digest_245 : decode cX9_digest 245 = .ok (.i2l, 1) := by decide +kernel
theorem dX9_digest_246 : decode cX9_digest 246 = .ok (.ladd, 1) := by decide +kernel
theorem dX9_digest_247 : decode cX9_digest 247 = .ok (.lstore_n 1, 1) := by decide +kernel
theorem dX9_digest_248 : decode cX9_digest 248 = .ok (.iconst 0, 1) := by decide +kernel
theorem dX9_digest_249 : decode cX9_digest 249 = .ok (.istore 4, 2) := by decide +kernel
theorem dX9_digest_251 : decode cX9_digest 251 = .ok (.iload 4, 2) := by decide +kernel
theorem dX9_digest_253 : decode cX9_digest 253 = .ok (.iconst 3, 1) := by decide +kernel
theorem dX9_digest_254 : decode cX9_digest 254 = .ok (.if_icmp .ge 28, 3) := by decide +kernel
theorem dX9_digest_257 : decode cX9_digest 257 = .ok (.ldc2_w 250, 3) := by decide +kernel
theorem dX9_digest_260 : decode cX9_digest 260 = .ok (.lload_n 1, 1) := by decide +kernel
theorem dX9_digest_261 : decode cX9_digest 261 = .ok (.lmul, 1) := by decide +kernel
theorem dX9_digest_262 : decode cX9_digest 262 = .ok (.aload_n 0, 1) := by decide +kernel
theorem dX9_digest_263 : decode cX9_digest 263 = .ok (.iload_n 3, 1) := by decide +kernel
theorem dX9_digest_264 : decode cX9_digest 264 = .ok (.iconst 5, 1) := by decide +kernel
theorem dX9_digest_265 : decode cX9_digest 265 = .ok (.iconst 0, 1) := by decide +kernel
theorem dX9_digest_266 : decode cX9_digest 266 = .ok (.iconst 4, 1) := by decide +kernel
theorem dX9_digest_267 : decode cX9_digest 267 = .ok (.iconst 2, 1) := by decide +kernel
theorem dX9_digest_268 : decode cX9_digest 268 = .ok (.iload 4, 2) := by decide +kernel
theorem dX9_digest_270 : decode cX9_digest 270 = .ok (.invokevirtual 264, 3) := by decide +kernel
theorem dX9_digest_273 : decode cX9_digest 273 = .ok (.i2l, 1) := by decide +kernel
theorem dX9_digest_274 : decode cX9_digest 274 = .ok (.ladd, 1) := by decide +kernel
theorem dX9_digest_275 : decode cX9_digest 275 = .ok (.lstore_n 1, 1) := by decide +kernel
theorem dX9_digest_276 : decode cX9_digest 276 = .ok (.iinc 4 1, 3) := by decide +kernel
theorem dX9_digest_279 : decode cX9_digest 279 = .ok (.goto (-28), 3) := by decide +kernel
theorem dX9_digest_282 : decode cX9_digest 282 = .ok (.ldc2_w 250, 3) := by decide +kernel
theorem dX9_digest_285 : decode cX9_digest 285 = .ok (.lload_n 1, 1) := by decide +kernel
theorem dX9_digest_286 : decode cX9_digest 286 = .ok (.lmul, 1) := by decide +kernel
theorem dX9_digest_287 : decode cX9_digest 287 = .ok (.aload_n 0, 1) := by decide +kernel
theorem dX9_digest_288 : decode cX9_digest 288 = .ok (.iload_n 3, 1) := by decide +kernel
theorem dX9_digest_289 : decode cX9_digest 289 = .ok (.iconst 0, 1) := by decide +kernel
theorem dX9_digest_290 : decode cX9_digest 290 = .ok (.invokevirtual 267, 3) := by decide +kernel
theorem dX9_digest_293 : decode cX9_digest 293 = .ok (.i2l, 1) := by decide +kernel
theorem dX9_digest_294 : decode cX9_digest 294 = .ok (.ladd, 1) := by decide +kernel
theorem dX9_digest_295 : decode cX9_digest 295 = .ok (.lstore_n 1, 1) := by decide +kernel
theorem dX9_digest_296 : decode cX9_digest 296 = .ok (.iinc 3 1, 3) := by decide +kernel
theorem dX9_digest_299 : decode cX9_digest 299 = .ok (.goto (-211), 3) := by decide +kernel
theorem dX9_digest_302 : decode cX9_digest 302 = .ok (.iconst 0, 1) := by decide +kernel
theorem dX9_digest_303 : decode cX9_digest 303 = .ok (.istore_n 3, 1) := by decide +kernel
theorem dX9_digest_304 : decode cX9_digest 304 = .ok (.iload_n 3, 1) := by decide +kernel
theorem dX9_digest_305 : decode cX9_digest 305 = .ok (.iconst 2, 1) := by decide +kernel
theorem dX9_digest_306 : decode cX9_digest 306 = .ok (.if_icmp .ge 22, 3) := by decide +kernel
theorem dX9_digest_309 : decode cX9_digest 309 = .ok (.ldc2_w 250, 3) := by decide +kernel
theorem dX9_digest_312 : decode cX9_digest 312 = .ok (.lload_n 1, 1) := by decide +kernel
theorem dX9_digest_313 : decode cX9_digest 313 = .ok (.lmul, 1) := by decide +kernel
theorem dX9_digest_314 : decode cX9_digest 314 = .ok (.aload_n 0, 1) := by decide +kernel
theorem dX9_digest_315 : decode cX9_digest 315 = .ok (.iload_n 3, 1) := by decide +kernel
theorem dX9_digest_316 : decode cX9_digest 316 = .ok (.invokevirtual 230, 3) := by decide +kernel
theorem dX9_digest_319 : decode cX9_digest 319 = .ok (.i2l, 1) := by decide +kernel
theorem dX9_digest_320 : decode cX9_digest 320 = .ok (.ladd, 1) := by decide +kernel
theorem dX9_digest_321 : decode cX9_digest 321 = .ok (.lstore_n 1, 1) := by decide +kernel
theorem dX9_digest_322 : decode cX9_digest 322 = .ok (.iinc 3 1, 3) := by decide +kernel
theorem dX9_digest_325 : decode cX9_digest 325 = .ok (.goto (-21), 3) := by decide +kernel
theorem dX9_digest_328 : decode cX9_digest 328 = .ok (.iconst 0, 1) := by decide +kernel
theorem dX9_digest_329 : decode cX9_digest 329 = .ok (.istore_n 3, 1) := by decide +kernel
theorem dX9_digest_330 : decode cX9_digest 330 = .ok (.iload_n 3, 1) := by decide +kernel
theorem dX9_digest_331 : decode cX9_digest 331 = .ok (.iconst 2, 1) := by decide +kernel
theorem dX9_digest_332 : decode cX9_digest 332 = .ok (.if_icmp .ge 21, 3) := by decide +kernel
theorem dX9_digest_335 : decode cX9_digest 335 = .ok (.ldc2_w 250, 3) := by decide +kernel
theorem dX9_digest_338 : decode cX9_digest 338 = .ok (.lload_n 1, 1) := by decide +kernel
theorem dX9_digest_339 : decode cX9_digest 339 = .ok (.lmul, 1) := by decide +kernel
theorem dX9_digest_340 : decode cX9_digest 340 = .ok (.aload_n 0, 1) := by decide +kernel
theorem dX9_digest_341 : decode cX9_digest 341 = .ok (.iload_n 3, 1) := by decide +kernel
theorem dX9_digest_342 : decode cX9_digest 342 = .ok (.invokevirtual 233, 3) := by decide +kernel
theorem dX9_digest_345 : decode cX9_digest 345 = .ok (.ladd, 1) := by decide +kernel
theorem dX9_digest_346 : decode cX9_digest 346 = .ok (.lstore_n 1, 1) := by decide +kernel
theorem dX9_digest_347 : decode cX9_digest 347 = .ok (.iinc 3 1, 3) := by decide +kernel
theorem dX9_digest_350 : decode cX9_digest 350 = .ok (.goto (-20), 3) := by decide +kernel
theorem dX9_digest_353 : decode cX9_digest 353 = .ok (.ldc2_w 250, 3) := by decide +kernel
theorem dX9_digest_356 : decode cX9_digest 356 = .ok (.lload_n 1, 1) := by decide +kernel
theorem dX9_digest_357 : decode cX9_digest 357 = .ok (.lmul, 1) := by decide +kernel
theorem dX9_digest_358 : decode cX9_digest 358 = .ok (.aload_n 0, 1) := by decide +kernel
theorem dX9_digest_359 : decode cX9_digest 359 = .ok (.invokevirtual 239, 3) := by decide +kernel
theorem dX9_digest_362 : decode cX9_digest 362 = .ok (.i2l, 1) := by decide +kernel
theorem dX9_digest_363 : decode cX9_digest 363 = .ok (.ladd, 1) := by decide +kernel
theorem dX9_digest_364 : decode cX9_digest 364 = .ok (.lstore_n 1, 1) := by decide +kernel
theorem dX9_digest_365 : decode cX9_digest 365 = .ok (.ldc2_w 250, 3) := by decide +kernel
theorem dX9_digest_368 : decode cX9_digest 368 = .ok (.lload_n 1, 1) := by decide +kernel
theorem dX9_digest_369 : decode cX9_digest 369 = .ok (.lmul, 1) := by decide +kernel
theorem dX9_digest_370 : decode cX9_digest 370 = .ok (.aload_n 0, 1) := by decide +kernel
theorem dX9_digest_371 : decode cX9_digest 371 = .ok (.invokevirtual 245, 3) := by decide +kernel
theorem dX9_digest_374 : decode cX9_digest 374 = .ok (.i2l, 1) := by decide +kernel
theorem dX9_digest_375 : decode cX9_digest 375 = .ok (.ladd, 1) := by decide +kernel
theorem dX9_digest_376 : decode cX9_digest 376 = .ok (.lreturn, 1) := by decide +kernel
