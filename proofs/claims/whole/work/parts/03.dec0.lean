theorem dX0_init_0 : decode cX0_init 0 = .ok (.aload_n 0, 1) := by decide +kernel
theorem dX0_init_1 : decode cX0_init 1 = .ok (.invokespecial 3, 3) := by decide +kernel
theorem dX0_init_4 : decode cX0_init 4 = .ok (.aload_n 0, 1) := by decide +kernel
theorem dX0_init_5 : decode cX0_init 5 = .ok (.bipush 8, 2) := by decide +kernel
theorem dX0_init_7 : decode cX0_init 7 = .ok (.newarray .int, 2) := by decide +kernel
theorem dX0_init_9 : decode cX0_init 9 = .ok (.putfield 9, 3) := by decide +kernel
theorem dX0_init_12 : decode cX0_init 12 = .ok (.aload_n 0, 1) := by decide +kernel
theorem dX0_init_13 : decode cX0_init 13 = .ok (.bipush 8, 2) := by decide +kernel
theorem dX0_init_15 : decode cX0_init 15 = .ok (.newarray .int, 2) := by decide +kernel
theorem dX0_init_17 : decode cX0_init 17 = .ok (.putfield 15, 3) := by decide +kernel
theorem dX0_init_20 : decode cX0_init 20 = .ok (.aload_n 0, 1) := by decide +kernel
theorem dX0_init_21 : decode cX0_init 21 = .ok (.bipush 8, 2) := by decide +kernel
theorem dX0_init_23 : decode cX0_init 23 = .ok (.newarray .int, 2) := by decide +kernel
theorem dX0_init_25 : decode cX0_init 25 = .ok (.putfield 18, 3) := by decide +kernel
theorem dX0_init_28 : decode cX0_init 28 = .ok (.aload_n 0, 1) := by decide +kernel
theorem dX0_init_29 : decode cX0_init 29 = .ok (.iconst 3, 1) := by decide +kernel
theorem dX0_init_30 : decode cX0_init 30 = .ok (.sipush 256, 3) := by decide +kernel
theorem dX0_init_33 : decode cX0_init 33 = .ok (.multianewarray 21 2, 4) := by decide +kernel
theorem dX0_init_37 : decode cX0_init 37 = .ok (.putfield 23, 3) := by decide +kernel
theorem dX0_init_40 : decode cX0_init 40 = .ok (.aload_n 0, 1) := by decide +kernel
theorem dX0_init_41 : decode cX0_init 41 = .ok (.iconst 0, 1) := by decide +kernel
theorem dX0_init_42 : decode cX0_init 42 = .ok (.putfield 26, 3) := by decide +kernel
theorem dX0_init_45 : decode cX0_init 45 = .ok (.aload_n 0, 1) := by decide +kernel
theorem dX0_init_46 : decode cX0_init 46 = .ok (.iconst 0, 1) := by decide +kernel
theorem dX0_init_47 : decode cX0_init 47 = .ok (.putfield 30, 3) := by decide +kernel
theorem dX0_init_50 : decode cX0_init 50 = .ok (.aload_n 0, 1) := by decide +kernel
theorem dX0_init_51 : decode cX0_init 51 = .ok (.iconst 0, 1) := by decide +kernel
theorem dX0_init_52 : decode cX0_init 52 = .ok (.putfield 33, 3) := by decide +kernel
theorem dX0_init_55 : decode cX0_init 55 = .ok (.aload_n 0, 1) := by decide +kernel
theorem dX0_init_56 : decode cX0_init 56 = .ok (.iconst 0, 1) := by decide +kernel
theorem dX0_init_57 : decode cX0_init 57 = .ok (.putfield 36, 3) := by decide +kernel
theorem dX0_init_60 : decode cX0_init 60 = .ok (.aload_n 0, 1) := by decide +kernel
theorem dX0_init_61 : decode cX0_init 61 = .ok (.aload_n 1, 1) := by decide +kernel
theorem dX0_init_62 : decode cX0_init 62 = .ok (.putfield 39, 3) := by decide +kernel
theorem dX0_init_65 : decode cX0_init 65 = .ok (.aload_n 0, 1) := by decide +kernel
theorem dX0_init_66 : decode cX0_init 66 = .ok (.aload_n 2, 1) := by decide +kernel
theorem dX0_init_67 : decode cX0_init 67 = .ok (.putfield 43, 3) := by decide +kernel
theorem dX0_init_70 : decode cX0_init 70 = .ok (.return_, 1) := by decide +kernel
theorem dX0_sign_0 : decode cX0_sign 0 = .ok (.iload_n 1, 1) := by decide +kernel
theorem dX0_sign_1 : decode cX0_sign 1 = .ok (.bipush 8, 2) := by decide +kernel
theorem dX0_sign_3 : decode cX0_sign 3 = .ok (.invokestatic 46, 3) := by decide +kernel
theorem dX0_sign_6 : decode cX0_sign 6 = .ok (.ifCond .eq 37, 3) := by decide +kernel
theorem dX0_sign_9 : decode cX0_sign 9 = .ok (.aload_n 0, 1) := by decide +kernel
theorem dX0_sign_10 : decode cX0_sign 10 = .ok (.getfield 9, 3) := by decide +kernel
theorem dX0_sign_13 : decode cX0_sign 13 = .ok (.iload_n 1, 1) := by decide +kernel
theorem dX0_sign_14 : decode cX0_sign 14 = .ok (.iload_n 2, 1) := by decide +kernel
theorem dX0_sign_15 : decode cX0_sign 15 = .ok (.iastore, 1) := by decide +kernel
theorem dX0_sign_16 : decode cX0_sign 16 = .ok (.aload_n 0, 1) := by decide +kernel
theorem dX0_sign_17 : decode cX0_sign 17 = .ok (.getfield 15, 3) := by decide +kernel
theorem dX0_sign_20 : decode cX0_sign 20 = .ok (.iload_n 1, 1) := by decide +kernel
theorem dX0_sign_21 : decode cX0_sign 21 = .ok (.iload_n 3, 1) := by decide +kernel
theorem dX0_sign_22 : decode cX0_sign 22 = .ok (.iastore, 1) := by decide +kernel
theorem dX0_sign_23 : decode cX0_sign 23 = .ok (.aload_n 0, 1) := by decide +kernel
theorem dX0_sign_24 : decode cX0_sign 24 = .ok (.getfield 18, 3) := by decide +kernel
theorem dX0_sign_27 : decode cX0_sign 27 = .ok (.iload_n 1, 1) := by decide +kernel
theorem dX0_sign_28 : decode cX0_sign 28 = .ok (.iload 4, 2) := by decide +kernel
theorem dX0_sign_30 : decode cX0_sign 30 = .ok (.iastore, 1) := by decide +kernel
theorem dX0_sign_31 : decode cX0_sign 31 = .ok (.aload_n 0, 1) := by decide +kernel
theorem dX0_sign_32 : decode cX0_sign 32 = .ok (.dup, 1) := by decide +kernel
theorem dX0_sign_33 : decode cX0_sign 33 = .ok (.getfield 26, 3) := by decide +kernel
theorem dX0_sign_36 : decode cX0_sign 36 = .ok (.iconst 1, 1) := by decide +kernel
theorem dX0_sign_37 : decode cX0_sign 37 = .ok (.iload_n 1, 1) := by decide +kernel
theorem dX0_sign_38 : decode cX0_sign 38 = .ok (.ishl, 1) := by decide +kernel
theorem dX0_sign_39 : decode cX0_sign 39 = .ok (.ior, 1) := by decide +kernel
theorem dX0_sign_40 : decode cX0_sign 40 = .ok (.putfield 26, 3) := by decide +kernel
theorem dX0_sign_43 : decode cX0_sign 43 = .ok (.return_, 1) := by decide +kernel
theorem dX0_isSigned_0 : decode cX0_isSigned 0 = .ok (.aload_n 0, 1) := by decide +kernel
theorem dX0_isSigned_1 : decode cX0_isSigned 1 = .ok (.getfield 26, 3) := by decide +kernel
theorem dX0_isSigned_4 : decode cX0_isSigned 4 = .ok (.iload_n 1, 1) := by decide +kernel
theorem dX0_isSigned_5 : decode cX0_isSigned 5 = .ok (.ishr, 1) := by decide +kernel
theorem dX0_isSigned_6 : decode cX0_isSigned 6 = .ok (.iconst 1, 1) := by decide +kernel
theorem dX0_isSigned_7 : decode cX0_isSigned 7 = .ok (.iand, 1) := by decide +kernel
theorem dX0_isSigned_8 : decode cX0_isSigned 8 = .ok (.iconst 1, 1) := by decide +kernel
theorem dX0_isSigned_9 : decode cX0_isSigned 9 = .ok (.if_icmp .ne 7, 3) := by decide +kernel
theorem dX0_isSigned_12 : decode cX0_isSigned 12 = .ok (.iconst 1, 1) := by decide +kernel
theorem dX0_isSigned_13 : decode cX0_isSigned 13 = .ok (.goto 4, 3) := by decide +kernel
theorem dX0_isSigned_16 : decode cX0_isSigned 16 = .ok (.iconst 0, 1) := by decide +kernel
theorem dX0_isSigned_17 : decode cX0_isSigned 17 = .ok (.ireturn, 1) := by decide +kernel
theorem dX0_tearUp_0 : decode cX0_tearUp 0 = .ok (.aload_n 0, 1) := by decide +kernel
theorem dX0_tearUp_1 : decode cX0_tearUp 1 = .ok (.dup, 1) := by decide +kernel
theorem dX0_tearUp_2 : decode cX0_tearUp 2 = .ok (.getfield 26, 3) := by decide +kernel
theorem dX0_tearUp_5 : decode cX0_tearUp 5 = .ok (.iconst 1, 1) := by decide +kernel
theorem dX0_tearUp_6 : decode cX0_tearUp 6 = .ok (.iload_n 1, 1) := by decide +kernel
theorem dX0_tearUp_7 : decode cX0_tearUp 7 = .ok (.ishl, 1) := by decide +kernel
theorem dX0_tearUp_8 : decode cX0_tearUp 8 = .ok (.iconst (-1), 1) := by decide +kernel
theorem dX0_tearUp_9 : decode cX0_tearUp 9 = .ok (.ixor, 1) := by decide +kernel
theorem dX0_tearUp_10 : decode cX0_tearUp 10 = .ok (.iand, 1) := by decide +kernel
theorem dX0_tearUp_11 : decode cX0_tearUp 11 = .ok (.putfield 26, 3) := by decide +kernel
theorem dX0_tearUp_14 : decode cX0_tearUp 14 = .ok (.return_, 1) := by decide +kernel
theorem dX0_reckon_0 : decode cX0_reckon 0 = .ok (.iconst 0, 1) := by decide +kernel
theorem dX0_reckon_1 : decode cX0_reckon 1 = .ok (.istore_n 1, 1) := by decide +kernel
theorem dX0_reckon_2 : decode cX0_reckon 2 = .ok (.iload_n 1, 1) := by decide +kernel
theorem dX0_reckon_3 : decode cX0_reckon 3 = .ok (.iconst 3, 1) := by decide +kernel
theorem dX0_reckon_4 : decode cX0_reckon 4 = .ok (.if_icmp .ge 14, 3) := by decide +kernel
theorem dX0_reckon_7 : decode cX0_reckon 7 = .ok (.aload_n 0, 1) := by decide +kernel
theorem dX0_reckon_8 : decode cX0_reckon 8 = .ok (.iload_n 1, 1) := by decide +kernel
theorem dX0_reckon_9 : decode cX0_reckon 9 = .ok (.invokevirtual 50, 3) := by decide +kernel
theorem dX0_reckon_12 : decode cX0_reckon 12 = .ok (.iinc 1 1, 3) := by decide +kernel
theorem dX0_reckon_15 : decode cX0_reckon 15 = .ok (.goto (-13), 3) := by decide +kernel
theorem dX0_reckon_18 : decode cX0_reckon 18 = .ok (.aload_n 0, 1) := by decide +kernel
theorem dX0_reckon_19 : decode cX0_reckon 19 = .ok (.iconst 0, 1) := by decide +kernel
theorem dX0_reckon_20 : decode cX0_reckon 20 = .ok (.putfield 30, 3) := by decide +kernel
theorem dX0_reckon_23 : decode cX0_reckon 23 = .ok (.aload_n 0, 1) := by decide +kernel
theorem dX0_reckon_24 : decode cX0_reckon 24 = .ok (.iconst 0, 1) := by decide +kernel
theorem dX0_reckon_25 : decode cX0_reckon 25 = .ok (.putfield 33, 3) := by decide +kernel
theorem dX0_reckon_28 : decode cX0_reckon 28 = .ok (.aload_n 0, 1) := by decide +kernel
theorem dX0_reckon_29 : decode cX0_reckon 29 = .ok (.iconst 0, 1) := by decide +kernel
theorem dX0_reckon_30 : decode cX0_reckon 30 = .ok (.putfield 36, 3) := by decide +kernel
theorem dX0_reckon_33 : decode cX0_reckon 33 = .ok (.iconst 0, 1) := by decide +kernel
theorem dX0_reckon_34 : decode cX0_reckon 34 = .ok (.istore_n 1, 1) := by decide +kernel
theorem dX0_reckon_35 : decode cX0_reckon 35 = .ok (.iload_n 1, 1) := by decide +kernel
theorem dX0_reckon_36 : decode cX0_reckon 36 = .ok (.sipush 256, 3) := by decide +kernel
theorem dX0_reckon_39 : decode cX0_reckon 39 = .ok (.if_icmp .ge 62, 3) := by decide +kernel
theorem dX0_reckon_42 : decode cX0_reckon 42 = .ok (.iload_n 1, 1) := by decide +kernel
theorem dX0_reckon_43 : decode cX0_reckon 43 = .ok (.aload_n 0, 1) := by decide +kernel
theorem dX0_reckon_44 : decode cX0_reckon 44 = .ok (.getfield 26, 3) := by decide +kernel
theorem dX0_reckon_47 : decode cX0_reckon 47 = .ok (.iconst (-1), 1) := by decide +kernel
theorem dX0_reckon_48 : decode cX0_reckon 48 = .ok (.ixor, 1) := by decide +kernel
theorem dX0_reckon_49 : decode cX0_reckon 49 = .ok (.iand, 1) := by decide +kernel
theorem dX0_reckon_50 : decode cX0_reckon 50 = .ok (.ifCond .ne 45, 3) := by decide +kernel
theorem dX0_reckon_53 : decode cX0_reckon 53 = .ok (.aload_n 0, 1) := by decide +kernel
theorem dX0_reckon_54 : decode cX0_reckon 54 = .ok (.iload_n 1, 1) := by decide +kernel
theorem dX0_reckon_55 : decode cX0_reckon 55 = .ok (.invokevirtual 54, 3) := by decide +kernel
theorem dX0_reckon_58 : decode cX0_reckon 58 = .ok (.ifCond .eq 37, 3) := by decide +kernel
theorem dX0_reckon_61 : decode cX0_reckon 61 = .ok (.aload_n 0, 1) := by decide +kernel
theorem dX0_reckon_62 : decode cX0_reckon 62 = .ok (.dup, 1) := by decide +kernel
theorem dX0_reckon_63 : decode cX0_reckon 63 = .ok (.getfield 30, 3) := by decide +kernel
theorem dX0_reckon_66 : decode cX0_reckon 66 = .ok (.iconst 1, 1) := by decide +kernel
theorem dX0_reckon_67 : decode cX0_reckon 67 = .ok (.iadd, 1) := by decide +kernel
theorem dX0_reckon_68 : decode cX0_reckon 68 = .ok (.putfield 30, 3) := by decide +kernel
theorem dX0_reckon_71 : decode cX0_reckon 71 = .ok (.aload_n 0, 1) := by decide +kernel
theorem dX0_reckon_72 : decode cX0_reckon 72 = .ok (.iload_n 1, 1) := by decide +kernel
theorem dX0_reckon_73 : decode cX0_reckon 73 = .ok (.invokevirtual 58, 3) := by decide +kernel
theorem dX0_reckon_76 : decode cX0_reckon 76 = .ok (.istore_n 2, 1) := by decide +kernel
theorem dX0_reckon_77 : decode cX0_reckon 77 = .ok (.iload_n 2, 1) := by decide +kernel
theorem dX0_reckon_78 : decode cX0_reckon 78 = .ok (.aload_n 0, 1) := by decide +kernel
theorem dX0_reckon_79 : decode cX0_reckon 79 = .ok (.getfield 36, 3) := by decide +kernel
theorem dX0_reckon_82 : decode cX0_reckon 82 = .ok (.if_icmp .le 13, 3) := by decide +kernel
theorem dX0_reckon_85 : decode cX0_reckon 85 = .ok (.aload_n 0, 1) := by decide +kernel
theorem dX0_reckon_86 : decode cX0_reckon 86 = .ok (.iload_n 2, 1) := by decide +kernel
theorem dX0_reckon_87 : decode cX0_reckon 87 = .ok (.putfield 36, 3) := by decide +kernel
theorem dX0_reckon_90 : decode cX0_reckon 90 = .ok (.aload_n 0, 1) := by decide +kernel
theorem dX0_reckon_91 : decode cX0_reckon 91 = .ok (.iload_n 1, 1) := by decide +kernel
theorem dX0_reckon_92 : decode cX0_reckon 92 = .ok (.putfield 33, 3) := by decide +kernel
theorem dX0_reckon_95 : decode cX0_reckon 95 = .ok (.iinc 1 1, 3) := by decide +kernel
theorem dX0_reckon_98 : decode cX0_reckon 98 = .ok (.goto (-63), 3) := by decide +kernel
theorem dX0_reckon_101 : decode cX0_reckon 101 = .ok (.return_, 1) := by decide +kernel
theorem dX0_fillBrought_0 : decode cX0_fillBrought 0 = .ok (.aload_n 0, 1) := by decide +kernel
theorem dX0_fillBrought_1 : decode cX0_fillBrought 1 = .ok (.getfield 23, 3) := by decide +kernel
theorem dX0_fillBrought_4 : decode cX0_fillBrought 4 = .ok (.iload_n 1, 1) := by decide +kernel
theorem dX0_fillBrought_5 : decode cX0_fillBrought 5 = .ok (.aaload, 1) := by decide +kernel
theorem dX0_fillBrought_6 : decode cX0_fillBrought 6 = .ok (.iconst 0, 1) := by decide +kernel
theorem dX0_fillBrought_7 : decode cX0_fillBrought 7 = .ok (.iconst 0, 1) := by decide +kernel
theorem dX0_fillBrought_8 : decode cX0_fillBrought 8 = .ok (.iastore, 1) := by decide +kernel
theorem dX0_fillBrought_9 : decode cX0_fillBrought 9 = .ok (.iconst 0, 1) := by decide +kernel
theorem dX0_fillBrought_10 : decode cX0_fillBrought 10 = .ok (.istore_n 2, 1) := by decide +kernel
theorem dX0_fillBrought_11 : decode cX0_fillBrought 11 = .ok (.iload_n 2, 1) := by decide +kernel
theorem dX0_fillBrought_12 : decode cX0_fillBrought 12 = .ok (.bipush 8, 2) := by decide +kernel
theorem dX0_fillBrought_14 : decode cX0_fillBrought 14 = .ok (.if_icmp .ge 83, 3) := by decide +kernel
theorem dX0_fillBrought_17 : decode cX0_fillBrought 17 = .ok (.aload_n 0, 1) := by decide +kernel
theorem dX0_fillBrought_18 : decode cX0_fillBrought 18 = .ok (.iload_n 2, 1) := by decide +kernel
theorem dX0_fillBrought_19 : decode cX0_fillBrought 19 = .ok (.iload_n 1, 1) := by decide +kernel
theorem dX0_fillBrought_20 : decode cX0_fillBrought 20 = .ok (.invokevirtual 62, 3) := by decide +kernel
theorem dX0_fillBrought_23 : decode cX0_fillBrought 23 = .ok (.istore_n 3, 1) := by decide +kernel
theorem dX0_fillBrought_24 : decode cX0_fillBrought 24 = .ok (.aload_n 0, 1) := by decide +kernel
theorem dX0_fillBrought_25 : decode cX0_fillBrought 25 = .ok (.iload_n 2, 1) := by decide +kernel
theorem dX0_fillBrought_26 : decode cX0_fillBrought 26 = .ok (.invokevirtual 66, 3) := by decide +kernel
theorem dX0_fillBrought_29 : decode cX0_fillBrought 29 = .ok (.ifCond .eq 9, 3) := by decide +kernel
theorem dX0_fillBrought_32 : decode cX0_fillBrought 32 = .ok (.iconst 1, 1) := by decide +kernel
theorem dX0_fillBrought_33 : decode cX0_fillBrought 33 = .ok (.iload_n 2, 1) := by decide +kernel
theorem dX0_fillBrought_34 : decode cX0_fillBrought 34 = .ok (.ishl, 1) := by decide +kernel
theorem dX0_fillBrought_35 : decode cX0_fillBrought 35 = .ok (.goto 4, 3) := by decide +kernel
theorem dX0_fillBrought_38 : decode cX0_fillBrought 38 = .ok (.iconst 0, 1) := by decide +kernel
theorem dX0_fillBrought_39 : decode cX0_fillBrought 39 = .ok (.istore 4, 2) := by decide +kernel
theorem dX0_fillBrought_41 : decode cX0_fillBrought 41 = .ok (.iconst 0, 1) := by decide +kernel
theorem dX0_fillBrought_42 : decode cX0_fillBrought 42 = .ok (.istore 5, 2) := by decide +kernel
theorem dX0_fillBrought_44 : decode cX0_fillBrought 44 = .ok (.iload 5, 2) := by decide +kernel
theorem dX0_fillBrought_46 : decode cX0_fillBrought 46 = .ok (.iload 4, 2) := by decide +kernel
theorem dX0_fillBrought_48 : decode cX0_fillBrought 48 = .ok (.if_icmp .ge 43, 3) := by decide +kernel
theorem dX0_fillBrought_51 : decode cX0_fillBrought 51 = .ok (.iload 4, 2) := by decide +kernel
theorem dX0_fillBrought_53 : decode cX0_fillBrought 53 = .ok (.iload 5, 2) := by decide +kernel
theorem dX0_fillBrought_55 : decode cX0_fillBrought 55 = .ok (.iadd, 1) := by decide +kernel
theorem dX0_fillBrought_56 : decode cX0_fillBrought 56 = .ok (.sipush 256, 3) := by decide +kernel
theorem dX0_fillBrought_59 : decode cX0_fillBrought 59 = .ok (.if_icmp .ge 32, 3) := by decide +kernel
theorem dX0_fillBrought_62 : decode cX0_fillBrought 62 = .ok (.aload_n 0, 1) := by decide +kernel
theorem dX0_fillBrought_63 : decode cX0_fillBrought 63 = .ok (.getfield 23, 3) := by decide +kernel
theorem dX0_fillBrought_66 : decode cX0_fillBrought 66 = .ok (.iload_n 1, 1) := by decide +kernel
theorem dX0_fillBrought_67 : decode cX0_fillBrought 67 = .ok (.aaload, 1) := by decide +kernel
theorem dX0_fillBrought_68 : decode cX0_fillBrought 68 = .ok (.iload 4, 2) := by decide +kernel
theorem dX0_fillBrought_70 : decode cX0_fillBrought 70 = .ok (.iload 5, 2) := by decide +kernel
theorem dX0_fillBrought_72 : decode cX0_fillBrought 72 = .ok (.iadd, 1) := by decide +kernel
theorem dX0_fillBrought_73 : decode cX0_fillBrought 73 = .ok (.aload_n 0, 1) := by decide +kernel
theorem dX0_fillBrought_74 : decode cX0_fillBrought 74 = .ok (.getfield 23, 3) := by decide +kernel
theorem dX0_fillBrought_77 : decode cX0_fillBrought 77 = .ok (.iload_n 1, 1) := by decide +kernel
theorem dX0_fillBrought_78 : decode cX0_fillBrought 78 = .ok (.aaload, 1) := by decide +kernel
theorem dX0_fillBrought_79 : decode cX0_fillBrought 79 = .ok (.iload 5, 2) := by decide +kernel
theorem dX0_fillBrought_81 : decode cX0_fillBrought 81 = .ok (.iaload, 1) := by decide +kernel
theorem dX0_fillBrought_82 : decode cX0_fillBrought 82 = .ok (.iload_n 3, 1) := by decide +kernel
theorem dX0_fillBrought_83 : decode cX0_fillBrought 83 = .ok (.iadd, 1) := by decide +kernel
theorem dX0_fillBrought_84 : decode cX0_fillBrought 84 = .ok (.iastore, 1) := by decide +kernel
theorem dX0_fillBrought_85 : decode cX0_fillBrought 85 = .ok (.iinc 5 1, 3) := by decide +kernel
theorem dX0_fillBrought_88 : decode cX0_fillBrought 88 = .ok (.goto (-44), 3) := by decide +kernel
theorem dX0_fillBrought_91 : decode cX0_fillBrought 91 = .ok (.iinc 2 1, 3) := by decide +kernel
theorem dX0_fillBrought_94 : decode cX0_fillBrought 94 = .ok (.goto (-83), 3) := by decide +kernel
theorem dX0_fillBrought_97 : decode cX0_fillBrought 97 = .ok (.return_, 1) := by decide +kernel
theorem dX0_amountOf_0 : decode cX0_amountOf 0 = .ok (.aload_n 0, 1) := by decide +kernel
theorem dX0_amountOf_1 : decode cX0_amountOf 1 = .ok (.getfield 39, 3) := by decide +kernel
theorem dX0_amountOf_4 : decode cX0_amountOf 4 = .ok (.iload_n 2, 1) := by decide +kernel
theorem dX0_amountOf_5 : decode cX0_amountOf 5 = .ok (.invokevirtual 69, 3) := by decide +kernel
theorem dX0_amountOf_8 : decode cX0_amountOf 8 = .ok (.istore_n 3, 1) := by decide +kernel
theorem dX0_amountOf_9 : decode cX0_amountOf 9 = .ok (.iload_n 3, 1) := by decide +kernel
theorem dX0_amountOf_10 : decode cX0_amountOf 10 = .ok (.iconst (-1), 1) := by decide +kernel
theorem dX0_amountOf_11 : decode cX0_amountOf 11 = .ok (.if_icmp .eq 17, 3) := by decide +kernel
theorem dX0_amountOf_14 : decode cX0_amountOf 14 = .ok (.iload_n 3, 1) := by decide +kernel
theorem dX0_amountOf_15 : decode cX0_amountOf 15 = .ok (.aload_n 0, 1) := by decide +kernel
theorem dX0_amountOf_16 : decode cX0_amountOf 16 = .ok (.getfield 9, 3) := by decide +kernel
theorem dX0_amountOf_19 : decode cX0_amountOf 19 = .ok (.iload_n 1, 1) := by decide +kernel
theorem dX0_amountOf_20 : decode cX0_amountOf 20 = .ok (.iaload, 1) := by decide +kernel
theorem dX0_amountOf_21 : decode cX0_amountOf 21 = .ok (.if_icmp .gt 7, 3) := by decide +kernel
theorem dX0_amountOf_24 : decode cX0_amountOf 24 = .ok (.iconst 1, 1) := by decide +kernel
theorem dX0_amountOf_25 : decode cX0_amountOf 25 = .ok (.goto 4, 3) := by decide +kernel
theorem dX0_amountOf_28 : decode cX0_amountOf 28 = .ok (.iconst 0, 1) := by decide +kernel
theorem dX0_amountOf_29 : decode cX0_amountOf 29 = .ok (.istore 4, 2) := by decide +kernel
theorem dX0_amountOf_31 : decode cX0_amountOf 31 = .ok (.iload 4, 2) := by decide +kernel
theorem dX0_amountOf_33 : decode cX0_amountOf 33 = .ok (.ifCond .eq 12, 3) := by decide +kernel
theorem dX0_amountOf_36 : decode cX0_amountOf 36 = .ok (.aload_n 0, 1) := by decide +kernel
theorem dX0_amountOf_37 : decode cX0_amountOf 37 = .ok (.getfield 15, 3) := by decide +kernel
theorem dX0_amountOf_40 : decode cX0_amountOf 40 = .ok (.iload_n 1, 1) := by decide +kernel
theorem dX0_amountOf_41 : decode cX0_amountOf 41 = .ok (.iaload, 1) := by decide +kernel
theorem dX0_amountOf_42 : decode cX0_amountOf 42 = .ok (.goto 4, 3) := by decide +kernel
theorem dX0_amountOf_45 : decode cX0_amountOf 45 = .ok (.iconst 0, 1) := by decide +kernel
theorem dX0_amountOf_46 : decode cX0_amountOf 46 = .ok (.aload_n 0, 1) := by decide +kernel
theorem dX0_amountOf_47 : decode cX0_amountOf 47 = .ok (.getfield 18, 3) := by decide +kernel
theorem dX0_amountOf_50 : decode cX0_amountOf 50 = .ok (.iload_n 1, 1) := by decide +kernel
theorem dX0_amountOf_51 : decode cX0_amountOf 51 = .ok (.iaload, 1) := by decide +kernel
theorem dX0_amountOf_52 : decode cX0_amountOf 52 = .ok (.isub, 1) := by decide +kernel
theorem dX0_amountOf_53 : decode cX0_amountOf 53 = .ok (.ireturn, 1) := by decide +kernel
theorem dX0_neverLoses_0 : decode cX0_neverLoses 0 = .ok (.iconst 0, 1) := by decide +kernel
theorem dX0_neverLoses_1 : decode cX0_neverLoses 1 = .ok (.istore_n 2, 1) := by decide +kernel
theorem dX0_neverLoses_2 : decode cX0_neverLoses 2 = .ok (.iload_n 2, 1) := by decide +kernel
theorem dX0_neverLoses_3 : decode cX0_neverLoses 3 = .ok (.iconst 3, 1) := by decide +kernel
theorem dX0_neverLoses_4 : decode cX0_neverLoses 4 = .ok (.if_icmp .ge 31, 3) := by decide +kernel
theorem dX0_neverLoses_7 : decode cX0_neverLoses 7 = .ok (.aload_n 0, 1) := by decide +kernel
theorem dX0_neverLoses_8 : decode cX0_neverLoses 8 = .ok (.getfield 43, 3) := by decide +kernel
theorem dX0_neverLoses_11 : decode cX0_neverLoses 11 = .ok (.iload_n 2, 1) := by decide +kernel
theorem dX0_neverLoses_12 : decode cX0_neverLoses 12 = .ok (.iaload, 1) := by decide +kernel
theorem dX0_neverLoses_13 : decode cX0_neverLoses 13 = .ok (.ifCond .le 16, 3) := by decide +kernel
theorem dX0_neverLoses_16 : decode cX0_neverLoses 16 = .ok (.aload_n 0, 1) := by decide +kernel
theorem dX0_neverLoses_17 : decode cX0_neverLoses 17 = .ok (.getfield 23, 3) := by decide +kernel
theorem dX0_neverLoses_20 : decode cX0_neverLoses 20 = .ok (.iload_n 2, 1) := by decide +kernel
theorem dX0_neverLoses_21 : decode cX0_neverLoses 21 = .ok (.aaload, 1) := by decide +kernel
theorem dX0_neverLoses_22 : decode cX0_neverLoses 22 = .ok (.iload_n 1, 1) := by decide +kernel
theorem dX0_neverLoses_23 : decode cX0_neverLoses 23 = .ok (.iaload, 1) := by decide +kernel
theorem dX0_neverLoses_24 : decode cX0_neverLoses 24 = .ok (.ifCond .ge 5, 3) := by decide +kernel
theorem dX0_neverLoses_27 : decode cX0_neverLoses 27 = .ok (.iconst 0, 1) := by decide +kernel
theorem dX0_neverLoses_28 : decode cX0_neverLoses 28 = .ok (.ireturn, 1) := by decide +kernel
theorem dX0_neverLoses_29 : decode cX0_neverLoses 29 = .ok (.iinc 2 1, 3) := by decide +kernel
theorem dX0_neverLoses_32 : decode cX0_neverLoses 32 = .ok (.goto (-30), 3) := by decide +kernel
theorem dX0_neverLoses_35 : decode cX0_neverLoses 35 = .ok (.iconst 1, 1) := by decide +kernel
theorem dX0_neverLoses_36 : decode cX0_neverLoses 36 = .ok (.ireturn, 1) := by decide +kernel
theorem dX0_weightedSum_0 : decode cX0_weightedSum 0 = .ok (.iconst 0, 1) := by decide +kernel
theorem dX0_weightedSum_1 : decode cX0_weightedSum 1 = .ok (.istore_n 2, 1) := by decide +kernel
theorem dX0_weightedSum_2 : decode cX0_weightedSum 2 = .ok (.iconst 0, 1) := by decide +kernel
theorem dX0_weightedSum_3 : decode cX0_weightedSum 3 = .ok (.istore_n 3, 1) := by decide +kernel
theorem dX0_weightedSum_4 : decode cX0_weightedSum 4 = .ok (.iload_n 3, 1) := by decide +kernel
theorem dX0_weightedSum_5 : decode cX0_weightedSum 5 = .ok (.iconst 3, 1) := by decide +kernel
theorem dX0_weightedSum_6 : decode cX0_weightedSum 6 = .ok (.if_icmp .ge 27, 3) := by decide +kernel
theorem dX0_weightedSum_9 : decode cX0_weightedSum 9 = .ok (.iload_n 2, 1) := by decide +kernel
theorem dX0_weightedSum_10 : decode cX0_weightedSum 10 = .ok (.aload_n 0, 1) := by decide +kernel
theorem dX0_weightedSum_11 : decode cX0_weightedSum 11 = .ok (.getfield 43, 3) := by decide +kernel
theorem dX0_weightedSum_14 : decode cX0_weightedSum 14 = .ok (.iload_n 3, 1) := by decide +kernel
theorem dX0_weightedSum_15 : decode cX0_weightedSum 15 = .ok (.iaload, 1) := by decide +kernel
theorem dX0_weightedSum_16 : decode cX0_weightedSum 16 = .ok (.aload_n 0, 1) := by decide +kernel
theorem dX0_weightedSum_17 : decode cX0_weightedSum 17 = .ok (.getfield 23, 3) := by decide +kernel
theorem dX0_weightedSum_20 : decode cX0_weightedSum 20 = .ok (.iload_n 3, 1) := by decide +kernel
theorem dX0_weightedSum_21 : decode cX0_weightedSum 21 = .ok (.aaload, 1) := by decide +kernel
theorem dX0_weightedSum_22 : decode cX0_weightedSum 22 = .ok (.iload_n 1, 1) := by decide +kernel
theorem dX0_weightedSum_23 : decode cX0_weightedSum 23 = .ok (.iaload, 1) := by decide +kernel
theorem dX0_weightedSum_24 : decode cX0_weightedSum 24 = .ok (.imul, 1) := by decide +kernel
theorem dX0_weightedSum_25 : decode cX0_weightedSum 25 = .ok (.iadd, 1) := by decide +kernel
theorem dX0_weightedSum_26 : decode cX0_weightedSum 26 = .ok (.istore_n 2, 1) := by decide +kernel
theorem dX0_weightedSum_27 : decode cX0_weightedSum 27 = .ok (.iinc 3 1, 3) := by decide +kernel
theorem dX0_weightedSum_30 : decode cX0_weightedSum 30 = .ok (.goto (-26), 3) := by decide +kernel
theorem dX0_weightedSum_33 : decode cX0_weightedSum 33 = .ok (.iload_n 2, 1) := by decide +kernel
theorem dX0_weightedSum_34 : decode cX0_weightedSum 34 = .ok (.ireturn, 1) := by decide +kernel
theorem dX1_init_0 : decode cX1_init 0 = .ok (.aload_n 0, 1) := by decide +kernel
theorem dX1_init_1 : decode cX1_init 1 = .ok (.invokespecial 3, 3) := by decide +kernel
theorem dX1_init_4 : decode cX1_init 4 = .ok (.aload_n 0, 1) := by decide +kernel
theorem dX1_init_5 : decode cX1_init 5 = .ok (.bipush 8, 2) := by decide +kernel
theorem dX1_init_7 : decode cX1_init 7 = .ok (.newarray .int, 2) := by decide +kernel
theorem dX1_init_9 : decode cX1_init 9 = .ok (.putfield 9, 3) := by decide +kernel
theorem dX1_init_12 : decode cX1_init 12 = .ok (.aload_n 0, 1) := by decide +kernel
theorem dX1_init_13 : decode cX1_init 13 = .ok (.bipush 8, 2) := by decide +kernel
theorem dX1_init_15 : decode cX1_init 15 = .ok (.newarray .int, 2) := by decide +kernel
theorem dX1_init_17 : decode cX1_init 17 = .ok (.putfield 15, 3) := by decide +kernel
theorem dX1_init_20 : decode cX1_init 20 = .ok (.aload_n 0, 1) := by decide +kernel
theorem dX1_init_21 : decode cX1_init 21 = .ok (.bipush 8, 2) := by decide +kernel
theorem dX1_init_23 : decode cX1_init 23 = .ok (.newarray .int, 2) := by decide +kernel
theorem dX1_init_25 : decode cX1_init 25 = .ok (.putfield 18, 3) := by decide +kernel
theorem dX1_init_28 : decode cX1_init 28 = .ok (.aload_n 0, 1) := by decide +kernel
theorem dX1_init_29 : decode cX1_init 29 = .ok (.iconst 0, 1) := by decide +kernel
theorem dX1_init_30 : decode cX1_init 30 = .ok (.putfield 21, 3) := by decide +kernel
theorem dX1_init_33 : decode cX1_init 33 = .ok (.return_, 1) := by decide +kernel
theorem dX1_mayBe_0 : decode cX1_mayBe 0 = .ok (.iload_n 1, 1) := by decide +kernel
theorem dX1_mayBe_1 : decode cX1_mayBe 1 = .ok (.bipush 12, 2) := by decide +kernel
theorem dX1_mayBe_3 : decode cX1_mayBe 3 = .ok (.invokestatic 25, 3) := by decide +kernel
theorem dX1_mayBe_6 : decode cX1_mayBe 6 = .ok (.ifCond .eq 30, 3) := by decide +kernel
theorem dX1_mayBe_9 : decode cX1_mayBe 9 = .ok (.iload_n 2, 1) := by decide +kernel
theorem dX1_mayBe_10 : decode cX1_mayBe 10 = .ok (.bipush 12, 2) := by decide +kernel
theorem dX1_mayBe_12 : decode cX1_mayBe 12 = .ok (.invokestatic 25, 3) := by decide +kernel
theorem dX1_mayBe_15 : decode cX1_mayBe 15 = .ok (.ifCond .eq 21, 3) := by decide +kernel
theorem dX1_mayBe_18 : decode cX1_mayBe 18 = .ok (.iload_n 3, 1) := by decide +kernel
theorem dX1_mayBe_19 : decode cX1_mayBe 19 = .ok (.bipush 30, 2) := by decide +kernel
theorem dX1_mayBe_21 : decode cX1_mayBe 21 = .ok (.invokestatic 25, 3) := by decide +kernel
theorem dX1_mayBe_24 : decode cX1_mayBe 24 = .ok (.ifCond .eq 12, 3) := by decide +kernel
theorem dX1_mayBe_27 : decode cX1_mayBe 27 = .ok (.iload_n 1, 1) := by decide +kernel
theorem dX1_mayBe_28 : decode cX1_mayBe 28 = .ok (.iload_n 2, 1) := by decide +kernel
theorem dX1_mayBe_29 : decode cX1_mayBe 29 = .ok (.if_icmp .gt 7, 3) := by decide +kernel
theorem dX1_mayBe_32 : decode cX1_mayBe 32 = .ok (.iconst 1, 1) := by decide +kernel
theorem dX1_mayBe_33 : decode cX1_mayBe 33 = .ok (.goto 4, 3) := by decide +kernel
theorem dX1_mayBe_36 : decode cX1_mayBe 36 = .ok (.iconst 0, 1) := by decide +kernel
theorem dX1_mayBe_37 : decode cX1_mayBe 37 = .ok (.ireturn, 1) := by decide +kernel
theorem dX1_isFull_0 : decode cX1_isFull 0 = .ok (.aload_n 0, 1) := by decide +kernel
theorem dX1_isFull_1 : decode cX1_isFull 1 = .ok (.getfield 21, 3) := by decide +kernel
theorem dX1_isFull_4 : decode cX1_isFull 4 = .ok (.bipush 8, 2) := by decide +kernel
theorem dX1_isFull_6 : decode cX1_isFull 6 = .ok (.if_icmp .lt 7, 3) := by decide +kernel
theorem dX1_isFull_9 : decode cX1_isFull 9 = .ok (.iconst 1, 1) := by decide +kernel
theorem dX1_isFull_10 : decode cX1_isFull 10 = .ok (.goto 4, 3) := by decide +kernel
theorem dX1_isFull_13 : decode cX1_isFull 13 = .ok (.iconst 0, 1) := by decide +kernel
theorem dX1_isFull_14 : decode cX1_isFull 14 = .ok (.ireturn, 1) := by decide +kernel
theorem dX1_build_0 : decode cX1_build 0 = .ok (.aload_n 0, 1) := by decide +kernel
theorem dX1_build_1 : decode cX1_build 1 = .ok (.getfield 21, 3) := by decide +kernel
theorem dX1_build_4 : decode cX1_build 4 = .ok (.bipush 8, 2) := by decide +kernel
theorem dX1_build_6 : decode cX1_build 6 = .ok (.invokestatic 25, 3) := by decide +kernel
theorem dX1_build_9 : decode cX1_build 9 = .ok (.ifCond .eq 43, 3) := by decide +kernel
theorem dX1_build_12 : decode cX1_build 12 = .ok (.aload_n 0, 1) := by decide +kernel
theorem dX1_build_13 : decode cX1_build 13 = .ok (.getfield 9, 3) := by decide +kernel
theorem dX1_build_16 : decode cX1_build 16 = .ok (.aload_n 0, 1) := by decide +kernel
theorem dX1_build_17 : decode cX1_build 17 = .ok (.getfield 21, 3) := by decide +kernel
theorem dX1_build_20 : decode cX1_build 20 = .ok (.iload_n 1, 1) := by decide +kernel
theorem dX1_build_21 : decode cX1_build 21 = .ok (.iastore, 1) := by decide +kernel
theorem dX1_build_22 : decode cX1_build 22 = .ok (.aload_n 0, 1) := by decide +kernel
theorem dX1_build_23 : decode cX1_build 23 = .ok (.getfield 15, 3) := by decide +kernel
theorem dX1_build_26 : decode cX1_build 26 = .ok (.aload_n 0, 1) := by decide +kernel
theorem dX1_build_27 : decode cX1_build 27 = .ok (.getfield 21, 3) := by decide +kernel
theorem dX1_build_30 : decode cX1_build 30 = .ok (.iload_n 2, 1) := by decide +kernel
theorem dX1_build_31 : decode cX1_build 31 = .ok (.iastore, 1) := by decide +kernel
theorem dX1_build_32 : decode cX1_build 32 = .ok (.aload_n 0, 1) := by decide +kernel
theorem dX1_build_33 : decode cX1_build 33 = .ok (.getfield 18, 3) := by decide +kernel
theorem dX1_build_36 : decode cX1_build 36 = .ok (.aload_n 0, 1) := by decide +kernel
theorem dX1_build_37 : decode cX1_build 37 = .ok (.getfield 21, 3) := by decide +kernel
theorem dX1_build_40 : decode cX1_build 40 = .ok (.iload_n 3, 1) := by decide +kernel
theorem dX1_build_41 : decode cX1_build 41 = .ok (.iastore, 1) := by decide +kernel
theorem dX1_build_42 : decode cX1_build 42 = .ok (.aload_n 0, 1) := by decide +kernel
theorem dX1_build_43 : decode cX1_build 43 = .ok (.dup, 1) := by decide +kernel
theorem dX1_build_44 : decode cX1_build 44 = .ok (.getfield 21, 3) := by decide +kernel
theorem dX1_build_47 : decode cX1_build 47 = .ok (.iconst 1, 1) := by decide +kernel
theorem dX1_build_48 : decode cX1_build 48 = .ok (.iadd, 1) := by decide +kernel
theorem dX1_build_49 : decode cX1_build 49 = .ok (.putfield 21, 3) := by decide +kernel
theorem dX1_build_52 : decode cX1_build 52 = .ok (.return_, 1) := by decide +kernel
theorem dX1_dropLast_0 : decode cX1_dropLast 0 = .ok (.aload_n 0, 1) := by decide +kernel
theorem dX1_dropLast_1 : decode cX1_dropLast 1 = .ok (.aload_n 0, 1) := by decide +kernel
theorem dX1_dropLast_2 : decode cX1_dropLast 2 = .ok (.getfield 21, 3) := by decide +kernel
theorem dX1_dropLast_5 : decode cX1_dropLast 5 = .ok (.iconst 1, 1) := by decide +kernel
theorem dX1_dropLast_6 : decode cX1_dropLast 6 = .ok (.isub, 1) := by decide +kernel
theorem dX1_dropLast_7 : decode cX1_dropLast 7 = .ok (.iconst 0, 1) := by decide +kernel
theorem dX1_dropLast_8 : decode cX1_dropLast 8 = .ok (.invokestatic 29, 3) := by decide +kernel
theorem dX1_dropLast_11 : decode cX1_dropLast 11 = .ok (.putfield 21, 3) := by decide +kernel
theorem dX1_dropLast_14 : decode cX1_dropLast 14 = .ok (.return_, 1) := by decide +kernel
theorem dX1_buildFrom_0 : decode cX1_buildFrom 0 = .ok (.iconst 0, 1) := by decide +kernel
theorem dX1_buildFrom_1 : decode cX1_buildFrom 1 = .ok (.istore_n 2, 1) := by decide +kernel
theorem dX1_buildFrom_2 : decode cX1_buildFrom 2 = .ok (.iconst 0, 1) := by decide +kernel
theorem dX1_buildFrom_3 : decode cX1_buildFrom 3 = .ok (.istore_n 3, 1) := by decide +kernel
theorem dX1_buildFrom_4 : decode cX1_buildFrom 4 = .ok (.iload_n 3, 1) := by decide +kernel
theorem dX1_buildFrom_5 : decode cX1_buildFrom 5 = .ok (.iconst 2, 1) := by decide +kernel
theorem dX1_buildFrom_6 : decode cX1_buildFrom 6 = .ok (.iadd, 1) := by decide +kernel
theorem dX1_buildFrom_7 : decode cX1_buildFrom 7 = .ok (.aload_n 1, 1) := by decide +kernel
theorem dX1_buildFrom_8 : decode cX1_buildFrom 8 = .ok (.getfield 35, 3) := by decide +kernel
theorem dX1_buildFrom_11 : decode cX1_buildFrom 11 = .ok (.if_icmp .ge 69, 3) := by decide +kernel
theorem dX1_buildFrom_14 : decode cX1_buildFrom 14 = .ok (.aload_n 1, 1) := by decide +kernel
theorem dX1_buildFrom_15 : decode cX1_buildFrom 15 = .ok (.iload_n 3, 1) := by decide +kernel
theorem dX1_buildFrom_16 : decode cX1_buildFrom 16 = .ok (.invokevirtual 38, 3) := by decide +kernel
theorem dX1_buildFrom_19 : decode cX1_buildFrom 19 = .ok (.istore 4, 2) := by decide +kernel
theorem dX1_buildFrom_21 : decode cX1_buildFrom 21 = .ok (.aload_n 1, 1) := by decide +kernel
theorem dX1_buildFrom_22 : decode cX1_buildFrom 22 = .ok (.iload_n 3, 1) := by decide +kernel
theorem dX1_buildFrom_23 : decode cX1_buildFrom 23 = .ok (.iconst 1, 1) := by decide +kernel
theorem dX1_buildFrom_24 : decode cX1_buildFrom 24 = .ok (.iadd, 1) := by decide +kernel
theorem dX1_buildFrom_25 : decode cX1_buildFrom 25 = .ok (.invokevirtual 38, 3) := by decide +kernel
theorem dX1_buildFrom_28 : decode cX1_buildFrom 28 = .ok (.istore 5, 2) := by decide +kernel
theorem dX1_buildFrom_30 : decode cX1_buildFrom 30 = .ok (.aload_n 1, 1) := by decide +kernel
theorem dX1_buildFrom_31 : decode cX1_buildFrom 31 = .ok (.iload_n 3, 1) := by decide +kernel
theorem dX1_buildFrom_32 : decode cX1_buildFrom 32 = .ok (.iconst 2, 1) := by decide +kernel
theorem dX1_buildFrom_33 : decode cX1_buildFrom 33 = .ok (.iadd, 1) := by decide +kernel
theorem dX1_buildFrom_34 : decode cX1_buildFrom 34 = .ok (.invokevirtual 38, 3) := by decide +kernel
theorem dX1_buildFrom_37 : decode cX1_buildFrom 37 = .ok (.istore 6, 2) := by decide +kernel
theorem dX1_buildFrom_39 : decode cX1_buildFrom 39 = .ok (.aload_n 0, 1) := by decide +kernel
theorem dX1_buildFrom_40 : decode cX1_buildFrom 40 = .ok (.invokevirtual 42, 3) := by decide +kernel
theorem dX1_buildFrom_43 : decode cX1_buildFrom 43 = .ok (.ifCond .ne 16, 3) := by decide +kernel
theorem dX1_buildFrom_46 : decode cX1_buildFrom 46 = .ok (.aload_n 0, 1) := by decide +kernel
theorem dX1_buildFrom_47 : decode cX1_buildFrom 47 = .ok (.iload 4, 2) := by decide +kernel
theorem dX1_buildFrom_49 : decode cX1_buildFrom 49 = .ok (.iload 5, 2) := by decide +kernel
theorem dX1_buildFrom_51 : decode cX1_buildFrom 51 = .ok (.iload 6, 2) := by decide +kernel
theorem dX1_buildFrom_53 : decode cX1_buildFrom 53 = .ok (.invokevirtual 46, 3) := by decide +kernel
theorem dX1_buildFrom_56 : decode cX1_buildFrom 56 = .ok (.ifCond .ne 5, 3) := by decide +kernel
theorem dX1_buildFrom_59 : decode cX1_buildFrom 59 = .ok (.iload_n 2, 1) := by decide +kernel
theorem dX1_buildFrom_60 : decode cX1_buildFrom 60 = .ok (.ireturn, 1) := by decide +kernel
theorem dX1_buildFrom_61 : decode cX1_buildFrom 61 = .ok (.aload_n 0, 1) := by decide +kernel
theorem dX1_buildFrom_62 : decode cX1_buildFrom 62 = .ok (.iload 4, 2) := by decide +kernel
theorem dX1_buildFrom_64 : decode cX1_buildFrom 64 = .ok (.iload 5, 2) := by decide +kernel
theorem dX1_buildFrom_66 : decode cX1_buildFrom 66 = .ok (.iload 6, 2) := by decide +kernel
theorem dX1_buildFrom_68 : decode cX1_buildFrom 68 = .ok (.invokevirtual 50, 3) := by decide +kernel
theorem dX1_buildFrom_71 : decode cX1_buildFrom 71 = .ok (.iinc 2 1, 3) := by decide +kernel
theorem dX1_buildFrom_74 : decode cX1_buildFrom 74 = .ok (.iinc 3 3, 3) := by decide +kernel
theorem dX1_buildFrom_77 : decode cX1_buildFrom 77 = .ok (.goto (-73), 3) := by decide +kernel
theorem dX1_buildFrom_80 : decode cX1_buildFrom 80 = .ok (.iload_n 2, 1) := by decide +kernel
theorem dX1_buildFrom_81 : decode cX1_buildFrom 81 = .ok (.ireturn, 1) := by decide +kernel
theorem dX1_keptYards_0 : decode cX1_keptYards 0 = .ok (.iconst 0, 1) := by decide +kernel
theorem dX1_keptYards_1 : decode cX1_keptYards 1 = .ok (.istore_n 2, 1) := by decide +kernel
theorem dX1_keptYards_2 : decode cX1_keptYards 2 = .ok (.iconst 0, 1) := by decide +kernel
theorem dX1_keptYards_3 : decode cX1_keptYards 3 = .ok (.istore_n 3, 1) := by decide +kernel
theorem dX1_keptYards_4 : decode cX1_keptYards 4 = .ok (.iload_n 3, 1) := by decide +kernel
theorem dX1_keptYards_5 : decode cX1_keptYards 5 = .ok (.aload_n 0, 1) := by decide +kernel
theorem dX1_keptYards_6 : decode cX1_keptYards 6 = .ok (.getfield 21, 3) := by decide +kernel
theorem dX1_keptYards_9 : decode cX1_keptYards 9 = .ok (.if_icmp .ge 56, 3) := by decide +kernel
theorem dX1_keptYards_12 : decode cX1_keptYards 12 = .ok (.iload_n 3, 1) := by decide +kernel
theorem dX1_keptYards_13 : decode cX1_keptYards 13 = .ok (.bipush 8, 2) := by decide +kernel
theorem dX1_keptYards_15 : decode cX1_keptYards 15 = .ok (.if_icmp .ge 50, 3) := by decide +kernel
theorem dX1_keptYards_18 : decode cX1_keptYards 18 = .ok (.iload_n 1, 1) := by decide +kernel
theorem dX1_keptYards_19 : decode cX1_keptYards 19 = .ok (.aload_n 0, 1) := by decide +kernel
theorem dX1_keptYards_20 : decode cX1_keptYards 20 = .ok (.getfield 18, 3) := by decide +kernel
theorem dX1_keptYards_23 : decode cX1_keptYards 23 = .ok (.iload_n 3, 1) := by decide +kernel
theorem dX1_keptYards_24 : decode cX1_keptYards 24 = .ok (.iaload, 1) := by decide +kernel
theorem dX1_keptYards_25 : decode cX1_keptYards 25 = .ok (.if_icmp .lt 34, 3) := by decide +kernel
theorem dX1_keptYards_28 : decode cX1_keptYards 28 = .ok (.iload_n 1, 1) := by decide +kernel
theorem dX1_keptYards_29 : decode cX1_keptYards 29 = .ok (.aload_n 0, 1) := by decide +kernel
theorem dX1_keptYards_30 : decode cX1_keptYards 30 = .ok (.getfield 18, 3) := by decide +kernel
theorem dX1_keptYards_33 : decode cX1_keptYards 33 = .ok (.iload_n 3, 1) := by decide +kernel
theorem dX1_keptYards_34 : decode cX1_keptYards 34 = .ok (.iaload, 1) := by decide +kernel
theorem dX1_keptYards_35 : decode cX1_keptYards 35 = .ok (.bipush 7, 2) := by decide +kernel
theorem dX1_keptYards_37 : decode cX1_keptYards 37 = .ok (.iadd, 1) := by decide +kernel
theorem dX1_keptYards_38 : decode cX1_keptYards 38 = .ok (.if_icmp .ge 21, 3) := by decide +kernel
theorem dX1_keptYards_41 : decode cX1_keptYards 41 = .ok (.iload_n 2, 1) := by decide +kernel
theorem dX1_keptYards_42 : decode cX1_keptYards 42 = .ok (.aload_n 0, 1) := by decide +kernel
theorem dX1_keptYards_43 : decode cX1_keptYards 43 = .ok (.getfield 9, 3) := by decide +kernel
theorem dX1_keptYards_46 : decode cX1_keptYards 46 = .ok (.iload_n 3, 1) := by decide +kernel
theorem dX1_keptYards_47 : decode cX1_keptYards 47 = .ok (.iaload, 1) := by decide +kernel
theorem dX1_keptYards_48 : decode cX1_keptYards 48 = .ok (.aload_n 0, 1) := by decide +kernel
theorem dX1_keptYards_49 : decode cX1_keptYards 49 = .ok (.getfield 15, 3) := by decide +kernel
theorem dX1_keptYards_52 : decode cX1_keptYards 52 = .ok (.iload_n 3, 1) := by decide +kernel
theorem dX1_keptYards_53 : decode cX1_keptYards 53 = .ok (.iaload, 1) := by decide +kernel
theorem dX1_keptYards_54 : decode cX1_keptYards 54 = .ok (.invokestatic 54, 3) := by decide +kernel
theorem dX1_keptYards_57 : decode cX1_keptYards 57 = .ok (.ior, 1) := by decide +kernel
theorem dX1_keptYards_58 : decode cX1_keptYards 58 = .ok (.istore_n 2, 1) := by decide +kernel
theorem dX1_keptYards_59 : decode cX1_keptYards 59 = .ok (.iinc 3 1, 3) := by decide +kernel
theorem dX1_keptYards_62 : decode cX1_keptYards 62 = .ok (.goto (-58), 3) := by decide +kernel
theorem dX1_keptYards_65 : decode cX1_keptYards 65 = .ok (.iload_n 2, 1) := by decide +kernel
theorem dX1_keptYards_66 : decode cX1_keptYards 66 = .ok (.ireturn, 1) := by decide +kernel
theorem dX2_init_0 : decode cX2_init 0 = .ok (.aload_n 0, 1) := by decide +kernel
theorem dX2_init_1 : decode cX2_init 1 = .ok (.invokespecial 3, 3) := by decide +kernel
theorem dX2_init_4 : decode cX2_init 4 = .ok (.aload_n 0, 1) := by decide +kernel
theorem dX2_init_5 : decode cX2_init 5 = .ok (.bipush 8, 2) := by decide +kernel
theorem dX2_init_7 : decode cX2_init 7 = .ok (.newarray .int, 2) := by decide +kernel
theorem dX2_init_9 : decode cX2_init 9 = .ok (.putfield 9, 3) := by decide +kernel
theorem dX2_init_12 : decode cX2_init 12 = .ok (.aload_n 0, 1) := by decide +kernel
theorem dX2_init_13 : decode cX2_init 13 = .ok (.bipush 8, 2) := by decide +kernel
theorem dX2_init_15 : decode cX2_init 15 = .ok (.newarray .int, 2) := by decide +kernel
theorem dX2_init_17 : decode cX2_init 17 = .ok (.putfield 15, 3) := by decide +kernel
theorem dX2_init_20 : decode cX2_init 20 = .ok (.aload_n 0, 1) := by decide +kernel
theorem dX2_init_21 : decode cX2_init 21 = .ok (.bipush 8, 2) := by decide +kernel
theorem dX2_init_23 : decode cX2_init 23 = .ok (.newarray .int, 2) := by decide +kernel
theorem dX2_init_25 : decode cX2_init 25 = .ok (.putfield 18, 3) := by decide +kernel
theorem dX2_init_28 : decode cX2_init 28 = .ok (.aload_n 0, 1) := by decide +kernel
theorem dX2_init_29 : decode cX2_init 29 = .ok (.iconst 0, 1) := by decide +kernel
theorem dX2_init_30 : decode cX2_init 30 = .ok (.putfield 21, 3) := by decide +kernel
theorem dX2_init_33 : decode cX2_init 33 = .ok (.return_, 1) := by decide +kernel
theorem dX2_isFull_0 : decode cX2_isFull 0 = .ok (.aload_n 0, 1) := by decide +kernel
theorem dX2_isFull_1 : decode cX2_isFull 1 = .ok (.getfield 21, 3) := by decide +kernel
theorem dX2_isFull_4 : decode cX2_isFull 4 = .ok (.bipush 8, 2) := by decide +kernel
theorem dX2_isFull_6 : decode cX2_isFull 6 = .ok (.if_icmp .lt 7, 3) := by decide +kernel
theorem dX2_isFull_9 : decode cX2_isFull 9 = .ok (.iconst 1, 1) := by decide +kernel
theorem dX2_isFull_10 : decode cX2_isFull 10 = .ok (.goto 4, 3) := by decide +kernel
theorem dX2_isFull_13 : decode cX2_isFull 13 = .ok (.iconst 0, 1) := by decide +kernel
theorem dX2_isFull_14 : decode cX2_isFull 14 = .ok (.ireturn, 1) := by decide +kernel
theorem dX2_learn_0 : decode cX2_learn 0 = .ok (.aload_n 0, 1) := by decide +kernel
theorem dX2_learn_1 : decode cX2_learn 1 = .ok (.getfield 21, 3) := by decide +kernel
theorem dX2_learn_4 : decode cX2_learn 4 = .ok (.bipush 8, 2) := by decide +kernel
theorem dX2_learn_6 : decode cX2_learn 6 = .ok (.invokestatic 25, 3) := by decide +kernel
theorem dX2_learn_9 : decode cX2_learn 9 = .ok (.ifCond .eq 43, 3) := by decide +kernel
theorem dX2_learn_12 : decode cX2_learn 12 = .ok (.aload_n 0, 1) := by decide +kernel
theorem dX2_learn_13 : decode cX2_learn 13 = .ok (.getfield 9, 3) := by decide +kernel
theorem dX2_learn_16 : decode cX2_learn 16 = .ok (.aload_n 0, 1) := by decide +kernel
theorem dX2_learn_17 : decode cX2_learn 17 = .ok (.getfield 21, 3) := by decide +kernel
theorem dX2_learn_20 : decode cX2_learn 20 = .ok (.iload_n 1, 1) := by decide +kernel
theorem dX2_learn_21 : decode cX2_learn 21 = .ok (.iastore, 1) := by decide +kernel
theorem dX2_learn_22 : decode cX2_learn 22 = .ok (.aload_n 0, 1) := by decide +kernel
theorem dX2_learn_23 : decode cX2_learn 23 = .ok (.getfield 15, 3) := by decide +kernel
theorem dX2_learn_26 : decode cX2_learn 26 = .ok (.aload_n 0, 1) := by decide +kernel
theorem dX2_learn_27 : decode cX2_learn 27 = .ok (.getfield 21, 3) := by decide +kernel
theorem dX2_learn_30 : decode cX2_learn 30 = .ok (.iload_n 2, 1) := by decide +kernel
theorem dX2_learn_31 : decode cX2_learn 31 = .ok (.iastore, 1) := by decide +kernel
theorem dX2_learn_32 : decode cX2_learn 32 = .ok (.aload_n 0, 1) := by decide +kernel
theorem dX2_learn_33 : decode cX2_learn 33 = .ok (.getfield 18, 3) := by decide +kernel
theorem dX2_learn_36 : decode cX2_learn 36 = .ok (.aload_n 0, 1) := by decide +kernel
theorem dX2_learn_37 : decode cX2_learn 37 = .ok (.getfield 21, 3) := by decide +kernel
theorem dX2_learn_40 : decode cX2_learn 40 = .ok (.iload_n 3, 1) := by decide +kernel
theorem dX2_learn_41 : decode cX2_learn 41 = .ok (.iastore, 1) := by decide +kernel
theorem dX2_learn_42 : decode cX2_learn 42 = .ok (.aload_n 0, 1) := by decide +kernel
theorem dX2_learn_43 : decode cX2_learn 43 = .ok (.dup, 1) := by decide +kernel
theorem dX2_learn_44 : decode cX2_learn 44 = .ok (.getfield 21, 3) := by decide +kernel
theorem dX2_learn_47 : decode cX2_learn 47 = .ok (.iconst 1, 1) := by decide +kernel
theorem dX2_learn_48 : decode cX2_learn 48 = .ok (.iadd, 1) := by decide +kernel
theorem dX2_learn_49 : decode cX2_learn 49 = .ok (.putfield 21, 3) := by decide +kernel
theorem dX2_learn_52 : decode cX2_learn 52 = .ok (.return_, 1) := by decide +kernel
theorem dX2_clear_0 : decode cX2_clear 0 = .ok (.aload_n 0, 1) := by decide +kernel
theorem dX2_clear_1 : decode cX2_clear 1 = .ok (.iconst 0, 1) := by decide +kernel
theorem dX2_clear_2 : decode cX2_clear 2 = .ok (.putfield 21, 3) := by decide +kernel
theorem dX2_clear_5 : decode cX2_clear 5 = .ok (.return_, 1) := by decide +kernel
theorem dX2_comeOutBy_0 : decode cX2_comeOutBy 0 = .ok (.iconst 0, 1) := by decide +kernel
theorem dX2_comeOutBy_1 : decode cX2_comeOutBy 1 = .ok (.istore 4, 2) := by decide +kernel
theorem dX2_comeOutBy_3 : decode cX2_comeOutBy 3 = .ok (.iload 4, 2) := by decide +kernel
theorem dX2_comeOutBy_5 : decode cX2_comeOutBy 5 = .ok (.aload_n 0, 1) := by decide +kernel
theorem dX2_comeOutBy_6 : decode cX2_comeOutBy 6 = .ok (.getfield 21, 3) := by decide +kernel
theorem dX2_comeOutBy_9 : decode cX2_comeOutBy 9 = .ok (.if_icmp .ge 65, 3) := by decide +kernel
theorem dX2_comeOutBy_12 : decode cX2_comeOutBy 12 = .ok (.iload 4, 2) := by decide +kernel
theorem dX2_comeOutBy_14 : decode cX2_comeOutBy 14 = .ok (.bipush 8, 2) := by decide +kernel
theorem dX2_comeOutBy_16 : decode cX2_comeOutBy 16 = .ok (.if_icmp .ge 58, 3) := by decide +kernel
theorem dX2_comeOutBy_19 : decode cX2_comeOutBy 19 = .ok (.aload_n 1, 1) := by decide +kernel
theorem dX2_comeOutBy_20 : decode cX2_comeOutBy 20 = .ok (.iload_n 2, 1) := by decide +kernel
theorem dX2_comeOutBy_21 : decode cX2_comeOutBy 21 = .ok (.aload_n 0, 1) := by decide +kernel
theorem dX2_comeOutBy_22 : decode cX2_comeOutBy 22 = .ok (.getfield 9, 3) := by decide +kernel
theorem dX2_comeOutBy_25 : decode cX2_comeOutBy 25 = .ok (.iload 4, 2) := by decide +kernel
theorem dX2_comeOutBy_27 : decode cX2_comeOutBy 27 = .ok (.iaload, 1) := by decide +kernel
theorem dX2_comeOutBy_28 : decode cX2_comeOutBy 28 = .ok (.invokevirtual 29, 3) := by decide +kernel
theorem dX2_comeOutBy_31 : decode cX2_comeOutBy 31 = .ok (.aload_n 0, 1) := by decide +kernel
theorem dX2_comeOutBy_32 : decode cX2_comeOutBy 32 = .ok (.getfield 15, 3) := by decide +kernel
theorem dX2_comeOutBy_35 : decode cX2_comeOutBy 35 = .ok (.iload 4, 2) := by decide +kernel
theorem dX2_comeOutBy_37 : decode cX2_comeOutBy 37 = .ok (.iaload, 1) := by decide +kernel
theorem dX2_comeOutBy_38 : decode cX2_comeOutBy 38 = .ok (.ishr, 1) := by decide +kernel
theorem dX2_comeOutBy_39 : decode cX2_comeOutBy 39 = .ok (.iconst 1, 1) := by decide +kernel
theorem dX2_comeOutBy_40 : decode cX2_comeOutBy 40 = .ok (.iand, 1) := by decide +kernel
theorem dX2_comeOutBy_41 : decode cX2_comeOutBy 41 = .ok (.istore 5, 2) := by decide +kernel
theorem dX2_comeOutBy_43 : decode cX2_comeOutBy 43 = .ok (.aload_n 0, 1) := by decide +kernel
theorem dX2_comeOutBy_44 : decode cX2_comeOutBy 44 = .ok (.getfield 15, 3) := by decide +kernel
theorem dX2_comeOutBy_47 : decode cX2_comeOutBy 47 = .ok (.iload 4, 2) := by decide +kernel
theorem dX2_comeOutBy_49 : decode cX2_comeOutBy 49 = .ok (.iaload, 1) := by decide +kernel
theorem dX2_comeOutBy_50 : decode cX2_comeOutBy 50 = .ok (.iload_n 3, 1) := by decide +kernel
theorem dX2_comeOutBy_51 : decode cX2_comeOutBy 51 = .ok (.if_icmp .ge 17, 3) := by decide +kernel
theorem dX2_comeOutBy_54 : decode cX2_comeOutBy 54 = .ok (.iload 5, 2) := by decide +kernel
theorem dX2_comeOutBy_56 : decode cX2_comeOutBy 56 = .ok (.aload_n 0, 1) := by decide +kernel
theorem dX2_comeOutBy_57 : decode cX2_comeOutBy 57 = .ok (.getfield 18, 3) := by decide +kernel
theorem dX2_comeOutBy_60 : decode cX2_comeOutBy 60 = .ok (.iload 4, 2) := by decide +kernel
theorem dX2_comeOutBy_62 : decode cX2_comeOutBy 62 = .ok (.iaload, 1) := by decide +kernel
theorem dX2_comeOutBy_63 : decode cX2_comeOutBy 63 = .ok (.if_icmp .eq 5, 3) := by decide +kernel
theorem dX2_comeOutBy_66 : decode cX2_comeOutBy 66 = .ok (.iconst 0, 1) := by decide +kernel
theorem dX2_comeOutBy_67 : decode cX2_comeOutBy 67 = .ok (.ireturn, 1) := by decide +kernel
theorem dX2_comeOutBy_68 : decode cX2_comeOutBy 68 = .ok (.iinc 4 1, 3) := by decide +kernel
theorem dX2_comeOutBy_71 : decode cX2_comeOutBy 71 = .ok (.goto (-68), 3) := by decide +kernel
theorem dX2_comeOutBy_74 : decode cX2_comeOutBy 74 = .ok (.iconst 1, 1) := by decide +kernel
theorem dX2_comeOutBy_75 : decode cX2_comeOutBy 75 = .ok (.ireturn, 1) := by decide +kernel
theorem dX3_init_0 : decode cX3_init 0 = .ok (.aload_n 0, 1) := by decide +kernel
theorem dX3_init_1 : decode cX3_init 1 = .ok (.invokespecial 3, 3) := by decide +kernel
theorem dX3_init_4 : decode cX3_init 4 = .ok (.aload_n 0, 1) := by decide +kernel
theorem dX3_init_5 : decode cX3_init 5 = .ok (.iconst 0, 1) := by decide +kernel
theorem dX3_init_6 : decode cX3_init 6 = .ok (.putfield 9, 3) := by decide +kernel
theorem dX3_init_9 : decode cX3_init 9 = .ok (.aload_n 0, 1) := by decide +kernel
theorem dX3_init_10 : decode cX3_init 10 = .ok (.iconst 0, 1) := by decide +kernel
theorem dX3_init_11 : decode cX3_init 11 = .ok (.putfield 15, 3) := by decide +kernel
theorem dX3_init_14 : decode cX3_init 14 = .ok (.aload_n 0, 1) := by decide +kernel
theorem dX3_init_15 : decode cX3_init 15 = .ok (.iconst 0, 1) := by decide +kernel
theorem dX3_init_16 : decode cX3_init 16 = .ok (.putfield 18, 3) := by decide +kernel
theorem dX3_init_19 : decode cX3_init 19 = .ok (.aload_n 0, 1) := by decide +kernel
theorem dX3_init_20 : decode cX3_init 20 = .ok (.aload_n 1, 1) := by decide +kernel
theorem dX3_init_21 : decode cX3_init 21 = .ok (.putfield 21, 3) := by decide +kernel
theorem dX3_init_24 : decode cX3_init 24 = .ok (.return_, 1) := by decide +kernel
theorem dX3_reckon_0 : decode cX3_reckon 0 = .ok (.iload_n 3, 1) := by decide +kernel
theorem dX3_reckon_1 : decode cX3_reckon 1 = .ok (.iload 4, 2) := by decide +kernel
theorem dX3_reckon_3 : decode cX3_reckon 3 = .ok (.invokestatic 25, 3) := by decide +kernel
theorem dX3_reckon_6 : decode cX3_reckon 6 = .ok (.istore 6, 2) := by decide +kernel
theorem dX3_reckon_8 : decode cX3_reckon 8 = .ok (.aload_n 0, 1) := by decide +kernel
theorem dX3_reckon_9 : decode cX3_reckon 9 = .ok (.aload_n 0, 1) := by decide +kernel
theorem dX3_reckon_10 : decode cX3_reckon 10 = .ok (.iload_n 1, 1) := by decide +kernel
theorem dX3_reckon_11 : decode cX3_reckon 11 = .ok (.iload_n 2, 1) := by decide +kernel
theorem dX3_reckon_12 : decode cX3_reckon 12 = .ok (.iload 6, 2) := by decide +kernel
theorem dX3_reckon_14 : decode cX3_reckon 14 = .ok (.invokevirtual 29, 3) := by decide +kernel
theorem dX3_reckon_17 : decode cX3_reckon 17 = .ok (.putfield 9, 3) := by decide +kernel
theorem dX3_reckon_20 : decode cX3_reckon 20 = .ok (.aload_n 0, 1) := by decide +kernel
theorem dX3_reckon_21 : decode cX3_reckon 21 = .ok (.iconst 0, 1) := by decide +kernel
theorem dX3_reckon_22 : decode cX3_reckon 22 = .ok (.putfield 15, 3) := by decide +kernel
theorem dX3_reckon_25 : decode cX3_reckon 25 = .ok (.aload_n 0, 1) := by decide +kernel
theorem dX3_reckon_26 : decode cX3_reckon 26 = .ok (.iconst 0, 1) := by decide +kernel
theorem dX3_reckon_27 : decode cX3_reckon 27 = .ok (.putfield 18, 3) := by decide +kernel
theorem dX3_reckon_30 : decode cX3_reckon 30 = .ok (.iconst 1, 1) := by decide +kernel
theorem dX3_reckon_31 : decode cX3_reckon 31 = .ok (.istore 7, 2) := by decide +kernel
theorem dX3_reckon_33 : decode cX3_reckon 33 = .ok (.iload 7, 2) := by decide +kernel
theorem dX3_reckon_35 : decode cX3_reckon 35 = .ok (.iload 5, 2) := by decide +kernel
theorem dX3_reckon_37 : decode cX3_reckon 37 = .ok (.if_icmp .gt 97, 3) := by decide +kernel
theorem dX3_reckon_40 : decode cX3_reckon 40 = .ok (.iload 7, 2) := by decide +kernel
theorem dX3_reckon_42 : decode cX3_reckon 42 = .ok (.iload 4, 2) := by decide +kernel
theorem dX3_reckon_44 : decode cX3_reckon 44 = .ok (.iload_n 3, 1) := by decide +kernel
theorem dX3_reckon_45 : decode cX3_reckon 45 = .ok (.isub, 1) := by decide +kernel
theorem dX3_reckon_46 : decode cX3_reckon 46 = .ok (.iconst 1, 1) := by decide +kernel
theorem dX3_reckon_47 : decode cX3_reckon 47 = .ok (.iadd, 1) := by decide +kernel
theorem dX3_reckon_48 : decode cX3_reckon 48 = .ok (.if_icmp .gt 86, 3) := by decide +kernel
theorem dX3_reckon_51 : decode cX3_reckon 51 = .ok (.iload_n 3, 1) := by decide +kernel
theorem dX3_reckon_52 : decode cX3_reckon 52 = .ok (.istore 8, 2) := by decide +kernel
theorem dX3_reckon_54 : decode cX3_reckon 54 = .ok (.iload 8, 2) := by decide +kernel
theorem dX3_reckon_56 : decode cX3_reckon 56 = .ok (.iload 7, 2) := by decide +kernel
theorem dX3_reckon_58 : decode cX3_reckon 58 = .ok (.iadd, 1) := by decide +kernel
theorem dX3_reckon_59 : decode cX3_reckon 59 = .ok (.iconst 1, 1) := by decide +kernel
theorem dX3_reckon_60 : decode cX3_reckon 60 = .ok (.isub, 1) := by decide +kernel
theorem dX3_reckon_61 : decode cX3_reckon 61 = .ok (.iload 4, 2) := by decide +kernel
theorem dX3_reckon_63 : decode cX3_reckon 63 = .ok (.if_icmp .gt 65, 3) := by decide +kernel
theorem dX3_reckon_66 : decode cX3_reckon 66 = .ok (.iload 6, 2) := by decide +kernel
theorem dX3_reckon_68 : decode cX3_reckon 68 = .ok (.iload 8, 2) := by decide +kernel
theorem dX3_reckon_70 : decode cX3_reckon 70 = .ok (.iload 8, 2) := by decide +kernel
theorem dX3_reckon_72 : decode cX3_reckon 72 = .ok (.iload 7, 2) := by decide +kernel
theorem dX3_reckon_74 : decode cX3_reckon 74 = .ok (.iadd, 1) := by decide +kernel
theorem dX3_reckon_75 : decode cX3_reckon 75 = .ok (.iconst 1, 1) := by decide +kernel
theorem dX3_reckon_76 : decode cX3_reckon 76 = .ok (.isub, 1) := by decide +kernel
theorem dX3_reckon_77 : decode cX3_reckon 77 = .ok (.invokestatic 25, 3) := by decide +kernel
theorem dX3_reckon_80 : decode cX3_reckon 80 = .ok (.iconst (-1), 1) := by decide +kernel
theorem dX3_reckon_81 : decode cX3_reckon 81 = .ok (.ixor, 1) := by decide +kernel
theorem dX3_reckon_82 : decode cX3_reckon 82 = .ok (.iand, 1) := by decide +kernel
theorem dX3_reckon_83 : decode cX3_reckon 83 = .ok (.istore 9, 2) := by decide +kernel
theorem dX3_reckon_85 : decode cX3_reckon 85 = .ok (.aload_n 0, 1) := by decide +kernel
theorem dX3_reckon_86 : decode cX3_reckon 86 = .ok (.iload_n 1, 1) := by decide +kernel
theorem dX3_reckon_87 : decode cX3_reckon 87 = .ok (.iload_n 2, 1) := by decide +kernel
theorem dX3_reckon_88 : decode cX3_reckon 88 = .ok (.iload 9, 2) := by decide +kernel
theorem dX3_reckon_90 : decode cX3_reckon 90 = .ok (.invokevirtual 29, 3) := by decide +kernel
theorem dX3_reckon_93 : decode cX3_reckon 93 = .ok (.istore 10, 2) := by decide +kernel
theorem dX3_reckon_95 : decode cX3_reckon 95 = .ok (.iload 10, 2) := by decide +kernel
theorem dX3_reckon_97 : decode cX3_reckon 97 = .ok (.aload_n 0, 1) := by decide +kernel
theorem dX3_reckon_98 : decode cX3_reckon 98 = .ok (.getfield 9, 3) := by decide +kernel
theorem dX3_reckon_101 : decode cX3_reckon 101 = .ok (.if_icmp .le 21, 3) := by decide +kernel
theorem dX3_reckon_104 : decode cX3_reckon 104 = .ok (.aload_n 0, 1) := by decide +kernel
theorem dX3_reckon_105 : decode cX3_reckon 105 = .ok (.iload 10, 2) := by decide +kernel
theorem dX3_reckon_107 : decode cX3_reckon 107 = .ok (.putfield 9, 3) := by decide +kernel
theorem dX3_reckon_110 : decode cX3_reckon 110 = .ok (.aload_n 0, 1) := by decide +kernel
theorem dX3_reckon_111 : decode cX3_reckon 111 = .ok (.iload 8, 2) := by decide +kernel
theorem dX3_reckon_113 : decode cX3_reckon 113 = .ok (.putfield 15, 3) := by decide +kernel
theorem dX3_reckon_116 : decode cX3_reckon 116 = .ok (.aload_n 0, 1) := by decide +kernel
theorem dX3_reckon_117 : decode cX3_reckon 117 = .ok (.iload 7, 2) := by decide +kernel
theorem dX3_reckon_119 : decode cX3_reckon 119 = .ok (.putfield 18, 3) := by decide +kernel
theorem dX3_reckon_122 : decode cX3_reckon 122 = .ok (.iinc 8 1, 3) := by decide +kernel
theorem dX3_reckon_125 : decode cX3_reckon 125 = .ok (.goto (-71), 3) := by decide +kernel
theorem dX3_reckon_128 : decode cX3_reckon 128 = .ok (.iinc 7 1, 3) := by decide +kernel
theorem dX3_reckon_131 : decode cX3_reckon 131 = .ok (.goto (-98), 3) := by decide +kernel
theorem dX3_reckon_134 : decode cX3_reckon 134 = .ok (.return_, 1) := by decide +kernel
theorem dX3_dryDays_0 : decode cX3_dryDays 0 = .ok (.iconst 0, 1) := by decide +kernel
theorem dX3_dryDays_1 : decode cX3_dryDays 1 = .ok (.istore 4, 2) := by decide +kernel
theorem dX3_dryDays_3 : decode cX3_dryDays 3 = .ok (.iload_n 2, 1) := by decide +kernel
theorem dX3_dryDays_4 : decode cX3_dryDays 4 = .ok (.istore 5, 2) := by decide +kernel
theorem dX3_dryDays_6 : decode cX3_dryDays 6 = .ok (.iload 5, 2) := by decide +kernel
theorem dX3_dryDays_8 : decode cX3_dryDays 8 = .ok (.iload_n 2, 1) := by decide +kernel
theorem dX3_dryDays_9 : decode cX3_dryDays 9 = .ok (.bipush 7, 2) := by decide +kernel
theorem dX3_dryDays_11 : decode cX3_dryDays 11 = .ok (.iadd, 1) := by decide +kernel
theorem dX3_dryDays_12 : decode cX3_dryDays 12 = .ok (.if_icmp .ge 34, 3) := by decide +kernel
theorem dX3_dryDays_15 : decode cX3_dryDays 15 = .ok (.iload 5, 2) := by decide +kernel
theorem dX3_dryDays_17 : decode cX3_dryDays 17 = .ok (.bipush 30, 2) := by decide +kernel
theorem dX3_dryDays_19 : decode cX3_dryDays 19 = .ok (.if_icmp .ge 27, 3) := by decide +kernel
theorem dX3_dryDays_22 : decode cX3_dryDays 22 = .ok (.aload_n 0, 1) := by decide +kernel
theorem dX3_dryDays_23 : decode cX3_dryDays 23 = .ok (.getfield 21, 3) := by decide +kernel
theorem dX3_dryDays_26 : decode cX3_dryDays 26 = .ok (.iload_n 1, 1) := by decide +kernel
theorem dX3_dryDays_27 : decode cX3_dryDays 27 = .ok (.iload 5, 2) := by decide +kernel
theorem dX3_dryDays_29 : decode cX3_dryDays 29 = .ok (.invokevirtual 33, 3) := by decide +kernel
theorem dX3_dryDays_32 : decode cX3_dryDays 32 = .ok (.iload_n 3, 1) := by decide +kernel
theorem dX3_dryDays_33 : decode cX3_dryDays 33 = .ok (.iand, 1) := by decide +kernel
theorem dX3_dryDays_34 : decode cX3_dryDays 34 = .ok (.ifCond .ne 6, 3) := by decide +kernel
theorem dX3_dryDays_37 : decode cX3_dryDays 37 = .ok (.iinc 4 1, 3) := by decide +kernel
theorem dX3_dryDays_40 : decode cX3_dryDays 40 = .ok (.iinc 5 1, 3) := by decide +kernel
theorem dX3_dryDays_43 : decode cX3_dryDays 43 = .ok (.goto (-37), 3) := by decide +kernel
theorem dX3_dryDays_46 : decode cX3_dryDays 46 = .ok (.iload 4, 2) := by decide +kernel
theorem dX3_dryDays_48 : decode cX3_dryDays 48 = .ok (.ireturn, 1) := by decide +kernel
theorem dX4_init_0 : decode cX4_init 0 = .ok (.aload_n 0, 1) := by decide +kernel
theorem dX4_init_1 : decode cX4_init 1 = .ok (.invokespecial 3, 3) := by decide +kernel
theorem dX4_init_4 : decode cX4_init 4 = .ok (.aload_n 0, 1) := by decide +kernel
theorem dX4_init_5 : decode cX4_init 5 = .ok (.bipush 60, 2) := by decide +kernel
theorem dX4_init_7 : decode cX4_init 7 = .ok (.newarray .int, 2) := by decide +kernel
theorem dX4_init_9 : decode cX4_init 9 = .ok (.putfield 9, 3) := by decide +kernel
theorem dX4_init_12 : decode cX4_init 12 = .ok (.aload_n 0, 1) := by decide +kernel
theorem dX4_init_13 : decode cX4_init 13 = .ok (.iconst (-1), 1) := by decide +kernel
theorem dX4_init_14 : decode cX4_init 14 = .ok (.putfield 15, 3) := by decide +kernel
theorem dX4_init_17 : decode cX4_init 17 = .ok (.aload_n 0, 1) := by decide +kernel
theorem dX4_init_18 : decode cX4_init 18 = .ok (.iconst 0, 1) := by decide +kernel
theorem dX4_init_19 : decode cX4_init 19 = .ok (.putfield 19, 3) := by decide +kernel
theorem dX4_init_22 : decode cX4_init 22 = .ok (.return_, 1) := by decide +kernel
theorem dX4_isLost_0 : decode cX4_isLost 0 = .ok (.aload_n 0, 1) := by decide +kernel
theorem dX4_isLost_1 : decode cX4_isLost 1 = .ok (.getfield 15, 3) := by decide +kernel
theorem dX4_isLost_4 : decode cX4_isLost 4 = .ok (.iconst (-1), 1) := by decide +kernel
theorem dX4_isLost_5 : decode cX4_isLost 5 = .ok (.if_icmp .ne 7, 3) := by decide +kernel
theorem dX4_isLost_8 : decode cX4_isLost 8 = .ok (.iconst 1, 1) := by decide +kernel
theorem dX4_isLost_9 : decode cX4_isLost 9 = .ok (.goto 4, 3) := by decide +kernel
theorem dX4_isLost_12 : decode cX4_isLost 12 = .ok (.iconst 0, 1) := by decide +kernel
theorem dX4_isLost_13 : decode cX4_isLost 13 = .ok (.ireturn, 1) := by decide +kernel
theorem dX4_renew_0 : decode cX4_renew 0 = .ok (.aload_n 0, 1) := by decide +kernel
theorem dX4_renew_1 : decode cX4_renew 1 = .ok (.iload_n 1, 1) := by decide +kernel
theorem dX4_renew_2 : decode cX4_renew 2 = .ok (.putfield 15, 3) := by decide +kernel
theorem dX4_renew_5 : decode cX4_renew 5 = .ok (.aload_n 0, 1) := by decide +kernel
theorem dX4_renew_6 : decode cX4_renew 6 = .ok (.iconst 0, 1) := by decide +kernel
theorem dX4_renew_7 : decode cX4_renew 7 = .ok (.iload_n 2, 1) := by decide +kernel
theorem dX4_renew_8 : decode cX4_renew 8 = .ok (.bipush 60, 2) := by decide +kernel
theorem dX4_renew_10 : decode cX4_renew 10 = .ok (.invokestatic 22, 3) := by decide +kernel
theorem dX4_renew_13 : decode cX4_renew 13 = .ok (.invokestatic 28, 3) := by decide +kernel
theorem dX4_renew_16 : decode cX4_renew 16 = .ok (.putfield 19, 3) := by decide +kernel
theorem dX4_renew_19 : decode cX4_renew 19 = .ok (.iconst 0, 1) := by decide +kernel
theorem dX4_renew_20 : decode cX4_renew 20 = .ok (.istore_n 3, 1) := by decide +kernel
theorem dX4_renew_21 : decode cX4_renew 21 = .ok (.iload_n 3, 1) := by decide +kernel
theorem dX4_renew_22 : decode cX4_renew 22 = .ok (.bipush 60, 2) := by decide +kernel
theorem dX4_renew_24 : decode cX4_renew 24 = .ok (.if_icmp .ge 16, 3) := by decide +kernel
theorem dX4_renew_27 : decode cX4_renew 27 = .ok (.aload_n 0, 1) := by decide +kernel
theorem dX4_renew_28 : decode cX4_renew 28 = .ok (.getfield 9, 3) := by decide +kernel
theorem dX4_renew_31 : decode cX4_renew 31 = .ok (.iload_n 3, 1) := by decide +kernel
theorem dX4_renew_32 : decode cX4_renew 32 = .ok (.iconst 0, 1) := by decide +kernel
theorem dX4_renew_33 : decode cX4_renew 33 = .ok (.iastore, 1) := by decide +kernel
theorem dX4_renew_34 : decode cX4_renew 34 = .ok (.iinc 3 1, 3) := by decide +kernel
theorem dX4_renew_37 : decode cX4_renew 37 = .ok (.goto (-16), 3) := by decide +kernel
theorem dX4_renew_40 : decode cX4_renew 40 = .ok (.return_, 1) := by decide +kernel
theorem dX4_drop_0 : decode cX4_drop 0 = .ok (.aload_n 0, 1) := by decide +kernel
theorem dX4_drop_1 : decode cX4_drop 1 = .ok (.iconst (-1), 1) := by decide +kernel
theorem dX4_drop_2 : decode cX4_drop 2 = .ok (.putfield 15, 3) := by decide +kernel
theorem dX4_drop_5 : decode cX4_drop 5 = .ok (.aload_n 0, 1) := by decide +kernel
theorem dX4_drop_6 : decode cX4_drop 6 = .ok (.iconst 0, 1) := by decide +kernel
theorem dX4_drop_7 : decode cX4_drop 7 = .ok (.putfield 19, 3) := by decide +kernel
theorem dX4_drop_10 : decode cX4_drop 10 = .ok (.return_, 1) := by decide +kernel
theorem dX4_trouble_0 : decode cX4_trouble 0 = .ok (.aload_n 0, 1) := by decide +kernel
theorem dX4_trouble_1 : decode cX4_trouble 1 = .ok (.invokevirtual 31, 3) := by decide +kernel
theorem dX4_trouble_4 : decode cX4_trouble 4 = .ok (.ifCond .eq 5, 3) := by decide +kernel
theorem dX4_trouble_7 : decode cX4_trouble 7 = .ok (.iconst 1, 1) := by decide +kernel
theorem dX4_trouble_8 : decode cX4_trouble 8 = .ok (.ireturn, 1) := by decide +kernel
theorem dX4_trouble_9 : decode cX4_trouble 9 = .ok (.aload_n 0, 1) := by decide +kernel
theorem dX4_trouble_10 : decode cX4_trouble 10 = .ok (.getfield 15, 3) := by decide +kernel
theorem dX4_trouble_13 : decode cX4_trouble 13 = .ok (.iload_n 1, 1) := by decide +kernel
theorem dX4_trouble_14 : decode cX4_trouble 14 = .ok (.if_icmp .eq 5, 3) := by decide +kernel
theorem dX4_trouble_17 : decode cX4_trouble 17 = .ok (.iconst 3, 1) := by decide +kernel
theorem dX4_trouble_18 : decode cX4_trouble 18 = .ok (.ireturn, 1) := by decide +kernel
theorem dX4_trouble_19 : decode cX4_trouble 19 = .ok (.iload_n 2, 1) := by decide +kernel
theorem dX4_trouble_20 : decode cX4_trouble 20 = .ok (.aload_n 0, 1) := by decide +kernel
theorem dX4_trouble_21 : decode cX4_trouble 21 = .ok (.getfield 19, 3) := by decide +kernel
theorem dX4_trouble_24 : decode cX4_trouble 24 = .ok (.invokestatic 35, 3) := by decide +kernel
theorem dX4_trouble_27 : decode cX4_trouble 27 = .ok (.ifCond .eq 7, 3) := by decide +kernel
theorem dX4_trouble_30 : decode cX4_trouble 30 = .ok (.iconst 0, 1) := by decide +kernel
theorem dX4_trouble_31 : decode cX4_trouble 31 = .ok (.goto 4, 3) := by decide +kernel
theorem dX4_trouble_34 : decode cX4_trouble 34 = .ok (.iconst 2, 1) := by decide +kernel
theorem dX4_trouble_35 : decode cX4_trouble 35 = .ok (.ireturn, 1) := by decide +kernel
theorem dX4_item_0 : decode cX4_item 0 = .ok (.iload_n 1, 1) := by decide +kernel
theorem dX4_item_1 : decode cX4_item 1 = .ok (.aload_n 0, 1) := by decide +kernel
theorem dX4_item_2 : decode cX4_item 2 = .ok (.getfield 19, 3) := by decide +kernel
theorem dX4_item_5 : decode cX4_item 5 = .ok (.invokestatic 35, 3) := by decide +kernel
theorem dX4_item_8 : decode cX4_item 8 = .ok (.ifCond .eq 21, 3) := by decide +kernel
theorem dX4_item_11 : decode cX4_item 11 = .ok (.iload_n 1, 1) := by decide +kernel
theorem dX4_item_12 : decode cX4_item 12 = .ok (.bipush 60, 2) := by decide +kernel
theorem dX4_item_14 : decode cX4_item 14 = .ok (.invokestatic 35, 3) := by decide +kernel
theorem dX4_item_17 : decode cX4_item 17 = .ok (.ifCond .eq 12, 3) := by decide +kernel
theorem dX4_item_20 : decode cX4_item 20 = .ok (.aload_n 0, 1) := by decide +kernel
theorem dX4_item_21 : decode cX4_item 21 = .ok (.getfield 9, 3) := by decide +kernel
theorem dX4_item_24 : decode cX4_item 24 = .ok (.iload_n 1, 1) := by decide +kernel
theorem dX4_item_25 : decode cX4_item 25 = .ok (.iaload, 1) := by decide +kernel
theorem dX4_item_26 : decode cX4_item 26 = .ok (.goto 4, 3) := by decide +kernel
theorem dX4_item_29 : decode cX4_item 29 = .ok (.iconst 0, 1) := by decide +kernel
theorem dX4_item_30 : decode cX4_item 30 = .ok (.ireturn, 1) := by decide +kernel
theorem dX4_put_0 : decode cX4_put 0 = .ok (.iload_n 1, 1) := by decide +kernel
theorem dX4_put_1 : decode cX4_put 1 = .ok (.aload_n 0, 1) := by decide +kernel
theorem dX4_put_2 : decode cX4_put 2 = .ok (.getfield 19, 3) := by decide +kernel
theorem dX4_put_5 : decode cX4_put 5 = .ok (.invokestatic 35, 3) := by decide +kernel
theorem dX4_put_8 : decode cX4_put 8 = .ok (.ifCond .eq 23, 3) := by decide +kernel
theorem dX4_put_11 : decode cX4_put 11 = .ok (.iload_n 1, 1) := by decide +kernel
theorem dX4_put_12 : decode cX4_put 12 = .ok (.bipush 60, 2) := by decide +kernel
theorem dX4_put_14 : decode cX4_put 14 = .ok (.invokestatic 35, 3) := by decide +kernel
theorem dX4_put_17 : decode cX4_put 17 = .ok (.ifCond .eq 14, 3) := by decide +kernel
theorem dX4_put_20 : decode cX4_put 20 = .ok (.aload_n 0, 1) := by decide +kernel
theorem dX4_put_21 : decode cX4_put 21 = .ok (.getfield 9, 3) := by decide +kernel
theorem dX4_put_24 : decode cX4_put 24 = .ok (.iload_n 1, 1) := by decide +kernel
theorem dX4_put_25 : decode cX4_put 25 = .ok (.aload_n 0, 1) := by decide +kernel
theorem dX4_put_26 : decode cX4_put 26 = .ok (.iload_n 2, 1) := by decide +kernel
theorem dX4_put_27 : decode cX4_put 27 = .ok (.invokevirtual 39, 3) := by decide +kernel
theorem dX4_put_30 : decode cX4_put 30 = .ok (.iastore, 1) := by decide +kernel
theorem dX4_put_31 : decode cX4_put 31 = .ok (.return_, 1) := by decide +kernel
theorem dX4_hasRun_0 : decode cX4_hasRun 0 = .ok (.iload_n 1, 1) := by decide +kernel
theorem dX4_hasRun_1 : decode cX4_hasRun 1 = .ok (.ifCond .lt 29, 3) := by decide +kernel
theorem dX4_hasRun_4 : decode cX4_hasRun 4 = .ok (.iload_n 2, 1) := by decide +kernel
theorem dX4_hasRun_5 : decode cX4_hasRun 5 = .ok (.ifCond .lt 25, 3) := by decide +kernel
theorem dX4_hasRun_8 : decode cX4_hasRun 8 = .ok (.iload_n 1, 1) := by decide +kernel
theorem dX4_hasRun_9 : decode cX4_hasRun 9 = .ok (.aload_n 0, 1) := by decide +kernel
theorem dX4_hasRun_10 : decode cX4_hasRun 10 = .ok (.getfield 19, 3) := by decide +kernel
theorem dX4_hasRun_13 : decode cX4_hasRun 13 = .ok (.if_icmp .gt 17, 3) := by decide +kernel
theorem dX4_hasRun_16 : decode cX4_hasRun 16 = .ok (.iload_n 2, 1) := by decide +kernel
theorem dX4_hasRun_17 : decode cX4_hasRun 17 = .ok (.aload_n 0, 1) := by decide +kernel
theorem dX4_hasRun_18 : decode cX4_hasRun 18 = .ok (.getfield 19, 3) := by decide +kernel
theorem dX4_hasRun_21 : decode cX4_hasRun 21 = .ok (.iload_n 1, 1) := by decide +kernel
theorem dX4_hasRun_22 : decode cX4_hasRun 22 = .ok (.isub, 1) := by decide +kernel
theorem dX4_hasRun_23 : decode cX4_hasRun 23 = .ok (.if_icmp .gt 7, 3) := by decide +kernel
theorem dX4_hasRun_26 : decode cX4_hasRun 26 = .ok (.iconst 1, 1) := by decide +kernel
theorem dX4_hasRun_27 : decode cX4_hasRun 27 = .ok (.goto 4, 3) := by decide +kernel
theorem dX4_hasRun_30 : decode cX4_hasRun 30 = .ok (.iconst 0, 1) := by decide +kernel
theorem dX4_hasRun_31 : decode cX4_hasRun 31 = .ok (.ireturn, 1) := by decide +kernel
theorem dX4_cut_0 : decode cX4_cut 0 = .ok (.aload_n 0, 1) := by decide +kernel
theorem dX4_cut_1 : decode cX4_cut 1 = .ok (.getfield 15, 3) := by decide +kernel
theorem dX4_cut_4 : decode cX4_cut 4 = .ok (.ifCond .ne 6, 3) := by decide +kernel
theorem dX4_cut_7 : decode cX4_cut 7 = .ok (.iload_n 1, 1) := by decide +kernel
theorem dX4_cut_8 : decode cX4_cut 8 = .ok (.i2b, 1) := by decide +kernel
theorem dX4_cut_9 : decode cX4_cut 9 = .ok (.ireturn, 1) := by decide +kernel
theorem dX4_cut_10 : decode cX4_cut 10 = .ok (.aload_n 0, 1) := by decide +kernel
theorem dX4_cut_11 : decode cX4_cut 11 = .ok (.getfield 15, 3) := by decide +kernel
theorem dX4_cut_14 : decode cX4_cut 14 = .ok (.iconst 1, 1) := by decide +kernel
theorem dX4_cut_15 : decode cX4_cut 15 = .ok (.if_icmp .ne 8, 3) := by decide +kernel
theorem dX4_cut_18 : decode cX4_cut 18 = .ok (.iload_n 1, 1) := by decide +kernel
theorem dX4_cut_19 : decode cX4_cut 19 = .ok (.i2s, 1) := by decide +kernel
theorem dX4_cut_20 : decode cX4_cut 20 = .ok (.goto 4, 3) := by decide +kernel
theorem dX4_cut_23 : decode cX4_cut 23 = .ok (.iload_n 1, 1) := by decide +kernel
theorem dX4_cut_24 : decode cX4_cut 24 = .ok (.ireturn, 1) := by decide +kernel
theorem dX5_init_0 : decode cX5_init 0 = .ok (.aload_n 0, 1) := by decide +kernel
theorem dX5_init_1 : decode cX5_init 1 = .ok (.invokespecial 3, 3) := by decide +kernel
theorem dX5_init_4 : decode cX5_init 4 = .ok (.aload_n 0, 1) := by decide +kernel
theorem dX5_init_5 : decode cX5_init 5 = .ok (.iconst 0, 1) := by decide +kernel
theorem dX5_init_6 : decode cX5_init 6 = .ok (.putfield 9, 3) := by decide +kernel
theorem dX5_init_9 : decode cX5_init 9 = .ok (.aload_n 0, 1) := by decide +kernel
theorem dX5_init_10 : decode cX5_init 10 = .ok (.iload_n 1, 1) := by decide +kernel
theorem dX5_init_11 : decode cX5_init 11 = .ok (.iconst 0, 1) := by decide +kernel
theorem dX5_init_12 : decode cX5_init 12 = .ok (.invokestatic 15, 3) := by decide +kernel
theorem dX5_init_15 : decode cX5_init 15 = .ok (.newarray .int, 2) := by decide +kernel
theorem dX5_init_17 : decode cX5_init 17 = .ok (.putfield 21, 3) := by decide +kernel
theorem dX5_init_20 : decode cX5_init 20 = .ok (.return_, 1) := by decide +kernel
theorem dX5_isFull_0 : decode cX5_isFull 0 = .ok (.aload_n 0, 1) := by decide +kernel
theorem dX5_isFull_1 : decode cX5_isFull 1 = .ok (.getfield 9, 3) := by decide +kernel
theorem dX5_isFull_4 : decode cX5_isFull 4 = .ok (.aload_n 0, 1) := by decide +kernel
theorem dX5_isFull_5 : decode cX5_isFull 5 = .ok (.getfield 21, 3) := by decide +kernel
theorem dX5_isFull_8 : decode cX5_isFull 8 = .ok (.arraylength, 1) := by decide +kernel
theorem dX5_isFull_9 : decode cX5_isFull 9 = .ok (.if_icmp .lt 7, 3) := by decide +kernel
theorem dX5_isFull_12 : decode cX5_isFull 12 = .ok (.iconst 1, 1) := by decide +kernel
theorem dX5_isFull_13 : decode cX5_isFull 13 = .ok (.goto 4, 3) := by decide +kernel
theorem dX5_isFull_16 : decode cX5_isFull 16 = .ok (.iconst 0, 1) := by decide +kernel
theorem dX5_isFull_17 : decode cX5_isFull 17 = .ok (.ireturn, 1) := by decide +kernel
theorem dX5_append_0 : decode cX5_append 0 = .ok (.aload_n 0, 1) := by decide +kernel
theorem dX5_append_1 : decode cX5_append 1 = .ok (.getfield 9, 3) := by decide +kernel
theorem dX5_append_4 : decode cX5_append 4 = .ok (.aload_n 0, 1) := by decide +kernel
theorem dX5_append_5 : decode cX5_append 5 = .ok (.getfield 21, 3) := by decide +kernel
theorem dX5_append_8 : decode cX5_append 8 = .ok (.arraylength, 1) := by decide +kernel
theorem dX5_append_9 : decode cX5_append 9 = .ok (.invokestatic 25, 3) := by decide +kernel
theorem dX5_append_12 : decode cX5_append 12 = .ok (.ifCond .eq 23, 3) := by decide +kernel
theorem dX5_append_15 : decode cX5_append 15 = .ok (.aload_n 0, 1) := by decide +kernel
theorem dX5_append_16 : decode cX5_append 16 = .ok (.getfield 21, 3) := by decide +kernel
theorem dX5_append_19 : decode cX5_append 19 = .ok (.aload_n 0, 1) := by decide +kernel
theorem dX5_append_20 : decode cX5_append 20 = .ok (.getfield 9, 3) := by decide +kernel
theorem dX5_append_23 : decode cX5_append 23 = .ok (.iload_n 1, 1) := by decide +kernel
theorem dX5_append_24 : decode cX5_append 24 = .ok (.iastore, 1) := by decide +kernel
theorem dX5_append_25 : decode cX5_append 25 = .ok (.aload_n 0, 1) := by decide +kernel
theorem dX5_append_26 : decode cX5_append 26 = .ok (.dup, 1) := by decide +kernel
theorem dX5_append_27 : decode cX5_append 27 = .ok (.getfield 9, 3) := by decide +kernel
theorem dX5_append_30 : decode cX5_append 30 = .ok (.iconst 1, 1) := by decide +kernel
theorem dX5_append_31 : decode cX5_append 31 = .ok (.iadd, 1) := by decide +kernel
theorem dX5_append_32 : decode cX5_append 32 = .ok (.putfield 9, 3) := by decide +kernel
theorem dX5_append_35 : decode cX5_append 35 = .ok (.return_, 1) := by decide +kernel
theorem dX5_dropLast_0 : decode cX5_dropLast 0 = .ok (.aload_n 0, 1) := by decide +kernel
theorem dX5_dropLast_1 : decode cX5_dropLast 1 = .ok (.aload_n 0, 1) := by decide +kernel
theorem dX5_dropLast_2 : decode cX5_dropLast 2 = .ok (.getfield 9, 3) := by decide +kernel
theorem dX5_dropLast_5 : decode cX5_dropLast 5 = .ok (.iconst 1, 1) := by decide +kernel
theorem dX5_dropLast_6 : decode cX5_dropLast 6 = .ok (.isub, 1) := by decide +kernel
theorem dX5_dropLast_7 : decode cX5_dropLast 7 = .ok (.iconst 0, 1) := by decide +kernel
theorem dX5_dropLast_8 : decode cX5_dropLast 8 = .ok (.invokestatic 15, 3) := by decide +kernel
theorem dX5_dropLast_11 : decode cX5_dropLast 11 = .ok (.putfield 9, 3) := by decide +kernel
theorem dX5_dropLast_14 : decode cX5_dropLast 14 = .ok (.return_, 1) := by decide +kernel
theorem dX5_clear_0 : decode cX5_clear 0 = .ok (.aload_n 0, 1) := by decide +kernel
theorem dX5_clear_1 : decode cX5_clear 1 = .ok (.iconst 0, 1) := by decide +kernel
theorem dX5_clear_2 : decode cX5_clear 2 = .ok (.putfield 9, 3) := by decide +kernel
theorem dX5_clear_5 : decode cX5_clear 5 = .ok (.return_, 1) := by decide +kernel
theorem dX5_firstFault_0 : decode cX5_firstFault 0 = .ok (.iconst 0, 1) := by decide +kernel
theorem dX5_firstFault_1 : decode cX5_firstFault 1 = .ok (.istore_n 1, 1) := by decide +kernel
theorem dX5_firstFault_2 : decode cX5_firstFault 2 = .ok (.iload_n 1, 1) := by decide +kernel
theorem dX5_firstFault_3 : decode cX5_firstFault 3 = .ok (.aload_n 0, 1) := by decide +kernel
theorem dX5_firstFault_4 : decode cX5_firstFault 4 = .ok (.getfield 9, 3) := by decide +kernel
theorem dX5_firstFault_7 : decode cX5_firstFault 7 = .ok (.if_icmp .ge 42, 3) := by decide +kernel
theorem dX5_firstFault_10 : decode cX5_firstFault 10 = .ok (.iload_n 1, 1) := by decide +kernel
theorem dX5_firstFault_11 : decode cX5_firstFault 11 = .ok (.aload_n 0, 1) := by decide +kernel
theorem dX5_firstFault_12 : decode cX5_firstFault 12 = .ok (.getfield 21, 3) := by decide +kernel
theorem dX5_firstFault_15 : decode cX5_firstFault 15 = .ok (.arraylength, 1) := by decide +kernel
theorem dX5_firstFault_16 : decode cX5_firstFault 16 = .ok (.if_icmp .ge 33, 3) := by decide +kernel
theorem dX5_firstFault_19 : decode cX5_firstFault 19 = .ok (.aload_n 0, 1) := by decide +kernel
theorem dX5_firstFault_20 : decode cX5_firstFault 20 = .ok (.getfield 21, 3) := by decide +kernel
theorem dX5_firstFault_23 : decode cX5_firstFault 23 = .ok (.iload_n 1, 1) := by decide +kernel
theorem dX5_firstFault_24 : decode cX5_firstFault 24 = .ok (.iaload, 1) := by decide +kernel
theorem dX5_firstFault_25 : decode cX5_firstFault 25 = .ok (.bipush 48, 2) := by decide +kernel
theorem dX5_firstFault_27 : decode cX5_firstFault 27 = .ok (.if_icmp .lt 14, 3) := by decide +kernel
theorem dX5_firstFault_30 : decode cX5_firstFault 30 = .ok (.aload_n 0, 1) := by decide +kernel
theorem dX5_firstFault_31 : decode cX5_firstFault 31 = .ok (.getfield 21, 3) := by decide +kernel
theorem dX5_firstFault_34 : decode cX5_firstFault 34 = .ok (.iload_n 1, 1) := by decide +kernel
theorem dX5_firstFault_35 : decode cX5_firstFault 35 = .ok (.iaload, 1) := by decide +kernel
theorem dX5_firstFault_36 : decode cX5_firstFault 36 = .ok (.bipush 57, 2) := by decide +kernel
theorem dX5_firstFault_38 : decode cX5_firstFault 38 = .ok (.if_icmp .le 5, 3) := by decide +kernel
theorem dX5_firstFault_41 : decode cX5_firstFault 41 = .ok (.iload_n 1, 1) := by decide +kernel
theorem dX5_firstFault_42 : decode cX5_firstFault 42 = .ok (.ireturn, 1) := by decide +kernel
theorem dX5_firstFault_43 : decode cX5_firstFault 43 = .ok (.iinc 1 1, 3) := by decide +kernel
theorem dX5_firstFault_46 : decode cX5_firstFault 46 = .ok (.goto (-44), 3) := by decide +kernel
theorem dX5_firstFault_49 : decode cX5_firstFault 49 = .ok (.iconst (-1), 1) := by decide +kernel
theorem dX5_firstFault_50 : decode cX5_firstFault 50 = .ok (.ireturn, 1) := by decide +kernel
theorem dX5_told_0 : decode cX5_told 0 = .ok (.aload_n 0, 1) := by decide +kernel
theorem dX5_told_1 : decode cX5_told 1 = .ok (.invokevirtual 29, 3) := by decide +kernel
theorem dX5_told_4 : decode cX5_told 4 = .ok (.iconst (-1), 1) := by decide +kernel
theorem dX5_told_5 : decode cX5_told 5 = .ok (.if_icmp .ne 10, 3) := by decide +kernel
theorem dX5_told_8 : decode cX5_told 8 = .ok (.aload_n 0, 1) := by decide +kernel
theorem dX5_told_9 : decode cX5_told 9 = .ok (.getfield 9, 3) := by decide +kernel
theorem dX5_told_12 : decode cX5_told 12 = .ok (.goto 4, 3) := by decide +kernel
theorem dX5_told_15 : decode cX5_told 15 = .ok (.iconst 0, 1) := by decide +kernel
theorem dX5_told_16 : decode cX5_told 16 = .ok (.ireturn, 1) := by decide +kernel
theorem dX5_figure_0 : decode cX5_figure 0 = .ok (.iload_n 1, 1) := by decide +kernel
theorem dX5_figure_1 : decode cX5_figure 1 = .ok (.aload_n 0, 1) := by decide +kernel
theorem dX5_figure_2 : decode cX5_figure 2 = .ok (.getfield 9, 3) := by decide +kernel
theorem dX5_figure_5 : decode cX5_figure 5 = .ok (.invokestatic 25, 3) := by decide +kernel
theorem dX5_figure_8 : decode cX5_figure 8 = .ok (.ifCond .eq 27, 3) := by decide +kernel
theorem dX5_figure_11 : decode cX5_figure 11 = .ok (.iload_n 1, 1) := by decide +kernel
theorem dX5_figure_12 : decode cX5_figure 12 = .ok (.aload_n 0, 1) := by decide +kernel
theorem dX5_figure_13 : decode cX5_figure 13 = .ok (.getfield 21, 3) := by decide +kernel
theorem dX5_figure_16 : decode cX5_figure 16 = .ok (.arraylength, 1) := by decide +kernel
theorem dX5_figure_17 : decode cX5_figure 17 = .ok (.invokestatic 25, 3) := by decide +kernel
theorem dX5_figure_20 : decode cX5_figure 20 = .ok (.ifCond .eq 15, 3) := by decide +kernel
theorem dX5_figure_23 : decode cX5_figure 23 = .ok (.aload_n 0, 1) := by decide +kernel
theorem dX5_figure_24 : decode cX5_figure 24 = .ok (.getfield 21, 3) := by decide +kernel
theorem dX5_figure_27 : decode cX5_figure 27 = .ok (.iload_n 1, 1) := by decide +kernel
theorem dX5_figure_28 : decode cX5_figure 28 = .ok (.iaload, 1) := by decide +kernel
theorem dX5_figure_29 : decode cX5_figure 29 = .ok (.bipush 48, 2) := by decide +kernel
theorem dX5_figure_31 : decode cX5_figure 31 = .ok (.isub, 1) := by decide +kernel
theorem dX5_figure_32 : decode cX5_figure 32 = .ok (.goto 4, 3) := by decide +kernel
theorem dX5_figure_35 : decode cX5_figure 35 = .ok (.iconst 0, 1) := by decide +kernel
theorem dX5_figure_36 : decode cX5_figure 36 = .ok (.ireturn, 1) := by decide +kernel
