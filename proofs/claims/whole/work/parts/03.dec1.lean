theorem dX6_init_0 : decode cX6_init 0 = .ok (.aload_n 0, 1) := by decide +kernel
theorem dX6_init_1 : decode cX6_init 1 = .ok (.invokespecial 3, 3) := by decide +kernel
theorem dX6_init_4 : decode cX6_init 4 = .ok (.aload_n 0, 1) := by decide +kernel
theorem dX6_init_5 : decode cX6_init 5 = .ok (.iconst 3, 1) := by decide +kernel
theorem dX6_init_6 : decode cX6_init 6 = .ok (.bipush 30, 2) := by decide +kernel
theorem dX6_init_8 : decode cX6_init 8 = .ok (.multianewarray 9 2, 4) := by decide +kernel
theorem dX6_init_12 : decode cX6_init 12 = .ok (.putfield 11, 3) := by decide +kernel
theorem dX6_init_15 : decode cX6_init 15 = .ok (.aload_n 0, 1) := by decide +kernel
theorem dX6_init_16 : decode cX6_init 16 = .ok (.iconst 3, 1) := by decide +kernel
theorem dX6_init_17 : decode cX6_init 17 = .ok (.bipush 30, 2) := by decide +kernel
theorem dX6_init_19 : decode cX6_init 19 = .ok (.multianewarray 9 2, 4) := by decide +kernel
theorem dX6_init_23 : decode cX6_init 23 = .ok (.putfield 16, 3) := by decide +kernel
theorem dX6_init_26 : decode cX6_init 26 = .ok (.aload_n 0, 1) := by decide +kernel
theorem dX6_init_27 : decode cX6_init 27 = .ok (.iconst 3, 1) := by decide +kernel
theorem dX6_init_28 : decode cX6_init 28 = .ok (.newarray .int, 2) := by decide +kernel
theorem dX6_init_30 : decode cX6_init 30 = .ok (.putfield 19, 3) := by decide +kernel
theorem dX6_init_33 : decode cX6_init 33 = .ok (.aload_n 0, 1) := by decide +kernel
theorem dX6_init_34 : decode cX6_init 34 = .ok (.bipush 10, 2) := by decide +kernel
theorem dX6_init_36 : decode cX6_init 36 = .ok (.newarray .int, 2) := by decide +kernel
theorem dX6_init_38 : decode cX6_init 38 = .ok (.putfield 23, 3) := by decide +kernel
theorem dX6_init_41 : decode cX6_init 41 = .ok (.aload_n 0, 1) := by decide +kernel
theorem dX6_init_42 : decode cX6_init 42 = .ok (.bipush 30, 2) := by decide +kernel
theorem dX6_init_44 : decode cX6_init 44 = .ok (.newarray .int, 2) := by decide +kernel
theorem dX6_init_46 : decode cX6_init 46 = .ok (.putfield 26, 3) := by decide +kernel
theorem dX6_init_49 : decode cX6_init 49 = .ok (.aload_n 0, 1) := by decide +kernel
theorem dX6_init_50 : decode cX6_init 50 = .ok (.iconst 1, 1) := by decide +kernel
theorem dX6_init_51 : decode cX6_init 51 = .ok (.putfield 29, 3) := by decide +kernel
theorem dX6_init_54 : decode cX6_init 54 = .ok (.aload_n 0, 1) := by decide +kernel
theorem dX6_init_55 : decode cX6_init 55 = .ok (.aload_n 1, 1) := by decide +kernel
theorem dX6_init_56 : decode cX6_init 56 = .ok (.putfield 33, 3) := by decide +kernel
theorem dX6_init_59 : decode cX6_init 59 = .ok (.aload_n 0, 1) := by decide +kernel
theorem dX6_init_60 : decode cX6_init 60 = .ok (.aload_n 2, 1) := by decide +kernel
theorem dX6_init_61 : decode cX6_init 61 = .ok (.putfield 37, 3) := by decide +kernel
theorem dX6_init_64 : decode cX6_init 64 = .ok (.aload_n 0, 1) := by decide +kernel
theorem dX6_init_65 : decode cX6_init 65 = .ok (.aload_n 3, 1) := by decide +kernel
theorem dX6_init_66 : decode cX6_init 66 = .ok (.putfield 40, 3) := by decide +kernel
theorem dX6_init_69 : decode cX6_init 69 = .ok (.return_, 1) := by decide +kernel
theorem dX6_change_0 : decode cX6_change 0 = .ok (.aload_n 0, 1) := by decide +kernel
theorem dX6_change_1 : decode cX6_change 1 = .ok (.iconst 1, 1) := by decide +kernel
theorem dX6_change_2 : decode cX6_change 2 = .ok (.putfield 29, 3) := by decide +kernel
theorem dX6_change_5 : decode cX6_change 5 = .ok (.return_, 1) := by decide +kernel
theorem dX6_refresh_0 : decode cX6_refresh 0 = .ok (.aload_n 0, 1) := by decide +kernel
theorem dX6_refresh_1 : decode cX6_refresh 1 = .ok (.getfield 29, 3) := by decide +kernel
theorem dX6_refresh_4 : decode cX6_refresh 4 = .ok (.ifCond .ne 4, 3) := by decide +kernel
theorem dX6_refresh_7 : decode cX6_refresh 7 = .ok (.return_, 1) := by decide +kernel
theorem dX6_refresh_8 : decode cX6_refresh 8 = .ok (.aload_n 0, 1) := by decide +kernel
theorem dX6_refresh_9 : decode cX6_refresh 9 = .ok (.invokevirtual 44, 3) := by decide +kernel
theorem dX6_refresh_12 : decode cX6_refresh 12 = .ok (.iconst 0, 1) := by decide +kernel
theorem dX6_refresh_13 : decode cX6_refresh 13 = .ok (.istore_n 1, 1) := by decide +kernel
theorem dX6_refresh_14 : decode cX6_refresh 14 = .ok (.iload_n 1, 1) := by decide +kernel
theorem dX6_refresh_15 : decode cX6_refresh 15 = .ok (.bipush 30, 2) := by decide +kernel
theorem dX6_refresh_17 : decode cX6_refresh 17 = .ok (.if_icmp .ge 23, 3) := by decide +kernel
theorem dX6_refresh_20 : decode cX6_refresh 20 = .ok (.aload_n 0, 1) := by decide +kernel
theorem dX6_refresh_21 : decode cX6_refresh 21 = .ok (.getfield 26, 3) := by decide +kernel
theorem dX6_refresh_24 : decode cX6_refresh 24 = .ok (.iload_n 1, 1) := by decide +kernel
theorem dX6_refresh_25 : decode cX6_refresh 25 = .ok (.aload_n 0, 1) := by decide +kernel
theorem dX6_refresh_26 : decode cX6_refresh 26 = .ok (.getfield 40, 3) := by decide +kernel
theorem dX6_refresh_29 : decode cX6_refresh 29 = .ok (.iload_n 1, 1) := by decide +kernel
theorem dX6_refresh_30 : decode cX6_refresh 30 = .ok (.invokevirtual 47, 3) := by decide +kernel
theorem dX6_refresh_33 : decode cX6_refresh 33 = .ok (.iastore, 1) := by decide +kernel
theorem dX6_refresh_34 : decode cX6_refresh 34 = .ok (.iinc 1 1, 3) := by decide +kernel
theorem dX6_refresh_37 : decode cX6_refresh 37 = .ok (.goto (-23), 3) := by decide +kernel
theorem dX6_refresh_40 : decode cX6_refresh 40 = .ok (.iconst 0, 1) := by decide +kernel
theorem dX6_refresh_41 : decode cX6_refresh 41 = .ok (.istore_n 1, 1) := by decide +kernel
theorem dX6_refresh_42 : decode cX6_refresh 42 = .ok (.iload_n 1, 1) := by decide +kernel
theorem dX6_refresh_43 : decode cX6_refresh 43 = .ok (.iconst 3, 1) := by decide +kernel
theorem dX6_refresh_44 : decode cX6_refresh 44 = .ok (.if_icmp .ge 30, 3) := by decide +kernel
theorem dX6_refresh_47 : decode cX6_refresh 47 = .ok (.aload_n 0, 1) := by decide +kernel
theorem dX6_refresh_48 : decode cX6_refresh 48 = .ok (.iload_n 1, 1) := by decide +kernel
theorem dX6_refresh_49 : decode cX6_refresh 49 = .ok (.invokevirtual 52, 3) := by decide +kernel
theorem dX6_refresh_52 : decode cX6_refresh 52 = .ok (.aload_n 0, 1) := by decide +kernel
theorem dX6_refresh_53 : decode cX6_refresh 53 = .ok (.getfield 19, 3) := by decide +kernel
theorem dX6_refresh_56 : decode cX6_refresh 56 = .ok (.iload_n 1, 1) := by decide +kernel
theorem dX6_refresh_57 : decode cX6_refresh 57 = .ok (.aload_n 0, 1) := by decide +kernel
theorem dX6_refresh_58 : decode cX6_refresh 58 = .ok (.iload_n 1, 1) := by decide +kernel
theorem dX6_refresh_59 : decode cX6_refresh 59 = .ok (.invokevirtual 56, 3) := by decide +kernel
theorem dX6_refresh_62 : decode cX6_refresh 62 = .ok (.iastore, 1) := by decide +kernel
theorem dX6_refresh_63 : decode cX6_refresh 63 = .ok (.aload_n 0, 1) := by decide +kernel
theorem dX6_refresh_64 : decode cX6_refresh 64 = .ok (.iload_n 1, 1) := by decide +kernel
theorem dX6_refresh_65 : decode cX6_refresh 65 = .ok (.invokevirtual 59, 3) := by decide +kernel
theorem dX6_refresh_68 : decode cX6_refresh 68 = .ok (.iinc 1 1, 3) := by decide +kernel
theorem dX6_refresh_71 : decode cX6_refresh 71 = .ok (.goto (-29), 3) := by decide +kernel
theorem dX6_refresh_74 : decode cX6_refresh 74 = .ok (.aload_n 0, 1) := by decide +kernel
theorem dX6_refresh_75 : decode cX6_refresh 75 = .ok (.iconst 0, 1) := by decide +kernel
theorem dX6_refresh_76 : decode cX6_refresh 76 = .ok (.putfield 29, 3) := by decide +kernel
theorem dX6_refresh_79 : decode cX6_refresh 79 = .ok (.return_, 1) := by decide +kernel
theorem dX6_levelOn_0 : decode cX6_levelOn 0 = .ok (.iload_n 1, 1) := by decide +kernel
theorem dX6_levelOn_1 : decode cX6_levelOn 1 = .ok (.iload_n 2, 1) := by decide +kernel
theorem dX6_levelOn_2 : decode cX6_levelOn 2 = .ok (.invokestatic 62, 3) := by decide +kernel
theorem dX6_levelOn_5 : decode cX6_levelOn 5 = .ok (.ifCond .eq 14, 3) := by decide +kernel
theorem dX6_levelOn_8 : decode cX6_levelOn 8 = .ok (.aload_n 0, 1) := by decide +kernel
theorem dX6_levelOn_9 : decode cX6_levelOn 9 = .ok (.getfield 11, 3) := by decide +kernel
theorem dX6_levelOn_12 : decode cX6_levelOn 12 = .ok (.iload_n 1, 1) := by decide +kernel
theorem dX6_levelOn_13 : decode cX6_levelOn 13 = .ok (.aaload, 1) := by decide +kernel
theorem dX6_levelOn_14 : decode cX6_levelOn 14 = .ok (.iload_n 2, 1) := by decide +kernel
theorem dX6_levelOn_15 : decode cX6_levelOn 15 = .ok (.iaload, 1) := by decide +kernel
theorem dX6_levelOn_16 : decode cX6_levelOn 16 = .ok (.goto 4, 3) := by decide +kernel
theorem dX6_levelOn_19 : decode cX6_levelOn 19 = .ok (.iconst 0, 1) := by decide +kernel
theorem dX6_levelOn_20 : decode cX6_levelOn 20 = .ok (.ireturn, 1) := by decide +kernel
theorem dX6_lentFrom_0 : decode cX6_lentFrom 0 = .ok (.iload_n 1, 1) := by decide +kernel
theorem dX6_lentFrom_1 : decode cX6_lentFrom 1 = .ok (.iconst 3, 1) := by decide +kernel
theorem dX6_lentFrom_2 : decode cX6_lentFrom 2 = .ok (.invokestatic 66, 3) := by decide +kernel
theorem dX6_lentFrom_5 : decode cX6_lentFrom 5 = .ok (.ifCond .eq 12, 3) := by decide +kernel
theorem dX6_lentFrom_8 : decode cX6_lentFrom 8 = .ok (.aload_n 0, 1) := by decide +kernel
theorem dX6_lentFrom_9 : decode cX6_lentFrom 9 = .ok (.getfield 19, 3) := by decide +kernel
theorem dX6_lentFrom_12 : decode cX6_lentFrom 12 = .ok (.iload_n 1, 1) := by decide +kernel
theorem dX6_lentFrom_13 : decode cX6_lentFrom 13 = .ok (.iaload, 1) := by decide +kernel
theorem dX6_lentFrom_14 : decode cX6_lentFrom 14 = .ok (.goto 4, 3) := by decide +kernel
theorem dX6_lentFrom_17 : decode cX6_lentFrom 17 = .ok (.iconst (-1), 1) := by decide +kernel
theorem dX6_lentFrom_18 : decode cX6_lentFrom 18 = .ok (.ireturn, 1) := by decide +kernel
theorem dX6_wetYards_0 : decode cX6_wetYards 0 = .ok (.iload_n 1, 1) := by decide +kernel
theorem dX6_wetYards_1 : decode cX6_wetYards 1 = .ok (.iload_n 2, 1) := by decide +kernel
theorem dX6_wetYards_2 : decode cX6_wetYards 2 = .ok (.invokestatic 62, 3) := by decide +kernel
theorem dX6_wetYards_5 : decode cX6_wetYards 5 = .ok (.ifCond .eq 14, 3) := by decide +kernel
theorem dX6_wetYards_8 : decode cX6_wetYards 8 = .ok (.aload_n 0, 1) := by decide +kernel
theorem dX6_wetYards_9 : decode cX6_wetYards 9 = .ok (.getfield 16, 3) := by decide +kernel
theorem dX6_wetYards_12 : decode cX6_wetYards 12 = .ok (.iload_n 1, 1) := by decide +kernel
theorem dX6_wetYards_13 : decode cX6_wetYards 13 = .ok (.aaload, 1) := by decide +kernel
theorem dX6_wetYards_14 : decode cX6_wetYards 14 = .ok (.iload_n 2, 1) := by decide +kernel
theorem dX6_wetYards_15 : decode cX6_wetYards 15 = .ok (.iaload, 1) := by decide +kernel
theorem dX6_wetYards_16 : decode cX6_wetYards 16 = .ok (.goto 4, 3) := by decide +kernel
theorem dX6_wetYards_19 : decode cX6_wetYards 19 = .ok (.iconst 0, 1) := by decide +kernel
theorem dX6_wetYards_20 : decode cX6_wetYards 20 = .ok (.ireturn, 1) := by decide +kernel
theorem dX6_parting_0 : decode cX6_parting 0 = .ok (.iload_n 1, 1) := by decide +kernel
theorem dX6_parting_1 : decode cX6_parting 1 = .ok (.iconst 3, 1) := by decide +kernel
theorem dX6_parting_2 : decode cX6_parting 2 = .ok (.invokestatic 66, 3) := by decide +kernel
theorem dX6_parting_5 : decode cX6_parting 5 = .ok (.ifCond .eq 11, 3) := by decide +kernel
theorem dX6_parting_8 : decode cX6_parting 8 = .ok (.iload_n 2, 1) := by decide +kernel
theorem dX6_parting_9 : decode cX6_parting 9 = .ok (.iconst 3, 1) := by decide +kernel
theorem dX6_parting_10 : decode cX6_parting 10 = .ok (.invokestatic 66, 3) := by decide +kernel
theorem dX6_parting_13 : decode cX6_parting 13 = .ok (.ifCond .ne 6, 3) := by decide +kernel
theorem dX6_parting_16 : decode cX6_parting 16 = .ok (.bipush 30, 2) := by decide +kernel
theorem dX6_parting_18 : decode cX6_parting 18 = .ok (.ireturn, 1) := by decide +kernel
theorem dX6_parting_19 : decode cX6_parting 19 = .ok (.iconst 0, 1) := by decide +kernel
theorem dX6_parting_20 : decode cX6_parting 20 = .ok (.istore_n 3, 1) := by decide +kernel
theorem dX6_parting_21 : decode cX6_parting 21 = .ok (.iload_n 3, 1) := by decide +kernel
theorem dX6_parting_22 : decode cX6_parting 22 = .ok (.bipush 30, 2) := by decide +kernel
theorem dX6_parting_24 : decode cX6_parting 24 = .ok (.if_icmp .ge 30, 3) := by decide +kernel
theorem dX6_parting_27 : decode cX6_parting 27 = .ok (.aload_n 0, 1) := by decide +kernel
theorem dX6_parting_28 : decode cX6_parting 28 = .ok (.getfield 11, 3) := by decide +kernel
theorem dX6_parting_31 : decode cX6_parting 31 = .ok (.iload_n 1, 1) := by decide +kernel
theorem dX6_parting_32 : decode cX6_parting 32 = .ok (.aaload, 1) := by decide +kernel
theorem dX6_parting_33 : decode cX6_parting 33 = .ok (.iload_n 3, 1) := by decide +kernel
theorem dX6_parting_34 : decode cX6_parting 34 = .ok (.iaload, 1) := by decide +kernel
theorem dX6_parting_35 : decode cX6_parting 35 = .ok (.aload_n 0, 1) := by decide +kernel
theorem dX6_parting_36 : decode cX6_parting 36 = .ok (.getfield 11, 3) := by decide +kernel
theorem dX6_parting_39 : decode cX6_parting 39 = .ok (.iload_n 2, 1) := by decide +kernel
theorem dX6_parting_40 : decode cX6_parting 40 = .ok (.aaload, 1) := by decide +kernel
theorem dX6_parting_41 : decode cX6_parting 41 = .ok (.iload_n 3, 1) := by decide +kernel
theorem dX6_parting_42 : decode cX6_parting 42 = .ok (.iaload, 1) := by decide +kernel
theorem dX6_parting_43 : decode cX6_parting 43 = .ok (.if_icmp .eq 5, 3) := by decide +kernel
theorem dX6_parting_46 : decode cX6_parting 46 = .ok (.iload_n 3, 1) := by decide +kernel
theorem dX6_parting_47 : decode cX6_parting 47 = .ok (.ireturn, 1) := by decide +kernel
theorem dX6_parting_48 : decode cX6_parting 48 = .ok (.iinc 3 1, 3) := by decide +kernel
theorem dX6_parting_51 : decode cX6_parting 51 = .ok (.goto (-30), 3) := by decide +kernel
theorem dX6_parting_54 : decode cX6_parting 54 = .ok (.bipush 30, 2) := by decide +kernel
theorem dX6_parting_56 : decode cX6_parting 56 = .ok (.ireturn, 1) := by decide +kernel
theorem dX6_closedDays_0 : decode cX6_closedDays 0 = .ok (.iconst 0, 1) := by decide +kernel
theorem dX6_closedDays_1 : decode cX6_closedDays 1 = .ok (.istore_n 3, 1) := by decide +kernel
theorem dX6_closedDays_2 : decode cX6_closedDays 2 = .ok (.iconst 0, 1) := by decide +kernel
theorem dX6_closedDays_3 : decode cX6_closedDays 3 = .ok (.istore 4, 2) := by decide +kernel
theorem dX6_closedDays_5 : decode cX6_closedDays 5 = .ok (.iload 4, 2) := by decide +kernel
theorem dX6_closedDays_7 : decode cX6_closedDays 7 = .ok (.bipush 30, 2) := by decide +kernel
theorem dX6_closedDays_9 : decode cX6_closedDays 9 = .ok (.if_icmp .ge 23, 3) := by decide +kernel
theorem dX6_closedDays_12 : decode cX6_closedDays 12 = .ok (.iload_n 3, 1) := by decide +kernel
theorem dX6_closedDays_13 : decode cX6_closedDays 13 = .ok (.aload_n 0, 1) := by decide +kernel
theorem dX6_closedDays_14 : decode cX6_closedDays 14 = .ok (.iload_n 1, 1) := by decide +kernel
theorem dX6_closedDays_15 : decode cX6_closedDays 15 = .ok (.iload 4, 2) := by decide +kernel
theorem dX6_closedDays_17 : decode cX6_closedDays 17 = .ok (.invokevirtual 69, 3) := by decide +kernel
theorem dX6_closedDays_20 : decode cX6_closedDays 20 = .ok (.iload_n 2, 1) := by decide +kernel
theorem dX6_closedDays_21 : decode cX6_closedDays 21 = .ok (.ishr, 1) := by decide +kernel
theorem dX6_closedDays_22 : decode cX6_closedDays 22 = .ok (.iconst 1, 1) := by decide +kernel
theorem dX6_closedDays_23 : decode cX6_closedDays 23 = .ok (.iand, 1) := by decide +kernel
theorem dX6_closedDays_24 : decode cX6_closedDays 24 = .ok (.iadd, 1) := by decide +kernel
theorem dX6_closedDays_25 : decode cX6_closedDays 25 = .ok (.istore_n 3, 1) := by decide +kernel
theorem dX6_closedDays_26 : decode cX6_closedDays 26 = .ok (.iinc 4 1, 3) := by decide +kernel
theorem dX6_closedDays_29 : decode cX6_closedDays 29 = .ok (.goto (-24), 3) := by decide +kernel
theorem dX6_closedDays_32 : decode cX6_closedDays 32 = .ok (.iload_n 3, 1) := by decide +kernel
theorem dX6_closedDays_33 : decode cX6_closedDays 33 = .ok (.ireturn, 1) := by decide +kernel
theorem dX6_fillLowYards_0 : decode cX6_fillLowYards 0 = .ok (.aload_n 0, 1) := by decide +kernel
theorem dX6_fillLowYards_1 : decode cX6_fillLowYards 1 = .ok (.getfield 33, 3) := by decide +kernel
theorem dX6_fillLowYards_4 : decode cX6_fillLowYards 4 = .ok (.iconst 3, 1) := by decide +kernel
theorem dX6_fillLowYards_5 : decode cX6_fillLowYards 5 = .ok (.aaload, 1) := by decide +kernel
theorem dX6_fillLowYards_6 : decode cX6_fillLowYards 6 = .ok (.invokevirtual 73, 3) := by decide +kernel
theorem dX6_fillLowYards_9 : decode cX6_fillLowYards 9 = .ok (.istore_n 1, 1) := by decide +kernel
theorem dX6_fillLowYards_10 : decode cX6_fillLowYards 10 = .ok (.iconst 0, 1) := by decide +kernel
theorem dX6_fillLowYards_11 : decode cX6_fillLowYards 11 = .ok (.istore_n 2, 1) := by decide +kernel
theorem dX6_fillLowYards_12 : decode cX6_fillLowYards 12 = .ok (.iload_n 2, 1) := by decide +kernel
theorem dX6_fillLowYards_13 : decode cX6_fillLowYards 13 = .ok (.bipush 10, 2) := by decide +kernel
theorem dX6_fillLowYards_15 : decode cX6_fillLowYards 15 = .ok (.if_icmp .ge 55, 3) := by decide +kernel
theorem dX6_fillLowYards_18 : decode cX6_fillLowYards 18 = .ok (.iconst 0, 1) := by decide +kernel
theorem dX6_fillLowYards_19 : decode cX6_fillLowYards 19 = .ok (.istore_n 3, 1) := by decide +kernel
theorem dX6_fillLowYards_20 : decode cX6_fillLowYards 20 = .ok (.iconst 0, 1) := by decide +kernel
theorem dX6_fillLowYards_21 : decode cX6_fillLowYards 21 = .ok (.istore 4, 2) := by decide +kernel
theorem dX6_fillLowYards_23 : decode cX6_fillLowYards 23 = .ok (.iload 4, 2) := by decide +kernel
theorem dX6_fillLowYards_25 : decode cX6_fillLowYards 25 = .ok (.iload_n 1, 1) := by decide +kernel
theorem dX6_fillLowYards_26 : decode cX6_fillLowYards 26 = .ok (.if_icmp .ge 31, 3) := by decide +kernel
theorem dX6_fillLowYards_29 : decode cX6_fillLowYards 29 = .ok (.iload_n 2, 1) := by decide +kernel
theorem dX6_fillLowYards_30 : decode cX6_fillLowYards 30 = .ok (.aload_n 0, 1) := by decide +kernel
theorem dX6_fillLowYards_31 : decode cX6_fillLowYards 31 = .ok (.getfield 33, 3) := by decide +kernel
theorem dX6_fillLowYards_34 : decode cX6_fillLowYards 34 = .ok (.iconst 3, 1) := by decide +kernel
theorem dX6_fillLowYards_35 : decode cX6_fillLowYards 35 = .ok (.aaload, 1) := by decide +kernel
theorem dX6_fillLowYards_36 : decode cX6_fillLowYards 36 = .ok (.iload 4, 2) := by decide +kernel
theorem dX6_fillLowYards_38 : decode cX6_fillLowYards 38 = .ok (.invokevirtual 79, 3) := by decide +kernel
theorem dX6_fillLowYards_41 : decode cX6_fillLowYards 41 = .ok (.if_icmp .le 10, 3) := by decide +kernel
theorem dX6_fillLowYards_44 : decode cX6_fillLowYards 44 = .ok (.iload_n 3, 1) := by decide +kernel
theorem dX6_fillLowYards_45 : decode cX6_fillLowYards 45 = .ok (.iconst 1, 1) := by decide +kernel
theorem dX6_fillLowYards_46 : decode cX6_fillLowYards 46 = .ok (.iload 4, 2) := by decide +kernel
theorem dX6_fillLowYards_48 : decode cX6_fillLowYards 48 = .ok (.ishl, 1) := by decide +kernel
theorem dX6_fillLowYards_49 : decode cX6_fillLowYards 49 = .ok (.ior, 1) := by decide +kernel
theorem dX6_fillLowYards_50 : decode cX6_fillLowYards 50 = .ok (.istore_n 3, 1) := by decide +kernel
theorem dX6_fillLowYards_51 : decode cX6_fillLowYards 51 = .ok (.iinc 4 1, 3) := by decide +kernel
theorem dX6_fillLowYards_54 : decode cX6_fillLowYards 54 = .ok (.goto (-31), 3) := by decide +kernel
theorem dX6_fillLowYards_57 : decode cX6_fillLowYards 57 = .ok (.aload_n 0, 1) := by decide +kernel
theorem dX6_fillLowYards_58 : decode cX6_fillLowYards 58 = .ok (.getfield 23, 3) := by decide +kernel
theorem dX6_fillLowYards_61 : decode cX6_fillLowYards 61 = .ok (.iload_n 2, 1) := by decide +kernel
theorem dX6_fillLowYards_62 : decode cX6_fillLowYards 62 = .ok (.iload_n 3, 1) := by decide +kernel
theorem dX6_fillLowYards_63 : decode cX6_fillLowYards 63 = .ok (.iastore, 1) := by decide +kernel
theorem dX6_fillLowYards_64 : decode cX6_fillLowYards 64 = .ok (.iinc 2 1, 3) := by decide +kernel
theorem dX6_fillLowYards_67 : decode cX6_fillLowYards 67 = .ok (.goto (-55), 3) := by decide +kernel
theorem dX6_fillLowYards_70 : decode cX6_fillLowYards 70 = .ok (.return_, 1) := by decide +kernel
theorem dX6_fillLevels_0 : decode cX6_fillLevels 0 = .ok (.aload_n 0, 1) := by decide +kernel
theorem dX6_fillLevels_1 : decode cX6_fillLevels 1 = .ok (.getfield 33, 3) := by decide +kernel
theorem dX6_fillLevels_4 : decode cX6_fillLevels 4 = .ok (.iload_n 1, 1) := by decide +kernel
theorem dX6_fillLevels_5 : decode cX6_fillLevels 5 = .ok (.aaload, 1) := by decide +kernel
theorem dX6_fillLevels_6 : decode cX6_fillLevels 6 = .ok (.invokevirtual 73, 3) := by decide +kernel
theorem dX6_fillLevels_9 : decode cX6_fillLevels 9 = .ok (.istore_n 2, 1) := by decide +kernel
theorem dX6_fillLevels_10 : decode cX6_fillLevels 10 = .ok (.iconst 0, 1) := by decide +kernel
theorem dX6_fillLevels_11 : decode cX6_fillLevels 11 = .ok (.istore_n 3, 1) := by decide +kernel
theorem dX6_fillLevels_12 : decode cX6_fillLevels 12 = .ok (.iload_n 3, 1) := by decide +kernel
theorem dX6_fillLevels_13 : decode cX6_fillLevels 13 = .ok (.bipush 30, 2) := by decide +kernel
theorem dX6_fillLevels_15 : decode cX6_fillLevels 15 = .ok (.if_icmp .ge 36, 3) := by decide +kernel
theorem dX6_fillLevels_18 : decode cX6_fillLevels 18 = .ok (.aload_n 0, 1) := by decide +kernel
theorem dX6_fillLevels_19 : decode cX6_fillLevels 19 = .ok (.getfield 11, 3) := by decide +kernel
theorem dX6_fillLevels_22 : decode cX6_fillLevels 22 = .ok (.iload_n 1, 1) := by decide +kernel
theorem dX6_fillLevels_23 : decode cX6_fillLevels 23 = .ok (.aaload, 1) := by decide +kernel
theorem dX6_fillLevels_24 : decode cX6_fillLevels 24 = .ok (.iload_n 3, 1) := by decide +kernel
theorem dX6_fillLevels_25 : decode cX6_fillLevels 25 = .ok (.iload_n 3, 1) := by decide +kernel
theorem dX6_fillLevels_26 : decode cX6_fillLevels 26 = .ok (.iload_n 2, 1) := by decide +kernel
theorem dX6_fillLevels_27 : decode cX6_fillLevels 27 = .ok (.if_icmp .ge 16, 3) := by decide +kernel
theorem dX6_fillLevels_30 : decode cX6_fillLevels 30 = .ok (.aload_n 0, 1) := by decide +kernel
theorem dX6_fillLevels_31 : decode cX6_fillLevels 31 = .ok (.getfield 33, 3) := by decide +kernel
theorem dX6_fillLevels_34 : decode cX6_fillLevels 34 = .ok (.iload_n 1, 1) := by decide +kernel
theorem dX6_fillLevels_35 : decode cX6_fillLevels 35 = .ok (.aaload, 1) := by decide +kernel
theorem dX6_fillLevels_36 : decode cX6_fillLevels 36 = .ok (.iload_n 3, 1) := by decide +kernel
theorem dX6_fillLevels_37 : decode cX6_fillLevels 37 = .ok (.invokevirtual 79, 3) := by decide +kernel
theorem dX6_fillLevels_40 : decode cX6_fillLevels 40 = .ok (.goto 4, 3) := by decide +kernel
theorem dX6_fillLevels_43 : decode cX6_fillLevels 43 = .ok (.iconst 0, 1) := by decide +kernel
theorem dX6_fillLevels_44 : decode cX6_fillLevels 44 = .ok (.iastore, 1) := by decide +kernel
theorem dX6_fillLevels_45 : decode cX6_fillLevels 45 = .ok (.iinc 3 1, 3) := by decide +kernel
theorem dX6_fillLevels_48 : decode cX6_fillLevels 48 = .ok (.goto (-36), 3) := by decide +kernel
theorem dX6_fillLevels_51 : decode cX6_fillLevels 51 = .ok (.return_, 1) := by decide +kernel
theorem dX6_firstThaw_0 : decode cX6_firstThaw 0 = .ok (.iconst 0, 1) := by decide +kernel
theorem dX6_firstThaw_1 : decode cX6_firstThaw 1 = .ok (.istore_n 2, 1) := by decide +kernel
theorem dX6_firstThaw_2 : decode cX6_firstThaw 2 = .ok (.iload_n 2, 1) := by decide +kernel
theorem dX6_firstThaw_3 : decode cX6_firstThaw 3 = .ok (.aload_n 0, 1) := by decide +kernel
theorem dX6_firstThaw_4 : decode cX6_firstThaw 4 = .ok (.getfield 37, 3) := by decide +kernel
theorem dX6_firstThaw_7 : decode cX6_firstThaw 7 = .ok (.iconst 1, 1) := by decide +kernel
theorem dX6_firstThaw_8 : decode cX6_firstThaw 8 = .ok (.iaload, 1) := by decide +kernel
theorem dX6_firstThaw_9 : decode cX6_firstThaw 9 = .ok (.if_icmp .gt 34, 3) := by decide +kernel
theorem dX6_firstThaw_12 : decode cX6_firstThaw 12 = .ok (.iload_n 2, 1) := by decide +kernel
theorem dX6_firstThaw_13 : decode cX6_firstThaw 13 = .ok (.bipush 30, 2) := by decide +kernel
theorem dX6_firstThaw_15 : decode cX6_firstThaw 15 = .ok (.if_icmp .ge 28, 3) := by decide +kernel
theorem dX6_firstThaw_18 : decode cX6_firstThaw 18 = .ok (.aload_n 0, 1) := by decide +kernel
theorem dX6_firstThaw_19 : decode cX6_firstThaw 19 = .ok (.getfield 11, 3) := by decide +kernel
theorem dX6_firstThaw_22 : decode cX6_firstThaw 22 = .ok (.iload_n 1, 1) := by decide +kernel
theorem dX6_firstThaw_23 : decode cX6_firstThaw 23 = .ok (.aaload, 1) := by decide +kernel
theorem dX6_firstThaw_24 : decode cX6_firstThaw 24 = .ok (.iload_n 2, 1) := by decide +kernel
theorem dX6_firstThaw_25 : decode cX6_firstThaw 25 = .ok (.iaload, 1) := by decide +kernel
theorem dX6_firstThaw_26 : decode cX6_firstThaw 26 = .ok (.aload_n 0, 1) := by decide +kernel
theorem dX6_firstThaw_27 : decode cX6_firstThaw 27 = .ok (.getfield 37, 3) := by decide +kernel
theorem dX6_firstThaw_30 : decode cX6_firstThaw 30 = .ok (.iconst 0, 1) := by decide +kernel
theorem dX6_firstThaw_31 : decode cX6_firstThaw 31 = .ok (.iaload, 1) := by decide +kernel
theorem dX6_firstThaw_32 : decode cX6_firstThaw 32 = .ok (.if_icmp .lt 5, 3) := by decide +kernel
theorem dX6_firstThaw_35 : decode cX6_firstThaw 35 = .ok (.iload_n 2, 1) := by decide +kernel
theorem dX6_firstThaw_36 : decode cX6_firstThaw 36 = .ok (.ireturn, 1) := by decide +kernel
theorem dX6_firstThaw_37 : decode cX6_firstThaw 37 = .ok (.iinc 2 1, 3) := by decide +kernel
theorem dX6_firstThaw_40 : decode cX6_firstThaw 40 = .ok (.goto (-38), 3) := by decide +kernel
theorem dX6_firstThaw_43 : decode cX6_firstThaw 43 = .ok (.iconst (-1), 1) := by decide +kernel
theorem dX6_firstThaw_44 : decode cX6_firstThaw 44 = .ok (.ireturn, 1) := by decide +kernel
theorem dX6_fillWet_0 : decode cX6_fillWet 0 = .ok (.aload_n 0, 1) := by decide +kernel
theorem dX6_fillWet_1 : decode cX6_fillWet 1 = .ok (.getfield 19, 3) := by decide +kernel
theorem dX6_fillWet_4 : decode cX6_fillWet 4 = .ok (.iload_n 1, 1) := by decide +kernel
theorem dX6_fillWet_5 : decode cX6_fillWet 5 = .ok (.iaload, 1) := by decide +kernel
theorem dX6_fillWet_6 : decode cX6_fillWet 6 = .ok (.istore_n 2, 1) := by decide +kernel
theorem dX6_fillWet_7 : decode cX6_fillWet 7 = .ok (.iconst 0, 1) := by decide +kernel
theorem dX6_fillWet_8 : decode cX6_fillWet 8 = .ok (.istore_n 3, 1) := by decide +kernel
theorem dX6_fillWet_9 : decode cX6_fillWet 9 = .ok (.iload_n 3, 1) := by decide +kernel
theorem dX6_fillWet_10 : decode cX6_fillWet 10 = .ok (.bipush 30, 2) := by decide +kernel
theorem dX6_fillWet_12 : decode cX6_fillWet 12 = .ok (.if_icmp .ge 89, 3) := by decide +kernel
theorem dX6_fillWet_15 : decode cX6_fillWet 15 = .ok (.iload_n 2, 1) := by decide +kernel
theorem dX6_fillWet_16 : decode cX6_fillWet 16 = .ok (.iconst (-1), 1) := by decide +kernel
theorem dX6_fillWet_17 : decode cX6_fillWet 17 = .ok (.if_icmp .eq 22, 3) := by decide +kernel
theorem dX6_fillWet_20 : decode cX6_fillWet 20 = .ok (.iload_n 3, 1) := by decide +kernel
theorem dX6_fillWet_21 : decode cX6_fillWet 21 = .ok (.iload_n 2, 1) := by decide +kernel
theorem dX6_fillWet_22 : decode cX6_fillWet 22 = .ok (.if_icmp .lt 17, 3) := by decide +kernel
theorem dX6_fillWet_25 : decode cX6_fillWet 25 = .ok (.iload_n 3, 1) := by decide +kernel
theorem dX6_fillWet_26 : decode cX6_fillWet 26 = .ok (.aload_n 0, 1) := by decide +kernel
theorem dX6_fillWet_27 : decode cX6_fillWet 27 = .ok (.getfield 37, 3) := by decide +kernel
theorem dX6_fillWet_30 : decode cX6_fillWet 30 = .ok (.iconst 1, 1) := by decide +kernel
theorem dX6_fillWet_31 : decode cX6_fillWet 31 = .ok (.iaload, 1) := by decide +kernel
theorem dX6_fillWet_32 : decode cX6_fillWet 32 = .ok (.if_icmp .gt 7, 3) := by decide +kernel
theorem dX6_fillWet_35 : decode cX6_fillWet 35 = .ok (.iconst 1, 1) := by decide +kernel
theorem dX6_fillWet_36 : decode cX6_fillWet 36 = .ok (.goto 4, 3) := by decide +kernel
theorem dX6_fillWet_39 : decode cX6_fillWet 39 = .ok (.iconst 0, 1) := by decide +kernel
theorem dX6_fillWet_40 : decode cX6_fillWet 40 = .ok (.istore 4, 2) := by decide +kernel
theorem dX6_fillWet_42 : decode cX6_fillWet 42 = .ok (.aload_n 0, 1) := by decide +kernel
theorem dX6_fillWet_43 : decode cX6_fillWet 43 = .ok (.getfield 11, 3) := by decide +kernel
theorem dX6_fillWet_46 : decode cX6_fillWet 46 = .ok (.iload_n 1, 1) := by decide +kernel
theorem dX6_fillWet_47 : decode cX6_fillWet 47 = .ok (.aaload, 1) := by decide +kernel
theorem dX6_fillWet_48 : decode cX6_fillWet 48 = .ok (.iload_n 3, 1) := by decide +kernel
theorem dX6_fillWet_49 : decode cX6_fillWet 49 = .ok (.iaload, 1) := by decide +kernel
theorem dX6_fillWet_50 : decode cX6_fillWet 50 = .ok (.istore 5, 2) := by decide +kernel
theorem dX6_fillWet_52 : decode cX6_fillWet 52 = .ok (.aload_n 0, 1) := by decide +kernel
theorem dX6_fillWet_53 : decode cX6_fillWet 53 = .ok (.getfield 16, 3) := by decide +kernel
theorem dX6_fillWet_56 : decode cX6_fillWet 56 = .ok (.iload_n 1, 1) := by decide +kernel
theorem dX6_fillWet_57 : decode cX6_fillWet 57 = .ok (.aaload, 1) := by decide +kernel
theorem dX6_fillWet_58 : decode cX6_fillWet 58 = .ok (.iload_n 3, 1) := by decide +kernel
theorem dX6_fillWet_59 : decode cX6_fillWet 59 = .ok (.iload 4, 2) := by decide +kernel
theorem dX6_fillWet_61 : decode cX6_fillWet 61 = .ok (.ifCond .eq 32, 3) := by decide +kernel
theorem dX6_fillWet_64 : decode cX6_fillWet 64 = .ok (.iload 5, 2) := by decide +kernel
theorem dX6_fillWet_66 : decode cX6_fillWet 66 = .ok (.bipush 10, 2) := by decide +kernel
theorem dX6_fillWet_68 : decode cX6_fillWet 68 = .ok (.invokestatic 66, 3) := by decide +kernel
theorem dX6_fillWet_71 : decode cX6_fillWet 71 = .ok (.ifCond .eq 22, 3) := by decide +kernel
theorem dX6_fillWet_74 : decode cX6_fillWet 74 = .ok (.aload_n 0, 1) := by decide +kernel
theorem dX6_fillWet_75 : decode cX6_fillWet 75 = .ok (.getfield 23, 3) := by decide +kernel
theorem dX6_fillWet_78 : decode cX6_fillWet 78 = .ok (.iload 5, 2) := by decide +kernel
theorem dX6_fillWet_80 : decode cX6_fillWet 80 = .ok (.iaload, 1) := by decide +kernel
theorem dX6_fillWet_81 : decode cX6_fillWet 81 = .ok (.aload_n 0, 1) := by decide +kernel
theorem dX6_fillWet_82 : decode cX6_fillWet 82 = .ok (.getfield 26, 3) := by decide +kernel
theorem dX6_fillWet_85 : decode cX6_fillWet 85 = .ok (.iload_n 3, 1) := by decide +kernel
theorem dX6_fillWet_86 : decode cX6_fillWet 86 = .ok (.iaload, 1) := by decide +kernel
theorem dX6_fillWet_87 : decode cX6_fillWet 87 = .ok (.iconst (-1), 1) := by decide +kernel
theorem dX6_fillWet_88 : decode cX6_fillWet 88 = .ok (.ixor, 1) := by decide +kernel
theorem dX6_fillWet_89 : decode cX6_fillWet 89 = .ok (.iand, 1) := by decide +kernel
theorem dX6_fillWet_90 : decode cX6_fillWet 90 = .ok (.goto 4, 3) := by decide +kernel
theorem dX6_fillWet_93 : decode cX6_fillWet 93 = .ok (.iconst 0, 1) := by decide +kernel
theorem dX6_fillWet_94 : decode cX6_fillWet 94 = .ok (.iastore, 1) := by decide +kernel
theorem dX6_fillWet_95 : decode cX6_fillWet 95 = .ok (.iinc 3 1, 3) := by decide +kernel
theorem dX6_fillWet_98 : decode cX6_fillWet 98 = .ok (.goto (-89), 3) := by decide +kernel
theorem dX6_fillWet_101 : decode cX6_fillWet 101 = .ok (.return_, 1) := by decide +kernel
theorem dX7_init_0 : decode cX7_init 0 = .ok (.aload_n 0, 1) := by decide +kernel
theorem dX7_init_1 : decode cX7_init 1 = .ok (.invokespecial 3, 3) := by decide +kernel
theorem dX7_init_4 : decode cX7_init 4 = .ok (.aload_n 0, 1) := by decide +kernel
theorem dX7_init_5 : decode cX7_init 5 = .ok (.iconst 3, 1) := by decide +kernel
theorem dX7_init_6 : decode cX7_init 6 = .ok (.iconst 3, 1) := by decide +kernel
theorem dX7_init_7 : decode cX7_init 7 = .ok (.multianewarray 9 2, 4) := by decide +kernel
theorem dX7_init_11 : decode cX7_init 11 = .ok (.putfield 11, 3) := by decide +kernel
theorem dX7_init_14 : decode cX7_init 14 = .ok (.aload_n 0, 1) := by decide +kernel
theorem dX7_init_15 : decode cX7_init 15 = .ok (.iconst 3, 1) := by decide +kernel
theorem dX7_init_16 : decode cX7_init 16 = .ok (.newarray .int, 2) := by decide +kernel
theorem dX7_init_18 : decode cX7_init 18 = .ok (.putfield 16, 3) := by decide +kernel
theorem dX7_init_21 : decode cX7_init 21 = .ok (.aload_n 0, 1) := by decide +kernel
theorem dX7_init_22 : decode cX7_init 22 = .ok (.iconst 3, 1) := by decide +kernel
theorem dX7_init_23 : decode cX7_init 23 = .ok (.newarray .int, 2) := by decide +kernel
theorem dX7_init_25 : decode cX7_init 25 = .ok (.putfield 20, 3) := by decide +kernel
theorem dX7_init_28 : decode cX7_init 28 = .ok (.aload_n 0, 1) := by decide +kernel
theorem dX7_init_29 : decode cX7_init 29 = .ok (.iconst 3, 1) := by decide +kernel
theorem dX7_init_30 : decode cX7_init 30 = .ok (.newarray .boolean, 2) := by decide +kernel
theorem dX7_init_32 : decode cX7_init 32 = .ok (.putfield 23, 3) := by decide +kernel
theorem dX7_init_35 : decode cX7_init 35 = .ok (.aload_n 0, 1) := by decide +kernel
theorem dX7_init_36 : decode cX7_init 36 = .ok (.aload_n 1, 1) := by decide +kernel
theorem dX7_init_37 : decode cX7_init 37 = .ok (.putfield 27, 3) := by decide +kernel
theorem dX7_init_40 : decode cX7_init 40 = .ok (.aload_n 0, 1) := by decide +kernel
theorem dX7_init_41 : decode cX7_init 41 = .ok (.aload_n 2, 1) := by decide +kernel
theorem dX7_init_42 : decode cX7_init 42 = .ok (.putfield 31, 3) := by decide +kernel
theorem dX7_init_45 : decode cX7_init 45 = .ok (.aload_n 0, 1) := by decide +kernel
theorem dX7_init_46 : decode cX7_init 46 = .ok (.aload_n 3, 1) := by decide +kernel
theorem dX7_init_47 : decode cX7_init 47 = .ok (.putfield 34, 3) := by decide +kernel
theorem dX7_init_50 : decode cX7_init 50 = .ok (.return_, 1) := by decide +kernel
theorem dX7_reckon_0 : decode cX7_reckon 0 = .ok (.aload_n 0, 1) := by decide +kernel
theorem dX7_reckon_1 : decode cX7_reckon 1 = .ok (.invokevirtual 37, 3) := by decide +kernel
theorem dX7_reckon_4 : decode cX7_reckon 4 = .ok (.bipush 29, 2) := by decide +kernel
theorem dX7_reckon_6 : decode cX7_reckon 6 = .ok (.istore 4, 2) := by decide +kernel
theorem dX7_reckon_8 : decode cX7_reckon 8 = .ok (.iload 4, 2) := by decide +kernel
theorem dX7_reckon_10 : decode cX7_reckon 10 = .ok (.iload_n 1, 1) := by decide +kernel
theorem dX7_reckon_11 : decode cX7_reckon 11 = .ok (.if_icmp .lt 47, 3) := by decide +kernel
theorem dX7_reckon_14 : decode cX7_reckon 14 = .ok (.iload 4, 2) := by decide +kernel
theorem dX7_reckon_16 : decode cX7_reckon 16 = .ok (.ifCond .lt 42, 3) := by decide +kernel
theorem dX7_reckon_19 : decode cX7_reckon 19 = .ok (.aload_n 0, 1) := by decide +kernel
theorem dX7_reckon_20 : decode cX7_reckon 20 = .ok (.iload 4, 2) := by decide +kernel
theorem dX7_reckon_22 : decode cX7_reckon 22 = .ok (.iconst 1, 1) := by decide +kernel
theorem dX7_reckon_23 : decode cX7_reckon 23 = .ok (.iadd, 1) := by decide +kernel
theorem dX7_reckon_24 : decode cX7_reckon 24 = .ok (.invokevirtual 40, 3) := by decide +kernel
theorem dX7_reckon_27 : decode cX7_reckon 27 = .ok (.iconst 0, 1) := by decide +kernel
theorem dX7_reckon_28 : decode cX7_reckon 28 = .ok (.istore 5, 2) := by decide +kernel
theorem dX7_reckon_30 : decode cX7_reckon 30 = .ok (.iload 5, 2) := by decide +kernel
theorem dX7_reckon_32 : decode cX7_reckon 32 = .ok (.iconst 3, 1) := by decide +kernel
theorem dX7_reckon_33 : decode cX7_reckon 33 = .ok (.if_icmp .ge 19, 3) := by decide +kernel
theorem dX7_reckon_36 : decode cX7_reckon 36 = .ok (.aload_n 0, 1) := by decide +kernel
theorem dX7_reckon_37 : decode cX7_reckon 37 = .ok (.iload 5, 2) := by decide +kernel
theorem dX7_reckon_39 : decode cX7_reckon 39 = .ok (.iload 4, 2) := by decide +kernel
theorem dX7_reckon_41 : decode cX7_reckon 41 = .ok (.iload_n 2, 1) := by decide +kernel
theorem dX7_reckon_42 : decode cX7_reckon 42 = .ok (.iload_n 3, 1) := by decide +kernel
theorem dX7_reckon_43 : decode cX7_reckon 43 = .ok (.invokevirtual 44, 3) := by decide +kernel
theorem dX7_reckon_46 : decode cX7_reckon 46 = .ok (.iinc 5 1, 3) := by decide +kernel
theorem dX7_reckon_49 : decode cX7_reckon 49 = .ok (.goto (-19), 3) := by decide +kernel
theorem dX7_reckon_52 : decode cX7_reckon 52 = .ok (.iinc 4 (-1), 3) := by decide +kernel
theorem dX7_reckon_55 : decode cX7_reckon 55 = .ok (.goto (-47), 3) := by decide +kernel
theorem dX7_reckon_58 : decode cX7_reckon 58 = .ok (.return_, 1) := by decide +kernel
theorem dX7_weightedCost_0 : decode cX7_weightedCost 0 = .ok (.iload_n 1, 1) := by decide +kernel
theorem dX7_weightedCost_1 : decode cX7_weightedCost 1 = .ok (.iconst 3, 1) := by decide +kernel
theorem dX7_weightedCost_2 : decode cX7_weightedCost 2 = .ok (.invokestatic 48, 3) := by decide +kernel
theorem dX7_weightedCost_5 : decode cX7_weightedCost 5 = .ok (.ifCond .eq 12, 3) := by decide +kernel
theorem dX7_weightedCost_8 : decode cX7_weightedCost 8 = .ok (.aload_n 0, 1) := by decide +kernel
theorem dX7_weightedCost_9 : decode cX7_weightedCost 9 = .ok (.getfield 16, 3) := by decide +kernel
theorem dX7_weightedCost_12 : decode cX7_weightedCost 12 = .ok (.iload_n 1, 1) := by decide +kernel
theorem dX7_weightedCost_13 : decode cX7_weightedCost 13 = .ok (.iaload, 1) := by decide +kernel
theorem dX7_weightedCost_14 : decode cX7_weightedCost 14 = .ok (.goto 4, 3) := by decide +kernel
theorem dX7_weightedCost_17 : decode cX7_weightedCost 17 = .ok (.iconst 0, 1) := by decide +kernel
theorem dX7_weightedCost_18 : decode cX7_weightedCost 18 = .ok (.ireturn, 1) := by decide +kernel
theorem dX7_isBestAtOnce_0 : decode cX7_isBestAtOnce 0 = .ok (.iload_n 1, 1) := by decide +kernel
theorem dX7_isBestAtOnce_1 : decode cX7_isBestAtOnce 1 = .ok (.iconst 3, 1) := by decide +kernel
theorem dX7_isBestAtOnce_2 : decode cX7_isBestAtOnce 2 = .ok (.invokestatic 48, 3) := by decide +kernel
theorem dX7_isBestAtOnce_5 : decode cX7_isBestAtOnce 5 = .ok (.ifCond .eq 16, 3) := by decide +kernel
theorem dX7_isBestAtOnce_8 : decode cX7_isBestAtOnce 8 = .ok (.aload_n 0, 1) := by decide +kernel
theorem dX7_isBestAtOnce_9 : decode cX7_isBestAtOnce 9 = .ok (.getfield 23, 3) := by decide +kernel
theorem dX7_isBestAtOnce_12 : decode cX7_isBestAtOnce 12 = .ok (.iload_n 1, 1) := by decide +kernel
theorem dX7_isBestAtOnce_13 : decode cX7_isBestAtOnce 13 = .ok (.baload, 1) := by decide +kernel
theorem dX7_isBestAtOnce_14 : decode cX7_isBestAtOnce 14 = .ok (.ifCond .eq 7, 3) := by decide +kernel
theorem dX7_isBestAtOnce_17 : decode cX7_isBestAtOnce 17 = .ok (.iconst 1, 1) := by decide +kernel
theorem dX7_isBestAtOnce_18 : decode cX7_isBestAtOnce 18 = .ok (.goto 4, 3) := by decide +kernel
theorem dX7_isBestAtOnce_21 : decode cX7_isBestAtOnce 21 = .ok (.iconst 0, 1) := by decide +kernel
theorem dX7_isBestAtOnce_22 : decode cX7_isBestAtOnce 22 = .ok (.ireturn, 1) := by decide +kernel
theorem dX7_weightOf_0 : decode cX7_weightOf 0 = .ok (.iload_n 1, 1) := by decide +kernel
theorem dX7_weightOf_1 : decode cX7_weightOf 1 = .ok (.iconst 3, 1) := by decide +kernel
theorem dX7_weightOf_2 : decode cX7_weightOf 2 = .ok (.invokestatic 48, 3) := by decide +kernel
theorem dX7_weightOf_5 : decode cX7_weightOf 5 = .ok (.ifCond .eq 16, 3) := by decide +kernel
theorem dX7_weightOf_8 : decode cX7_weightOf 8 = .ok (.aload_n 0, 1) := by decide +kernel
theorem dX7_weightOf_9 : decode cX7_weightOf 9 = .ok (.aload_n 0, 1) := by decide +kernel
theorem dX7_weightOf_10 : decode cX7_weightOf 10 = .ok (.getfield 34, 3) := by decide +kernel
theorem dX7_weightOf_13 : decode cX7_weightOf 13 = .ok (.iload_n 1, 1) := by decide +kernel
theorem dX7_weightOf_14 : decode cX7_weightOf 14 = .ok (.iload_n 2, 1) := by decide +kernel
theorem dX7_weightOf_15 : decode cX7_weightOf 15 = .ok (.invokevirtual 52, 3) := by decide +kernel
theorem dX7_weightOf_18 : decode cX7_weightOf 18 = .ok (.goto 4, 3) := by decide +kernel
theorem dX7_weightOf_21 : decode cX7_weightOf 21 = .ok (.iconst 0, 1) := by decide +kernel
theorem dX7_weightOf_22 : decode cX7_weightOf 22 = .ok (.ireturn, 1) := by decide +kernel
theorem dX7_choose_0 : decode cX7_choose 0 = .ok (.aload_n 0, 1) := by decide +kernel
theorem dX7_choose_1 : decode cX7_choose 1 = .ok (.aload_n 0, 1) := by decide +kernel
theorem dX7_choose_2 : decode cX7_choose 2 = .ok (.getfield 34, 3) := by decide +kernel
theorem dX7_choose_5 : decode cX7_choose 5 = .ok (.iload_n 1, 1) := by decide +kernel
theorem dX7_choose_6 : decode cX7_choose 6 = .ok (.iload_n 2, 1) := by decide +kernel
theorem dX7_choose_7 : decode cX7_choose 7 = .ok (.invokevirtual 52, 3) := by decide +kernel
theorem dX7_choose_10 : decode cX7_choose 10 = .ok (.istore 5, 2) := by decide +kernel
theorem dX7_choose_12 : decode cX7_choose 12 = .ok (.aload_n 0, 1) := by decide +kernel
theorem dX7_choose_13 : decode cX7_choose 13 = .ok (.getfield 27, 3) := by decide +kernel
theorem dX7_choose_16 : decode cX7_choose 16 = .ok (.iload_n 1, 1) := by decide +kernel
theorem dX7_choose_17 : decode cX7_choose 17 = .ok (.iload_n 2, 1) := by decide +kernel
theorem dX7_choose_18 : decode cX7_choose 18 = .ok (.invokevirtual 56, 3) := by decide +kernel
theorem dX7_choose_21 : decode cX7_choose 21 = .ok (.iload_n 3, 1) := by decide +kernel
theorem dX7_choose_22 : decode cX7_choose 22 = .ok (.iload 4, 2) := by decide +kernel
theorem dX7_choose_24 : decode cX7_choose 24 = .ok (.aload_n 0, 1) := by decide +kernel
theorem dX7_choose_25 : decode cX7_choose 25 = .ok (.getfield 31, 3) := by decide +kernel
theorem dX7_choose_28 : decode cX7_choose 28 = .ok (.iconst 2, 1) := by decide +kernel
theorem dX7_choose_29 : decode cX7_choose 29 = .ok (.iaload, 1) := by decide +kernel
theorem dX7_choose_30 : decode cX7_choose 30 = .ok (.invokestatic 62, 3) := by decide +kernel
theorem dX7_choose_33 : decode cX7_choose 33 = .ok (.istore 6, 2) := by decide +kernel
theorem dX7_choose_35 : decode cX7_choose 35 = .ok (.iload 5, 2) := by decide +kernel
theorem dX7_choose_37 : decode cX7_choose 37 = .ok (.iload 6, 2) := by decide +kernel
theorem dX7_choose_39 : decode cX7_choose 39 = .ok (.iload_n 3, 1) := by decide +kernel
theorem dX7_choose_40 : decode cX7_choose 40 = .ok (.iload 4, 2) := by decide +kernel
theorem dX7_choose_42 : decode cX7_choose 42 = .ok (.aload_n 0, 1) := by decide +kernel
theorem dX7_choose_43 : decode cX7_choose 43 = .ok (.getfield 31, 3) := by decide +kernel
theorem dX7_choose_46 : decode cX7_choose 46 = .ok (.iconst 3, 1) := by decide +kernel
theorem dX7_choose_47 : decode cX7_choose 47 = .ok (.iaload, 1) := by decide +kernel
theorem dX7_choose_48 : decode cX7_choose 48 = .ok (.invokestatic 66, 3) := by decide +kernel
theorem dX7_choose_51 : decode cX7_choose 51 = .ok (.invokestatic 70, 3) := by decide +kernel
theorem dX7_choose_54 : decode cX7_choose 54 = .ok (.imul, 1) := by decide +kernel
theorem dX7_choose_55 : decode cX7_choose 55 = .ok (.istore 7, 2) := by decide +kernel
theorem dX7_choose_57 : decode cX7_choose 57 = .ok (.iload 5, 2) := by decide +kernel
theorem dX7_choose_59 : decode cX7_choose 59 = .ok (.aload_n 0, 1) := by decide +kernel
theorem dX7_choose_60 : decode cX7_choose 60 = .ok (.getfield 31, 3) := by decide +kernel
theorem dX7_choose_63 : decode cX7_choose 63 = .ok (.bipush 6, 2) := by decide +kernel
theorem dX7_choose_65 : decode cX7_choose 65 = .ok (.iaload, 1) := by decide +kernel
theorem dX7_choose_66 : decode cX7_choose 66 = .ok (.imul, 1) := by decide +kernel
theorem dX7_choose_67 : decode cX7_choose 67 = .ok (.aload_n 0, 1) := by decide +kernel
theorem dX7_choose_68 : decode cX7_choose 68 = .ok (.aload_n 0, 1) := by decide +kernel
theorem dX7_choose_69 : decode cX7_choose 69 = .ok (.getfield 20, 3) := by decide +kernel
theorem dX7_choose_72 : decode cX7_choose 72 = .ok (.iload_n 1, 1) := by decide +kernel
theorem dX7_choose_73 : decode cX7_choose 73 = .ok (.iload_n 2, 1) := by decide +kernel
theorem dX7_choose_74 : decode cX7_choose 74 = .ok (.invokevirtual 52, 3) := by decide +kernel
theorem dX7_choose_77 : decode cX7_choose 77 = .ok (.iadd, 1) := by decide +kernel
theorem dX7_choose_78 : decode cX7_choose 78 = .ok (.istore 8, 2) := by decide +kernel
theorem dX7_choose_80 : decode cX7_choose 80 = .ok (.aload_n 0, 1) := by decide +kernel
theorem dX7_choose_81 : decode cX7_choose 81 = .ok (.getfield 23, 3) := by decide +kernel
theorem dX7_choose_84 : decode cX7_choose 84 = .ok (.iload_n 1, 1) := by decide +kernel
theorem dX7_choose_85 : decode cX7_choose 85 = .ok (.iload_n 2, 1) := by decide +kernel
theorem dX7_choose_86 : decode cX7_choose 86 = .ok (.bipush 29, 2) := by decide +kernel
theorem dX7_choose_88 : decode cX7_choose 88 = .ok (.if_icmp .eq 10, 3) := by decide +kernel
theorem dX7_choose_91 : decode cX7_choose 91 = .ok (.iload 7, 2) := by decide +kernel
theorem dX7_choose_93 : decode cX7_choose 93 = .ok (.iload 8, 2) := by decide +kernel
theorem dX7_choose_95 : decode cX7_choose 95 = .ok (.if_icmp .gt 7, 3) := by decide +kernel
theorem dX7_choose_98 : decode cX7_choose 98 = .ok (.iconst 1, 1) := by decide +kernel
theorem dX7_choose_99 : decode cX7_choose 99 = .ok (.goto 4, 3) := by decide +kernel
theorem dX7_choose_102 : decode cX7_choose 102 = .ok (.iconst 0, 1) := by decide +kernel
theorem dX7_choose_103 : decode cX7_choose 103 = .ok (.bastore, 1) := by decide +kernel
theorem dX7_choose_104 : decode cX7_choose 104 = .ok (.aload_n 0, 1) := by decide +kernel
theorem dX7_choose_105 : decode cX7_choose 105 = .ok (.getfield 16, 3) := by decide +kernel
theorem dX7_choose_108 : decode cX7_choose 108 = .ok (.iload_n 1, 1) := by decide +kernel
theorem dX7_choose_109 : decode cX7_choose 109 = .ok (.aload_n 0, 1) := by decide +kernel
theorem dX7_choose_110 : decode cX7_choose 110 = .ok (.getfield 23, 3) := by decide +kernel
theorem dX7_choose_113 : decode cX7_choose 113 = .ok (.iload_n 1, 1) := by decide +kernel
theorem dX7_choose_114 : decode cX7_choose 114 = .ok (.baload, 1) := by decide +kernel
theorem dX7_choose_115 : decode cX7_choose 115 = .ok (.ifCond .eq 8, 3) := by decide +kernel
theorem dX7_choose_118 : decode cX7_choose 118 = .ok (.iload 7, 2) := by decide +kernel
theorem dX7_choose_120 : decode cX7_choose 120 = .ok (.goto 5, 3) := by decide +kernel
theorem dX7_choose_123 : decode cX7_choose 123 = .ok (.iload 8, 2) := by decide +kernel
theorem dX7_choose_125 : decode cX7_choose 125 = .ok (.iastore, 1) := by decide +kernel
theorem dX7_choose_126 : decode cX7_choose 126 = .ok (.return_, 1) := by decide +kernel
theorem dX7_fillNextCases_0 : decode cX7_fillNextCases 0 = .ok (.iconst 0, 1) := by decide +kernel
theorem dX7_fillNextCases_1 : decode cX7_fillNextCases 1 = .ok (.istore_n 2, 1) := by decide +kernel
theorem dX7_fillNextCases_2 : decode cX7_fillNextCases 2 = .ok (.iload_n 2, 1) := by decide +kernel
theorem dX7_fillNextCases_3 : decode cX7_fillNextCases 3 = .ok (.iconst 3, 1) := by decide +kernel
theorem dX7_fillNextCases_4 : decode cX7_fillNextCases 4 = .ok (.if_icmp .ge 69, 3) := by decide +kernel
theorem dX7_fillNextCases_7 : decode cX7_fillNextCases 7 = .ok (.iconst 1, 1) := by decide +kernel
theorem dX7_fillNextCases_8 : decode cX7_fillNextCases 8 = .ok (.istore_n 3, 1) := by decide +kernel
theorem dX7_fillNextCases_9 : decode cX7_fillNextCases 9 = .ok (.iconst 0, 1) := by decide +kernel
theorem dX7_fillNextCases_10 : decode cX7_fillNextCases 10 = .ok (.istore 4, 2) := by decide +kernel
theorem dX7_fillNextCases_12 : decode cX7_fillNextCases 12 = .ok (.iload 4, 2) := by decide +kernel
theorem dX7_fillNextCases_14 : decode cX7_fillNextCases 14 = .ok (.iload_n 2, 1) := by decide +kernel
theorem dX7_fillNextCases_15 : decode cX7_fillNextCases 15 = .ok (.if_icmp .ge 32, 3) := by decide +kernel
theorem dX7_fillNextCases_18 : decode cX7_fillNextCases 18 = .ok (.iload_n 3, 1) := by decide +kernel
theorem dX7_fillNextCases_19 : decode cX7_fillNextCases 19 = .ok (.ifCond .eq 20, 3) := by decide +kernel
theorem dX7_fillNextCases_22 : decode cX7_fillNextCases 22 = .ok (.iload_n 1, 1) := by decide +kernel
theorem dX7_fillNextCases_23 : decode cX7_fillNextCases 23 = .ok (.aload_n 0, 1) := by decide +kernel
theorem dX7_fillNextCases_24 : decode cX7_fillNextCases 24 = .ok (.getfield 11, 3) := by decide +kernel
theorem dX7_fillNextCases_27 : decode cX7_fillNextCases 27 = .ok (.iload_n 2, 1) := by decide +kernel
theorem dX7_fillNextCases_28 : decode cX7_fillNextCases 28 = .ok (.aaload, 1) := by decide +kernel
theorem dX7_fillNextCases_29 : decode cX7_fillNextCases 29 = .ok (.iload 4, 2) := by decide +kernel
theorem dX7_fillNextCases_31 : decode cX7_fillNextCases 31 = .ok (.iaload, 1) := by decide +kernel
theorem dX7_fillNextCases_32 : decode cX7_fillNextCases 32 = .ok (.if_icmp .lt 7, 3) := by decide +kernel
theorem dX7_fillNextCases_35 : decode cX7_fillNextCases 35 = .ok (.iconst 1, 1) := by decide +kernel
theorem dX7_fillNextCases_36 : decode cX7_fillNextCases 36 = .ok (.goto 4, 3) := by decide +kernel
theorem dX7_fillNextCases_39 : decode cX7_fillNextCases 39 = .ok (.iconst 0, 1) := by decide +kernel
theorem dX7_fillNextCases_40 : decode cX7_fillNextCases 40 = .ok (.istore_n 3, 1) := by decide +kernel
theorem dX7_fillNextCases_41 : decode cX7_fillNextCases 41 = .ok (.iinc 4 1, 3) := by decide +kernel
theorem dX7_fillNextCases_44 : decode cX7_fillNextCases 44 = .ok (.goto (-32), 3) := by decide +kernel
theorem dX7_fillNextCases_47 : decode cX7_fillNextCases 47 = .ok (.aload_n 0, 1) := by decide +kernel
theorem dX7_fillNextCases_48 : decode cX7_fillNextCases 48 = .ok (.getfield 20, 3) := by decide +kernel
theorem dX7_fillNextCases_51 : decode cX7_fillNextCases 51 = .ok (.iload_n 2, 1) := by decide +kernel
theorem dX7_fillNextCases_52 : decode cX7_fillNextCases 52 = .ok (.iload_n 3, 1) := by decide +kernel
theorem dX7_fillNextCases_53 : decode cX7_fillNextCases 53 = .ok (.ifCond .eq 12, 3) := by decide +kernel
theorem dX7_fillNextCases_56 : decode cX7_fillNextCases 56 = .ok (.aload_n 0, 1) := by decide +kernel
theorem dX7_fillNextCases_57 : decode cX7_fillNextCases 57 = .ok (.getfield 16, 3) := by decide +kernel
theorem dX7_fillNextCases_60 : decode cX7_fillNextCases 60 = .ok (.iload_n 2, 1) := by decide +kernel
theorem dX7_fillNextCases_61 : decode cX7_fillNextCases 61 = .ok (.iaload, 1) := by decide +kernel
theorem dX7_fillNextCases_62 : decode cX7_fillNextCases 62 = .ok (.goto 4, 3) := by decide +kernel
theorem dX7_fillNextCases_65 : decode cX7_fillNextCases 65 = .ok (.iconst 0, 1) := by decide +kernel
theorem dX7_fillNextCases_66 : decode cX7_fillNextCases 66 = .ok (.iastore, 1) := by decide +kernel
theorem dX7_fillNextCases_67 : decode cX7_fillNextCases 67 = .ok (.iinc 2 1, 3) := by decide +kernel
theorem dX7_fillNextCases_70 : decode cX7_fillNextCases 70 = .ok (.goto (-68), 3) := by decide +kernel
theorem dX7_fillNextCases_73 : decode cX7_fillNextCases 73 = .ok (.return_, 1) := by decide +kernel
theorem dX7_sumOfAlike_0 : decode cX7_sumOfAlike 0 = .ok (.iconst 0, 1) := by decide +kernel
theorem dX7_sumOfAlike_1 : decode cX7_sumOfAlike 1 = .ok (.istore 4, 2) := by decide +kernel
theorem dX7_sumOfAlike_3 : decode cX7_sumOfAlike 3 = .ok (.iconst 0, 1) := by decide +kernel
theorem dX7_sumOfAlike_4 : decode cX7_sumOfAlike 4 = .ok (.istore 5, 2) := by decide +kernel
theorem dX7_sumOfAlike_6 : decode cX7_sumOfAlike 6 = .ok (.iload 5, 2) := by decide +kernel
theorem dX7_sumOfAlike_8 : decode cX7_sumOfAlike 8 = .ok (.iconst 3, 1) := by decide +kernel
theorem dX7_sumOfAlike_9 : decode cX7_sumOfAlike 9 = .ok (.if_icmp .ge 35, 3) := by decide +kernel
theorem dX7_sumOfAlike_12 : decode cX7_sumOfAlike 12 = .ok (.iload 4, 2) := by decide +kernel
theorem dX7_sumOfAlike_14 : decode cX7_sumOfAlike 14 = .ok (.iload_n 3, 1) := by decide +kernel
theorem dX7_sumOfAlike_15 : decode cX7_sumOfAlike 15 = .ok (.aload_n 0, 1) := by decide +kernel
theorem dX7_sumOfAlike_16 : decode cX7_sumOfAlike 16 = .ok (.getfield 11, 3) := by decide +kernel
theorem dX7_sumOfAlike_19 : decode cX7_sumOfAlike 19 = .ok (.iload_n 2, 1) := by decide +kernel
theorem dX7_sumOfAlike_20 : decode cX7_sumOfAlike 20 = .ok (.aaload, 1) := by decide +kernel
theorem dX7_sumOfAlike_21 : decode cX7_sumOfAlike 21 = .ok (.iload 5, 2) := by decide +kernel
theorem dX7_sumOfAlike_23 : decode cX7_sumOfAlike 23 = .ok (.iaload, 1) := by decide +kernel
theorem dX7_sumOfAlike_24 : decode cX7_sumOfAlike 24 = .ok (.if_icmp .ge 10, 3) := by decide +kernel
theorem dX7_sumOfAlike_27 : decode cX7_sumOfAlike 27 = .ok (.aload_n 1, 1) := by decide +kernel
theorem dX7_sumOfAlike_28 : decode cX7_sumOfAlike 28 = .ok (.iload 5, 2) := by decide +kernel
theorem dX7_sumOfAlike_30 : decode cX7_sumOfAlike 30 = .ok (.iaload, 1) := by decide +kernel
theorem dX7_sumOfAlike_31 : decode cX7_sumOfAlike 31 = .ok (.goto 4, 3) := by decide +kernel
theorem dX7_sumOfAlike_34 : decode cX7_sumOfAlike 34 = .ok (.iconst 0, 1) := by decide +kernel
theorem dX7_sumOfAlike_35 : decode cX7_sumOfAlike 35 = .ok (.iadd, 1) := by decide +kernel
theorem dX7_sumOfAlike_36 : decode cX7_sumOfAlike 36 = .ok (.istore 4, 2) := by decide +kernel
theorem dX7_sumOfAlike_38 : decode cX7_sumOfAlike 38 = .ok (.iinc 5 1, 3) := by decide +kernel
theorem dX7_sumOfAlike_41 : decode cX7_sumOfAlike 41 = .ok (.goto (-35), 3) := by decide +kernel
theorem dX7_sumOfAlike_44 : decode cX7_sumOfAlike 44 = .ok (.iload 4, 2) := by decide +kernel
theorem dX7_sumOfAlike_46 : decode cX7_sumOfAlike 46 = .ok (.ireturn, 1) := by decide +kernel
theorem dX7_fillPartings_0 : decode cX7_fillPartings 0 = .ok (.iconst 0, 1) := by decide +kernel
theorem dX7_fillPartings_1 : decode cX7_fillPartings 1 = .ok (.istore_n 1, 1) := by decide +kernel
theorem dX7_fillPartings_2 : decode cX7_fillPartings 2 = .ok (.iload_n 1, 1) := by decide +kernel
theorem dX7_fillPartings_3 : decode cX7_fillPartings 3 = .ok (.iconst 3, 1) := by decide +kernel
theorem dX7_fillPartings_4 : decode cX7_fillPartings 4 = .ok (.if_icmp .ge 60, 3) := by decide +kernel
theorem dX7_fillPartings_7 : decode cX7_fillPartings 7 = .ok (.aload_n 0, 1) := by decide +kernel
theorem dX7_fillPartings_8 : decode cX7_fillPartings 8 = .ok (.getfield 11, 3) := by decide +kernel
theorem dX7_fillPartings_11 : decode cX7_fillPartings 11 = .ok (.iload_n 1, 1) := by decide +kernel
theorem dX7_fillPartings_12 : decode cX7_fillPartings 12 = .ok (.aaload, 1) := by decide +kernel
theorem dX7_fillPartings_13 : decode cX7_fillPartings 13 = .ok (.iload_n 1, 1) := by decide +kernel
theorem dX7_fillPartings_14 : decode cX7_fillPartings 14 = .ok (.bipush 30, 2) := by decide +kernel
theorem dX7_fillPartings_16 : decode cX7_fillPartings 16 = .ok (.iastore, 1) := by decide +kernel
theorem dX7_fillPartings_17 : decode cX7_fillPartings 17 = .ok (.iconst 0, 1) := by decide +kernel
theorem dX7_fillPartings_18 : decode cX7_fillPartings 18 = .ok (.istore_n 2, 1) := by decide +kernel
theorem dX7_fillPartings_19 : decode cX7_fillPartings 19 = .ok (.iload_n 2, 1) := by decide +kernel
theorem dX7_fillPartings_20 : decode cX7_fillPartings 20 = .ok (.iload_n 1, 1) := by decide +kernel
theorem dX7_fillPartings_21 : decode cX7_fillPartings 21 = .ok (.if_icmp .ge 37, 3) := by decide +kernel
theorem dX7_fillPartings_24 : decode cX7_fillPartings 24 = .ok (.aload_n 0, 1) := by decide +kernel
theorem dX7_fillPartings_25 : decode cX7_fillPartings 25 = .ok (.getfield 27, 3) := by decide +kernel
theorem dX7_fillPartings_28 : decode cX7_fillPartings 28 = .ok (.iload_n 1, 1) := by decide +kernel
theorem dX7_fillPartings_29 : decode cX7_fillPartings 29 = .ok (.iload_n 2, 1) := by decide +kernel
theorem dX7_fillPartings_30 : decode cX7_fillPartings 30 = .ok (.invokevirtual 75, 3) := by decide +kernel
theorem dX7_fillPartings_33 : decode cX7_fillPartings 33 = .ok (.istore_n 3, 1) := by decide +kernel
theorem dX7_fillPartings_34 : decode cX7_fillPartings 34 = .ok (.aload_n 0, 1) := by decide +kernel
theorem dX7_fillPartings_35 : decode cX7_fillPartings 35 = .ok (.getfield 11, 3) := by decide +kernel
theorem dX7_fillPartings_38 : decode cX7_fillPartings 38 = .ok (.iload_n 1, 1) := by decide +kernel
theorem dX7_fillPartings_39 : decode cX7_fillPartings 39 = .ok (.aaload, 1) := by decide +kernel
theorem dX7_fillPartings_40 : decode cX7_fillPartings 40 = .ok (.iload_n 2, 1) := by decide +kernel
theorem dX7_fillPartings_41 : decode cX7_fillPartings 41 = .ok (.iload_n 3, 1) := by decide +kernel
theorem dX7_fillPartings_42 : decode cX7_fillPartings 42 = .ok (.iastore, 1) := by decide +kernel
theorem dX7_fillPartings_43 : decode cX7_fillPartings 43 = .ok (.aload_n 0, 1) := by decide +kernel
theorem dX7_fillPartings_44 : decode cX7_fillPartings 44 = .ok (.getfield 11, 3) := by decide +kernel
theorem dX7_fillPartings_47 : decode cX7_fillPartings 47 = .ok (.iload_n 2, 1) := by decide +kernel
theorem dX7_fillPartings_48 : decode cX7_fillPartings 48 = .ok (.aaload, 1) := by decide +kernel
theorem dX7_fillPartings_49 : decode cX7_fillPartings 49 = .ok (.iload_n 1, 1) := by decide +kernel
theorem dX7_fillPartings_50 : decode cX7_fillPartings 50 = .ok (.iload_n 3, 1) := by decide +kernel
theorem dX7_fillPartings_51 : decode cX7_fillPartings 51 = .ok (.iastore, 1) := by decide +kernel
theorem dX7_fillPartings_52 : decode cX7_fillPartings 52 = .ok (.iinc 2 1, 3) := by decide +kernel
theorem dX7_fillPartings_55 : decode cX7_fillPartings 55 = .ok (.goto (-36), 3) := by decide +kernel
theorem dX7_fillPartings_58 : decode cX7_fillPartings 58 = .ok (.iinc 1 1, 3) := by decide +kernel
theorem dX7_fillPartings_61 : decode cX7_fillPartings 61 = .ok (.goto (-59), 3) := by decide +kernel
theorem dX7_fillPartings_64 : decode cX7_fillPartings 64 = .ok (.return_, 1) := by decide +kernel
theorem dJ6_bitCount_0f7a4_0 : decode cJ6_bitCount_0f7a4 0 = .ok (.iload_n 0, 1) := by decide +kernel
theorem dJ6_bitCount_0f7a4_1 : decode cJ6_bitCount_0f7a4 1 = .ok (.iload_n 0, 1) := by decide +kernel
theorem dJ6_bitCount_0f7a4_2 : decode cJ6_bitCount_0f7a4 2 = .ok (.iconst 1, 1) := by decide +kernel
theorem dJ6_bitCount_0f7a4_3 : decode cJ6_bitCount_0f7a4 3 = .ok (.iushr, 1) := by decide +kernel
theorem dJ6_bitCount_0f7a4_4 : decode cJ6_bitCount_0f7a4 4 = .ok (.ldc_w 265, 3) := by decide +kernel
theorem dJ6_bitCount_0f7a4_7 : decode cJ6_bitCount_0f7a4 7 = .ok (.iand, 1) := by decide +kernel
theorem dJ6_bitCount_0f7a4_8 : decode cJ6_bitCount_0f7a4 8 = .ok (.isub, 1) := by decide +kernel
theorem dJ6_bitCount_0f7a4_9 : decode cJ6_bitCount_0f7a4 9 = .ok (.istore_n 0, 1) := by decide +kernel
theorem dJ6_bitCount_0f7a4_10 : decode cJ6_bitCount_0f7a4 10 = .ok (.iload_n 0, 1) := by decide +kernel
theorem dJ6_bitCount_0f7a4_11 : decode cJ6_bitCount_0f7a4 11 = .ok (.ldc_w 266, 3) := by decide +kernel
theorem dJ6_bitCount_0f7a4_14 : decode cJ6_bitCount_0f7a4 14 = .ok (.iand, 1) := by decide +kernel
theorem dJ6_bitCount_0f7a4_15 : decode cJ6_bitCount_0f7a4 15 = .ok (.iload_n 0, 1) := by decide +kernel
theorem dJ6_bitCount_0f7a4_16 : decode cJ6_bitCount_0f7a4 16 = .ok (.iconst 2, 1) := by decide +kernel
theorem dJ6_bitCount_0f7a4_17 : decode cJ6_bitCount_0f7a4 17 = .ok (.iushr, 1) := by decide +kernel
theorem dJ6_bitCount_0f7a4_18 : decode cJ6_bitCount_0f7a4 18 = .ok (.ldc_w 266, 3) := by decide +kernel
theorem dJ6_bitCount_0f7a4_21 : decode cJ6_bitCount_0f7a4 21 = .ok (.iand, 1) := by decide +kernel
theorem dJ6_bitCount_0f7a4_22 : decode cJ6_bitCount_0f7a4 22 = .ok (.iadd, 1) := by decide +kernel
theorem dJ6_bitCount_0f7a4_23 : decode cJ6_bitCount_0f7a4 23 = .ok (.istore_n 0, 1) := by decide +kernel
theorem dJ6_bitCount_0f7a4_24 : decode cJ6_bitCount_0f7a4 24 = .ok (.iload_n 0, 1) := by decide +kernel
theorem dJ6_bitCount_0f7a4_25 : decode cJ6_bitCount_0f7a4 25 = .ok (.iload_n 0, 1) := by decide +kernel
theorem dJ6_bitCount_0f7a4_26 : decode cJ6_bitCount_0f7a4 26 = .ok (.iconst 4, 1) := by decide +kernel
theorem dJ6_bitCount_0f7a4_27 : decode cJ6_bitCount_0f7a4 27 = .ok (.iushr, 1) := by decide +kernel
theorem dJ6_bitCount_0f7a4_28 : decode cJ6_bitCount_0f7a4 28 = .ok (.iadd, 1) := by decide +kernel
theorem dJ6_bitCount_0f7a4_29 : decode cJ6_bitCount_0f7a4 29 = .ok (.ldc_w 267, 3) := by decide +kernel
theorem dJ6_bitCount_0f7a4_32 : decode cJ6_bitCount_0f7a4 32 = .ok (.iand, 1) := by decide +kernel
theorem dJ6_bitCount_0f7a4_33 : decode cJ6_bitCount_0f7a4 33 = .ok (.istore_n 0, 1) := by decide +kernel
theorem dJ6_bitCount_0f7a4_34 : decode cJ6_bitCount_0f7a4 34 = .ok (.iload_n 0, 1) := by decide +kernel
theorem dJ6_bitCount_0f7a4_35 : decode cJ6_bitCount_0f7a4 35 = .ok (.iload_n 0, 1) := by decide +kernel
theorem dJ6_bitCount_0f7a4_36 : decode cJ6_bitCount_0f7a4 36 = .ok (.bipush 8, 2) := by decide +kernel
theorem dJ6_bitCount_0f7a4_38 : decode cJ6_bitCount_0f7a4 38 = .ok (.iushr, 1) := by decide +kernel
theorem dJ6_bitCount_0f7a4_39 : decode cJ6_bitCount_0f7a4 39 = .ok (.iadd, 1) := by decide +kernel
theorem dJ6_bitCount_0f7a4_40 : decode cJ6_bitCount_0f7a4 40 = .ok (.istore_n 0, 1) := by decide +kernel
theorem dJ6_bitCount_0f7a4_41 : decode cJ6_bitCount_0f7a4 41 = .ok (.iload_n 0, 1) := by decide +kernel
theorem dJ6_bitCount_0f7a4_42 : decode cJ6_bitCount_0f7a4 42 = .ok (.iload_n 0, 1) := by decide +kernel
theorem dJ6_bitCount_0f7a4_43 : decode cJ6_bitCount_0f7a4 43 = .ok (.bipush 16, 2) := by decide +kernel
theorem dJ6_bitCount_0f7a4_45 : decode cJ6_bitCount_0f7a4 45 = .ok (.iushr, 1) := by decide +kernel
theorem dJ6_bitCount_0f7a4_46 : decode cJ6_bitCount_0f7a4 46 = .ok (.iadd, 1) := by decide +kernel
theorem dJ6_bitCount_0f7a4_47 : decode cJ6_bitCount_0f7a4 47 = .ok (.istore_n 0, 1) := by decide +kernel
theorem dJ6_bitCount_0f7a4_48 : decode cJ6_bitCount_0f7a4 48 = .ok (.iload_n 0, 1) := by decide +kernel
theorem dJ6_bitCount_0f7a4_49 : decode cJ6_bitCount_0f7a4 49 = .ok (.bipush 63, 2) := by decide +kernel
theorem dJ6_bitCount_0f7a4_51 : decode cJ6_bitCount_0f7a4 51 = .ok (.iand, 1) := by decide +kernel
theorem dJ6_bitCount_0f7a4_52 : decode cJ6_bitCount_0f7a4 52 = .ok (.ireturn, 1) := by decide +kernel
theorem dJ9_max_7cf53_0 : decode cJ9_max_7cf53 0 = .ok (.iload_n 0, 1) := by decide +kernel
theorem dJ9_max_7cf53_1 : decode cJ9_max_7cf53 1 = .ok (.iload_n 1, 1) := by decide +kernel
theorem dJ9_max_7cf53_2 : decode cJ9_max_7cf53 2 = .ok (.if_icmp .lt 7, 3) := by decide +kernel
theorem dJ9_max_7cf53_5 : decode cJ9_max_7cf53 5 = .ok (.iload_n 0, 1) := by decide +kernel
theorem dJ9_max_7cf53_6 : decode cJ9_max_7cf53 6 = .ok (.goto 4, 3) := by decide +kernel
theorem dJ9_max_7cf53_9 : decode cJ9_max_7cf53 9 = .ok (.iload_n 1, 1) := by decide +kernel
theorem dJ9_max_7cf53_10 : decode cJ9_max_7cf53 10 = .ok (.ireturn, 1) := by decide +kernel
theorem dJ9_min_7cf53_0 : decode cJ9_min_7cf53 0 = .ok (.iload_n 0, 1) := by decide +kernel
theorem dJ9_min_7cf53_1 : decode cJ9_min_7cf53 1 = .ok (.iload_n 1, 1) := by decide +kernel
theorem dJ9_min_7cf53_2 : decode cJ9_min_7cf53 2 = .ok (.if_icmp .gt 7, 3) := by decide +kernel
theorem dJ9_min_7cf53_5 : decode cJ9_min_7cf53 5 = .ok (.iload_n 0, 1) := by decide +kernel
theorem dJ9_min_7cf53_6 : decode cJ9_min_7cf53 6 = .ok (.goto 4, 3) := by decide +kernel
theorem dJ9_min_7cf53_9 : decode cJ9_min_7cf53 9 = .ok (.iload_n 1, 1) := by decide +kernel
theorem dJ9_min_7cf53_10 : decode cJ9_min_7cf53 10 = .ok (.ireturn, 1) := by decide +kernel
