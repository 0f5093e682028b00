theorem dX8_watch_8 : decode cX8_watch 8 = .ok (.istore_n 1, 1) := by decide +kernel
theorem dX8_watch_9 : decode cX8_watch 9 = .ok (.iconst 0, 1) := by decide +kernel
theorem dX8_watch_10 : decode cX8_watch 10 = .ok (.istore_n 2, 1) := by decide +kernel
theorem dX8_watch_11 : decode cX8_watch 11 = .ok (.iconst 0, 1) := by decide +kernel
theorem dX8_watch_12 : decode cX8_watch 12 = .ok (.istore_n 3, 1) := by decide +kernel
theorem dX8_watch_13 : decode cX8_watch 13 = .ok (.iload_n 3, 1) := by decide +kernel
theorem dX8_watch_14 : decode cX8_watch 14 = .ok (.bipush 30, 2) := by decide +kernel
theorem dX8_watch_16 : decode cX8_watch 16 = .ok (.if_icmp .ge 27, 3) := by decide +kernel
theorem dX8_watch_19 : decode cX8_watch 19 = .ok (.aload_n 0, 1) := by decide +kernel
theorem dX8_watch_20 : decode cX8_watch 20 = .ok (.iload_n 3, 1) := by decide +kernel
theorem dX8_watch_21 : decode cX8_watch 21 = .ok (.invokevirtual 253, 3) := by decide +kernel
theorem dX8_watch_24 : decode cX8_watch 24 = .ok (.istore 4, 2) := by decide +kernel
theorem dX8_watch_26 : decode cX8_watch 26 = .ok (.iload 4, 2) := by decide +kernel
theorem dX8_watch_28 : decode cX8_watch 28 = .ok (.iload_n 2, 1) := by decide +kernel
theorem dX8_watch_29 : decode cX8_watch 29 = .ok (.if_icmp .le 8, 3) := by decide +kernel
theorem dX8_watch_32 : decode cX8_watch 32 = .ok (.iload 4, 2) := by decide +kernel
theorem dX8_watch_34 : decode cX8_watch 34 = .ok (.istore_n 2, 1) := by decide +kernel
theorem dX8_watch_35 : decode cX8_watch 35 = .ok (.iload_n 3, 1) := by decide +kernel
theorem dX8_watch_36 : decode cX8_watch 36 = .ok (.istore_n 1, 1) := by decide +kernel
theorem dX8_watch_37 : decode cX8_watch 37 = .ok (.iinc 3 1, 3) := by decide +kernel
theorem dX8_watch_40 : decode cX8_watch 40 = .ok (.goto (-27), 3) := by decide +kernel
theorem dX8_watch_43 : decode cX8_watch 43 = .ok (.iload_n 1, 1) := by decide +kernel
theorem dX8_watch_44 : decode cX8_watch 44 = .ok (.ireturn, 1) := by decide +kernel
theorem dX8_fact_0 : decode cX8_fact 0 = .ok (.iload_n 1, 1) := by decide +kernel
theorem dX8_fact_1 : decode cX8_fact 1 = .ok (.bipush 30, 2) := by decide +kernel
theorem dX8_fact_3 : decode cX8_fact 3 = .ok (.invokestatic 89, 3) := by decide +kernel
theorem dX8_fact_6 : decode cX8_fact 6 = .ok (.ifCond .eq 20, 3) := by decide +kernel
theorem dX8_fact_9 : decode cX8_fact 9 = .ok (.iload_n 2, 1) := by decide +kernel
theorem dX8_fact_10 : decode cX8_fact 10 = .ok (.bipush 12, 2) := by decide +kernel
theorem dX8_fact_12 : decode cX8_fact 12 = .ok (.invokestatic 89, 3) := by decide +kernel
theorem dX8_fact_15 : decode cX8_fact 15 = .ok (.ifCond .eq 11, 3) := by decide +kernel
theorem dX8_fact_18 : decode cX8_fact 18 = .ok (.iload_n 3, 1) := by decide +kernel
theorem dX8_fact_19 : decode cX8_fact 19 = .ok (.iconst 2, 1) := by decide +kernel
theorem dX8_fact_20 : decode cX8_fact 20 = .ok (.invokestatic 89, 3) := by decide +kernel
theorem dX8_fact_23 : decode cX8_fact 23 = .ok (.ifCond .ne 6, 3) := by decide +kernel
theorem dX8_fact_26 : decode cX8_fact 26 = .ok (.bipush (-2), 2) := by decide +kernel
theorem dX8_fact_28 : decode cX8_fact 28 = .ok (.ireturn, 1) := by decide +kernel
theorem dX8_fact_29 : decode cX8_fact 29 = .ok (.aload_n 0, 1) := by decide +kernel
theorem dX8_fact_30 : decode cX8_fact 30 = .ok (.getfield 68, 3) := by decide +kernel
theorem dX8_fact_33 : decode cX8_fact 33 = .ok (.invokevirtual 256, 3) := by decide +kernel
theorem dX8_fact_36 : decode cX8_fact 36 = .ok (.ifCond .eq 6, 3) := by decide +kernel
theorem dX8_fact_39 : decode cX8_fact 39 = .ok (.bipush (-4), 2) := by decide +kernel
theorem dX8_fact_41 : decode cX8_fact 41 = .ok (.ireturn, 1) := by decide +kernel
theorem dX8_fact_42 : decode cX8_fact 42 = .ok (.aload_n 0, 1) := by decide +kernel
theorem dX8_fact_43 : decode cX8_fact 43 = .ok (.getfield 68, 3) := by decide +kernel
theorem dX8_fact_46 : decode cX8_fact 46 = .ok (.iload_n 1, 1) := by decide +kernel
theorem dX8_fact_47 : decode cX8_fact 47 = .ok (.iload_n 2, 1) := by decide +kernel
theorem dX8_fact_48 : decode cX8_fact 48 = .ok (.iload_n 3, 1) := by decide +kernel
theorem dX8_fact_49 : decode cX8_fact 49 = .ok (.invokevirtual 257, 3) := by decide +kernel
theorem dX8_fact_52 : decode cX8_fact 52 = .ok (.aload_n 0, 1) := by decide +kernel
theorem dX8_fact_53 : decode cX8_fact 53 = .ok (.getfield 68, 3) := by decide +kernel
theorem dX8_fact_56 : decode cX8_fact 56 = .ok (.getfield 260, 3) := by decide +kernel
theorem dX8_fact_59 : decode cX8_fact 59 = .ok (.ireturn, 1) := by decide +kernel
theorem dX8_forget_0 : decode cX8_forget 0 = .ok (.aload_n 0, 1) := by decide +kernel
theorem dX8_forget_1 : decode cX8_forget 1 = .ok (.getfield 68, 3) := by decide +kernel
theorem dX8_forget_4 : decode cX8_forget 4 = .ok (.getfield 260, 3) := by decide +kernel
theorem dX8_forget_7 : decode cX8_forget 7 = .ok (.istore_n 1, 1) := by decide +kernel
theorem dX8_forget_8 : decode cX8_forget 8 = .ok (.aload_n 0, 1) := by decide +kernel
theorem dX8_forget_9 : decode cX8_forget 9 = .ok (.getfield 68, 3) := by decide +kernel
theorem dX8_forget_12 : decode cX8_forget 12 = .ok (.invokevirtual 261, 3) := by decide +kernel
theorem dX8_forget_15 : decode cX8_forget 15 = .ok (.iload_n 1, 1) := by decide +kernel
theorem dX8_forget_16 : decode cX8_forget 16 = .ok (.ireturn, 1) := by decide +kernel
theorem dX8_fit_0 : decode cX8_fit 0 = .ok (.aload_n 0, 1) := by decide +kernel
theorem dX8_fit_1 : decode cX8_fit 1 = .ok (.getfield 34, 3) := by decide +kernel
theorem dX8_fit_4 : decode cX8_fit 4 = .ok (.invokevirtual 127, 3) := by decide +kernel
theorem dX8_fit_7 : decode cX8_fit 7 = .ok (.aload_n 0, 1) := by decide +kernel
theorem dX8_fit_8 : decode cX8_fit 8 = .ok (.getfield 11, 3) := by decide +kernel
theorem dX8_fit_11 : decode cX8_fit 11 = .ok (.iconst 3, 1) := by decide +kernel
theorem dX8_fit_12 : decode cX8_fit 12 = .ok (.aaload, 1) := by decide +kernel
theorem dX8_fit_13 : decode cX8_fit 13 = .ok (.invokevirtual 262, 3) := by decide +kernel
theorem dX8_fit_16 : decode cX8_fit 16 = .ok (.istore_n 1, 1) := by decide +kernel
theorem dX8_fit_17 : decode cX8_fit 17 = .ok (.iconst 0, 1) := by decide +kernel
theorem dX8_fit_18 : decode cX8_fit 18 = .ok (.istore_n 2, 1) := by decide +kernel
theorem dX8_fit_19 : decode cX8_fit 19 = .ok (.iconst 0, 1) := by decide +kernel
theorem dX8_fit_20 : decode cX8_fit 20 = .ok (.istore_n 3, 1) := by decide +kernel
theorem dX8_fit_21 : decode cX8_fit 21 = .ok (.iload_n 3, 1) := by decide +kernel
theorem dX8_fit_22 : decode cX8_fit 22 = .ok (.iconst 3, 1) := by decide +kernel
theorem dX8_fit_23 : decode cX8_fit 23 = .ok (.if_icmp .ge 31, 3) := by decide +kernel
theorem dX8_fit_26 : decode cX8_fit 26 = .ok (.aload_n 0, 1) := by decide +kernel
theorem dX8_fit_27 : decode cX8_fit 27 = .ok (.getfield 68, 3) := by decide +kernel
theorem dX8_fit_30 : decode cX8_fit 30 = .ok (.aload_n 0, 1) := by decide +kernel
theorem dX8_fit_31 : decode cX8_fit 31 = .ok (.getfield 34, 3) := by decide +kernel
theorem dX8_fit_34 : decode cX8_fit 34 = .ok (.iload_n 3, 1) := by decide +kernel
theorem dX8_fit_35 : decode cX8_fit 35 = .ok (.iload_n 1, 1) := by decide +kernel
theorem dX8_fit_36 : decode cX8_fit 36 = .ok (.invokevirtual 265, 3) := by decide +kernel
theorem dX8_fit_39 : decode cX8_fit 39 = .ok (.ifCond .eq 9, 3) := by decide +kernel
theorem dX8_fit_42 : decode cX8_fit 42 = .ok (.iload_n 2, 1) := by decide +kernel
theorem dX8_fit_43 : decode cX8_fit 43 = .ok (.iconst 1, 1) := by decide +kernel
theorem dX8_fit_44 : decode cX8_fit 44 = .ok (.iload_n 3, 1) := by decide +kernel
theorem dX8_fit_45 : decode cX8_fit 45 = .ok (.ishl, 1) := by decide +kernel
theorem dX8_fit_46 : decode cX8_fit 46 = .ok (.ior, 1) := by decide +kernel
theorem dX8_fit_47 : decode cX8_fit 47 = .ok (.istore_n 2, 1) := by decide +kernel
theorem dX8_fit_48 : decode cX8_fit 48 = .ok (.iinc 3 1, 3) := by decide +kernel
theorem dX8_fit_51 : decode cX8_fit 51 = .ok (.goto (-30), 3) := by decide +kernel
theorem dX8_fit_54 : decode cX8_fit 54 = .ok (.iload_n 2, 1) := by decide +kernel
theorem dX8_fit_55 : decode cX8_fit 55 = .ok (.ireturn, 1) := by decide +kernel
theorem dX8_sheet_0 : decode cX8_sheet 0 = .ok (.iload_n 1, 1) := by decide +kernel
theorem dX8_sheet_1 : decode cX8_sheet 1 = .ok (.iconst 4, 1) := by decide +kernel
theorem dX8_sheet_2 : decode cX8_sheet 2 = .ok (.invokestatic 89, 3) := by decide +kernel
theorem dX8_sheet_5 : decode cX8_sheet 5 = .ok (.ifCond .eq 17, 3) := by decide +kernel
theorem dX8_sheet_8 : decode cX8_sheet 8 = .ok (.iload_n 2, 1) := by decide +kernel
theorem dX8_sheet_9 : decode cX8_sheet 9 = .ok (.iconst 3, 1) := by decide +kernel
theorem dX8_sheet_10 : decode cX8_sheet 10 = .ok (.invokestatic 89, 3) := by decide +kernel
theorem dX8_sheet_13 : decode cX8_sheet 13 = .ok (.ifCond .eq 9, 3) := by decide +kernel
theorem dX8_sheet_16 : decode cX8_sheet 16 = .ok (.iload_n 3, 1) := by decide +kernel
theorem dX8_sheet_17 : decode cX8_sheet 17 = .ok (.bipush 60, 2) := by decide +kernel
theorem dX8_sheet_19 : decode cX8_sheet 19 = .ok (.if_icmp .le 6, 3) := by decide +kernel
theorem dX8_sheet_22 : decode cX8_sheet 22 = .ok (.bipush (-2), 2) := by decide +kernel
theorem dX8_sheet_24 : decode cX8_sheet 24 = .ok (.ireturn, 1) := by decide +kernel
theorem dX8_sheet_25 : decode cX8_sheet 25 = .ok (.iload_n 3, 1) := by decide +kernel
theorem dX8_sheet_26 : decode cX8_sheet 26 = .ok (.ifCond .ge 9, 3) := by decide +kernel
theorem dX8_sheet_29 : decode cX8_sheet 29 = .ok (.aload_n 0, 1) := by decide +kernel
theorem dX8_sheet_30 : decode cX8_sheet 30 = .ok (.iconst 5, 1) := by decide +kernel
theorem dX8_sheet_31 : decode cX8_sheet 31 = .ok (.invokevirtual 155, 3) := by decide +kernel
theorem dX8_sheet_34 : decode cX8_sheet 34 = .ok (.ireturn, 1) := by decide +kernel
theorem dX8_sheet_35 : decode cX8_sheet 35 = .ok (.aload_n 0, 1) := by decide +kernel
theorem dX8_sheet_36 : decode cX8_sheet 36 = .ok (.getfield 74, 3) := by decide +kernel
theorem dX8_sheet_39 : decode cX8_sheet 39 = .ok (.iload_n 1, 1) := by decide +kernel
theorem dX8_sheet_40 : decode cX8_sheet 40 = .ok (.aaload, 1) := by decide +kernel
theorem dX8_sheet_41 : decode cX8_sheet 41 = .ok (.iload_n 2, 1) := by decide +kernel
theorem dX8_sheet_42 : decode cX8_sheet 42 = .ok (.iload_n 3, 1) := by decide +kernel
theorem dX8_sheet_43 : decode cX8_sheet 43 = .ok (.invokevirtual 269, 3) := by decide +kernel
theorem dX8_sheet_46 : decode cX8_sheet 46 = .ok (.iload_n 3, 1) := by decide +kernel
theorem dX8_sheet_47 : decode cX8_sheet 47 = .ok (.ireturn, 1) := by decide +kernel
theorem dX8_lose_0 : decode cX8_lose 0 = .ok (.iload_n 1, 1) := by decide +kernel
theorem dX8_lose_1 : decode cX8_lose 1 = .ok (.iconst 4, 1) := by decide +kernel
theorem dX8_lose_2 : decode cX8_lose 2 = .ok (.invokestatic 89, 3) := by decide +kernel
theorem dX8_lose_5 : decode cX8_lose 5 = .ok (.ifCond .ne 6, 3) := by decide +kernel
theorem dX8_lose_8 : decode cX8_lose 8 = .ok (.bipush (-2), 2) := by decide +kernel
theorem dX8_lose_10 : decode cX8_lose 10 = .ok (.ireturn, 1) := by decide +kernel
theorem dX8_lose_11 : decode cX8_lose 11 = .ok (.aload_n 0, 1) := by decide +kernel
theorem dX8_lose_12 : decode cX8_lose 12 = .ok (.getfield 74, 3) := by decide +kernel
theorem dX8_lose_15 : decode cX8_lose 15 = .ok (.iload_n 1, 1) := by decide +kernel
theorem dX8_lose_16 : decode cX8_lose 16 = .ok (.aaload, 1) := by decide +kernel
theorem dX8_lose_17 : decode cX8_lose 17 = .ok (.invokevirtual 152, 3) := by decide +kernel
theorem dX8_lose_20 : decode cX8_lose 20 = .ok (.ifCond .eq 9, 3) := by decide +kernel
theorem dX8_lose_23 : decode cX8_lose 23 = .ok (.aload_n 0, 1) := by decide +kernel
theorem dX8_lose_24 : decode cX8_lose 24 = .ok (.iconst 1, 1) := by decide +kernel
theorem dX8_lose_25 : decode cX8_lose 25 = .ok (.invokevirtual 155, 3) := by decide +kernel
theorem dX8_lose_28 : decode cX8_lose 28 = .ok (.ireturn, 1) := by decide +kernel
theorem dX8_lose_29 : decode cX8_lose 29 = .ok (.aload_n 0, 1) := by decide +kernel
theorem dX8_lose_30 : decode cX8_lose 30 = .ok (.getfield 74, 3) := by decide +kernel
theorem dX8_lose_33 : decode cX8_lose 33 = .ok (.iload_n 1, 1) := by decide +kernel
theorem dX8_lose_34 : decode cX8_lose 34 = .ok (.aaload, 1) := by decide +kernel
theorem dX8_lose_35 : decode cX8_lose 35 = .ok (.getfield 273, 3) := by decide +kernel
theorem dX8_lose_38 : decode cX8_lose 38 = .ok (.istore_n 2, 1) := by decide +kernel
theorem dX8_lose_39 : decode cX8_lose 39 = .ok (.aload_n 0, 1) := by decide +kernel
theorem dX8_lose_40 : decode cX8_lose 40 = .ok (.getfield 74, 3) := by decide +kernel
theorem dX8_lose_43 : decode cX8_lose 43 = .ok (.iload_n 1, 1) := by decide +kernel
theorem dX8_lose_44 : decode cX8_lose 44 = .ok (.aaload, 1) := by decide +kernel
theorem dX8_lose_45 : decode cX8_lose 45 = .ok (.invokevirtual 274, 3) := by decide +kernel
theorem dX8_lose_48 : decode cX8_lose 48 = .ok (.iload_n 2, 1) := by decide +kernel
theorem dX8_lose_49 : decode cX8_lose 49 = .ok (.ireturn, 1) := by decide +kernel
theorem dX8_lay_0 : decode cX8_lay 0 = .ok (.iload_n 1, 1) := by decide +kernel
theorem dX8_lay_1 : decode cX8_lay 1 = .ok (.iconst 4, 1) := by decide +kernel
theorem dX8_lay_2 : decode cX8_lay 2 = .ok (.invokestatic 89, 3) := by decide +kernel
theorem dX8_lay_5 : decode cX8_lay 5 = .ok (.ifCond .eq 11, 3) := by decide +kernel
theorem dX8_lay_8 : decode cX8_lay 8 = .ok (.iload_n 2, 1) := by decide +kernel
theorem dX8_lay_9 : decode cX8_lay 9 = .ok (.iconst 3, 1) := by decide +kernel
theorem dX8_lay_10 : decode cX8_lay 10 = .ok (.invokestatic 89, 3) := by decide +kernel
theorem dX8_lay_13 : decode cX8_lay 13 = .ok (.ifCond .ne 6, 3) := by decide +kernel
theorem dX8_lay_16 : decode cX8_lay 16 = .ok (.bipush (-2), 2) := by decide +kernel
theorem dX8_lay_18 : decode cX8_lay 18 = .ok (.ireturn, 1) := by decide +kernel
theorem dX8_lay_19 : decode cX8_lay 19 = .ok (.aload_n 0, 1) := by decide +kernel
theorem dX8_lay_20 : decode cX8_lay 20 = .ok (.getfield 74, 3) := by decide +kernel
theorem dX8_lay_23 : decode cX8_lay 23 = .ok (.iload_n 1, 1) := by decide +kernel
theorem dX8_lay_24 : decode cX8_lay 24 = .ok (.aaload, 1) := by decide +kernel
theorem dX8_lay_25 : decode cX8_lay 25 = .ok (.iload_n 2, 1) := by decide +kernel
theorem dX8_lay_26 : decode cX8_lay 26 = .ok (.iload_n 3, 1) := by decide +kernel
theorem dX8_lay_27 : decode cX8_lay 27 = .ok (.invokevirtual 277, 3) := by decide +kernel
theorem dX8_lay_30 : decode cX8_lay 30 = .ok (.istore 5, 2) := by decide +kernel
theorem dX8_lay_32 : decode cX8_lay 32 = .ok (.iload 5, 2) := by decide +kernel
theorem dX8_lay_34 : decode cX8_lay 34 = .ok (.ifCond .eq 10, 3) := by decide +kernel
theorem dX8_lay_37 : decode cX8_lay 37 = .ok (.aload_n 0, 1) := by decide +kernel
theorem dX8_lay_38 : decode cX8_lay 38 = .ok (.iload 5, 2) := by decide +kernel
theorem dX8_lay_40 : decode cX8_lay 40 = .ok (.invokevirtual 155, 3) := by decide +kernel
theorem dX8_lay_43 : decode cX8_lay 43 = .ok (.ireturn, 1) := by decide +kernel
theorem dX8_lay_44 : decode cX8_lay 44 = .ok (.aload_n 0, 1) := by decide +kernel
theorem dX8_lay_45 : decode cX8_lay 45 = .ok (.getfield 74, 3) := by decide +kernel
theorem dX8_lay_48 : decode cX8_lay 48 = .ok (.iload_n 1, 1) := by decide +kernel
theorem dX8_lay_49 : decode cX8_lay 49 = .ok (.aaload, 1) := by decide +kernel
theorem dX8_lay_50 : decode cX8_lay 50 = .ok (.iload_n 3, 1) := by decide +kernel
theorem dX8_lay_51 : decode cX8_lay 51 = .ok (.iload 4, 2) := by decide +kernel
theorem dX8_lay_53 : decode cX8_lay 53 = .ok (.invokevirtual 280, 3) := by decide +kernel
theorem dX8_lay_56 : decode cX8_lay 56 = .ok (.iconst 1, 1) := by decide +kernel
theorem dX8_lay_57 : decode cX8_lay 57 = .ok (.ireturn, 1) := by decide +kernel
theorem dX8_get_0 : decode cX8_get 0 = .ok (.iload_n 1, 1) := by decide +kernel
theorem dX8_get_1 : decode cX8_get 1 = .ok (.iconst 4, 1) := by decide +kernel
theorem dX8_get_2 : decode cX8_get 2 = .ok (.invokestatic 89, 3) := by decide +kernel
theorem dX8_get_5 : decode cX8_get 5 = .ok (.ifCond .eq 11, 3) := by decide +kernel
theorem dX8_get_8 : decode cX8_get 8 = .ok (.iload_n 2, 1) := by decide +kernel
theorem dX8_get_9 : decode cX8_get 9 = .ok (.iconst 3, 1) := by decide +kernel
theorem dX8_get_10 : decode cX8_get 10 = .ok (.invokestatic 89, 3) := by decide +kernel
theorem dX8_get_13 : decode cX8_get 13 = .ok (.ifCond .ne 7, 3) := by decide +kernel
theorem dX8_get_16 : decode cX8_get 16 = .ok (.ldc_w 283, 3) := by decide +kernel
theorem dX8_get_19 : decode cX8_get 19 = .ok (.ireturn, 1) := by decide +kernel
theorem dX8_get_20 : decode cX8_get 20 = .ok (.aload_n 0, 1) := by decide +kernel
theorem dX8_get_21 : decode cX8_get 21 = .ok (.getfield 74, 3) := by decide +kernel
theorem dX8_get_24 : decode cX8_get 24 = .ok (.iload_n 1, 1) := by decide +kernel
theorem dX8_get_25 : decode cX8_get 25 = .ok (.aaload, 1) := by decide +kernel
theorem dX8_get_26 : decode cX8_get 26 = .ok (.iload_n 2, 1) := by decide +kernel
theorem dX8_get_27 : decode cX8_get 27 = .ok (.iload_n 3, 1) := by decide +kernel
theorem dX8_get_28 : decode cX8_get 28 = .ok (.invokevirtual 277, 3) := by decide +kernel
theorem dX8_get_31 : decode cX8_get 31 = .ok (.istore 4, 2) := by decide +kernel
theorem dX8_get_33 : decode cX8_get 33 = .ok (.iload 4, 2) := by decide +kernel
theorem dX8_get_35 : decode cX8_get 35 = .ok (.ifCond .eq 14, 3) := by decide +kernel
theorem dX8_get_38 : decode cX8_get 38 = .ok (.aload_n 0, 1) := by decide +kernel
theorem dX8_get_39 : decode cX8_get 39 = .ok (.iload 4, 2) := by decide +kernel
theorem dX8_get_41 : decode cX8_get 41 = .ok (.invokevirtual 155, 3) := by decide +kernel
theorem dX8_get_44 : decode cX8_get 44 = .ok (.pop, 1) := by decide +kernel
theorem dX8_get_45 : decode cX8_get 45 = .ok (.ldc_w 283, 3) := by decide +kernel
theorem dX8_get_48 : decode cX8_get 48 = .ok (.ireturn, 1) := by decide +kernel
theorem dX8_get_49 : decode cX8_get 49 = .ok (.aload_n 0, 1) := by decide +kernel
theorem dX8_get_50 : decode cX8_get 50 = .ok (.getfield 74, 3) := by decide +kernel
theorem dX8_get_53 : decode cX8_get 53 = .ok (.iload_n 1, 1) := by decide +kernel
theorem dX8_get_54 : decode cX8_get 54 = .ok (.aaload, 1) := by decide +kernel
theorem dX8_get_55 : decode cX8_get 55 = .ok (.iload_n 3, 1) := by decide +kernel
theorem dX8_get_56 : decode cX8_get 56 = .ok (.invokevirtual 284, 3) := by decide +kernel
theorem dX8_get_59 : decode cX8_get 59 = .ok (.ireturn, 1) := by decide +kernel
theorem dX8_copy_0 : decode cX8_copy 0 = .ok (.iload_n 1, 1) := by decide +kernel
theorem dX8_copy_1 : decode cX8_copy 1 = .ok (.iconst 4, 1) := by decide +kernel
theorem dX8_copy_2 : decode cX8_copy 2 = .ok (.invokestatic 89, 3) := by decide +kernel
theorem dX8_copy_5 : decode cX8_copy 5 = .ok (.ifCond .eq 11, 3) := by decide +kernel
theorem dX8_copy_8 : decode cX8_copy 8 = .ok (.iload_n 3, 1) := by decide +kernel
theorem dX8_copy_9 : decode cX8_copy 9 = .ok (.iconst 4, 1) := by decide +kernel
theorem dX8_copy_10 : decode cX8_copy 10 = .ok (.invokestatic 89, 3) := by decide +kernel
theorem dX8_copy_13 : decode cX8_copy 13 = .ok (.ifCond .ne 6, 3) := by decide +kernel
theorem dX8_copy_16 : decode cX8_copy 16 = .ok (.bipush (-2), 2) := by decide +kernel
theorem dX8_copy_18 : decode cX8_copy 18 = .ok (.ireturn, 1) := by decide +kernel
theorem dX8_copy_19 : decode cX8_copy 19 = .ok (.aload_n 0, 1) := by decide +kernel
theorem dX8_copy_20 : decode cX8_copy 20 = .ok (.getfield 74, 3) := by decide +kernel
theorem dX8_copy_23 : decode cX8_copy 23 = .ok (.iload_n 1, 1) := by decide +kernel
theorem dX8_copy_24 : decode cX8_copy 24 = .ok (.aaload, 1) := by decide +kernel
theorem dX8_copy_25 : decode cX8_copy 25 = .ok (.invokevirtual 152, 3) := by decide +kernel
theorem dX8_copy_28 : decode cX8_copy 28 = .ok (.ifCond .ne 15, 3) := by decide +kernel
theorem dX8_copy_31 : decode cX8_copy 31 = .ok (.aload_n 0, 1) := by decide +kernel
theorem dX8_copy_32 : decode cX8_copy 32 = .ok (.getfield 74, 3) := by decide +kernel
theorem dX8_copy_35 : decode cX8_copy 35 = .ok (.iload_n 3, 1) := by decide +kernel
theorem dX8_copy_36 : decode cX8_copy 36 = .ok (.aaload, 1) := by decide +kernel
theorem dX8_copy_37 : decode cX8_copy 37 = .ok (.invokevirtual 152, 3) := by decide +kernel
theorem dX8_copy_40 : decode cX8_copy 40 = .ok (.ifCond .eq 9, 3) := by decide +kernel
theorem dX8_copy_43 : decode cX8_copy 43 = .ok (.aload_n 0, 1) := by decide +kernel
theorem dX8_copy_44 : decode cX8_copy 44 = .ok (.iconst 1, 1) := by decide +kernel
theorem dX8_copy_45 : decode cX8_copy 45 = .ok (.invokevirtual 155, 3) := by decide +kernel
theorem dX8_copy_48 : decode cX8_copy 48 = .ok (.ireturn, 1) := by decide +kernel
theorem dX8_copy_49 : decode cX8_copy 49 = .ok (.aload_n 0, 1) := by decide +kernel
theorem dX8_copy_50 : decode cX8_copy 50 = .ok (.getfield 74, 3) := by decide +kernel
theorem dX8_copy_53 : decode cX8_copy 53 = .ok (.iload_n 1, 1) := by decide +kernel
theorem dX8_copy_54 : decode cX8_copy 54 = .ok (.aaload, 1) := by decide +kernel
theorem dX8_copy_55 : decode cX8_copy 55 = .ok (.getfield 287, 3) := by decide +kernel
theorem dX8_copy_58 : decode cX8_copy 58 = .ok (.aload_n 0, 1) := by decide +kernel
theorem dX8_copy_59 : decode cX8_copy 59 = .ok (.getfield 74, 3) := by decide +kernel
theorem dX8_copy_62 : decode cX8_copy 62 = .ok (.iload_n 3, 1) := by decide +kernel
theorem dX8_copy_63 : decode cX8_copy 63 = .ok (.aaload, 1) := by decide +kernel
theorem dX8_copy_64 : decode cX8_copy 64 = .ok (.getfield 287, 3) := by decide +kernel
theorem dX8_copy_67 : decode cX8_copy 67 = .ok (.if_icmp .eq 9, 3) := by decide +kernel
theorem dX8_copy_70 : decode cX8_copy 70 = .ok (.aload_n 0, 1) := by decide +kernel
theorem dX8_copy_71 : decode cX8_copy 71 = .ok (.iconst 4, 1) := by decide +kernel
theorem dX8_copy_72 : decode cX8_copy 72 = .ok (.invokevirtual 155, 3) := by decide +kernel
theorem dX8_copy_75 : decode cX8_copy 75 = .ok (.ireturn, 1) := by decide +kernel
theorem dX8_copy_76 : decode cX8_copy 76 = .ok (.aload_n 0, 1) := by decide +kernel
theorem dX8_copy_77 : decode cX8_copy 77 = .ok (.getfield 74, 3) := by decide +kernel
theorem dX8_copy_80 : decode cX8_copy 80 = .ok (.iload_n 1, 1) := by decide +kernel
theorem dX8_copy_81 : decode cX8_copy 81 = .ok (.aaload, 1) := by decide +kernel
theorem dX8_copy_82 : decode cX8_copy 82 = .ok (.iload_n 2, 1) := by decide +kernel
theorem dX8_copy_83 : decode cX8_copy 83 = .ok (.iload 5, 2) := by decide +kernel
theorem dX8_copy_85 : decode cX8_copy 85 = .ok (.invokevirtual 290, 3) := by decide +kernel
theorem dX8_copy_88 : decode cX8_copy 88 = .ok (.ifCond .eq 19, 3) := by decide +kernel
theorem dX8_copy_91 : decode cX8_copy 91 = .ok (.aload_n 0, 1) := by decide +kernel
theorem dX8_copy_92 : decode cX8_copy 92 = .ok (.getfield 74, 3) := by decide +kernel
theorem dX8_copy_95 : decode cX8_copy 95 = .ok (.iload_n 3, 1) := by decide +kernel
theorem dX8_copy_96 : decode cX8_copy 96 = .ok (.aaload, 1) := by decide +kernel
theorem dX8_copy_97 : decode cX8_copy 97 = .ok (.iload 4, 2) := by decide +kernel
theorem dX8_copy_99 : decode cX8_copy 99 = .ok (.iload 5, 2) := by decide +kernel
theorem dX8_copy_101 : decode cX8_copy 101 = .ok (.invokevirtual 290, 3) := by decide +kernel
theorem dX8_copy_104 : decode cX8_copy 104 = .ok (.ifCond .ne 9, 3) := by decide +kernel
theorem dX8_copy_107 : decode cX8_copy 107 = .ok (.aload_n 0, 1) := by decide +kernel
theorem dX8_copy_108 : decode cX8_copy 108 = .ok (.iconst 2, 1) := by decide +kernel
theorem dX8_copy_109 : decode cX8_copy 109 = .ok (.invokevirtual 155, 3) := by decide +kernel
theorem dX8_copy_112 : decode cX8_copy 112 = .ok (.ireturn, 1) := by decide +kernel
theorem dX8_copy_113 : decode cX8_copy 113 = .ok (.aload_n 0, 1) := by decide +kernel
theorem dX8_copy_114 : decode cX8_copy 114 = .ok (.getfield 74, 3) := by decide +kernel
theorem dX8_copy_117 : decode cX8_copy 117 = .ok (.iload_n 1, 1) := by decide +kernel
theorem dX8_copy_118 : decode cX8_copy 118 = .ok (.aaload, 1) := by decide +kernel
theorem dX8_copy_119 : decode cX8_copy 119 = .ok (.getfield 293, 3) := by decide +kernel
theorem dX8_copy_122 : decode cX8_copy 122 = .ok (.iload_n 2, 1) := by decide +kernel
theorem dX8_copy_123 : decode cX8_copy 123 = .ok (.aload_n 0, 1) := by decide +kernel
theorem dX8_copy_124 : decode cX8_copy 124 = .ok (.getfield 74, 3) := by decide +kernel
theorem dX8_copy_127 : decode cX8_copy 127 = .ok (.iload_n 3, 1) := by decide +kernel
theorem dX8_copy_128 : decode cX8_copy 128 = .ok (.aaload, 1) := by decide +kernel
theorem dX8_copy_129 : decode cX8_copy 129 = .ok (.getfield 293, 3) := by decide +kernel
theorem dX8_copy_132 : decode cX8_copy 132 = .ok (.iload 4, 2) := by decide +kernel
theorem dX8_copy_134 : decode cX8_copy 134 = .ok (.iload 5, 2) := by decide +kernel
theorem dX8_copy_136 : decode cX8_copy 136 = .ok (.invokestatic 296, 3) := by decide +kernel
theorem dX8_copy_139 : decode cX8_copy 139 = .ok (.iconst 1, 1) := by decide +kernel
theorem dX8_copy_140 : decode cX8_copy 140 = .ok (.ireturn, 1) := by decide +kernel
theorem dX8_write_0 : decode cX8_write 0 = .ok (.iload_n 1, 1) := by decide +kernel
theorem dX8_write_1 : decode cX8_write 1 = .ok (.iconst 3, 1) := by decide +kernel
theorem dX8_write_2 : decode cX8_write 2 = .ok (.invokestatic 89, 3) := by decide +kernel
theorem dX8_write_5 : decode cX8_write 5 = .ok (.ifCond .eq 11, 3) := by decide +kernel
theorem dX8_write_8 : decode cX8_write 8 = .ok (.iload_n 2, 1) := by decide +kernel
theorem dX8_write_9 : decode cX8_write 9 = .ok (.iconst 4, 1) := by decide +kernel
theorem dX8_write_10 : decode cX8_write 10 = .ok (.invokestatic 89, 3) := by decide +kernel
theorem dX8_write_13 : decode cX8_write 13 = .ok (.ifCond .ne 6, 3) := by decide +kernel
theorem dX8_write_16 : decode cX8_write 16 = .ok (.bipush (-2), 2) := by decide +kernel
theorem dX8_write_18 : decode cX8_write 18 = .ok (.ireturn, 1) := by decide +kernel
theorem dX8_write_19 : decode cX8_write 19 = .ok (.aload_n 0, 1) := by decide +kernel
theorem dX8_write_20 : decode cX8_write 20 = .ok (.getfield 74, 3) := by decide +kernel
theorem dX8_write_23 : decode cX8_write 23 = .ok (.iload_n 2, 1) := by decide +kernel
theorem dX8_write_24 : decode cX8_write 24 = .ok (.aaload, 1) := by decide +kernel
theorem dX8_write_25 : decode cX8_write 25 = .ok (.invokevirtual 152, 3) := by decide +kernel
theorem dX8_write_28 : decode cX8_write 28 = .ok (.ifCond .eq 9, 3) := by decide +kernel
theorem dX8_write_31 : decode cX8_write 31 = .ok (.aload_n 0, 1) := by decide +kernel
theorem dX8_write_32 : decode cX8_write 32 = .ok (.iconst 1, 1) := by decide +kernel
theorem dX8_write_33 : decode cX8_write 33 = .ok (.invokevirtual 155, 3) := by decide +kernel
theorem dX8_write_36 : decode cX8_write 36 = .ok (.ireturn, 1) := by decide +kernel
theorem dX8_write_37 : decode cX8_write 37 = .ok (.aload_n 0, 1) := by decide +kernel
theorem dX8_write_38 : decode cX8_write 38 = .ok (.getfield 34, 3) := by decide +kernel
theorem dX8_write_41 : decode cX8_write 41 = .ok (.invokevirtual 127, 3) := by decide +kernel
theorem dX8_write_44 : decode cX8_write 44 = .ok (.aload_n 0, 1) := by decide +kernel
theorem dX8_write_45 : decode cX8_write 45 = .ok (.getfield 74, 3) := by decide +kernel
theorem dX8_write_48 : decode cX8_write 48 = .ok (.iload_n 2, 1) := by decide +kernel
theorem dX8_write_49 : decode cX8_write 49 = .ok (.aaload, 1) := by decide +kernel
theorem dX8_write_50 : decode cX8_write 50 = .ok (.getfield 273, 3) := by decide +kernel
theorem dX8_write_53 : decode cX8_write 53 = .ok (.aload_n 0, 1) := by decide +kernel
theorem dX8_write_54 : decode cX8_write 54 = .ok (.getfield 11, 3) := by decide +kernel
theorem dX8_write_57 : decode cX8_write 57 = .ok (.iconst 3, 1) := by decide +kernel
theorem dX8_write_58 : decode cX8_write 58 = .ok (.aaload, 1) := by decide +kernel
theorem dX8_write_59 : decode cX8_write 59 = .ok (.invokevirtual 262, 3) := by decide +kernel
theorem dX8_write_62 : decode cX8_write 62 = .ok (.invokestatic 172, 3) := by decide +kernel
theorem dX8_write_65 : decode cX8_write 65 = .ok (.istore_n 3, 1) := by decide +kernel
theorem dX8_write_66 : decode cX8_write 66 = .ok (.iconst 0, 1) := by decide +kernel
theorem dX8_write_67 : decode cX8_write 67 = .ok (.istore 4, 2) := by decide +kernel
theorem dX8_write_69 : decode cX8_write 69 = .ok (.iload 4, 2) := by decide +kernel
theorem dX8_write_71 : decode cX8_write 71 = .ok (.iload_n 3, 1) := by decide +kernel
theorem dX8_write_72 : decode cX8_write 72 = .ok (.if_icmp .ge 30, 3) := by decide +kernel
theorem dX8_write_75 : decode cX8_write 75 = .ok (.aload_n 0, 1) := by decide +kernel
theorem dX8_write_76 : decode cX8_write 76 = .ok (.getfield 74, 3) := by decide +kernel
theorem dX8_write_79 : decode cX8_write 79 = .ok (.iload_n 2, 1) := by decide +kernel
theorem dX8_write_80 : decode cX8_write 80 = .ok (.aaload, 1) := by decide +kernel
theorem dX8_write_81 : decode cX8_write 81 = .ok (.iload 4, 2) := by decide +kernel
theorem dX8_write_83 : decode cX8_write 83 = .ok (.aload_n 0, 1) := by decide +kernel
theorem dX8_write_84 : decode cX8_write 84 = .ok (.getfield 34, 3) := by decide +kernel
theorem dX8_write_87 : decode cX8_write 87 = .ok (.iload_n 1, 1) := by decide +kernel
theorem dX8_write_88 : decode cX8_write 88 = .ok (.iload 4, 2) := by decide +kernel
theorem dX8_write_90 : decode cX8_write 90 = .ok (.invokevirtual 188, 3) := by decide +kernel
theorem dX8_write_93 : decode cX8_write 93 = .ok (.invokevirtual 280, 3) := by decide +kernel
theorem dX8_write_96 : decode cX8_write 96 = .ok (.iinc 4 1, 3) := by decide +kernel
theorem dX8_write_99 : decode cX8_write 99 = .ok (.goto (-30), 3) := by decide +kernel
theorem dX8_write_102 : decode cX8_write 102 = .ok (.iload_n 3, 1) := by decide +kernel
theorem dX8_write_103 : decode cX8_write 103 = .ok (.ireturn, 1) := by decide +kernel
theorem dX8_count_0 : decode cX8_count 0 = .ok (.iload_n 1, 1) := by decide +kernel
theorem dX8_count_1 : decode cX8_count 1 = .ok (.tableswitch 110 0 8 #[51, 61, 61, 61, 73, 81, 92, 100, 105], 51) := by decide +kernel
theorem dX8_count_52 : decode cX8_count 52 = .ok (.aload_n 0, 1) := by decide +kernel
theorem dX8_count_53 : decode cX8_count 53 = .ok (.getfield 11, 3) := by decide +kernel
theorem dX8_count_56 : decode cX8_count 56 = .ok (.iconst 3, 1) := by decide +kernel
theorem dX8_count_57 : decode cX8_count 57 = .ok (.aaload, 1) := by decide +kernel
theorem dX8_count_58 : decode cX8_count 58 = .ok (.invokevirtual 262, 3) := by decide +kernel
theorem dX8_count_61 : decode cX8_count 61 = .ok (.ireturn, 1) := by decide +kernel
theorem dX8_count_62 : decode cX8_count 62 = .ok (.aload_n 0, 1) := by decide +kernel
theorem dX8_count_63 : decode cX8_count 63 = .ok (.getfield 11, 3) := by decide +kernel
theorem dX8_count_66 : decode cX8_count 66 = .ok (.iload_n 1, 1) := by decide +kernel
theorem dX8_count_67 : decode cX8_count 67 = .ok (.iconst 1, 1) := by decide +kernel
theorem dX8_count_68 : decode cX8_count 68 = .ok (.isub, 1) := by decide +kernel
theorem dX8_count_69 : decode cX8_count 69 = .ok (.aaload, 1) := by decide +kernel
theorem dX8_count_70 : decode cX8_count 70 = .ok (.invokevirtual 262, 3) := by decide +kernel
theorem dX8_count_73 : decode cX8_count 73 = .ok (.ireturn, 1) := by decide +kernel
theorem dX8_count_74 : decode cX8_count 74 = .ok (.aload_n 0, 1) := by decide +kernel
theorem dX8_count_75 : decode cX8_count 75 = .ok (.getfield 25, 3) := by decide +kernel
theorem dX8_count_78 : decode cX8_count 78 = .ok (.getfield 149, 3) := by decide +kernel
theorem dX8_count_81 : decode cX8_count 81 = .ok (.ireturn, 1) := by decide +kernel
theorem dX8_count_82 : decode cX8_count 82 = .ok (.aload_n 0, 1) := by decide +kernel
theorem dX8_count_83 : decode cX8_count 83 = .ok (.getfield 61, 3) := by decide +kernel
theorem dX8_count_86 : decode cX8_count 86 = .ok (.getfield 302, 3) := by decide +kernel
theorem dX8_count_89 : decode cX8_count 89 = .ok (.invokestatic 192, 3) := by decide +kernel
theorem dX8_count_92 : decode cX8_count 92 = .ok (.ireturn, 1) := by decide +kernel
theorem dX8_count_93 : decode cX8_count 93 = .ok (.aload_n 0, 1) := by decide +kernel
theorem dX8_count_94 : decode cX8_count 94 = .ok (.getfield 68, 3) := by decide +kernel
theorem dX8_count_97 : decode cX8_count 97 = .ok (.getfield 260, 3) := by decide +kernel
theorem dX8_count_100 : decode cX8_count 100 = .ok (.ireturn, 1) := by decide +kernel
theorem dX8_count_101 : decode cX8_count 101 = .ok (.aload_n 0, 1) := by decide +kernel
theorem dX8_count_102 : decode cX8_count 102 = .ok (.invokevirtual 250, 3) := by decide +kernel
theorem dX8_count_105 : decode cX8_count 105 = .ok (.ireturn, 1) := by decide +kernel
theorem dX8_count_106 : decode cX8_count 106 = .ok (.aload_n 0, 1) := by decide +kernel
theorem dX8_count_107 : decode cX8_count 107 = .ok (.getfield 78, 3) := by decide +kernel
theorem dX8_count_110 : decode cX8_count 110 = .ok (.ireturn, 1) := by decide +kernel
theorem dX8_count_111 : decode cX8_count 111 = .ok (.bipush (-2), 2) := by decide +kernel
theorem dX8_count_113 : decode cX8_count 113 = .ok (.ireturn, 1) := by decide +kernel
theorem dX8_digest_0 : decode cX8_digest 0 = .ok (.ldc2_w 305, 3) := by decide +kernel
theorem dX8_digest_3 : decode cX8_digest 3 = .ok (.lstore_n 1, 1) := by decide +kernel
theorem dX8_digest_4 : decode cX8_digest 4 = .ok (.iconst 0, 1) := by decide +kernel
theorem dX8_digest_5 : decode cX8_digest 5 = .ok (.istore_n 3, 1) := by decide +kernel
theorem dX8_digest_6 : decode cX8_digest 6 = .ok (.iload_n 3, 1) := by decide +kernel
theorem dX8_digest_7 : decode cX8_digest 7 = .ok (.bipush 7, 2) := by decide +kernel
theorem dX8_digest_9 : decode cX8_digest 9 = .ok (.if_icmp .gt 22, 3) := by decide +kernel
theorem dX8_digest_12 : decode cX8_digest 12 = .ok (.ldc2_w 307, 3) := by decide +kernel
theorem dX8_digest_15 : decode cX8_digest 15 = .ok (.lload_n 1, 1) := by decide +kernel
theorem dX8_digest_16 : decode cX8_digest 16 = .ok (.lmul, 1) := by decide +kernel
theorem dX8_digest_17 : decode cX8_digest 17 = .ok (.aload_n 0, 1) := by decide +kernel
theorem dX8_digest_18 : decode cX8_digest 18 = .ok (.iload_n 3, 1) := by decide +kernel
theorem dX8_digest_19 : decode cX8_digest 19 = .ok (.invokevirtual 309, 3) := by decide +kernel
theorem dX8_digest_22 : decode cX8_digest 22 = .ok (.i2l, 1) := by decide +kernel
theorem dX8_digest_23 : decode cX8_digest 23 = .ok (.ladd, 1) := by decide +kernel
theorem dX8_digest_24 : decode cX8_digest 24 = .ok (.lstore_n 1, 1) := by decide +kernel
theorem dX8_digest_25 : decode cX8_digest 25 = .ok (.iinc 3 1, 3) := by decide +kernel
theorem dX8_digest_28 : decode cX8_digest 28 = .ok (.goto (-22), 3) := by decide +kernel
theorem dX8_digest_31 : decode cX8_digest 31 = .ok (.iconst 0, 1) := by decide +kernel
theorem dX8_digest_32 : decode cX8_digest 32 = .ok (.istore_n 3, 1) := by decide +kernel
theorem dX8_digest_33 : decode cX8_digest 33 = .ok (.iload_n 3, 1) := by decide +kernel
theorem dX8_digest_34 : decode cX8_digest 34 = .ok (.iconst 4, 1) := by decide +kernel
theorem dX8_digest_35 : decode cX8_digest 35 = .ok (.if_icmp .ge 22, 3) := by decide +kernel
theorem dX8_digest_38 : decode cX8_digest 38 = .ok (.ldc2_w 307, 3) := by decide +kernel
theorem dX8_digest_41 : decode cX8_digest 41 = .ok (.lload_n 1, 1) := by decide +kernel
theorem dX8_digest_42 : decode cX8_digest 42 = .ok (.lmul, 1) := by decide +kernel
theorem dX8_digest_43 : decode cX8_digest 43 = .ok (.aload_n 0, 1) := by decide +kernel
theorem dX8_digest_44 : decode cX8_digest 44 = .ok (.iload_n 3, 1) := by decide +kernel
theorem dX8_digest_45 : decode cX8_digest 45 = .ok (.invokevirtual 312, 3) := by decide +kernel
theorem dX8_digest_48 : decode cX8_digest 48 = .ok (.i2l, 1) := by decide +kernel
theorem dX8_digest_49 : decode cX8_digest 49 = .ok (.ladd, 1) := by decide +kernel
theorem dX8_digest_50 : decode cX8_digest 50 = .ok (.lstore_n 1, 1) := by decide +kernel
theorem dX8_digest_51 : decode cX8_digest 51 = .ok (.iinc 3 1, 3) := by decide +kernel
theorem dX8_digest_54 : decode cX8_digest 54 = .ok (.goto (-21), 3) := by decide +kernel
theorem dX8_digest_57 : decode cX8_digest 57 = .ok (.aload_n 0, 1) := by decide +kernel
theorem dX8_digest_58 : decode cX8_digest 58 = .ok (.getfield 11, 3) := by decide +kernel
theorem dX8_digest_61 : decode cX8_digest 61 = .ok (.iconst 3, 1) := by decide +kernel
theorem dX8_digest_62 : decode cX8_digest 62 = .ok (.aaload, 1) := by decide +kernel
theorem dX8_digest_63 : decode cX8_digest 63 = .ok (.invokevirtual 262, 3) := by decide +kernel
theorem dX8_digest_66 : decode cX8_digest 66 = .ok (.istore_n 3, 1) := by decide +kernel
theorem dX8_digest_67 : decode cX8_digest 67 = .ok (.iconst 0, 1) := by decide +kernel
theorem dX8_digest_68 : decode cX8_digest 68 = .ok (.istore 4, 2) := by decide +kernel
theorem dX8_digest_70 : decode cX8_digest 70 = .ok (.iload 4, 2) := by decide +kernel
theorem dX8_digest_72 : decode cX8_digest 72 = .ok (.iload_n 3, 1) := by decide +kernel
theorem dX8_digest_73 : decode cX8_digest 73 = .ok (.if_icmp .ge 23, 3) := by decide +kernel
theorem dX8_digest_76 : decode cX8_digest 76 = .ok (.ldc2_w 307, 3) := by decide +kernel
theorem dX8_digest_79 : decode cX8_digest 79 = .ok (.lload_n 1, 1) := by decide +kernel
theorem dX8_digest_80 : decode cX8_digest 80 = .ok (.lmul, 1) := by decide +kernel
theorem dX8_digest_81 : decode cX8_digest 81 = .ok (.aload_n 0, 1) := by decide +kernel
theorem dX8_digest_82 : decode cX8_digest 82 = .ok (.iload 4, 2) := by decide +kernel
theorem dX8_digest_84 : decode cX8_digest 84 = .ok (.invokevirtual 315, 3) := by decide +kernel
theorem dX8_digest_87 : decode cX8_digest 87 = .ok (.i2l, 1) := by decide +kernel
theorem dX8_digest_88 : decode cX8_digest 88 = .ok (.ladd, 1) := by decide +kernel
theorem dX8_digest_89 : decode cX8_digest 89 = .ok (.lstore_n 1, 1) := by decide +kernel
theorem dX8_digest_90 : decode cX8_digest 90 = .ok (.iinc 4 1, 3) := by decide +kernel
theorem dX8_digest_93 : decode cX8_digest 93 = .ok (.goto (-23), 3) := by decide +kernel
theorem dX8_digest_96 : decode cX8_digest 96 = .ok (.iconst 0, 1) := by decide +kernel
theorem dX8_digest_97 : decode cX8_digest 97 = .ok (.istore 4, 2) := by decide +kernel
theorem dX8_digest_99 : decode cX8_digest 99 = .ok (.iload 4, 2) := by decide +kernel
theorem dX8_digest_101 : decode cX8_digest 101 = .ok (.iconst 3, 1) := by decide +kernel
theorem dX8_digest_102 : decode cX8_digest 102 = .ok (.if_icmp .ge 17, 3) := by decide +kernel
theorem dX8_digest_105 : decode cX8_digest 105 = .ok (.aload_n 0, 1) := by decide +kernel
theorem dX8_digest_106 : decode cX8_digest 106 = .ok (.lload_n 1, 1) := by decide +kernel
theorem dX8_digest_107 : decode cX8_digest 107 = .ok (.iload 4, 2) := by decide +kernel
theorem dX8_digest_109 : decode cX8_digest 109 = .ok (.invokevirtual 318, 3) := by decide +kernel
theorem dX8_digest_112 : decode cX8_digest 112 = .ok (.lstore_n 1, 1) := by decide +kernel
theorem dX8_digest_113 : decode cX8_digest 113 = .ok (.iinc 4 1, 3) := by decide +kernel
theorem dX8_digest_116 : decode cX8_digest 116 = .ok (.goto (-17), 3) := by decide +kernel
theorem dX8_digest_119 : decode cX8_digest 119 = .ok (.ldc2_w 307, 3) := by decide +kernel
theorem dX8_digest_122 : decode cX8_digest 122 = .ok (.lload_n 1, 1) := by decide +kernel
theorem dX8_digest_123 : decode cX8_digest 123 = .ok (.lmul, 1) := by decide +kernel
theorem dX8_digest_124 : decode cX8_digest 124 = .ok (.aload_n 0, 1) := by decide +kernel
theorem dX8_digest_125 : decode cX8_digest 125 = .ok (.iconst 0, 1) := by decide +kernel
theorem dX8_digest_126 : decode cX8_digest 126 = .ok (.invokevirtual 322, 3) := by decide +kernel
theorem dX8_digest_129 : decode cX8_digest 129 = .ok (.i2l, 1) := by decide +kernel
theorem dX8_digest_130 : decode cX8_digest 130 = .ok (.ladd, 1) := by decide +kernel
theorem dX8_digest_131 : decode cX8_digest 131 = .ok (.lstore_n 1, 1) := by decide +kernel
theorem dX8_digest_132 : decode cX8_digest 132 = .ok (.ldc2_w 307, 3) := by decide +kernel
theorem dX8_digest_135 : decode cX8_digest 135 = .ok (.lload_n 1, 1) := by decide +kernel
theorem dX8_digest_136 : decode cX8_digest 136 = .ok (.lmul, 1) := by decide +kernel
theorem dX8_digest_137 : decode cX8_digest 137 = .ok (.aload_n 0, 1) := by decide +kernel
theorem dX8_digest_138 : decode cX8_digest 138 = .ok (.iconst 1, 1) := by decide +kernel
theorem dX8_digest_139 : decode cX8_digest 139 = .ok (.invokevirtual 322, 3) := by decide +kernel
theorem dX8_digest_142 : decode cX8_digest 142 = .ok (.i2l, 1) := by decide +kernel
theorem dX8_digest_143 : decode cX8_digest 143 = .ok (.ladd, 1) := by decide +kernel
theorem dX8_digest_144 : decode cX8_digest 144 = .ok (.lstore_n 1, 1) := by decide +kernel
theorem dX8_digest_145 : decode cX8_digest 145 = .ok (.ldc2_w 307, 3) := by decide +kernel
theorem dX8_digest_148 : decode cX8_digest 148 = .ok (.lload_n 1, 1) := by decide +kernel
theorem dX8_digest_149 : decode cX8_digest 149 = .ok (.lmul, 1) := by decide +kernel
theorem dX8_digest_150 : decode cX8_digest 150 = .ok (.aload_n 0, 1) := by decide +kernel
theorem dX8_digest_151 : decode cX8_digest 151 = .ok (.iconst 0, 1) := by decide +kernel
theorem dX8_digest_152 : decode cX8_digest 152 = .ok (.invokevirtual 325, 3) := by decide +kernel
theorem dX8_digest_155 : decode cX8_digest 155 = .ok (.ladd, 1) := by decide +kernel
theorem dX8_digest_156 : decode cX8_digest 156 = .ok (.lstore_n 1, 1) := by decide +kernel
theorem dX8_digest_157 : decode cX8_digest 157 = .ok (.ldc2_w 307, 3) := by decide +kernel
theorem dX8_digest_160 : decode cX8_digest 160 = .ok (.lload_n 1, 1) := by decide +kernel
theorem dX8_digest_161 : decode cX8_digest 161 = .ok (.lmul, 1) := by decide +kernel
theorem dX8_digest_162 : decode cX8_digest 162 = .ok (.aload_n 0, 1) := by decide +kernel
theorem dX8_digest_163 : decode cX8_digest 163 = .ok (.iconst 1, 1) := by decide +kernel
theorem dX8_digest_164 : decode cX8_digest 164 = .ok (.invokevirtual 325, 3) := by decide +kernel
theorem dX8_digest_167 : decode cX8_digest 167 = .ok (.ladd, 1) := by decide +kernel
theorem dX8_digest_168 : decode cX8_digest 168 = .ok (.lstore_n 1, 1) := by decide +kernel
theorem dX8_digest_169 : decode cX8_digest 169 = .ok (.ldc2_w 307, 3) := by decide +kernel
theorem dX8_digest_172 : decode cX8_digest 172 = .ok (.lload_n 1, 1) := by decide +kernel
theorem dX8_digest_173 : decode cX8_digest 173 = .ok (.lmul, 1) := by decide +kernel
theorem dX8_digest_174 : decode cX8_digest 174 = .ok (.aload_n 0, 1) := by decide +kernel
theorem dX8_digest_175 : decode cX8_digest 175 = .ok (.invokevirtual 329, 3) := by decide +kernel
theorem dX8_digest_178 : decode cX8_digest 178 = .ok (.i2l, 1) := by decide +kernel
theorem dX8_digest_179 : decode cX8_digest 179 = .ok (.ladd, 1) := by decide +kernel
theorem dX8_digest_180 : decode cX8_digest 180 = .ok (.lstore_n 1, 1) := by decide +kernel
theorem dX8_digest_181 : decode cX8_digest 181 = .ok (.ldc2_w 307, 3) := by decide +kernel
theorem dX8_digest_184 : decode cX8_digest 184 = .ok (.lload_n 1, 1) := by decide +kernel
theorem dX8_digest_185 : decode cX8_digest 185 = .ok (.lmul, 1) := by decide +kernel
theorem dX8_digest_186 : decode cX8_digest 186 = .ok (.aload_n 0, 1) := by decide +kernel
theorem dX8_digest_187 : decode cX8_digest 187 = .ok (.invokevirtual 332, 3) := by decide +kernel
theorem dX8_digest_190 : decode cX8_digest 190 = .ok (.i2l, 1) := by decide +kernel
theorem dX8_digest_191 : decode cX8_digest 191 = .ok (.ladd, 1) := by decide +kernel
theorem dX8_digest_192 : decode cX8_digest 192 = .ok (.lreturn, 1) := by decide +kernel
theorem dX8_digestSpring_0 : decode cX8_digestSpring 0 = .ok (.ldc2_w 307, 3) := by decide +kernel
theorem dX8_digestSpring_3 : decode cX8_digestSpring 3 = .ok (.lload_n 1, 1) := by decide +kernel
theorem dX8_digestSpring_4 : decode cX8_digestSpring 4 = .ok (.lmul, 1) := by decide +kernel
theorem dX8_digestSpring_5 : decode cX8_digestSpring 5 = .ok (.aload_n 0, 1) := by decide +kernel
theorem dX8_digestSpring_6 : decode cX8_digestSpring 6 = .ok (.iload_n 3, 1) := by decide +kernel
theorem dX8_digestSpring_7 : decode cX8_digestSpring 7 = .ok (.invokevirtual 335, 3) := by decide +kernel
theorem dX8_digestSpring_10 : decode cX8_digestSpring 10 = .ok (.i2l, 1) := by decide +kernel
theorem dX8_digestSpring_11 : decode cX8_digestSpring 11 = .ok (.ladd, 1) := by decide +kernel
theorem dX8_digestSpring_12 : decode cX8_digestSpring 12 = .ok (.lstore 4, 2) := by decide +kernel
theorem dX8_digestSpring_14 : decode cX8_digestSpring 14 = .ok (.ldc2_w 307, 3) := by decide +kernel
theorem dX8_digestSpring_17 : decode cX8_digestSpring 17 = .ok (.lload 4, 2) := by decide +kernel
theorem dX8_digestSpring_19 : decode cX8_digestSpring 19 = .ok (.lmul, 1) := by decide +kernel
theorem dX8_digestSpring_20 : decode cX8_digestSpring 20 = .ok (.aload_n 0, 1) := by decide +kernel
theorem dX8_digestSpring_21 : decode cX8_digestSpring 21 = .ok (.iload_n 3, 1) := by decide +kernel
theorem dX8_digestSpring_22 : decode cX8_digestSpring 22 = .ok (.iconst 5, 1) := by decide +kernel
theorem dX8_digestSpring_23 : decode cX8_digestSpring 23 = .ok (.iconst 0, 1) := by decide +kernel
theorem dX8_digestSpring_24 : decode cX8_digestSpring 24 = .ok (.invokevirtual 338, 3) := by decide +kernel
theorem dX8_digestSpring_27 : decode cX8_digestSpring 27 = .ok (.i2l, 1) := by decide +kernel
theorem dX8_digestSpring_28 : decode cX8_digestSpring 28 = .ok (.ladd, 1) := by decide +kernel
theorem dX8_digestSpring_29 : decode cX8_digestSpring 29 = .ok (.lstore 4, 2) := by decide +kernel
theorem dX8_digestSpring_31 : decode cX8_digestSpring 31 = .ok (.ldc2_w 307, 3) := by decide +kernel
theorem dX8_digestSpring_34 : decode cX8_digestSpring 34 = .ok (.lload 4, 2) := by decide +kernel
theorem dX8_digestSpring_36 : decode cX8_digestSpring 36 = .ok (.lmul, 1) := by decide +kernel
theorem dX8_digestSpring_37 : decode cX8_digestSpring 37 = .ok (.aload_n 0, 1) := by decide +kernel
theorem dX8_digestSpring_38 : decode cX8_digestSpring 38 = .ok (.iload_n 3, 1) := by decide +kernel
theorem dX8_digestSpring_39 : decode cX8_digestSpring 39 = .ok (.iconst 5, 1) := by decide +kernel
theorem dX8_digestSpring_40 : decode cX8_digestSpring 40 = .ok (.iconst 1, 1) := by decide +kernel
theorem dX8_digestSpring_41 : decode cX8_digestSpring 41 = .ok (.invokevirtual 338, 3) := by decide +kernel
theorem dX8_digestSpring_44 : decode cX8_digestSpring 44 = .ok (.i2l, 1) := by decide +kernel
theorem dX8_digestSpring_45 : decode cX8_digestSpring 45 = .ok (.ladd, 1) := by decide +kernel
theorem dX8_digestSpring_46 : decode cX8_digestSpring 46 = .ok (.lstore 4, 2) := by decide +kernel
theorem dX8_digestSpring_48 : decode cX8_digestSpring 48 = .ok (.iconst 0, 1) := by decide +kernel
theorem dX8_digestSpring_49 : decode cX8_digestSpring 49 = .ok (.istore 6, 2) := by decide +kernel
theorem dX8_digestSpring_51 : decode cX8_digestSpring 51 = .ok (.iload 6, 2) := by decide +kernel
theorem dX8_digestSpring_53 : decode cX8_digestSpring 53 = .ok (.iconst 3, 1) := by decide +kernel
theorem dX8_digestSpring_54 : decode cX8_digestSpring 54 = .ok (.if_icmp .ge 29, 3) := by decide +kernel
theorem dX8_digestSpring_57 : decode cX8_digestSpring 57 = .ok (.ldc2_w 307, 3) := by decide +kernel
theorem dX8_digestSpring_60 : decode cX8_digestSpring 60 = .ok (.lload 4, 2) := by decide +kernel
theorem dX8_digestSpring_62 : decode cX8_digestSpring 62 = .ok (.lmul, 1) := by decide +kernel
theorem dX8_digestSpring_63 : decode cX8_digestSpring 63 = .ok (.aload_n 0, 1) := by decide +kernel
theorem dX8_digestSpring_64 : decode cX8_digestSpring 64 = .ok (.iload_n 3, 1) := by decide +kernel
theorem dX8_digestSpring_65 : decode cX8_digestSpring 65 = .ok (.iconst 5, 1) := by decide +kernel
theorem dX8_digestSpring_66 : decode cX8_digestSpring 66 = .ok (.iconst 0, 1) := by decide +kernel
theorem dX8_digestSpring_67 : decode cX8_digestSpring 67 = .ok (.iconst 3, 1) := by decide +kernel
theorem dX8_digestSpring_68 : decode cX8_digestSpring 68 = .ok (.iload 6, 2) := by decide +kernel
theorem dX8_digestSpring_70 : decode cX8_digestSpring 70 = .ok (.invokevirtual 341, 3) := by decide +kernel
theorem dX8_digestSpring_73 : decode cX8_digestSpring 73 = .ok (.i2l, 1) := by decide +kernel
theorem dX8_digestSpring_74 : decode cX8_digestSpring 74 = .ok (.ladd, 1) := by decide +kernel
theorem dX8_digestSpring_75 : decode cX8_digestSpring 75 = .ok (.lstore 4, 2) := by decide +kernel
theorem dX8_digestSpring_77 : decode cX8_digestSpring 77 = .ok (.iinc 6 1, 3) := by decide +kernel
theorem dX8_digestSpring_80 : decode cX8_digestSpring 80 = .ok (.goto (-29), 3) := by decide +kernel
theorem dX8_digestSpring_83 : decode cX8_digestSpring 83 = .ok (.iconst 0, 1) := by decide +kernel
theorem dX8_digestSpring_84 : decode cX8_digestSpring 84 = .ok (.istore 6, 2) := by decide +kernel
theorem dX8_digestSpring_86 : decode cX8_digestSpring 86 = .ok (.iload 6, 2) := by decide +kernel
theorem dX8_digestSpring_88 : decode cX8_digestSpring 88 = .ok (.iconst 3, 1) := by decide +kernel
theorem dX8_digestSpring_89 : decode cX8_digestSpring 89 = .ok (.if_icmp .ge 26, 3) := by decide +kernel
theorem dX8_digestSpring_92 : decode cX8_digestSpring 92 = .ok (.ldc2_w 307, 3) := by decide +kernel
theorem dX8_digestSpring_95 : decode cX8_digestSpring 95 = .ok (.lload 4, 2) := by decide +kernel
theorem dX8_digestSpring_97 : decode cX8_digestSpring 97 = .ok (.lmul, 1) := by decide +kernel
theorem dX8_digestSpring_98 : decode cX8_digestSpring 98 = .ok (.aload_n 0, 1) := by decide +kernel
theorem dX8_digestSpring_99 : decode cX8_digestSpring 99 = .ok (.iload_n 3, 1) := by decide +kernel
theorem dX8_digestSpring_100 : decode cX8_digestSpring 100 = .ok (.iload 6, 2) := by decide +kernel
theorem dX8_digestSpring_102 : decode cX8_digestSpring 102 = .ok (.invokevirtual 345, 3) := by decide +kernel
theorem dX8_digestSpring_105 : decode cX8_digestSpring 105 = .ok (.i2l, 1) := by decide +kernel
theorem dX8_digestSpring_106 : decode cX8_digestSpring 106 = .ok (.ladd, 1) := by decide +kernel
theorem dX8_digestSpring_107 : decode cX8_digestSpring 107 = .ok (.lstore 4, 2) := by decide +kernel
theorem dX8_digestSpring_109 : decode cX8_digestSpring 109 = .ok (.iinc 6 1, 3) := by decide +kernel
theorem dX8_digestSpring_112 : decode cX8_digestSpring 112 = .ok (.goto (-26), 3) := by decide +kernel
theorem dX8_digestSpring_115 : decode cX8_digestSpring 115 = .ok (.ldc2_w 307, 3) := by decide +kernel
theorem dX8_digestSpring_118 : decode cX8_digestSpring 118 = .ok (.lload 4, 2) := by decide +kernel
theorem dX8_digestSpring_120 : decode cX8_digestSpring 120 = .ok (.lmul, 1) := by decide +kernel
theorem dX8_digestSpring_121 : decode cX8_digestSpring 121 = .ok (.aload_n 0, 1) := by decide +kernel
theorem dX8_digestSpring_122 : decode cX8_digestSpring 122 = .ok (.iload_n 3, 1) := by decide +kernel
theorem dX8_digestSpring_123 : decode cX8_digestSpring 123 = .ok (.iconst 4, 1) := by decide +kernel
theorem dX8_digestSpring_124 : decode cX8_digestSpring 124 = .ok (.iconst 0, 1) := by decide +kernel
theorem dX8_digestSpring_125 : decode cX8_digestSpring 125 = .ok (.iconst 2, 1) := by decide +kernel
theorem dX8_digestSpring_126 : decode cX8_digestSpring 126 = .ok (.iconst 0, 1) := by decide +kernel
theorem dX8_digestSpring_127 : decode cX8_digestSpring 127 = .ok (.invokevirtual 348, 3) := by decide +kernel
theorem dX8_digestSpring_130 : decode cX8_digestSpring 130 = .ok (.ladd, 1) := by decide +kernel
theorem dX8_digestSpring_131 : decode cX8_digestSpring 131 = .ok (.lstore 4, 2) := by decide +kernel
theorem dX8_digestSpring_133 : decode cX8_digestSpring 133 = .ok (.ldc2_w 307, 3) := by decide +kernel
theorem dX8_digestSpring_136 : decode cX8_digestSpring 136 = .ok (.lload 4, 2) := by decide +kernel
theorem dX8_digestSpring_138 : decode cX8_digestSpring 138 = .ok (.lmul, 1) := by decide +kernel
theorem dX8_digestSpring_139 : decode cX8_digestSpring 139 = .ok (.aload_n 0, 1) := by decide +kernel
theorem dX8_digestSpring_140 : decode cX8_digestSpring 140 = .ok (.iload_n 3, 1) := by decide +kernel
theorem dX8_digestSpring_141 : decode cX8_digestSpring 141 = .ok (.iconst 4, 1) := by decide +kernel
theorem dX8_digestSpring_142 : decode cX8_digestSpring 142 = .ok (.iconst 0, 1) := by decide +kernel
theorem dX8_digestSpring_143 : decode cX8_digestSpring 143 = .ok (.iconst 2, 1) := by decide +kernel
theorem dX8_digestSpring_144 : decode cX8_digestSpring 144 = .ok (.iconst 1, 1) := by decide +kernel
theorem dX8_digestSpring_145 : decode cX8_digestSpring 145 = .ok (.invokevirtual 348, 3) := by decide +kernel
theorem dX8_digestSpring_148 : decode cX8_digestSpring 148 = .ok (.ladd, 1) := by decide +kernel
theorem dX8_digestSpring_149 : decode cX8_digestSpring 149 = .ok (.lstore 4, 2) := by decide +kernel
theorem dX8_digestSpring_151 : decode cX8_digestSpring 151 = .ok (.ldc2_w 307, 3) := by decide +kernel
theorem dX8_digestSpring_154 : decode cX8_digestSpring 154 = .ok (.lload 4, 2) := by decide +kernel
theorem dX8_digestSpring_156 : decode cX8_digestSpring 156 = .ok (.lmul, 1) := by decide +kernel
theorem dX8_digestSpring_157 : decode cX8_digestSpring 157 = .ok (.aload_n 0, 1) := by decide +kernel
theorem dX8_digestSpring_158 : decode cX8_digestSpring 158 = .ok (.iload_n 3, 1) := by decide +kernel
theorem dX8_digestSpring_159 : decode cX8_digestSpring 159 = .ok (.iconst 4, 1) := by decide +kernel
theorem dX8_digestSpring_160 : decode cX8_digestSpring 160 = .ok (.iconst 0, 1) := by decide +kernel
theorem dX8_digestSpring_161 : decode cX8_digestSpring 161 = .ok (.iconst 2, 1) := by decide +kernel
theorem dX8_digestSpring_162 : decode cX8_digestSpring 162 = .ok (.invokevirtual 352, 3) := by decide +kernel
theorem dX8_digestSpring_165 : decode cX8_digestSpring 165 = .ok (.i2l, 1) := by decide +kernel
theorem dX8_digestSpring_166 : decode cX8_digestSpring 166 = .ok (.ladd, 1) := by decide +kernel
theorem dX8_digestSpring_167 : decode cX8_digestSpring 167 = .ok (.lstore 4, 2) := by decide +kernel
theorem dX8_digestSpring_169 : decode cX8_digestSpring 169 = .ok (.iconst 0, 1) := by decide +kernel
theorem dX8_digestSpring_170 : decode cX8_digestSpring 170 = .ok (.istore 6, 2) := by decide +kernel
theorem dX8_digestSpring_172 : decode cX8_digestSpring 172 = .ok (.iload 6, 2) := by decide +kernel
theorem dX8_digestSpring_174 : decode cX8_digestSpring 174 = .ok (.iconst 3, 1) := by decide +kernel
theorem dX8_digestSpring_175 : decode cX8_digestSpring 175 = .ok (.if_icmp .ge 30, 3) := by decide +kernel
theorem dX8_digestSpring_178 : decode cX8_digestSpring 178 = .ok (.ldc2_w 307, 3) := by decide +kernel
theorem dX8_digestSpring_181 : decode cX8_digestSpring 181 = .ok (.lload 4, 2) := by decide +kernel
theorem dX8_digestSpring_183 : decode cX8_digestSpring 183 = .ok (.lmul, 1) := by decide +kernel
theorem dX8_digestSpring_184 : decode cX8_digestSpring 184 = .ok (.aload_n 0, 1) := by decide +kernel
theorem dX8_digestSpring_185 : decode cX8_digestSpring 185 = .ok (.iload_n 3, 1) := by decide +kernel
theorem dX8_digestSpring_186 : decode cX8_digestSpring 186 = .ok (.iconst 5, 1) := by decide +kernel
theorem dX8_digestSpring_187 : decode cX8_digestSpring 187 = .ok (.iconst 0, 1) := by decide +kernel
theorem dX8_digestSpring_188 : decode cX8_digestSpring 188 = .ok (.iconst 4, 1) := by decide +kernel
theorem dX8_digestSpring_189 : decode cX8_digestSpring 189 = .ok (.iconst 2, 1) := by decide +kernel
theorem dX8_digestSpring_190 : decode cX8_digestSpring 190 = .ok (.iload 6, 2) := by decide +kernel
theorem dX8_digestSpring_192 : decode cX8_digestSpring 192 = .ok (.invokevirtual 355, 3) := by decide +kernel
theorem dX8_digestSpring_195 : decode cX8_digestSpring 195 = .ok (.i2l, 1) := by decide +kernel
theorem dX8_digestSpring_196 : decode cX8_digestSpring 196 = .ok (.ladd, 1) := by decide +kernel
theorem dX8_digestSpring_197 : decode cX8_digestSpring 197 = .ok (.lstore 4, 2) := by decide +kernel
theorem dX8_digestSpring_199 : decode cX8_digestSpring 199 = .ok (.iinc 6 1, 3) := by decide +kernel
theorem dX8_digestSpring_202 : decode cX8_digestSpring 202 = .ok (.goto (-30), 3) := by decide +kernel
theorem dX8_digestSpring_205 : decode cX8_digestSpring 205 = .ok (.ldc2_w 307, 3) := by decide +kernel
theorem dX8_digestSpring_208 : decode cX8_digestSpring 208 = .ok (.lload 4, 2) := by decide +kernel
theorem dX8_digestSpring_210 : decode cX8_digestSpring 210 = .ok (.lmul, 1) := by decide +kernel
theorem dX8_digestSpring_211 : decode cX8_digestSpring 211 = .ok (.aload_n 0, 1) := by decide +kernel
theorem dX8_digestSpring_212 : decode cX8_digestSpring 212 = .ok (.iload_n 3, 1) := by decide +kernel
theorem dX8_digestSpring_213 : decode cX8_digestSpring 213 = .ok (.iconst 0, 1) := by decide +kernel
theorem dX8_digestSpring_214 : decode cX8_digestSpring 214 = .ok (.invokevirtual 359, 3) := by decide +kernel
theorem dX8_digestSpring_217 : decode cX8_digestSpring 217 = .ok (.i2l, 1) := by decide +kernel
theorem dX8_digestSpring_218 : decode cX8_digestSpring 218 = .ok (.ladd, 1) := by decide +kernel
theorem dX8_digestSpring_219 : decode cX8_digestSpring 219 = .ok (.lreturn, 1) := by decide +kernel
theorem dX8_find_0 : decode cX8_find 0 = .ok (.aload_n 0, 1) := by decide +kernel
theorem dX8_find_1 : decode cX8_find 1 = .ok (.iload_n 1, 1) := by decide +kernel
theorem dX8_find_2 : decode cX8_find 2 = .ok (.putfield 78, 3) := by decide +kernel
theorem dX8_find_5 : decode cX8_find 5 = .ok (.bipush (-10), 2) := by decide +kernel
theorem dX8_find_7 : decode cX8_find 7 = .ok (.iload_n 1, 1) := by decide +kernel
theorem dX8_find_8 : decode cX8_find 8 = .ok (.isub, 1) := by decide +kernel
theorem dX8_find_9 : decode cX8_find 9 = .ok (.ireturn, 1) := by decide +kernel
theorem dX8_isYard_0 : decode cX8_isYard 0 = .ok (.iload_n 1, 1) := by decide +kernel
theorem dX8_isYard_1 : decode cX8_isYard 1 = .ok (.aload_n 0, 1) := by decide +kernel
theorem dX8_isYard_2 : decode cX8_isYard 2 = .ok (.getfield 11, 3) := by decide +kernel
theorem dX8_isYard_5 : decode cX8_isYard 5 = .ok (.iconst 3, 1) := by decide +kernel
theorem dX8_isYard_6 : decode cX8_isYard 6 = .ok (.aaload, 1) := by decide +kernel
theorem dX8_isYard_7 : decode cX8_isYard 7 = .ok (.invokevirtual 262, 3) := by decide +kernel
theorem dX8_isYard_10 : decode cX8_isYard 10 = .ok (.invokestatic 89, 3) := by decide +kernel
theorem dX8_isYard_13 : decode cX8_isYard 13 = .ok (.ireturn, 1) := by decide +kernel
theorem dX8_isSpringDay_0 : decode cX8_isSpringDay 0 = .ok (.iload_n 0, 1) := by decide +kernel
theorem dX8_isSpringDay_1 : decode cX8_isSpringDay 1 = .ok (.ifCond .lt 22, 3) := by decide +kernel
theorem dX8_isSpringDay_4 : decode cX8_isSpringDay 4 = .ok (.iload_n 0, 1) := by decide +kernel
theorem dX8_isSpringDay_5 : decode cX8_isSpringDay 5 = .ok (.iconst 3, 1) := by decide +kernel
theorem dX8_isSpringDay_6 : decode cX8_isSpringDay 6 = .ok (.if_icmp .ge 17, 3) := by decide +kernel
theorem dX8_isSpringDay_9 : decode cX8_isSpringDay 9 = .ok (.iload_n 1, 1) := by decide +kernel
theorem dX8_isSpringDay_10 : decode cX8_isSpringDay 10 = .ok (.ifCond .lt 13, 3) := by decide +kernel
theorem dX8_isSpringDay_13 : decode cX8_isSpringDay 13 = .ok (.iload_n 1, 1) := by decide +kernel
theorem dX8_isSpringDay_14 : decode cX8_isSpringDay 14 = .ok (.bipush 30, 2) := by decide +kernel
theorem dX8_isSpringDay_16 : decode cX8_isSpringDay 16 = .ok (.if_icmp .ge 7, 3) := by decide +kernel
theorem dX8_isSpringDay_19 : decode cX8_isSpringDay 19 = .ok (.iconst 1, 1) := by decide +kernel
theorem dX8_isSpringDay_20 : decode cX8_isSpringDay 20 = .ok (.goto 4, 3) := by decide +kernel
theorem dX8_isSpringDay_23 : decode cX8_isSpringDay 23 = .ok (.iconst 0, 1) := by decide +kernel
theorem dX8_isSpringDay_24 : decode cX8_isSpringDay 24 = .ok (.ireturn, 1) := by decide +kernel
theorem dX8_allChances_0 : decode cX8_allChances 0 = .ok (.iconst 0, 1) := by decide +kernel
theorem dX8_allChances_1 : decode cX8_allChances 1 = .ok (.istore_n 1, 1) := by decide +kernel
theorem dX8_allChances_2 : decode cX8_allChances 2 = .ok (.iconst 0, 1) := by decide +kernel
theorem dX8_allChances_3 : decode cX8_allChances 3 = .ok (.istore_n 2, 1) := by decide +kernel
theorem dX8_allChances_4 : decode cX8_allChances 4 = .ok (.iload_n 2, 1) := by decide +kernel
theorem dX8_allChances_5 : decode cX8_allChances 5 = .ok (.iconst 3, 1) := by decide +kernel
theorem dX8_allChances_6 : decode cX8_allChances 6 = .ok (.if_icmp .ge 18, 3) := by decide +kernel
theorem dX8_allChances_9 : decode cX8_allChances 9 = .ok (.iload_n 1, 1) := by decide +kernel
theorem dX8_allChances_10 : decode cX8_allChances 10 = .ok (.aload_n 0, 1) := by decide +kernel
theorem dX8_allChances_11 : decode cX8_allChances 11 = .ok (.getfield 19, 3) := by decide +kernel
theorem dX8_allChances_14 : decode cX8_allChances 14 = .ok (.iload_n 2, 1) := by decide +kernel
theorem dX8_allChances_15 : decode cX8_allChances 15 = .ok (.iaload, 1) := by decide +kernel
theorem dX8_allChances_16 : decode cX8_allChances 16 = .ok (.iadd, 1) := by decide +kernel
theorem dX8_allChances_17 : decode cX8_allChances 17 = .ok (.istore_n 1, 1) := by decide +kernel
theorem dX8_allChances_18 : decode cX8_allChances 18 = .ok (.iinc 2 1, 3) := by decide +kernel
theorem dX8_allChances_21 : decode cX8_allChances 21 = .ok (.goto (-17), 3) := by decide +kernel
theorem dX8_allChances_24 : decode cX8_allChances 24 = .ok (.iload_n 1, 1) := by decide +kernel
theorem dX8_allChances_25 : decode cX8_allChances 25 = .ok (.ireturn, 1) := by decide +kernel
theorem dX8_levelKinds_0 : decode cX8_levelKinds 0 = .ok (.iconst 0, 1) := by decide +kernel
theorem dX8_levelKinds_1 : decode cX8_levelKinds 1 = .ok (.istore_n 2, 1) := by decide +kernel
theorem dX8_levelKinds_2 : decode cX8_levelKinds 2 = .ok (.iconst 0, 1) := by decide +kernel
theorem dX8_levelKinds_3 : decode cX8_levelKinds 3 = .ok (.istore_n 3, 1) := by decide +kernel
theorem dX8_levelKinds_4 : decode cX8_levelKinds 4 = .ok (.iload_n 3, 1) := by decide +kernel
theorem dX8_levelKinds_5 : decode cX8_levelKinds 5 = .ok (.iconst 3, 1) := by decide +kernel
theorem dX8_levelKinds_6 : decode cX8_levelKinds 6 = .ok (.if_icmp .ge 32, 3) := by decide +kernel
theorem dX8_levelKinds_9 : decode cX8_levelKinds 9 = .ok (.aload_n 0, 1) := by decide +kernel
theorem dX8_levelKinds_10 : decode cX8_levelKinds 10 = .ok (.getfield 19, 3) := by decide +kernel
theorem dX8_levelKinds_13 : decode cX8_levelKinds 13 = .ok (.iload_n 3, 1) := by decide +kernel
theorem dX8_levelKinds_14 : decode cX8_levelKinds 14 = .ok (.iaload, 1) := by decide +kernel
theorem dX8_levelKinds_15 : decode cX8_levelKinds 15 = .ok (.ifCond .le 17, 3) := by decide +kernel
theorem dX8_levelKinds_18 : decode cX8_levelKinds 18 = .ok (.iload_n 2, 1) := by decide +kernel
theorem dX8_levelKinds_19 : decode cX8_levelKinds 19 = .ok (.iconst 1, 1) := by decide +kernel
theorem dX8_levelKinds_20 : decode cX8_levelKinds 20 = .ok (.aload_n 0, 1) := by decide +kernel
theorem dX8_levelKinds_21 : decode cX8_levelKinds 21 = .ok (.getfield 34, 3) := by decide +kernel
theorem dX8_levelKinds_24 : decode cX8_levelKinds 24 = .ok (.iload_n 3, 1) := by decide +kernel
theorem dX8_levelKinds_25 : decode cX8_levelKinds 25 = .ok (.iload_n 1, 1) := by decide +kernel
theorem dX8_levelKinds_26 : decode cX8_levelKinds 26 = .ok (.invokevirtual 130, 3) := by decide +kernel
theorem dX8_levelKinds_29 : decode cX8_levelKinds 29 = .ok (.ishl, 1) := by decide +kernel
theorem dX8_levelKinds_30 : decode cX8_levelKinds 30 = .ok (.ior, 1) := by decide +kernel
theorem dX8_levelKinds_31 : decode cX8_levelKinds 31 = .ok (.istore_n 2, 1) := by decide +kernel
theorem dX8_levelKinds_32 : decode cX8_levelKinds 32 = .ok (.iinc 3 1, 3) := by decide +kernel
theorem dX8_levelKinds_35 : decode cX8_levelKinds 35 = .ok (.goto (-31), 3) := by decide +kernel
theorem dX8_levelKinds_38 : decode cX8_levelKinds 38 = .ok (.iload_n 2, 1) := by decide +kernel
theorem dX8_levelKinds_39 : decode cX8_levelKinds 39 = .ok (.invokestatic 192, 3) := by decide +kernel
theorem dX8_levelKinds_42 : decode cX8_levelKinds 42 = .ok (.ireturn, 1) := by decide +kernel
theorem dX8_inside_0 : decode cX8_inside 0 = .ok (.iload_n 0, 1) := by decide +kernel
theorem dX8_inside_1 : decode cX8_inside 1 = .ok (.ifCond .lt 12, 3) := by decide +kernel
theorem dX8_inside_4 : decode cX8_inside 4 = .ok (.iload_n 0, 1) := by decide +kernel
theorem dX8_inside_5 : decode cX8_inside 5 = .ok (.iload_n 1, 1) := by decide +kernel
theorem dX8_inside_6 : decode cX8_inside 6 = .ok (.if_icmp .ge 7, 3) := by decide +kernel
theorem dX8_inside_9 : decode cX8_inside 9 = .ok (.iconst 1, 1) := by decide +kernel
theorem dX8_inside_10 : decode cX8_inside 10 = .ok (.goto 4, 3) := by decide +kernel
theorem dX8_inside_13 : decode cX8_inside 13 = .ok (.iconst 0, 1) := by decide +kernel
theorem dX8_inside_14 : decode cX8_inside 14 = .ok (.ireturn, 1) := by decide +kernel
theorem dX8_yardBits_0 : decode cX8_yardBits 0 = .ok (.iload_n 1, 1) := by decide +kernel
theorem dX8_yardBits_1 : decode cX8_yardBits 1 = .ok (.iload_n 0, 1) := by decide +kernel
theorem dX8_yardBits_2 : decode cX8_yardBits 2 = .ok (.if_icmp .ge 7, 3) := by decide +kernel
theorem dX8_yardBits_5 : decode cX8_yardBits 5 = .ok (.iconst 0, 1) := by decide +kernel
theorem dX8_yardBits_6 : decode cX8_yardBits 6 = .ok (.goto 12, 3) := by decide +kernel
theorem dX8_yardBits_9 : decode cX8_yardBits 9 = .ok (.iconst 1, 1) := by decide +kernel
theorem dX8_yardBits_10 : decode cX8_yardBits 10 = .ok (.iload_n 1, 1) := by decide +kernel
theorem dX8_yardBits_11 : decode cX8_yardBits 11 = .ok (.iconst 1, 1) := by decide +kernel
theorem dX8_yardBits_12 : decode cX8_yardBits 12 = .ok (.iadd, 1) := by decide +kernel
theorem dX8_yardBits_13 : decode cX8_yardBits 13 = .ok (.ishl, 1) := by decide +kernel
theorem dX8_yardBits_14 : decode cX8_yardBits 14 = .ok (.iconst 1, 1) := by decide +kernel
theorem dX8_yardBits_15 : decode cX8_yardBits 15 = .ok (.iload_n 0, 1) := by decide +kernel
theorem dX8_yardBits_16 : decode cX8_yardBits 16 = .ok (.ishl, 1) := by decide +kernel
theorem dX8_yardBits_17 : decode cX8_yardBits 17 = .ok (.isub, 1) := by decide +kernel
theorem dX8_yardBits_18 : decode cX8_yardBits 18 = .ok (.ireturn, 1) := by decide +kernel
theorem dX8_islands_0 : decode cX8_islands 0 = .ok (.iload_n 0, 1) := by decide +kernel
theorem dX8_islands_1 : decode cX8_islands 1 = .ok (.iconst 1, 1) := by decide +kernel
theorem dX8_islands_2 : decode cX8_islands 2 = .ok (.ishl, 1) := by decide +kernel
theorem dX8_islands_3 : decode cX8_islands 3 = .ok (.iload_n 0, 1) := by decide +kernel
theorem dX8_islands_4 : decode cX8_islands 4 = .ok (.iconst 1, 1) := by decide +kernel
theorem dX8_islands_5 : decode cX8_islands 5 = .ok (.ishr, 1) := by decide +kernel
theorem dX8_islands_6 : decode cX8_islands 6 = .ok (.iand, 1) := by decide +kernel
theorem dX8_islands_7 : decode cX8_islands 7 = .ok (.iload_n 0, 1) := by decide +kernel
theorem dX8_islands_8 : decode cX8_islands 8 = .ok (.iconst (-1), 1) := by decide +kernel
theorem dX8_islands_9 : decode cX8_islands 9 = .ok (.ixor, 1) := by decide +kernel
theorem dX8_islands_10 : decode cX8_islands 10 = .ok (.iand, 1) := by decide +kernel
theorem dX8_islands_11 : decode cX8_islands 11 = .ok (.ireturn, 1) := by decide +kernel
theorem dX8_roadCost_0 : decode cX8_roadCost 0 = .ok (.iconst 0, 1) := by decide +kernel
theorem dX8_roadCost_1 : decode cX8_roadCost 1 = .ok (.istore 4, 2) := by decide +kernel
theorem dX8_roadCost_3 : decode cX8_roadCost 3 = .ok (.iconst 0, 1) := by decide +kernel
theorem dX8_roadCost_4 : decode cX8_roadCost 4 = .ok (.istore 5, 2) := by decide +kernel
theorem dX8_roadCost_6 : decode cX8_roadCost 6 = .ok (.iload_n 1, 1) := by decide +kernel
theorem dX8_roadCost_7 : decode cX8_roadCost 7 = .ok (.istore 6, 2) := by decide +kernel
theorem dX8_roadCost_9 : decode cX8_roadCost 9 = .ok (.iload 6, 2) := by decide +kernel
theorem dX8_roadCost_11 : decode cX8_roadCost 11 = .ok (.iload_n 2, 1) := by decide +kernel
theorem dX8_roadCost_12 : decode cX8_roadCost 12 = .ok (.if_icmp .gt 52, 3) := by decide +kernel
theorem dX8_roadCost_15 : decode cX8_roadCost 15 = .ok (.iload_n 0, 1) := by decide +kernel
theorem dX8_roadCost_16 : decode cX8_roadCost 16 = .ok (.iload 6, 2) := by decide +kernel
theorem dX8_roadCost_18 : decode cX8_roadCost 18 = .ok (.ishr, 1) := by decide +kernel
theorem dX8_roadCost_19 : decode cX8_roadCost 19 = .ok (.iconst 1, 1) := by decide +kernel
theorem dX8_roadCost_20 : decode cX8_roadCost 20 = .ok (.iand, 1) := by decide +kernel
theorem dX8_roadCost_21 : decode cX8_roadCost 21 = .ok (.iconst 1, 1) := by decide +kernel
theorem dX8_roadCost_22 : decode cX8_roadCost 22 = .ok (.if_icmp .ne 7, 3) := by decide +kernel
theorem dX8_roadCost_25 : decode cX8_roadCost 25 = .ok (.iconst 1, 1) := by decide +kernel
theorem dX8_roadCost_26 : decode cX8_roadCost 26 = .ok (.goto 4, 3) := by decide +kernel
theorem dX8_roadCost_29 : decode cX8_roadCost 29 = .ok (.iconst 0, 1) := by decide +kernel
theorem dX8_roadCost_30 : decode cX8_roadCost 30 = .ok (.istore 7, 2) := by decide +kernel
theorem dX8_roadCost_32 : decode cX8_roadCost 32 = .ok (.iload 7, 2) := by decide +kernel
theorem dX8_roadCost_34 : decode cX8_roadCost 34 = .ok (.ifCond .ne 9, 3) := by decide +kernel
theorem dX8_roadCost_37 : decode cX8_roadCost 37 = .ok (.iinc 4 1, 3) := by decide +kernel
theorem dX8_roadCost_40 : decode cX8_roadCost 40 = .ok (.goto 14, 3) := by decide +kernel
theorem dX8_roadCost_43 : decode cX8_roadCost 43 = .ok (.iload 5, 2) := by decide +kernel
theorem dX8_roadCost_45 : decode cX8_roadCost 45 = .ok (.ifCond .ne 9, 3) := by decide +kernel
theorem dX8_roadCost_48 : decode cX8_roadCost 48 = .ok (.iload 4, 2) := by decide +kernel
theorem dX8_roadCost_50 : decode cX8_roadCost 50 = .ok (.iload_n 3, 1) := by decide +kernel
theorem dX8_roadCost_51 : decode cX8_roadCost 51 = .ok (.iadd, 1) := by decide +kernel
theorem dX8_roadCost_52 : decode cX8_roadCost 52 = .ok (.istore 4, 2) := by decide +kernel
theorem dX8_roadCost_54 : decode cX8_roadCost 54 = .ok (.iload 7, 2) := by decide +kernel
theorem dX8_roadCost_56 : decode cX8_roadCost 56 = .ok (.istore 5, 2) := by decide +kernel
theorem dX8_roadCost_58 : decode cX8_roadCost 58 = .ok (.iinc 6 1, 3) := by decide +kernel
theorem dX8_roadCost_61 : decode cX8_roadCost 61 = .ok (.goto (-52), 3) := by decide +kernel
theorem dX8_roadCost_64 : decode cX8_roadCost 64 = .ok (.iload 4, 2) := by decide +kernel
theorem dX8_roadCost_66 : decode cX8_roadCost 66 = .ok (.ireturn, 1) := by decide +kernel
theorem dX8_ridgeCost_0 : decode cX8_ridgeCost 0 = .ok (.iload_n 2, 1) := by decide +kernel
theorem dX8_ridgeCost_1 : decode cX8_ridgeCost 1 = .ok (.iload_n 1, 1) := by decide +kernel
theorem dX8_ridgeCost_2 : decode cX8_ridgeCost 2 = .ok (.iload_n 0, 1) := by decide +kernel
theorem dX8_ridgeCost_3 : decode cX8_ridgeCost 3 = .ok (.isub, 1) := by decide +kernel
theorem dX8_ridgeCost_4 : decode cX8_ridgeCost 4 = .ok (.iconst 1, 1) := by decide +kernel
theorem dX8_ridgeCost_5 : decode cX8_ridgeCost 5 = .ok (.iadd, 1) := by decide +kernel
theorem dX8_ridgeCost_6 : decode cX8_ridgeCost 6 = .ok (.imul, 1) := by decide +kernel
theorem dX8_ridgeCost_7 : decode cX8_ridgeCost 7 = .ok (.ireturn, 1) := by decide +kernel
theorem dX8_fractionPart_0 : decode cX8_fractionPart 0 = .ok (.iload_n 0, 1) := by decide +kernel
theorem dX8_fractionPart_1 : decode cX8_fractionPart 1 = .ok (.iload_n 1, 1) := by decide +kernel
theorem dX8_fractionPart_2 : decode cX8_fractionPart 2 = .ok (.invokestatic 362, 3) := by decide +kernel
theorem dX8_fractionPart_5 : decode cX8_fractionPart 5 = .ok (.istore_n 3, 1) := by decide +kernel
theorem dX8_fractionPart_6 : decode cX8_fractionPart 6 = .ok (.iload_n 3, 1) := by decide +kernel
theorem dX8_fractionPart_7 : decode cX8_fractionPart 7 = .ok (.ifCond .ne 13, 3) := by decide +kernel
theorem dX8_fractionPart_10 : decode cX8_fractionPart 10 = .ok (.iload_n 2, 1) := by decide +kernel
theorem dX8_fractionPart_11 : decode cX8_fractionPart 11 = .ok (.ifCond .ne 7, 3) := by decide +kernel
theorem dX8_fractionPart_14 : decode cX8_fractionPart 14 = .ok (.lconst 0, 1) := by decide +kernel
theorem dX8_fractionPart_15 : decode cX8_fractionPart 15 = .ok (.goto 4, 3) := by decide +kernel
theorem dX8_fractionPart_18 : decode cX8_fractionPart 18 = .ok (.lconst 1, 1) := by decide +kernel
theorem dX8_fractionPart_19 : decode cX8_fractionPart 19 = .ok (.lreturn, 1) := by decide +kernel
theorem dX8_fractionPart_20 : decode cX8_fractionPart 20 = .ok (.iload_n 2, 1) := by decide +kernel
theorem dX8_fractionPart_21 : decode cX8_fractionPart 21 = .ok (.ifCond .ne 10, 3) := by decide +kernel
theorem dX8_fractionPart_24 : decode cX8_fractionPart 24 = .ok (.iload_n 0, 1) := by decide +kernel
theorem dX8_fractionPart_25 : decode cX8_fractionPart 25 = .ok (.iload_n 3, 1) := by decide +kernel
theorem dX8_fractionPart_26 : decode cX8_fractionPart 26 = .ok (.idiv, 1) := by decide +kernel
theorem dX8_fractionPart_27 : decode cX8_fractionPart 27 = .ok (.i2l, 1) := by decide +kernel
theorem dX8_fractionPart_28 : decode cX8_fractionPart 28 = .ok (.goto 7, 3) := by decide +kernel
theorem dX8_fractionPart_31 : decode cX8_fractionPart 31 = .ok (.iload_n 1, 1) := by decide +kernel
theorem dX8_fractionPart_32 : decode cX8_fractionPart 32 = .ok (.iload_n 3, 1) := by decide +kernel
theorem dX8_fractionPart_33 : decode cX8_fractionPart 33 = .ok (.idiv, 1) := by decide +kernel
theorem dX8_fractionPart_34 : decode cX8_fractionPart 34 = .ok (.i2l, 1) := by decide +kernel
theorem dX8_fractionPart_35 : decode cX8_fractionPart 35 = .ok (.lreturn, 1) := by decide +kernel
theorem dX8_commonDivisor_0 : decode cX8_commonDivisor 0 = .ok (.iload_n 0, 1) := by decide +kernel
theorem dX8_commonDivisor_1 : decode cX8_commonDivisor 1 = .ok (.istore_n 2, 1) := by decide +kernel
theorem dX8_commonDivisor_2 : decode cX8_commonDivisor 2 = .ok (.iload_n 1, 1) := by decide +kernel
theorem dX8_commonDivisor_3 : decode cX8_commonDivisor 3 = .ok (.istore_n 3, 1) := by decide +kernel
theorem dX8_commonDivisor_4 : decode cX8_commonDivisor 4 = .ok (.iconst 0, 1) := by decide +kernel
theorem dX8_commonDivisor_5 : decode cX8_commonDivisor 5 = .ok (.istore 4, 2) := by decide +kernel
theorem dX8_commonDivisor_7 : decode cX8_commonDivisor 7 = .ok (.iload 4, 2) := by decide +kernel
theorem dX8_commonDivisor_9 : decode cX8_commonDivisor 9 = .ok (.bipush 100, 2) := by decide +kernel
theorem dX8_commonDivisor_11 : decode cX8_commonDivisor 11 = .ok (.if_icmp .ge 23, 3) := by decide +kernel
theorem dX8_commonDivisor_14 : decode cX8_commonDivisor 14 = .ok (.iload_n 3, 1) := by decide +kernel
theorem dX8_commonDivisor_15 : decode cX8_commonDivisor 15 = .ok (.ifCond .eq 19, 3) := by decide +kernel
theorem dX8_commonDivisor_18 : decode cX8_commonDivisor 18 = .ok (.iload_n 2, 1) := by decide +kernel
theorem dX8_commonDivisor_19 : decode cX8_commonDivisor 19 = .ok (.iload_n 3, 1) := by decide +kernel
theorem dX8_commonDivisor_20 : decode cX8_commonDivisor 20 = .ok (.irem, 1) := by decide +kernel
theorem dX8_commonDivisor_21 : decode cX8_commonDivisor 21 = .ok (.istore 5, 2) := by decide +kernel
theorem dX8_commonDivisor_23 : decode cX8_commonDivisor 23 = .ok (.iload_n 3, 1) := by decide +kernel
theorem dX8_commonDivisor_24 : decode cX8_commonDivisor 24 = .ok (.istore_n 2, 1) := by decide +kernel
theorem dX8_commonDivisor_25 : decode cX8_commonDivisor 25 = .ok (.iload 5, 2) := by decide +kernel
theorem dX8_commonDivisor_27 : decode cX8_commonDivisor 27 = .ok (.istore_n 3, 1) := by decide +kernel
theorem dX8_commonDivisor_28 : decode cX8_commonDivisor 28 = .ok (.iinc 4 1, 3) := by decide +kernel
theorem dX8_commonDivisor_31 : decode cX8_commonDivisor 31 = .ok (.goto (-24), 3) := by decide +kernel
theorem dX8_commonDivisor_34 : decode cX8_commonDivisor 34 = .ok (.iload_n 2, 1) := by decide +kernel
theorem dX8_commonDivisor_35 : decode cX8_commonDivisor 35 = .ok (.ireturn, 1) := by decide +kernel
