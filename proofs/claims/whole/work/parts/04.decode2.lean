theorem dX1_find_2 : decode cX1_find 2 = .ok (.putfield 15, 3) := by decide +kernel
theorem dX1_find_5 : decode cX1_find 5 = .ok (.iconst 0, 1) := by decide +kernel
theorem dX1_find_6 : decode cX1_find 6 = .ok (.istore 4, 2) := by decide +kernel
theorem dX1_find_8 : decode cX1_find 8 = .ok (.iload 4, 2) := by decide +kernel
theorem dX1_find_10 : decode cX1_find 10 = .ok (.aload_n 1, 1) := by decide +kernel
theorem dX1_find_11 : decode cX1_find 11 = .ok (.getfield 19, 3) := by decide +kernel
theorem dX1_find_14 : decode cX1_find 14 = .ok (.if_icmp .ge 67, 3) := by decide +kernel
theorem dX1_find_17 : decode cX1_find 17 = .ok (.iload_n 3, 1) := by decide +kernel
theorem dX1_find_18 : decode cX1_find 18 = .ok (.aload_n 1, 1) := by decide +kernel
theorem dX1_find_19 : decode cX1_find 19 = .ok (.getfield 19, 3) := by decide +kernel
theorem dX1_find_22 : decode cX1_find 22 = .ok (.imul, 1) := by decide +kernel
theorem dX1_find_23 : decode cX1_find 23 = .ok (.iload 4, 2) := by decide +kernel
theorem dX1_find_25 : decode cX1_find 25 = .ok (.iadd, 1) := by decide +kernel
theorem dX1_find_26 : decode cX1_find 26 = .ok (.istore 5, 2) := by decide +kernel
theorem dX1_find_28 : decode cX1_find 28 = .ok (.aload_n 1, 1) := by decide +kernel
theorem dX1_find_29 : decode cX1_find 29 = .ok (.iload_n 2, 1) := by decide +kernel
theorem dX1_find_30 : decode cX1_find 30 = .ok (.iload 5, 2) := by decide +kernel
theorem dX1_find_32 : decode cX1_find 32 = .ok (.invokevirtual 24, 3) := by decide +kernel
theorem dX1_find_35 : decode cX1_find 35 = .ok (.istore 6, 2) := by decide +kernel
theorem dX1_find_37 : decode cX1_find 37 = .ok (.iload 6, 2) := by decide +kernel
theorem dX1_find_39 : decode cX1_find 39 = .ok (.iconst (-1), 1) := by decide +kernel
theorem dX1_find_40 : decode cX1_find 40 = .ok (.if_icmp .eq 35, 3) := by decide +kernel
theorem dX1_find_43 : decode cX1_find 43 = .ok (.aload_n 0, 1) := by decide +kernel
theorem dX1_find_44 : decode cX1_find 44 = .ok (.getfield 9, 3) := by decide +kernel
theorem dX1_find_47 : decode cX1_find 47 = .ok (.aload_n 0, 1) := by decide +kernel
theorem dX1_find_48 : decode cX1_find 48 = .ok (.getfield 15, 3) := by decide +kernel
theorem dX1_find_51 : decode cX1_find 51 = .ok (.aload_n 0, 1) := by decide +kernel
theorem dX1_find_52 : decode cX1_find 52 = .ok (.aload_n 1, 1) := by decide +kernel
theorem dX1_find_53 : decode cX1_find 53 = .ok (.iload_n 2, 1) := by decide +kernel
theorem dX1_find_54 : decode cX1_find 54 = .ok (.aload_n 1, 1) := by decide +kernel
theorem dX1_find_55 : decode cX1_find 55 = .ok (.iload 6, 2) := by decide +kernel
theorem dX1_find_57 : decode cX1_find 57 = .ok (.invokevirtual 28, 3) := by decide +kernel
theorem dX1_find_60 : decode cX1_find 60 = .ok (.iload_n 3, 1) := by decide +kernel
theorem dX1_find_61 : decode cX1_find 61 = .ok (.invokevirtual 32, 3) := by decide +kernel
theorem dX1_find_64 : decode cX1_find 64 = .ok (.iastore, 1) := by decide +kernel
theorem dX1_find_65 : decode cX1_find 65 = .ok (.aload_n 0, 1) := by decide +kernel
theorem dX1_find_66 : decode cX1_find 66 = .ok (.dup, 1) := by decide +kernel
theorem dX1_find_67 : decode cX1_find 67 = .ok (.getfield 15, 3) := by decide +kernel
theorem dX1_find_70 : decode cX1_find 70 = .ok (.iconst 1, 1) := by decide +kernel
theorem dX1_find_71 : decode cX1_find 71 = .ok (.iadd, 1) := by decide +kernel
theorem dX1_find_72 : decode cX1_find 72 = .ok (.putfield 15, 3) := by decide +kernel
theorem dX1_find_75 : decode cX1_find 75 = .ok (.iinc 4 1, 3) := by decide +kernel
theorem dX1_find_78 : decode cX1_find 78 = .ok (.goto (-70), 3) := by decide +kernel
theorem dX1_find_81 : decode cX1_find 81 = .ok (.return_, 1) := by decide +kernel
theorem dX1_bestFor_0 : decode cX1_bestFor 0 = .ok (.iconst (-1), 1) := by decide +kernel
theorem dX1_bestFor_1 : decode cX1_bestFor 1 = .ok (.istore 5, 2) := by decide +kernel
theorem dX1_bestFor_3 : decode cX1_bestFor 3 = .ok (.iconst 0, 1) := by decide +kernel
theorem dX1_bestFor_4 : decode cX1_bestFor 4 = .ok (.istore 6, 2) := by decide +kernel
theorem dX1_bestFor_6 : decode cX1_bestFor 6 = .ok (.iconst 0, 1) := by decide +kernel
theorem dX1_bestFor_7 : decode cX1_bestFor 7 = .ok (.istore 7, 2) := by decide +kernel
theorem dX1_bestFor_9 : decode cX1_bestFor 9 = .ok (.iload 7, 2) := by decide +kernel
theorem dX1_bestFor_11 : decode cX1_bestFor 11 = .ok (.bipush 8, 2) := by decide +kernel
theorem dX1_bestFor_13 : decode cX1_bestFor 13 = .ok (.if_icmp .ge 83, 3) := by decide +kernel
theorem dX1_bestFor_16 : decode cX1_bestFor 16 = .ok (.bipush 8, 2) := by decide +kernel
theorem dX1_bestFor_18 : decode cX1_bestFor 18 = .ok (.iload 7, 2) := by decide +kernel
theorem dX1_bestFor_20 : decode cX1_bestFor 20 = .ok (.iadd, 1) := by decide +kernel
theorem dX1_bestFor_21 : decode cX1_bestFor 21 = .ok (.istore 8, 2) := by decide +kernel
theorem dX1_bestFor_23 : decode cX1_bestFor 23 = .ok (.iload 7, 2) := by decide +kernel
theorem dX1_bestFor_25 : decode cX1_bestFor 25 = .ok (.iload_n 2, 1) := by decide +kernel
theorem dX1_bestFor_26 : decode cX1_bestFor 26 = .ok (.if_icmp .eq 64, 3) := by decide +kernel
theorem dX1_bestFor_29 : decode cX1_bestFor 29 = .ok (.aload_n 1, 1) := by decide +kernel
theorem dX1_bestFor_30 : decode cX1_bestFor 30 = .ok (.getfield 36, 3) := by decide +kernel
theorem dX1_bestFor_33 : decode cX1_bestFor 33 = .ok (.iload 8, 2) := by decide +kernel
theorem dX1_bestFor_35 : decode cX1_bestFor 35 = .ok (.iaload, 1) := by decide +kernel
theorem dX1_bestFor_36 : decode cX1_bestFor 36 = .ok (.aload_n 1, 1) := by decide +kernel
theorem dX1_bestFor_37 : decode cX1_bestFor 37 = .ok (.getfield 39, 3) := by decide +kernel
theorem dX1_bestFor_40 : decode cX1_bestFor 40 = .ok (.iload 8, 2) := by decide +kernel
theorem dX1_bestFor_42 : decode cX1_bestFor 42 = .ok (.iaload, 1) := by decide +kernel
theorem dX1_bestFor_43 : decode cX1_bestFor 43 = .ok (.ior, 1) := by decide +kernel
theorem dX1_bestFor_44 : decode cX1_bestFor 44 = .ok (.iload_n 3, 1) := by decide +kernel
theorem dX1_bestFor_45 : decode cX1_bestFor 45 = .ok (.iand, 1) := by decide +kernel
theorem dX1_bestFor_46 : decode cX1_bestFor 46 = .ok (.ifCond .eq 6, 3) := by decide +kernel
theorem dX1_bestFor_49 : decode cX1_bestFor 49 = .ok (.goto 41, 3) := by decide +kernel
theorem dX1_bestFor_52 : decode cX1_bestFor 52 = .ok (.aload_n 1, 1) := by decide +kernel
theorem dX1_bestFor_53 : decode cX1_bestFor 53 = .ok (.iload 7, 2) := by decide +kernel
theorem dX1_bestFor_55 : decode cX1_bestFor 55 = .ok (.iload 4, 2) := by decide +kernel
theorem dX1_bestFor_57 : decode cX1_bestFor 57 = .ok (.invokevirtual 42, 3) := by decide +kernel
theorem dX1_bestFor_60 : decode cX1_bestFor 60 = .ok (.aload_n 0, 1) := by decide +kernel
theorem dX1_bestFor_61 : decode cX1_bestFor 61 = .ok (.iload 7, 2) := by decide +kernel
theorem dX1_bestFor_63 : decode cX1_bestFor 63 = .ok (.invokevirtual 45, 3) := by decide +kernel
theorem dX1_bestFor_66 : decode cX1_bestFor 66 = .ok (.iadd, 1) := by decide +kernel
theorem dX1_bestFor_67 : decode cX1_bestFor 67 = .ok (.istore 9, 2) := by decide +kernel
theorem dX1_bestFor_69 : decode cX1_bestFor 69 = .ok (.iload 5, 2) := by decide +kernel
theorem dX1_bestFor_71 : decode cX1_bestFor 71 = .ok (.iconst (-1), 1) := by decide +kernel
theorem dX1_bestFor_72 : decode cX1_bestFor 72 = .ok (.if_icmp .eq 10, 3) := by decide +kernel
theorem dX1_bestFor_75 : decode cX1_bestFor 75 = .ok (.iload 9, 2) := by decide +kernel
theorem dX1_bestFor_77 : decode cX1_bestFor 77 = .ok (.iload 6, 2) := by decide +kernel
theorem dX1_bestFor_79 : decode cX1_bestFor 79 = .ok (.if_icmp .ge 11, 3) := by decide +kernel
theorem dX1_bestFor_82 : decode cX1_bestFor 82 = .ok (.iload 7, 2) := by decide +kernel
theorem dX1_bestFor_84 : decode cX1_bestFor 84 = .ok (.istore 5, 2) := by decide +kernel
theorem dX1_bestFor_86 : decode cX1_bestFor 86 = .ok (.iload 9, 2) := by decide +kernel
theorem dX1_bestFor_88 : decode cX1_bestFor 88 = .ok (.istore 6, 2) := by decide +kernel
theorem dX1_bestFor_90 : decode cX1_bestFor 90 = .ok (.iinc 7 1, 3) := by decide +kernel
theorem dX1_bestFor_93 : decode cX1_bestFor 93 = .ok (.goto (-84), 3) := by decide +kernel
theorem dX1_bestFor_96 : decode cX1_bestFor 96 = .ok (.iload 5, 2) := by decide +kernel
theorem dX1_bestFor_98 : decode cX1_bestFor 98 = .ok (.ireturn, 1) := by decide +kernel
theorem dX1_timesGiven_0 : decode cX1_timesGiven 0 = .ok (.iconst 0, 1) := by decide +kernel
theorem dX1_timesGiven_1 : decode cX1_timesGiven 1 = .ok (.istore_n 2, 1) := by decide +kernel
theorem dX1_timesGiven_2 : decode cX1_timesGiven 2 = .ok (.iconst 0, 1) := by decide +kernel
theorem dX1_timesGiven_3 : decode cX1_timesGiven 3 = .ok (.istore_n 3, 1) := by decide +kernel
theorem dX1_timesGiven_4 : decode cX1_timesGiven 4 = .ok (.iload_n 3, 1) := by decide +kernel
theorem dX1_timesGiven_5 : decode cX1_timesGiven 5 = .ok (.aload_n 0, 1) := by decide +kernel
theorem dX1_timesGiven_6 : decode cX1_timesGiven 6 = .ok (.getfield 15, 3) := by decide +kernel
theorem dX1_timesGiven_9 : decode cX1_timesGiven 9 = .ok (.if_icmp .ge 22, 3) := by decide +kernel
theorem dX1_timesGiven_12 : decode cX1_timesGiven 12 = .ok (.aload_n 0, 1) := by decide +kernel
theorem dX1_timesGiven_13 : decode cX1_timesGiven 13 = .ok (.getfield 9, 3) := by decide +kernel
theorem dX1_timesGiven_16 : decode cX1_timesGiven 16 = .ok (.iload_n 3, 1) := by decide +kernel
theorem dX1_timesGiven_17 : decode cX1_timesGiven 17 = .ok (.iaload, 1) := by decide +kernel
theorem dX1_timesGiven_18 : decode cX1_timesGiven 18 = .ok (.iload_n 1, 1) := by decide +kernel
theorem dX1_timesGiven_19 : decode cX1_timesGiven 19 = .ok (.if_icmp .ne 6, 3) := by decide +kernel
theorem dX1_timesGiven_22 : decode cX1_timesGiven 22 = .ok (.iinc 2 1, 3) := by decide +kernel
theorem dX1_timesGiven_25 : decode cX1_timesGiven 25 = .ok (.iinc 3 1, 3) := by decide +kernel
theorem dX1_timesGiven_28 : decode cX1_timesGiven 28 = .ok (.goto (-24), 3) := by decide +kernel
theorem dX1_timesGiven_31 : decode cX1_timesGiven 31 = .ok (.iload_n 2, 1) := by decide +kernel
theorem dX1_timesGiven_32 : decode cX1_timesGiven 32 = .ok (.ireturn, 1) := by decide +kernel
theorem dX2_init_0 : decode cX2_init 0 = .ok (.aload_n 0, 1) := by decide +kernel
theorem dX2_init_1 : decode cX2_init 1 = .ok (.invokespecial 3, 3) := by decide +kernel
theorem dX2_init_4 : decode cX2_init 4 = .ok (.aload_n 0, 1) := by decide +kernel
theorem dX2_init_5 : decode cX2_init 5 = .ok (.sipush 1344, 3) := by decide +kernel
theorem dX2_init_8 : decode cX2_init 8 = .ok (.newarray .int, 2) := by decide +kernel
theorem dX2_init_10 : decode cX2_init 10 = .ok (.putfield 11, 3) := by decide +kernel
theorem dX2_init_13 : decode cX2_init 13 = .ok (.return_, 1) := by decide +kernel
theorem dX2_startOf_0 : decode cX2_startOf 0 = .ok (.aload_n 0, 1) := by decide +kernel
theorem dX2_startOf_1 : decode cX2_startOf 1 = .ok (.getfield 15, 3) := by decide +kernel
theorem dX2_startOf_4 : decode cX2_startOf 4 = .ok (.iload_n 1, 1) := by decide +kernel
theorem dX2_startOf_5 : decode cX2_startOf 5 = .ok (.iadd, 1) := by decide +kernel
theorem dX2_startOf_6 : decode cX2_startOf 6 = .ok (.bipush 21, 2) := by decide +kernel
theorem dX2_startOf_8 : decode cX2_startOf 8 = .ok (.irem, 1) := by decide +kernel
theorem dX2_startOf_9 : decode cX2_startOf 9 = .ok (.bipush 64, 2) := by decide +kernel
theorem dX2_startOf_11 : decode cX2_startOf 11 = .ok (.imul, 1) := by decide +kernel
theorem dX2_startOf_12 : decode cX2_startOf 12 = .ok (.ireturn, 1) := by decide +kernel
theorem dX2_draw_0 : decode cX2_draw 0 = .ok (.aload_n 1, 1) := by decide +kernel
theorem dX2_draw_1 : decode cX2_draw 1 = .ok (.iconst 0, 1) := by decide +kernel
theorem dX2_draw_2 : decode cX2_draw 2 = .ok (.aload_n 0, 1) := by decide +kernel
theorem dX2_draw_3 : decode cX2_draw 3 = .ok (.getfield 11, 3) := by decide +kernel
theorem dX2_draw_6 : decode cX2_draw 6 = .ok (.aload_n 0, 1) := by decide +kernel
theorem dX2_draw_7 : decode cX2_draw 7 = .ok (.aload_n 0, 1) := by decide +kernel
theorem dX2_draw_8 : decode cX2_draw 8 = .ok (.getfield 19, 3) := by decide +kernel
theorem dX2_draw_11 : decode cX2_draw 11 = .ok (.invokevirtual 22, 3) := by decide +kernel
theorem dX2_draw_14 : decode cX2_draw 14 = .ok (.bipush 64, 2) := by decide +kernel
theorem dX2_draw_16 : decode cX2_draw 16 = .ok (.invokestatic 26, 3) := by decide +kernel
theorem dX2_draw_19 : decode cX2_draw 19 = .ok (.return_, 1) := by decide +kernel
theorem dX2_keep_0 : decode cX2_keep 0 = .ok (.aload_n 0, 1) := by decide +kernel
theorem dX2_keep_1 : decode cX2_keep 1 = .ok (.getfield 19, 3) := by decide +kernel
theorem dX2_keep_4 : decode cX2_keep 4 = .ok (.bipush 20, 2) := by decide +kernel
theorem dX2_keep_6 : decode cX2_keep 6 = .ok (.if_icmp .ge 16, 3) := by decide +kernel
theorem dX2_keep_9 : decode cX2_keep 9 = .ok (.aload_n 0, 1) := by decide +kernel
theorem dX2_keep_10 : decode cX2_keep 10 = .ok (.dup, 1) := by decide +kernel
theorem dX2_keep_11 : decode cX2_keep 11 = .ok (.getfield 19, 3) := by decide +kernel
theorem dX2_keep_14 : decode cX2_keep 14 = .ok (.iconst 1, 1) := by decide +kernel
theorem dX2_keep_15 : decode cX2_keep 15 = .ok (.iadd, 1) := by decide +kernel
theorem dX2_keep_16 : decode cX2_keep 16 = .ok (.putfield 19, 3) := by decide +kernel
theorem dX2_keep_19 : decode cX2_keep 19 = .ok (.goto 16, 3) := by decide +kernel
theorem dX2_keep_22 : decode cX2_keep 22 = .ok (.aload_n 0, 1) := by decide +kernel
theorem dX2_keep_23 : decode cX2_keep 23 = .ok (.aload_n 0, 1) := by decide +kernel
theorem dX2_keep_24 : decode cX2_keep 24 = .ok (.getfield 15, 3) := by decide +kernel
theorem dX2_keep_27 : decode cX2_keep 27 = .ok (.iconst 1, 1) := by decide +kernel
theorem dX2_keep_28 : decode cX2_keep 28 = .ok (.iadd, 1) := by decide +kernel
theorem dX2_keep_29 : decode cX2_keep 29 = .ok (.bipush 21, 2) := by decide +kernel
theorem dX2_keep_31 : decode cX2_keep 31 = .ok (.irem, 1) := by decide +kernel
theorem dX2_keep_32 : decode cX2_keep 32 = .ok (.putfield 15, 3) := by decide +kernel
theorem dX2_keep_35 : decode cX2_keep 35 = .ok (.return_, 1) := by decide +kernel
theorem dX2_takeBack_0 : decode cX2_takeBack 0 = .ok (.aload_n 0, 1) := by decide +kernel
theorem dX2_takeBack_1 : decode cX2_takeBack 1 = .ok (.dup, 1) := by decide +kernel
theorem dX2_takeBack_2 : decode cX2_takeBack 2 = .ok (.getfield 19, 3) := by decide +kernel
theorem dX2_takeBack_5 : decode cX2_takeBack 5 = .ok (.iconst 1, 1) := by decide +kernel
theorem dX2_takeBack_6 : decode cX2_takeBack 6 = .ok (.isub, 1) := by decide +kernel
theorem dX2_takeBack_7 : decode cX2_takeBack 7 = .ok (.putfield 19, 3) := by decide +kernel
theorem dX2_takeBack_10 : decode cX2_takeBack 10 = .ok (.aload_n 0, 1) := by decide +kernel
theorem dX2_takeBack_11 : decode cX2_takeBack 11 = .ok (.getfield 11, 3) := by decide +kernel
theorem dX2_takeBack_14 : decode cX2_takeBack 14 = .ok (.aload_n 0, 1) := by decide +kernel
theorem dX2_takeBack_15 : decode cX2_takeBack 15 = .ok (.aload_n 0, 1) := by decide +kernel
theorem dX2_takeBack_16 : decode cX2_takeBack 16 = .ok (.getfield 19, 3) := by decide +kernel
theorem dX2_takeBack_19 : decode cX2_takeBack 19 = .ok (.invokevirtual 22, 3) := by decide +kernel
theorem dX2_takeBack_22 : decode cX2_takeBack 22 = .ok (.aload_n 1, 1) := by decide +kernel
theorem dX2_takeBack_23 : decode cX2_takeBack 23 = .ok (.iconst 0, 1) := by decide +kernel
theorem dX2_takeBack_24 : decode cX2_takeBack 24 = .ok (.bipush 64, 2) := by decide +kernel
theorem dX2_takeBack_26 : decode cX2_takeBack 26 = .ok (.invokestatic 26, 3) := by decide +kernel
theorem dX2_takeBack_29 : decode cX2_takeBack 29 = .ok (.return_, 1) := by decide +kernel
theorem dX3_init_0 : decode cX3_init 0 = .ok (.aload_n 0, 1) := by decide +kernel
theorem dX3_init_1 : decode cX3_init 1 = .ok (.invokespecial 3, 3) := by decide +kernel
theorem dX3_init_4 : decode cX3_init 4 = .ok (.aload_n 0, 1) := by decide +kernel
theorem dX3_init_5 : decode cX3_init 5 = .ok (.bipush 16, 2) := by decide +kernel
theorem dX3_init_7 : decode cX3_init 7 = .ok (.newarray .int, 2) := by decide +kernel
theorem dX3_init_9 : decode cX3_init 9 = .ok (.putfield 9, 3) := by decide +kernel
theorem dX3_init_12 : decode cX3_init 12 = .ok (.aload_n 0, 1) := by decide +kernel
theorem dX3_init_13 : decode cX3_init 13 = .ok (.bipush 16, 2) := by decide +kernel
theorem dX3_init_15 : decode cX3_init 15 = .ok (.newarray .int, 2) := by decide +kernel
theorem dX3_init_17 : decode cX3_init 17 = .ok (.putfield 15, 3) := by decide +kernel
theorem dX3_init_20 : decode cX3_init 20 = .ok (.aload_n 0, 1) := by decide +kernel
theorem dX3_init_21 : decode cX3_init 21 = .ok (.bipush 16, 2) := by decide +kernel
theorem dX3_init_23 : decode cX3_init 23 = .ok (.newarray .int, 2) := by decide +kernel
theorem dX3_init_25 : decode cX3_init 25 = .ok (.putfield 18, 3) := by decide +kernel
theorem dX3_init_28 : decode cX3_init 28 = .ok (.aload_n 0, 1) := by decide +kernel
theorem dX3_init_29 : decode cX3_init 29 = .ok (.bipush 16, 2) := by decide +kernel
theorem dX3_init_31 : decode cX3_init 31 = .ok (.newarray .int, 2) := by decide +kernel
theorem dX3_init_33 : decode cX3_init 33 = .ok (.putfield 21, 3) := by decide +kernel
theorem dX3_init_36 : decode cX3_init 36 = .ok (.aload_n 0, 1) := by decide +kernel
theorem dX3_init_37 : decode cX3_init 37 = .ok (.bipush 16, 2) := by decide +kernel
theorem dX3_init_39 : decode cX3_init 39 = .ok (.newarray .int, 2) := by decide +kernel
theorem dX3_init_41 : decode cX3_init 41 = .ok (.putfield 24, 3) := by decide +kernel
theorem dX3_init_44 : decode cX3_init 44 = .ok (.aload_n 0, 1) := by decide +kernel
theorem dX3_init_45 : decode cX3_init 45 = .ok (.bipush 16, 2) := by decide +kernel
theorem dX3_init_47 : decode cX3_init 47 = .ok (.newarray .int, 2) := by decide +kernel
theorem dX3_init_49 : decode cX3_init 49 = .ok (.putfield 27, 3) := by decide +kernel
theorem dX3_init_52 : decode cX3_init 52 = .ok (.aload_n 0, 1) := by decide +kernel
theorem dX3_init_53 : decode cX3_init 53 = .ok (.bipush 16, 2) := by decide +kernel
theorem dX3_init_55 : decode cX3_init 55 = .ok (.newarray .int, 2) := by decide +kernel
theorem dX3_init_57 : decode cX3_init 57 = .ok (.putfield 30, 3) := by decide +kernel
theorem dX3_init_60 : decode cX3_init 60 = .ok (.return_, 1) := by decide +kernel
theorem dX3_add_0 : decode cX3_add 0 = .ok (.aload_n 0, 1) := by decide +kernel
theorem dX3_add_1 : decode cX3_add 1 = .ok (.getfield 33, 3) := by decide +kernel
theorem dX3_add_4 : decode cX3_add 4 = .ok (.istore 7, 2) := by decide +kernel
theorem dX3_add_6 : decode cX3_add 6 = .ok (.aload_n 0, 1) := by decide +kernel
theorem dX3_add_7 : decode cX3_add 7 = .ok (.getfield 9, 3) := by decide +kernel
theorem dX3_add_10 : decode cX3_add 10 = .ok (.iload 7, 2) := by decide +kernel
theorem dX3_add_12 : decode cX3_add 12 = .ok (.iload_n 1, 1) := by decide +kernel
theorem dX3_add_13 : decode cX3_add 13 = .ok (.iastore, 1) := by decide +kernel
theorem dX3_add_14 : decode cX3_add 14 = .ok (.aload_n 0, 1) := by decide +kernel
theorem dX3_add_15 : decode cX3_add 15 = .ok (.getfield 15, 3) := by decide +kernel
theorem dX3_add_18 : decode cX3_add 18 = .ok (.iload 7, 2) := by decide +kernel
theorem dX3_add_20 : decode cX3_add 20 = .ok (.iload_n 2, 1) := by decide +kernel
theorem dX3_add_21 : decode cX3_add 21 = .ok (.iastore, 1) := by decide +kernel
theorem dX3_add_22 : decode cX3_add 22 = .ok (.aload_n 0, 1) := by decide +kernel
theorem dX3_add_23 : decode cX3_add 23 = .ok (.getfield 18, 3) := by decide +kernel
theorem dX3_add_26 : decode cX3_add 26 = .ok (.iload 7, 2) := by decide +kernel
theorem dX3_add_28 : decode cX3_add 28 = .ok (.iload_n 3, 1) := by decide +kernel
theorem dX3_add_29 : decode cX3_add 29 = .ok (.iastore, 1) := by decide +kernel
theorem dX3_add_30 : decode cX3_add 30 = .ok (.aload_n 0, 1) := by decide +kernel
theorem dX3_add_31 : decode cX3_add 31 = .ok (.getfield 21, 3) := by decide +kernel
theorem dX3_add_34 : decode cX3_add 34 = .ok (.iload 7, 2) := by decide +kernel
theorem dX3_add_36 : decode cX3_add 36 = .ok (.iload 4, 2) := by decide +kernel
theorem dX3_add_38 : decode cX3_add 38 = .ok (.iastore, 1) := by decide +kernel
theorem dX3_add_39 : decode cX3_add 39 = .ok (.aload_n 0, 1) := by decide +kernel
theorem dX3_add_40 : decode cX3_add 40 = .ok (.getfield 24, 3) := by decide +kernel
theorem dX3_add_43 : decode cX3_add 43 = .ok (.iload 7, 2) := by decide +kernel
theorem dX3_add_45 : decode cX3_add 45 = .ok (.iload 5, 2) := by decide +kernel
theorem dX3_add_47 : decode cX3_add 47 = .ok (.bipush 10, 2) := by decide +kernel
theorem dX3_add_49 : decode cX3_add 49 = .ok (.idiv, 1) := by decide +kernel
theorem dX3_add_50 : decode cX3_add 50 = .ok (.iastore, 1) := by decide +kernel
theorem dX3_add_51 : decode cX3_add 51 = .ok (.aload_n 0, 1) := by decide +kernel
theorem dX3_add_52 : decode cX3_add 52 = .ok (.getfield 27, 3) := by decide +kernel
theorem dX3_add_55 : decode cX3_add 55 = .ok (.iload 7, 2) := by decide +kernel
theorem dX3_add_57 : decode cX3_add 57 = .ok (.iload 5, 2) := by decide +kernel
theorem dX3_add_59 : decode cX3_add 59 = .ok (.bipush 10, 2) := by decide +kernel
theorem dX3_add_61 : decode cX3_add 61 = .ok (.irem, 1) := by decide +kernel
theorem dX3_add_62 : decode cX3_add 62 = .ok (.iastore, 1) := by decide +kernel
theorem dX3_add_63 : decode cX3_add 63 = .ok (.aload_n 0, 1) := by decide +kernel
theorem dX3_add_64 : decode cX3_add 64 = .ok (.getfield 30, 3) := by decide +kernel
theorem dX3_add_67 : decode cX3_add 67 = .ok (.iload 7, 2) := by decide +kernel
theorem dX3_add_69 : decode cX3_add 69 = .ok (.iload 6, 2) := by decide +kernel
theorem dX3_add_71 : decode cX3_add 71 = .ok (.iastore, 1) := by decide +kernel
theorem dX3_add_72 : decode cX3_add 72 = .ok (.aload_n 0, 1) := by decide +kernel
theorem dX3_add_73 : decode cX3_add 73 = .ok (.dup, 1) := by decide +kernel
theorem dX3_add_74 : decode cX3_add 74 = .ok (.getfield 33, 3) := by decide +kernel
theorem dX3_add_77 : decode cX3_add 77 = .ok (.iconst 1, 1) := by decide +kernel
theorem dX3_add_78 : decode cX3_add 78 = .ok (.iadd, 1) := by decide +kernel
theorem dX3_add_79 : decode cX3_add 79 = .ok (.putfield 33, 3) := by decide +kernel
theorem dX3_add_82 : decode cX3_add 82 = .ok (.iload 7, 2) := by decide +kernel
theorem dX3_add_84 : decode cX3_add 84 = .ok (.ireturn, 1) := by decide +kernel
theorem dX3_hasItem_0 : decode cX3_hasItem 0 = .ok (.iload_n 1, 1) := by decide +kernel
theorem dX3_hasItem_1 : decode cX3_hasItem 1 = .ok (.iconst 0, 1) := by decide +kernel
theorem dX3_hasItem_2 : decode cX3_hasItem 2 = .ok (.aload_n 0, 1) := by decide +kernel
theorem dX3_hasItem_3 : decode cX3_hasItem 3 = .ok (.getfield 33, 3) := by decide +kernel
theorem dX3_hasItem_6 : decode cX3_hasItem 6 = .ok (.iconst 1, 1) := by decide +kernel
theorem dX3_hasItem_7 : decode cX3_hasItem 7 = .ok (.isub, 1) := by decide +kernel
theorem dX3_hasItem_8 : decode cX3_hasItem 8 = .ok (.invokestatic 37, 3) := by decide +kernel
theorem dX3_hasItem_11 : decode cX3_hasItem 11 = .ok (.ifCond .eq 23, 3) := by decide +kernel
theorem dX3_hasItem_14 : decode cX3_hasItem 14 = .ok (.iload_n 2, 1) := by decide +kernel
theorem dX3_hasItem_15 : decode cX3_hasItem 15 = .ok (.iconst 0, 1) := by decide +kernel
theorem dX3_hasItem_16 : decode cX3_hasItem 16 = .ok (.aload_n 0, 1) := by decide +kernel
theorem dX3_hasItem_17 : decode cX3_hasItem 17 = .ok (.getfield 27, 3) := by decide +kernel
theorem dX3_hasItem_20 : decode cX3_hasItem 20 = .ok (.iload_n 1, 1) := by decide +kernel
theorem dX3_hasItem_21 : decode cX3_hasItem 21 = .ok (.iaload, 1) := by decide +kernel
theorem dX3_hasItem_22 : decode cX3_hasItem 22 = .ok (.iconst 1, 1) := by decide +kernel
theorem dX3_hasItem_23 : decode cX3_hasItem 23 = .ok (.isub, 1) := by decide +kernel
theorem dX3_hasItem_24 : decode cX3_hasItem 24 = .ok (.invokestatic 37, 3) := by decide +kernel
theorem dX3_hasItem_27 : decode cX3_hasItem 27 = .ok (.ifCond .eq 7, 3) := by decide +kernel
theorem dX3_hasItem_30 : decode cX3_hasItem 30 = .ok (.iconst 1, 1) := by decide +kernel
theorem dX3_hasItem_31 : decode cX3_hasItem 31 = .ok (.goto 4, 3) := by decide +kernel
theorem dX3_hasItem_34 : decode cX3_hasItem 34 = .ok (.iconst 0, 1) := by decide +kernel
theorem dX3_hasItem_35 : decode cX3_hasItem 35 = .ok (.ireturn, 1) := by decide +kernel
theorem dX3_bitsAt_0 : decode cX3_bitsAt 0 = .ok (.aload_n 0, 1) := by decide +kernel
theorem dX3_bitsAt_1 : decode cX3_bitsAt 1 = .ok (.getfield 24, 3) := by decide +kernel
theorem dX3_bitsAt_4 : decode cX3_bitsAt 4 = .ok (.iload_n 1, 1) := by decide +kernel
theorem dX3_bitsAt_5 : decode cX3_bitsAt 5 = .ok (.iaload, 1) := by decide +kernel
theorem dX3_bitsAt_6 : decode cX3_bitsAt 6 = .ok (.iconst 2, 1) := by decide +kernel
theorem dX3_bitsAt_7 : decode cX3_bitsAt 7 = .ok (.if_icmp .ne 9, 3) := by decide +kernel
theorem dX3_bitsAt_10 : decode cX3_bitsAt 10 = .ok (.iconst 3, 1) := by decide +kernel
theorem dX3_bitsAt_11 : decode cX3_bitsAt 11 = .ok (.iload_n 2, 1) := by decide +kernel
theorem dX3_bitsAt_12 : decode cX3_bitsAt 12 = .ok (.ishl, 1) := by decide +kernel
theorem dX3_bitsAt_13 : decode cX3_bitsAt 13 = .ok (.goto 6, 3) := by decide +kernel
theorem dX3_bitsAt_16 : decode cX3_bitsAt 16 = .ok (.iconst 1, 1) := by decide +kernel
theorem dX3_bitsAt_17 : decode cX3_bitsAt 17 = .ok (.iload_n 2, 1) := by decide +kernel
theorem dX3_bitsAt_18 : decode cX3_bitsAt 18 = .ok (.ishl, 1) := by decide +kernel
theorem dX3_bitsAt_19 : decode cX3_bitsAt 19 = .ok (.ireturn, 1) := by decide +kernel
theorem dX4_init_0 : decode cX4_init 0 = .ok (.aload_n 0, 1) := by decide +kernel
theorem dX4_init_1 : decode cX4_init 1 = .ok (.invokespecial 3, 3) := by decide +kernel
theorem dX4_init_4 : decode cX4_init 4 = .ok (.aload_n 0, 1) := by decide +kernel
theorem dX4_init_5 : decode cX4_init 5 = .ok (.bipush 64, 2) := by decide +kernel
theorem dX4_init_7 : decode cX4_init 7 = .ok (.newarray .int, 2) := by decide +kernel
theorem dX4_init_9 : decode cX4_init 9 = .ok (.putfield 9, 3) := by decide +kernel
theorem dX4_init_12 : decode cX4_init 12 = .ok (.aload_n 0, 1) := by decide +kernel
theorem dX4_init_13 : decode cX4_init 13 = .ok (.bipush 64, 2) := by decide +kernel
theorem dX4_init_15 : decode cX4_init 15 = .ok (.newarray .int, 2) := by decide +kernel
theorem dX4_init_17 : decode cX4_init 17 = .ok (.putfield 15, 3) := by decide +kernel
theorem dX4_init_20 : decode cX4_init 20 = .ok (.return_, 1) := by decide +kernel
theorem dX4_run_0 : decode cX4_run 0 = .ok (.aload_n 0, 1) := by decide +kernel
theorem dX4_run_1 : decode cX4_run 1 = .ok (.iconst 0, 1) := by decide +kernel
theorem dX4_run_2 : decode cX4_run 2 = .ok (.putfield 18, 3) := by decide +kernel
theorem dX4_run_5 : decode cX4_run 5 = .ok (.aload_n 0, 1) := by decide +kernel
theorem dX4_run_6 : decode cX4_run 6 = .ok (.aload_n 1, 1) := by decide +kernel
theorem dX4_run_7 : decode cX4_run 7 = .ok (.invokevirtual 22, 3) := by decide +kernel
theorem dX4_run_10 : decode cX4_run 10 = .ok (.aload_n 0, 1) := by decide +kernel
theorem dX4_run_11 : decode cX4_run 11 = .ok (.aload_n 1, 1) := by decide +kernel
theorem dX4_run_12 : decode cX4_run 12 = .ok (.iconst 0, 1) := by decide +kernel
theorem dX4_run_13 : decode cX4_run 13 = .ok (.invokevirtual 26, 3) := by decide +kernel
theorem dX4_run_16 : decode cX4_run 16 = .ok (.iconst 0, 1) := by decide +kernel
theorem dX4_run_17 : decode cX4_run 17 = .ok (.istore_n 3, 1) := by decide +kernel
theorem dX4_run_18 : decode cX4_run 18 = .ok (.iconst 0, 1) := by decide +kernel
theorem dX4_run_19 : decode cX4_run 19 = .ok (.istore 4, 2) := by decide +kernel
theorem dX4_run_21 : decode cX4_run 21 = .ok (.iload 4, 2) := by decide +kernel
theorem dX4_run_23 : decode cX4_run 23 = .ok (.ldc 30, 2) := by decide +kernel
theorem dX4_run_25 : decode cX4_run 25 = .ok (.if_icmp .ge 83, 3) := by decide +kernel
theorem dX4_run_28 : decode cX4_run 28 = .ok (.iload_n 3, 1) := by decide +kernel
theorem dX4_run_29 : decode cX4_run 29 = .ok (.aload_n 0, 1) := by decide +kernel
theorem dX4_run_30 : decode cX4_run 30 = .ok (.getfield 31, 3) := by decide +kernel
theorem dX4_run_33 : decode cX4_run 33 = .ok (.if_icmp .lt 5, 3) := by decide +kernel
theorem dX4_run_36 : decode cX4_run 36 = .ok (.iconst 1, 1) := by decide +kernel
theorem dX4_run_37 : decode cX4_run 37 = .ok (.ireturn, 1) := by decide +kernel
theorem dX4_run_38 : decode cX4_run 38 = .ok (.aload_n 0, 1) := by decide +kernel
theorem dX4_run_39 : decode cX4_run 39 = .ok (.getfield 15, 3) := by decide +kernel
theorem dX4_run_42 : decode cX4_run 42 = .ok (.iload_n 3, 1) := by decide +kernel
theorem dX4_run_43 : decode cX4_run 43 = .ok (.iaload, 1) := by decide +kernel
theorem dX4_run_44 : decode cX4_run 44 = .ok (.aload_n 1, 1) := by decide +kernel
theorem dX4_run_45 : decode cX4_run 45 = .ok (.getfield 34, 3) := by decide +kernel
theorem dX4_run_48 : decode cX4_run 48 = .ok (.if_icmp .lt 25, 3) := by decide +kernel
theorem dX4_run_51 : decode cX4_run 51 = .ok (.iinc 3 (-1), 3) := by decide +kernel
theorem dX4_run_54 : decode cX4_run 54 = .ok (.iload_n 3, 1) := by decide +kernel
theorem dX4_run_55 : decode cX4_run 55 = .ok (.ifCond .ge 5, 3) := by decide +kernel
theorem dX4_run_58 : decode cX4_run 58 = .ok (.iconst 0, 1) := by decide +kernel
theorem dX4_run_59 : decode cX4_run 59 = .ok (.ireturn, 1) := by decide +kernel
theorem dX4_run_60 : decode cX4_run 60 = .ok (.aload_n 1, 1) := by decide +kernel
theorem dX4_run_61 : decode cX4_run 61 = .ok (.aload_n 0, 1) := by decide +kernel
theorem dX4_run_62 : decode cX4_run 62 = .ok (.getfield 9, 3) := by decide +kernel
theorem dX4_run_65 : decode cX4_run 65 = .ok (.iload_n 3, 1) := by decide +kernel
theorem dX4_run_66 : decode cX4_run 66 = .ok (.iaload, 1) := by decide +kernel
theorem dX4_run_67 : decode cX4_run 67 = .ok (.invokevirtual 39, 3) := by decide +kernel
theorem dX4_run_70 : decode cX4_run 70 = .ok (.goto 32, 3) := by decide +kernel
theorem dX4_run_73 : decode cX4_run 73 = .ok (.aload_n 0, 1) := by decide +kernel
theorem dX4_run_74 : decode cX4_run 74 = .ok (.getfield 18, 3) := by decide +kernel
theorem dX4_run_77 : decode cX4_run 77 = .ok (.iload_n 2, 1) := by decide +kernel
theorem dX4_run_78 : decode cX4_run 78 = .ok (.if_icmp .lt 6, 3) := by decide +kernel
theorem dX4_run_81 : decode cX4_run 81 = .ok (.goto 27, 3) := by decide +kernel
theorem dX4_run_84 : decode cX4_run 84 = .ok (.aload_n 0, 1) := by decide +kernel
theorem dX4_run_85 : decode cX4_run 85 = .ok (.aload_n 1, 1) := by decide +kernel
theorem dX4_run_86 : decode cX4_run 86 = .ok (.iload_n 3, 1) := by decide +kernel
theorem dX4_run_87 : decode cX4_run 87 = .ok (.invokevirtual 43, 3) := by decide +kernel
theorem dX4_run_90 : decode cX4_run 90 = .ok (.ifCond .eq 12, 3) := by decide +kernel
theorem dX4_run_93 : decode cX4_run 93 = .ok (.iinc 3 1, 3) := by decide +kernel
theorem dX4_run_96 : decode cX4_run 96 = .ok (.aload_n 0, 1) := by decide +kernel
theorem dX4_run_97 : decode cX4_run 97 = .ok (.aload_n 1, 1) := by decide +kernel
theorem dX4_run_98 : decode cX4_run 98 = .ok (.iload_n 3, 1) := by decide +kernel
theorem dX4_run_99 : decode cX4_run 99 = .ok (.invokevirtual 26, 3) := by decide +kernel
theorem dX4_run_102 : decode cX4_run 102 = .ok (.iinc 4 1, 3) := by decide +kernel
theorem dX4_run_105 : decode cX4_run 105 = .ok (.goto (-84), 3) := by decide +kernel
theorem dX4_run_108 : decode cX4_run 108 = .ok (.aload_n 0, 1) := by decide +kernel
theorem dX4_run_109 : decode cX4_run 109 = .ok (.aload_n 1, 1) := by decide +kernel
theorem dX4_run_110 : decode cX4_run 110 = .ok (.iload_n 3, 1) := by decide +kernel
theorem dX4_run_111 : decode cX4_run 111 = .ok (.invokevirtual 47, 3) := by decide +kernel
theorem dX4_run_114 : decode cX4_run 114 = .ok (.iconst 2, 1) := by decide +kernel
theorem dX4_run_115 : decode cX4_run 115 = .ok (.ireturn, 1) := by decide +kernel
theorem dX4_collect_0 : decode cX4_collect 0 = .ok (.aload_n 0, 1) := by decide +kernel
theorem dX4_collect_1 : decode cX4_collect 1 = .ok (.iconst 0, 1) := by decide +kernel
theorem dX4_collect_2 : decode cX4_collect 2 = .ok (.putfield 31, 3) := by decide +kernel
theorem dX4_collect_5 : decode cX4_collect 5 = .ok (.iconst 0, 1) := by decide +kernel
theorem dX4_collect_6 : decode cX4_collect 6 = .ok (.istore_n 2, 1) := by decide +kernel
theorem dX4_collect_7 : decode cX4_collect 7 = .ok (.iload_n 2, 1) := by decide +kernel
theorem dX4_collect_8 : decode cX4_collect 8 = .ok (.aload_n 1, 1) := by decide +kernel
theorem dX4_collect_9 : decode cX4_collect 9 = .ok (.getfield 50, 3) := by decide +kernel
theorem dX4_collect_12 : decode cX4_collect 12 = .ok (.getfield 54, 3) := by decide +kernel
theorem dX4_collect_15 : decode cX4_collect 15 = .ok (.if_icmp .ge 66, 3) := by decide +kernel
theorem dX4_collect_18 : decode cX4_collect 18 = .ok (.iconst 0, 1) := by decide +kernel
theorem dX4_collect_19 : decode cX4_collect 19 = .ok (.istore_n 3, 1) := by decide +kernel
theorem dX4_collect_20 : decode cX4_collect 20 = .ok (.iload_n 3, 1) := by decide +kernel
theorem dX4_collect_21 : decode cX4_collect 21 = .ok (.aload_n 1, 1) := by decide +kernel
theorem dX4_collect_22 : decode cX4_collect 22 = .ok (.getfield 50, 3) := by decide +kernel
theorem dX4_collect_25 : decode cX4_collect 25 = .ok (.getfield 59, 3) := by decide +kernel
theorem dX4_collect_28 : decode cX4_collect 28 = .ok (.iload_n 2, 1) := by decide +kernel
theorem dX4_collect_29 : decode cX4_collect 29 = .ok (.iaload, 1) := by decide +kernel
theorem dX4_collect_30 : decode cX4_collect 30 = .ok (.if_icmp .ge 45, 3) := by decide +kernel
theorem dX4_collect_33 : decode cX4_collect 33 = .ok (.aload_n 1, 1) := by decide +kernel
theorem dX4_collect_34 : decode cX4_collect 34 = .ok (.iload_n 2, 1) := by decide +kernel
theorem dX4_collect_35 : decode cX4_collect 35 = .ok (.iload_n 3, 1) := by decide +kernel
theorem dX4_collect_36 : decode cX4_collect 36 = .ok (.invokestatic 62, 3) := by decide +kernel
theorem dX4_collect_39 : decode cX4_collect 39 = .ok (.invokevirtual 66, 3) := by decide +kernel
theorem dX4_collect_42 : decode cX4_collect 42 = .ok (.ifCond .ne 27, 3) := by decide +kernel
theorem dX4_collect_45 : decode cX4_collect 45 = .ok (.aload_n 0, 1) := by decide +kernel
theorem dX4_collect_46 : decode cX4_collect 46 = .ok (.getfield 9, 3) := by decide +kernel
theorem dX4_collect_49 : decode cX4_collect 49 = .ok (.aload_n 0, 1) := by decide +kernel
theorem dX4_collect_50 : decode cX4_collect 50 = .ok (.getfield 31, 3) := by decide +kernel
theorem dX4_collect_53 : decode cX4_collect 53 = .ok (.iload_n 2, 1) := by decide +kernel
theorem dX4_collect_54 : decode cX4_collect 54 = .ok (.iload_n 3, 1) := by decide +kernel
theorem dX4_collect_55 : decode cX4_collect 55 = .ok (.invokestatic 62, 3) := by decide +kernel
theorem dX4_collect_58 : decode cX4_collect 58 = .ok (.iastore, 1) := by decide +kernel
theorem dX4_collect_59 : decode cX4_collect 59 = .ok (.aload_n 0, 1) := by decide +kernel
theorem dX4_collect_60 : decode cX4_collect 60 = .ok (.dup, 1) := by decide +kernel
theorem dX4_collect_61 : decode cX4_collect 61 = .ok (.getfield 31, 3) := by decide +kernel
theorem dX4_collect_64 : decode cX4_collect 64 = .ok (.iconst 1, 1) := by decide +kernel
theorem dX4_collect_65 : decode cX4_collect 65 = .ok (.iadd, 1) := by decide +kernel
theorem dX4_collect_66 : decode cX4_collect 66 = .ok (.putfield 31, 3) := by decide +kernel
theorem dX4_collect_69 : decode cX4_collect 69 = .ok (.iinc 3 1, 3) := by decide +kernel
theorem dX4_collect_72 : decode cX4_collect 72 = .ok (.goto (-52), 3) := by decide +kernel
theorem dX4_collect_75 : decode cX4_collect 75 = .ok (.iinc 2 1, 3) := by decide +kernel
theorem dX4_collect_78 : decode cX4_collect 78 = .ok (.goto (-71), 3) := by decide +kernel
theorem dX4_collect_81 : decode cX4_collect 81 = .ok (.return_, 1) := by decide +kernel
theorem dX4_aim_0 : decode cX4_aim 0 = .ok (.iload_n 2, 1) := by decide +kernel
theorem dX4_aim_1 : decode cX4_aim 1 = .ok (.aload_n 0, 1) := by decide +kernel
theorem dX4_aim_2 : decode cX4_aim 2 = .ok (.getfield 31, 3) := by decide +kernel
theorem dX4_aim_5 : decode cX4_aim 5 = .ok (.if_icmp .lt 4, 3) := by decide +kernel
theorem dX4_aim_8 : decode cX4_aim 8 = .ok (.return_, 1) := by decide +kernel
theorem dX4_aim_9 : decode cX4_aim 9 = .ok (.iload_n 2, 1) := by decide +kernel
theorem dX4_aim_10 : decode cX4_aim 10 = .ok (.ifCond .le 30, 3) := by decide +kernel
theorem dX4_aim_13 : decode cX4_aim 13 = .ok (.aload_n 0, 1) := by decide +kernel
theorem dX4_aim_14 : decode cX4_aim 14 = .ok (.getfield 9, 3) := by decide +kernel
theorem dX4_aim_17 : decode cX4_aim 17 = .ok (.iload_n 2, 1) := by decide +kernel
theorem dX4_aim_18 : decode cX4_aim 18 = .ok (.iconst 1, 1) := by decide +kernel
theorem dX4_aim_19 : decode cX4_aim 19 = .ok (.isub, 1) := by decide +kernel
theorem dX4_aim_20 : decode cX4_aim 20 = .ok (.iaload, 1) := by decide +kernel
theorem dX4_aim_21 : decode cX4_aim 21 = .ok (.invokestatic 70, 3) := by decide +kernel
theorem dX4_aim_24 : decode cX4_aim 24 = .ok (.aload_n 0, 1) := by decide +kernel
theorem dX4_aim_25 : decode cX4_aim 25 = .ok (.getfield 9, 3) := by decide +kernel
theorem dX4_aim_28 : decode cX4_aim 28 = .ok (.iload_n 2, 1) := by decide +kernel
theorem dX4_aim_29 : decode cX4_aim 29 = .ok (.iaload, 1) := by decide +kernel
theorem dX4_aim_30 : decode cX4_aim 30 = .ok (.invokestatic 70, 3) := by decide +kernel
theorem dX4_aim_33 : decode cX4_aim 33 = .ok (.if_icmp .ne 7, 3) := by decide +kernel
theorem dX4_aim_36 : decode cX4_aim 36 = .ok (.iconst 1, 1) := by decide +kernel
theorem dX4_aim_37 : decode cX4_aim 37 = .ok (.goto 4, 3) := by decide +kernel
theorem dX4_aim_40 : decode cX4_aim 40 = .ok (.iconst 0, 1) := by decide +kernel
theorem dX4_aim_41 : decode cX4_aim 41 = .ok (.istore_n 3, 1) := by decide +kernel
theorem dX4_aim_42 : decode cX4_aim 42 = .ok (.aload_n 0, 1) := by decide +kernel
theorem dX4_aim_43 : decode cX4_aim 43 = .ok (.getfield 15, 3) := by decide +kernel
theorem dX4_aim_46 : decode cX4_aim 46 = .ok (.iload_n 2, 1) := by decide +kernel
theorem dX4_aim_47 : decode cX4_aim 47 = .ok (.iload_n 3, 1) := by decide +kernel
theorem dX4_aim_48 : decode cX4_aim 48 = .ok (.ifCond .eq 20, 3) := by decide +kernel
theorem dX4_aim_51 : decode cX4_aim 51 = .ok (.aload_n 1, 1) := by decide +kernel
theorem dX4_aim_52 : decode cX4_aim 52 = .ok (.aload_n 0, 1) := by decide +kernel
theorem dX4_aim_53 : decode cX4_aim 53 = .ok (.getfield 9, 3) := by decide +kernel
theorem dX4_aim_56 : decode cX4_aim 56 = .ok (.iload_n 2, 1) := by decide +kernel
theorem dX4_aim_57 : decode cX4_aim 57 = .ok (.iconst 1, 1) := by decide +kernel
theorem dX4_aim_58 : decode cX4_aim 58 = .ok (.isub, 1) := by decide +kernel
theorem dX4_aim_59 : decode cX4_aim 59 = .ok (.iaload, 1) := by decide +kernel
theorem dX4_aim_60 : decode cX4_aim 60 = .ok (.invokevirtual 74, 3) := by decide +kernel
theorem dX4_aim_63 : decode cX4_aim 63 = .ok (.iconst 1, 1) := by decide +kernel
theorem dX4_aim_64 : decode cX4_aim 64 = .ok (.iadd, 1) := by decide +kernel
theorem dX4_aim_65 : decode cX4_aim 65 = .ok (.goto 4, 3) := by decide +kernel
theorem dX4_aim_68 : decode cX4_aim 68 = .ok (.iconst 0, 1) := by decide +kernel
theorem dX4_aim_69 : decode cX4_aim 69 = .ok (.iastore, 1) := by decide +kernel
theorem dX4_aim_70 : decode cX4_aim 70 = .ok (.return_, 1) := by decide +kernel
theorem dX4_tryNext_0 : decode cX4_tryNext 0 = .ok (.aload_n 0, 1) := by decide +kernel
theorem dX4_tryNext_1 : decode cX4_tryNext 1 = .ok (.getfield 15, 3) := by decide +kernel
theorem dX4_tryNext_4 : decode cX4_tryNext 4 = .ok (.iload_n 2, 1) := by decide +kernel
theorem dX4_tryNext_5 : decode cX4_tryNext 5 = .ok (.iaload, 1) := by decide +kernel
theorem dX4_tryNext_6 : decode cX4_tryNext 6 = .ok (.istore_n 3, 1) := by decide +kernel
theorem dX4_tryNext_7 : decode cX4_tryNext 7 = .ok (.aload_n 0, 1) := by decide +kernel
theorem dX4_tryNext_8 : decode cX4_tryNext 8 = .ok (.getfield 15, 3) := by decide +kernel
theorem dX4_tryNext_11 : decode cX4_tryNext 11 = .ok (.iload_n 2, 1) := by decide +kernel
theorem dX4_tryNext_12 : decode cX4_tryNext 12 = .ok (.dup2, 1) := by decide +kernel
theorem dX4_tryNext_13 : decode cX4_tryNext 13 = .ok (.iaload, 1) := by decide +kernel
theorem dX4_tryNext_14 : decode cX4_tryNext 14 = .ok (.iconst 1, 1) := by decide +kernel
theorem dX4_tryNext_15 : decode cX4_tryNext 15 = .ok (.iadd, 1) := by decide +kernel
theorem dX4_tryNext_16 : decode cX4_tryNext 16 = .ok (.iastore, 1) := by decide +kernel
theorem dX4_tryNext_17 : decode cX4_tryNext 17 = .ok (.aload_n 0, 1) := by decide +kernel
theorem dX4_tryNext_18 : decode cX4_tryNext 18 = .ok (.dup, 1) := by decide +kernel
theorem dX4_tryNext_19 : decode cX4_tryNext 19 = .ok (.getfield 18, 3) := by decide +kernel
theorem dX4_tryNext_22 : decode cX4_tryNext 22 = .ok (.iconst 1, 1) := by decide +kernel
theorem dX4_tryNext_23 : decode cX4_tryNext 23 = .ok (.iadd, 1) := by decide +kernel
theorem dX4_tryNext_24 : decode cX4_tryNext 24 = .ok (.putfield 18, 3) := by decide +kernel
theorem dX4_tryNext_27 : decode cX4_tryNext 27 = .ok (.aload_n 1, 1) := by decide +kernel
theorem dX4_tryNext_28 : decode cX4_tryNext 28 = .ok (.aload_n 0, 1) := by decide +kernel
theorem dX4_tryNext_29 : decode cX4_tryNext 29 = .ok (.getfield 9, 3) := by decide +kernel
theorem dX4_tryNext_32 : decode cX4_tryNext 32 = .ok (.iload_n 2, 1) := by decide +kernel
theorem dX4_tryNext_33 : decode cX4_tryNext 33 = .ok (.iaload, 1) := by decide +kernel
theorem dX4_tryNext_34 : decode cX4_tryNext 34 = .ok (.iload_n 3, 1) := by decide +kernel
theorem dX4_tryNext_35 : decode cX4_tryNext 35 = .ok (.invokevirtual 77, 3) := by decide +kernel
theorem dX4_tryNext_38 : decode cX4_tryNext 38 = .ok (.ifCond .ne 7, 3) := by decide +kernel
theorem dX4_tryNext_41 : decode cX4_tryNext 41 = .ok (.iconst 1, 1) := by decide +kernel
theorem dX4_tryNext_42 : decode cX4_tryNext 42 = .ok (.goto 4, 3) := by decide +kernel
theorem dX4_tryNext_45 : decode cX4_tryNext 45 = .ok (.iconst 0, 1) := by decide +kernel
theorem dX4_tryNext_46 : decode cX4_tryNext 46 = .ok (.ireturn, 1) := by decide +kernel
theorem dX4_takeAllOut_0 : decode cX4_takeAllOut 0 = .ok (.iconst 0, 1) := by decide +kernel
theorem dX4_takeAllOut_1 : decode cX4_takeAllOut 1 = .ok (.istore_n 3, 1) := by decide +kernel
theorem dX4_takeAllOut_2 : decode cX4_takeAllOut 2 = .ok (.iload_n 3, 1) := by decide +kernel
theorem dX4_takeAllOut_3 : decode cX4_takeAllOut 3 = .ok (.iload_n 2, 1) := by decide +kernel
theorem dX4_takeAllOut_4 : decode cX4_takeAllOut 4 = .ok (.if_icmp .ge 19, 3) := by decide +kernel
theorem dX4_takeAllOut_7 : decode cX4_takeAllOut 7 = .ok (.aload_n 1, 1) := by decide +kernel
theorem dX4_takeAllOut_8 : decode cX4_takeAllOut 8 = .ok (.aload_n 0, 1) := by decide +kernel
theorem dX4_takeAllOut_9 : decode cX4_takeAllOut 9 = .ok (.getfield 9, 3) := by decide +kernel
theorem dX4_takeAllOut_12 : decode cX4_takeAllOut 12 = .ok (.iload_n 3, 1) := by decide +kernel
theorem dX4_takeAllOut_13 : decode cX4_takeAllOut 13 = .ok (.iaload, 1) := by decide +kernel
theorem dX4_takeAllOut_14 : decode cX4_takeAllOut 14 = .ok (.invokevirtual 39, 3) := by decide +kernel
theorem dX4_takeAllOut_17 : decode cX4_takeAllOut 17 = .ok (.iinc 3 1, 3) := by decide +kernel
theorem dX4_takeAllOut_20 : decode cX4_takeAllOut 20 = .ok (.goto (-18), 3) := by decide +kernel
theorem dX4_takeAllOut_23 : decode cX4_takeAllOut 23 = .ok (.return_, 1) := by decide +kernel
theorem dX5_init_0 : decode cX5_init 0 = .ok (.aload_n 0, 1) := by decide +kernel
theorem dX5_init_1 : decode cX5_init 1 = .ok (.invokespecial 3, 3) := by decide +kernel
theorem dX5_init_4 : decode cX5_init 4 = .ok (.aload_n 0, 1) := by decide +kernel
theorem dX5_init_5 : decode cX5_init 5 = .ok (.new 9, 3) := by decide +kernel
theorem dX5_init_8 : decode cX5_init 8 = .ok (.dup, 1) := by decide +kernel
theorem dX5_init_9 : decode cX5_init 9 = .ok (.invokespecial 11, 3) := by decide +kernel
theorem dX5_init_12 : decode cX5_init 12 = .ok (.putfield 12, 3) := by decide +kernel
theorem dX5_init_15 : decode cX5_init 15 = .ok (.aload_n 0, 1) := by decide +kernel
theorem dX5_init_16 : decode cX5_init 16 = .ok (.new 16, 3) := by decide +kernel
theorem dX5_init_19 : decode cX5_init 19 = .ok (.dup, 1) := by decide +kernel
theorem dX5_init_20 : decode cX5_init 20 = .ok (.invokespecial 18, 3) := by decide +kernel
theorem dX5_init_23 : decode cX5_init 23 = .ok (.putfield 19, 3) := by decide +kernel
theorem dX5_init_26 : decode cX5_init 26 = .ok (.aload_n 0, 1) := by decide +kernel
theorem dX5_init_27 : decode cX5_init 27 = .ok (.new 23, 3) := by decide +kernel
theorem dX5_init_30 : decode cX5_init 30 = .ok (.dup, 1) := by decide +kernel
theorem dX5_init_31 : decode cX5_init 31 = .ok (.invokespecial 25, 3) := by decide +kernel
theorem dX5_init_34 : decode cX5_init 34 = .ok (.putfield 26, 3) := by decide +kernel
theorem dX5_init_37 : decode cX5_init 37 = .ok (.aload_n 0, 1) := by decide +kernel
theorem dX5_init_38 : decode cX5_init 38 = .ok (.new 30, 3) := by decide +kernel
theorem dX5_init_41 : decode cX5_init 41 = .ok (.dup, 1) := by decide +kernel
theorem dX5_init_42 : decode cX5_init 42 = .ok (.iload_n 1, 1) := by decide +kernel
theorem dX5_init_43 : decode cX5_init 43 = .ok (.iconst 1, 1) := by decide +kernel
theorem dX5_init_44 : decode cX5_init 44 = .ok (.iconst 5, 1) := by decide +kernel
theorem dX5_init_45 : decode cX5_init 45 = .ok (.invokestatic 32, 3) := by decide +kernel
theorem dX5_init_48 : decode cX5_init 48 = .ok (.ifCond .eq 7, 3) := by decide +kernel
theorem dX5_init_51 : decode cX5_init 51 = .ok (.iload_n 1, 1) := by decide +kernel
theorem dX5_init_52 : decode cX5_init 52 = .ok (.goto 4, 3) := by decide +kernel
theorem dX5_init_55 : decode cX5_init 55 = .ok (.iconst 5, 1) := by decide +kernel
theorem dX5_init_56 : decode cX5_init 56 = .ok (.iload_n 2, 1) := by decide +kernel
theorem dX5_init_57 : decode cX5_init 57 = .ok (.iconst 1, 1) := by decide +kernel
theorem dX5_init_58 : decode cX5_init 58 = .ok (.bipush 6, 2) := by decide +kernel
theorem dX5_init_60 : decode cX5_init 60 = .ok (.invokestatic 32, 3) := by decide +kernel
theorem dX5_init_63 : decode cX5_init 63 = .ok (.ifCond .eq 7, 3) := by decide +kernel
theorem dX5_init_66 : decode cX5_init 66 = .ok (.iload_n 2, 1) := by decide +kernel
theorem dX5_init_67 : decode cX5_init 67 = .ok (.goto 5, 3) := by decide +kernel
theorem dX5_init_70 : decode cX5_init 70 = .ok (.bipush 6, 2) := by decide +kernel
theorem dX5_init_72 : decode cX5_init 72 = .ok (.invokespecial 36, 3) := by decide +kernel
theorem dX5_init_75 : decode cX5_init 75 = .ok (.putfield 39, 3) := by decide +kernel
theorem dX5_init_78 : decode cX5_init 78 = .ok (.return_, 1) := by decide +kernel
theorem dX5_room_0 : decode cX5_room 0 = .ok (.iload_n 1, 1) := by decide +kernel
theorem dX5_room_1 : decode cX5_room 1 = .ok (.iconst 0, 1) := by decide +kernel
theorem dX5_room_2 : decode cX5_room 2 = .ok (.iconst 5, 1) := by decide +kernel
theorem dX5_room_3 : decode cX5_room 3 = .ok (.invokestatic 32, 3) := by decide +kernel
theorem dX5_room_6 : decode cX5_room 6 = .ok (.ifCond .eq 12, 3) := by decide +kernel
theorem dX5_room_9 : decode cX5_room 9 = .ok (.iload_n 2, 1) := by decide +kernel
theorem dX5_room_10 : decode cX5_room 10 = .ok (.iconst 0, 1) := by decide +kernel
theorem dX5_room_11 : decode cX5_room 11 = .ok (.iconst 2, 1) := by decide +kernel
theorem dX5_room_12 : decode cX5_room 12 = .ok (.invokestatic 32, 3) := by decide +kernel
theorem dX5_room_15 : decode cX5_room 15 = .ok (.ifCond .ne 13, 3) := by decide +kernel
theorem dX5_room_18 : decode cX5_room 18 = .ok (.new 43, 3) := by decide +kernel
theorem dX5_room_21 : decode cX5_room 21 = .ok (.dup, 1) := by decide +kernel
theorem dX5_room_22 : decode cX5_room 22 = .ok (.ldc 45, 2) := by decide +kernel
theorem dX5_room_24 : decode cX5_room 24 = .ok (.invokespecial 47, 3) := by decide +kernel
theorem dX5_room_27 : decode cX5_room 27 = .ok (.athrow, 1) := by decide +kernel
theorem dX5_room_28 : decode cX5_room 28 = .ok (.aload_n 0, 1) := by decide +kernel
theorem dX5_room_29 : decode cX5_room 29 = .ok (.getfield 39, 3) := by decide +kernel
theorem dX5_room_32 : decode cX5_room 32 = .ok (.getfield 50, 3) := by decide +kernel
theorem dX5_room_35 : decode cX5_room 35 = .ok (.bipush 16, 2) := by decide +kernel
theorem dX5_room_37 : decode cX5_room 37 = .ok (.iload_n 1, 1) := by decide +kernel
theorem dX5_room_38 : decode cX5_room 38 = .ok (.iadd, 1) := by decide +kernel
theorem dX5_room_39 : decode cX5_room 39 = .ok (.iaload, 1) := by decide +kernel
theorem dX5_room_40 : decode cX5_room 40 = .ok (.ifCond .eq 13, 3) := by decide +kernel
theorem dX5_room_43 : decode cX5_room 43 = .ok (.new 54, 3) := by decide +kernel
theorem dX5_room_46 : decode cX5_room 46 = .ok (.dup, 1) := by decide +kernel
theorem dX5_room_47 : decode cX5_room 47 = .ok (.ldc 56, 2) := by decide +kernel
theorem dX5_room_49 : decode cX5_room 49 = .ok (.invokespecial 58, 3) := by decide +kernel
theorem dX5_room_52 : decode cX5_room 52 = .ok (.athrow, 1) := by decide +kernel
theorem dX5_room_53 : decode cX5_room 53 = .ok (.aload_n 0, 1) := by decide +kernel
theorem dX5_room_54 : decode cX5_room 54 = .ok (.getfield 39, 3) := by decide +kernel
theorem dX5_room_57 : decode cX5_room 57 = .ok (.getfield 59, 3) := by decide +kernel
theorem dX5_room_60 : decode cX5_room 60 = .ok (.iload_n 1, 1) := by decide +kernel
theorem dX5_room_61 : decode cX5_room 61 = .ok (.iload_n 2, 1) := by decide +kernel
theorem dX5_room_62 : decode cX5_room 62 = .ok (.iastore, 1) := by decide +kernel
theorem dX5_room_63 : decode cX5_room 63 = .ok (.return_, 1) := by decide +kernel
theorem dX5_lesson_0 : decode cX5_lesson 0 = .ok (.iload_n 1, 1) := by decide +kernel
theorem dX5_lesson_1 : decode cX5_lesson 1 = .ok (.iconst 0, 1) := by decide +kernel
theorem dX5_lesson_2 : decode cX5_lesson 2 = .ok (.bipush 7, 2) := by decide +kernel
theorem dX5_lesson_4 : decode cX5_lesson 4 = .ok (.invokestatic 32, 3) := by decide +kernel
theorem dX5_lesson_7 : decode cX5_lesson 7 = .ok (.ifCond .eq 18, 3) := by decide +kernel
theorem dX5_lesson_10 : decode cX5_lesson 10 = .ok (.iload_n 2, 1) := by decide +kernel
theorem dX5_lesson_11 : decode cX5_lesson 11 = .ok (.iconst (-1), 1) := by decide +kernel
theorem dX5_lesson_12 : decode cX5_lesson 12 = .ok (.bipush 7, 2) := by decide +kernel
theorem dX5_lesson_14 : decode cX5_lesson 14 = .ok (.invokestatic 32, 3) := by decide +kernel
theorem dX5_lesson_17 : decode cX5_lesson 17 = .ok (.ifCond .eq 8, 3) := by decide +kernel
theorem dX5_lesson_20 : decode cX5_lesson 20 = .ok (.iload_n 1, 1) := by decide +kernel
theorem dX5_lesson_21 : decode cX5_lesson 21 = .ok (.iload_n 2, 1) := by decide +kernel
theorem dX5_lesson_22 : decode cX5_lesson 22 = .ok (.if_icmp .ne 13, 3) := by decide +kernel
theorem dX5_lesson_25 : decode cX5_lesson 25 = .ok (.new 43, 3) := by decide +kernel
theorem dX5_lesson_28 : decode cX5_lesson 28 = .ok (.dup, 1) := by decide +kernel
theorem dX5_lesson_29 : decode cX5_lesson 29 = .ok (.ldc 62, 2) := by decide +kernel
theorem dX5_lesson_31 : decode cX5_lesson 31 = .ok (.invokespecial 47, 3) := by decide +kernel
theorem dX5_lesson_34 : decode cX5_lesson 34 = .ok (.athrow, 1) := by decide +kernel
theorem dX5_lesson_35 : decode cX5_lesson 35 = .ok (.iload_n 3, 1) := by decide +kernel
theorem dX5_lesson_36 : decode cX5_lesson 36 = .ok (.iconst 0, 1) := by decide +kernel
theorem dX5_lesson_37 : decode cX5_lesson 37 = .ok (.bipush 7, 2) := by decide +kernel
theorem dX5_lesson_39 : decode cX5_lesson 39 = .ok (.invokestatic 32, 3) := by decide +kernel
theorem dX5_lesson_42 : decode cX5_lesson 42 = .ok (.ifCond .eq 13, 3) := by decide +kernel
theorem dX5_lesson_45 : decode cX5_lesson 45 = .ok (.iload 4, 2) := by decide +kernel
theorem dX5_lesson_47 : decode cX5_lesson 47 = .ok (.iconst 0, 1) := by decide +kernel
theorem dX5_lesson_48 : decode cX5_lesson 48 = .ok (.iconst 2, 1) := by decide +kernel
theorem dX5_lesson_49 : decode cX5_lesson 49 = .ok (.invokestatic 32, 3) := by decide +kernel
theorem dX5_lesson_52 : decode cX5_lesson 52 = .ok (.ifCond .ne 13, 3) := by decide +kernel
theorem dX5_lesson_55 : decode cX5_lesson 55 = .ok (.new 43, 3) := by decide +kernel
theorem dX5_lesson_58 : decode cX5_lesson 58 = .ok (.dup, 1) := by decide +kernel
theorem dX5_lesson_59 : decode cX5_lesson 59 = .ok (.ldc 64, 2) := by decide +kernel
theorem dX5_lesson_61 : decode cX5_lesson 61 = .ok (.invokespecial 47, 3) := by decide +kernel
theorem dX5_lesson_64 : decode cX5_lesson 64 = .ok (.athrow, 1) := by decide +kernel
theorem dX5_lesson_65 : decode cX5_lesson 65 = .ok (.iload 5, 2) := by decide +kernel
theorem dX5_lesson_67 : decode cX5_lesson 67 = .ok (.bipush 10, 2) := by decide +kernel
theorem dX5_lesson_69 : decode cX5_lesson 69 = .ok (.idiv, 1) := by decide +kernel
theorem dX5_lesson_70 : decode cX5_lesson 70 = .ok (.iconst 1, 1) := by decide +kernel
theorem dX5_lesson_71 : decode cX5_lesson 71 = .ok (.iconst 2, 1) := by decide +kernel
theorem dX5_lesson_72 : decode cX5_lesson 72 = .ok (.invokestatic 32, 3) := by decide +kernel
theorem dX5_lesson_75 : decode cX5_lesson 75 = .ok (.ifCond .eq 16, 3) := by decide +kernel
theorem dX5_lesson_78 : decode cX5_lesson 78 = .ok (.iload 5, 2) := by decide +kernel
theorem dX5_lesson_80 : decode cX5_lesson 80 = .ok (.bipush 10, 2) := by decide +kernel
theorem dX5_lesson_82 : decode cX5_lesson 82 = .ok (.irem, 1) := by decide +kernel
theorem dX5_lesson_83 : decode cX5_lesson 83 = .ok (.iconst 1, 1) := by decide +kernel
theorem dX5_lesson_84 : decode cX5_lesson 84 = .ok (.iconst 4, 1) := by decide +kernel
theorem dX5_lesson_85 : decode cX5_lesson 85 = .ok (.invokestatic 32, 3) := by decide +kernel
theorem dX5_lesson_88 : decode cX5_lesson 88 = .ok (.ifCond .ne 13, 3) := by decide +kernel
theorem dX5_lesson_91 : decode cX5_lesson 91 = .ok (.new 43, 3) := by decide +kernel
theorem dX5_lesson_94 : decode cX5_lesson 94 = .ok (.dup, 1) := by decide +kernel
theorem dX5_lesson_95 : decode cX5_lesson 95 = .ok (.ldc 66, 2) := by decide +kernel
theorem dX5_lesson_97 : decode cX5_lesson 97 = .ok (.invokespecial 47, 3) := by decide +kernel
theorem dX5_lesson_100 : decode cX5_lesson 100 = .ok (.athrow, 1) := by decide +kernel
theorem dX5_lesson_101 : decode cX5_lesson 101 = .ok (.iload 6, 2) := by decide +kernel
theorem dX5_lesson_103 : decode cX5_lesson 103 = .ok (.bipush 33, 2) := by decide +kernel
theorem dX5_lesson_105 : decode cX5_lesson 105 = .ok (.bipush 126, 2) := by decide +kernel
theorem dX5_lesson_107 : decode cX5_lesson 107 = .ok (.invokestatic 32, 3) := by decide +kernel
theorem dX5_lesson_110 : decode cX5_lesson 110 = .ok (.ifCond .ne 13, 3) := by decide +kernel
theorem dX5_lesson_113 : decode cX5_lesson 113 = .ok (.new 43, 3) := by decide +kernel
theorem dX5_lesson_116 : decode cX5_lesson 116 = .ok (.dup, 1) := by decide +kernel
theorem dX5_lesson_117 : decode cX5_lesson 117 = .ok (.ldc 68, 2) := by decide +kernel
theorem dX5_lesson_119 : decode cX5_lesson 119 = .ok (.invokespecial 47, 3) := by decide +kernel
theorem dX5_lesson_122 : decode cX5_lesson 122 = .ok (.athrow, 1) := by decide +kernel
theorem dX5_lesson_123 : decode cX5_lesson 123 = .ok (.aload_n 0, 1) := by decide +kernel
theorem dX5_lesson_124 : decode cX5_lesson 124 = .ok (.getfield 39, 3) := by decide +kernel
theorem dX5_lesson_127 : decode cX5_lesson 127 = .ok (.getfield 70, 3) := by decide +kernel
theorem dX5_lesson_130 : decode cX5_lesson 130 = .ok (.getfield 74, 3) := by decide +kernel
theorem dX5_lesson_133 : decode cX5_lesson 133 = .ok (.bipush 16, 2) := by decide +kernel
theorem dX5_lesson_135 : decode cX5_lesson 135 = .ok (.if_icmp .lt 13, 3) := by decide +kernel
theorem dX5_lesson_138 : decode cX5_lesson 138 = .ok (.new 54, 3) := by decide +kernel
theorem dX5_lesson_141 : decode cX5_lesson 141 = .ok (.dup, 1) := by decide +kernel
theorem dX5_lesson_142 : decode cX5_lesson 142 = .ok (.ldc 80, 2) := by decide +kernel
theorem dX5_lesson_144 : decode cX5_lesson 144 = .ok (.invokespecial 58, 3) := by decide +kernel
theorem dX5_lesson_147 : decode cX5_lesson 147 = .ok (.athrow, 1) := by decide +kernel
theorem dX5_lesson_148 : decode cX5_lesson 148 = .ok (.aload_n 0, 1) := by decide +kernel
theorem dX5_lesson_149 : decode cX5_lesson 149 = .ok (.getfield 39, 3) := by decide +kernel
theorem dX5_lesson_152 : decode cX5_lesson 152 = .ok (.getfield 70, 3) := by decide +kernel
theorem dX5_lesson_155 : decode cX5_lesson 155 = .ok (.iload_n 1, 1) := by decide +kernel
theorem dX5_lesson_156 : decode cX5_lesson 156 = .ok (.iload_n 2, 1) := by decide +kernel
theorem dX5_lesson_157 : decode cX5_lesson 157 = .ok (.iload_n 3, 1) := by decide +kernel
theorem dX5_lesson_158 : decode cX5_lesson 158 = .ok (.iload 4, 2) := by decide +kernel
theorem dX5_lesson_160 : decode cX5_lesson 160 = .ok (.iload 5, 2) := by decide +kernel
theorem dX5_lesson_162 : decode cX5_lesson 162 = .ok (.iload 6, 2) := by decide +kernel
theorem dX5_lesson_164 : decode cX5_lesson 164 = .ok (.invokevirtual 82, 3) := by decide +kernel
theorem dX5_lesson_167 : decode cX5_lesson 167 = .ok (.ireturn, 1) := by decide +kernel
theorem dX5_block_0 : decode cX5_block 0 = .ok (.iload_n 1, 1) := by decide +kernel
theorem dX5_block_1 : decode cX5_block 1 = .ok (.iload_n 2, 1) := by decide +kernel
theorem dX5_block_2 : decode cX5_block 2 = .ok (.invokestatic 86, 3) := by decide +kernel
theorem dX5_block_5 : decode cX5_block 5 = .ok (.ifCond .eq 20, 3) := by decide +kernel
theorem dX5_block_8 : decode cX5_block 8 = .ok (.iload_n 3, 1) := by decide +kernel
theorem dX5_block_9 : decode cX5_block 9 = .ok (.iconst 0, 1) := by decide +kernel
theorem dX5_block_10 : decode cX5_block 10 = .ok (.aload_n 0, 1) := by decide +kernel
theorem dX5_block_11 : decode cX5_block 11 = .ok (.getfield 39, 3) := by decide +kernel
theorem dX5_block_14 : decode cX5_block 14 = .ok (.getfield 90, 3) := by decide +kernel
theorem dX5_block_17 : decode cX5_block 17 = .ok (.iconst 1, 1) := by decide +kernel
theorem dX5_block_18 : decode cX5_block 18 = .ok (.isub, 1) := by decide +kernel
theorem dX5_block_19 : decode cX5_block 19 = .ok (.invokestatic 32, 3) := by decide +kernel
theorem dX5_block_22 : decode cX5_block 22 = .ok (.ifCond .ne 13, 3) := by decide +kernel
theorem dX5_block_25 : decode cX5_block 25 = .ok (.new 43, 3) := by decide +kernel
theorem dX5_block_28 : decode cX5_block 28 = .ok (.dup, 1) := by decide +kernel
theorem dX5_block_29 : decode cX5_block 29 = .ok (.ldc 93, 2) := by decide +kernel
theorem dX5_block_31 : decode cX5_block 31 = .ok (.invokespecial 47, 3) := by decide +kernel
theorem dX5_block_34 : decode cX5_block 34 = .ok (.athrow, 1) := by decide +kernel
theorem dX5_block_35 : decode cX5_block 35 = .ok (.iload_n 1, 1) := by decide +kernel
theorem dX5_block_36 : decode cX5_block 36 = .ok (.iload_n 2, 1) := by decide +kernel
theorem dX5_block_37 : decode cX5_block 37 = .ok (.invokestatic 95, 3) := by decide +kernel
theorem dX5_block_40 : decode cX5_block 40 = .ok (.istore 5, 2) := by decide +kernel
theorem dX5_block_42 : decode cX5_block 42 = .ok (.iconst 1, 1) := by decide +kernel
theorem dX5_block_43 : decode cX5_block 43 = .ok (.iload_n 3, 1) := by decide +kernel
theorem dX5_block_44 : decode cX5_block 44 = .ok (.ishl, 1) := by decide +kernel
theorem dX5_block_45 : decode cX5_block 45 = .ok (.istore 6, 2) := by decide +kernel
theorem dX5_block_47 : decode cX5_block 47 = .ok (.iload 4, 2) := by decide +kernel
theorem dX5_block_49 : decode cX5_block 49 = .ok (.ifCond .eq 29, 3) := by decide +kernel
theorem dX5_block_52 : decode cX5_block 52 = .ok (.aload_n 0, 1) := by decide +kernel
theorem dX5_block_53 : decode cX5_block 53 = .ok (.getfield 39, 3) := by decide +kernel
theorem dX5_block_56 : decode cX5_block 56 = .ok (.getfield 50, 3) := by decide +kernel
theorem dX5_block_59 : decode cX5_block 59 = .ok (.iload 5, 2) := by decide +kernel
theorem dX5_block_61 : decode cX5_block 61 = .ok (.iaload, 1) := by decide +kernel
theorem dX5_block_62 : decode cX5_block 62 = .ok (.iload 6, 2) := by decide +kernel
theorem dX5_block_64 : decode cX5_block 64 = .ok (.iand, 1) := by decide +kernel
theorem dX5_block_65 : decode cX5_block 65 = .ok (.ifCond .eq 13, 3) := by decide +kernel
theorem dX5_block_68 : decode cX5_block 68 = .ok (.new 54, 3) := by decide +kernel
theorem dX5_block_71 : decode cX5_block 71 = .ok (.dup, 1) := by decide +kernel
theorem dX5_block_72 : decode cX5_block 72 = .ok (.ldc 99, 2) := by decide +kernel
theorem dX5_block_74 : decode cX5_block 74 = .ok (.invokespecial 58, 3) := by decide +kernel
theorem dX5_block_77 : decode cX5_block 77 = .ok (.athrow, 1) := by decide +kernel
theorem dX5_block_78 : decode cX5_block 78 = .ok (.iload 4, 2) := by decide +kernel
theorem dX5_block_80 : decode cX5_block 80 = .ok (.ifCond .eq 21, 3) := by decide +kernel
theorem dX5_block_83 : decode cX5_block 83 = .ok (.aload_n 0, 1) := by decide +kernel
theorem dX5_block_84 : decode cX5_block 84 = .ok (.getfield 39, 3) := by decide +kernel
theorem dX5_block_87 : decode cX5_block 87 = .ok (.getfield 101, 3) := by decide +kernel
theorem dX5_block_90 : decode cX5_block 90 = .ok (.iload 5, 2) := by decide +kernel
theorem dX5_block_92 : decode cX5_block 92 = .ok (.dup2, 1) := by decide +kernel
theorem dX5_block_93 : decode cX5_block 93 = .ok (.iaload, 1) := by decide +kernel
theorem dX5_block_94 : decode cX5_block 94 = .ok (.iload 6, 2) := by decide +kernel
theorem dX5_block_96 : decode cX5_block 96 = .ok (.ior, 1) := by decide +kernel
theorem dX5_block_97 : decode cX5_block 97 = .ok (.iastore, 1) := by decide +kernel
theorem dX5_block_98 : decode cX5_block 98 = .ok (.goto 20, 3) := by decide +kernel
theorem dX5_block_101 : decode cX5_block 101 = .ok (.aload_n 0, 1) := by decide +kernel
theorem dX5_block_102 : decode cX5_block 102 = .ok (.getfield 39, 3) := by decide +kernel
theorem dX5_block_105 : decode cX5_block 105 = .ok (.getfield 101, 3) := by decide +kernel
theorem dX5_block_108 : decode cX5_block 108 = .ok (.iload 5, 2) := by decide +kernel
theorem dX5_block_110 : decode cX5_block 110 = .ok (.dup2, 1) := by decide +kernel
theorem dX5_block_111 : decode cX5_block 111 = .ok (.iaload, 1) := by decide +kernel
theorem dX5_block_112 : decode cX5_block 112 = .ok (.iload 6, 2) := by decide +kernel
theorem dX5_block_114 : decode cX5_block 114 = .ok (.iconst (-1), 1) := by decide +kernel
theorem dX5_block_115 : decode cX5_block 115 = .ok (.ixor, 1) := by decide +kernel
theorem dX5_block_116 : decode cX5_block 116 = .ok (.iand, 1) := by decide +kernel
theorem dX5_block_117 : decode cX5_block 117 = .ok (.iastore, 1) := by decide +kernel
theorem dX5_block_118 : decode cX5_block 118 = .ok (.return_, 1) := by decide +kernel
theorem dX5_place_0 : decode cX5_place 0 = .ok (.aload_n 0, 1) := by decide +kernel
theorem dX5_place_1 : decode cX5_place 1 = .ok (.getfield 39, 3) := by decide +kernel
theorem dX5_place_4 : decode cX5_place 4 = .ok (.getfield 70, 3) := by decide +kernel
theorem dX5_place_7 : decode cX5_place 7 = .ok (.iload_n 1, 1) := by decide +kernel
theorem dX5_place_8 : decode cX5_place 8 = .ok (.iload_n 2, 1) := by decide +kernel
theorem dX5_place_9 : decode cX5_place 9 = .ok (.invokevirtual 104, 3) := by decide +kernel
theorem dX5_place_12 : decode cX5_place 12 = .ok (.ifCond .eq 20, 3) := by decide +kernel
theorem dX5_place_15 : decode cX5_place 15 = .ok (.iload_n 3, 1) := by decide +kernel
theorem dX5_place_16 : decode cX5_place 16 = .ok (.iconst 0, 1) := by decide +kernel
theorem dX5_place_17 : decode cX5_place 17 = .ok (.aload_n 0, 1) := by decide +kernel
theorem dX5_place_18 : decode cX5_place 18 = .ok (.getfield 39, 3) := by decide +kernel
theorem dX5_place_21 : decode cX5_place 21 = .ok (.getfield 90, 3) := by decide +kernel
theorem dX5_place_24 : decode cX5_place 24 = .ok (.iconst 1, 1) := by decide +kernel
theorem dX5_place_25 : decode cX5_place 25 = .ok (.isub, 1) := by decide +kernel
theorem dX5_place_26 : decode cX5_place 26 = .ok (.invokestatic 32, 3) := by decide +kernel
theorem dX5_place_29 : decode cX5_place 29 = .ok (.ifCond .ne 13, 3) := by decide +kernel
theorem dX5_place_32 : decode cX5_place 32 = .ok (.new 43, 3) := by decide +kernel
theorem dX5_place_35 : decode cX5_place 35 = .ok (.dup, 1) := by decide +kernel
theorem dX5_place_36 : decode cX5_place 36 = .ok (.ldc 107, 2) := by decide +kernel
theorem dX5_place_38 : decode cX5_place 38 = .ok (.invokespecial 47, 3) := by decide +kernel
theorem dX5_place_41 : decode cX5_place 41 = .ok (.athrow, 1) := by decide +kernel
theorem dX5_place_42 : decode cX5_place 42 = .ok (.iload_n 1, 1) := by decide +kernel
theorem dX5_place_43 : decode cX5_place 43 = .ok (.iload_n 2, 1) := by decide +kernel
theorem dX5_place_44 : decode cX5_place 44 = .ok (.invokestatic 109, 3) := by decide +kernel
theorem dX5_place_47 : decode cX5_place 47 = .ok (.istore 4, 2) := by decide +kernel
theorem dX5_place_49 : decode cX5_place 49 = .ok (.aload_n 0, 1) := by decide +kernel
theorem dX5_place_50 : decode cX5_place 50 = .ok (.getfield 39, 3) := by decide +kernel
theorem dX5_place_53 : decode cX5_place 53 = .ok (.iload 4, 2) := by decide +kernel
theorem dX5_place_55 : decode cX5_place 55 = .ok (.invokevirtual 112, 3) := by decide +kernel
theorem dX5_place_58 : decode cX5_place 58 = .ok (.ifCond .eq 13, 3) := by decide +kernel
theorem dX5_place_61 : decode cX5_place 61 = .ok (.new 54, 3) := by decide +kernel
theorem dX5_place_64 : decode cX5_place 64 = .ok (.dup, 1) := by decide +kernel
theorem dX5_place_65 : decode cX5_place 65 = .ok (.ldc 116, 2) := by decide +kernel
theorem dX5_place_67 : decode cX5_place 67 = .ok (.invokespecial 58, 3) := by decide +kernel
theorem dX5_place_70 : decode cX5_place 70 = .ok (.athrow, 1) := by decide +kernel
theorem dX5_place_71 : decode cX5_place 71 = .ok (.aload_n 0, 1) := by decide +kernel
theorem dX5_place_72 : decode cX5_place 72 = .ok (.getfield 26, 3) := by decide +kernel
theorem dX5_place_75 : decode cX5_place 75 = .ok (.aload_n 0, 1) := by decide +kernel
theorem dX5_place_76 : decode cX5_place 76 = .ok (.getfield 39, 3) := by decide +kernel
theorem dX5_place_79 : decode cX5_place 79 = .ok (.getfield 118, 3) := by decide +kernel
theorem dX5_place_82 : decode cX5_place 82 = .ok (.invokevirtual 121, 3) := by decide +kernel
theorem dX5_place_85 : decode cX5_place 85 = .ok (.aload_n 0, 1) := by decide +kernel
theorem dX5_place_86 : decode cX5_place 86 = .ok (.getfield 39, 3) := by decide +kernel
theorem dX5_place_89 : decode cX5_place 89 = .ok (.iload 4, 2) := by decide +kernel
theorem dX5_place_91 : decode cX5_place 91 = .ok (.iload_n 3, 1) := by decide +kernel
theorem dX5_place_92 : decode cX5_place 92 = .ok (.invokevirtual 125, 3) := by decide +kernel
theorem dX5_place_95 : decode cX5_place 95 = .ok (.istore 5, 2) := by decide +kernel
theorem dX5_place_97 : decode cX5_place 97 = .ok (.iload 5, 2) := by decide +kernel
theorem dX5_place_99 : decode cX5_place 99 = .ok (.ifCond .ne 10, 3) := by decide +kernel
theorem dX5_place_102 : decode cX5_place 102 = .ok (.aload_n 0, 1) := by decide +kernel
theorem dX5_place_103 : decode cX5_place 103 = .ok (.getfield 26, 3) := by decide +kernel
theorem dX5_place_106 : decode cX5_place 106 = .ok (.invokevirtual 128, 3) := by decide +kernel
theorem dX5_place_109 : decode cX5_place 109 = .ok (.iload 5, 2) := by decide +kernel
theorem dX5_place_111 : decode cX5_place 111 = .ok (.ireturn, 1) := by decide +kernel
theorem dX5_drop_0 : decode cX5_drop 0 = .ok (.aload_n 0, 1) := by decide +kernel
theorem dX5_drop_1 : decode cX5_drop 1 = .ok (.getfield 39, 3) := by decide +kernel
theorem dX5_drop_4 : decode cX5_drop 4 = .ok (.getfield 70, 3) := by decide +kernel
theorem dX5_drop_7 : decode cX5_drop 7 = .ok (.iload_n 1, 1) := by decide +kernel
theorem dX5_drop_8 : decode cX5_drop 8 = .ok (.iload_n 2, 1) := by decide +kernel
theorem dX5_drop_9 : decode cX5_drop 9 = .ok (.invokevirtual 104, 3) := by decide +kernel
theorem dX5_drop_12 : decode cX5_drop 12 = .ok (.ifCond .ne 13, 3) := by decide +kernel
theorem dX5_drop_15 : decode cX5_drop 15 = .ok (.new 43, 3) := by decide +kernel
theorem dX5_drop_18 : decode cX5_drop 18 = .ok (.dup, 1) := by decide +kernel
theorem dX5_drop_19 : decode cX5_drop 19 = .ok (.ldc 131, 2) := by decide +kernel
theorem dX5_drop_21 : decode cX5_drop 21 = .ok (.invokespecial 47, 3) := by decide +kernel
theorem dX5_drop_24 : decode cX5_drop 24 = .ok (.athrow, 1) := by decide +kernel
theorem dX5_drop_25 : decode cX5_drop 25 = .ok (.iload_n 1, 1) := by decide +kernel
theorem dX5_drop_26 : decode cX5_drop 26 = .ok (.iload_n 2, 1) := by decide +kernel
theorem dX5_drop_27 : decode cX5_drop 27 = .ok (.invokestatic 109, 3) := by decide +kernel
theorem dX5_drop_30 : decode cX5_drop 30 = .ok (.istore_n 3, 1) := by decide +kernel
theorem dX5_drop_31 : decode cX5_drop 31 = .ok (.aload_n 0, 1) := by decide +kernel
theorem dX5_drop_32 : decode cX5_drop 32 = .ok (.getfield 39, 3) := by decide +kernel
theorem dX5_drop_35 : decode cX5_drop 35 = .ok (.iload_n 3, 1) := by decide +kernel
theorem dX5_drop_36 : decode cX5_drop 36 = .ok (.invokevirtual 112, 3) := by decide +kernel
theorem dX5_drop_39 : decode cX5_drop 39 = .ok (.ifCond .ne 13, 3) := by decide +kernel
theorem dX5_drop_42 : decode cX5_drop 42 = .ok (.new 54, 3) := by decide +kernel
theorem dX5_drop_45 : decode cX5_drop 45 = .ok (.dup, 1) := by decide +kernel
theorem dX5_drop_46 : decode cX5_drop 46 = .ok (.ldc 133, 2) := by decide +kernel
theorem dX5_drop_48 : decode cX5_drop 48 = .ok (.invokespecial 58, 3) := by decide +kernel
theorem dX5_drop_51 : decode cX5_drop 51 = .ok (.athrow, 1) := by decide +kernel
theorem dX5_drop_52 : decode cX5_drop 52 = .ok (.aload_n 0, 1) := by decide +kernel
theorem dX5_drop_53 : decode cX5_drop 53 = .ok (.getfield 39, 3) := by decide +kernel
theorem dX5_drop_56 : decode cX5_drop 56 = .ok (.iload_n 3, 1) := by decide +kernel
theorem dX5_drop_57 : decode cX5_drop 57 = .ok (.invokevirtual 135, 3) := by decide +kernel
theorem dX5_drop_60 : decode cX5_drop 60 = .ok (.istore 4, 2) := by decide +kernel
theorem dX5_drop_62 : decode cX5_drop 62 = .ok (.aload_n 0, 1) := by decide +kernel
theorem dX5_drop_63 : decode cX5_drop 63 = .ok (.getfield 26, 3) := by decide +kernel
theorem dX5_drop_66 : decode cX5_drop 66 = .ok (.aload_n 0, 1) := by decide +kernel
theorem dX5_drop_67 : decode cX5_drop 67 = .ok (.getfield 39, 3) := by decide +kernel
theorem dX5_drop_70 : decode cX5_drop 70 = .ok (.getfield 118, 3) := by decide +kernel
theorem dX5_drop_73 : decode cX5_drop 73 = .ok (.invokevirtual 121, 3) := by decide +kernel
theorem dX5_drop_76 : decode cX5_drop 76 = .ok (.aload_n 0, 1) := by decide +kernel
theorem dX5_drop_77 : decode cX5_drop 77 = .ok (.getfield 39, 3) := by decide +kernel
theorem dX5_drop_80 : decode cX5_drop 80 = .ok (.iload_n 3, 1) := by decide +kernel
theorem dX5_drop_81 : decode cX5_drop 81 = .ok (.invokevirtual 139, 3) := by decide +kernel
theorem dX5_drop_84 : decode cX5_drop 84 = .ok (.aload_n 0, 1) := by decide +kernel
theorem dX5_drop_85 : decode cX5_drop 85 = .ok (.getfield 26, 3) := by decide +kernel
theorem dX5_drop_88 : decode cX5_drop 88 = .ok (.invokevirtual 128, 3) := by decide +kernel
theorem dX5_drop_91 : decode cX5_drop 91 = .ok (.iload 4, 2) := by decide +kernel
theorem dX5_drop_93 : decode cX5_drop 93 = .ok (.ireturn, 1) := by decide +kernel
theorem dX5_fill_0 : decode cX5_fill 0 = .ok (.iload_n 1, 1) := by decide +kernel
theorem dX5_fill_1 : decode cX5_fill 1 = .ok (.iconst 1, 1) := by decide +kernel
theorem dX5_fill_2 : decode cX5_fill 2 = .ok (.sipush 20000, 3) := by decide +kernel
theorem dX5_fill_5 : decode cX5_fill 5 = .ok (.invokestatic 32, 3) := by decide +kernel
theorem dX5_fill_8 : decode cX5_fill 8 = .ok (.ifCond .ne 13, 3) := by decide +kernel
theorem dX5_fill_11 : decode cX5_fill 11 = .ok (.new 43, 3) := by decide +kernel
theorem dX5_fill_14 : decode cX5_fill 14 = .ok (.dup, 1) := by decide +kernel
theorem dX5_fill_15 : decode cX5_fill 15 = .ok (.ldc 143, 2) := by decide +kernel
theorem dX5_fill_17 : decode cX5_fill 17 = .ok (.invokespecial 47, 3) := by decide +kernel
theorem dX5_fill_20 : decode cX5_fill 20 = .ok (.athrow, 1) := by decide +kernel
theorem dX5_fill_21 : decode cX5_fill 21 = .ok (.aload_n 0, 1) := by decide +kernel
theorem dX5_fill_22 : decode cX5_fill 22 = .ok (.getfield 26, 3) := by decide +kernel
theorem dX5_fill_25 : decode cX5_fill 25 = .ok (.aload_n 0, 1) := by decide +kernel
theorem dX5_fill_26 : decode cX5_fill 26 = .ok (.getfield 39, 3) := by decide +kernel
theorem dX5_fill_29 : decode cX5_fill 29 = .ok (.getfield 118, 3) := by decide +kernel
theorem dX5_fill_32 : decode cX5_fill 32 = .ok (.invokevirtual 121, 3) := by decide +kernel
theorem dX5_fill_35 : decode cX5_fill 35 = .ok (.aload_n 0, 1) := by decide +kernel
theorem dX5_fill_36 : decode cX5_fill 36 = .ok (.getfield 12, 3) := by decide +kernel
theorem dX5_fill_39 : decode cX5_fill 39 = .ok (.aload_n 0, 1) := by decide +kernel
theorem dX5_fill_40 : decode cX5_fill 40 = .ok (.getfield 39, 3) := by decide +kernel
theorem dX5_fill_43 : decode cX5_fill 43 = .ok (.iload_n 1, 1) := by decide +kernel
theorem dX5_fill_44 : decode cX5_fill 44 = .ok (.invokevirtual 145, 3) := by decide +kernel
theorem dX5_fill_47 : decode cX5_fill 47 = .ok (.istore_n 2, 1) := by decide +kernel
theorem dX5_fill_48 : decode cX5_fill 48 = .ok (.iload_n 2, 1) := by decide +kernel
theorem dX5_fill_49 : decode cX5_fill 49 = .ok (.iconst 1, 1) := by decide +kernel
theorem dX5_fill_50 : decode cX5_fill 50 = .ok (.if_icmp .ne 20, 3) := by decide +kernel
theorem dX5_fill_53 : decode cX5_fill 53 = .ok (.aload_n 0, 1) := by decide +kernel
theorem dX5_fill_54 : decode cX5_fill 54 = .ok (.getfield 12, 3) := by decide +kernel
theorem dX5_fill_57 : decode cX5_fill 57 = .ok (.getfield 149, 3) := by decide +kernel
theorem dX5_fill_60 : decode cX5_fill 60 = .ok (.ifCond .le 10, 3) := by decide +kernel
theorem dX5_fill_63 : decode cX5_fill 63 = .ok (.aload_n 0, 1) := by decide +kernel
theorem dX5_fill_64 : decode cX5_fill 64 = .ok (.getfield 26, 3) := by decide +kernel
theorem dX5_fill_67 : decode cX5_fill 67 = .ok (.invokevirtual 128, 3) := by decide +kernel
theorem dX5_fill_70 : decode cX5_fill 70 = .ok (.iload_n 2, 1) := by decide +kernel
theorem dX5_fill_71 : decode cX5_fill 71 = .ok (.ireturn, 1) := by decide +kernel
theorem dX5_tries_0 : decode cX5_tries 0 = .ok (.aload_n 0, 1) := by decide +kernel
theorem dX5_tries_1 : decode cX5_tries 1 = .ok (.getfield 12, 3) := by decide +kernel
theorem dX5_tries_4 : decode cX5_tries 4 = .ok (.getfield 152, 3) := by decide +kernel
theorem dX5_tries_7 : decode cX5_tries 7 = .ok (.ireturn, 1) := by decide +kernel
theorem dX5_period_0 : decode cX5_period 0 = .ok (.aload_n 0, 1) := by decide +kernel
theorem dX5_period_1 : decode cX5_period 1 = .ok (.getfield 39, 3) := by decide +kernel
theorem dX5_period_4 : decode cX5_period 4 = .ok (.getfield 70, 3) := by decide +kernel
theorem dX5_period_7 : decode cX5_period 7 = .ok (.iload_n 1, 1) := by decide +kernel
theorem dX5_period_8 : decode cX5_period 8 = .ok (.iload_n 2, 1) := by decide +kernel
theorem dX5_period_9 : decode cX5_period 9 = .ok (.invokevirtual 104, 3) := by decide +kernel
theorem dX5_period_12 : decode cX5_period 12 = .ok (.ifCond .ne 13, 3) := by decide +kernel
theorem dX5_period_15 : decode cX5_period 15 = .ok (.new 43, 3) := by decide +kernel
theorem dX5_period_18 : decode cX5_period 18 = .ok (.dup, 1) := by decide +kernel
theorem dX5_period_19 : decode cX5_period 19 = .ok (.ldc 131, 2) := by decide +kernel
theorem dX5_period_21 : decode cX5_period 21 = .ok (.invokespecial 47, 3) := by decide +kernel
theorem dX5_period_24 : decode cX5_period 24 = .ok (.athrow, 1) := by decide +kernel
theorem dX5_period_25 : decode cX5_period 25 = .ok (.aload_n 0, 1) := by decide +kernel
theorem dX5_period_26 : decode cX5_period 26 = .ok (.getfield 39, 3) := by decide +kernel
theorem dX5_period_29 : decode cX5_period 29 = .ok (.iload_n 1, 1) := by decide +kernel
theorem dX5_period_30 : decode cX5_period 30 = .ok (.iload_n 2, 1) := by decide +kernel
theorem dX5_period_31 : decode cX5_period 31 = .ok (.invokestatic 109, 3) := by decide +kernel
theorem dX5_period_34 : decode cX5_period 34 = .ok (.invokevirtual 135, 3) := by decide +kernel
theorem dX5_period_37 : decode cX5_period 37 = .ok (.ireturn, 1) := by decide +kernel
theorem dX5_roomOf_0 : decode cX5_roomOf 0 = .ok (.aload_n 0, 1) := by decide +kernel
theorem dX5_roomOf_1 : decode cX5_roomOf 1 = .ok (.getfield 39, 3) := by decide +kernel
theorem dX5_roomOf_4 : decode cX5_roomOf 4 = .ok (.getfield 70, 3) := by decide +kernel
theorem dX5_roomOf_7 : decode cX5_roomOf 7 = .ok (.iload_n 1, 1) := by decide +kernel
theorem dX5_roomOf_8 : decode cX5_roomOf 8 = .ok (.iload_n 2, 1) := by decide +kernel
theorem dX5_roomOf_9 : decode cX5_roomOf 9 = .ok (.invokevirtual 104, 3) := by decide +kernel
theorem dX5_roomOf_12 : decode cX5_roomOf 12 = .ok (.ifCond .ne 13, 3) := by decide +kernel
theorem dX5_roomOf_15 : decode cX5_roomOf 15 = .ok (.new 43, 3) := by decide +kernel
theorem dX5_roomOf_18 : decode cX5_roomOf 18 = .ok (.dup, 1) := by decide +kernel
theorem dX5_roomOf_19 : decode cX5_roomOf 19 = .ok (.ldc 131, 2) := by decide +kernel
theorem dX5_roomOf_21 : decode cX5_roomOf 21 = .ok (.invokespecial 47, 3) := by decide +kernel
theorem dX5_roomOf_24 : decode cX5_roomOf 24 = .ok (.athrow, 1) := by decide +kernel
theorem dX5_roomOf_25 : decode cX5_roomOf 25 = .ok (.aload_n 0, 1) := by decide +kernel
theorem dX5_roomOf_26 : decode cX5_roomOf 26 = .ok (.getfield 39, 3) := by decide +kernel
theorem dX5_roomOf_29 : decode cX5_roomOf 29 = .ok (.iload_n 1, 1) := by decide +kernel
