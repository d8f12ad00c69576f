theorem dX0_init_0 : decode cX0_init 0 = .ok (.aload_n 0, 1) := by decide +kernel
theorem dX0_init_1 : decode cX0_init 1 = .ok (.invokespecial 3, 3) := by decide +kernel
theorem dX0_init_4 : decode cX0_init 4 = .ok (.aload_n 0, 1) := by decide +kernel
theorem dX0_init_5 : decode cX0_init 5 = .ok (.new 9, 3) := by decide +kernel
theorem dX0_init_8 : decode cX0_init 8 = .ok (.dup, 1) := by decide +kernel
theorem dX0_init_9 : decode cX0_init 9 = .ok (.invokespecial 11, 3) := by decide +kernel
theorem dX0_init_12 : decode cX0_init 12 = .ok (.putfield 12, 3) := by decide +kernel
theorem dX0_init_15 : decode cX0_init 15 = .ok (.aload_n 0, 1) := by decide +kernel
theorem dX0_init_16 : decode cX0_init 16 = .ok (.bipush 6, 2) := by decide +kernel
theorem dX0_init_18 : decode cX0_init 18 = .ok (.newarray .int, 2) := by decide +kernel
theorem dX0_init_20 : decode cX0_init 20 = .ok (.putfield 18, 3) := by decide +kernel
theorem dX0_init_23 : decode cX0_init 23 = .ok (.aload_n 0, 1) := by decide +kernel
theorem dX0_init_24 : decode cX0_init 24 = .ok (.bipush 22, 2) := by decide +kernel
theorem dX0_init_26 : decode cX0_init 26 = .ok (.newarray .int, 2) := by decide +kernel
theorem dX0_init_28 : decode cX0_init 28 = .ok (.putfield 22, 3) := by decide +kernel
theorem dX0_init_31 : decode cX0_init 31 = .ok (.aload_n 0, 1) := by decide +kernel
theorem dX0_init_32 : decode cX0_init 32 = .ok (.bipush 22, 2) := by decide +kernel
theorem dX0_init_34 : decode cX0_init 34 = .ok (.newarray .int, 2) := by decide +kernel
theorem dX0_init_36 : decode cX0_init 36 = .ok (.putfield 25, 3) := by decide +kernel
theorem dX0_init_39 : decode cX0_init 39 = .ok (.aload_n 0, 1) := by decide +kernel
theorem dX0_init_40 : decode cX0_init 40 = .ok (.bipush 64, 2) := by decide +kernel
theorem dX0_init_42 : decode cX0_init 42 = .ok (.newarray .int, 2) := by decide +kernel
theorem dX0_init_44 : decode cX0_init 44 = .ok (.putfield 28, 3) := by decide +kernel
theorem dX0_init_47 : decode cX0_init 47 = .ok (.aload_n 0, 1) := by decide +kernel
theorem dX0_init_48 : decode cX0_init 48 = .ok (.iload_n 1, 1) := by decide +kernel
theorem dX0_init_49 : decode cX0_init 49 = .ok (.putfield 31, 3) := by decide +kernel
theorem dX0_init_52 : decode cX0_init 52 = .ok (.aload_n 0, 1) := by decide +kernel
theorem dX0_init_53 : decode cX0_init 53 = .ok (.iload_n 2, 1) := by decide +kernel
theorem dX0_init_54 : decode cX0_init 54 = .ok (.putfield 35, 3) := by decide +kernel
theorem dX0_init_57 : decode cX0_init 57 = .ok (.aload_n 0, 1) := by decide +kernel
theorem dX0_init_58 : decode cX0_init 58 = .ok (.iload_n 1, 1) := by decide +kernel
theorem dX0_init_59 : decode cX0_init 59 = .ok (.iload_n 2, 1) := by decide +kernel
theorem dX0_init_60 : decode cX0_init 60 = .ok (.imul, 1) := by decide +kernel
theorem dX0_init_61 : decode cX0_init 61 = .ok (.putfield 38, 3) := by decide +kernel
theorem dX0_init_64 : decode cX0_init 64 = .ok (.iconst 0, 1) := by decide +kernel
theorem dX0_init_65 : decode cX0_init 65 = .ok (.istore_n 3, 1) := by decide +kernel
theorem dX0_init_66 : decode cX0_init 66 = .ok (.iconst 0, 1) := by decide +kernel
theorem dX0_init_67 : decode cX0_init 67 = .ok (.istore 4, 2) := by decide +kernel
theorem dX0_init_69 : decode cX0_init 69 = .ok (.iload 4, 2) := by decide +kernel
theorem dX0_init_71 : decode cX0_init 71 = .ok (.iload_n 1, 1) := by decide +kernel
theorem dX0_init_72 : decode cX0_init 72 = .ok (.if_icmp .ge 18, 3) := by decide +kernel
theorem dX0_init_75 : decode cX0_init 75 = .ok (.iload_n 3, 1) := by decide +kernel
theorem dX0_init_76 : decode cX0_init 76 = .ok (.iconst 1, 1) := by decide +kernel
theorem dX0_init_77 : decode cX0_init 77 = .ok (.iload 4, 2) := by decide +kernel
theorem dX0_init_79 : decode cX0_init 79 = .ok (.iload_n 2, 1) := by decide +kernel
theorem dX0_init_80 : decode cX0_init 80 = .ok (.imul, 1) := by decide +kernel
theorem dX0_init_81 : decode cX0_init 81 = .ok (.ishl, 1) := by decide +kernel
theorem dX0_init_82 : decode cX0_init 82 = .ok (.ior, 1) := by decide +kernel
theorem dX0_init_83 : decode cX0_init 83 = .ok (.istore_n 3, 1) := by decide +kernel
theorem dX0_init_84 : decode cX0_init 84 = .ok (.iinc 4 1, 3) := by decide +kernel
theorem dX0_init_87 : decode cX0_init 87 = .ok (.goto (-18), 3) := by decide +kernel
theorem dX0_init_90 : decode cX0_init 90 = .ok (.aload_n 0, 1) := by decide +kernel
theorem dX0_init_91 : decode cX0_init 91 = .ok (.iload_n 3, 1) := by decide +kernel
theorem dX0_init_92 : decode cX0_init 92 = .ok (.putfield 41, 3) := by decide +kernel
theorem dX0_init_95 : decode cX0_init 95 = .ok (.aload_n 0, 1) := by decide +kernel
theorem dX0_init_96 : decode cX0_init 96 = .ok (.iload_n 3, 1) := by decide +kernel
theorem dX0_init_97 : decode cX0_init 97 = .ok (.iload_n 2, 1) := by decide +kernel
theorem dX0_init_98 : decode cX0_init 98 = .ok (.iconst 1, 1) := by decide +kernel
theorem dX0_init_99 : decode cX0_init 99 = .ok (.isub, 1) := by decide +kernel
theorem dX0_init_100 : decode cX0_init 100 = .ok (.ishl, 1) := by decide +kernel
theorem dX0_init_101 : decode cX0_init 101 = .ok (.putfield 44, 3) := by decide +kernel
theorem dX0_init_104 : decode cX0_init 104 = .ok (.aload_n 0, 1) := by decide +kernel
theorem dX0_init_105 : decode cX0_init 105 = .ok (.getfield 28, 3) := by decide +kernel
theorem dX0_init_108 : decode cX0_init 108 = .ok (.iconst (-1), 1) := by decide +kernel
theorem dX0_init_109 : decode cX0_init 109 = .ok (.invokestatic 47, 3) := by decide +kernel
theorem dX0_init_112 : decode cX0_init 112 = .ok (.return_, 1) := by decide +kernel
theorem dX0_isPlaced_0 : decode cX0_isPlaced 0 = .ok (.aload_n 0, 1) := by decide +kernel
theorem dX0_isPlaced_1 : decode cX0_isPlaced 1 = .ok (.getfield 28, 3) := by decide +kernel
theorem dX0_isPlaced_4 : decode cX0_isPlaced 4 = .ok (.iload_n 1, 1) := by decide +kernel
theorem dX0_isPlaced_5 : decode cX0_isPlaced 5 = .ok (.iaload, 1) := by decide +kernel
theorem dX0_isPlaced_6 : decode cX0_isPlaced 6 = .ok (.iconst (-1), 1) := by decide +kernel
theorem dX0_isPlaced_7 : decode cX0_isPlaced 7 = .ok (.if_icmp .eq 7, 3) := by decide +kernel
theorem dX0_isPlaced_10 : decode cX0_isPlaced 10 = .ok (.iconst 1, 1) := by decide +kernel
theorem dX0_isPlaced_11 : decode cX0_isPlaced 11 = .ok (.goto 4, 3) := by decide +kernel
theorem dX0_isPlaced_14 : decode cX0_isPlaced 14 = .ok (.iconst 0, 1) := by decide +kernel
theorem dX0_isPlaced_15 : decode cX0_isPlaced 15 = .ok (.ireturn, 1) := by decide +kernel
theorem dX0_periodOfItem_0 : decode cX0_periodOfItem 0 = .ok (.aload_n 0, 1) := by decide +kernel
theorem dX0_periodOfItem_1 : decode cX0_periodOfItem 1 = .ok (.iload_n 1, 1) := by decide +kernel
theorem dX0_periodOfItem_2 : decode cX0_periodOfItem 2 = .ok (.invokevirtual 53, 3) := by decide +kernel
theorem dX0_periodOfItem_5 : decode cX0_periodOfItem 5 = .ok (.ifCond .eq 15, 3) := by decide +kernel
theorem dX0_periodOfItem_8 : decode cX0_periodOfItem 8 = .ok (.aload_n 0, 1) := by decide +kernel
theorem dX0_periodOfItem_9 : decode cX0_periodOfItem 9 = .ok (.getfield 28, 3) := by decide +kernel
theorem dX0_periodOfItem_12 : decode cX0_periodOfItem 12 = .ok (.iload_n 1, 1) := by decide +kernel
theorem dX0_periodOfItem_13 : decode cX0_periodOfItem 13 = .ok (.iaload, 1) := by decide +kernel
theorem dX0_periodOfItem_14 : decode cX0_periodOfItem 14 = .ok (.bipush 6, 2) := by decide +kernel
theorem dX0_periodOfItem_16 : decode cX0_periodOfItem 16 = .ok (.idiv, 1) := by decide +kernel
theorem dX0_periodOfItem_17 : decode cX0_periodOfItem 17 = .ok (.goto 4, 3) := by decide +kernel
theorem dX0_periodOfItem_20 : decode cX0_periodOfItem 20 = .ok (.iconst (-1), 1) := by decide +kernel
theorem dX0_periodOfItem_21 : decode cX0_periodOfItem 21 = .ok (.ireturn, 1) := by decide +kernel
theorem dX0_roomOfItem_0 : decode cX0_roomOfItem 0 = .ok (.aload_n 0, 1) := by decide +kernel
theorem dX0_roomOfItem_1 : decode cX0_roomOfItem 1 = .ok (.iload_n 1, 1) := by decide +kernel
theorem dX0_roomOfItem_2 : decode cX0_roomOfItem 2 = .ok (.invokevirtual 53, 3) := by decide +kernel
theorem dX0_roomOfItem_5 : decode cX0_roomOfItem 5 = .ok (.ifCond .eq 15, 3) := by decide +kernel
theorem dX0_roomOfItem_8 : decode cX0_roomOfItem 8 = .ok (.aload_n 0, 1) := by decide +kernel
theorem dX0_roomOfItem_9 : decode cX0_roomOfItem 9 = .ok (.getfield 28, 3) := by decide +kernel
theorem dX0_roomOfItem_12 : decode cX0_roomOfItem 12 = .ok (.iload_n 1, 1) := by decide +kernel
theorem dX0_roomOfItem_13 : decode cX0_roomOfItem 13 = .ok (.iaload, 1) := by decide +kernel
theorem dX0_roomOfItem_14 : decode cX0_roomOfItem 14 = .ok (.bipush 6, 2) := by decide +kernel
theorem dX0_roomOfItem_16 : decode cX0_roomOfItem 16 = .ok (.irem, 1) := by decide +kernel
theorem dX0_roomOfItem_17 : decode cX0_roomOfItem 17 = .ok (.goto 4, 3) := by decide +kernel
theorem dX0_roomOfItem_20 : decode cX0_roomOfItem 20 = .ok (.iconst (-1), 1) := by decide +kernel
theorem dX0_roomOfItem_21 : decode cX0_roomOfItem 21 = .ok (.ireturn, 1) := by decide +kernel
theorem dX0_bitsOfItem_0 : decode cX0_bitsOfItem 0 = .ok (.aload_n 0, 1) := by decide +kernel
theorem dX0_bitsOfItem_1 : decode cX0_bitsOfItem 1 = .ok (.iload_n 1, 1) := by decide +kernel
theorem dX0_bitsOfItem_2 : decode cX0_bitsOfItem 2 = .ok (.invokevirtual 53, 3) := by decide +kernel
theorem dX0_bitsOfItem_5 : decode cX0_bitsOfItem 5 = .ok (.ifCond .eq 26, 3) := by decide +kernel
theorem dX0_bitsOfItem_8 : decode cX0_bitsOfItem 8 = .ok (.aload_n 0, 1) := by decide +kernel
theorem dX0_bitsOfItem_9 : decode cX0_bitsOfItem 9 = .ok (.getfield 12, 3) := by decide +kernel
theorem dX0_bitsOfItem_12 : decode cX0_bitsOfItem 12 = .ok (.iload_n 1, 1) := by decide +kernel
theorem dX0_bitsOfItem_13 : decode cX0_bitsOfItem 13 = .ok (.invokestatic 57, 3) := by decide +kernel
theorem dX0_bitsOfItem_16 : decode cX0_bitsOfItem 16 = .ok (.aload_n 0, 1) := by decide +kernel
theorem dX0_bitsOfItem_17 : decode cX0_bitsOfItem 17 = .ok (.getfield 28, 3) := by decide +kernel
theorem dX0_bitsOfItem_20 : decode cX0_bitsOfItem 20 = .ok (.iload_n 1, 1) := by decide +kernel
theorem dX0_bitsOfItem_21 : decode cX0_bitsOfItem 21 = .ok (.iaload, 1) := by decide +kernel
theorem dX0_bitsOfItem_22 : decode cX0_bitsOfItem 22 = .ok (.bipush 6, 2) := by decide +kernel
theorem dX0_bitsOfItem_24 : decode cX0_bitsOfItem 24 = .ok (.idiv, 1) := by decide +kernel
theorem dX0_bitsOfItem_25 : decode cX0_bitsOfItem 25 = .ok (.invokevirtual 61, 3) := by decide +kernel
theorem dX0_bitsOfItem_28 : decode cX0_bitsOfItem 28 = .ok (.goto 4, 3) := by decide +kernel
theorem dX0_bitsOfItem_31 : decode cX0_bitsOfItem 31 = .ok (.iconst 0, 1) := by decide +kernel
theorem dX0_bitsOfItem_32 : decode cX0_bitsOfItem 32 = .ok (.ireturn, 1) := by decide +kernel
theorem dX0_isOnDay_0 : decode cX0_isOnDay 0 = .ok (.aload_n 0, 1) := by decide +kernel
theorem dX0_isOnDay_1 : decode cX0_isOnDay 1 = .ok (.getfield 28, 3) := by decide +kernel
theorem dX0_isOnDay_4 : decode cX0_isOnDay 4 = .ok (.iload_n 1, 1) := by decide +kernel
theorem dX0_isOnDay_5 : decode cX0_isOnDay 5 = .ok (.iaload, 1) := by decide +kernel
theorem dX0_isOnDay_6 : decode cX0_isOnDay 6 = .ok (.iconst (-1), 1) := by decide +kernel
theorem dX0_isOnDay_7 : decode cX0_isOnDay 7 = .ok (.if_icmp .eq 25, 3) := by decide +kernel
theorem dX0_isOnDay_10 : decode cX0_isOnDay 10 = .ok (.aload_n 0, 1) := by decide +kernel
theorem dX0_isOnDay_11 : decode cX0_isOnDay 11 = .ok (.getfield 28, 3) := by decide +kernel
theorem dX0_isOnDay_14 : decode cX0_isOnDay 14 = .ok (.iload_n 1, 1) := by decide +kernel
theorem dX0_isOnDay_15 : decode cX0_isOnDay 15 = .ok (.iaload, 1) := by decide +kernel
theorem dX0_isOnDay_16 : decode cX0_isOnDay 16 = .ok (.bipush 6, 2) := by decide +kernel
theorem dX0_isOnDay_18 : decode cX0_isOnDay 18 = .ok (.idiv, 1) := by decide +kernel
theorem dX0_isOnDay_19 : decode cX0_isOnDay 19 = .ok (.aload_n 0, 1) := by decide +kernel
theorem dX0_isOnDay_20 : decode cX0_isOnDay 20 = .ok (.getfield 35, 3) := by decide +kernel
theorem dX0_isOnDay_23 : decode cX0_isOnDay 23 = .ok (.idiv, 1) := by decide +kernel
theorem dX0_isOnDay_24 : decode cX0_isOnDay 24 = .ok (.iload_n 2, 1) := by decide +kernel
theorem dX0_isOnDay_25 : decode cX0_isOnDay 25 = .ok (.if_icmp .ne 7, 3) := by decide +kernel
theorem dX0_isOnDay_28 : decode cX0_isOnDay 28 = .ok (.iconst 1, 1) := by decide +kernel
theorem dX0_isOnDay_29 : decode cX0_isOnDay 29 = .ok (.goto 4, 3) := by decide +kernel
theorem dX0_isOnDay_32 : decode cX0_isOnDay 32 = .ok (.iconst 0, 1) := by decide +kernel
theorem dX0_isOnDay_33 : decode cX0_isOnDay 33 = .ok (.ireturn, 1) := by decide +kernel
theorem dX0_putAt_0 : decode cX0_putAt 0 = .ok (.aload_n 0, 1) := by decide +kernel
theorem dX0_putAt_1 : decode cX0_putAt 1 = .ok (.getfield 28, 3) := by decide +kernel
theorem dX0_putAt_4 : decode cX0_putAt 4 = .ok (.iload_n 1, 1) := by decide +kernel
theorem dX0_putAt_5 : decode cX0_putAt 5 = .ok (.iload_n 2, 1) := by decide +kernel
theorem dX0_putAt_6 : decode cX0_putAt 6 = .ok (.iastore, 1) := by decide +kernel
theorem dX0_putAt_7 : decode cX0_putAt 7 = .ok (.aload_n 0, 1) := by decide +kernel
theorem dX0_putAt_8 : decode cX0_putAt 8 = .ok (.iload_n 1, 1) := by decide +kernel
theorem dX0_putAt_9 : decode cX0_putAt 9 = .ok (.invokevirtual 65, 3) := by decide +kernel
theorem dX0_putAt_12 : decode cX0_putAt 12 = .ok (.return_, 1) := by decide +kernel
theorem dX0_mark_0 : decode cX0_mark 0 = .ok (.iload_n 1, 1) := by decide +kernel
theorem dX0_mark_1 : decode cX0_mark 1 = .ok (.invokestatic 57, 3) := by decide +kernel
theorem dX0_mark_4 : decode cX0_mark 4 = .ok (.istore_n 2, 1) := by decide +kernel
theorem dX0_mark_5 : decode cX0_mark 5 = .ok (.aload_n 0, 1) := by decide +kernel
theorem dX0_mark_6 : decode cX0_mark 6 = .ok (.getfield 12, 3) := by decide +kernel
theorem dX0_mark_9 : decode cX0_mark 9 = .ok (.iload_n 2, 1) := by decide +kernel
theorem dX0_mark_10 : decode cX0_mark 10 = .ok (.aload_n 0, 1) := by decide +kernel
theorem dX0_mark_11 : decode cX0_mark 11 = .ok (.getfield 28, 3) := by decide +kernel
theorem dX0_mark_14 : decode cX0_mark 14 = .ok (.iload_n 1, 1) := by decide +kernel
theorem dX0_mark_15 : decode cX0_mark 15 = .ok (.iaload, 1) := by decide +kernel
theorem dX0_mark_16 : decode cX0_mark 16 = .ok (.bipush 6, 2) := by decide +kernel
theorem dX0_mark_18 : decode cX0_mark 18 = .ok (.idiv, 1) := by decide +kernel
theorem dX0_mark_19 : decode cX0_mark 19 = .ok (.invokevirtual 61, 3) := by decide +kernel
theorem dX0_mark_22 : decode cX0_mark 22 = .ok (.istore_n 3, 1) := by decide +kernel
theorem dX0_mark_23 : decode cX0_mark 23 = .ok (.aload_n 0, 1) := by decide +kernel
theorem dX0_mark_24 : decode cX0_mark 24 = .ok (.getfield 25, 3) := by decide +kernel
theorem dX0_mark_27 : decode cX0_mark 27 = .ok (.bipush 16, 2) := by decide +kernel
theorem dX0_mark_29 : decode cX0_mark 29 = .ok (.aload_n 0, 1) := by decide +kernel
theorem dX0_mark_30 : decode cX0_mark 30 = .ok (.getfield 28, 3) := by decide +kernel
theorem dX0_mark_33 : decode cX0_mark 33 = .ok (.iload_n 1, 1) := by decide +kernel
theorem dX0_mark_34 : decode cX0_mark 34 = .ok (.iaload, 1) := by decide +kernel
theorem dX0_mark_35 : decode cX0_mark 35 = .ok (.bipush 6, 2) := by decide +kernel
theorem dX0_mark_37 : decode cX0_mark 37 = .ok (.irem, 1) := by decide +kernel
theorem dX0_mark_38 : decode cX0_mark 38 = .ok (.iadd, 1) := by decide +kernel
theorem dX0_mark_39 : decode cX0_mark 39 = .ok (.dup2, 1) := by decide +kernel
theorem dX0_mark_40 : decode cX0_mark 40 = .ok (.iaload, 1) := by decide +kernel
theorem dX0_mark_41 : decode cX0_mark 41 = .ok (.iload_n 3, 1) := by decide +kernel
theorem dX0_mark_42 : decode cX0_mark 42 = .ok (.ior, 1) := by decide +kernel
theorem dX0_mark_43 : decode cX0_mark 43 = .ok (.iastore, 1) := by decide +kernel
theorem dX0_mark_44 : decode cX0_mark 44 = .ok (.aload_n 0, 1) := by decide +kernel
theorem dX0_mark_45 : decode cX0_mark 45 = .ok (.getfield 25, 3) := by decide +kernel
theorem dX0_mark_48 : decode cX0_mark 48 = .ok (.bipush 8, 2) := by decide +kernel
theorem dX0_mark_50 : decode cX0_mark 50 = .ok (.aload_n 0, 1) := by decide +kernel
theorem dX0_mark_51 : decode cX0_mark 51 = .ok (.getfield 12, 3) := by decide +kernel
theorem dX0_mark_54 : decode cX0_mark 54 = .ok (.getfield 69, 3) := by decide +kernel
theorem dX0_mark_57 : decode cX0_mark 57 = .ok (.iload_n 2, 1) := by decide +kernel
theorem dX0_mark_58 : decode cX0_mark 58 = .ok (.iaload, 1) := by decide +kernel
theorem dX0_mark_59 : decode cX0_mark 59 = .ok (.iadd, 1) := by decide +kernel
theorem dX0_mark_60 : decode cX0_mark 60 = .ok (.dup2, 1) := by decide +kernel
theorem dX0_mark_61 : decode cX0_mark 61 = .ok (.iaload, 1) := by decide +kernel
theorem dX0_mark_62 : decode cX0_mark 62 = .ok (.iload_n 3, 1) := by decide +kernel
theorem dX0_mark_63 : decode cX0_mark 63 = .ok (.ior, 1) := by decide +kernel
theorem dX0_mark_64 : decode cX0_mark 64 = .ok (.iastore, 1) := by decide +kernel
theorem dX0_mark_65 : decode cX0_mark 65 = .ok (.aload_n 0, 1) := by decide +kernel
theorem dX0_mark_66 : decode cX0_mark 66 = .ok (.getfield 25, 3) := by decide +kernel
theorem dX0_mark_69 : decode cX0_mark 69 = .ok (.aload_n 0, 1) := by decide +kernel
theorem dX0_mark_70 : decode cX0_mark 70 = .ok (.getfield 12, 3) := by decide +kernel
theorem dX0_mark_73 : decode cX0_mark 73 = .ok (.getfield 72, 3) := by decide +kernel
theorem dX0_mark_76 : decode cX0_mark 76 = .ok (.iload_n 2, 1) := by decide +kernel
theorem dX0_mark_77 : decode cX0_mark 77 = .ok (.iaload, 1) := by decide +kernel
theorem dX0_mark_78 : decode cX0_mark 78 = .ok (.dup2, 1) := by decide +kernel
theorem dX0_mark_79 : decode cX0_mark 79 = .ok (.iaload, 1) := by decide +kernel
theorem dX0_mark_80 : decode cX0_mark 80 = .ok (.iload_n 3, 1) := by decide +kernel
theorem dX0_mark_81 : decode cX0_mark 81 = .ok (.ior, 1) := by decide +kernel
theorem dX0_mark_82 : decode cX0_mark 82 = .ok (.iastore, 1) := by decide +kernel
theorem dX0_mark_83 : decode cX0_mark 83 = .ok (.aload_n 0, 1) := by decide +kernel
theorem dX0_mark_84 : decode cX0_mark 84 = .ok (.getfield 12, 3) := by decide +kernel
theorem dX0_mark_87 : decode cX0_mark 87 = .ok (.getfield 75, 3) := by decide +kernel
theorem dX0_mark_90 : decode cX0_mark 90 = .ok (.iload_n 2, 1) := by decide +kernel
theorem dX0_mark_91 : decode cX0_mark 91 = .ok (.iaload, 1) := by decide +kernel
theorem dX0_mark_92 : decode cX0_mark 92 = .ok (.iconst (-1), 1) := by decide +kernel
theorem dX0_mark_93 : decode cX0_mark 93 = .ok (.if_icmp .eq 21, 3) := by decide +kernel
theorem dX0_mark_96 : decode cX0_mark 96 = .ok (.aload_n 0, 1) := by decide +kernel
theorem dX0_mark_97 : decode cX0_mark 97 = .ok (.getfield 25, 3) := by decide +kernel
theorem dX0_mark_100 : decode cX0_mark 100 = .ok (.aload_n 0, 1) := by decide +kernel
theorem dX0_mark_101 : decode cX0_mark 101 = .ok (.getfield 12, 3) := by decide +kernel
theorem dX0_mark_104 : decode cX0_mark 104 = .ok (.getfield 75, 3) := by decide +kernel
theorem dX0_mark_107 : decode cX0_mark 107 = .ok (.iload_n 2, 1) := by decide +kernel
theorem dX0_mark_108 : decode cX0_mark 108 = .ok (.iaload, 1) := by decide +kernel
theorem dX0_mark_109 : decode cX0_mark 109 = .ok (.dup2, 1) := by decide +kernel
theorem dX0_mark_110 : decode cX0_mark 110 = .ok (.iaload, 1) := by decide +kernel
theorem dX0_mark_111 : decode cX0_mark 111 = .ok (.iload_n 3, 1) := by decide +kernel
theorem dX0_mark_112 : decode cX0_mark 112 = .ok (.ior, 1) := by decide +kernel
theorem dX0_mark_113 : decode cX0_mark 113 = .ok (.iastore, 1) := by decide +kernel
theorem dX0_mark_114 : decode cX0_mark 114 = .ok (.return_, 1) := by decide +kernel
theorem dX0_takeOut_0 : decode cX0_takeOut 0 = .ok (.iload_n 1, 1) := by decide +kernel
theorem dX0_takeOut_1 : decode cX0_takeOut 1 = .ok (.invokestatic 57, 3) := by decide +kernel
theorem dX0_takeOut_4 : decode cX0_takeOut 4 = .ok (.istore_n 2, 1) := by decide +kernel
theorem dX0_takeOut_5 : decode cX0_takeOut 5 = .ok (.aload_n 0, 1) := by decide +kernel
theorem dX0_takeOut_6 : decode cX0_takeOut 6 = .ok (.getfield 12, 3) := by decide +kernel
theorem dX0_takeOut_9 : decode cX0_takeOut 9 = .ok (.iload_n 2, 1) := by decide +kernel
theorem dX0_takeOut_10 : decode cX0_takeOut 10 = .ok (.aload_n 0, 1) := by decide +kernel
theorem dX0_takeOut_11 : decode cX0_takeOut 11 = .ok (.getfield 28, 3) := by decide +kernel
theorem dX0_takeOut_14 : decode cX0_takeOut 14 = .ok (.iload_n 1, 1) := by decide +kernel
theorem dX0_takeOut_15 : decode cX0_takeOut 15 = .ok (.iaload, 1) := by decide +kernel
theorem dX0_takeOut_16 : decode cX0_takeOut 16 = .ok (.bipush 6, 2) := by decide +kernel
theorem dX0_takeOut_18 : decode cX0_takeOut 18 = .ok (.idiv, 1) := by decide +kernel
theorem dX0_takeOut_19 : decode cX0_takeOut 19 = .ok (.invokevirtual 61, 3) := by decide +kernel
theorem dX0_takeOut_22 : decode cX0_takeOut 22 = .ok (.iconst (-1), 1) := by decide +kernel
theorem dX0_takeOut_23 : decode cX0_takeOut 23 = .ok (.ixor, 1) := by decide +kernel
theorem dX0_takeOut_24 : decode cX0_takeOut 24 = .ok (.istore_n 3, 1) := by decide +kernel
theorem dX0_takeOut_25 : decode cX0_takeOut 25 = .ok (.aload_n 0, 1) := by decide +kernel
theorem dX0_takeOut_26 : decode cX0_takeOut 26 = .ok (.getfield 25, 3) := by decide +kernel
theorem dX0_takeOut_29 : decode cX0_takeOut 29 = .ok (.bipush 16, 2) := by decide +kernel
theorem dX0_takeOut_31 : decode cX0_takeOut 31 = .ok (.aload_n 0, 1) := by decide +kernel
theorem dX0_takeOut_32 : decode cX0_takeOut 32 = .ok (.getfield 28, 3) := by decide +kernel
theorem dX0_takeOut_35 : decode cX0_takeOut 35 = .ok (.iload_n 1, 1) := by decide +kernel
theorem dX0_takeOut_36 : decode cX0_takeOut 36 = .ok (.iaload, 1) := by decide +kernel
theorem dX0_takeOut_37 : decode cX0_takeOut 37 = .ok (.bipush 6, 2) := by decide +kernel
theorem dX0_takeOut_39 : decode cX0_takeOut 39 = .ok (.irem, 1) := by decide +kernel
theorem dX0_takeOut_40 : decode cX0_takeOut 40 = .ok (.iadd, 1) := by decide +kernel
theorem dX0_takeOut_41 : decode cX0_takeOut 41 = .ok (.dup2, 1) := by decide +kernel
theorem dX0_takeOut_42 : decode cX0_takeOut 42 = .ok (.iaload, 1) := by decide +kernel
theorem dX0_takeOut_43 : decode cX0_takeOut 43 = .ok (.iload_n 3, 1) := by decide +kernel
theorem dX0_takeOut_44 : decode cX0_takeOut 44 = .ok (.iand, 1) := by decide +kernel
theorem dX0_takeOut_45 : decode cX0_takeOut 45 = .ok (.iastore, 1) := by decide +kernel
theorem dX0_takeOut_46 : decode cX0_takeOut 46 = .ok (.aload_n 0, 1) := by decide +kernel
theorem dX0_takeOut_47 : decode cX0_takeOut 47 = .ok (.getfield 25, 3) := by decide +kernel
theorem dX0_takeOut_50 : decode cX0_takeOut 50 = .ok (.bipush 8, 2) := by decide +kernel
theorem dX0_takeOut_52 : decode cX0_takeOut 52 = .ok (.aload_n 0, 1) := by decide +kernel
theorem dX0_takeOut_53 : decode cX0_takeOut 53 = .ok (.getfield 12, 3) := by decide +kernel
theorem dX0_takeOut_56 : decode cX0_takeOut 56 = .ok (.getfield 69, 3) := by decide +kernel
theorem dX0_takeOut_59 : decode cX0_takeOut 59 = .ok (.iload_n 2, 1) := by decide +kernel
theorem dX0_takeOut_60 : decode cX0_takeOut 60 = .ok (.iaload, 1) := by decide +kernel
theorem dX0_takeOut_61 : decode cX0_takeOut 61 = .ok (.iadd, 1) := by decide +kernel
theorem dX0_takeOut_62 : decode cX0_takeOut 62 = .ok (.dup2, 1) := by decide +kernel
theorem dX0_takeOut_63 : decode cX0_takeOut 63 = .ok (.iaload, 1) := by decide +kernel
theorem dX0_takeOut_64 : decode cX0_takeOut 64 = .ok (.iload_n 3, 1) := by decide +kernel
theorem dX0_takeOut_65 : decode cX0_takeOut 65 = .ok (.iand, 1) := by decide +kernel
theorem dX0_takeOut_66 : decode cX0_takeOut 66 = .ok (.iastore, 1) := by decide +kernel
theorem dX0_takeOut_67 : decode cX0_takeOut 67 = .ok (.aload_n 0, 1) := by decide +kernel
theorem dX0_takeOut_68 : decode cX0_takeOut 68 = .ok (.getfield 25, 3) := by decide +kernel
theorem dX0_takeOut_71 : decode cX0_takeOut 71 = .ok (.aload_n 0, 1) := by decide +kernel
theorem dX0_takeOut_72 : decode cX0_takeOut 72 = .ok (.getfield 12, 3) := by decide +kernel
theorem dX0_takeOut_75 : decode cX0_takeOut 75 = .ok (.getfield 72, 3) := by decide +kernel
theorem dX0_takeOut_78 : decode cX0_takeOut 78 = .ok (.iload_n 2, 1) := by decide +kernel
theorem dX0_takeOut_79 : decode cX0_takeOut 79 = .ok (.iaload, 1) := by decide +kernel
theorem dX0_takeOut_80 : decode cX0_takeOut 80 = .ok (.dup2, 1) := by decide +kernel
theorem dX0_takeOut_81 : decode cX0_takeOut 81 = .ok (.iaload, 1) := by decide +kernel
theorem dX0_takeOut_82 : decode cX0_takeOut 82 = .ok (.iload_n 3, 1) := by decide +kernel
theorem dX0_takeOut_83 : decode cX0_takeOut 83 = .ok (.iand, 1) := by decide +kernel
theorem dX0_takeOut_84 : decode cX0_takeOut 84 = .ok (.iastore, 1) := by decide +kernel
theorem dX0_takeOut_85 : decode cX0_takeOut 85 = .ok (.aload_n 0, 1) := by decide +kernel
theorem dX0_takeOut_86 : decode cX0_takeOut 86 = .ok (.getfield 12, 3) := by decide +kernel
theorem dX0_takeOut_89 : decode cX0_takeOut 89 = .ok (.getfield 75, 3) := by decide +kernel
theorem dX0_takeOut_92 : decode cX0_takeOut 92 = .ok (.iload_n 2, 1) := by decide +kernel
theorem dX0_takeOut_93 : decode cX0_takeOut 93 = .ok (.iaload, 1) := by decide +kernel
theorem dX0_takeOut_94 : decode cX0_takeOut 94 = .ok (.iconst (-1), 1) := by decide +kernel
theorem dX0_takeOut_95 : decode cX0_takeOut 95 = .ok (.if_icmp .eq 21, 3) := by decide +kernel
theorem dX0_takeOut_98 : decode cX0_takeOut 98 = .ok (.aload_n 0, 1) := by decide +kernel
theorem dX0_takeOut_99 : decode cX0_takeOut 99 = .ok (.getfield 25, 3) := by decide +kernel
theorem dX0_takeOut_102 : decode cX0_takeOut 102 = .ok (.aload_n 0, 1) := by decide +kernel
theorem dX0_takeOut_103 : decode cX0_takeOut 103 = .ok (.getfield 12, 3) := by decide +kernel
theorem dX0_takeOut_106 : decode cX0_takeOut 106 = .ok (.getfield 75, 3) := by decide +kernel
theorem dX0_takeOut_109 : decode cX0_takeOut 109 = .ok (.iload_n 2, 1) := by decide +kernel
theorem dX0_takeOut_110 : decode cX0_takeOut 110 = .ok (.iaload, 1) := by decide +kernel
theorem dX0_takeOut_111 : decode cX0_takeOut 111 = .ok (.dup2, 1) := by decide +kernel
theorem dX0_takeOut_112 : decode cX0_takeOut 112 = .ok (.iaload, 1) := by decide +kernel
theorem dX0_takeOut_113 : decode cX0_takeOut 113 = .ok (.iload_n 3, 1) := by decide +kernel
theorem dX0_takeOut_114 : decode cX0_takeOut 114 = .ok (.iand, 1) := by decide +kernel
theorem dX0_takeOut_115 : decode cX0_takeOut 115 = .ok (.iastore, 1) := by decide +kernel
theorem dX0_takeOut_116 : decode cX0_takeOut 116 = .ok (.aload_n 0, 1) := by decide +kernel
theorem dX0_takeOut_117 : decode cX0_takeOut 117 = .ok (.getfield 28, 3) := by decide +kernel
theorem dX0_takeOut_120 : decode cX0_takeOut 120 = .ok (.iload_n 1, 1) := by decide +kernel
theorem dX0_takeOut_121 : decode cX0_takeOut 121 = .ok (.iconst (-1), 1) := by decide +kernel
theorem dX0_takeOut_122 : decode cX0_takeOut 122 = .ok (.iastore, 1) := by decide +kernel
theorem dX0_takeOut_123 : decode cX0_takeOut 123 = .ok (.return_, 1) := by decide +kernel
theorem dX0_markAllAgain_0 : decode cX0_markAllAgain 0 = .ok (.aload_n 0, 1) := by decide +kernel
theorem dX0_markAllAgain_1 : decode cX0_markAllAgain 1 = .ok (.getfield 25, 3) := by decide +kernel
theorem dX0_markAllAgain_4 : decode cX0_markAllAgain 4 = .ok (.iconst 0, 1) := by decide +kernel
theorem dX0_markAllAgain_5 : decode cX0_markAllAgain 5 = .ok (.invokestatic 47, 3) := by decide +kernel
theorem dX0_markAllAgain_8 : decode cX0_markAllAgain 8 = .ok (.iconst 0, 1) := by decide +kernel
theorem dX0_markAllAgain_9 : decode cX0_markAllAgain 9 = .ok (.istore_n 1, 1) := by decide +kernel
theorem dX0_markAllAgain_10 : decode cX0_markAllAgain 10 = .ok (.iload_n 1, 1) := by decide +kernel
theorem dX0_markAllAgain_11 : decode cX0_markAllAgain 11 = .ok (.bipush 64, 2) := by decide +kernel
theorem dX0_markAllAgain_13 : decode cX0_markAllAgain 13 = .ok (.if_icmp .ge 22, 3) := by decide +kernel
theorem dX0_markAllAgain_16 : decode cX0_markAllAgain 16 = .ok (.aload_n 0, 1) := by decide +kernel
theorem dX0_markAllAgain_17 : decode cX0_markAllAgain 17 = .ok (.iload_n 1, 1) := by decide +kernel
theorem dX0_markAllAgain_18 : decode cX0_markAllAgain 18 = .ok (.invokevirtual 53, 3) := by decide +kernel
theorem dX0_markAllAgain_21 : decode cX0_markAllAgain 21 = .ok (.ifCond .eq 8, 3) := by decide +kernel
theorem dX0_markAllAgain_24 : decode cX0_markAllAgain 24 = .ok (.aload_n 0, 1) := by decide +kernel
theorem dX0_markAllAgain_25 : decode cX0_markAllAgain 25 = .ok (.iload_n 1, 1) := by decide +kernel
theorem dX0_markAllAgain_26 : decode cX0_markAllAgain 26 = .ok (.invokevirtual 65, 3) := by decide +kernel
theorem dX0_markAllAgain_29 : decode cX0_markAllAgain 29 = .ok (.iinc 1 1, 3) := by decide +kernel
theorem dX0_markAllAgain_32 : decode cX0_markAllAgain 32 = .ok (.goto (-22), 3) := by decide +kernel
theorem dX0_markAllAgain_35 : decode cX0_markAllAgain 35 = .ok (.return_, 1) := by decide +kernel
theorem dX0_putByRules_0 : decode cX0_putByRules 0 = .ok (.aload_n 0, 1) := by decide +kernel
theorem dX0_putByRules_1 : decode cX0_putByRules 1 = .ok (.iload_n 1, 1) := by decide +kernel
theorem dX0_putByRules_2 : decode cX0_putByRules 2 = .ok (.iload_n 2, 1) := by decide +kernel
theorem dX0_putByRules_3 : decode cX0_putByRules 3 = .ok (.invokevirtual 78, 3) := by decide +kernel
theorem dX0_putByRules_6 : decode cX0_putByRules 6 = .ok (.istore_n 3, 1) := by decide +kernel
theorem dX0_putByRules_7 : decode cX0_putByRules 7 = .ok (.iload_n 3, 1) := by decide +kernel
theorem dX0_putByRules_8 : decode cX0_putByRules 8 = .ok (.ifCond .ne 22, 3) := by decide +kernel
theorem dX0_putByRules_11 : decode cX0_putByRules 11 = .ok (.aload_n 0, 1) := by decide +kernel
theorem dX0_putByRules_12 : decode cX0_putByRules 12 = .ok (.iload_n 1, 1) := by decide +kernel
theorem dX0_putByRules_13 : decode cX0_putByRules 13 = .ok (.iload_n 2, 1) := by decide +kernel
theorem dX0_putByRules_14 : decode cX0_putByRules 14 = .ok (.bipush 6, 2) := by decide +kernel
theorem dX0_putByRules_16 : decode cX0_putByRules 16 = .ok (.imul, 1) := by decide +kernel
theorem dX0_putByRules_17 : decode cX0_putByRules 17 = .ok (.aload_n 0, 1) := by decide +kernel
theorem dX0_putByRules_18 : decode cX0_putByRules 18 = .ok (.iload_n 1, 1) := by decide +kernel
theorem dX0_putByRules_19 : decode cX0_putByRules 19 = .ok (.invokestatic 57, 3) := by decide +kernel
theorem dX0_putByRules_22 : decode cX0_putByRules 22 = .ok (.iload_n 2, 1) := by decide +kernel
theorem dX0_putByRules_23 : decode cX0_putByRules 23 = .ok (.invokevirtual 81, 3) := by decide +kernel
theorem dX0_putByRules_26 : decode cX0_putByRules 26 = .ok (.iadd, 1) := by decide +kernel
theorem dX0_putByRules_27 : decode cX0_putByRules 27 = .ok (.invokevirtual 84, 3) := by decide +kernel
theorem dX0_putByRules_30 : decode cX0_putByRules 30 = .ok (.iload_n 3, 1) := by decide +kernel
theorem dX0_putByRules_31 : decode cX0_putByRules 31 = .ok (.ireturn, 1) := by decide +kernel
theorem dX0_brokenRule_0 : decode cX0_brokenRule 0 = .ok (.iload_n 1, 1) := by decide +kernel
theorem dX0_brokenRule_1 : decode cX0_brokenRule 1 = .ok (.invokestatic 57, 3) := by decide +kernel
theorem dX0_brokenRule_4 : decode cX0_brokenRule 4 = .ok (.istore_n 3, 1) := by decide +kernel
theorem dX0_brokenRule_5 : decode cX0_brokenRule 5 = .ok (.aload_n 0, 1) := by decide +kernel
theorem dX0_brokenRule_6 : decode cX0_brokenRule 6 = .ok (.getfield 12, 3) := by decide +kernel
theorem dX0_brokenRule_9 : decode cX0_brokenRule 9 = .ok (.getfield 88, 3) := by decide +kernel
theorem dX0_brokenRule_12 : decode cX0_brokenRule 12 = .ok (.iload_n 3, 1) := by decide +kernel
theorem dX0_brokenRule_13 : decode cX0_brokenRule 13 = .ok (.iaload, 1) := by decide +kernel
theorem dX0_brokenRule_14 : decode cX0_brokenRule 14 = .ok (.iconst 2, 1) := by decide +kernel
theorem dX0_brokenRule_15 : decode cX0_brokenRule 15 = .ok (.if_icmp .ne 20, 3) := by decide +kernel
theorem dX0_brokenRule_18 : decode cX0_brokenRule 18 = .ok (.iload_n 2, 1) := by decide +kernel
theorem dX0_brokenRule_19 : decode cX0_brokenRule 19 = .ok (.aload_n 0, 1) := by decide +kernel
theorem dX0_brokenRule_20 : decode cX0_brokenRule 20 = .ok (.getfield 35, 3) := by decide +kernel
theorem dX0_brokenRule_23 : decode cX0_brokenRule 23 = .ok (.irem, 1) := by decide +kernel
theorem dX0_brokenRule_24 : decode cX0_brokenRule 24 = .ok (.aload_n 0, 1) := by decide +kernel
theorem dX0_brokenRule_25 : decode cX0_brokenRule 25 = .ok (.getfield 35, 3) := by decide +kernel
theorem dX0_brokenRule_28 : decode cX0_brokenRule 28 = .ok (.iconst 1, 1) := by decide +kernel
theorem dX0_brokenRule_29 : decode cX0_brokenRule 29 = .ok (.isub, 1) := by decide +kernel
theorem dX0_brokenRule_30 : decode cX0_brokenRule 30 = .ok (.if_icmp .ne 5, 3) := by decide +kernel
theorem dX0_brokenRule_33 : decode cX0_brokenRule 33 = .ok (.iconst 1, 1) := by decide +kernel
theorem dX0_brokenRule_34 : decode cX0_brokenRule 34 = .ok (.ireturn, 1) := by decide +kernel
theorem dX0_brokenRule_35 : decode cX0_brokenRule 35 = .ok (.aload_n 0, 1) := by decide +kernel
theorem dX0_brokenRule_36 : decode cX0_brokenRule 36 = .ok (.getfield 12, 3) := by decide +kernel
theorem dX0_brokenRule_39 : decode cX0_brokenRule 39 = .ok (.iload_n 3, 1) := by decide +kernel
theorem dX0_brokenRule_40 : decode cX0_brokenRule 40 = .ok (.iload_n 2, 1) := by decide +kernel
theorem dX0_brokenRule_41 : decode cX0_brokenRule 41 = .ok (.invokevirtual 61, 3) := by decide +kernel
theorem dX0_brokenRule_44 : decode cX0_brokenRule 44 = .ok (.istore 4, 2) := by decide +kernel
theorem dX0_brokenRule_46 : decode cX0_brokenRule 46 = .ok (.bipush 8, 2) := by decide +kernel
theorem dX0_brokenRule_48 : decode cX0_brokenRule 48 = .ok (.aload_n 0, 1) := by decide +kernel
theorem dX0_brokenRule_49 : decode cX0_brokenRule 49 = .ok (.getfield 12, 3) := by decide +kernel
theorem dX0_brokenRule_52 : decode cX0_brokenRule 52 = .ok (.getfield 69, 3) := by decide +kernel
theorem dX0_brokenRule_55 : decode cX0_brokenRule 55 = .ok (.iload_n 3, 1) := by decide +kernel
theorem dX0_brokenRule_56 : decode cX0_brokenRule 56 = .ok (.iaload, 1) := by decide +kernel
theorem dX0_brokenRule_57 : decode cX0_brokenRule 57 = .ok (.iadd, 1) := by decide +kernel
theorem dX0_brokenRule_58 : decode cX0_brokenRule 58 = .ok (.istore 5, 2) := by decide +kernel
theorem dX0_brokenRule_60 : decode cX0_brokenRule 60 = .ok (.aload_n 0, 1) := by decide +kernel
theorem dX0_brokenRule_61 : decode cX0_brokenRule 61 = .ok (.getfield 22, 3) := by decide +kernel
theorem dX0_brokenRule_64 : decode cX0_brokenRule 64 = .ok (.iload 5, 2) := by decide +kernel
theorem dX0_brokenRule_66 : decode cX0_brokenRule 66 = .ok (.iaload, 1) := by decide +kernel
theorem dX0_brokenRule_67 : decode cX0_brokenRule 67 = .ok (.iload 4, 2) := by decide +kernel
theorem dX0_brokenRule_69 : decode cX0_brokenRule 69 = .ok (.iand, 1) := by decide +kernel
theorem dX0_brokenRule_70 : decode cX0_brokenRule 70 = .ok (.ifCond .eq 5, 3) := by decide +kernel
theorem dX0_brokenRule_73 : decode cX0_brokenRule 73 = .ok (.iconst 2, 1) := by decide +kernel
theorem dX0_brokenRule_74 : decode cX0_brokenRule 74 = .ok (.ireturn, 1) := by decide +kernel
theorem dX0_brokenRule_75 : decode cX0_brokenRule 75 = .ok (.aload_n 0, 1) := by decide +kernel
theorem dX0_brokenRule_76 : decode cX0_brokenRule 76 = .ok (.getfield 25, 3) := by decide +kernel
theorem dX0_brokenRule_79 : decode cX0_brokenRule 79 = .ok (.iload 5, 2) := by decide +kernel
theorem dX0_brokenRule_81 : decode cX0_brokenRule 81 = .ok (.iaload, 1) := by decide +kernel
theorem dX0_brokenRule_82 : decode cX0_brokenRule 82 = .ok (.iload 4, 2) := by decide +kernel
theorem dX0_brokenRule_84 : decode cX0_brokenRule 84 = .ok (.iand, 1) := by decide +kernel
theorem dX0_brokenRule_85 : decode cX0_brokenRule 85 = .ok (.ifCond .eq 5, 3) := by decide +kernel
theorem dX0_brokenRule_88 : decode cX0_brokenRule 88 = .ok (.iconst 3, 1) := by decide +kernel
theorem dX0_brokenRule_89 : decode cX0_brokenRule 89 = .ok (.ireturn, 1) := by decide +kernel
theorem dX0_brokenRule_90 : decode cX0_brokenRule 90 = .ok (.aload_n 0, 1) := by decide +kernel
theorem dX0_brokenRule_91 : decode cX0_brokenRule 91 = .ok (.aload_n 0, 1) := by decide +kernel
theorem dX0_brokenRule_92 : decode cX0_brokenRule 92 = .ok (.getfield 22, 3) := by decide +kernel
theorem dX0_brokenRule_95 : decode cX0_brokenRule 95 = .ok (.iload_n 3, 1) := by decide +kernel
theorem dX0_brokenRule_96 : decode cX0_brokenRule 96 = .ok (.invokevirtual 91, 3) := by decide +kernel
theorem dX0_brokenRule_99 : decode cX0_brokenRule 99 = .ok (.iload 4, 2) := by decide +kernel
theorem dX0_brokenRule_101 : decode cX0_brokenRule 101 = .ok (.iand, 1) := by decide +kernel
theorem dX0_brokenRule_102 : decode cX0_brokenRule 102 = .ok (.ifCond .eq 5, 3) := by decide +kernel
theorem dX0_brokenRule_105 : decode cX0_brokenRule 105 = .ok (.iconst 4, 1) := by decide +kernel
theorem dX0_brokenRule_106 : decode cX0_brokenRule 106 = .ok (.ireturn, 1) := by decide +kernel
theorem dX0_brokenRule_107 : decode cX0_brokenRule 107 = .ok (.aload_n 0, 1) := by decide +kernel
theorem dX0_brokenRule_108 : decode cX0_brokenRule 108 = .ok (.aload_n 0, 1) := by decide +kernel
theorem dX0_brokenRule_109 : decode cX0_brokenRule 109 = .ok (.getfield 25, 3) := by decide +kernel
theorem dX0_brokenRule_112 : decode cX0_brokenRule 112 = .ok (.iload_n 3, 1) := by decide +kernel
theorem dX0_brokenRule_113 : decode cX0_brokenRule 113 = .ok (.invokevirtual 91, 3) := by decide +kernel
theorem dX0_brokenRule_116 : decode cX0_brokenRule 116 = .ok (.iload 4, 2) := by decide +kernel
theorem dX0_brokenRule_118 : decode cX0_brokenRule 118 = .ok (.iand, 1) := by decide +kernel
theorem dX0_brokenRule_119 : decode cX0_brokenRule 119 = .ok (.ifCond .eq 5, 3) := by decide +kernel
theorem dX0_brokenRule_122 : decode cX0_brokenRule 122 = .ok (.iconst 5, 1) := by decide +kernel
theorem dX0_brokenRule_123 : decode cX0_brokenRule 123 = .ok (.ireturn, 1) := by decide +kernel
theorem dX0_brokenRule_124 : decode cX0_brokenRule 124 = .ok (.aload_n 0, 1) := by decide +kernel
theorem dX0_brokenRule_125 : decode cX0_brokenRule 125 = .ok (.iload_n 3, 1) := by decide +kernel
theorem dX0_brokenRule_126 : decode cX0_brokenRule 126 = .ok (.iload_n 2, 1) := by decide +kernel
theorem dX0_brokenRule_127 : decode cX0_brokenRule 127 = .ok (.aload_n 0, 1) := by decide +kernel
theorem dX0_brokenRule_128 : decode cX0_brokenRule 128 = .ok (.getfield 35, 3) := by decide +kernel
theorem dX0_brokenRule_131 : decode cX0_brokenRule 131 = .ok (.idiv, 1) := by decide +kernel
theorem dX0_brokenRule_132 : decode cX0_brokenRule 132 = .ok (.invokevirtual 95, 3) := by decide +kernel
theorem dX0_brokenRule_135 : decode cX0_brokenRule 135 = .ok (.ifCond .eq 6, 3) := by decide +kernel
theorem dX0_brokenRule_138 : decode cX0_brokenRule 138 = .ok (.bipush 6, 2) := by decide +kernel
theorem dX0_brokenRule_140 : decode cX0_brokenRule 140 = .ok (.ireturn, 1) := by decide +kernel
theorem dX0_brokenRule_141 : decode cX0_brokenRule 141 = .ok (.aload_n 0, 1) := by decide +kernel
theorem dX0_brokenRule_142 : decode cX0_brokenRule 142 = .ok (.iload_n 3, 1) := by decide +kernel
theorem dX0_brokenRule_143 : decode cX0_brokenRule 143 = .ok (.iload_n 2, 1) := by decide +kernel
theorem dX0_brokenRule_144 : decode cX0_brokenRule 144 = .ok (.invokevirtual 81, 3) := by decide +kernel
theorem dX0_brokenRule_147 : decode cX0_brokenRule 147 = .ok (.iconst (-1), 1) := by decide +kernel
theorem dX0_brokenRule_148 : decode cX0_brokenRule 148 = .ok (.if_icmp .ne 8, 3) := by decide +kernel
theorem dX0_brokenRule_151 : decode cX0_brokenRule 151 = .ok (.bipush 7, 2) := by decide +kernel
theorem dX0_brokenRule_153 : decode cX0_brokenRule 153 = .ok (.goto 4, 3) := by decide +kernel
theorem dX0_brokenRule_156 : decode cX0_brokenRule 156 = .ok (.iconst 0, 1) := by decide +kernel
theorem dX0_brokenRule_157 : decode cX0_brokenRule 157 = .ok (.ireturn, 1) := by decide +kernel
theorem dX0_eitherClass_0 : decode cX0_eitherClass 0 = .ok (.aload_n 0, 1) := by decide +kernel
theorem dX0_eitherClass_1 : decode cX0_eitherClass 1 = .ok (.getfield 12, 3) := by decide +kernel
theorem dX0_eitherClass_4 : decode cX0_eitherClass 4 = .ok (.getfield 75, 3) := by decide +kernel
theorem dX0_eitherClass_7 : decode cX0_eitherClass 7 = .ok (.iload_n 2, 1) := by decide +kernel
theorem dX0_eitherClass_8 : decode cX0_eitherClass 8 = .ok (.iaload, 1) := by decide +kernel
theorem dX0_eitherClass_9 : decode cX0_eitherClass 9 = .ok (.istore_n 3, 1) := by decide +kernel
theorem dX0_eitherClass_10 : decode cX0_eitherClass 10 = .ok (.aload_n 1, 1) := by decide +kernel
theorem dX0_eitherClass_11 : decode cX0_eitherClass 11 = .ok (.aload_n 0, 1) := by decide +kernel
theorem dX0_eitherClass_12 : decode cX0_eitherClass 12 = .ok (.getfield 12, 3) := by decide +kernel
theorem dX0_eitherClass_15 : decode cX0_eitherClass 15 = .ok (.getfield 72, 3) := by decide +kernel
theorem dX0_eitherClass_18 : decode cX0_eitherClass 18 = .ok (.iload_n 2, 1) := by decide +kernel
theorem dX0_eitherClass_19 : decode cX0_eitherClass 19 = .ok (.iaload, 1) := by decide +kernel
theorem dX0_eitherClass_20 : decode cX0_eitherClass 20 = .ok (.iaload, 1) := by decide +kernel
theorem dX0_eitherClass_21 : decode cX0_eitherClass 21 = .ok (.iload_n 3, 1) := by decide +kernel
theorem dX0_eitherClass_22 : decode cX0_eitherClass 22 = .ok (.iconst (-1), 1) := by decide +kernel
theorem dX0_eitherClass_23 : decode cX0_eitherClass 23 = .ok (.if_icmp .ne 7, 3) := by decide +kernel
theorem dX0_eitherClass_26 : decode cX0_eitherClass 26 = .ok (.iconst 0, 1) := by decide +kernel
theorem dX0_eitherClass_27 : decode cX0_eitherClass 27 = .ok (.goto 6, 3) := by decide +kernel
theorem dX0_eitherClass_30 : decode cX0_eitherClass 30 = .ok (.aload_n 1, 1) := by decide +kernel
theorem dX0_eitherClass_31 : decode cX0_eitherClass 31 = .ok (.iload_n 3, 1) := by decide +kernel
theorem dX0_eitherClass_32 : decode cX0_eitherClass 32 = .ok (.iaload, 1) := by decide +kernel
theorem dX0_eitherClass_33 : decode cX0_eitherClass 33 = .ok (.ior, 1) := by decide +kernel
theorem dX0_eitherClass_34 : decode cX0_eitherClass 34 = .ok (.ireturn, 1) := by decide +kernel
theorem dX0_isLessonOnDay_0 : decode cX0_isLessonOnDay 0 = .ok (.iconst 0, 1) := by decide +kernel
theorem dX0_isLessonOnDay_1 : decode cX0_isLessonOnDay 1 = .ok (.istore_n 3, 1) := by decide +kernel
theorem dX0_isLessonOnDay_2 : decode cX0_isLessonOnDay 2 = .ok (.iload_n 3, 1) := by decide +kernel
theorem dX0_isLessonOnDay_3 : decode cX0_isLessonOnDay 3 = .ok (.aload_n 0, 1) := by decide +kernel
theorem dX0_isLessonOnDay_4 : decode cX0_isLessonOnDay 4 = .ok (.getfield 12, 3) := by decide +kernel
theorem dX0_isLessonOnDay_7 : decode cX0_isLessonOnDay 7 = .ok (.getfield 99, 3) := by decide +kernel
theorem dX0_isLessonOnDay_10 : decode cX0_isLessonOnDay 10 = .ok (.iload_n 1, 1) := by decide +kernel
theorem dX0_isLessonOnDay_11 : decode cX0_isLessonOnDay 11 = .ok (.iaload, 1) := by decide +kernel
theorem dX0_isLessonOnDay_12 : decode cX0_isLessonOnDay 12 = .ok (.if_icmp .ge 24, 3) := by decide +kernel
theorem dX0_isLessonOnDay_15 : decode cX0_isLessonOnDay 15 = .ok (.aload_n 0, 1) := by decide +kernel
theorem dX0_isLessonOnDay_16 : decode cX0_isLessonOnDay 16 = .ok (.iload_n 1, 1) := by decide +kernel
theorem dX0_isLessonOnDay_17 : decode cX0_isLessonOnDay 17 = .ok (.iload_n 3, 1) := by decide +kernel
theorem dX0_isLessonOnDay_18 : decode cX0_isLessonOnDay 18 = .ok (.invokestatic 102, 3) := by decide +kernel
theorem dX0_isLessonOnDay_21 : decode cX0_isLessonOnDay 21 = .ok (.iload_n 2, 1) := by decide +kernel
theorem dX0_isLessonOnDay_22 : decode cX0_isLessonOnDay 22 = .ok (.invokevirtual 105, 3) := by decide +kernel
theorem dX0_isLessonOnDay_25 : decode cX0_isLessonOnDay 25 = .ok (.ifCond .eq 5, 3) := by decide +kernel
theorem dX0_isLessonOnDay_28 : decode cX0_isLessonOnDay 28 = .ok (.iconst 1, 1) := by decide +kernel
theorem dX0_isLessonOnDay_29 : decode cX0_isLessonOnDay 29 = .ok (.ireturn, 1) := by decide +kernel
theorem dX0_isLessonOnDay_30 : decode cX0_isLessonOnDay 30 = .ok (.iinc 3 1, 3) := by decide +kernel
theorem dX0_isLessonOnDay_33 : decode cX0_isLessonOnDay 33 = .ok (.goto (-31), 3) := by decide +kernel
theorem dX0_isLessonOnDay_36 : decode cX0_isLessonOnDay 36 = .ok (.iconst 0, 1) := by decide +kernel
theorem dX0_isLessonOnDay_37 : decode cX0_isLessonOnDay 37 = .ok (.ireturn, 1) := by decide +kernel
theorem dX0_lowestRoom_0 : decode cX0_lowestRoom 0 = .ok (.aload_n 0, 1) := by decide +kernel
theorem dX0_lowestRoom_1 : decode cX0_lowestRoom 1 = .ok (.getfield 12, 3) := by decide +kernel
theorem dX0_lowestRoom_4 : decode cX0_lowestRoom 4 = .ok (.iload_n 1, 1) := by decide +kernel
theorem dX0_lowestRoom_5 : decode cX0_lowestRoom 5 = .ok (.iload_n 2, 1) := by decide +kernel
theorem dX0_lowestRoom_6 : decode cX0_lowestRoom 6 = .ok (.invokevirtual 61, 3) := by decide +kernel
theorem dX0_lowestRoom_9 : decode cX0_lowestRoom 9 = .ok (.istore_n 3, 1) := by decide +kernel
theorem dX0_lowestRoom_10 : decode cX0_lowestRoom 10 = .ok (.iconst 0, 1) := by decide +kernel
theorem dX0_lowestRoom_11 : decode cX0_lowestRoom 11 = .ok (.istore 4, 2) := by decide +kernel
theorem dX0_lowestRoom_13 : decode cX0_lowestRoom 13 = .ok (.iload 4, 2) := by decide +kernel
theorem dX0_lowestRoom_15 : decode cX0_lowestRoom 15 = .ok (.bipush 6, 2) := by decide +kernel
theorem dX0_lowestRoom_17 : decode cX0_lowestRoom 17 = .ok (.if_icmp .ge 58, 3) := by decide +kernel
theorem dX0_lowestRoom_20 : decode cX0_lowestRoom 20 = .ok (.bipush 16, 2) := by decide +kernel
theorem dX0_lowestRoom_22 : decode cX0_lowestRoom 22 = .ok (.iload 4, 2) := by decide +kernel
theorem dX0_lowestRoom_24 : decode cX0_lowestRoom 24 = .ok (.iadd, 1) := by decide +kernel
theorem dX0_lowestRoom_25 : decode cX0_lowestRoom 25 = .ok (.istore 5, 2) := by decide +kernel
theorem dX0_lowestRoom_27 : decode cX0_lowestRoom 27 = .ok (.aload_n 0, 1) := by decide +kernel
theorem dX0_lowestRoom_28 : decode cX0_lowestRoom 28 = .ok (.getfield 18, 3) := by decide +kernel
theorem dX0_lowestRoom_31 : decode cX0_lowestRoom 31 = .ok (.iload 4, 2) := by decide +kernel
theorem dX0_lowestRoom_33 : decode cX0_lowestRoom 33 = .ok (.iaload, 1) := by decide +kernel
theorem dX0_lowestRoom_34 : decode cX0_lowestRoom 34 = .ok (.aload_n 0, 1) := by decide +kernel
theorem dX0_lowestRoom_35 : decode cX0_lowestRoom 35 = .ok (.getfield 12, 3) := by decide +kernel
theorem dX0_lowestRoom_38 : decode cX0_lowestRoom 38 = .ok (.getfield 108, 3) := by decide +kernel
theorem dX0_lowestRoom_41 : decode cX0_lowestRoom 41 = .ok (.iload_n 1, 1) := by decide +kernel
theorem dX0_lowestRoom_42 : decode cX0_lowestRoom 42 = .ok (.iaload, 1) := by decide +kernel
theorem dX0_lowestRoom_43 : decode cX0_lowestRoom 43 = .ok (.if_icmp .ne 26, 3) := by decide +kernel
theorem dX0_lowestRoom_46 : decode cX0_lowestRoom 46 = .ok (.aload_n 0, 1) := by decide +kernel
theorem dX0_lowestRoom_47 : decode cX0_lowestRoom 47 = .ok (.getfield 25, 3) := by decide +kernel
theorem dX0_lowestRoom_50 : decode cX0_lowestRoom 50 = .ok (.iload 5, 2) := by decide +kernel
theorem dX0_lowestRoom_52 : decode cX0_lowestRoom 52 = .ok (.iaload, 1) := by decide +kernel
theorem dX0_lowestRoom_53 : decode cX0_lowestRoom 53 = .ok (.aload_n 0, 1) := by decide +kernel
theorem dX0_lowestRoom_54 : decode cX0_lowestRoom 54 = .ok (.getfield 22, 3) := by decide +kernel
theorem dX0_lowestRoom_57 : decode cX0_lowestRoom 57 = .ok (.iload 5, 2) := by decide +kernel
theorem dX0_lowestRoom_59 : decode cX0_lowestRoom 59 = .ok (.iaload, 1) := by decide +kernel
theorem dX0_lowestRoom_60 : decode cX0_lowestRoom 60 = .ok (.ior, 1) := by decide +kernel
theorem dX0_lowestRoom_61 : decode cX0_lowestRoom 61 = .ok (.iload_n 3, 1) := by decide +kernel
theorem dX0_lowestRoom_62 : decode cX0_lowestRoom 62 = .ok (.iand, 1) := by decide +kernel
theorem dX0_lowestRoom_63 : decode cX0_lowestRoom 63 = .ok (.ifCond .ne 6, 3) := by decide +kernel
theorem dX0_lowestRoom_66 : decode cX0_lowestRoom 66 = .ok (.iload 4, 2) := by decide +kernel
theorem dX0_lowestRoom_68 : decode cX0_lowestRoom 68 = .ok (.ireturn, 1) := by decide +kernel
theorem dX0_lowestRoom_69 : decode cX0_lowestRoom 69 = .ok (.iinc 4 1, 3) := by decide +kernel
theorem dX0_lowestRoom_72 : decode cX0_lowestRoom 72 = .ok (.goto (-59), 3) := by decide +kernel
theorem dX0_lowestRoom_75 : decode cX0_lowestRoom 75 = .ok (.iconst (-1), 1) := by decide +kernel
theorem dX0_lowestRoom_76 : decode cX0_lowestRoom 76 = .ok (.ireturn, 1) := by decide +kernel
theorem dX0_weekPenalty_0 : decode cX0_weekPenalty 0 = .ok (.iconst 0, 1) := by decide +kernel
theorem dX0_weekPenalty_1 : decode cX0_weekPenalty 1 = .ok (.istore_n 1, 1) := by decide +kernel
theorem dX0_weekPenalty_2 : decode cX0_weekPenalty 2 = .ok (.iconst 0, 1) := by decide +kernel
theorem dX0_weekPenalty_3 : decode cX0_weekPenalty 3 = .ok (.istore_n 2, 1) := by decide +kernel
theorem dX0_weekPenalty_4 : decode cX0_weekPenalty 4 = .ok (.iload_n 2, 1) := by decide +kernel
theorem dX0_weekPenalty_5 : decode cX0_weekPenalty 5 = .ok (.bipush 8, 2) := by decide +kernel
theorem dX0_weekPenalty_7 : decode cX0_weekPenalty 7 = .ok (.if_icmp .ge 25, 3) := by decide +kernel
theorem dX0_weekPenalty_10 : decode cX0_weekPenalty 10 = .ok (.iload_n 1, 1) := by decide +kernel
theorem dX0_weekPenalty_11 : decode cX0_weekPenalty 11 = .ok (.aload_n 0, 1) := by decide +kernel
theorem dX0_weekPenalty_12 : decode cX0_weekPenalty 12 = .ok (.aload_n 0, 1) := by decide +kernel
theorem dX0_weekPenalty_13 : decode cX0_weekPenalty 13 = .ok (.getfield 25, 3) := by decide +kernel
theorem dX0_weekPenalty_16 : decode cX0_weekPenalty 16 = .ok (.bipush 8, 2) := by decide +kernel
theorem dX0_weekPenalty_18 : decode cX0_weekPenalty 18 = .ok (.iload_n 2, 1) := by decide +kernel
theorem dX0_weekPenalty_19 : decode cX0_weekPenalty 19 = .ok (.iadd, 1) := by decide +kernel
theorem dX0_weekPenalty_20 : decode cX0_weekPenalty 20 = .ok (.iaload, 1) := by decide +kernel
theorem dX0_weekPenalty_21 : decode cX0_weekPenalty 21 = .ok (.invokevirtual 111, 3) := by decide +kernel
theorem dX0_weekPenalty_24 : decode cX0_weekPenalty 24 = .ok (.iadd, 1) := by decide +kernel
theorem dX0_weekPenalty_25 : decode cX0_weekPenalty 25 = .ok (.istore_n 1, 1) := by decide +kernel
theorem dX0_weekPenalty_26 : decode cX0_weekPenalty 26 = .ok (.iinc 2 1, 3) := by decide +kernel
theorem dX0_weekPenalty_29 : decode cX0_weekPenalty 29 = .ok (.goto (-25), 3) := by decide +kernel
theorem dX0_weekPenalty_32 : decode cX0_weekPenalty 32 = .ok (.iconst 0, 1) := by decide +kernel
theorem dX0_weekPenalty_33 : decode cX0_weekPenalty 33 = .ok (.istore_n 2, 1) := by decide +kernel
theorem dX0_weekPenalty_34 : decode cX0_weekPenalty 34 = .ok (.iload_n 2, 1) := by decide +kernel
theorem dX0_weekPenalty_35 : decode cX0_weekPenalty 35 = .ok (.bipush 8, 2) := by decide +kernel
theorem dX0_weekPenalty_37 : decode cX0_weekPenalty 37 = .ok (.if_icmp .ge 22, 3) := by decide +kernel
theorem dX0_weekPenalty_40 : decode cX0_weekPenalty 40 = .ok (.iload_n 1, 1) := by decide +kernel
theorem dX0_weekPenalty_41 : decode cX0_weekPenalty 41 = .ok (.aload_n 0, 1) := by decide +kernel
theorem dX0_weekPenalty_42 : decode cX0_weekPenalty 42 = .ok (.aload_n 0, 1) := by decide +kernel
theorem dX0_weekPenalty_43 : decode cX0_weekPenalty 43 = .ok (.getfield 25, 3) := by decide +kernel
theorem dX0_weekPenalty_46 : decode cX0_weekPenalty 46 = .ok (.iload_n 2, 1) := by decide +kernel
theorem dX0_weekPenalty_47 : decode cX0_weekPenalty 47 = .ok (.iaload, 1) := by decide +kernel
theorem dX0_weekPenalty_48 : decode cX0_weekPenalty 48 = .ok (.invokevirtual 114, 3) := by decide +kernel
theorem dX0_weekPenalty_51 : decode cX0_weekPenalty 51 = .ok (.iadd, 1) := by decide +kernel
theorem dX0_weekPenalty_52 : decode cX0_weekPenalty 52 = .ok (.istore_n 1, 1) := by decide +kernel
theorem dX0_weekPenalty_53 : decode cX0_weekPenalty 53 = .ok (.iinc 2 1, 3) := by decide +kernel
theorem dX0_weekPenalty_56 : decode cX0_weekPenalty 56 = .ok (.goto (-22), 3) := by decide +kernel
theorem dX0_weekPenalty_59 : decode cX0_weekPenalty 59 = .ok (.iload_n 1, 1) := by decide +kernel
theorem dX0_weekPenalty_60 : decode cX0_weekPenalty 60 = .ok (.ireturn, 1) := by decide +kernel
theorem dX0_teacherPart_0 : decode cX0_teacherPart 0 = .ok (.iconst 1, 1) := by decide +kernel
theorem dX0_teacherPart_1 : decode cX0_teacherPart 1 = .ok (.aload_n 0, 1) := by decide +kernel
theorem dX0_teacherPart_2 : decode cX0_teacherPart 2 = .ok (.iload_n 1, 1) := by decide +kernel
theorem dX0_teacherPart_3 : decode cX0_teacherPart 3 = .ok (.invokevirtual 117, 3) := by decide +kernel
theorem dX0_teacherPart_6 : decode cX0_teacherPart 6 = .ok (.imul, 1) := by decide +kernel
theorem dX0_teacherPart_7 : decode cX0_teacherPart 7 = .ok (.iconst 3, 1) := by decide +kernel
theorem dX0_teacherPart_8 : decode cX0_teacherPart 8 = .ok (.iload_n 1, 1) := by decide +kernel
theorem dX0_teacherPart_9 : decode cX0_teacherPart 9 = .ok (.aload_n 0, 1) := by decide +kernel
theorem dX0_teacherPart_10 : decode cX0_teacherPart 10 = .ok (.getfield 44, 3) := by decide +kernel
theorem dX0_teacherPart_13 : decode cX0_teacherPart 13 = .ok (.iand, 1) := by decide +kernel
theorem dX0_teacherPart_14 : decode cX0_teacherPart 14 = .ok (.invokestatic 120, 3) := by decide +kernel
theorem dX0_teacherPart_17 : decode cX0_teacherPart 17 = .ok (.imul, 1) := by decide +kernel
theorem dX0_teacherPart_18 : decode cX0_teacherPart 18 = .ok (.iadd, 1) := by decide +kernel
theorem dX0_teacherPart_19 : decode cX0_teacherPart 19 = .ok (.ireturn, 1) := by decide +kernel
theorem dX0_classPart_0 : decode cX0_classPart 0 = .ok (.iconst 2, 1) := by decide +kernel
theorem dX0_classPart_1 : decode cX0_classPart 1 = .ok (.aload_n 0, 1) := by decide +kernel
theorem dX0_classPart_2 : decode cX0_classPart 2 = .ok (.iload_n 1, 1) := by decide +kernel
theorem dX0_classPart_3 : decode cX0_classPart 3 = .ok (.invokevirtual 117, 3) := by decide +kernel
theorem dX0_classPart_6 : decode cX0_classPart 6 = .ok (.imul, 1) := by decide +kernel
theorem dX0_classPart_7 : decode cX0_classPart 7 = .ok (.ireturn, 1) := by decide +kernel
theorem dX0_gapsIn_0 : decode cX0_gapsIn 0 = .ok (.iload_n 1, 1) := by decide +kernel
theorem dX0_gapsIn_1 : decode cX0_gapsIn 1 = .ok (.istore_n 2, 1) := by decide +kernel
theorem dX0_gapsIn_2 : decode cX0_gapsIn 2 = .ok (.iload_n 1, 1) := by decide +kernel
theorem dX0_gapsIn_3 : decode cX0_gapsIn 3 = .ok (.istore_n 3, 1) := by decide +kernel
theorem dX0_gapsIn_4 : decode cX0_gapsIn 4 = .ok (.iconst 1, 1) := by decide +kernel
theorem dX0_gapsIn_5 : decode cX0_gapsIn 5 = .ok (.istore 4, 2) := by decide +kernel
theorem dX0_gapsIn_7 : decode cX0_gapsIn 7 = .ok (.iload 4, 2) := by decide +kernel
theorem dX0_gapsIn_9 : decode cX0_gapsIn 9 = .ok (.aload_n 0, 1) := by decide +kernel
theorem dX0_gapsIn_10 : decode cX0_gapsIn 10 = .ok (.getfield 35, 3) := by decide +kernel
theorem dX0_gapsIn_13 : decode cX0_gapsIn 13 = .ok (.if_icmp .ge 35, 3) := by decide +kernel
theorem dX0_gapsIn_16 : decode cX0_gapsIn 16 = .ok (.iload_n 2, 1) := by decide +kernel
theorem dX0_gapsIn_17 : decode cX0_gapsIn 17 = .ok (.iload_n 2, 1) := by decide +kernel
theorem dX0_gapsIn_18 : decode cX0_gapsIn 18 = .ok (.iconst 1, 1) := by decide +kernel
theorem dX0_gapsIn_19 : decode cX0_gapsIn 19 = .ok (.ishl, 1) := by decide +kernel
theorem dX0_gapsIn_20 : decode cX0_gapsIn 20 = .ok (.aload_n 0, 1) := by decide +kernel
theorem dX0_gapsIn_21 : decode cX0_gapsIn 21 = .ok (.getfield 41, 3) := by decide +kernel
theorem dX0_gapsIn_24 : decode cX0_gapsIn 24 = .ok (.iconst (-1), 1) := by decide +kernel
theorem dX0_gapsIn_25 : decode cX0_gapsIn 25 = .ok (.ixor, 1) := by decide +kernel
theorem dX0_gapsIn_26 : decode cX0_gapsIn 26 = .ok (.iand, 1) := by decide +kernel
theorem dX0_gapsIn_27 : decode cX0_gapsIn 27 = .ok (.ior, 1) := by decide +kernel
theorem dX0_gapsIn_28 : decode cX0_gapsIn 28 = .ok (.istore_n 2, 1) := by decide +kernel
theorem dX0_gapsIn_29 : decode cX0_gapsIn 29 = .ok (.iload_n 3, 1) := by decide +kernel
theorem dX0_gapsIn_30 : decode cX0_gapsIn 30 = .ok (.iload_n 3, 1) := by decide +kernel
theorem dX0_gapsIn_31 : decode cX0_gapsIn 31 = .ok (.iconst 1, 1) := by decide +kernel
theorem dX0_gapsIn_32 : decode cX0_gapsIn 32 = .ok (.ishr, 1) := by decide +kernel
theorem dX0_gapsIn_33 : decode cX0_gapsIn 33 = .ok (.aload_n 0, 1) := by decide +kernel
theorem dX0_gapsIn_34 : decode cX0_gapsIn 34 = .ok (.getfield 44, 3) := by decide +kernel
theorem dX0_gapsIn_37 : decode cX0_gapsIn 37 = .ok (.iconst (-1), 1) := by decide +kernel
theorem dX0_gapsIn_38 : decode cX0_gapsIn 38 = .ok (.ixor, 1) := by decide +kernel
theorem dX0_gapsIn_39 : decode cX0_gapsIn 39 = .ok (.iand, 1) := by decide +kernel
theorem dX0_gapsIn_40 : decode cX0_gapsIn 40 = .ok (.ior, 1) := by decide +kernel
theorem dX0_gapsIn_41 : decode cX0_gapsIn 41 = .ok (.istore_n 3, 1) := by decide +kernel
theorem dX0_gapsIn_42 : decode cX0_gapsIn 42 = .ok (.iinc 4 1, 3) := by decide +kernel
theorem dX0_gapsIn_45 : decode cX0_gapsIn 45 = .ok (.goto (-38), 3) := by decide +kernel
theorem dX0_gapsIn_48 : decode cX0_gapsIn 48 = .ok (.iload_n 2, 1) := by decide +kernel
theorem dX0_gapsIn_49 : decode cX0_gapsIn 49 = .ok (.iload_n 3, 1) := by decide +kernel
theorem dX0_gapsIn_50 : decode cX0_gapsIn 50 = .ok (.iand, 1) := by decide +kernel
theorem dX0_gapsIn_51 : decode cX0_gapsIn 51 = .ok (.iload_n 1, 1) := by decide +kernel
theorem dX0_gapsIn_52 : decode cX0_gapsIn 52 = .ok (.iconst (-1), 1) := by decide +kernel
theorem dX0_gapsIn_53 : decode cX0_gapsIn 53 = .ok (.ixor, 1) := by decide +kernel
theorem dX0_gapsIn_54 : decode cX0_gapsIn 54 = .ok (.iand, 1) := by decide +kernel
theorem dX0_gapsIn_55 : decode cX0_gapsIn 55 = .ok (.invokestatic 120, 3) := by decide +kernel
theorem dX0_gapsIn_58 : decode cX0_gapsIn 58 = .ok (.ireturn, 1) := by decide +kernel
theorem dX0_betterAll_0 : decode cX0_betterAll 0 = .ok (.iconst 0, 1) := by decide +kernel
theorem dX0_betterAll_1 : decode cX0_betterAll 1 = .ok (.istore_n 1, 1) := by decide +kernel
theorem dX0_betterAll_2 : decode cX0_betterAll 2 = .ok (.iconst 0, 1) := by decide +kernel
theorem dX0_betterAll_3 : decode cX0_betterAll 3 = .ok (.istore_n 2, 1) := by decide +kernel
theorem dX0_betterAll_4 : decode cX0_betterAll 4 = .ok (.iload_n 2, 1) := by decide +kernel
theorem dX0_betterAll_5 : decode cX0_betterAll 5 = .ok (.bipush 64, 2) := by decide +kernel
theorem dX0_betterAll_7 : decode cX0_betterAll 7 = .ok (.if_icmp .ge 27, 3) := by decide +kernel
theorem dX0_betterAll_10 : decode cX0_betterAll 10 = .ok (.aload_n 0, 1) := by decide +kernel
theorem dX0_betterAll_11 : decode cX0_betterAll 11 = .ok (.iload_n 2, 1) := by decide +kernel
theorem dX0_betterAll_12 : decode cX0_betterAll 12 = .ok (.invokevirtual 53, 3) := by decide +kernel
theorem dX0_betterAll_15 : decode cX0_betterAll 15 = .ok (.ifCond .eq 13, 3) := by decide +kernel
theorem dX0_betterAll_18 : decode cX0_betterAll 18 = .ok (.aload_n 0, 1) := by decide +kernel
theorem dX0_betterAll_19 : decode cX0_betterAll 19 = .ok (.iload_n 2, 1) := by decide +kernel
theorem dX0_betterAll_20 : decode cX0_betterAll 20 = .ok (.invokevirtual 125, 3) := by decide +kernel
theorem dX0_betterAll_23 : decode cX0_betterAll 23 = .ok (.ifCond .eq 5, 3) := by decide +kernel
theorem dX0_betterAll_26 : decode cX0_betterAll 26 = .ok (.iconst 1, 1) := by decide +kernel
theorem dX0_betterAll_27 : decode cX0_betterAll 27 = .ok (.istore_n 1, 1) := by decide +kernel
theorem dX0_betterAll_28 : decode cX0_betterAll 28 = .ok (.iinc 2 1, 3) := by decide +kernel
theorem dX0_betterAll_31 : decode cX0_betterAll 31 = .ok (.goto (-27), 3) := by decide +kernel
theorem dX0_betterAll_34 : decode cX0_betterAll 34 = .ok (.iload_n 1, 1) := by decide +kernel
theorem dX0_betterAll_35 : decode cX0_betterAll 35 = .ok (.ireturn, 1) := by decide +kernel
theorem dX0_moveToBest_0 : decode cX0_moveToBest 0 = .ok (.iload_n 1, 1) := by decide +kernel
theorem dX0_moveToBest_1 : decode cX0_moveToBest 1 = .ok (.invokestatic 57, 3) := by decide +kernel
theorem dX0_moveToBest_4 : decode cX0_moveToBest 4 = .ok (.istore_n 2, 1) := by decide +kernel
theorem dX0_moveToBest_5 : decode cX0_moveToBest 5 = .ok (.aload_n 0, 1) := by decide +kernel
theorem dX0_moveToBest_6 : decode cX0_moveToBest 6 = .ok (.getfield 28, 3) := by decide +kernel
theorem dX0_moveToBest_9 : decode cX0_moveToBest 9 = .ok (.iload_n 1, 1) := by decide +kernel
theorem dX0_moveToBest_10 : decode cX0_moveToBest 10 = .ok (.iaload, 1) := by decide +kernel
theorem dX0_moveToBest_11 : decode cX0_moveToBest 11 = .ok (.istore_n 3, 1) := by decide +kernel
theorem dX0_moveToBest_12 : decode cX0_moveToBest 12 = .ok (.aload_n 0, 1) := by decide +kernel
theorem dX0_moveToBest_13 : decode cX0_moveToBest 13 = .ok (.iload_n 1, 1) := by decide +kernel
theorem dX0_moveToBest_14 : decode cX0_moveToBest 14 = .ok (.invokevirtual 128, 3) := by decide +kernel
theorem dX0_moveToBest_17 : decode cX0_moveToBest 17 = .ok (.istore 4, 2) := by decide +kernel
theorem dX0_moveToBest_19 : decode cX0_moveToBest 19 = .ok (.aload_n 0, 1) := by decide +kernel
theorem dX0_moveToBest_20 : decode cX0_moveToBest 20 = .ok (.iload_n 1, 1) := by decide +kernel
theorem dX0_moveToBest_21 : decode cX0_moveToBest 21 = .ok (.invokevirtual 131, 3) := by decide +kernel
theorem dX0_moveToBest_24 : decode cX0_moveToBest 24 = .ok (.iload 4, 2) := by decide +kernel
theorem dX0_moveToBest_26 : decode cX0_moveToBest 26 = .ok (.istore 5, 2) := by decide +kernel
theorem dX0_moveToBest_28 : decode cX0_moveToBest 28 = .ok (.aload_n 0, 1) := by decide +kernel
theorem dX0_moveToBest_29 : decode cX0_moveToBest 29 = .ok (.iload_n 2, 1) := by decide +kernel
theorem dX0_moveToBest_30 : decode cX0_moveToBest 30 = .ok (.iload 4, 2) := by decide +kernel
theorem dX0_moveToBest_32 : decode cX0_moveToBest 32 = .ok (.invokevirtual 134, 3) := by decide +kernel
theorem dX0_moveToBest_35 : decode cX0_moveToBest 35 = .ok (.istore 6, 2) := by decide +kernel
theorem dX0_moveToBest_37 : decode cX0_moveToBest 37 = .ok (.iconst 0, 1) := by decide +kernel
theorem dX0_moveToBest_38 : decode cX0_moveToBest 38 = .ok (.istore 7, 2) := by decide +kernel
theorem dX0_moveToBest_40 : decode cX0_moveToBest 40 = .ok (.iload 7, 2) := by decide +kernel
theorem dX0_moveToBest_42 : decode cX0_moveToBest 42 = .ok (.aload_n 0, 1) := by decide +kernel
theorem dX0_moveToBest_43 : decode cX0_moveToBest 43 = .ok (.getfield 38, 3) := by decide +kernel
theorem dX0_moveToBest_46 : decode cX0_moveToBest 46 = .ok (.if_icmp .ge 44, 3) := by decide +kernel
theorem dX0_moveToBest_49 : decode cX0_moveToBest 49 = .ok (.aload_n 0, 1) := by decide +kernel
theorem dX0_moveToBest_50 : decode cX0_moveToBest 50 = .ok (.iload_n 1, 1) := by decide +kernel
theorem dX0_moveToBest_51 : decode cX0_moveToBest 51 = .ok (.iload 7, 2) := by decide +kernel
theorem dX0_moveToBest_53 : decode cX0_moveToBest 53 = .ok (.invokevirtual 78, 3) := by decide +kernel
theorem dX0_moveToBest_56 : decode cX0_moveToBest 56 = .ok (.ifCond .ne 28, 3) := by decide +kernel
theorem dX0_moveToBest_59 : decode cX0_moveToBest 59 = .ok (.aload_n 0, 1) := by decide +kernel
theorem dX0_moveToBest_60 : decode cX0_moveToBest 60 = .ok (.iload_n 2, 1) := by decide +kernel
theorem dX0_moveToBest_61 : decode cX0_moveToBest 61 = .ok (.iload 7, 2) := by decide +kernel
theorem dX0_moveToBest_63 : decode cX0_moveToBest 63 = .ok (.invokevirtual 134, 3) := by decide +kernel
theorem dX0_moveToBest_66 : decode cX0_moveToBest 66 = .ok (.iload 6, 2) := by decide +kernel
theorem dX0_moveToBest_68 : decode cX0_moveToBest 68 = .ok (.if_icmp .ge 16, 3) := by decide +kernel
theorem dX0_moveToBest_71 : decode cX0_moveToBest 71 = .ok (.iload 7, 2) := by decide +kernel
theorem dX0_moveToBest_73 : decode cX0_moveToBest 73 = .ok (.istore 5, 2) := by decide +kernel
theorem dX0_moveToBest_75 : decode cX0_moveToBest 75 = .ok (.aload_n 0, 1) := by decide +kernel
theorem dX0_moveToBest_76 : decode cX0_moveToBest 76 = .ok (.iload_n 2, 1) := by decide +kernel
theorem dX0_moveToBest_77 : decode cX0_moveToBest 77 = .ok (.iload 7, 2) := by decide +kernel
theorem dX0_moveToBest_79 : decode cX0_moveToBest 79 = .ok (.invokevirtual 134, 3) := by decide +kernel
theorem dX0_moveToBest_82 : decode cX0_moveToBest 82 = .ok (.istore 6, 2) := by decide +kernel
theorem dX0_moveToBest_84 : decode cX0_moveToBest 84 = .ok (.iinc 7 1, 3) := by decide +kernel
theorem dX0_moveToBest_87 : decode cX0_moveToBest 87 = .ok (.goto (-47), 3) := by decide +kernel
theorem dX0_moveToBest_90 : decode cX0_moveToBest 90 = .ok (.iload 5, 2) := by decide +kernel
theorem dX0_moveToBest_92 : decode cX0_moveToBest 92 = .ok (.iload 4, 2) := by decide +kernel
theorem dX0_moveToBest_94 : decode cX0_moveToBest 94 = .ok (.if_icmp .eq 7, 3) := by decide +kernel
theorem dX0_moveToBest_97 : decode cX0_moveToBest 97 = .ok (.iconst 1, 1) := by decide +kernel
theorem dX0_moveToBest_98 : decode cX0_moveToBest 98 = .ok (.goto 4, 3) := by decide +kernel
theorem dX0_moveToBest_101 : decode cX0_moveToBest 101 = .ok (.iconst 0, 1) := by decide +kernel
theorem dX0_moveToBest_102 : decode cX0_moveToBest 102 = .ok (.istore 7, 2) := by decide +kernel
theorem dX0_moveToBest_104 : decode cX0_moveToBest 104 = .ok (.aload_n 0, 1) := by decide +kernel
theorem dX0_moveToBest_105 : decode cX0_moveToBest 105 = .ok (.iload_n 1, 1) := by decide +kernel
theorem dX0_moveToBest_106 : decode cX0_moveToBest 106 = .ok (.iload 7, 2) := by decide +kernel
theorem dX0_moveToBest_108 : decode cX0_moveToBest 108 = .ok (.ifCond .eq 19, 3) := by decide +kernel
theorem dX0_moveToBest_111 : decode cX0_moveToBest 111 = .ok (.iload 5, 2) := by decide +kernel
theorem dX0_moveToBest_113 : decode cX0_moveToBest 113 = .ok (.bipush 6, 2) := by decide +kernel
theorem dX0_moveToBest_115 : decode cX0_moveToBest 115 = .ok (.imul, 1) := by decide +kernel
theorem dX0_moveToBest_116 : decode cX0_moveToBest 116 = .ok (.aload_n 0, 1) := by decide +kernel
theorem dX0_moveToBest_117 : decode cX0_moveToBest 117 = .ok (.iload_n 2, 1) := by decide +kernel
theorem dX0_moveToBest_118 : decode cX0_moveToBest 118 = .ok (.iload 5, 2) := by decide +kernel
theorem dX0_moveToBest_120 : decode cX0_moveToBest 120 = .ok (.invokevirtual 81, 3) := by decide +kernel
theorem dX0_moveToBest_123 : decode cX0_moveToBest 123 = .ok (.iadd, 1) := by decide +kernel
theorem dX0_moveToBest_124 : decode cX0_moveToBest 124 = .ok (.goto 4, 3) := by decide +kernel
theorem dX0_moveToBest_127 : decode cX0_moveToBest 127 = .ok (.iload_n 3, 1) := by decide +kernel
theorem dX0_moveToBest_128 : decode cX0_moveToBest 128 = .ok (.invokevirtual 84, 3) := by decide +kernel
theorem dX0_moveToBest_131 : decode cX0_moveToBest 131 = .ok (.iload 7, 2) := by decide +kernel
theorem dX0_moveToBest_133 : decode cX0_moveToBest 133 = .ok (.ireturn, 1) := by decide +kernel
theorem dX0_partWith_0 : decode cX0_partWith 0 = .ok (.aload_n 0, 1) := by decide +kernel
theorem dX0_partWith_1 : decode cX0_partWith 1 = .ok (.getfield 12, 3) := by decide +kernel
theorem dX0_partWith_4 : decode cX0_partWith 4 = .ok (.iload_n 1, 1) := by decide +kernel
theorem dX0_partWith_5 : decode cX0_partWith 5 = .ok (.iload_n 2, 1) := by decide +kernel
theorem dX0_partWith_6 : decode cX0_partWith 6 = .ok (.invokevirtual 61, 3) := by decide +kernel
theorem dX0_partWith_9 : decode cX0_partWith 9 = .ok (.istore_n 3, 1) := by decide +kernel
theorem dX0_partWith_10 : decode cX0_partWith 10 = .ok (.aload_n 0, 1) := by decide +kernel
theorem dX0_partWith_11 : decode cX0_partWith 11 = .ok (.getfield 12, 3) := by decide +kernel
theorem dX0_partWith_14 : decode cX0_partWith 14 = .ok (.getfield 75, 3) := by decide +kernel
theorem dX0_partWith_17 : decode cX0_partWith 17 = .ok (.iload_n 1, 1) := by decide +kernel
theorem dX0_partWith_18 : decode cX0_partWith 18 = .ok (.iaload, 1) := by decide +kernel
theorem dX0_partWith_19 : decode cX0_partWith 19 = .ok (.istore 4, 2) := by decide +kernel
theorem dX0_partWith_21 : decode cX0_partWith 21 = .ok (.aload_n 0, 1) := by decide +kernel
theorem dX0_partWith_22 : decode cX0_partWith 22 = .ok (.aload_n 0, 1) := by decide +kernel
theorem dX0_partWith_23 : decode cX0_partWith 23 = .ok (.getfield 25, 3) := by decide +kernel
theorem dX0_partWith_26 : decode cX0_partWith 26 = .ok (.bipush 8, 2) := by decide +kernel
theorem dX0_partWith_28 : decode cX0_partWith 28 = .ok (.aload_n 0, 1) := by decide +kernel
theorem dX0_partWith_29 : decode cX0_partWith 29 = .ok (.getfield 12, 3) := by decide +kernel
theorem dX0_partWith_32 : decode cX0_partWith 32 = .ok (.getfield 69, 3) := by decide +kernel
theorem dX0_partWith_35 : decode cX0_partWith 35 = .ok (.iload_n 1, 1) := by decide +kernel
theorem dX0_partWith_36 : decode cX0_partWith 36 = .ok (.iaload, 1) := by decide +kernel
theorem dX0_partWith_37 : decode cX0_partWith 37 = .ok (.iadd, 1) := by decide +kernel
theorem dX0_partWith_38 : decode cX0_partWith 38 = .ok (.iaload, 1) := by decide +kernel
theorem dX0_partWith_39 : decode cX0_partWith 39 = .ok (.iload_n 3, 1) := by decide +kernel
theorem dX0_partWith_40 : decode cX0_partWith 40 = .ok (.ior, 1) := by decide +kernel
theorem dX0_partWith_41 : decode cX0_partWith 41 = .ok (.invokevirtual 111, 3) := by decide +kernel
theorem dX0_partWith_44 : decode cX0_partWith 44 = .ok (.aload_n 0, 1) := by decide +kernel
theorem dX0_partWith_45 : decode cX0_partWith 45 = .ok (.aload_n 0, 1) := by decide +kernel
theorem dX0_partWith_46 : decode cX0_partWith 46 = .ok (.getfield 25, 3) := by decide +kernel
theorem dX0_partWith_49 : decode cX0_partWith 49 = .ok (.aload_n 0, 1) := by decide +kernel
theorem dX0_partWith_50 : decode cX0_partWith 50 = .ok (.getfield 12, 3) := by decide +kernel
theorem dX0_partWith_53 : decode cX0_partWith 53 = .ok (.getfield 72, 3) := by decide +kernel
theorem dX0_partWith_56 : decode cX0_partWith 56 = .ok (.iload_n 1, 1) := by decide +kernel
theorem dX0_partWith_57 : decode cX0_partWith 57 = .ok (.iaload, 1) := by decide +kernel
theorem dX0_partWith_58 : decode cX0_partWith 58 = .ok (.iaload, 1) := by decide +kernel
theorem dX0_partWith_59 : decode cX0_partWith 59 = .ok (.iload_n 3, 1) := by decide +kernel
theorem dX0_partWith_60 : decode cX0_partWith 60 = .ok (.ior, 1) := by decide +kernel
theorem dX0_partWith_61 : decode cX0_partWith 61 = .ok (.invokevirtual 114, 3) := by decide +kernel
theorem dX0_partWith_64 : decode cX0_partWith 64 = .ok (.iadd, 1) := by decide +kernel
theorem dX0_partWith_65 : decode cX0_partWith 65 = .ok (.iload 4, 2) := by decide +kernel
theorem dX0_partWith_67 : decode cX0_partWith 67 = .ok (.iconst (-1), 1) := by decide +kernel
theorem dX0_partWith_68 : decode cX0_partWith 68 = .ok (.if_icmp .ne 7, 3) := by decide +kernel
theorem dX0_partWith_71 : decode cX0_partWith 71 = .ok (.iconst 0, 1) := by decide +kernel
theorem dX0_partWith_72 : decode cX0_partWith 72 = .ok (.goto 16, 3) := by decide +kernel
theorem dX0_partWith_75 : decode cX0_partWith 75 = .ok (.aload_n 0, 1) := by decide +kernel
theorem dX0_partWith_76 : decode cX0_partWith 76 = .ok (.aload_n 0, 1) := by decide +kernel
theorem dX0_partWith_77 : decode cX0_partWith 77 = .ok (.getfield 25, 3) := by decide +kernel
theorem dX0_partWith_80 : decode cX0_partWith 80 = .ok (.iload 4, 2) := by decide +kernel
theorem dX0_partWith_82 : decode cX0_partWith 82 = .ok (.iaload, 1) := by decide +kernel
theorem dX0_partWith_83 : decode cX0_partWith 83 = .ok (.iload_n 3, 1) := by decide +kernel
theorem dX0_partWith_84 : decode cX0_partWith 84 = .ok (.ior, 1) := by decide +kernel
theorem dX0_partWith_85 : decode cX0_partWith 85 = .ok (.invokevirtual 114, 3) := by decide +kernel
theorem dX0_partWith_88 : decode cX0_partWith 88 = .ok (.iadd, 1) := by decide +kernel
theorem dX0_partWith_89 : decode cX0_partWith 89 = .ok (.ireturn, 1) := by decide +kernel
theorem dX0_letterAt_0 : decode cX0_letterAt 0 = .ok (.iconst 0, 1) := by decide +kernel
theorem dX0_letterAt_1 : decode cX0_letterAt 1 = .ok (.istore_n 3, 1) := by decide +kernel
theorem dX0_letterAt_2 : decode cX0_letterAt 2 = .ok (.iload_n 3, 1) := by decide +kernel
theorem dX0_letterAt_3 : decode cX0_letterAt 3 = .ok (.bipush 64, 2) := by decide +kernel
theorem dX0_letterAt_5 : decode cX0_letterAt 5 = .ok (.if_icmp .ge 43, 3) := by decide +kernel
theorem dX0_letterAt_8 : decode cX0_letterAt 8 = .ok (.aload_n 0, 1) := by decide +kernel
theorem dX0_letterAt_9 : decode cX0_letterAt 9 = .ok (.iload_n 3, 1) := by decide +kernel
theorem dX0_letterAt_10 : decode cX0_letterAt 10 = .ok (.invokevirtual 137, 3) := by decide +kernel
theorem dX0_letterAt_13 : decode cX0_letterAt 13 = .ok (.iconst 1, 1) := by decide +kernel
theorem dX0_letterAt_14 : decode cX0_letterAt 14 = .ok (.iload_n 2, 1) := by decide +kernel
theorem dX0_letterAt_15 : decode cX0_letterAt 15 = .ok (.ishl, 1) := by decide +kernel
theorem dX0_letterAt_16 : decode cX0_letterAt 16 = .ok (.iand, 1) := by decide +kernel
theorem dX0_letterAt_17 : decode cX0_letterAt 17 = .ok (.ifCond .eq 25, 3) := by decide +kernel
theorem dX0_letterAt_20 : decode cX0_letterAt 20 = .ok (.aload_n 0, 1) := by decide +kernel
theorem dX0_letterAt_21 : decode cX0_letterAt 21 = .ok (.iload_n 3, 1) := by decide +kernel
theorem dX0_letterAt_22 : decode cX0_letterAt 22 = .ok (.iload_n 1, 1) := by decide +kernel
theorem dX0_letterAt_23 : decode cX0_letterAt 23 = .ok (.invokevirtual 140, 3) := by decide +kernel
theorem dX0_letterAt_26 : decode cX0_letterAt 26 = .ok (.ifCond .eq 16, 3) := by decide +kernel
theorem dX0_letterAt_29 : decode cX0_letterAt 29 = .ok (.aload_n 0, 1) := by decide +kernel
theorem dX0_letterAt_30 : decode cX0_letterAt 30 = .ok (.getfield 12, 3) := by decide +kernel
theorem dX0_letterAt_33 : decode cX0_letterAt 33 = .ok (.getfield 143, 3) := by decide +kernel
theorem dX0_letterAt_36 : decode cX0_letterAt 36 = .ok (.iload_n 3, 1) := by decide +kernel
theorem dX0_letterAt_37 : decode cX0_letterAt 37 = .ok (.invokestatic 57, 3) := by decide +kernel
theorem dX0_letterAt_40 : decode cX0_letterAt 40 = .ok (.iaload, 1) := by decide +kernel
theorem dX0_letterAt_41 : decode cX0_letterAt 41 = .ok (.ireturn, 1) := by decide +kernel
theorem dX0_letterAt_42 : decode cX0_letterAt 42 = .ok (.iinc 3 1, 3) := by decide +kernel
theorem dX0_letterAt_45 : decode cX0_letterAt 45 = .ok (.goto (-43), 3) := by decide +kernel
theorem dX0_letterAt_48 : decode cX0_letterAt 48 = .ok (.bipush 46, 2) := by decide +kernel
theorem dX0_letterAt_50 : decode cX0_letterAt 50 = .ok (.ireturn, 1) := by decide +kernel
theorem dX0_isUsedBy_0 : decode cX0_isUsedBy 0 = .ok (.iload_n 1, 1) := by decide +kernel
theorem dX0_isUsedBy_1 : decode cX0_isUsedBy 1 = .ok (.invokestatic 57, 3) := by decide +kernel
theorem dX0_isUsedBy_4 : decode cX0_isUsedBy 4 = .ok (.istore_n 3, 1) := by decide +kernel
theorem dX0_isUsedBy_5 : decode cX0_isUsedBy 5 = .ok (.iload_n 2, 1) := by decide +kernel
theorem dX0_isUsedBy_6 : decode cX0_isUsedBy 6 = .ok (.aload_n 0, 1) := by decide +kernel
theorem dX0_isUsedBy_7 : decode cX0_isUsedBy 7 = .ok (.getfield 12, 3) := by decide +kernel
theorem dX0_isUsedBy_10 : decode cX0_isUsedBy 10 = .ok (.getfield 72, 3) := by decide +kernel
theorem dX0_isUsedBy_13 : decode cX0_isUsedBy 13 = .ok (.iload_n 3, 1) := by decide +kernel
theorem dX0_isUsedBy_14 : decode cX0_isUsedBy 14 = .ok (.iaload, 1) := by decide +kernel
theorem dX0_isUsedBy_15 : decode cX0_isUsedBy 15 = .ok (.if_icmp .eq 44, 3) := by decide +kernel
theorem dX0_isUsedBy_18 : decode cX0_isUsedBy 18 = .ok (.iload_n 2, 1) := by decide +kernel
theorem dX0_isUsedBy_19 : decode cX0_isUsedBy 19 = .ok (.aload_n 0, 1) := by decide +kernel
theorem dX0_isUsedBy_20 : decode cX0_isUsedBy 20 = .ok (.getfield 12, 3) := by decide +kernel
theorem dX0_isUsedBy_23 : decode cX0_isUsedBy 23 = .ok (.getfield 75, 3) := by decide +kernel
theorem dX0_isUsedBy_26 : decode cX0_isUsedBy 26 = .ok (.iload_n 3, 1) := by decide +kernel
theorem dX0_isUsedBy_27 : decode cX0_isUsedBy 27 = .ok (.iaload, 1) := by decide +kernel
theorem dX0_isUsedBy_28 : decode cX0_isUsedBy 28 = .ok (.if_icmp .eq 31, 3) := by decide +kernel
theorem dX0_isUsedBy_31 : decode cX0_isUsedBy 31 = .ok (.iload_n 2, 1) := by decide +kernel
theorem dX0_isUsedBy_32 : decode cX0_isUsedBy 32 = .ok (.bipush 8, 2) := by decide +kernel
theorem dX0_isUsedBy_34 : decode cX0_isUsedBy 34 = .ok (.aload_n 0, 1) := by decide +kernel
theorem dX0_isUsedBy_35 : decode cX0_isUsedBy 35 = .ok (.getfield 12, 3) := by decide +kernel
theorem dX0_isUsedBy_38 : decode cX0_isUsedBy 38 = .ok (.getfield 69, 3) := by decide +kernel
theorem dX0_isUsedBy_41 : decode cX0_isUsedBy 41 = .ok (.iload_n 3, 1) := by decide +kernel
theorem dX0_isUsedBy_42 : decode cX0_isUsedBy 42 = .ok (.iaload, 1) := by decide +kernel
theorem dX0_isUsedBy_43 : decode cX0_isUsedBy 43 = .ok (.iadd, 1) := by decide +kernel
theorem dX0_isUsedBy_44 : decode cX0_isUsedBy 44 = .ok (.if_icmp .eq 15, 3) := by decide +kernel
theorem dX0_isUsedBy_47 : decode cX0_isUsedBy 47 = .ok (.iload_n 2, 1) := by decide +kernel
theorem dX0_isUsedBy_48 : decode cX0_isUsedBy 48 = .ok (.bipush 16, 2) := by decide +kernel
theorem dX0_isUsedBy_50 : decode cX0_isUsedBy 50 = .ok (.aload_n 0, 1) := by decide +kernel
theorem dX0_isUsedBy_51 : decode cX0_isUsedBy 51 = .ok (.iload_n 1, 1) := by decide +kernel
theorem dX0_isUsedBy_52 : decode cX0_isUsedBy 52 = .ok (.invokevirtual 146, 3) := by decide +kernel
theorem dX0_isUsedBy_55 : decode cX0_isUsedBy 55 = .ok (.iadd, 1) := by decide +kernel
theorem dX0_isUsedBy_56 : decode cX0_isUsedBy 56 = .ok (.if_icmp .ne 7, 3) := by decide +kernel
theorem dX0_isUsedBy_59 : decode cX0_isUsedBy 59 = .ok (.iconst 1, 1) := by decide +kernel
theorem dX0_isUsedBy_60 : decode cX0_isUsedBy 60 = .ok (.goto 4, 3) := by decide +kernel
theorem dX0_isUsedBy_63 : decode cX0_isUsedBy 63 = .ok (.iconst 0, 1) := by decide +kernel
theorem dX0_isUsedBy_64 : decode cX0_isUsedBy 64 = .ok (.ireturn, 1) := by decide +kernel
theorem dX0_itemBeginningAt_0 : decode cX0_itemBeginningAt 0 = .ok (.iconst 0, 1) := by decide +kernel
theorem dX0_itemBeginningAt_1 : decode cX0_itemBeginningAt 1 = .ok (.istore_n 3, 1) := by decide +kernel
theorem dX0_itemBeginningAt_2 : decode cX0_itemBeginningAt 2 = .ok (.iload_n 3, 1) := by decide +kernel
theorem dX0_itemBeginningAt_3 : decode cX0_itemBeginningAt 3 = .ok (.bipush 64, 2) := by decide +kernel
theorem dX0_itemBeginningAt_5 : decode cX0_itemBeginningAt 5 = .ok (.if_icmp .ge 36, 3) := by decide +kernel
theorem dX0_itemBeginningAt_8 : decode cX0_itemBeginningAt 8 = .ok (.aload_n 0, 1) := by decide +kernel
theorem dX0_itemBeginningAt_9 : decode cX0_itemBeginningAt 9 = .ok (.getfield 12, 3) := by decide +kernel
theorem dX0_itemBeginningAt_12 : decode cX0_itemBeginningAt 12 = .ok (.getfield 69, 3) := by decide +kernel
theorem dX0_itemBeginningAt_15 : decode cX0_itemBeginningAt 15 = .ok (.iload_n 3, 1) := by decide +kernel
theorem dX0_itemBeginningAt_16 : decode cX0_itemBeginningAt 16 = .ok (.invokestatic 57, 3) := by decide +kernel
theorem dX0_itemBeginningAt_19 : decode cX0_itemBeginningAt 19 = .ok (.iaload, 1) := by decide +kernel
theorem dX0_itemBeginningAt_20 : decode cX0_itemBeginningAt 20 = .ok (.iload_n 1, 1) := by decide +kernel
theorem dX0_itemBeginningAt_21 : decode cX0_itemBeginningAt 21 = .ok (.if_icmp .ne 14, 3) := by decide +kernel
theorem dX0_itemBeginningAt_24 : decode cX0_itemBeginningAt 24 = .ok (.aload_n 0, 1) := by decide +kernel
theorem dX0_itemBeginningAt_25 : decode cX0_itemBeginningAt 25 = .ok (.iload_n 3, 1) := by decide +kernel
theorem dX0_itemBeginningAt_26 : decode cX0_itemBeginningAt 26 = .ok (.invokevirtual 128, 3) := by decide +kernel
theorem dX0_itemBeginningAt_29 : decode cX0_itemBeginningAt 29 = .ok (.iload_n 2, 1) := by decide +kernel
theorem dX0_itemBeginningAt_30 : decode cX0_itemBeginningAt 30 = .ok (.if_icmp .ne 5, 3) := by decide +kernel
theorem dX0_itemBeginningAt_33 : decode cX0_itemBeginningAt 33 = .ok (.iload_n 3, 1) := by decide +kernel
theorem dX0_itemBeginningAt_34 : decode cX0_itemBeginningAt 34 = .ok (.ireturn, 1) := by decide +kernel
theorem dX0_itemBeginningAt_35 : decode cX0_itemBeginningAt 35 = .ok (.iinc 3 1, 3) := by decide +kernel
theorem dX0_itemBeginningAt_38 : decode cX0_itemBeginningAt 38 = .ok (.goto (-36), 3) := by decide +kernel
theorem dX0_itemBeginningAt_41 : decode cX0_itemBeginningAt 41 = .ok (.iconst (-1), 1) := by decide +kernel
theorem dX0_itemBeginningAt_42 : decode cX0_itemBeginningAt 42 = .ok (.ireturn, 1) := by decide +kernel
theorem dX0_itemsOnDay_0 : decode cX0_itemsOnDay 0 = .ok (.iconst 0, 1) := by decide +kernel
theorem dX0_itemsOnDay_1 : decode cX0_itemsOnDay 1 = .ok (.istore_n 3, 1) := by decide +kernel
theorem dX0_itemsOnDay_2 : decode cX0_itemsOnDay 2 = .ok (.iconst 0, 1) := by decide +kernel
theorem dX0_itemsOnDay_3 : decode cX0_itemsOnDay 3 = .ok (.istore 4, 2) := by decide +kernel
theorem dX0_itemsOnDay_5 : decode cX0_itemsOnDay 5 = .ok (.iload 4, 2) := by decide +kernel
theorem dX0_itemsOnDay_7 : decode cX0_itemsOnDay 7 = .ok (.bipush 64, 2) := by decide +kernel
theorem dX0_itemsOnDay_9 : decode cX0_itemsOnDay 9 = .ok (.if_icmp .ge 39, 3) := by decide +kernel
theorem dX0_itemsOnDay_12 : decode cX0_itemsOnDay 12 = .ok (.aload_n 0, 1) := by decide +kernel
theorem dX0_itemsOnDay_13 : decode cX0_itemsOnDay 13 = .ok (.getfield 12, 3) := by decide +kernel
theorem dX0_itemsOnDay_16 : decode cX0_itemsOnDay 16 = .ok (.getfield 69, 3) := by decide +kernel
theorem dX0_itemsOnDay_19 : decode cX0_itemsOnDay 19 = .ok (.iload 4, 2) := by decide +kernel
theorem dX0_itemsOnDay_21 : decode cX0_itemsOnDay 21 = .ok (.invokestatic 57, 3) := by decide +kernel
theorem dX0_itemsOnDay_24 : decode cX0_itemsOnDay 24 = .ok (.iaload, 1) := by decide +kernel
theorem dX0_itemsOnDay_25 : decode cX0_itemsOnDay 25 = .ok (.iload_n 1, 1) := by decide +kernel
theorem dX0_itemsOnDay_26 : decode cX0_itemsOnDay 26 = .ok (.if_icmp .ne 16, 3) := by decide +kernel
theorem dX0_itemsOnDay_29 : decode cX0_itemsOnDay 29 = .ok (.aload_n 0, 1) := by decide +kernel
theorem dX0_itemsOnDay_30 : decode cX0_itemsOnDay 30 = .ok (.iload 4, 2) := by decide +kernel
theorem dX0_itemsOnDay_32 : decode cX0_itemsOnDay 32 = .ok (.iload_n 2, 1) := by decide +kernel
theorem dX0_itemsOnDay_33 : decode cX0_itemsOnDay 33 = .ok (.invokevirtual 105, 3) := by decide +kernel
theorem dX0_itemsOnDay_36 : decode cX0_itemsOnDay 36 = .ok (.ifCond .eq 6, 3) := by decide +kernel
theorem dX0_itemsOnDay_39 : decode cX0_itemsOnDay 39 = .ok (.iinc 3 1, 3) := by decide +kernel
theorem dX0_itemsOnDay_42 : decode cX0_itemsOnDay 42 = .ok (.iinc 4 1, 3) := by decide +kernel
theorem dX0_itemsOnDay_45 : decode cX0_itemsOnDay 45 = .ok (.goto (-40), 3) := by decide +kernel
theorem dX0_itemsOnDay_48 : decode cX0_itemsOnDay 48 = .ok (.iload_n 3, 1) := by decide +kernel
theorem dX0_itemsOnDay_49 : decode cX0_itemsOnDay 49 = .ok (.ireturn, 1) := by decide +kernel
theorem dX1_init_0 : decode cX1_init 0 = .ok (.aload_n 0, 1) := by decide +kernel
theorem dX1_init_1 : decode cX1_init 1 = .ok (.invokespecial 3, 3) := by decide +kernel
theorem dX1_init_4 : decode cX1_init 4 = .ok (.aload_n 0, 1) := by decide +kernel
theorem dX1_init_5 : decode cX1_init 5 = .ok (.bipush 6, 2) := by decide +kernel
theorem dX1_init_7 : decode cX1_init 7 = .ok (.newarray .int, 2) := by decide +kernel
theorem dX1_init_9 : decode cX1_init 9 = .ok (.putfield 9, 3) := by decide +kernel
theorem dX1_init_12 : decode cX1_init 12 = .ok (.return_, 1) := by decide +kernel
theorem dX1_find_0 : decode cX1_find 0 = .ok (.aload_n 0, 1) := by decide +kernel
theorem dX1_find_1 : decode cX1_find 1 = .ok (.iconst 0, 1) := by decide +kernel
