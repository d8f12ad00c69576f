theorem dX6_improve_8 : decode cX6_improve 8 = .ok (.ifCond .ne 7, 3) := by decide +kernel
theorem dX6_improve_11 : decode cX6_improve 11 = .ok (.iconst 1, 1) := by decide +kernel
theorem dX6_improve_12 : decode cX6_improve 12 = .ok (.goto 4, 3) := by decide +kernel
theorem dX6_improve_15 : decode cX6_improve 15 = .ok (.iconst 0, 1) := by decide +kernel
theorem dX6_improve_16 : decode cX6_improve 16 = .ok (.iconst 0, 1) := by decide +kernel
theorem dX6_improve_17 : decode cX6_improve 17 = .ok (.invokevirtual 90, 3) := by decide +kernel
theorem dX6_improve_20 : decode cX6_improve 20 = .ok (.ifCond .eq 5, 3) := by decide +kernel
theorem dX6_improve_23 : decode cX6_improve 23 = .ok (.iconst 0, 1) := by decide +kernel
theorem dX6_improve_24 : decode cX6_improve 24 = .ok (.ireturn, 1) := by decide +kernel
theorem dX6_improve_25 : decode cX6_improve 25 = .ok (.aload_n 0, 1) := by decide +kernel
theorem dX6_improve_26 : decode cX6_improve 26 = .ok (.invokevirtual 125, 3) := by decide +kernel
theorem dX6_improve_29 : decode cX6_improve 29 = .ok (.iconst 1, 1) := by decide +kernel
theorem dX6_improve_30 : decode cX6_improve 30 = .ok (.istore_n 2, 1) := by decide +kernel
theorem dX6_improve_31 : decode cX6_improve 31 = .ok (.iconst 0, 1) := by decide +kernel
theorem dX6_improve_32 : decode cX6_improve 32 = .ok (.istore_n 3, 1) := by decide +kernel
theorem dX6_improve_33 : decode cX6_improve 33 = .ok (.iload_n 3, 1) := by decide +kernel
theorem dX6_improve_34 : decode cX6_improve 34 = .ok (.iload_n 1, 1) := by decide +kernel
theorem dX6_improve_35 : decode cX6_improve 35 = .ok (.if_icmp .ge 52, 3) := by decide +kernel
theorem dX6_improve_38 : decode cX6_improve 38 = .ok (.iload_n 2, 1) := by decide +kernel
theorem dX6_improve_39 : decode cX6_improve 39 = .ok (.ifCond .eq 48, 3) := by decide +kernel
theorem dX6_improve_42 : decode cX6_improve 42 = .ok (.iconst 0, 1) := by decide +kernel
theorem dX6_improve_43 : decode cX6_improve 43 = .ok (.istore_n 2, 1) := by decide +kernel
theorem dX6_improve_44 : decode cX6_improve 44 = .ok (.iconst 0, 1) := by decide +kernel
theorem dX6_improve_45 : decode cX6_improve 45 = .ok (.istore 4, 2) := by decide +kernel
theorem dX6_improve_47 : decode cX6_improve 47 = .ok (.iload 4, 2) := by decide +kernel
theorem dX6_improve_49 : decode cX6_improve 49 = .ok (.bipush 64, 2) := by decide +kernel
theorem dX6_improve_51 : decode cX6_improve 51 = .ok (.if_icmp .ge 30, 3) := by decide +kernel
theorem dX6_improve_54 : decode cX6_improve 54 = .ok (.aload_n 0, 1) := by decide +kernel
theorem dX6_improve_55 : decode cX6_improve 55 = .ok (.getfield 34, 3) := by decide +kernel
theorem dX6_improve_58 : decode cX6_improve 58 = .ok (.iload 4, 2) := by decide +kernel
theorem dX6_improve_60 : decode cX6_improve 60 = .ok (.iaload, 1) := by decide +kernel
theorem dX6_improve_61 : decode cX6_improve 61 = .ok (.ifCond .lt 14, 3) := by decide +kernel
theorem dX6_improve_64 : decode cX6_improve 64 = .ok (.aload_n 0, 1) := by decide +kernel
theorem dX6_improve_65 : decode cX6_improve 65 = .ok (.iload 4, 2) := by decide +kernel
theorem dX6_improve_67 : decode cX6_improve 67 = .ok (.invokevirtual 152, 3) := by decide +kernel
theorem dX6_improve_70 : decode cX6_improve 70 = .ok (.ifCond .eq 5, 3) := by decide +kernel
theorem dX6_improve_73 : decode cX6_improve 73 = .ok (.iconst 1, 1) := by decide +kernel
theorem dX6_improve_74 : decode cX6_improve 74 = .ok (.istore_n 2, 1) := by decide +kernel
theorem dX6_improve_75 : decode cX6_improve 75 = .ok (.iinc 4 1, 3) := by decide +kernel
theorem dX6_improve_78 : decode cX6_improve 78 = .ok (.goto (-31), 3) := by decide +kernel
theorem dX6_improve_81 : decode cX6_improve 81 = .ok (.iinc 3 1, 3) := by decide +kernel
theorem dX6_improve_84 : decode cX6_improve 84 = .ok (.goto (-51), 3) := by decide +kernel
theorem dX6_improve_87 : decode cX6_improve 87 = .ok (.aload_n 0, 1) := by decide +kernel
theorem dX6_improve_88 : decode cX6_improve 88 = .ok (.invokevirtual 132, 3) := by decide +kernel
theorem dX6_improve_91 : decode cX6_improve 91 = .ok (.aload_n 0, 1) := by decide +kernel
theorem dX6_improve_92 : decode cX6_improve 92 = .ok (.invokevirtual 148, 3) := by decide +kernel
theorem dX6_improve_95 : decode cX6_improve 95 = .ok (.ireturn, 1) := by decide +kernel
theorem dX6_load_0 : decode cX6_load 0 = .ok (.iconst 0, 1) := by decide +kernel
theorem dX6_load_1 : decode cX6_load 1 = .ok (.istore_n 3, 1) := by decide +kernel
theorem dX6_load_2 : decode cX6_load 2 = .ok (.iconst 0, 1) := by decide +kernel
theorem dX6_load_3 : decode cX6_load 3 = .ok (.istore 4, 2) := by decide +kernel
theorem dX6_load_5 : decode cX6_load 5 = .ok (.iload 4, 2) := by decide +kernel
theorem dX6_load_7 : decode cX6_load 7 = .ok (.bipush 64, 2) := by decide +kernel
theorem dX6_load_9 : decode cX6_load 9 = .ok (.if_icmp .ge 54, 3) := by decide +kernel
theorem dX6_load_12 : decode cX6_load 12 = .ok (.iload_n 3, 1) := by decide +kernel
theorem dX6_load_13 : decode cX6_load 13 = .ok (.aload_n 0, 1) := by decide +kernel
theorem dX6_load_14 : decode cX6_load 14 = .ok (.getfield 34, 3) := by decide +kernel
theorem dX6_load_17 : decode cX6_load 17 = .ok (.iload 4, 2) := by decide +kernel
theorem dX6_load_19 : decode cX6_load 19 = .ok (.iaload, 1) := by decide +kernel
theorem dX6_load_20 : decode cX6_load 20 = .ok (.ifCond .lt 34, 3) := by decide +kernel
theorem dX6_load_23 : decode cX6_load 23 = .ok (.aload_n 0, 1) := by decide +kernel
theorem dX6_load_24 : decode cX6_load 24 = .ok (.getfield 34, 3) := by decide +kernel
theorem dX6_load_27 : decode cX6_load 27 = .ok (.iload 4, 2) := by decide +kernel
theorem dX6_load_29 : decode cX6_load 29 = .ok (.iaload, 1) := by decide +kernel
theorem dX6_load_30 : decode cX6_load 30 = .ok (.aload_n 0, 1) := by decide +kernel
theorem dX6_load_31 : decode cX6_load 31 = .ok (.getfield 66, 3) := by decide +kernel
theorem dX6_load_34 : decode cX6_load 34 = .ok (.idiv, 1) := by decide +kernel
theorem dX6_load_35 : decode cX6_load 35 = .ok (.iload_n 2, 1) := by decide +kernel
theorem dX6_load_36 : decode cX6_load 36 = .ok (.if_icmp .ne 18, 3) := by decide +kernel
theorem dX6_load_39 : decode cX6_load 39 = .ok (.aload_n 0, 1) := by decide +kernel
theorem dX6_load_40 : decode cX6_load 40 = .ok (.iload 4, 2) := by decide +kernel
theorem dX6_load_42 : decode cX6_load 42 = .ok (.iconst 1, 1) := by decide +kernel
theorem dX6_load_43 : decode cX6_load 43 = .ok (.iload_n 1, 1) := by decide +kernel
theorem dX6_load_44 : decode cX6_load 44 = .ok (.invokevirtual 87, 3) := by decide +kernel
theorem dX6_load_47 : decode cX6_load 47 = .ok (.ifCond .eq 7, 3) := by decide +kernel
theorem dX6_load_50 : decode cX6_load 50 = .ok (.iconst 1, 1) := by decide +kernel
theorem dX6_load_51 : decode cX6_load 51 = .ok (.goto 4, 3) := by decide +kernel
theorem dX6_load_54 : decode cX6_load 54 = .ok (.iconst 0, 1) := by decide +kernel
theorem dX6_load_55 : decode cX6_load 55 = .ok (.iadd, 1) := by decide +kernel
theorem dX6_load_56 : decode cX6_load 56 = .ok (.istore_n 3, 1) := by decide +kernel
theorem dX6_load_57 : decode cX6_load 57 = .ok (.iinc 4 1, 3) := by decide +kernel
theorem dX6_load_60 : decode cX6_load 60 = .ok (.goto (-55), 3) := by decide +kernel
theorem dX6_load_63 : decode cX6_load 63 = .ok (.iconst 0, 1) := by decide +kernel
theorem dX6_load_64 : decode cX6_load 64 = .ok (.istore 4, 2) := by decide +kernel
theorem dX6_load_66 : decode cX6_load 66 = .ok (.iload 4, 2) := by decide +kernel
theorem dX6_load_68 : decode cX6_load 68 = .ok (.aload_n 0, 1) := by decide +kernel
theorem dX6_load_69 : decode cX6_load 69 = .ok (.getfield 155, 3) := by decide +kernel
theorem dX6_load_72 : decode cX6_load 72 = .ok (.if_icmp .ge 28, 3) := by decide +kernel
theorem dX6_load_75 : decode cX6_load 75 = .ok (.iload_n 3, 1) := by decide +kernel
theorem dX6_load_76 : decode cX6_load 76 = .ok (.aload_n 0, 1) := by decide +kernel
theorem dX6_load_77 : decode cX6_load 77 = .ok (.getfield 59, 3) := by decide +kernel
theorem dX6_load_80 : decode cX6_load 80 = .ok (.iload 4, 2) := by decide +kernel
theorem dX6_load_82 : decode cX6_load 82 = .ok (.iaload, 1) := by decide +kernel
theorem dX6_load_83 : decode cX6_load 83 = .ok (.iload_n 1, 1) := by decide +kernel
theorem dX6_load_84 : decode cX6_load 84 = .ok (.if_icmp .ne 7, 3) := by decide +kernel
theorem dX6_load_87 : decode cX6_load 87 = .ok (.iconst 1, 1) := by decide +kernel
theorem dX6_load_88 : decode cX6_load 88 = .ok (.goto 4, 3) := by decide +kernel
theorem dX6_load_91 : decode cX6_load 91 = .ok (.iconst 0, 1) := by decide +kernel
theorem dX6_load_92 : decode cX6_load 92 = .ok (.iadd, 1) := by decide +kernel
theorem dX6_load_93 : decode cX6_load 93 = .ok (.istore_n 3, 1) := by decide +kernel
theorem dX6_load_94 : decode cX6_load 94 = .ok (.iinc 4 1, 3) := by decide +kernel
theorem dX6_load_97 : decode cX6_load 97 = .ok (.goto (-31), 3) := by decide +kernel
theorem dX6_load_100 : decode cX6_load 100 = .ok (.iload_n 3, 1) := by decide +kernel
theorem dX6_load_101 : decode cX6_load 101 = .ok (.ireturn, 1) := by decide +kernel
theorem dX6_mayTake_0 : decode cX6_mayTake 0 = .ok (.aload_n 0, 1) := by decide +kernel
theorem dX6_mayTake_1 : decode cX6_mayTake 1 = .ok (.getfield 34, 3) := by decide +kernel
theorem dX6_mayTake_4 : decode cX6_mayTake 4 = .ok (.iload_n 2, 1) := by decide +kernel
theorem dX6_mayTake_5 : decode cX6_mayTake 5 = .ok (.iaload, 1) := by decide +kernel
theorem dX6_mayTake_6 : decode cX6_mayTake 6 = .ok (.istore_n 3, 1) := by decide +kernel
theorem dX6_mayTake_7 : decode cX6_mayTake 7 = .ok (.aload_n 0, 1) := by decide +kernel
theorem dX6_mayTake_8 : decode cX6_mayTake 8 = .ok (.getfield 25, 3) := by decide +kernel
theorem dX6_mayTake_11 : decode cX6_mayTake 11 = .ok (.iload_n 2, 1) := by decide +kernel
theorem dX6_mayTake_12 : decode cX6_mayTake 12 = .ok (.invokestatic 79, 3) := by decide +kernel
theorem dX6_mayTake_15 : decode cX6_mayTake 15 = .ok (.iaload, 1) := by decide +kernel
theorem dX6_mayTake_16 : decode cX6_mayTake 16 = .ok (.istore 4, 2) := by decide +kernel
theorem dX6_mayTake_18 : decode cX6_mayTake 18 = .ok (.aload_n 0, 1) := by decide +kernel
theorem dX6_mayTake_19 : decode cX6_mayTake 19 = .ok (.iconst 1, 1) := by decide +kernel
theorem dX6_mayTake_20 : decode cX6_mayTake 20 = .ok (.iload_n 1, 1) := by decide +kernel
theorem dX6_mayTake_21 : decode cX6_mayTake 21 = .ok (.iload_n 3, 1) := by decide +kernel
theorem dX6_mayTake_22 : decode cX6_mayTake 22 = .ok (.iload 4, 2) := by decide +kernel
theorem dX6_mayTake_24 : decode cX6_mayTake 24 = .ok (.invokevirtual 105, 3) := by decide +kernel
theorem dX6_mayTake_27 : decode cX6_mayTake 27 = .ok (.ifCond .ne 19, 3) := by decide +kernel
theorem dX6_mayTake_30 : decode cX6_mayTake 30 = .ok (.aload_n 0, 1) := by decide +kernel
theorem dX6_mayTake_31 : decode cX6_mayTake 31 = .ok (.iconst 1, 1) := by decide +kernel
theorem dX6_mayTake_32 : decode cX6_mayTake 32 = .ok (.iload_n 1, 1) := by decide +kernel
theorem dX6_mayTake_33 : decode cX6_mayTake 33 = .ok (.iload_n 3, 1) := by decide +kernel
theorem dX6_mayTake_34 : decode cX6_mayTake 34 = .ok (.iload 4, 2) := by decide +kernel
theorem dX6_mayTake_36 : decode cX6_mayTake 36 = .ok (.invokevirtual 109, 3) := by decide +kernel
theorem dX6_mayTake_39 : decode cX6_mayTake 39 = .ok (.ifCond .ne 7, 3) := by decide +kernel
theorem dX6_mayTake_42 : decode cX6_mayTake 42 = .ok (.iconst 1, 1) := by decide +kernel
theorem dX6_mayTake_43 : decode cX6_mayTake 43 = .ok (.goto 4, 3) := by decide +kernel
theorem dX6_mayTake_46 : decode cX6_mayTake 46 = .ok (.iconst 0, 1) := by decide +kernel
theorem dX6_mayTake_47 : decode cX6_mayTake 47 = .ok (.istore 5, 2) := by decide +kernel
theorem dX6_mayTake_49 : decode cX6_mayTake 49 = .ok (.iconst 0, 1) := by decide +kernel
theorem dX6_mayTake_50 : decode cX6_mayTake 50 = .ok (.istore 6, 2) := by decide +kernel
theorem dX6_mayTake_52 : decode cX6_mayTake 52 = .ok (.iload 6, 2) := by decide +kernel
theorem dX6_mayTake_54 : decode cX6_mayTake 54 = .ok (.aload_n 0, 1) := by decide +kernel
theorem dX6_mayTake_55 : decode cX6_mayTake 55 = .ok (.getfield 155, 3) := by decide +kernel
theorem dX6_mayTake_58 : decode cX6_mayTake 58 = .ok (.if_icmp .ge 77, 3) := by decide +kernel
theorem dX6_mayTake_61 : decode cX6_mayTake 61 = .ok (.aload_n 0, 1) := by decide +kernel
theorem dX6_mayTake_62 : decode cX6_mayTake 62 = .ok (.getfield 34, 3) := by decide +kernel
theorem dX6_mayTake_65 : decode cX6_mayTake 65 = .ok (.aload_n 0, 1) := by decide +kernel
theorem dX6_mayTake_66 : decode cX6_mayTake 66 = .ok (.getfield 44, 3) := by decide +kernel
theorem dX6_mayTake_69 : decode cX6_mayTake 69 = .ok (.iload 6, 2) := by decide +kernel
theorem dX6_mayTake_71 : decode cX6_mayTake 71 = .ok (.iaload, 1) := by decide +kernel
theorem dX6_mayTake_72 : decode cX6_mayTake 72 = .ok (.iaload, 1) := by decide +kernel
theorem dX6_mayTake_73 : decode cX6_mayTake 73 = .ok (.istore 7, 2) := by decide +kernel
theorem dX6_mayTake_75 : decode cX6_mayTake 75 = .ok (.iload 5, 2) := by decide +kernel
theorem dX6_mayTake_77 : decode cX6_mayTake 77 = .ok (.ifCond .eq 49, 3) := by decide +kernel
theorem dX6_mayTake_80 : decode cX6_mayTake 80 = .ok (.aload_n 0, 1) := by decide +kernel
theorem dX6_mayTake_81 : decode cX6_mayTake 81 = .ok (.getfield 59, 3) := by decide +kernel
theorem dX6_mayTake_84 : decode cX6_mayTake 84 = .ok (.iload 6, 2) := by decide +kernel
theorem dX6_mayTake_86 : decode cX6_mayTake 86 = .ok (.iaload, 1) := by decide +kernel
theorem dX6_mayTake_87 : decode cX6_mayTake 87 = .ok (.iload_n 1, 1) := by decide +kernel
theorem dX6_mayTake_88 : decode cX6_mayTake 88 = .ok (.if_icmp .ne 34, 3) := by decide +kernel
theorem dX6_mayTake_91 : decode cX6_mayTake 91 = .ok (.iload 7, 2) := by decide +kernel
theorem dX6_mayTake_93 : decode cX6_mayTake 93 = .ok (.aload_n 0, 1) := by decide +kernel
theorem dX6_mayTake_94 : decode cX6_mayTake 94 = .ok (.getfield 25, 3) := by decide +kernel
theorem dX6_mayTake_97 : decode cX6_mayTake 97 = .ok (.aload_n 0, 1) := by decide +kernel
theorem dX6_mayTake_98 : decode cX6_mayTake 98 = .ok (.getfield 44, 3) := by decide +kernel
theorem dX6_mayTake_101 : decode cX6_mayTake 101 = .ok (.iload 6, 2) := by decide +kernel
theorem dX6_mayTake_103 : decode cX6_mayTake 103 = .ok (.iaload, 1) := by decide +kernel
theorem dX6_mayTake_104 : decode cX6_mayTake 104 = .ok (.invokestatic 79, 3) := by decide +kernel
theorem dX6_mayTake_107 : decode cX6_mayTake 107 = .ok (.iaload, 1) := by decide +kernel
theorem dX6_mayTake_108 : decode cX6_mayTake 108 = .ok (.iadd, 1) := by decide +kernel
theorem dX6_mayTake_109 : decode cX6_mayTake 109 = .ok (.iload_n 3, 1) := by decide +kernel
theorem dX6_mayTake_110 : decode cX6_mayTake 110 = .ok (.if_icmp .le 12, 3) := by decide +kernel
theorem dX6_mayTake_113 : decode cX6_mayTake 113 = .ok (.iload_n 3, 1) := by decide +kernel
theorem dX6_mayTake_114 : decode cX6_mayTake 114 = .ok (.iload 4, 2) := by decide +kernel
theorem dX6_mayTake_116 : decode cX6_mayTake 116 = .ok (.iadd, 1) := by decide +kernel
theorem dX6_mayTake_117 : decode cX6_mayTake 117 = .ok (.iload 7, 2) := by decide +kernel
theorem dX6_mayTake_119 : decode cX6_mayTake 119 = .ok (.if_icmp .gt 7, 3) := by decide +kernel
theorem dX6_mayTake_122 : decode cX6_mayTake 122 = .ok (.iconst 1, 1) := by decide +kernel
theorem dX6_mayTake_123 : decode cX6_mayTake 123 = .ok (.goto 4, 3) := by decide +kernel
theorem dX6_mayTake_126 : decode cX6_mayTake 126 = .ok (.iconst 0, 1) := by decide +kernel
theorem dX6_mayTake_127 : decode cX6_mayTake 127 = .ok (.istore 5, 2) := by decide +kernel
theorem dX6_mayTake_129 : decode cX6_mayTake 129 = .ok (.iinc 6 1, 3) := by decide +kernel
theorem dX6_mayTake_132 : decode cX6_mayTake 132 = .ok (.goto (-80), 3) := by decide +kernel
theorem dX6_mayTake_135 : decode cX6_mayTake 135 = .ok (.iload 5, 2) := by decide +kernel
theorem dX6_mayTake_137 : decode cX6_mayTake 137 = .ok (.ireturn, 1) := by decide +kernel
theorem dX6_absent_0 : decode cX6_absent 0 = .ok (.aload_n 0, 1) := by decide +kernel
theorem dX6_absent_1 : decode cX6_absent 1 = .ok (.iload_n 1, 1) := by decide +kernel
theorem dX6_absent_2 : decode cX6_absent 2 = .ok (.iconst 0, 1) := by decide +kernel
theorem dX6_absent_3 : decode cX6_absent 3 = .ok (.bipush 7, 2) := by decide +kernel
theorem dX6_absent_5 : decode cX6_absent 5 = .ok (.invokestatic 72, 3) := by decide +kernel
theorem dX6_absent_8 : decode cX6_absent 8 = .ok (.ifCond .eq 17, 3) := by decide +kernel
theorem dX6_absent_11 : decode cX6_absent 11 = .ok (.iload_n 2, 1) := by decide +kernel
theorem dX6_absent_12 : decode cX6_absent 12 = .ok (.iconst 0, 1) := by decide +kernel
theorem dX6_absent_13 : decode cX6_absent 13 = .ok (.aload_n 0, 1) := by decide +kernel
theorem dX6_absent_14 : decode cX6_absent 14 = .ok (.getfield 62, 3) := by decide +kernel
theorem dX6_absent_17 : decode cX6_absent 17 = .ok (.iconst 1, 1) := by decide +kernel
theorem dX6_absent_18 : decode cX6_absent 18 = .ok (.isub, 1) := by decide +kernel
theorem dX6_absent_19 : decode cX6_absent 19 = .ok (.invokestatic 72, 3) := by decide +kernel
theorem dX6_absent_22 : decode cX6_absent 22 = .ok (.ifCond .ne 7, 3) := by decide +kernel
theorem dX6_absent_25 : decode cX6_absent 25 = .ok (.iconst 1, 1) := by decide +kernel
theorem dX6_absent_26 : decode cX6_absent 26 = .ok (.goto 4, 3) := by decide +kernel
theorem dX6_absent_29 : decode cX6_absent 29 = .ok (.iconst 0, 1) := by decide +kernel
theorem dX6_absent_30 : decode cX6_absent 30 = .ok (.iconst 0, 1) := by decide +kernel
theorem dX6_absent_31 : decode cX6_absent 31 = .ok (.invokevirtual 90, 3) := by decide +kernel
theorem dX6_absent_34 : decode cX6_absent 34 = .ok (.ifCond .eq 5, 3) := by decide +kernel
theorem dX6_absent_37 : decode cX6_absent 37 = .ok (.iconst 0, 1) := by decide +kernel
theorem dX6_absent_38 : decode cX6_absent 38 = .ok (.ireturn, 1) := by decide +kernel
theorem dX6_absent_39 : decode cX6_absent 39 = .ok (.aload_n 0, 1) := by decide +kernel
theorem dX6_absent_40 : decode cX6_absent 40 = .ok (.iconst 0, 1) := by decide +kernel
theorem dX6_absent_41 : decode cX6_absent 41 = .ok (.putfield 155, 3) := by decide +kernel
theorem dX6_absent_44 : decode cX6_absent 44 = .ok (.iload_n 2, 1) := by decide +kernel
theorem dX6_absent_45 : decode cX6_absent 45 = .ok (.aload_n 0, 1) := by decide +kernel
theorem dX6_absent_46 : decode cX6_absent 46 = .ok (.getfield 66, 3) := by decide +kernel
theorem dX6_absent_49 : decode cX6_absent 49 = .ok (.imul, 1) := by decide +kernel
theorem dX6_absent_50 : decode cX6_absent 50 = .ok (.istore_n 3, 1) := by decide +kernel
theorem dX6_absent_51 : decode cX6_absent 51 = .ok (.iload_n 3, 1) := by decide +kernel
theorem dX6_absent_52 : decode cX6_absent 52 = .ok (.iload_n 2, 1) := by decide +kernel
theorem dX6_absent_53 : decode cX6_absent 53 = .ok (.iconst 1, 1) := by decide +kernel
theorem dX6_absent_54 : decode cX6_absent 54 = .ok (.iadd, 1) := by decide +kernel
theorem dX6_absent_55 : decode cX6_absent 55 = .ok (.aload_n 0, 1) := by decide +kernel
theorem dX6_absent_56 : decode cX6_absent 56 = .ok (.getfield 66, 3) := by decide +kernel
theorem dX6_absent_59 : decode cX6_absent 59 = .ok (.imul, 1) := by decide +kernel
theorem dX6_absent_60 : decode cX6_absent 60 = .ok (.if_icmp .ge 145, 3) := by decide +kernel
theorem dX6_absent_63 : decode cX6_absent 63 = .ok (.aload_n 0, 1) := by decide +kernel
theorem dX6_absent_64 : decode cX6_absent 64 = .ok (.iconst 1, 1) := by decide +kernel
theorem dX6_absent_65 : decode cX6_absent 65 = .ok (.iload_n 1, 1) := by decide +kernel
theorem dX6_absent_66 : decode cX6_absent 66 = .ok (.iload_n 3, 1) := by decide +kernel
theorem dX6_absent_67 : decode cX6_absent 67 = .ok (.invokevirtual 98, 3) := by decide +kernel
theorem dX6_absent_70 : decode cX6_absent 70 = .ok (.istore 4, 2) := by decide +kernel
theorem dX6_absent_72 : decode cX6_absent 72 = .ok (.iload 4, 2) := by decide +kernel
theorem dX6_absent_74 : decode cX6_absent 74 = .ok (.ifCond .lt 125, 3) := by decide +kernel
theorem dX6_absent_77 : decode cX6_absent 77 = .ok (.aload_n 0, 1) := by decide +kernel
theorem dX6_absent_78 : decode cX6_absent 78 = .ok (.getfield 34, 3) := by decide +kernel
theorem dX6_absent_81 : decode cX6_absent 81 = .ok (.iload 4, 2) := by decide +kernel
theorem dX6_absent_83 : decode cX6_absent 83 = .ok (.iaload, 1) := by decide +kernel
theorem dX6_absent_84 : decode cX6_absent 84 = .ok (.iload_n 3, 1) := by decide +kernel
theorem dX6_absent_85 : decode cX6_absent 85 = .ok (.if_icmp .ne 114, 3) := by decide +kernel
theorem dX6_absent_88 : decode cX6_absent 88 = .ok (.aload_n 0, 1) := by decide +kernel
theorem dX6_absent_89 : decode cX6_absent 89 = .ok (.getfield 44, 3) := by decide +kernel
theorem dX6_absent_92 : decode cX6_absent 92 = .ok (.aload_n 0, 1) := by decide +kernel
theorem dX6_absent_93 : decode cX6_absent 93 = .ok (.getfield 155, 3) := by decide +kernel
theorem dX6_absent_96 : decode cX6_absent 96 = .ok (.iload 4, 2) := by decide +kernel
theorem dX6_absent_98 : decode cX6_absent 98 = .ok (.iastore, 1) := by decide +kernel
theorem dX6_absent_99 : decode cX6_absent 99 = .ok (.iconst (-1), 1) := by decide +kernel
theorem dX6_absent_100 : decode cX6_absent 100 = .ok (.istore 5, 2) := by decide +kernel
theorem dX6_absent_102 : decode cX6_absent 102 = .ok (.iconst 0, 1) := by decide +kernel
theorem dX6_absent_103 : decode cX6_absent 103 = .ok (.istore 6, 2) := by decide +kernel
theorem dX6_absent_105 : decode cX6_absent 105 = .ok (.iload 6, 2) := by decide +kernel
theorem dX6_absent_107 : decode cX6_absent 107 = .ok (.bipush 8, 2) := by decide +kernel
theorem dX6_absent_109 : decode cX6_absent 109 = .ok (.if_icmp .ge 69, 3) := by decide +kernel
theorem dX6_absent_112 : decode cX6_absent 112 = .ok (.iload 6, 2) := by decide +kernel
theorem dX6_absent_114 : decode cX6_absent 114 = .ok (.iload_n 1, 1) := by decide +kernel
theorem dX6_absent_115 : decode cX6_absent 115 = .ok (.if_icmp .eq 40, 3) := by decide +kernel
theorem dX6_absent_118 : decode cX6_absent 118 = .ok (.aload_n 0, 1) := by decide +kernel
theorem dX6_absent_119 : decode cX6_absent 119 = .ok (.iload 6, 2) := by decide +kernel
theorem dX6_absent_121 : decode cX6_absent 121 = .ok (.iload 4, 2) := by decide +kernel
theorem dX6_absent_123 : decode cX6_absent 123 = .ok (.invokevirtual 158, 3) := by decide +kernel
theorem dX6_absent_126 : decode cX6_absent 126 = .ok (.ifCond .eq 29, 3) := by decide +kernel
theorem dX6_absent_129 : decode cX6_absent 129 = .ok (.iload 5, 2) := by decide +kernel
theorem dX6_absent_131 : decode cX6_absent 131 = .ok (.ifCond .lt 20, 3) := by decide +kernel
theorem dX6_absent_134 : decode cX6_absent 134 = .ok (.aload_n 0, 1) := by decide +kernel
theorem dX6_absent_135 : decode cX6_absent 135 = .ok (.iload 6, 2) := by decide +kernel
theorem dX6_absent_137 : decode cX6_absent 137 = .ok (.iload_n 2, 1) := by decide +kernel
theorem dX6_absent_138 : decode cX6_absent 138 = .ok (.invokevirtual 161, 3) := by decide +kernel
theorem dX6_absent_141 : decode cX6_absent 141 = .ok (.aload_n 0, 1) := by decide +kernel
theorem dX6_absent_142 : decode cX6_absent 142 = .ok (.iload 5, 2) := by decide +kernel
theorem dX6_absent_144 : decode cX6_absent 144 = .ok (.iload_n 2, 1) := by decide +kernel
theorem dX6_absent_145 : decode cX6_absent 145 = .ok (.invokevirtual 161, 3) := by decide +kernel
theorem dX6_absent_148 : decode cX6_absent 148 = .ok (.if_icmp .ge 7, 3) := by decide +kernel
theorem dX6_absent_151 : decode cX6_absent 151 = .ok (.iconst 1, 1) := by decide +kernel
theorem dX6_absent_152 : decode cX6_absent 152 = .ok (.goto 4, 3) := by decide +kernel
theorem dX6_absent_155 : decode cX6_absent 155 = .ok (.iconst 0, 1) := by decide +kernel
theorem dX6_absent_156 : decode cX6_absent 156 = .ok (.istore 7, 2) := by decide +kernel
theorem dX6_absent_158 : decode cX6_absent 158 = .ok (.iload 7, 2) := by decide +kernel
theorem dX6_absent_160 : decode cX6_absent 160 = .ok (.ifCond .eq 8, 3) := by decide +kernel
theorem dX6_absent_163 : decode cX6_absent 163 = .ok (.iload 6, 2) := by decide +kernel
theorem dX6_absent_165 : decode cX6_absent 165 = .ok (.goto 5, 3) := by decide +kernel
theorem dX6_absent_168 : decode cX6_absent 168 = .ok (.iload 5, 2) := by decide +kernel
theorem dX6_absent_170 : decode cX6_absent 170 = .ok (.istore 5, 2) := by decide +kernel
theorem dX6_absent_172 : decode cX6_absent 172 = .ok (.iinc 6 1, 3) := by decide +kernel
theorem dX6_absent_175 : decode cX6_absent 175 = .ok (.goto (-70), 3) := by decide +kernel
theorem dX6_absent_178 : decode cX6_absent 178 = .ok (.aload_n 0, 1) := by decide +kernel
theorem dX6_absent_179 : decode cX6_absent 179 = .ok (.getfield 59, 3) := by decide +kernel
theorem dX6_absent_182 : decode cX6_absent 182 = .ok (.aload_n 0, 1) := by decide +kernel
theorem dX6_absent_183 : decode cX6_absent 183 = .ok (.getfield 155, 3) := by decide +kernel
theorem dX6_absent_186 : decode cX6_absent 186 = .ok (.iload 5, 2) := by decide +kernel
theorem dX6_absent_188 : decode cX6_absent 188 = .ok (.iastore, 1) := by decide +kernel
theorem dX6_absent_189 : decode cX6_absent 189 = .ok (.aload_n 0, 1) := by decide +kernel
theorem dX6_absent_190 : decode cX6_absent 190 = .ok (.dup, 1) := by decide +kernel
theorem dX6_absent_191 : decode cX6_absent 191 = .ok (.getfield 155, 3) := by decide +kernel
theorem dX6_absent_194 : decode cX6_absent 194 = .ok (.iconst 1, 1) := by decide +kernel
theorem dX6_absent_195 : decode cX6_absent 195 = .ok (.iadd, 1) := by decide +kernel
theorem dX6_absent_196 : decode cX6_absent 196 = .ok (.putfield 155, 3) := by decide +kernel
theorem dX6_absent_199 : decode cX6_absent 199 = .ok (.iinc 3 1, 3) := by decide +kernel
theorem dX6_absent_202 : decode cX6_absent 202 = .ok (.goto (-151), 3) := by decide +kernel
theorem dX6_absent_205 : decode cX6_absent 205 = .ok (.aload_n 0, 1) := by decide +kernel
theorem dX6_absent_206 : decode cX6_absent 206 = .ok (.getfield 155, 3) := by decide +kernel
theorem dX6_absent_209 : decode cX6_absent 209 = .ok (.ireturn, 1) := by decide +kernel
theorem dX6_substitute_0 : decode cX6_substitute 0 = .ok (.aload_n 0, 1) := by decide +kernel
theorem dX6_substitute_1 : decode cX6_substitute 1 = .ok (.iload_n 1, 1) := by decide +kernel
theorem dX6_substitute_2 : decode cX6_substitute 2 = .ok (.iconst 0, 1) := by decide +kernel
theorem dX6_substitute_3 : decode cX6_substitute 3 = .ok (.aload_n 0, 1) := by decide +kernel
theorem dX6_substitute_4 : decode cX6_substitute 4 = .ok (.getfield 155, 3) := by decide +kernel
theorem dX6_substitute_7 : decode cX6_substitute 7 = .ok (.iconst 1, 1) := by decide +kernel
theorem dX6_substitute_8 : decode cX6_substitute 8 = .ok (.isub, 1) := by decide +kernel
theorem dX6_substitute_9 : decode cX6_substitute 9 = .ok (.invokestatic 72, 3) := by decide +kernel
theorem dX6_substitute_12 : decode cX6_substitute 12 = .ok (.ifCond .ne 7, 3) := by decide +kernel
theorem dX6_substitute_15 : decode cX6_substitute 15 = .ok (.iconst 1, 1) := by decide +kernel
theorem dX6_substitute_16 : decode cX6_substitute 16 = .ok (.goto 4, 3) := by decide +kernel
theorem dX6_substitute_19 : decode cX6_substitute 19 = .ok (.iconst 0, 1) := by decide +kernel
theorem dX6_substitute_20 : decode cX6_substitute 20 = .ok (.iconst 0, 1) := by decide +kernel
theorem dX6_substitute_21 : decode cX6_substitute 21 = .ok (.invokevirtual 90, 3) := by decide +kernel
theorem dX6_substitute_24 : decode cX6_substitute 24 = .ok (.ifCond .eq 5, 3) := by decide +kernel
theorem dX6_substitute_27 : decode cX6_substitute 27 = .ok (.iconst 0, 1) := by decide +kernel
theorem dX6_substitute_28 : decode cX6_substitute 28 = .ok (.ireturn, 1) := by decide +kernel
theorem dX6_substitute_29 : decode cX6_substitute 29 = .ok (.aload_n 0, 1) := by decide +kernel
theorem dX6_substitute_30 : decode cX6_substitute 30 = .ok (.getfield 59, 3) := by decide +kernel
theorem dX6_substitute_33 : decode cX6_substitute 33 = .ok (.iload_n 1, 1) := by decide +kernel
theorem dX6_substitute_34 : decode cX6_substitute 34 = .ok (.iaload, 1) := by decide +kernel
theorem dX6_substitute_35 : decode cX6_substitute 35 = .ok (.ireturn, 1) := by decide +kernel
theorem dX6_page_0 : decode cX6_page 0 = .ok (.iload_n 1, 1) := by decide +kernel
theorem dX6_page_1 : decode cX6_page 1 = .ok (.iconst 0, 1) := by decide +kernel
theorem dX6_page_2 : decode cX6_page 2 = .ok (.iconst 2, 1) := by decide +kernel
theorem dX6_page_3 : decode cX6_page 3 = .ok (.invokestatic 72, 3) := by decide +kernel
theorem dX6_page_6 : decode cX6_page 6 = .ok (.ifCond .eq 22, 3) := by decide +kernel
theorem dX6_page_9 : decode cX6_page 9 = .ok (.iload_n 2, 1) := by decide +kernel
theorem dX6_page_10 : decode cX6_page 10 = .ok (.iconst 0, 1) := by decide +kernel
theorem dX6_page_11 : decode cX6_page 11 = .ok (.iload_n 1, 1) := by decide +kernel
theorem dX6_page_12 : decode cX6_page 12 = .ok (.iconst 2, 1) := by decide +kernel
theorem dX6_page_13 : decode cX6_page 13 = .ok (.if_icmp .ne 7, 3) := by decide +kernel
theorem dX6_page_16 : decode cX6_page 16 = .ok (.iconst 5, 1) := by decide +kernel
theorem dX6_page_17 : decode cX6_page 17 = .ok (.goto 5, 3) := by decide +kernel
theorem dX6_page_20 : decode cX6_page 20 = .ok (.bipush 7, 2) := by decide +kernel
theorem dX6_page_22 : decode cX6_page 22 = .ok (.invokestatic 72, 3) := by decide +kernel
theorem dX6_page_25 : decode cX6_page 25 = .ok (.ifCond .ne 7, 3) := by decide +kernel
theorem dX6_page_28 : decode cX6_page 28 = .ok (.iconst 1, 1) := by decide +kernel
theorem dX6_page_29 : decode cX6_page 29 = .ok (.goto 4, 3) := by decide +kernel
theorem dX6_page_32 : decode cX6_page 32 = .ok (.iconst 0, 1) := by decide +kernel
theorem dX6_page_33 : decode cX6_page 33 = .ok (.istore 4, 2) := by decide +kernel
theorem dX6_page_35 : decode cX6_page 35 = .ok (.aload_n 0, 1) := by decide +kernel
theorem dX6_page_36 : decode cX6_page 36 = .ok (.iload 4, 2) := by decide +kernel
theorem dX6_page_38 : decode cX6_page 38 = .ok (.iload 4, 2) := by decide +kernel
theorem dX6_page_40 : decode cX6_page 40 = .ok (.ifCond .ne 28, 3) := by decide +kernel
theorem dX6_page_43 : decode cX6_page 43 = .ok (.iload_n 3, 1) := by decide +kernel
theorem dX6_page_44 : decode cX6_page 44 = .ok (.iconst 0, 1) := by decide +kernel
theorem dX6_page_45 : decode cX6_page 45 = .ok (.aload_n 0, 1) := by decide +kernel
theorem dX6_page_46 : decode cX6_page 46 = .ok (.getfield 62, 3) := by decide +kernel
theorem dX6_page_49 : decode cX6_page 49 = .ok (.aload_n 0, 1) := by decide +kernel
theorem dX6_page_50 : decode cX6_page 50 = .ok (.getfield 66, 3) := by decide +kernel
theorem dX6_page_53 : decode cX6_page 53 = .ok (.iconst 1, 1) := by decide +kernel
theorem dX6_page_54 : decode cX6_page 54 = .ok (.iadd, 1) := by decide +kernel
theorem dX6_page_55 : decode cX6_page 55 = .ok (.imul, 1) := by decide +kernel
theorem dX6_page_56 : decode cX6_page 56 = .ok (.iconst 1, 1) := by decide +kernel
theorem dX6_page_57 : decode cX6_page 57 = .ok (.isub, 1) := by decide +kernel
theorem dX6_page_58 : decode cX6_page 58 = .ok (.invokestatic 72, 3) := by decide +kernel
theorem dX6_page_61 : decode cX6_page 61 = .ok (.ifCond .ne 7, 3) := by decide +kernel
theorem dX6_page_64 : decode cX6_page 64 = .ok (.iconst 1, 1) := by decide +kernel
theorem dX6_page_65 : decode cX6_page 65 = .ok (.goto 4, 3) := by decide +kernel
theorem dX6_page_68 : decode cX6_page 68 = .ok (.iconst 0, 1) := by decide +kernel
theorem dX6_page_69 : decode cX6_page 69 = .ok (.invokevirtual 90, 3) := by decide +kernel
theorem dX6_page_72 : decode cX6_page 72 = .ok (.ifCond .eq 5, 3) := by decide +kernel
theorem dX6_page_75 : decode cX6_page 75 = .ok (.iconst 0, 1) := by decide +kernel
theorem dX6_page_76 : decode cX6_page 76 = .ok (.ireturn, 1) := by decide +kernel
theorem dX6_page_77 : decode cX6_page 77 = .ok (.iload_n 3, 1) := by decide +kernel
theorem dX6_page_78 : decode cX6_page 78 = .ok (.aload_n 0, 1) := by decide +kernel
theorem dX6_page_79 : decode cX6_page 79 = .ok (.getfield 66, 3) := by decide +kernel
theorem dX6_page_82 : decode cX6_page 82 = .ok (.iconst 1, 1) := by decide +kernel
theorem dX6_page_83 : decode cX6_page 83 = .ok (.iadd, 1) := by decide +kernel
theorem dX6_page_84 : decode cX6_page 84 = .ok (.irem, 1) := by decide +kernel
theorem dX6_page_85 : decode cX6_page 85 = .ok (.istore 5, 2) := by decide +kernel
theorem dX6_page_87 : decode cX6_page 87 = .ok (.iload 5, 2) := by decide +kernel
theorem dX6_page_89 : decode cX6_page 89 = .ok (.aload_n 0, 1) := by decide +kernel
theorem dX6_page_90 : decode cX6_page 90 = .ok (.getfield 66, 3) := by decide +kernel
theorem dX6_page_93 : decode cX6_page 93 = .ok (.if_icmp .ne 6, 3) := by decide +kernel
theorem dX6_page_96 : decode cX6_page 96 = .ok (.bipush 10, 2) := by decide +kernel
theorem dX6_page_98 : decode cX6_page 98 = .ok (.ireturn, 1) := by decide +kernel
theorem dX6_page_99 : decode cX6_page 99 = .ok (.aload_n 0, 1) := by decide +kernel
theorem dX6_page_100 : decode cX6_page 100 = .ok (.iload_n 1, 1) := by decide +kernel
theorem dX6_page_101 : decode cX6_page 101 = .ok (.iload_n 2, 1) := by decide +kernel
theorem dX6_page_102 : decode cX6_page 102 = .ok (.iload_n 3, 1) := by decide +kernel
theorem dX6_page_103 : decode cX6_page 103 = .ok (.aload_n 0, 1) := by decide +kernel
theorem dX6_page_104 : decode cX6_page 104 = .ok (.getfield 66, 3) := by decide +kernel
theorem dX6_page_107 : decode cX6_page 107 = .ok (.iconst 1, 1) := by decide +kernel
theorem dX6_page_108 : decode cX6_page 108 = .ok (.iadd, 1) := by decide +kernel
theorem dX6_page_109 : decode cX6_page 109 = .ok (.idiv, 1) := by decide +kernel
theorem dX6_page_110 : decode cX6_page 110 = .ok (.aload_n 0, 1) := by decide +kernel
theorem dX6_page_111 : decode cX6_page 111 = .ok (.getfield 66, 3) := by decide +kernel
theorem dX6_page_114 : decode cX6_page 114 = .ok (.imul, 1) := by decide +kernel
theorem dX6_page_115 : decode cX6_page 115 = .ok (.iload 5, 2) := by decide +kernel
theorem dX6_page_117 : decode cX6_page 117 = .ok (.iadd, 1) := by decide +kernel
theorem dX6_page_118 : decode cX6_page 118 = .ok (.invokevirtual 98, 3) := by decide +kernel
theorem dX6_page_121 : decode cX6_page 121 = .ok (.istore 6, 2) := by decide +kernel
theorem dX6_page_123 : decode cX6_page 123 = .ok (.iload 6, 2) := by decide +kernel
theorem dX6_page_125 : decode cX6_page 125 = .ok (.ifCond .ge 8, 3) := by decide +kernel
theorem dX6_page_128 : decode cX6_page 128 = .ok (.bipush 46, 2) := by decide +kernel
theorem dX6_page_130 : decode cX6_page 130 = .ok (.goto 13, 3) := by decide +kernel
theorem dX6_page_133 : decode cX6_page 133 = .ok (.aload_n 0, 1) := by decide +kernel
theorem dX6_page_134 : decode cX6_page 134 = .ok (.getfield 31, 3) := by decide +kernel
theorem dX6_page_137 : decode cX6_page 137 = .ok (.iload 6, 2) := by decide +kernel
theorem dX6_page_139 : decode cX6_page 139 = .ok (.invokestatic 79, 3) := by decide +kernel
theorem dX6_page_142 : decode cX6_page 142 = .ok (.iaload, 1) := by decide +kernel
theorem dX6_page_143 : decode cX6_page 143 = .ok (.ireturn, 1) := by decide +kernel
theorem dJ6_bitCount_0f7a4_0 : decode cJ6_bitCount_0f7a4 0 = .ok (.iload_n 0, 1) := by decide +kernel
theorem dJ6_bitCount_0f7a4_1 : decode cJ6_bitCount_0f7a4 1 = .ok (.iload_n 0, 1) := by decide +kernel
theorem dJ6_bitCount_0f7a4_2 : decode cJ6_bitCount_0f7a4 2 = .ok (.iconst 1, 1) := by decide +kernel
theorem dJ6_bitCount_0f7a4_3 : decode cJ6_bitCount_0f7a4 3 = .ok (.iushr, 1) := by decide +kernel
theorem dJ6_bitCount_0f7a4_4 : decode cJ6_bitCount_0f7a4 4 = .ok (.ldc_w 265, 3) := by decide +kernel
theorem dJ6_bitCount_0f7a4_7 : decode cJ6_bitCount_0f7a4 7 = .ok (.iand, 1) := by decide +kernel
theorem dJ6_bitCount_0f7a4_8 : decode cJ6_bitCount_0f7a4 8 = .ok (.isub, 1) := by decide +kernel
theorem dJ6_bitCount_0f7a4_9 : decode cJ6_bitCount_0f7a4 9 = .ok (.istore_n 0, 1) := by decide +kernel
theorem dJ6_bitCount_0f7a4_10 : decode cJ6_bitCount_0f7a4 10 = .ok (.iload_n 0, 1) := by decide +kernel
theorem dJ6_bitCount_0f7a4_11 : decode cJ6_bitCount_0f7a4 11 = .ok (.ldc_w 266, 3) := by decide +kernel
theorem dJ6_bitCount_0f7a4_14 : decode cJ6_bitCount_0f7a4 14 = .ok (.iand, 1) := by decide +kernel
theorem dJ6_bitCount_0f7a4_15 : decode cJ6_bitCount_0f7a4 15 = .ok (.iload_n 0, 1) := by decide +kernel
theorem dJ6_bitCount_0f7a4_16 : decode cJ6_bitCount_0f7a4 16 = .ok (.iconst 2, 1) := by decide +kernel
theorem dJ6_bitCount_0f7a4_17 : decode cJ6_bitCount_0f7a4 17 = .ok (.iushr, 1) := by decide +kernel
theorem dJ6_bitCount_0f7a4_18 : decode cJ6_bitCount_0f7a4 18 = .ok (.ldc_w 266, 3) := by decide +kernel
theorem dJ6_bitCount_0f7a4_21 : decode cJ6_bitCount_0f7a4 21 = .ok (.iand, 1) := by decide +kernel
theorem dJ6_bitCount_0f7a4_22 : decode cJ6_bitCount_0f7a4 22 = .ok (.iadd, 1) := by decide +kernel
theorem dJ6_bitCount_0f7a4_23 : decode cJ6_bitCount_0f7a4 23 = .ok (.istore_n 0, 1) := by decide +kernel
theorem dJ6_bitCount_0f7a4_24 : decode cJ6_bitCount_0f7a4 24 = .ok (.iload_n 0, 1) := by decide +kernel
theorem dJ6_bitCount_0f7a4_25 : decode cJ6_bitCount_0f7a4 25 = .ok (.iload_n 0, 1) := by decide +kernel
theorem dJ6_bitCount_0f7a4_26 : decode cJ6_bitCount_0f7a4 26 = .ok (.iconst 4, 1) := by decide +kernel
theorem dJ6_bitCount_0f7a4_27 : decode cJ6_bitCount_0f7a4 27 = .ok (.iushr, 1) := by decide +kernel
theorem dJ6_bitCount_0f7a4_28 : decode cJ6_bitCount_0f7a4 28 = .ok (.iadd, 1) := by decide +kernel
theorem dJ6_bitCount_0f7a4_29 : decode cJ6_bitCount_0f7a4 29 = .ok (.ldc_w 267, 3) := by decide +kernel
theorem dJ6_bitCount_0f7a4_32 : decode cJ6_bitCount_0f7a4 32 = .ok (.iand, 1) := by decide +kernel
theorem dJ6_bitCount_0f7a4_33 : decode cJ6_bitCount_0f7a4 33 = .ok (.istore_n 0, 1) := by decide +kernel
theorem dJ6_bitCount_0f7a4_34 : decode cJ6_bitCount_0f7a4 34 = .ok (.iload_n 0, 1) := by decide +kernel
theorem dJ6_bitCount_0f7a4_35 : decode cJ6_bitCount_0f7a4 35 = .ok (.iload_n 0, 1) := by decide +kernel
theorem dJ6_bitCount_0f7a4_36 : decode cJ6_bitCount_0f7a4 36 = .ok (.bipush 8, 2) := by decide +kernel
theorem dJ6_bitCount_0f7a4_38 : decode cJ6_bitCount_0f7a4 38 = .ok (.iushr, 1) := by decide +kernel
theorem dJ6_bitCount_0f7a4_39 : decode cJ6_bitCount_0f7a4 39 = .ok (.iadd, 1) := by decide +kernel
theorem dJ6_bitCount_0f7a4_40 : decode cJ6_bitCount_0f7a4 40 = .ok (.istore_n 0, 1) := by decide +kernel
theorem dJ6_bitCount_0f7a4_41 : decode cJ6_bitCount_0f7a4 41 = .ok (.iload_n 0, 1) := by decide +kernel
theorem dJ6_bitCount_0f7a4_42 : decode cJ6_bitCount_0f7a4 42 = .ok (.iload_n 0, 1) := by decide +kernel
theorem dJ6_bitCount_0f7a4_43 : decode cJ6_bitCount_0f7a4 43 = .ok (.bipush 16, 2) := by decide +kernel
theorem dJ6_bitCount_0f7a4_45 : decode cJ6_bitCount_0f7a4 45 = .ok (.iushr, 1) := by decide +kernel
theorem dJ6_bitCount_0f7a4_46 : decode cJ6_bitCount_0f7a4 46 = .ok (.iadd, 1) := by decide +kernel
theorem dJ6_bitCount_0f7a4_47 : decode cJ6_bitCount_0f7a4 47 = .ok (.istore_n 0, 1) := by decide +kernel
theorem dJ6_bitCount_0f7a4_48 : decode cJ6_bitCount_0f7a4 48 = .ok (.iload_n 0, 1) := by decide +kernel
theorem dJ6_bitCount_0f7a4_49 : decode cJ6_bitCount_0f7a4 49 = .ok (.bipush 63, 2) := by decide +kernel
theorem dJ6_bitCount_0f7a4_51 : decode cJ6_bitCount_0f7a4 51 = .ok (.iand, 1) := by decide +kernel
theorem dJ6_bitCount_0f7a4_52 : decode cJ6_bitCount_0f7a4 52 = .ok (.ireturn, 1) := by decide +kernel
theorem dJ7_fill_53178_0 : decode cJ7_fill_53178 0 = .ok (.iconst 0, 1) := by decide +kernel
theorem dJ7_fill_53178_1 : decode cJ7_fill_53178 1 = .ok (.istore_n 2, 1) := by decide +kernel
theorem dJ7_fill_53178_2 : decode cJ7_fill_53178 2 = .ok (.aload_n 0, 1) := by decide +kernel
theorem dJ7_fill_53178_3 : decode cJ7_fill_53178 3 = .ok (.arraylength, 1) := by decide +kernel
theorem dJ7_fill_53178_4 : decode cJ7_fill_53178 4 = .ok (.istore_n 3, 1) := by decide +kernel
theorem dJ7_fill_53178_5 : decode cJ7_fill_53178 5 = .ok (.iload_n 2, 1) := by decide +kernel
theorem dJ7_fill_53178_6 : decode cJ7_fill_53178 6 = .ok (.iload_n 3, 1) := by decide +kernel
theorem dJ7_fill_53178_7 : decode cJ7_fill_53178 7 = .ok (.if_icmp .ge 13, 3) := by decide +kernel
theorem dJ7_fill_53178_10 : decode cJ7_fill_53178 10 = .ok (.aload_n 0, 1) := by decide +kernel
theorem dJ7_fill_53178_11 : decode cJ7_fill_53178 11 = .ok (.iload_n 2, 1) := by decide +kernel
theorem dJ7_fill_53178_12 : decode cJ7_fill_53178 12 = .ok (.iload_n 1, 1) := by decide +kernel
theorem dJ7_fill_53178_13 : decode cJ7_fill_53178 13 = .ok (.iastore, 1) := by decide +kernel
theorem dJ7_fill_53178_14 : decode cJ7_fill_53178 14 = .ok (.iinc 2 1, 3) := by decide +kernel
theorem dJ7_fill_53178_17 : decode cJ7_fill_53178 17 = .ok (.goto (-12), 3) := by decide +kernel
theorem dJ7_fill_53178_20 : decode cJ7_fill_53178 20 = .ok (.return_, 1) := by decide +kernel
theorem dL_cell_0 : decode cL_cell 0 = .ok (.iload_n 1, 1) := by decide +kernel
theorem dL_cell_1 : decode cL_cell 1 = .ok (.aload_n 0, 1) := by decide +kernel
theorem dL_cell_2 : decode cL_cell 2 = .ok (.arraylength, 1) := by decide +kernel
theorem dL_cell_3 : decode cL_cell 3 = .ok (.if_icmp .ge 9, 3) := by decide +kernel
theorem dL_cell_6 : decode cL_cell 6 = .ok (.aload_n 0, 1) := by decide +kernel
theorem dL_cell_7 : decode cL_cell 7 = .ok (.iload_n 1, 1) := by decide +kernel
theorem dL_cell_8 : decode cL_cell 8 = .ok (.iaload, 1) := by decide +kernel
theorem dL_cell_9 : decode cL_cell 9 = .ok (.goto 4, 3) := by decide +kernel
theorem dL_cell_12 : decode cL_cell 12 = .ok (.iconst 0, 1) := by decide +kernel
theorem dL_cell_13 : decode cL_cell 13 = .ok (.ireturn, 1) := by decide +kernel
theorem dL_room_0 : decode cL_room 0 = .ok (.aload_n 0, 1) := by decide +kernel
theorem dL_room_1 : decode cL_room 1 = .ok (.iload_n 1, 1) := by decide +kernel
theorem dL_room_2 : decode cL_room 2 = .ok (.iload_n 2, 1) := by decide +kernel
theorem dL_room_3 : decode cL_room 3 = .ok (.invokevirtual 7, 3) := by decide +kernel
theorem dL_room_6 : decode cL_room 6 = .ok (.goto 9, 3) := by decide +kernel
theorem dL_room_9 : decode cL_room 9 = .ok (.astore_n 3, 1) := by decide +kernel
theorem dL_room_10 : decode cL_room 10 = .ok (.iconst 1, 1) := by decide +kernel
theorem dL_room_11 : decode cL_room 11 = .ok (.ireturn, 1) := by decide +kernel
theorem dL_room_12 : decode cL_room 12 = .ok (.astore_n 3, 1) := by decide +kernel
theorem dL_room_13 : decode cL_room 13 = .ok (.iconst 2, 1) := by decide +kernel
theorem dL_room_14 : decode cL_room 14 = .ok (.ireturn, 1) := by decide +kernel
theorem dL_room_15 : decode cL_room 15 = .ok (.iconst 0, 1) := by decide +kernel
theorem dL_room_16 : decode cL_room 16 = .ok (.ireturn, 1) := by decide +kernel
theorem dL_lesson_0 : decode cL_lesson 0 = .ok (.aload 7, 2) := by decide +kernel
theorem dL_lesson_2 : decode cL_lesson 2 = .ok (.iconst 0, 1) := by decide +kernel
theorem dL_lesson_3 : decode cL_lesson 3 = .ok (.aload_n 0, 1) := by decide +kernel
theorem dL_lesson_4 : decode cL_lesson 4 = .ok (.iload_n 1, 1) := by decide +kernel
theorem dL_lesson_5 : decode cL_lesson 5 = .ok (.iload_n 2, 1) := by decide +kernel
theorem dL_lesson_6 : decode cL_lesson 6 = .ok (.iload_n 3, 1) := by decide +kernel
theorem dL_lesson_7 : decode cL_lesson 7 = .ok (.iload 4, 2) := by decide +kernel
theorem dL_lesson_9 : decode cL_lesson 9 = .ok (.iload 5, 2) := by decide +kernel
theorem dL_lesson_11 : decode cL_lesson 11 = .ok (.iload 6, 2) := by decide +kernel
theorem dL_lesson_13 : decode cL_lesson 13 = .ok (.invokevirtual 17, 3) := by decide +kernel
theorem dL_lesson_16 : decode cL_lesson 16 = .ok (.i2l, 1) := by decide +kernel
theorem dL_lesson_17 : decode cL_lesson 17 = .ok (.lastore, 1) := by decide +kernel
theorem dL_lesson_18 : decode cL_lesson 18 = .ok (.goto 11, 3) := by decide +kernel
theorem dL_lesson_21 : decode cL_lesson 21 = .ok (.astore 8, 2) := by decide +kernel
theorem dL_lesson_23 : decode cL_lesson 23 = .ok (.iconst 1, 1) := by decide +kernel
theorem dL_lesson_24 : decode cL_lesson 24 = .ok (.ireturn, 1) := by decide +kernel
theorem dL_lesson_25 : decode cL_lesson 25 = .ok (.astore 8, 2) := by decide +kernel
theorem dL_lesson_27 : decode cL_lesson 27 = .ok (.iconst 2, 1) := by decide +kernel
theorem dL_lesson_28 : decode cL_lesson 28 = .ok (.ireturn, 1) := by decide +kernel
theorem dL_lesson_29 : decode cL_lesson 29 = .ok (.iconst 0, 1) := by decide +kernel
theorem dL_lesson_30 : decode cL_lesson 30 = .ok (.ireturn, 1) := by decide +kernel
theorem dL_block_0 : decode cL_block 0 = .ok (.aload_n 0, 1) := by decide +kernel
theorem dL_block_1 : decode cL_block 1 = .ok (.iload_n 1, 1) := by decide +kernel
theorem dL_block_2 : decode cL_block 2 = .ok (.iload_n 2, 1) := by decide +kernel
theorem dL_block_3 : decode cL_block 3 = .ok (.iload_n 3, 1) := by decide +kernel
theorem dL_block_4 : decode cL_block 4 = .ok (.iload 4, 2) := by decide +kernel
theorem dL_block_6 : decode cL_block 6 = .ok (.invokevirtual 21, 3) := by decide +kernel
theorem dL_block_9 : decode cL_block 9 = .ok (.goto 11, 3) := by decide +kernel
theorem dL_block_12 : decode cL_block 12 = .ok (.astore 5, 2) := by decide +kernel
theorem dL_block_14 : decode cL_block 14 = .ok (.iconst 1, 1) := by decide +kernel
theorem dL_block_15 : decode cL_block 15 = .ok (.ireturn, 1) := by decide +kernel
theorem dL_block_16 : decode cL_block 16 = .ok (.astore 5, 2) := by decide +kernel
theorem dL_block_18 : decode cL_block 18 = .ok (.iconst 2, 1) := by decide +kernel
theorem dL_block_19 : decode cL_block 19 = .ok (.ireturn, 1) := by decide +kernel
theorem dL_block_20 : decode cL_block 20 = .ok (.iconst 0, 1) := by decide +kernel
theorem dL_block_21 : decode cL_block 21 = .ok (.ireturn, 1) := by decide +kernel
theorem dL_place_0 : decode cL_place 0 = .ok (.aload 4, 2) := by decide +kernel
theorem dL_place_2 : decode cL_place 2 = .ok (.iconst 0, 1) := by decide +kernel
theorem dL_place_3 : decode cL_place 3 = .ok (.aload_n 0, 1) := by decide +kernel
theorem dL_place_4 : decode cL_place 4 = .ok (.iload_n 1, 1) := by decide +kernel
theorem dL_place_5 : decode cL_place 5 = .ok (.iload_n 2, 1) := by decide +kernel
theorem dL_place_6 : decode cL_place 6 = .ok (.iload_n 3, 1) := by decide +kernel
theorem dL_place_7 : decode cL_place 7 = .ok (.invokevirtual 25, 3) := by decide +kernel
theorem dL_place_10 : decode cL_place 10 = .ok (.i2l, 1) := by decide +kernel
theorem dL_place_11 : decode cL_place 11 = .ok (.lastore, 1) := by decide +kernel
theorem dL_place_12 : decode cL_place 12 = .ok (.goto 11, 3) := by decide +kernel
theorem dL_place_15 : decode cL_place 15 = .ok (.astore 5, 2) := by decide +kernel
theorem dL_place_17 : decode cL_place 17 = .ok (.iconst 1, 1) := by decide +kernel
theorem dL_place_18 : decode cL_place 18 = .ok (.ireturn, 1) := by decide +kernel
theorem dL_place_19 : decode cL_place 19 = .ok (.astore 5, 2) := by decide +kernel
theorem dL_place_21 : decode cL_place 21 = .ok (.iconst 2, 1) := by decide +kernel
theorem dL_place_22 : decode cL_place 22 = .ok (.ireturn, 1) := by decide +kernel
theorem dL_place_23 : decode cL_place 23 = .ok (.iconst 0, 1) := by decide +kernel
theorem dL_place_24 : decode cL_place 24 = .ok (.ireturn, 1) := by decide +kernel
theorem dL_drop_0 : decode cL_drop 0 = .ok (.aload_n 3, 1) := by decide +kernel
theorem dL_drop_1 : decode cL_drop 1 = .ok (.iconst 0, 1) := by decide +kernel
theorem dL_drop_2 : decode cL_drop 2 = .ok (.aload_n 0, 1) := by decide +kernel
theorem dL_drop_3 : decode cL_drop 3 = .ok (.iload_n 1, 1) := by decide +kernel
theorem dL_drop_4 : decode cL_drop 4 = .ok (.iload_n 2, 1) := by decide +kernel
theorem dL_drop_5 : decode cL_drop 5 = .ok (.invokevirtual 29, 3) := by decide +kernel
theorem dL_drop_8 : decode cL_drop 8 = .ok (.i2l, 1) := by decide +kernel
theorem dL_drop_9 : decode cL_drop 9 = .ok (.lastore, 1) := by decide +kernel
theorem dL_drop_10 : decode cL_drop 10 = .ok (.goto 11, 3) := by decide +kernel
theorem dL_drop_13 : decode cL_drop 13 = .ok (.astore 4, 2) := by decide +kernel
theorem dL_drop_15 : decode cL_drop 15 = .ok (.iconst 1, 1) := by decide +kernel
theorem dL_drop_16 : decode cL_drop 16 = .ok (.ireturn, 1) := by decide +kernel
theorem dL_drop_17 : decode cL_drop 17 = .ok (.astore 4, 2) := by decide +kernel
theorem dL_drop_19 : decode cL_drop 19 = .ok (.iconst 2, 1) := by decide +kernel
theorem dL_drop_20 : decode cL_drop 20 = .ok (.ireturn, 1) := by decide +kernel
theorem dL_drop_21 : decode cL_drop 21 = .ok (.iconst 0, 1) := by decide +kernel
theorem dL_drop_22 : decode cL_drop 22 = .ok (.ireturn, 1) := by decide +kernel
theorem dL_fill_0 : decode cL_fill 0 = .ok (.aload_n 2, 1) := by decide +kernel
theorem dL_fill_1 : decode cL_fill 1 = .ok (.iconst 0, 1) := by decide +kernel
theorem dL_fill_2 : decode cL_fill 2 = .ok (.aload_n 0, 1) := by decide +kernel
theorem dL_fill_3 : decode cL_fill 3 = .ok (.iload_n 1, 1) := by decide +kernel
theorem dL_fill_4 : decode cL_fill 4 = .ok (.invokevirtual 33, 3) := by decide +kernel
theorem dL_fill_7 : decode cL_fill 7 = .ok (.i2l, 1) := by decide +kernel
theorem dL_fill_8 : decode cL_fill 8 = .ok (.lastore, 1) := by decide +kernel
theorem dL_fill_9 : decode cL_fill 9 = .ok (.goto 6, 3) := by decide +kernel
theorem dL_fill_12 : decode cL_fill 12 = .ok (.astore_n 3, 1) := by decide +kernel
theorem dL_fill_13 : decode cL_fill 13 = .ok (.iconst 1, 1) := by decide +kernel
theorem dL_fill_14 : decode cL_fill 14 = .ok (.ireturn, 1) := by decide +kernel
theorem dL_fill_15 : decode cL_fill 15 = .ok (.iconst 0, 1) := by decide +kernel
theorem dL_fill_16 : decode cL_fill 16 = .ok (.ireturn, 1) := by decide +kernel
theorem dL_period_0 : decode cL_period 0 = .ok (.aload_n 3, 1) := by decide +kernel
theorem dL_period_1 : decode cL_period 1 = .ok (.iconst 0, 1) := by decide +kernel
theorem dL_period_2 : decode cL_period 2 = .ok (.aload_n 0, 1) := by decide +kernel
theorem dL_period_3 : decode cL_period 3 = .ok (.iload_n 1, 1) := by decide +kernel
theorem dL_period_4 : decode cL_period 4 = .ok (.iload_n 2, 1) := by decide +kernel
theorem dL_period_5 : decode cL_period 5 = .ok (.invokevirtual 37, 3) := by decide +kernel
theorem dL_period_8 : decode cL_period 8 = .ok (.i2l, 1) := by decide +kernel
theorem dL_period_9 : decode cL_period 9 = .ok (.lastore, 1) := by decide +kernel
theorem dL_period_10 : decode cL_period 10 = .ok (.goto 7, 3) := by decide +kernel
theorem dL_period_13 : decode cL_period 13 = .ok (.astore 4, 2) := by decide +kernel
theorem dL_period_15 : decode cL_period 15 = .ok (.iconst 1, 1) := by decide +kernel
theorem dL_period_16 : decode cL_period 16 = .ok (.ireturn, 1) := by decide +kernel
theorem dL_period_17 : decode cL_period 17 = .ok (.iconst 0, 1) := by decide +kernel
theorem dL_period_18 : decode cL_period 18 = .ok (.ireturn, 1) := by decide +kernel
theorem dL_roomOf_0 : decode cL_roomOf 0 = .ok (.aload_n 3, 1) := by decide +kernel
theorem dL_roomOf_1 : decode cL_roomOf 1 = .ok (.iconst 0, 1) := by decide +kernel
theorem dL_roomOf_2 : decode cL_roomOf 2 = .ok (.aload_n 0, 1) := by decide +kernel
theorem dL_roomOf_3 : decode cL_roomOf 3 = .ok (.iload_n 1, 1) := by decide +kernel
theorem dL_roomOf_4 : decode cL_roomOf 4 = .ok (.iload_n 2, 1) := by decide +kernel
theorem dL_roomOf_5 : decode cL_roomOf 5 = .ok (.invokevirtual 40, 3) := by decide +kernel
theorem dL_roomOf_8 : decode cL_roomOf 8 = .ok (.i2l, 1) := by decide +kernel
theorem dL_roomOf_9 : decode cL_roomOf 9 = .ok (.lastore, 1) := by decide +kernel
theorem dL_roomOf_10 : decode cL_roomOf 10 = .ok (.goto 7, 3) := by decide +kernel
theorem dL_roomOf_13 : decode cL_roomOf 13 = .ok (.astore 4, 2) := by decide +kernel
theorem dL_roomOf_15 : decode cL_roomOf 15 = .ok (.iconst 1, 1) := by decide +kernel
theorem dL_roomOf_16 : decode cL_roomOf 16 = .ok (.ireturn, 1) := by decide +kernel
theorem dL_roomOf_17 : decode cL_roomOf 17 = .ok (.iconst 0, 1) := by decide +kernel
theorem dL_roomOf_18 : decode cL_roomOf 18 = .ok (.ireturn, 1) := by decide +kernel
theorem dL_improve_0 : decode cL_improve 0 = .ok (.aload_n 2, 1) := by decide +kernel
theorem dL_improve_1 : decode cL_improve 1 = .ok (.iconst 0, 1) := by decide +kernel
theorem dL_improve_2 : decode cL_improve 2 = .ok (.aload_n 0, 1) := by decide +kernel
theorem dL_improve_3 : decode cL_improve 3 = .ok (.iload_n 1, 1) := by decide +kernel
theorem dL_improve_4 : decode cL_improve 4 = .ok (.invokevirtual 43, 3) := by decide +kernel
theorem dL_improve_7 : decode cL_improve 7 = .ok (.i2l, 1) := by decide +kernel
theorem dL_improve_8 : decode cL_improve 8 = .ok (.lastore, 1) := by decide +kernel
theorem dL_improve_9 : decode cL_improve 9 = .ok (.goto 6, 3) := by decide +kernel
theorem dL_improve_12 : decode cL_improve 12 = .ok (.astore_n 3, 1) := by decide +kernel
theorem dL_improve_13 : decode cL_improve 13 = .ok (.iconst 1, 1) := by decide +kernel
theorem dL_improve_14 : decode cL_improve 14 = .ok (.ireturn, 1) := by decide +kernel
theorem dL_improve_15 : decode cL_improve 15 = .ok (.iconst 0, 1) := by decide +kernel
theorem dL_improve_16 : decode cL_improve 16 = .ok (.ireturn, 1) := by decide +kernel
theorem dL_absent_0 : decode cL_absent 0 = .ok (.aload_n 3, 1) := by decide +kernel
theorem dL_absent_1 : decode cL_absent 1 = .ok (.iconst 0, 1) := by decide +kernel
theorem dL_absent_2 : decode cL_absent 2 = .ok (.aload_n 0, 1) := by decide +kernel
theorem dL_absent_3 : decode cL_absent 3 = .ok (.iload_n 1, 1) := by decide +kernel
theorem dL_absent_4 : decode cL_absent 4 = .ok (.iload_n 2, 1) := by decide +kernel
theorem dL_absent_5 : decode cL_absent 5 = .ok (.invokevirtual 46, 3) := by decide +kernel
theorem dL_absent_8 : decode cL_absent 8 = .ok (.i2l, 1) := by decide +kernel
theorem dL_absent_9 : decode cL_absent 9 = .ok (.lastore, 1) := by decide +kernel
theorem dL_absent_10 : decode cL_absent 10 = .ok (.goto 7, 3) := by decide +kernel
theorem dL_absent_13 : decode cL_absent 13 = .ok (.astore 4, 2) := by decide +kernel
theorem dL_absent_15 : decode cL_absent 15 = .ok (.iconst 1, 1) := by decide +kernel
theorem dL_absent_16 : decode cL_absent 16 = .ok (.ireturn, 1) := by decide +kernel
theorem dL_absent_17 : decode cL_absent 17 = .ok (.iconst 0, 1) := by decide +kernel
theorem dL_absent_18 : decode cL_absent 18 = .ok (.ireturn, 1) := by decide +kernel
theorem dL_substitute_0 : decode cL_substitute 0 = .ok (.aload_n 2, 1) := by decide +kernel
theorem dL_substitute_1 : decode cL_substitute 1 = .ok (.iconst 0, 1) := by decide +kernel
theorem dL_substitute_2 : decode cL_substitute 2 = .ok (.aload_n 0, 1) := by decide +kernel
theorem dL_substitute_3 : decode cL_substitute 3 = .ok (.iload_n 1, 1) := by decide +kernel
theorem dL_substitute_4 : decode cL_substitute 4 = .ok (.invokevirtual 49, 3) := by decide +kernel
theorem dL_substitute_7 : decode cL_substitute 7 = .ok (.i2l, 1) := by decide +kernel
theorem dL_substitute_8 : decode cL_substitute 8 = .ok (.lastore, 1) := by decide +kernel
theorem dL_substitute_9 : decode cL_substitute 9 = .ok (.goto 6, 3) := by decide +kernel
theorem dL_substitute_12 : decode cL_substitute 12 = .ok (.astore_n 3, 1) := by decide +kernel
theorem dL_substitute_13 : decode cL_substitute 13 = .ok (.iconst 1, 1) := by decide +kernel
theorem dL_substitute_14 : decode cL_substitute 14 = .ok (.ireturn, 1) := by decide +kernel
theorem dL_substitute_15 : decode cL_substitute 15 = .ok (.iconst 0, 1) := by decide +kernel
theorem dL_substitute_16 : decode cL_substitute 16 = .ok (.ireturn, 1) := by decide +kernel
theorem dL_undo_0 : decode cL_undo 0 = .ok (.aload_n 1, 1) := by decide +kernel
theorem dL_undo_1 : decode cL_undo 1 = .ok (.iconst 0, 1) := by decide +kernel
theorem dL_undo_2 : decode cL_undo 2 = .ok (.aload_n 0, 1) := by decide +kernel
theorem dL_undo_3 : decode cL_undo 3 = .ok (.invokevirtual 54, 3) := by decide +kernel
theorem dL_undo_6 : decode cL_undo 6 = .ok (.i2l, 1) := by decide +kernel
theorem dL_undo_7 : decode cL_undo 7 = .ok (.lastore, 1) := by decide +kernel
theorem dL_undo_8 : decode cL_undo 8 = .ok (.goto 6, 3) := by decide +kernel
theorem dL_undo_11 : decode cL_undo 11 = .ok (.astore_n 2, 1) := by decide +kernel
theorem dL_undo_12 : decode cL_undo 12 = .ok (.iconst 1, 1) := by decide +kernel
theorem dL_undo_13 : decode cL_undo 13 = .ok (.ireturn, 1) := by decide +kernel
theorem dL_undo_14 : decode cL_undo 14 = .ok (.iconst 0, 1) := by decide +kernel
theorem dL_undo_15 : decode cL_undo 15 = .ok (.ireturn, 1) := by decide +kernel
theorem dL_page_0 : decode cL_page 0 = .ok (.aload 4, 2) := by decide +kernel
theorem dL_page_2 : decode cL_page 2 = .ok (.iconst 0, 1) := by decide +kernel
theorem dL_page_3 : decode cL_page 3 = .ok (.aload_n 0, 1) := by decide +kernel
theorem dL_page_4 : decode cL_page 4 = .ok (.iload_n 1, 1) := by decide +kernel
theorem dL_page_5 : decode cL_page 5 = .ok (.iload_n 2, 1) := by decide +kernel
theorem dL_page_6 : decode cL_page 6 = .ok (.iload_n 3, 1) := by decide +kernel
theorem dL_page_7 : decode cL_page 7 = .ok (.invokevirtual 58, 3) := by decide +kernel
theorem dL_page_10 : decode cL_page 10 = .ok (.i2l, 1) := by decide +kernel
theorem dL_page_11 : decode cL_page 11 = .ok (.lastore, 1) := by decide +kernel
theorem dL_page_12 : decode cL_page 12 = .ok (.goto 11, 3) := by decide +kernel
theorem dL_page_15 : decode cL_page 15 = .ok (.astore 5, 2) := by decide +kernel
theorem dL_page_17 : decode cL_page 17 = .ok (.iconst 1, 1) := by decide +kernel
theorem dL_page_18 : decode cL_page 18 = .ok (.ireturn, 1) := by decide +kernel
theorem dL_page_19 : decode cL_page 19 = .ok (.astore 5, 2) := by decide +kernel
theorem dL_page_21 : decode cL_page 21 = .ok (.iconst 2, 1) := by decide +kernel
theorem dL_page_22 : decode cL_page 22 = .ok (.ireturn, 1) := by decide +kernel
theorem dL_page_23 : decode cL_page 23 = .ok (.iconst 0, 1) := by decide +kernel
theorem dL_page_24 : decode cL_page 24 = .ok (.ireturn, 1) := by decide +kernel
theorem dL_law_0 : decode cL_law 0 = .ok (.new 8, 3) := by decide +kernel
theorem dL_law_3 : decode cL_law 3 = .ok (.dup, 1) := by decide +kernel
theorem dL_law_4 : decode cL_law 4 = .ok (.aload_n 0, 1) := by decide +kernel
theorem dL_law_5 : decode cL_law 5 = .ok (.iconst 0, 1) := by decide +kernel
theorem dL_law_6 : decode cL_law 6 = .ok (.invokestatic 61, 3) := by decide +kernel
theorem dL_law_9 : decode cL_law 9 = .ok (.aload_n 0, 1) := by decide +kernel
theorem dL_law_10 : decode cL_law 10 = .ok (.iconst 1, 1) := by decide +kernel
theorem dL_law_11 : decode cL_law 11 = .ok (.invokestatic 61, 3) := by decide +kernel
theorem dL_law_14 : decode cL_law 14 = .ok (.invokespecial 67, 3) := by decide +kernel
theorem dL_law_17 : decode cL_law 17 = .ok (.astore_n 1, 1) := by decide +kernel
theorem dL_law_18 : decode cL_law 18 = .ok (.new 69, 3) := by decide +kernel
theorem dL_law_21 : decode cL_law 21 = .ok (.dup, 1) := by decide +kernel
theorem dL_law_22 : decode cL_law 22 = .ok (.aload_n 0, 1) := by decide +kernel
theorem dL_law_23 : decode cL_law 23 = .ok (.iconst 0, 1) := by decide +kernel
theorem dL_law_24 : decode cL_law 24 = .ok (.invokestatic 61, 3) := by decide +kernel
theorem dL_law_27 : decode cL_law 27 = .ok (.aload_n 0, 1) := by decide +kernel
theorem dL_law_28 : decode cL_law 28 = .ok (.iconst 1, 1) := by decide +kernel
theorem dL_law_29 : decode cL_law 29 = .ok (.invokestatic 61, 3) := by decide +kernel
theorem dL_law_32 : decode cL_law 32 = .ok (.invokespecial 71, 3) := by decide +kernel
theorem dL_law_35 : decode cL_law 35 = .ok (.astore_n 2, 1) := by decide +kernel
theorem dL_law_36 : decode cL_law 36 = .ok (.iconst 1, 1) := by decide +kernel
theorem dL_law_37 : decode cL_law 37 = .ok (.newarray .long, 2) := by decide +kernel
theorem dL_law_39 : decode cL_law 39 = .ok (.astore_n 3, 1) := by decide +kernel
theorem dL_law_40 : decode cL_law 40 = .ok (.iconst 2, 1) := by decide +kernel
theorem dL_law_41 : decode cL_law 41 = .ok (.istore 4, 2) := by decide +kernel
theorem dL_law_43 : decode cL_law 43 = .ok (.iload 4, 2) := by decide +kernel
theorem dL_law_45 : decode cL_law 45 = .ok (.aload_n 0, 1) := by decide +kernel
theorem dL_law_46 : decode cL_law 46 = .ok (.arraylength, 1) := by decide +kernel
theorem dL_law_47 : decode cL_law 47 = .ok (.bipush 7, 2) := by decide +kernel
theorem dL_law_49 : decode cL_law 49 = .ok (.isub, 1) := by decide +kernel
theorem dL_law_50 : decode cL_law 50 = .ok (.if_icmp .gt 1016, 3) := by decide +kernel
theorem dL_law_53 : decode cL_law 53 = .ok (.aload_n 0, 1) := by decide +kernel
theorem dL_law_54 : decode cL_law 54 = .ok (.iload 4, 2) := by decide +kernel
theorem dL_law_56 : decode cL_law 56 = .ok (.iaload, 1) := by decide +kernel
theorem dL_law_57 : decode cL_law 57 = .ok (.bipush 15, 2) := by decide +kernel
theorem dL_law_59 : decode cL_law 59 = .ok (.iand, 1) := by decide +kernel
theorem dL_law_60 : decode cL_law 60 = .ok (.tableswitch 1000 0 14 #[76, 124, 242, 330, 410, 478, 534, 547, 615, 683, 696, 752, 820, 876, 920], 76) := by decide +kernel
theorem dL_law_136 : decode cL_law 136 = .ok (.aload_n 1, 1) := by decide +kernel
theorem dL_law_137 : decode cL_law 137 = .ok (.aload_n 0, 1) := by decide +kernel
theorem dL_law_138 : decode cL_law 138 = .ok (.iload 4, 2) := by decide +kernel
theorem dL_law_140 : decode cL_law 140 = .ok (.iconst 1, 1) := by decide +kernel
theorem dL_law_141 : decode cL_law 141 = .ok (.iadd, 1) := by decide +kernel
theorem dL_law_142 : decode cL_law 142 = .ok (.iaload, 1) := by decide +kernel
theorem dL_law_143 : decode cL_law 143 = .ok (.aload_n 0, 1) := by decide +kernel
theorem dL_law_144 : decode cL_law 144 = .ok (.iload 4, 2) := by decide +kernel
theorem dL_law_146 : decode cL_law 146 = .ok (.iconst 2, 1) := by decide +kernel
theorem dL_law_147 : decode cL_law 147 = .ok (.iadd, 1) := by decide +kernel
theorem dL_law_148 : decode cL_law 148 = .ok (.iaload, 1) := by decide +kernel
theorem dL_law_149 : decode cL_law 149 = .ok (.invokestatic 72, 3) := by decide +kernel
theorem dL_law_152 : decode cL_law 152 = .ok (.istore 5, 2) := by decide +kernel
theorem dL_law_154 : decode cL_law 154 = .ok (.aload_n 2, 1) := by decide +kernel
theorem dL_law_155 : decode cL_law 155 = .ok (.aload_n 0, 1) := by decide +kernel
theorem dL_law_156 : decode cL_law 156 = .ok (.iload 4, 2) := by decide +kernel
theorem dL_law_158 : decode cL_law 158 = .ok (.iconst 1, 1) := by decide +kernel
theorem dL_law_159 : decode cL_law 159 = .ok (.iadd, 1) := by decide +kernel
theorem dL_law_160 : decode cL_law 160 = .ok (.iaload, 1) := by decide +kernel
theorem dL_law_161 : decode cL_law 161 = .ok (.aload_n 0, 1) := by decide +kernel
theorem dL_law_162 : decode cL_law 162 = .ok (.iload 4, 2) := by decide +kernel
theorem dL_law_164 : decode cL_law 164 = .ok (.iconst 2, 1) := by decide +kernel
theorem dL_law_165 : decode cL_law 165 = .ok (.iadd, 1) := by decide +kernel
theorem dL_law_166 : decode cL_law 166 = .ok (.iaload, 1) := by decide +kernel
theorem dL_law_167 : decode cL_law 167 = .ok (.invokevirtual 75, 3) := by decide +kernel
theorem dL_law_170 : decode cL_law 170 = .ok (.aload_n 2, 1) := by decide +kernel
theorem dL_law_171 : decode cL_law 171 = .ok (.invokevirtual 76, 3) := by decide +kernel
theorem dL_law_174 : decode cL_law 174 = .ok (.iload 5, 2) := by decide +kernel
theorem dL_law_176 : decode cL_law 176 = .ok (.if_icmp .eq 5, 3) := by decide +kernel
theorem dL_law_179 : decode cL_law 179 = .ok (.iconst 0, 1) := by decide +kernel
theorem dL_law_180 : decode cL_law 180 = .ok (.ireturn, 1) := by decide +kernel
theorem dL_law_181 : decode cL_law 181 = .ok (.goto 879, 3) := by decide +kernel
theorem dL_law_184 : decode cL_law 184 = .ok (.aload_n 1, 1) := by decide +kernel
theorem dL_law_185 : decode cL_law 185 = .ok (.aload_n 0, 1) := by decide +kernel
theorem dL_law_186 : decode cL_law 186 = .ok (.iload 4, 2) := by decide +kernel
theorem dL_law_188 : decode cL_law 188 = .ok (.iconst 1, 1) := by decide +kernel
theorem dL_law_189 : decode cL_law 189 = .ok (.iadd, 1) := by decide +kernel
theorem dL_law_190 : decode cL_law 190 = .ok (.iaload, 1) := by decide +kernel
theorem dL_law_191 : decode cL_law 191 = .ok (.aload_n 0, 1) := by decide +kernel
theorem dL_law_192 : decode cL_law 192 = .ok (.iload 4, 2) := by decide +kernel
theorem dL_law_194 : decode cL_law 194 = .ok (.iconst 2, 1) := by decide +kernel
theorem dL_law_195 : decode cL_law 195 = .ok (.iadd, 1) := by decide +kernel
theorem dL_law_196 : decode cL_law 196 = .ok (.iaload, 1) := by decide +kernel
theorem dL_law_197 : decode cL_law 197 = .ok (.aload_n 0, 1) := by decide +kernel
theorem dL_law_198 : decode cL_law 198 = .ok (.iload 4, 2) := by decide +kernel
theorem dL_law_200 : decode cL_law 200 = .ok (.iconst 3, 1) := by decide +kernel
theorem dL_law_201 : decode cL_law 201 = .ok (.iadd, 1) := by decide +kernel
theorem dL_law_202 : decode cL_law 202 = .ok (.iaload, 1) := by decide +kernel
theorem dL_law_203 : decode cL_law 203 = .ok (.aload_n 0, 1) := by decide +kernel
theorem dL_law_204 : decode cL_law 204 = .ok (.iload 4, 2) := by decide +kernel
theorem dL_law_206 : decode cL_law 206 = .ok (.iconst 4, 1) := by decide +kernel
theorem dL_law_207 : decode cL_law 207 = .ok (.iadd, 1) := by decide +kernel
theorem dL_law_208 : decode cL_law 208 = .ok (.iaload, 1) := by decide +kernel
theorem dL_law_209 : decode cL_law 209 = .ok (.aload_n 0, 1) := by decide +kernel
theorem dL_law_210 : decode cL_law 210 = .ok (.iload 4, 2) := by decide +kernel
theorem dL_law_212 : decode cL_law 212 = .ok (.iconst 5, 1) := by decide +kernel
theorem dL_law_213 : decode cL_law 213 = .ok (.iadd, 1) := by decide +kernel
theorem dL_law_214 : decode cL_law 214 = .ok (.iaload, 1) := by decide +kernel
theorem dL_law_215 : decode cL_law 215 = .ok (.aload_n 0, 1) := by decide +kernel
theorem dL_law_216 : decode cL_law 216 = .ok (.iload 4, 2) := by decide +kernel
theorem dL_law_218 : decode cL_law 218 = .ok (.bipush 6, 2) := by decide +kernel
theorem dL_law_220 : decode cL_law 220 = .ok (.iadd, 1) := by decide +kernel
theorem dL_law_221 : decode cL_law 221 = .ok (.iaload, 1) := by decide +kernel
theorem dL_law_222 : decode cL_law 222 = .ok (.aload_n 3, 1) := by decide +kernel
theorem dL_law_223 : decode cL_law 223 = .ok (.invokestatic 79, 3) := by decide +kernel
theorem dL_law_226 : decode cL_law 226 = .ok (.istore 5, 2) := by decide +kernel
theorem dL_law_228 : decode cL_law 228 = .ok (.aload_n 2, 1) := by decide +kernel
theorem dL_law_229 : decode cL_law 229 = .ok (.aload_n 0, 1) := by decide +kernel
theorem dL_law_230 : decode cL_law 230 = .ok (.iload 4, 2) := by decide +kernel
theorem dL_law_232 : decode cL_law 232 = .ok (.iconst 1, 1) := by decide +kernel
theorem dL_law_233 : decode cL_law 233 = .ok (.iadd, 1) := by decide +kernel
theorem dL_law_234 : decode cL_law 234 = .ok (.iaload, 1) := by decide +kernel
theorem dL_law_235 : decode cL_law 235 = .ok (.aload_n 0, 1) := by decide +kernel
theorem dL_law_236 : decode cL_law 236 = .ok (.iload 4, 2) := by decide +kernel
theorem dL_law_238 : decode cL_law 238 = .ok (.iconst 2, 1) := by decide +kernel
theorem dL_law_239 : decode cL_law 239 = .ok (.iadd, 1) := by decide +kernel
theorem dL_law_240 : decode cL_law 240 = .ok (.iaload, 1) := by decide +kernel
theorem dL_law_241 : decode cL_law 241 = .ok (.aload_n 0, 1) := by decide +kernel
theorem dL_law_242 : decode cL_law 242 = .ok (.iload 4, 2) := by decide +kernel
theorem dL_law_244 : decode cL_law 244 = .ok (.iconst 3, 1) := by decide +kernel
theorem dL_law_245 : decode cL_law 245 = .ok (.iadd, 1) := by decide +kernel
theorem dL_law_246 : decode cL_law 246 = .ok (.iaload, 1) := by decide +kernel
theorem dL_law_247 : decode cL_law 247 = .ok (.aload_n 0, 1) := by decide +kernel
theorem dL_law_248 : decode cL_law 248 = .ok (.iload 4, 2) := by decide +kernel
theorem dL_law_250 : decode cL_law 250 = .ok (.iconst 4, 1) := by decide +kernel
theorem dL_law_251 : decode cL_law 251 = .ok (.iadd, 1) := by decide +kernel
theorem dL_law_252 : decode cL_law 252 = .ok (.iaload, 1) := by decide +kernel
theorem dL_law_253 : decode cL_law 253 = .ok (.aload_n 0, 1) := by decide +kernel
theorem dL_law_254 : decode cL_law 254 = .ok (.iload 4, 2) := by decide +kernel
theorem dL_law_256 : decode cL_law 256 = .ok (.iconst 5, 1) := by decide +kernel
theorem dL_law_257 : decode cL_law 257 = .ok (.iadd, 1) := by decide +kernel
theorem dL_law_258 : decode cL_law 258 = .ok (.iaload, 1) := by decide +kernel
theorem dL_law_259 : decode cL_law 259 = .ok (.aload_n 0, 1) := by decide +kernel
theorem dL_law_260 : decode cL_law 260 = .ok (.iload 4, 2) := by decide +kernel
theorem dL_law_262 : decode cL_law 262 = .ok (.bipush 6, 2) := by decide +kernel
theorem dL_law_264 : decode cL_law 264 = .ok (.iadd, 1) := by decide +kernel
theorem dL_law_265 : decode cL_law 265 = .ok (.iaload, 1) := by decide +kernel
theorem dL_law_266 : decode cL_law 266 = .ok (.invokevirtual 82, 3) := by decide +kernel
theorem dL_law_269 : decode cL_law 269 = .ok (.istore 6, 2) := by decide +kernel
theorem dL_law_271 : decode cL_law 271 = .ok (.aload_n 2, 1) := by decide +kernel
theorem dL_law_272 : decode cL_law 272 = .ok (.invokevirtual 76, 3) := by decide +kernel
theorem dL_law_275 : decode cL_law 275 = .ok (.iload 5, 2) := by decide +kernel
theorem dL_law_277 : decode cL_law 277 = .ok (.if_icmp .eq 5, 3) := by decide +kernel
theorem dL_law_280 : decode cL_law 280 = .ok (.iconst 0, 1) := by decide +kernel
theorem dL_law_281 : decode cL_law 281 = .ok (.ireturn, 1) := by decide +kernel
theorem dL_law_282 : decode cL_law 282 = .ok (.iload 5, 2) := by decide +kernel
theorem dL_law_284 : decode cL_law 284 = .ok (.ifCond .ne 15, 3) := by decide +kernel
theorem dL_law_287 : decode cL_law 287 = .ok (.aload_n 3, 1) := by decide +kernel
theorem dL_law_288 : decode cL_law 288 = .ok (.iconst 0, 1) := by decide +kernel
theorem dL_law_289 : decode cL_law 289 = .ok (.laload, 1) := by decide +kernel
theorem dL_law_290 : decode cL_law 290 = .ok (.iload 6, 2) := by decide +kernel
theorem dL_law_292 : decode cL_law 292 = .ok (.i2l, 1) := by decide +kernel
theorem dL_law_293 : decode cL_law 293 = .ok (.lcmp, 1) := by decide +kernel
theorem dL_law_294 : decode cL_law 294 = .ok (.ifCond .eq 5, 3) := by decide +kernel
theorem dL_law_297 : decode cL_law 297 = .ok (.iconst 0, 1) := by decide +kernel
theorem dL_law_298 : decode cL_law 298 = .ok (.ireturn, 1) := by decide +kernel
theorem dL_law_299 : decode cL_law 299 = .ok (.goto 761, 3) := by decide +kernel
theorem dL_law_302 : decode cL_law 302 = .ok (.aload_n 1, 1) := by decide +kernel
theorem dL_law_303 : decode cL_law 303 = .ok (.aload_n 0, 1) := by decide +kernel
theorem dL_law_304 : decode cL_law 304 = .ok (.iload 4, 2) := by decide +kernel
theorem dL_law_306 : decode cL_law 306 = .ok (.iconst 1, 1) := by decide +kernel
theorem dL_law_307 : decode cL_law 307 = .ok (.iadd, 1) := by decide +kernel
theorem dL_law_308 : decode cL_law 308 = .ok (.iaload, 1) := by decide +kernel
theorem dL_law_309 : decode cL_law 309 = .ok (.aload_n 0, 1) := by decide +kernel
theorem dL_law_310 : decode cL_law 310 = .ok (.iload 4, 2) := by decide +kernel
theorem dL_law_312 : decode cL_law 312 = .ok (.iconst 2, 1) := by decide +kernel
theorem dL_law_313 : decode cL_law 313 = .ok (.iadd, 1) := by decide +kernel
theorem dL_law_314 : decode cL_law 314 = .ok (.iaload, 1) := by decide +kernel
theorem dL_law_315 : decode cL_law 315 = .ok (.aload_n 0, 1) := by decide +kernel
theorem dL_law_316 : decode cL_law 316 = .ok (.iload 4, 2) := by decide +kernel
theorem dL_law_318 : decode cL_law 318 = .ok (.iconst 3, 1) := by decide +kernel
theorem dL_law_319 : decode cL_law 319 = .ok (.iadd, 1) := by decide +kernel
theorem dL_law_320 : decode cL_law 320 = .ok (.iaload, 1) := by decide +kernel
theorem dL_law_321 : decode cL_law 321 = .ok (.aload_n 0, 1) := by decide +kernel
theorem dL_law_322 : decode cL_law 322 = .ok (.iload 4, 2) := by decide +kernel
theorem dL_law_324 : decode cL_law 324 = .ok (.iconst 4, 1) := by decide +kernel
theorem dL_law_325 : decode cL_law 325 = .ok (.iadd, 1) := by decide +kernel
theorem dL_law_326 : decode cL_law 326 = .ok (.iaload, 1) := by decide +kernel
theorem dL_law_327 : decode cL_law 327 = .ok (.ifCond .eq 7, 3) := by decide +kernel
theorem dL_law_330 : decode cL_law 330 = .ok (.iconst 1, 1) := by decide +kernel
theorem dL_law_331 : decode cL_law 331 = .ok (.goto 4, 3) := by decide +kernel
theorem dL_law_334 : decode cL_law 334 = .ok (.iconst 0, 1) := by decide +kernel
theorem dL_law_335 : decode cL_law 335 = .ok (.invokestatic 83, 3) := by decide +kernel
theorem dL_law_338 : decode cL_law 338 = .ok (.istore 5, 2) := by decide +kernel
theorem dL_law_340 : decode cL_law 340 = .ok (.aload_n 2, 1) := by decide +kernel
theorem dL_law_341 : decode cL_law 341 = .ok (.aload_n 0, 1) := by decide +kernel
theorem dL_law_342 : decode cL_law 342 = .ok (.iload 4, 2) := by decide +kernel
theorem dL_law_344 : decode cL_law 344 = .ok (.iconst 1, 1) := by decide +kernel
theorem dL_law_345 : decode cL_law 345 = .ok (.iadd, 1) := by decide +kernel
theorem dL_law_346 : decode cL_law 346 = .ok (.iaload, 1) := by decide +kernel
theorem dL_law_347 : decode cL_law 347 = .ok (.aload_n 0, 1) := by decide +kernel
theorem dL_law_348 : decode cL_law 348 = .ok (.iload 4, 2) := by decide +kernel
theorem dL_law_350 : decode cL_law 350 = .ok (.iconst 2, 1) := by decide +kernel
theorem dL_law_351 : decode cL_law 351 = .ok (.iadd, 1) := by decide +kernel
theorem dL_law_352 : decode cL_law 352 = .ok (.iaload, 1) := by decide +kernel
theorem dL_law_353 : decode cL_law 353 = .ok (.aload_n 0, 1) := by decide +kernel
theorem dL_law_354 : decode cL_law 354 = .ok (.iload 4, 2) := by decide +kernel
theorem dL_law_356 : decode cL_law 356 = .ok (.iconst 3, 1) := by decide +kernel
theorem dL_law_357 : decode cL_law 357 = .ok (.iadd, 1) := by decide +kernel
theorem dL_law_358 : decode cL_law 358 = .ok (.iaload, 1) := by decide +kernel
theorem dL_law_359 : decode cL_law 359 = .ok (.aload_n 0, 1) := by decide +kernel
theorem dL_law_360 : decode cL_law 360 = .ok (.iload 4, 2) := by decide +kernel
theorem dL_law_362 : decode cL_law 362 = .ok (.iconst 4, 1) := by decide +kernel
theorem dL_law_363 : decode cL_law 363 = .ok (.iadd, 1) := by decide +kernel
theorem dL_law_364 : decode cL_law 364 = .ok (.iaload, 1) := by decide +kernel
theorem dL_law_365 : decode cL_law 365 = .ok (.ifCond .eq 7, 3) := by decide +kernel
theorem dL_law_368 : decode cL_law 368 = .ok (.iconst 1, 1) := by decide +kernel
theorem dL_law_369 : decode cL_law 369 = .ok (.goto 4, 3) := by decide +kernel
theorem dL_law_372 : decode cL_law 372 = .ok (.iconst 0, 1) := by decide +kernel
theorem dL_law_373 : decode cL_law 373 = .ok (.invokevirtual 86, 3) := by decide +kernel
theorem dL_law_376 : decode cL_law 376 = .ok (.aload_n 2, 1) := by decide +kernel
theorem dL_law_377 : decode cL_law 377 = .ok (.invokevirtual 76, 3) := by decide +kernel
theorem dL_law_380 : decode cL_law 380 = .ok (.iload 5, 2) := by decide +kernel
theorem dL_law_382 : decode cL_law 382 = .ok (.if_icmp .eq 5, 3) := by decide +kernel
theorem dL_law_385 : decode cL_law 385 = .ok (.iconst 0, 1) := by decide +kernel
theorem dL_law_386 : decode cL_law 386 = .ok (.ireturn, 1) := by decide +kernel
theorem dL_law_387 : decode cL_law 387 = .ok (.goto 673, 3) := by decide +kernel
theorem dL_law_390 : decode cL_law 390 = .ok (.aload_n 1, 1) := by decide +kernel
theorem dL_law_391 : decode cL_law 391 = .ok (.aload_n 0, 1) := by decide +kernel
theorem dL_law_392 : decode cL_law 392 = .ok (.iload 4, 2) := by decide +kernel
theorem dL_law_394 : decode cL_law 394 = .ok (.iconst 1, 1) := by decide +kernel
theorem dL_law_395 : decode cL_law 395 = .ok (.iadd, 1) := by decide +kernel
theorem dL_law_396 : decode cL_law 396 = .ok (.iaload, 1) := by decide +kernel
theorem dL_law_397 : decode cL_law 397 = .ok (.aload_n 0, 1) := by decide +kernel
theorem dL_law_398 : decode cL_law 398 = .ok (.iload 4, 2) := by decide +kernel
theorem dL_law_400 : decode cL_law 400 = .ok (.iconst 2, 1) := by decide +kernel
theorem dL_law_401 : decode cL_law 401 = .ok (.iadd, 1) := by decide +kernel
theorem dL_law_402 : decode cL_law 402 = .ok (.iaload, 1) := by decide +kernel
theorem dL_law_403 : decode cL_law 403 = .ok (.aload_n 0, 1) := by decide +kernel
theorem dL_law_404 : decode cL_law 404 = .ok (.iload 4, 2) := by decide +kernel
theorem dL_law_406 : decode cL_law 406 = .ok (.iconst 3, 1) := by decide +kernel
theorem dL_law_407 : decode cL_law 407 = .ok (.iadd, 1) := by decide +kernel
theorem dL_law_408 : decode cL_law 408 = .ok (.iaload, 1) := by decide +kernel
theorem dL_law_409 : decode cL_law 409 = .ok (.aload_n 3, 1) := by decide +kernel
theorem dL_law_410 : decode cL_law 410 = .ok (.invokestatic 87, 3) := by decide +kernel
theorem dL_law_413 : decode cL_law 413 = .ok (.istore 5, 2) := by decide +kernel
theorem dL_law_415 : decode cL_law 415 = .ok (.aload_n 2, 1) := by decide +kernel
theorem dL_law_416 : decode cL_law 416 = .ok (.aload_n 0, 1) := by decide +kernel
theorem dL_law_417 : decode cL_law 417 = .ok (.iload 4, 2) := by decide +kernel
theorem dL_law_419 : decode cL_law 419 = .ok (.iconst 1, 1) := by decide +kernel
theorem dL_law_420 : decode cL_law 420 = .ok (.iadd, 1) := by decide +kernel
theorem dL_law_421 : decode cL_law 421 = .ok (.iaload, 1) := by decide +kernel
theorem dL_law_422 : decode cL_law 422 = .ok (.aload_n 0, 1) := by decide +kernel
theorem dL_law_423 : decode cL_law 423 = .ok (.iload 4, 2) := by decide +kernel
