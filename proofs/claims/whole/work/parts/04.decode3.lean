theorem dX5_roomOf_30 : decode cX5_roomOf 30 = .ok (.iload_n 2, 1) := by decide +kernel
theorem dX5_roomOf_31 : decode cX5_roomOf 31 = .ok (.invokestatic 109, 3) := by decide +kernel
theorem dX5_roomOf_34 : decode cX5_roomOf 34 = .ok (.invokevirtual 155, 3) := by decide +kernel
theorem dX5_roomOf_37 : decode cX5_roomOf 37 = .ok (.ireturn, 1) := by decide +kernel
theorem dX5_penalty_0 : decode cX5_penalty 0 = .ok (.aload_n 0, 1) := by decide +kernel
theorem dX5_penalty_1 : decode cX5_penalty 1 = .ok (.getfield 39, 3) := by decide +kernel
theorem dX5_penalty_4 : decode cX5_penalty 4 = .ok (.invokevirtual 158, 3) := by decide +kernel
theorem dX5_penalty_7 : decode cX5_penalty 7 = .ok (.ireturn, 1) := by decide +kernel
theorem dX5_improve_0 : decode cX5_improve 0 = .ok (.iload_n 1, 1) := by decide +kernel
theorem dX5_improve_1 : decode cX5_improve 1 = .ok (.iconst 1, 1) := by decide +kernel
theorem dX5_improve_2 : decode cX5_improve 2 = .ok (.bipush 10, 2) := by decide +kernel
theorem dX5_improve_4 : decode cX5_improve 4 = .ok (.invokestatic 32, 3) := by decide +kernel
theorem dX5_improve_7 : decode cX5_improve 7 = .ok (.ifCond .ne 13, 3) := by decide +kernel
theorem dX5_improve_10 : decode cX5_improve 10 = .ok (.new 43, 3) := by decide +kernel
theorem dX5_improve_13 : decode cX5_improve 13 = .ok (.dup, 1) := by decide +kernel
theorem dX5_improve_14 : decode cX5_improve 14 = .ok (.ldc 162, 2) := by decide +kernel
theorem dX5_improve_16 : decode cX5_improve 16 = .ok (.invokespecial 47, 3) := by decide +kernel
theorem dX5_improve_19 : decode cX5_improve 19 = .ok (.athrow, 1) := by decide +kernel
theorem dX5_improve_20 : decode cX5_improve 20 = .ok (.aload_n 0, 1) := by decide +kernel
theorem dX5_improve_21 : decode cX5_improve 21 = .ok (.getfield 26, 3) := by decide +kernel
theorem dX5_improve_24 : decode cX5_improve 24 = .ok (.aload_n 0, 1) := by decide +kernel
theorem dX5_improve_25 : decode cX5_improve 25 = .ok (.getfield 39, 3) := by decide +kernel
theorem dX5_improve_28 : decode cX5_improve 28 = .ok (.getfield 118, 3) := by decide +kernel
theorem dX5_improve_31 : decode cX5_improve 31 = .ok (.invokevirtual 121, 3) := by decide +kernel
theorem dX5_improve_34 : decode cX5_improve 34 = .ok (.iconst 0, 1) := by decide +kernel
theorem dX5_improve_35 : decode cX5_improve 35 = .ok (.istore_n 2, 1) := by decide +kernel
theorem dX5_improve_36 : decode cX5_improve 36 = .ok (.iconst 0, 1) := by decide +kernel
theorem dX5_improve_37 : decode cX5_improve 37 = .ok (.istore_n 3, 1) := by decide +kernel
theorem dX5_improve_38 : decode cX5_improve 38 = .ok (.iload_n 3, 1) := by decide +kernel
theorem dX5_improve_39 : decode cX5_improve 39 = .ok (.iload_n 1, 1) := by decide +kernel
theorem dX5_improve_40 : decode cX5_improve 40 = .ok (.if_icmp .ge 24, 3) := by decide +kernel
theorem dX5_improve_43 : decode cX5_improve 43 = .ok (.aload_n 0, 1) := by decide +kernel
theorem dX5_improve_44 : decode cX5_improve 44 = .ok (.getfield 39, 3) := by decide +kernel
theorem dX5_improve_47 : decode cX5_improve 47 = .ok (.invokevirtual 164, 3) := by decide +kernel
theorem dX5_improve_50 : decode cX5_improve 50 = .ok (.ifCond .ne 6, 3) := by decide +kernel
theorem dX5_improve_53 : decode cX5_improve 53 = .ok (.goto 11, 3) := by decide +kernel
theorem dX5_improve_56 : decode cX5_improve 56 = .ok (.iconst 1, 1) := by decide +kernel
theorem dX5_improve_57 : decode cX5_improve 57 = .ok (.istore_n 2, 1) := by decide +kernel
theorem dX5_improve_58 : decode cX5_improve 58 = .ok (.iinc 3 1, 3) := by decide +kernel
theorem dX5_improve_61 : decode cX5_improve 61 = .ok (.goto (-23), 3) := by decide +kernel
theorem dX5_improve_64 : decode cX5_improve 64 = .ok (.iload_n 2, 1) := by decide +kernel
theorem dX5_improve_65 : decode cX5_improve 65 = .ok (.ifCond .eq 10, 3) := by decide +kernel
theorem dX5_improve_68 : decode cX5_improve 68 = .ok (.aload_n 0, 1) := by decide +kernel
theorem dX5_improve_69 : decode cX5_improve 69 = .ok (.getfield 26, 3) := by decide +kernel
theorem dX5_improve_72 : decode cX5_improve 72 = .ok (.invokevirtual 128, 3) := by decide +kernel
theorem dX5_improve_75 : decode cX5_improve 75 = .ok (.aload_n 0, 1) := by decide +kernel
theorem dX5_improve_76 : decode cX5_improve 76 = .ok (.getfield 39, 3) := by decide +kernel
theorem dX5_improve_79 : decode cX5_improve 79 = .ok (.invokevirtual 158, 3) := by decide +kernel
theorem dX5_improve_82 : decode cX5_improve 82 = .ok (.ireturn, 1) := by decide +kernel
theorem dX5_absent_0 : decode cX5_absent 0 = .ok (.iload_n 1, 1) := by decide +kernel
theorem dX5_absent_1 : decode cX5_absent 1 = .ok (.iconst 0, 1) := by decide +kernel
theorem dX5_absent_2 : decode cX5_absent 2 = .ok (.bipush 7, 2) := by decide +kernel
theorem dX5_absent_4 : decode cX5_absent 4 = .ok (.invokestatic 32, 3) := by decide +kernel
theorem dX5_absent_7 : decode cX5_absent 7 = .ok (.ifCond .eq 20, 3) := by decide +kernel
theorem dX5_absent_10 : decode cX5_absent 10 = .ok (.iload_n 2, 1) := by decide +kernel
theorem dX5_absent_11 : decode cX5_absent 11 = .ok (.iconst 0, 1) := by decide +kernel
theorem dX5_absent_12 : decode cX5_absent 12 = .ok (.aload_n 0, 1) := by decide +kernel
theorem dX5_absent_13 : decode cX5_absent 13 = .ok (.getfield 39, 3) := by decide +kernel
theorem dX5_absent_16 : decode cX5_absent 16 = .ok (.getfield 168, 3) := by decide +kernel
theorem dX5_absent_19 : decode cX5_absent 19 = .ok (.iconst 1, 1) := by decide +kernel
theorem dX5_absent_20 : decode cX5_absent 20 = .ok (.isub, 1) := by decide +kernel
theorem dX5_absent_21 : decode cX5_absent 21 = .ok (.invokestatic 32, 3) := by decide +kernel
theorem dX5_absent_24 : decode cX5_absent 24 = .ok (.ifCond .ne 13, 3) := by decide +kernel
theorem dX5_absent_27 : decode cX5_absent 27 = .ok (.new 43, 3) := by decide +kernel
theorem dX5_absent_30 : decode cX5_absent 30 = .ok (.dup, 1) := by decide +kernel
theorem dX5_absent_31 : decode cX5_absent 31 = .ok (.ldc 171, 2) := by decide +kernel
theorem dX5_absent_33 : decode cX5_absent 33 = .ok (.invokespecial 47, 3) := by decide +kernel
theorem dX5_absent_36 : decode cX5_absent 36 = .ok (.athrow, 1) := by decide +kernel
theorem dX5_absent_37 : decode cX5_absent 37 = .ok (.aload_n 0, 1) := by decide +kernel
theorem dX5_absent_38 : decode cX5_absent 38 = .ok (.getfield 19, 3) := by decide +kernel
theorem dX5_absent_41 : decode cX5_absent 41 = .ok (.aload_n 0, 1) := by decide +kernel
theorem dX5_absent_42 : decode cX5_absent 42 = .ok (.getfield 39, 3) := by decide +kernel
theorem dX5_absent_45 : decode cX5_absent 45 = .ok (.iload_n 1, 1) := by decide +kernel
theorem dX5_absent_46 : decode cX5_absent 46 = .ok (.iload_n 2, 1) := by decide +kernel
theorem dX5_absent_47 : decode cX5_absent 47 = .ok (.invokevirtual 173, 3) := by decide +kernel
theorem dX5_absent_50 : decode cX5_absent 50 = .ok (.aload_n 0, 1) := by decide +kernel
theorem dX5_absent_51 : decode cX5_absent 51 = .ok (.getfield 19, 3) := by decide +kernel
theorem dX5_absent_54 : decode cX5_absent 54 = .ok (.getfield 177, 3) := by decide +kernel
theorem dX5_absent_57 : decode cX5_absent 57 = .ok (.ireturn, 1) := by decide +kernel
theorem dX5_substitute_0 : decode cX5_substitute 0 = .ok (.iload_n 1, 1) := by decide +kernel
theorem dX5_substitute_1 : decode cX5_substitute 1 = .ok (.iconst 0, 1) := by decide +kernel
theorem dX5_substitute_2 : decode cX5_substitute 2 = .ok (.aload_n 0, 1) := by decide +kernel
theorem dX5_substitute_3 : decode cX5_substitute 3 = .ok (.getfield 19, 3) := by decide +kernel
theorem dX5_substitute_6 : decode cX5_substitute 6 = .ok (.getfield 177, 3) := by decide +kernel
theorem dX5_substitute_9 : decode cX5_substitute 9 = .ok (.iconst 1, 1) := by decide +kernel
theorem dX5_substitute_10 : decode cX5_substitute 10 = .ok (.isub, 1) := by decide +kernel
theorem dX5_substitute_11 : decode cX5_substitute 11 = .ok (.invokestatic 32, 3) := by decide +kernel
theorem dX5_substitute_14 : decode cX5_substitute 14 = .ok (.ifCond .ne 13, 3) := by decide +kernel
theorem dX5_substitute_17 : decode cX5_substitute 17 = .ok (.new 178, 3) := by decide +kernel
theorem dX5_substitute_20 : decode cX5_substitute 20 = .ok (.dup, 1) := by decide +kernel
theorem dX5_substitute_21 : decode cX5_substitute 21 = .ok (.ldc 131, 2) := by decide +kernel
theorem dX5_substitute_23 : decode cX5_substitute 23 = .ok (.invokespecial 180, 3) := by decide +kernel
theorem dX5_substitute_26 : decode cX5_substitute 26 = .ok (.athrow, 1) := by decide +kernel
theorem dX5_substitute_27 : decode cX5_substitute 27 = .ok (.aload_n 0, 1) := by decide +kernel
theorem dX5_substitute_28 : decode cX5_substitute 28 = .ok (.getfield 19, 3) := by decide +kernel
theorem dX5_substitute_31 : decode cX5_substitute 31 = .ok (.getfield 181, 3) := by decide +kernel
theorem dX5_substitute_34 : decode cX5_substitute 34 = .ok (.iload_n 1, 1) := by decide +kernel
theorem dX5_substitute_35 : decode cX5_substitute 35 = .ok (.iaload, 1) := by decide +kernel
theorem dX5_substitute_36 : decode cX5_substitute 36 = .ok (.ireturn, 1) := by decide +kernel
theorem dX5_undo_0 : decode cX5_undo 0 = .ok (.aload_n 0, 1) := by decide +kernel
theorem dX5_undo_1 : decode cX5_undo 1 = .ok (.getfield 26, 3) := by decide +kernel
theorem dX5_undo_4 : decode cX5_undo 4 = .ok (.getfield 184, 3) := by decide +kernel
theorem dX5_undo_7 : decode cX5_undo 7 = .ok (.ifCond .ne 13, 3) := by decide +kernel
theorem dX5_undo_10 : decode cX5_undo 10 = .ok (.new 54, 3) := by decide +kernel
theorem dX5_undo_13 : decode cX5_undo 13 = .ok (.dup, 1) := by decide +kernel
theorem dX5_undo_14 : decode cX5_undo 14 = .ok (.ldc 185, 2) := by decide +kernel
theorem dX5_undo_16 : decode cX5_undo 16 = .ok (.invokespecial 58, 3) := by decide +kernel
theorem dX5_undo_19 : decode cX5_undo 19 = .ok (.athrow, 1) := by decide +kernel
theorem dX5_undo_20 : decode cX5_undo 20 = .ok (.aload_n 0, 1) := by decide +kernel
theorem dX5_undo_21 : decode cX5_undo 21 = .ok (.getfield 26, 3) := by decide +kernel
theorem dX5_undo_24 : decode cX5_undo 24 = .ok (.aload_n 0, 1) := by decide +kernel
theorem dX5_undo_25 : decode cX5_undo 25 = .ok (.getfield 39, 3) := by decide +kernel
theorem dX5_undo_28 : decode cX5_undo 28 = .ok (.getfield 118, 3) := by decide +kernel
theorem dX5_undo_31 : decode cX5_undo 31 = .ok (.invokevirtual 187, 3) := by decide +kernel
theorem dX5_undo_34 : decode cX5_undo 34 = .ok (.aload_n 0, 1) := by decide +kernel
theorem dX5_undo_35 : decode cX5_undo 35 = .ok (.getfield 39, 3) := by decide +kernel
theorem dX5_undo_38 : decode cX5_undo 38 = .ok (.invokevirtual 190, 3) := by decide +kernel
theorem dX5_undo_41 : decode cX5_undo 41 = .ok (.aload_n 0, 1) := by decide +kernel
theorem dX5_undo_42 : decode cX5_undo 42 = .ok (.getfield 26, 3) := by decide +kernel
theorem dX5_undo_45 : decode cX5_undo 45 = .ok (.getfield 184, 3) := by decide +kernel
theorem dX5_undo_48 : decode cX5_undo 48 = .ok (.ireturn, 1) := by decide +kernel
theorem dX5_page_0 : decode cX5_page 0 = .ok (.iload_n 1, 1) := by decide +kernel
theorem dX5_page_1 : decode cX5_page 1 = .ok (.iload_n 2, 1) := by decide +kernel
theorem dX5_page_2 : decode cX5_page 2 = .ok (.invokestatic 86, 3) := by decide +kernel
theorem dX5_page_5 : decode cX5_page 5 = .ok (.ifCond .ne 13, 3) := by decide +kernel
theorem dX5_page_8 : decode cX5_page 8 = .ok (.new 43, 3) := by decide +kernel
theorem dX5_page_11 : decode cX5_page 11 = .ok (.dup, 1) := by decide +kernel
theorem dX5_page_12 : decode cX5_page 12 = .ok (.ldc 193, 2) := by decide +kernel
theorem dX5_page_14 : decode cX5_page 14 = .ok (.invokespecial 47, 3) := by decide +kernel
theorem dX5_page_17 : decode cX5_page 17 = .ok (.athrow, 1) := by decide +kernel
theorem dX5_page_18 : decode cX5_page 18 = .ok (.aload_n 0, 1) := by decide +kernel
theorem dX5_page_19 : decode cX5_page 19 = .ok (.getfield 39, 3) := by decide +kernel
theorem dX5_page_22 : decode cX5_page 22 = .ok (.getfield 195, 3) := by decide +kernel
theorem dX5_page_25 : decode cX5_page 25 = .ok (.iconst 1, 1) := by decide +kernel
theorem dX5_page_26 : decode cX5_page 26 = .ok (.iadd, 1) := by decide +kernel
theorem dX5_page_27 : decode cX5_page 27 = .ok (.istore 4, 2) := by decide +kernel
theorem dX5_page_29 : decode cX5_page 29 = .ok (.iload_n 3, 1) := by decide +kernel
theorem dX5_page_30 : decode cX5_page 30 = .ok (.iconst 0, 1) := by decide +kernel
theorem dX5_page_31 : decode cX5_page 31 = .ok (.aload_n 0, 1) := by decide +kernel
theorem dX5_page_32 : decode cX5_page 32 = .ok (.getfield 39, 3) := by decide +kernel
theorem dX5_page_35 : decode cX5_page 35 = .ok (.getfield 168, 3) := by decide +kernel
theorem dX5_page_38 : decode cX5_page 38 = .ok (.iload 4, 2) := by decide +kernel
theorem dX5_page_40 : decode cX5_page 40 = .ok (.imul, 1) := by decide +kernel
theorem dX5_page_41 : decode cX5_page 41 = .ok (.iconst 1, 1) := by decide +kernel
theorem dX5_page_42 : decode cX5_page 42 = .ok (.isub, 1) := by decide +kernel
theorem dX5_page_43 : decode cX5_page 43 = .ok (.invokestatic 32, 3) := by decide +kernel
theorem dX5_page_46 : decode cX5_page 46 = .ok (.ifCond .ne 13, 3) := by decide +kernel
theorem dX5_page_49 : decode cX5_page 49 = .ok (.new 178, 3) := by decide +kernel
theorem dX5_page_52 : decode cX5_page 52 = .ok (.dup, 1) := by decide +kernel
theorem dX5_page_53 : decode cX5_page 53 = .ok (.ldc 198, 2) := by decide +kernel
theorem dX5_page_55 : decode cX5_page 55 = .ok (.invokespecial 180, 3) := by decide +kernel
theorem dX5_page_58 : decode cX5_page 58 = .ok (.athrow, 1) := by decide +kernel
theorem dX5_page_59 : decode cX5_page 59 = .ok (.iload_n 3, 1) := by decide +kernel
theorem dX5_page_60 : decode cX5_page 60 = .ok (.iload 4, 2) := by decide +kernel
theorem dX5_page_62 : decode cX5_page 62 = .ok (.irem, 1) := by decide +kernel
theorem dX5_page_63 : decode cX5_page 63 = .ok (.istore 5, 2) := by decide +kernel
theorem dX5_page_65 : decode cX5_page 65 = .ok (.iload 5, 2) := by decide +kernel
theorem dX5_page_67 : decode cX5_page 67 = .ok (.aload_n 0, 1) := by decide +kernel
theorem dX5_page_68 : decode cX5_page 68 = .ok (.getfield 39, 3) := by decide +kernel
theorem dX5_page_71 : decode cX5_page 71 = .ok (.getfield 195, 3) := by decide +kernel
theorem dX5_page_74 : decode cX5_page 74 = .ok (.if_icmp .ne 6, 3) := by decide +kernel
theorem dX5_page_77 : decode cX5_page 77 = .ok (.bipush 10, 2) := by decide +kernel
theorem dX5_page_79 : decode cX5_page 79 = .ok (.ireturn, 1) := by decide +kernel
theorem dX5_page_80 : decode cX5_page 80 = .ok (.aload_n 0, 1) := by decide +kernel
theorem dX5_page_81 : decode cX5_page 81 = .ok (.getfield 39, 3) := by decide +kernel
theorem dX5_page_84 : decode cX5_page 84 = .ok (.iload_n 1, 1) := by decide +kernel
theorem dX5_page_85 : decode cX5_page 85 = .ok (.iload_n 2, 1) := by decide +kernel
theorem dX5_page_86 : decode cX5_page 86 = .ok (.invokestatic 95, 3) := by decide +kernel
theorem dX5_page_89 : decode cX5_page 89 = .ok (.iload_n 3, 1) := by decide +kernel
theorem dX5_page_90 : decode cX5_page 90 = .ok (.iload 4, 2) := by decide +kernel
theorem dX5_page_92 : decode cX5_page 92 = .ok (.idiv, 1) := by decide +kernel
theorem dX5_page_93 : decode cX5_page 93 = .ok (.aload_n 0, 1) := by decide +kernel
theorem dX5_page_94 : decode cX5_page 94 = .ok (.getfield 39, 3) := by decide +kernel
theorem dX5_page_97 : decode cX5_page 97 = .ok (.getfield 195, 3) := by decide +kernel
theorem dX5_page_100 : decode cX5_page 100 = .ok (.imul, 1) := by decide +kernel
theorem dX5_page_101 : decode cX5_page 101 = .ok (.iload 5, 2) := by decide +kernel
theorem dX5_page_103 : decode cX5_page 103 = .ok (.iadd, 1) := by decide +kernel
theorem dX5_page_104 : decode cX5_page 104 = .ok (.invokevirtual 200, 3) := by decide +kernel
theorem dX5_page_107 : decode cX5_page 107 = .ok (.ireturn, 1) := by decide +kernel
theorem dX5_isWithin_0 : decode cX5_isWithin 0 = .ok (.iload_n 0, 1) := by decide +kernel
theorem dX5_isWithin_1 : decode cX5_isWithin 1 = .ok (.iload_n 1, 1) := by decide +kernel
theorem dX5_isWithin_2 : decode cX5_isWithin 2 = .ok (.if_icmp .lt 12, 3) := by decide +kernel
theorem dX5_isWithin_5 : decode cX5_isWithin 5 = .ok (.iload_n 0, 1) := by decide +kernel
theorem dX5_isWithin_6 : decode cX5_isWithin 6 = .ok (.iload_n 2, 1) := by decide +kernel
theorem dX5_isWithin_7 : decode cX5_isWithin 7 = .ok (.if_icmp .gt 7, 3) := by decide +kernel
theorem dX5_isWithin_10 : decode cX5_isWithin 10 = .ok (.iconst 1, 1) := by decide +kernel
theorem dX5_isWithin_11 : decode cX5_isWithin 11 = .ok (.goto 4, 3) := by decide +kernel
theorem dX5_isWithin_14 : decode cX5_isWithin 14 = .ok (.iconst 0, 1) := by decide +kernel
theorem dX5_isWithin_15 : decode cX5_isWithin 15 = .ok (.ireturn, 1) := by decide +kernel
theorem dX5_isUser_0 : decode cX5_isUser 0 = .ok (.iload_n 0, 1) := by decide +kernel
theorem dX5_isUser_1 : decode cX5_isUser 1 = .ok (.tableswitch 50 0 2 #[27, 35, 43], 27) := by decide +kernel
theorem dX5_isUser_28 : decode cX5_isUser 28 = .ok (.iload_n 1, 1) := by decide +kernel
theorem dX5_isUser_29 : decode cX5_isUser 29 = .ok (.iconst 0, 1) := by decide +kernel
theorem dX5_isUser_30 : decode cX5_isUser 30 = .ok (.bipush 7, 2) := by decide +kernel
theorem dX5_isUser_32 : decode cX5_isUser 32 = .ok (.invokestatic 32, 3) := by decide +kernel
theorem dX5_isUser_35 : decode cX5_isUser 35 = .ok (.ireturn, 1) := by decide +kernel
theorem dX5_isUser_36 : decode cX5_isUser 36 = .ok (.iload_n 1, 1) := by decide +kernel
theorem dX5_isUser_37 : decode cX5_isUser 37 = .ok (.iconst 0, 1) := by decide +kernel
theorem dX5_isUser_38 : decode cX5_isUser 38 = .ok (.bipush 7, 2) := by decide +kernel
theorem dX5_isUser_40 : decode cX5_isUser 40 = .ok (.invokestatic 32, 3) := by decide +kernel
theorem dX5_isUser_43 : decode cX5_isUser 43 = .ok (.ireturn, 1) := by decide +kernel
theorem dX5_isUser_44 : decode cX5_isUser 44 = .ok (.iload_n 1, 1) := by decide +kernel
theorem dX5_isUser_45 : decode cX5_isUser 45 = .ok (.iconst 0, 1) := by decide +kernel
theorem dX5_isUser_46 : decode cX5_isUser 46 = .ok (.iconst 5, 1) := by decide +kernel
theorem dX5_isUser_47 : decode cX5_isUser 47 = .ok (.invokestatic 32, 3) := by decide +kernel
theorem dX5_isUser_50 : decode cX5_isUser 50 = .ok (.ireturn, 1) := by decide +kernel
theorem dX5_isUser_51 : decode cX5_isUser 51 = .ok (.iconst 0, 1) := by decide +kernel
theorem dX5_isUser_52 : decode cX5_isUser 52 = .ok (.ireturn, 1) := by decide +kernel
theorem dX5_userOf_0 : decode cX5_userOf 0 = .ok (.iload_n 0, 1) := by decide +kernel
theorem dX5_userOf_1 : decode cX5_userOf 1 = .ok (.iconst 2, 1) := by decide +kernel
theorem dX5_userOf_2 : decode cX5_userOf 2 = .ok (.if_icmp .ne 8, 3) := by decide +kernel
theorem dX5_userOf_5 : decode cX5_userOf 5 = .ok (.bipush 16, 2) := by decide +kernel
theorem dX5_userOf_7 : decode cX5_userOf 7 = .ok (.iload_n 1, 1) := by decide +kernel
theorem dX5_userOf_8 : decode cX5_userOf 8 = .ok (.iadd, 1) := by decide +kernel
theorem dX5_userOf_9 : decode cX5_userOf 9 = .ok (.ireturn, 1) := by decide +kernel
theorem dX5_userOf_10 : decode cX5_userOf 10 = .ok (.iload_n 0, 1) := by decide +kernel
theorem dX5_userOf_11 : decode cX5_userOf 11 = .ok (.iconst 1, 1) := by decide +kernel
theorem dX5_userOf_12 : decode cX5_userOf 12 = .ok (.if_icmp .ne 10, 3) := by decide +kernel
theorem dX5_userOf_15 : decode cX5_userOf 15 = .ok (.bipush 8, 2) := by decide +kernel
theorem dX5_userOf_17 : decode cX5_userOf 17 = .ok (.iload_n 1, 1) := by decide +kernel
theorem dX5_userOf_18 : decode cX5_userOf 18 = .ok (.iadd, 1) := by decide +kernel
theorem dX5_userOf_19 : decode cX5_userOf 19 = .ok (.goto 4, 3) := by decide +kernel
theorem dX5_userOf_22 : decode cX5_userOf 22 = .ok (.iload_n 1, 1) := by decide +kernel
theorem dX5_userOf_23 : decode cX5_userOf 23 = .ok (.ireturn, 1) := by decide +kernel
theorem dX5_itemOf_0 : decode cX5_itemOf 0 = .ok (.iload_n 0, 1) := by decide +kernel
theorem dX5_itemOf_1 : decode cX5_itemOf 1 = .ok (.iconst 4, 1) := by decide +kernel
theorem dX5_itemOf_2 : decode cX5_itemOf 2 = .ok (.imul, 1) := by decide +kernel
theorem dX5_itemOf_3 : decode cX5_itemOf 3 = .ok (.iload_n 1, 1) := by decide +kernel
theorem dX5_itemOf_4 : decode cX5_itemOf 4 = .ok (.iadd, 1) := by decide +kernel
theorem dX5_itemOf_5 : decode cX5_itemOf 5 = .ok (.ireturn, 1) := by decide +kernel
theorem dX5_lessonOf_0 : decode cX5_lessonOf 0 = .ok (.iload_n 0, 1) := by decide +kernel
theorem dX5_lessonOf_1 : decode cX5_lessonOf 1 = .ok (.iconst 4, 1) := by decide +kernel
theorem dX5_lessonOf_2 : decode cX5_lessonOf 2 = .ok (.idiv, 1) := by decide +kernel
theorem dX5_lessonOf_3 : decode cX5_lessonOf 3 = .ok (.ireturn, 1) := by decide +kernel
theorem dX6_init_0 : decode cX6_init 0 = .ok (.aload_n 0, 1) := by decide +kernel
theorem dX6_init_1 : decode cX6_init 1 = .ok (.invokespecial 1, 3) := by decide +kernel
theorem dX6_init_4 : decode cX6_init 4 = .ok (.aload_n 0, 1) := by decide +kernel
theorem dX6_init_5 : decode cX6_init 5 = .ok (.bipush 6, 2) := by decide +kernel
theorem dX6_init_7 : decode cX6_init 7 = .ok (.newarray .int, 2) := by decide +kernel
theorem dX6_init_9 : decode cX6_init 9 = .ok (.putfield 7, 3) := by decide +kernel
theorem dX6_init_12 : decode cX6_init 12 = .ok (.aload_n 0, 1) := by decide +kernel
theorem dX6_init_13 : decode cX6_init 13 = .ok (.bipush 16, 2) := by decide +kernel
theorem dX6_init_15 : decode cX6_init 15 = .ok (.newarray .int, 2) := by decide +kernel
theorem dX6_init_17 : decode cX6_init 17 = .ok (.putfield 13, 3) := by decide +kernel
theorem dX6_init_20 : decode cX6_init 20 = .ok (.aload_n 0, 1) := by decide +kernel
theorem dX6_init_21 : decode cX6_init 21 = .ok (.bipush 16, 2) := by decide +kernel
theorem dX6_init_23 : decode cX6_init 23 = .ok (.newarray .int, 2) := by decide +kernel
theorem dX6_init_25 : decode cX6_init 25 = .ok (.putfield 16, 3) := by decide +kernel
theorem dX6_init_28 : decode cX6_init 28 = .ok (.aload_n 0, 1) := by decide +kernel
theorem dX6_init_29 : decode cX6_init 29 = .ok (.bipush 16, 2) := by decide +kernel
theorem dX6_init_31 : decode cX6_init 31 = .ok (.newarray .int, 2) := by decide +kernel
theorem dX6_init_33 : decode cX6_init 33 = .ok (.putfield 19, 3) := by decide +kernel
theorem dX6_init_36 : decode cX6_init 36 = .ok (.aload_n 0, 1) := by decide +kernel
theorem dX6_init_37 : decode cX6_init 37 = .ok (.bipush 16, 2) := by decide +kernel
theorem dX6_init_39 : decode cX6_init 39 = .ok (.newarray .int, 2) := by decide +kernel
theorem dX6_init_41 : decode cX6_init 41 = .ok (.putfield 22, 3) := by decide +kernel
theorem dX6_init_44 : decode cX6_init 44 = .ok (.aload_n 0, 1) := by decide +kernel
theorem dX6_init_45 : decode cX6_init 45 = .ok (.bipush 16, 2) := by decide +kernel
theorem dX6_init_47 : decode cX6_init 47 = .ok (.newarray .int, 2) := by decide +kernel
theorem dX6_init_49 : decode cX6_init 49 = .ok (.putfield 25, 3) := by decide +kernel
theorem dX6_init_52 : decode cX6_init 52 = .ok (.aload_n 0, 1) := by decide +kernel
theorem dX6_init_53 : decode cX6_init 53 = .ok (.bipush 16, 2) := by decide +kernel
theorem dX6_init_55 : decode cX6_init 55 = .ok (.newarray .int, 2) := by decide +kernel
theorem dX6_init_57 : decode cX6_init 57 = .ok (.putfield 28, 3) := by decide +kernel
theorem dX6_init_60 : decode cX6_init 60 = .ok (.aload_n 0, 1) := by decide +kernel
theorem dX6_init_61 : decode cX6_init 61 = .ok (.bipush 16, 2) := by decide +kernel
theorem dX6_init_63 : decode cX6_init 63 = .ok (.newarray .int, 2) := by decide +kernel
theorem dX6_init_65 : decode cX6_init 65 = .ok (.putfield 31, 3) := by decide +kernel
theorem dX6_init_68 : decode cX6_init 68 = .ok (.aload_n 0, 1) := by decide +kernel
theorem dX6_init_69 : decode cX6_init 69 = .ok (.bipush 64, 2) := by decide +kernel
theorem dX6_init_71 : decode cX6_init 71 = .ok (.newarray .int, 2) := by decide +kernel
theorem dX6_init_73 : decode cX6_init 73 = .ok (.putfield 34, 3) := by decide +kernel
theorem dX6_init_76 : decode cX6_init 76 = .ok (.aload_n 0, 1) := by decide +kernel
theorem dX6_init_77 : decode cX6_init 77 = .ok (.bipush 64, 2) := by decide +kernel
theorem dX6_init_79 : decode cX6_init 79 = .ok (.newarray .int, 2) := by decide +kernel
theorem dX6_init_81 : decode cX6_init 81 = .ok (.putfield 37, 3) := by decide +kernel
theorem dX6_init_84 : decode cX6_init 84 = .ok (.aload_n 0, 1) := by decide +kernel
theorem dX6_init_85 : decode cX6_init 85 = .ok (.sipush 660, 3) := by decide +kernel
theorem dX6_init_88 : decode cX6_init 88 = .ok (.newarray .boolean, 2) := by decide +kernel
theorem dX6_init_90 : decode cX6_init 90 = .ok (.putfield 40, 3) := by decide +kernel
theorem dX6_init_93 : decode cX6_init 93 = .ok (.aload_n 0, 1) := by decide +kernel
theorem dX6_init_94 : decode cX6_init 94 = .ok (.bipush 64, 2) := by decide +kernel
theorem dX6_init_96 : decode cX6_init 96 = .ok (.newarray .int, 2) := by decide +kernel
theorem dX6_init_98 : decode cX6_init 98 = .ok (.putfield 44, 3) := by decide +kernel
theorem dX6_init_101 : decode cX6_init 101 = .ok (.aload_n 0, 1) := by decide +kernel
theorem dX6_init_102 : decode cX6_init 102 = .ok (.bipush 64, 2) := by decide +kernel
theorem dX6_init_104 : decode cX6_init 104 = .ok (.newarray .int, 2) := by decide +kernel
theorem dX6_init_106 : decode cX6_init 106 = .ok (.putfield 47, 3) := by decide +kernel
theorem dX6_init_109 : decode cX6_init 109 = .ok (.aload_n 0, 1) := by decide +kernel
theorem dX6_init_110 : decode cX6_init 110 = .ok (.bipush 64, 2) := by decide +kernel
theorem dX6_init_112 : decode cX6_init 112 = .ok (.newarray .int, 2) := by decide +kernel
theorem dX6_init_114 : decode cX6_init 114 = .ok (.putfield 50, 3) := by decide +kernel
theorem dX6_init_117 : decode cX6_init 117 = .ok (.aload_n 0, 1) := by decide +kernel
theorem dX6_init_118 : decode cX6_init 118 = .ok (.sipush 1280, 3) := by decide +kernel
theorem dX6_init_121 : decode cX6_init 121 = .ok (.newarray .int, 2) := by decide +kernel
theorem dX6_init_123 : decode cX6_init 123 = .ok (.putfield 53, 3) := by decide +kernel
theorem dX6_init_126 : decode cX6_init 126 = .ok (.aload_n 0, 1) := by decide +kernel
theorem dX6_init_127 : decode cX6_init 127 = .ok (.sipush 1280, 3) := by decide +kernel
theorem dX6_init_130 : decode cX6_init 130 = .ok (.newarray .int, 2) := by decide +kernel
theorem dX6_init_132 : decode cX6_init 132 = .ok (.putfield 56, 3) := by decide +kernel
theorem dX6_init_135 : decode cX6_init 135 = .ok (.aload_n 0, 1) := by decide +kernel
theorem dX6_init_136 : decode cX6_init 136 = .ok (.bipush 64, 2) := by decide +kernel
theorem dX6_init_138 : decode cX6_init 138 = .ok (.newarray .int, 2) := by decide +kernel
theorem dX6_init_140 : decode cX6_init 140 = .ok (.putfield 59, 3) := by decide +kernel
theorem dX6_init_143 : decode cX6_init 143 = .ok (.aload_n 0, 1) := by decide +kernel
theorem dX6_init_144 : decode cX6_init 144 = .ok (.iload_n 1, 1) := by decide +kernel
theorem dX6_init_145 : decode cX6_init 145 = .ok (.iconst 1, 1) := by decide +kernel
theorem dX6_init_146 : decode cX6_init 146 = .ok (.if_icmp .lt 8, 3) := by decide +kernel
theorem dX6_init_149 : decode cX6_init 149 = .ok (.iload_n 1, 1) := by decide +kernel
theorem dX6_init_150 : decode cX6_init 150 = .ok (.iconst 5, 1) := by decide +kernel
theorem dX6_init_151 : decode cX6_init 151 = .ok (.if_icmp .le 7, 3) := by decide +kernel
theorem dX6_init_154 : decode cX6_init 154 = .ok (.iconst 5, 1) := by decide +kernel
theorem dX6_init_155 : decode cX6_init 155 = .ok (.goto 4, 3) := by decide +kernel
theorem dX6_init_158 : decode cX6_init 158 = .ok (.iload_n 1, 1) := by decide +kernel
theorem dX6_init_159 : decode cX6_init 159 = .ok (.putfield 62, 3) := by decide +kernel
theorem dX6_init_162 : decode cX6_init 162 = .ok (.aload_n 0, 1) := by decide +kernel
theorem dX6_init_163 : decode cX6_init 163 = .ok (.iload_n 2, 1) := by decide +kernel
theorem dX6_init_164 : decode cX6_init 164 = .ok (.iconst 1, 1) := by decide +kernel
theorem dX6_init_165 : decode cX6_init 165 = .ok (.if_icmp .lt 9, 3) := by decide +kernel
theorem dX6_init_168 : decode cX6_init 168 = .ok (.iload_n 2, 1) := by decide +kernel
theorem dX6_init_169 : decode cX6_init 169 = .ok (.bipush 6, 2) := by decide +kernel
theorem dX6_init_171 : decode cX6_init 171 = .ok (.if_icmp .le 8, 3) := by decide +kernel
theorem dX6_init_174 : decode cX6_init 174 = .ok (.bipush 6, 2) := by decide +kernel
theorem dX6_init_176 : decode cX6_init 176 = .ok (.goto 4, 3) := by decide +kernel
theorem dX6_init_179 : decode cX6_init 179 = .ok (.iload_n 2, 1) := by decide +kernel
theorem dX6_init_180 : decode cX6_init 180 = .ok (.putfield 66, 3) := by decide +kernel
theorem dX6_init_183 : decode cX6_init 183 = .ok (.iconst 0, 1) := by decide +kernel
theorem dX6_init_184 : decode cX6_init 184 = .ok (.istore_n 3, 1) := by decide +kernel
theorem dX6_init_185 : decode cX6_init 185 = .ok (.iload_n 3, 1) := by decide +kernel
theorem dX6_init_186 : decode cX6_init 186 = .ok (.bipush 64, 2) := by decide +kernel
theorem dX6_init_188 : decode cX6_init 188 = .ok (.if_icmp .ge 23, 3) := by decide +kernel
theorem dX6_init_191 : decode cX6_init 191 = .ok (.aload_n 0, 1) := by decide +kernel
theorem dX6_init_192 : decode cX6_init 192 = .ok (.getfield 34, 3) := by decide +kernel
theorem dX6_init_195 : decode cX6_init 195 = .ok (.iload_n 3, 1) := by decide +kernel
theorem dX6_init_196 : decode cX6_init 196 = .ok (.iconst (-1), 1) := by decide +kernel
theorem dX6_init_197 : decode cX6_init 197 = .ok (.iastore, 1) := by decide +kernel
theorem dX6_init_198 : decode cX6_init 198 = .ok (.aload_n 0, 1) := by decide +kernel
theorem dX6_init_199 : decode cX6_init 199 = .ok (.getfield 37, 3) := by decide +kernel
theorem dX6_init_202 : decode cX6_init 202 = .ok (.iload_n 3, 1) := by decide +kernel
theorem dX6_init_203 : decode cX6_init 203 = .ok (.iconst (-1), 1) := by decide +kernel
theorem dX6_init_204 : decode cX6_init 204 = .ok (.iastore, 1) := by decide +kernel
theorem dX6_init_205 : decode cX6_init 205 = .ok (.iinc 3 1, 3) := by decide +kernel
theorem dX6_init_208 : decode cX6_init 208 = .ok (.goto (-23), 3) := by decide +kernel
theorem dX6_init_211 : decode cX6_init 211 = .ok (.return_, 1) := by decide +kernel
theorem dX6_thrown_0 : decode cX6_thrown 0 = .ok (.aload_n 0, 1) := by decide +kernel
theorem dX6_thrown_1 : decode cX6_thrown 1 = .ok (.getfield 69, 3) := by decide +kernel
theorem dX6_thrown_4 : decode cX6_thrown 4 = .ok (.ireturn, 1) := by decide +kernel
theorem dX6_throwing_0 : decode cX6_throwing 0 = .ok (.aload_n 0, 1) := by decide +kernel
theorem dX6_throwing_1 : decode cX6_throwing 1 = .ok (.iload_n 1, 1) := by decide +kernel
theorem dX6_throwing_2 : decode cX6_throwing 2 = .ok (.ifCond .eq 7, 3) := by decide +kernel
theorem dX6_throwing_5 : decode cX6_throwing 5 = .ok (.iconst 1, 1) := by decide +kernel
theorem dX6_throwing_6 : decode cX6_throwing 6 = .ok (.goto 12, 3) := by decide +kernel
theorem dX6_throwing_9 : decode cX6_throwing 9 = .ok (.iload_n 2, 1) := by decide +kernel
theorem dX6_throwing_10 : decode cX6_throwing 10 = .ok (.ifCond .eq 7, 3) := by decide +kernel
theorem dX6_throwing_13 : decode cX6_throwing 13 = .ok (.iconst 2, 1) := by decide +kernel
theorem dX6_throwing_14 : decode cX6_throwing 14 = .ok (.goto 4, 3) := by decide +kernel
theorem dX6_throwing_17 : decode cX6_throwing 17 = .ok (.iconst 0, 1) := by decide +kernel
theorem dX6_throwing_18 : decode cX6_throwing 18 = .ok (.putfield 69, 3) := by decide +kernel
theorem dX6_throwing_21 : decode cX6_throwing 21 = .ok (.aload_n 0, 1) := by decide +kernel
theorem dX6_throwing_22 : decode cX6_throwing 22 = .ok (.getfield 69, 3) := by decide +kernel
theorem dX6_throwing_25 : decode cX6_throwing 25 = .ok (.ifCond .le 7, 3) := by decide +kernel
theorem dX6_throwing_28 : decode cX6_throwing 28 = .ok (.iconst 1, 1) := by decide +kernel
theorem dX6_throwing_29 : decode cX6_throwing 29 = .ok (.goto 4, 3) := by decide +kernel
theorem dX6_throwing_32 : decode cX6_throwing 32 = .ok (.iconst 0, 1) := by decide +kernel
theorem dX6_throwing_33 : decode cX6_throwing 33 = .ok (.ireturn, 1) := by decide +kernel
theorem dX6_in_0 : decode cX6_in 0 = .ok (.iload_n 0, 1) := by decide +kernel
theorem dX6_in_1 : decode cX6_in 1 = .ok (.iload_n 1, 1) := by decide +kernel
theorem dX6_in_2 : decode cX6_in 2 = .ok (.if_icmp .lt 12, 3) := by decide +kernel
theorem dX6_in_5 : decode cX6_in 5 = .ok (.iload_n 0, 1) := by decide +kernel
theorem dX6_in_6 : decode cX6_in 6 = .ok (.iload_n 2, 1) := by decide +kernel
theorem dX6_in_7 : decode cX6_in 7 = .ok (.if_icmp .gt 7, 3) := by decide +kernel
theorem dX6_in_10 : decode cX6_in 10 = .ok (.iconst 1, 1) := by decide +kernel
theorem dX6_in_11 : decode cX6_in 11 = .ok (.goto 4, 3) := by decide +kernel
theorem dX6_in_14 : decode cX6_in 14 = .ok (.iconst 0, 1) := by decide +kernel
theorem dX6_in_15 : decode cX6_in 15 = .ok (.ireturn, 1) := by decide +kernel
theorem dX6_isPeriod_0 : decode cX6_isPeriod 0 = .ok (.iload_n 1, 1) := by decide +kernel
theorem dX6_isPeriod_1 : decode cX6_isPeriod 1 = .ok (.iconst 0, 1) := by decide +kernel
theorem dX6_isPeriod_2 : decode cX6_isPeriod 2 = .ok (.aload_n 0, 1) := by decide +kernel
theorem dX6_isPeriod_3 : decode cX6_isPeriod 3 = .ok (.getfield 62, 3) := by decide +kernel
theorem dX6_isPeriod_6 : decode cX6_isPeriod 6 = .ok (.aload_n 0, 1) := by decide +kernel
theorem dX6_isPeriod_7 : decode cX6_isPeriod 7 = .ok (.getfield 66, 3) := by decide +kernel
theorem dX6_isPeriod_10 : decode cX6_isPeriod 10 = .ok (.imul, 1) := by decide +kernel
theorem dX6_isPeriod_11 : decode cX6_isPeriod 11 = .ok (.iconst 1, 1) := by decide +kernel
theorem dX6_isPeriod_12 : decode cX6_isPeriod 12 = .ok (.isub, 1) := by decide +kernel
theorem dX6_isPeriod_13 : decode cX6_isPeriod 13 = .ok (.invokestatic 72, 3) := by decide +kernel
theorem dX6_isPeriod_16 : decode cX6_isPeriod 16 = .ok (.ireturn, 1) := by decide +kernel
theorem dX6_isItem_0 : decode cX6_isItem 0 = .ok (.iload_n 1, 1) := by decide +kernel
theorem dX6_isItem_1 : decode cX6_isItem 1 = .ok (.iconst 0, 1) := by decide +kernel
theorem dX6_isItem_2 : decode cX6_isItem 2 = .ok (.aload_n 0, 1) := by decide +kernel
theorem dX6_isItem_3 : decode cX6_isItem 3 = .ok (.getfield 76, 3) := by decide +kernel
theorem dX6_isItem_6 : decode cX6_isItem 6 = .ok (.iconst 1, 1) := by decide +kernel
theorem dX6_isItem_7 : decode cX6_isItem 7 = .ok (.isub, 1) := by decide +kernel
theorem dX6_isItem_8 : decode cX6_isItem 8 = .ok (.invokestatic 72, 3) := by decide +kernel
theorem dX6_isItem_11 : decode cX6_isItem 11 = .ok (.ifCond .eq 23, 3) := by decide +kernel
theorem dX6_isItem_14 : decode cX6_isItem 14 = .ok (.iload_n 2, 1) := by decide +kernel
theorem dX6_isItem_15 : decode cX6_isItem 15 = .ok (.iconst 0, 1) := by decide +kernel
theorem dX6_isItem_16 : decode cX6_isItem 16 = .ok (.aload_n 0, 1) := by decide +kernel
theorem dX6_isItem_17 : decode cX6_isItem 17 = .ok (.getfield 28, 3) := by decide +kernel
theorem dX6_isItem_20 : decode cX6_isItem 20 = .ok (.iload_n 1, 1) := by decide +kernel
theorem dX6_isItem_21 : decode cX6_isItem 21 = .ok (.iaload, 1) := by decide +kernel
theorem dX6_isItem_22 : decode cX6_isItem 22 = .ok (.iconst 1, 1) := by decide +kernel
theorem dX6_isItem_23 : decode cX6_isItem 23 = .ok (.isub, 1) := by decide +kernel
theorem dX6_isItem_24 : decode cX6_isItem 24 = .ok (.invokestatic 72, 3) := by decide +kernel
theorem dX6_isItem_27 : decode cX6_isItem 27 = .ok (.ifCond .eq 7, 3) := by decide +kernel
theorem dX6_isItem_30 : decode cX6_isItem 30 = .ok (.iconst 1, 1) := by decide +kernel
theorem dX6_isItem_31 : decode cX6_isItem 31 = .ok (.goto 4, 3) := by decide +kernel
theorem dX6_isItem_34 : decode cX6_isItem 34 = .ok (.iconst 0, 1) := by decide +kernel
theorem dX6_isItem_35 : decode cX6_isItem 35 = .ok (.ireturn, 1) := by decide +kernel
theorem dX6_lessonOf_0 : decode cX6_lessonOf 0 = .ok (.iload_n 0, 1) := by decide +kernel
theorem dX6_lessonOf_1 : decode cX6_lessonOf 1 = .ok (.iconst 4, 1) := by decide +kernel
theorem dX6_lessonOf_2 : decode cX6_lessonOf 2 = .ok (.idiv, 1) := by decide +kernel
theorem dX6_lessonOf_3 : decode cX6_lessonOf 3 = .ok (.ireturn, 1) := by decide +kernel
theorem dX6_covers_0 : decode cX6_covers 0 = .ok (.aload_n 0, 1) := by decide +kernel
theorem dX6_covers_1 : decode cX6_covers 1 = .ok (.getfield 34, 3) := by decide +kernel
theorem dX6_covers_4 : decode cX6_covers 4 = .ok (.iload_n 1, 1) := by decide +kernel
theorem dX6_covers_5 : decode cX6_covers 5 = .ok (.iaload, 1) := by decide +kernel
theorem dX6_covers_6 : decode cX6_covers 6 = .ok (.ifCond .lt 38, 3) := by decide +kernel
theorem dX6_covers_9 : decode cX6_covers 9 = .ok (.iload_n 2, 1) := by decide +kernel
theorem dX6_covers_10 : decode cX6_covers 10 = .ok (.aload_n 0, 1) := by decide +kernel
theorem dX6_covers_11 : decode cX6_covers 11 = .ok (.getfield 34, 3) := by decide +kernel
theorem dX6_covers_14 : decode cX6_covers 14 = .ok (.iload_n 1, 1) := by decide +kernel
theorem dX6_covers_15 : decode cX6_covers 15 = .ok (.iaload, 1) := by decide +kernel
theorem dX6_covers_16 : decode cX6_covers 16 = .ok (.aload_n 0, 1) := by decide +kernel
theorem dX6_covers_17 : decode cX6_covers 17 = .ok (.getfield 34, 3) := by decide +kernel
theorem dX6_covers_20 : decode cX6_covers 20 = .ok (.iload_n 1, 1) := by decide +kernel
theorem dX6_covers_21 : decode cX6_covers 21 = .ok (.iaload, 1) := by decide +kernel
theorem dX6_covers_22 : decode cX6_covers 22 = .ok (.aload_n 0, 1) := by decide +kernel
theorem dX6_covers_23 : decode cX6_covers 23 = .ok (.getfield 25, 3) := by decide +kernel
theorem dX6_covers_26 : decode cX6_covers 26 = .ok (.iload_n 1, 1) := by decide +kernel
theorem dX6_covers_27 : decode cX6_covers 27 = .ok (.invokestatic 79, 3) := by decide +kernel
theorem dX6_covers_30 : decode cX6_covers 30 = .ok (.iaload, 1) := by decide +kernel
theorem dX6_covers_31 : decode cX6_covers 31 = .ok (.iadd, 1) := by decide +kernel
theorem dX6_covers_32 : decode cX6_covers 32 = .ok (.iconst 1, 1) := by decide +kernel
theorem dX6_covers_33 : decode cX6_covers 33 = .ok (.isub, 1) := by decide +kernel
theorem dX6_covers_34 : decode cX6_covers 34 = .ok (.invokestatic 72, 3) := by decide +kernel
theorem dX6_covers_37 : decode cX6_covers 37 = .ok (.ifCond .eq 7, 3) := by decide +kernel
theorem dX6_covers_40 : decode cX6_covers 40 = .ok (.iconst 1, 1) := by decide +kernel
theorem dX6_covers_41 : decode cX6_covers 41 = .ok (.goto 4, 3) := by decide +kernel
theorem dX6_covers_44 : decode cX6_covers 44 = .ok (.iconst 0, 1) := by decide +kernel
theorem dX6_covers_45 : decode cX6_covers 45 = .ok (.ireturn, 1) := by decide +kernel
theorem dX6_isOf_0 : decode cX6_isOf 0 = .ok (.iload_n 1, 1) := by decide +kernel
theorem dX6_isOf_1 : decode cX6_isOf 1 = .ok (.invokestatic 79, 3) := by decide +kernel
theorem dX6_isOf_4 : decode cX6_isOf 4 = .ok (.istore 4, 2) := by decide +kernel
theorem dX6_isOf_6 : decode cX6_isOf 6 = .ok (.iload 4, 2) := by decide +kernel
theorem dX6_isOf_8 : decode cX6_isOf 8 = .ok (.aload_n 0, 1) := by decide +kernel
theorem dX6_isOf_9 : decode cX6_isOf 9 = .ok (.getfield 76, 3) := by decide +kernel
theorem dX6_isOf_12 : decode cX6_isOf 12 = .ok (.if_icmp .lt 5, 3) := by decide +kernel
theorem dX6_isOf_15 : decode cX6_isOf 15 = .ok (.iconst 0, 1) := by decide +kernel
theorem dX6_isOf_16 : decode cX6_isOf 16 = .ok (.ireturn, 1) := by decide +kernel
theorem dX6_isOf_17 : decode cX6_isOf 17 = .ok (.iload_n 2, 1) := by decide +kernel
theorem dX6_isOf_18 : decode cX6_isOf 18 = .ok (.ifCond .ne 33, 3) := by decide +kernel
theorem dX6_isOf_21 : decode cX6_isOf 21 = .ok (.aload_n 0, 1) := by decide +kernel
theorem dX6_isOf_22 : decode cX6_isOf 22 = .ok (.getfield 13, 3) := by decide +kernel
theorem dX6_isOf_25 : decode cX6_isOf 25 = .ok (.iload 4, 2) := by decide +kernel
theorem dX6_isOf_27 : decode cX6_isOf 27 = .ok (.iaload, 1) := by decide +kernel
theorem dX6_isOf_28 : decode cX6_isOf 28 = .ok (.iload_n 3, 1) := by decide +kernel
theorem dX6_isOf_29 : decode cX6_isOf 29 = .ok (.if_icmp .eq 14, 3) := by decide +kernel
theorem dX6_isOf_32 : decode cX6_isOf 32 = .ok (.aload_n 0, 1) := by decide +kernel
theorem dX6_isOf_33 : decode cX6_isOf 33 = .ok (.getfield 16, 3) := by decide +kernel
theorem dX6_isOf_36 : decode cX6_isOf 36 = .ok (.iload 4, 2) := by decide +kernel
theorem dX6_isOf_38 : decode cX6_isOf 38 = .ok (.iaload, 1) := by decide +kernel
theorem dX6_isOf_39 : decode cX6_isOf 39 = .ok (.iload_n 3, 1) := by decide +kernel
theorem dX6_isOf_40 : decode cX6_isOf 40 = .ok (.if_icmp .ne 7, 3) := by decide +kernel
theorem dX6_isOf_43 : decode cX6_isOf 43 = .ok (.iconst 1, 1) := by decide +kernel
theorem dX6_isOf_44 : decode cX6_isOf 44 = .ok (.goto 46, 3) := by decide +kernel
theorem dX6_isOf_47 : decode cX6_isOf 47 = .ok (.iconst 0, 1) := by decide +kernel
theorem dX6_isOf_48 : decode cX6_isOf 48 = .ok (.goto 42, 3) := by decide +kernel
theorem dX6_isOf_51 : decode cX6_isOf 51 = .ok (.iload_n 2, 1) := by decide +kernel
theorem dX6_isOf_52 : decode cX6_isOf 52 = .ok (.iconst 1, 1) := by decide +kernel
theorem dX6_isOf_53 : decode cX6_isOf 53 = .ok (.if_icmp .ne 22, 3) := by decide +kernel
theorem dX6_isOf_56 : decode cX6_isOf 56 = .ok (.aload_n 0, 1) := by decide +kernel
theorem dX6_isOf_57 : decode cX6_isOf 57 = .ok (.getfield 19, 3) := by decide +kernel
theorem dX6_isOf_60 : decode cX6_isOf 60 = .ok (.iload 4, 2) := by decide +kernel
theorem dX6_isOf_62 : decode cX6_isOf 62 = .ok (.iaload, 1) := by decide +kernel
theorem dX6_isOf_63 : decode cX6_isOf 63 = .ok (.iload_n 3, 1) := by decide +kernel
theorem dX6_isOf_64 : decode cX6_isOf 64 = .ok (.if_icmp .ne 7, 3) := by decide +kernel
theorem dX6_isOf_67 : decode cX6_isOf 67 = .ok (.iconst 1, 1) := by decide +kernel
theorem dX6_isOf_68 : decode cX6_isOf 68 = .ok (.goto 22, 3) := by decide +kernel
theorem dX6_isOf_71 : decode cX6_isOf 71 = .ok (.iconst 0, 1) := by decide +kernel
theorem dX6_isOf_72 : decode cX6_isOf 72 = .ok (.goto 18, 3) := by decide +kernel
theorem dX6_isOf_75 : decode cX6_isOf 75 = .ok (.aload_n 0, 1) := by decide +kernel
theorem dX6_isOf_76 : decode cX6_isOf 76 = .ok (.getfield 37, 3) := by decide +kernel
theorem dX6_isOf_79 : decode cX6_isOf 79 = .ok (.iload_n 1, 1) := by decide +kernel
theorem dX6_isOf_80 : decode cX6_isOf 80 = .ok (.iaload, 1) := by decide +kernel
theorem dX6_isOf_81 : decode cX6_isOf 81 = .ok (.iload_n 3, 1) := by decide +kernel
theorem dX6_isOf_82 : decode cX6_isOf 82 = .ok (.if_icmp .ne 7, 3) := by decide +kernel
theorem dX6_isOf_85 : decode cX6_isOf 85 = .ok (.iconst 1, 1) := by decide +kernel
theorem dX6_isOf_86 : decode cX6_isOf 86 = .ok (.goto 4, 3) := by decide +kernel
theorem dX6_isOf_89 : decode cX6_isOf 89 = .ok (.iconst 0, 1) := by decide +kernel
theorem dX6_isOf_90 : decode cX6_isOf 90 = .ok (.ireturn, 1) := by decide +kernel
theorem dX6_itemAt_0 : decode cX6_itemAt 0 = .ok (.iconst 0, 1) := by decide +kernel
theorem dX6_itemAt_1 : decode cX6_itemAt 1 = .ok (.istore 4, 2) := by decide +kernel
theorem dX6_itemAt_3 : decode cX6_itemAt 3 = .ok (.iload 4, 2) := by decide +kernel
theorem dX6_itemAt_5 : decode cX6_itemAt 5 = .ok (.bipush 64, 2) := by decide +kernel
theorem dX6_itemAt_7 : decode cX6_itemAt 7 = .ok (.if_icmp .ge 33, 3) := by decide +kernel
theorem dX6_itemAt_10 : decode cX6_itemAt 10 = .ok (.aload_n 0, 1) := by decide +kernel
theorem dX6_itemAt_11 : decode cX6_itemAt 11 = .ok (.iload 4, 2) := by decide +kernel
theorem dX6_itemAt_13 : decode cX6_itemAt 13 = .ok (.iload_n 3, 1) := by decide +kernel
theorem dX6_itemAt_14 : decode cX6_itemAt 14 = .ok (.invokevirtual 83, 3) := by decide +kernel
theorem dX6_itemAt_17 : decode cX6_itemAt 17 = .ok (.ifCond .eq 17, 3) := by decide +kernel
theorem dX6_itemAt_20 : decode cX6_itemAt 20 = .ok (.aload_n 0, 1) := by decide +kernel
theorem dX6_itemAt_21 : decode cX6_itemAt 21 = .ok (.iload 4, 2) := by decide +kernel
theorem dX6_itemAt_23 : decode cX6_itemAt 23 = .ok (.iload_n 1, 1) := by decide +kernel
theorem dX6_itemAt_24 : decode cX6_itemAt 24 = .ok (.iload_n 2, 1) := by decide +kernel
theorem dX6_itemAt_25 : decode cX6_itemAt 25 = .ok (.invokevirtual 87, 3) := by decide +kernel
theorem dX6_itemAt_28 : decode cX6_itemAt 28 = .ok (.ifCond .eq 6, 3) := by decide +kernel
theorem dX6_itemAt_31 : decode cX6_itemAt 31 = .ok (.iload 4, 2) := by decide +kernel
theorem dX6_itemAt_33 : decode cX6_itemAt 33 = .ok (.ireturn, 1) := by decide +kernel
theorem dX6_itemAt_34 : decode cX6_itemAt 34 = .ok (.iinc 4 1, 3) := by decide +kernel
theorem dX6_itemAt_37 : decode cX6_itemAt 37 = .ok (.goto (-34), 3) := by decide +kernel
theorem dX6_itemAt_40 : decode cX6_itemAt 40 = .ok (.iconst (-1), 1) := by decide +kernel
theorem dX6_itemAt_41 : decode cX6_itemAt 41 = .ok (.ireturn, 1) := by decide +kernel
theorem dX6_isBlocked_0 : decode cX6_isBlocked 0 = .ok (.aload_n 0, 1) := by decide +kernel
theorem dX6_isBlocked_1 : decode cX6_isBlocked 1 = .ok (.getfield 40, 3) := by decide +kernel
theorem dX6_isBlocked_4 : decode cX6_isBlocked 4 = .ok (.sipush 240, 3) := by decide +kernel
theorem dX6_isBlocked_7 : decode cX6_isBlocked 7 = .ok (.iload_n 1, 1) := by decide +kernel
theorem dX6_isBlocked_8 : decode cX6_isBlocked 8 = .ok (.imul, 1) := by decide +kernel
theorem dX6_isBlocked_9 : decode cX6_isBlocked 9 = .ok (.bipush 30, 2) := by decide +kernel
theorem dX6_isBlocked_11 : decode cX6_isBlocked 11 = .ok (.iload_n 2, 1) := by decide +kernel
theorem dX6_isBlocked_12 : decode cX6_isBlocked 12 = .ok (.imul, 1) := by decide +kernel
theorem dX6_isBlocked_13 : decode cX6_isBlocked 13 = .ok (.iadd, 1) := by decide +kernel
theorem dX6_isBlocked_14 : decode cX6_isBlocked 14 = .ok (.iload_n 3, 1) := by decide +kernel
theorem dX6_isBlocked_15 : decode cX6_isBlocked 15 = .ok (.iadd, 1) := by decide +kernel
theorem dX6_isBlocked_16 : decode cX6_isBlocked 16 = .ok (.baload, 1) := by decide +kernel
theorem dX6_isBlocked_17 : decode cX6_isBlocked 17 = .ok (.ireturn, 1) := by decide +kernel
theorem dX6_room_0 : decode cX6_room 0 = .ok (.iload_n 1, 1) := by decide +kernel
theorem dX6_room_1 : decode cX6_room 1 = .ok (.iconst 0, 1) := by decide +kernel
theorem dX6_room_2 : decode cX6_room 2 = .ok (.iconst 5, 1) := by decide +kernel
theorem dX6_room_3 : decode cX6_room 3 = .ok (.invokestatic 72, 3) := by decide +kernel
theorem dX6_room_6 : decode cX6_room 6 = .ok (.ifCond .eq 12, 3) := by decide +kernel
theorem dX6_room_9 : decode cX6_room 9 = .ok (.iload_n 2, 1) := by decide +kernel
theorem dX6_room_10 : decode cX6_room 10 = .ok (.iconst 0, 1) := by decide +kernel
theorem dX6_room_11 : decode cX6_room 11 = .ok (.iconst 2, 1) := by decide +kernel
theorem dX6_room_12 : decode cX6_room 12 = .ok (.invokestatic 72, 3) := by decide +kernel
theorem dX6_room_15 : decode cX6_room 15 = .ok (.ifCond .ne 7, 3) := by decide +kernel
theorem dX6_room_18 : decode cX6_room 18 = .ok (.iconst 1, 1) := by decide +kernel
theorem dX6_room_19 : decode cX6_room 19 = .ok (.goto 4, 3) := by decide +kernel
theorem dX6_room_22 : decode cX6_room 22 = .ok (.iconst 0, 1) := by decide +kernel
theorem dX6_room_23 : decode cX6_room 23 = .ok (.istore_n 3, 1) := by decide +kernel
theorem dX6_room_24 : decode cX6_room 24 = .ok (.iconst 0, 1) := by decide +kernel
theorem dX6_room_25 : decode cX6_room 25 = .ok (.istore 4, 2) := by decide +kernel
theorem dX6_room_27 : decode cX6_room 27 = .ok (.iconst 0, 1) := by decide +kernel
theorem dX6_room_28 : decode cX6_room 28 = .ok (.istore 5, 2) := by decide +kernel
theorem dX6_room_30 : decode cX6_room 30 = .ok (.iload 5, 2) := by decide +kernel
theorem dX6_room_32 : decode cX6_room 32 = .ok (.bipush 64, 2) := by decide +kernel
theorem dX6_room_34 : decode cX6_room 34 = .ok (.if_icmp .ge 46, 3) := by decide +kernel
theorem dX6_room_37 : decode cX6_room 37 = .ok (.iload_n 3, 1) := by decide +kernel
theorem dX6_room_38 : decode cX6_room 38 = .ok (.ifCond .ne 42, 3) := by decide +kernel
theorem dX6_room_41 : decode cX6_room 41 = .ok (.iload 4, 2) := by decide +kernel
theorem dX6_room_43 : decode cX6_room 43 = .ok (.ifCond .ne 24, 3) := by decide +kernel
theorem dX6_room_46 : decode cX6_room 46 = .ok (.aload_n 0, 1) := by decide +kernel
theorem dX6_room_47 : decode cX6_room 47 = .ok (.getfield 34, 3) := by decide +kernel
theorem dX6_room_50 : decode cX6_room 50 = .ok (.iload 5, 2) := by decide +kernel
theorem dX6_room_52 : decode cX6_room 52 = .ok (.iaload, 1) := by decide +kernel
theorem dX6_room_53 : decode cX6_room 53 = .ok (.ifCond .lt 18, 3) := by decide +kernel
theorem dX6_room_56 : decode cX6_room 56 = .ok (.aload_n 0, 1) := by decide +kernel
theorem dX6_room_57 : decode cX6_room 57 = .ok (.getfield 37, 3) := by decide +kernel
theorem dX6_room_60 : decode cX6_room 60 = .ok (.iload 5, 2) := by decide +kernel
theorem dX6_room_62 : decode cX6_room 62 = .ok (.iaload, 1) := by decide +kernel
theorem dX6_room_63 : decode cX6_room 63 = .ok (.iload_n 1, 1) := by decide +kernel
theorem dX6_room_64 : decode cX6_room 64 = .ok (.if_icmp .ne 7, 3) := by decide +kernel
theorem dX6_room_67 : decode cX6_room 67 = .ok (.iconst 1, 1) := by decide +kernel
theorem dX6_room_68 : decode cX6_room 68 = .ok (.goto 4, 3) := by decide +kernel
theorem dX6_room_71 : decode cX6_room 71 = .ok (.iconst 0, 1) := by decide +kernel
theorem dX6_room_72 : decode cX6_room 72 = .ok (.istore 4, 2) := by decide +kernel
theorem dX6_room_74 : decode cX6_room 74 = .ok (.iinc 5 1, 3) := by decide +kernel
theorem dX6_room_77 : decode cX6_room 77 = .ok (.goto (-47), 3) := by decide +kernel
theorem dX6_room_80 : decode cX6_room 80 = .ok (.aload_n 0, 1) := by decide +kernel
theorem dX6_room_81 : decode cX6_room 81 = .ok (.iload_n 3, 1) := by decide +kernel
theorem dX6_room_82 : decode cX6_room 82 = .ok (.iload 4, 2) := by decide +kernel
theorem dX6_room_84 : decode cX6_room 84 = .ok (.invokevirtual 90, 3) := by decide +kernel
theorem dX6_room_87 : decode cX6_room 87 = .ok (.ifCond .eq 4, 3) := by decide +kernel
theorem dX6_room_90 : decode cX6_room 90 = .ok (.return_, 1) := by decide +kernel
theorem dX6_room_91 : decode cX6_room 91 = .ok (.aload_n 0, 1) := by decide +kernel
theorem dX6_room_92 : decode cX6_room 92 = .ok (.getfield 7, 3) := by decide +kernel
theorem dX6_room_95 : decode cX6_room 95 = .ok (.iload_n 1, 1) := by decide +kernel
theorem dX6_room_96 : decode cX6_room 96 = .ok (.iload_n 2, 1) := by decide +kernel
theorem dX6_room_97 : decode cX6_room 97 = .ok (.iastore, 1) := by decide +kernel
theorem dX6_room_98 : decode cX6_room 98 = .ok (.return_, 1) := by decide +kernel
theorem dX6_lesson_0 : decode cX6_lesson 0 = .ok (.iload_n 1, 1) := by decide +kernel
theorem dX6_lesson_1 : decode cX6_lesson 1 = .ok (.iconst 0, 1) := by decide +kernel
theorem dX6_lesson_2 : decode cX6_lesson 2 = .ok (.bipush 7, 2) := by decide +kernel
theorem dX6_lesson_4 : decode cX6_lesson 4 = .ok (.invokestatic 72, 3) := by decide +kernel
theorem dX6_lesson_7 : decode cX6_lesson 7 = .ok (.ifCond .eq 50, 3) := by decide +kernel
theorem dX6_lesson_10 : decode cX6_lesson 10 = .ok (.iload_n 2, 1) := by decide +kernel
theorem dX6_lesson_11 : decode cX6_lesson 11 = .ok (.iconst (-1), 1) := by decide +kernel
theorem dX6_lesson_12 : decode cX6_lesson 12 = .ok (.bipush 7, 2) := by decide +kernel
theorem dX6_lesson_14 : decode cX6_lesson 14 = .ok (.invokestatic 72, 3) := by decide +kernel
theorem dX6_lesson_17 : decode cX6_lesson 17 = .ok (.ifCond .eq 40, 3) := by decide +kernel
theorem dX6_lesson_20 : decode cX6_lesson 20 = .ok (.iload_n 1, 1) := by decide +kernel
theorem dX6_lesson_21 : decode cX6_lesson 21 = .ok (.iload_n 2, 1) := by decide +kernel
theorem dX6_lesson_22 : decode cX6_lesson 22 = .ok (.if_icmp .eq 35, 3) := by decide +kernel
theorem dX6_lesson_25 : decode cX6_lesson 25 = .ok (.iload_n 3, 1) := by decide +kernel
theorem dX6_lesson_26 : decode cX6_lesson 26 = .ok (.iconst 0, 1) := by decide +kernel
theorem dX6_lesson_27 : decode cX6_lesson 27 = .ok (.bipush 7, 2) := by decide +kernel
theorem dX6_lesson_29 : decode cX6_lesson 29 = .ok (.invokestatic 72, 3) := by decide +kernel
theorem dX6_lesson_32 : decode cX6_lesson 32 = .ok (.ifCond .eq 25, 3) := by decide +kernel
theorem dX6_lesson_35 : decode cX6_lesson 35 = .ok (.iload 4, 2) := by decide +kernel
theorem dX6_lesson_37 : decode cX6_lesson 37 = .ok (.iconst 0, 1) := by decide +kernel
theorem dX6_lesson_38 : decode cX6_lesson 38 = .ok (.iconst 2, 1) := by decide +kernel
theorem dX6_lesson_39 : decode cX6_lesson 39 = .ok (.invokestatic 72, 3) := by decide +kernel
theorem dX6_lesson_42 : decode cX6_lesson 42 = .ok (.ifCond .eq 15, 3) := by decide +kernel
theorem dX6_lesson_45 : decode cX6_lesson 45 = .ok (.iload 6, 2) := by decide +kernel
theorem dX6_lesson_47 : decode cX6_lesson 47 = .ok (.bipush 33, 2) := by decide +kernel
theorem dX6_lesson_49 : decode cX6_lesson 49 = .ok (.bipush 126, 2) := by decide +kernel
theorem dX6_lesson_51 : decode cX6_lesson 51 = .ok (.invokestatic 72, 3) := by decide +kernel
theorem dX6_lesson_54 : decode cX6_lesson 54 = .ok (.ifCond .ne 7, 3) := by decide +kernel
theorem dX6_lesson_57 : decode cX6_lesson 57 = .ok (.iconst 1, 1) := by decide +kernel
theorem dX6_lesson_58 : decode cX6_lesson 58 = .ok (.goto 4, 3) := by decide +kernel
theorem dX6_lesson_61 : decode cX6_lesson 61 = .ok (.iconst 0, 1) := by decide +kernel
theorem dX6_lesson_62 : decode cX6_lesson 62 = .ok (.istore 7, 2) := by decide +kernel
theorem dX6_lesson_64 : decode cX6_lesson 64 = .ok (.iload 7, 2) := by decide +kernel
theorem dX6_lesson_66 : decode cX6_lesson 66 = .ok (.ifCond .ne 34, 3) := by decide +kernel
theorem dX6_lesson_69 : decode cX6_lesson 69 = .ok (.iload 5, 2) := by decide +kernel
theorem dX6_lesson_71 : decode cX6_lesson 71 = .ok (.ifCond .lt 29, 3) := by decide +kernel
theorem dX6_lesson_74 : decode cX6_lesson 74 = .ok (.iload 5, 2) := by decide +kernel
theorem dX6_lesson_76 : decode cX6_lesson 76 = .ok (.bipush 10, 2) := by decide +kernel
theorem dX6_lesson_78 : decode cX6_lesson 78 = .ok (.idiv, 1) := by decide +kernel
theorem dX6_lesson_79 : decode cX6_lesson 79 = .ok (.iconst 1, 1) := by decide +kernel
theorem dX6_lesson_80 : decode cX6_lesson 80 = .ok (.iconst 2, 1) := by decide +kernel
theorem dX6_lesson_81 : decode cX6_lesson 81 = .ok (.invokestatic 72, 3) := by decide +kernel
theorem dX6_lesson_84 : decode cX6_lesson 84 = .ok (.ifCond .eq 16, 3) := by decide +kernel
theorem dX6_lesson_87 : decode cX6_lesson 87 = .ok (.iload 5, 2) := by decide +kernel
theorem dX6_lesson_89 : decode cX6_lesson 89 = .ok (.bipush 10, 2) := by decide +kernel
theorem dX6_lesson_91 : decode cX6_lesson 91 = .ok (.irem, 1) := by decide +kernel
theorem dX6_lesson_92 : decode cX6_lesson 92 = .ok (.iconst 1, 1) := by decide +kernel
theorem dX6_lesson_93 : decode cX6_lesson 93 = .ok (.iconst 4, 1) := by decide +kernel
theorem dX6_lesson_94 : decode cX6_lesson 94 = .ok (.invokestatic 72, 3) := by decide +kernel
theorem dX6_lesson_97 : decode cX6_lesson 97 = .ok (.ifCond .ne 7, 3) := by decide +kernel
theorem dX6_lesson_100 : decode cX6_lesson 100 = .ok (.iconst 1, 1) := by decide +kernel
theorem dX6_lesson_101 : decode cX6_lesson 101 = .ok (.goto 4, 3) := by decide +kernel
theorem dX6_lesson_104 : decode cX6_lesson 104 = .ok (.iconst 0, 1) := by decide +kernel
theorem dX6_lesson_105 : decode cX6_lesson 105 = .ok (.istore 7, 2) := by decide +kernel
theorem dX6_lesson_107 : decode cX6_lesson 107 = .ok (.aload_n 0, 1) := by decide +kernel
theorem dX6_lesson_108 : decode cX6_lesson 108 = .ok (.iload 7, 2) := by decide +kernel
theorem dX6_lesson_110 : decode cX6_lesson 110 = .ok (.iload 7, 2) := by decide +kernel
theorem dX6_lesson_112 : decode cX6_lesson 112 = .ok (.ifCond .ne 16, 3) := by decide +kernel
theorem dX6_lesson_115 : decode cX6_lesson 115 = .ok (.aload_n 0, 1) := by decide +kernel
theorem dX6_lesson_116 : decode cX6_lesson 116 = .ok (.getfield 76, 3) := by decide +kernel
theorem dX6_lesson_119 : decode cX6_lesson 119 = .ok (.bipush 16, 2) := by decide +kernel
theorem dX6_lesson_121 : decode cX6_lesson 121 = .ok (.if_icmp .ne 7, 3) := by decide +kernel
theorem dX6_lesson_124 : decode cX6_lesson 124 = .ok (.iconst 1, 1) := by decide +kernel
theorem dX6_lesson_125 : decode cX6_lesson 125 = .ok (.goto 4, 3) := by decide +kernel
theorem dX6_lesson_128 : decode cX6_lesson 128 = .ok (.iconst 0, 1) := by decide +kernel
theorem dX6_lesson_129 : decode cX6_lesson 129 = .ok (.invokevirtual 90, 3) := by decide +kernel
theorem dX6_lesson_132 : decode cX6_lesson 132 = .ok (.ifCond .eq 5, 3) := by decide +kernel
theorem dX6_lesson_135 : decode cX6_lesson 135 = .ok (.iconst 0, 1) := by decide +kernel
theorem dX6_lesson_136 : decode cX6_lesson 136 = .ok (.ireturn, 1) := by decide +kernel
theorem dX6_lesson_137 : decode cX6_lesson 137 = .ok (.aload_n 0, 1) := by decide +kernel
theorem dX6_lesson_138 : decode cX6_lesson 138 = .ok (.getfield 13, 3) := by decide +kernel
theorem dX6_lesson_141 : decode cX6_lesson 141 = .ok (.aload_n 0, 1) := by decide +kernel
theorem dX6_lesson_142 : decode cX6_lesson 142 = .ok (.getfield 76, 3) := by decide +kernel
theorem dX6_lesson_145 : decode cX6_lesson 145 = .ok (.iload_n 1, 1) := by decide +kernel
theorem dX6_lesson_146 : decode cX6_lesson 146 = .ok (.iastore, 1) := by decide +kernel
theorem dX6_lesson_147 : decode cX6_lesson 147 = .ok (.aload_n 0, 1) := by decide +kernel
theorem dX6_lesson_148 : decode cX6_lesson 148 = .ok (.getfield 16, 3) := by decide +kernel
theorem dX6_lesson_151 : decode cX6_lesson 151 = .ok (.aload_n 0, 1) := by decide +kernel
theorem dX6_lesson_152 : decode cX6_lesson 152 = .ok (.getfield 76, 3) := by decide +kernel
theorem dX6_lesson_155 : decode cX6_lesson 155 = .ok (.iload_n 2, 1) := by decide +kernel
theorem dX6_lesson_156 : decode cX6_lesson 156 = .ok (.iastore, 1) := by decide +kernel
theorem dX6_lesson_157 : decode cX6_lesson 157 = .ok (.aload_n 0, 1) := by decide +kernel
theorem dX6_lesson_158 : decode cX6_lesson 158 = .ok (.getfield 19, 3) := by decide +kernel
theorem dX6_lesson_161 : decode cX6_lesson 161 = .ok (.aload_n 0, 1) := by decide +kernel
theorem dX6_lesson_162 : decode cX6_lesson 162 = .ok (.getfield 76, 3) := by decide +kernel
theorem dX6_lesson_165 : decode cX6_lesson 165 = .ok (.iload_n 3, 1) := by decide +kernel
theorem dX6_lesson_166 : decode cX6_lesson 166 = .ok (.iastore, 1) := by decide +kernel
theorem dX6_lesson_167 : decode cX6_lesson 167 = .ok (.aload_n 0, 1) := by decide +kernel
theorem dX6_lesson_168 : decode cX6_lesson 168 = .ok (.getfield 22, 3) := by decide +kernel
theorem dX6_lesson_171 : decode cX6_lesson 171 = .ok (.aload_n 0, 1) := by decide +kernel
theorem dX6_lesson_172 : decode cX6_lesson 172 = .ok (.getfield 76, 3) := by decide +kernel
theorem dX6_lesson_175 : decode cX6_lesson 175 = .ok (.iload 4, 2) := by decide +kernel
theorem dX6_lesson_177 : decode cX6_lesson 177 = .ok (.iastore, 1) := by decide +kernel
theorem dX6_lesson_178 : decode cX6_lesson 178 = .ok (.aload_n 0, 1) := by decide +kernel
theorem dX6_lesson_179 : decode cX6_lesson 179 = .ok (.getfield 25, 3) := by decide +kernel
theorem dX6_lesson_182 : decode cX6_lesson 182 = .ok (.aload_n 0, 1) := by decide +kernel
theorem dX6_lesson_183 : decode cX6_lesson 183 = .ok (.getfield 76, 3) := by decide +kernel
theorem dX6_lesson_186 : decode cX6_lesson 186 = .ok (.iload 5, 2) := by decide +kernel
theorem dX6_lesson_188 : decode cX6_lesson 188 = .ok (.bipush 10, 2) := by decide +kernel
theorem dX6_lesson_190 : decode cX6_lesson 190 = .ok (.idiv, 1) := by decide +kernel
theorem dX6_lesson_191 : decode cX6_lesson 191 = .ok (.iastore, 1) := by decide +kernel
theorem dX6_lesson_192 : decode cX6_lesson 192 = .ok (.aload_n 0, 1) := by decide +kernel
theorem dX6_lesson_193 : decode cX6_lesson 193 = .ok (.getfield 28, 3) := by decide +kernel
theorem dX6_lesson_196 : decode cX6_lesson 196 = .ok (.aload_n 0, 1) := by decide +kernel
theorem dX6_lesson_197 : decode cX6_lesson 197 = .ok (.getfield 76, 3) := by decide +kernel
theorem dX6_lesson_200 : decode cX6_lesson 200 = .ok (.iload 5, 2) := by decide +kernel
theorem dX6_lesson_202 : decode cX6_lesson 202 = .ok (.bipush 10, 2) := by decide +kernel
theorem dX6_lesson_204 : decode cX6_lesson 204 = .ok (.irem, 1) := by decide +kernel
theorem dX6_lesson_205 : decode cX6_lesson 205 = .ok (.iastore, 1) := by decide +kernel
theorem dX6_lesson_206 : decode cX6_lesson 206 = .ok (.aload_n 0, 1) := by decide +kernel
theorem dX6_lesson_207 : decode cX6_lesson 207 = .ok (.getfield 31, 3) := by decide +kernel
theorem dX6_lesson_210 : decode cX6_lesson 210 = .ok (.aload_n 0, 1) := by decide +kernel
theorem dX6_lesson_211 : decode cX6_lesson 211 = .ok (.getfield 76, 3) := by decide +kernel
theorem dX6_lesson_214 : decode cX6_lesson 214 = .ok (.iload 6, 2) := by decide +kernel
theorem dX6_lesson_216 : decode cX6_lesson 216 = .ok (.iastore, 1) := by decide +kernel
theorem dX6_lesson_217 : decode cX6_lesson 217 = .ok (.aload_n 0, 1) := by decide +kernel
theorem dX6_lesson_218 : decode cX6_lesson 218 = .ok (.dup, 1) := by decide +kernel
theorem dX6_lesson_219 : decode cX6_lesson 219 = .ok (.getfield 76, 3) := by decide +kernel
theorem dX6_lesson_222 : decode cX6_lesson 222 = .ok (.iconst 1, 1) := by decide +kernel
theorem dX6_lesson_223 : decode cX6_lesson 223 = .ok (.iadd, 1) := by decide +kernel
theorem dX6_lesson_224 : decode cX6_lesson 224 = .ok (.putfield 76, 3) := by decide +kernel
theorem dX6_lesson_227 : decode cX6_lesson 227 = .ok (.aload_n 0, 1) := by decide +kernel
theorem dX6_lesson_228 : decode cX6_lesson 228 = .ok (.getfield 76, 3) := by decide +kernel
theorem dX6_lesson_231 : decode cX6_lesson 231 = .ok (.iconst 1, 1) := by decide +kernel
theorem dX6_lesson_232 : decode cX6_lesson 232 = .ok (.isub, 1) := by decide +kernel
theorem dX6_lesson_233 : decode cX6_lesson 233 = .ok (.ireturn, 1) := by decide +kernel
theorem dX6_block_0 : decode cX6_block 0 = .ok (.iload_n 1, 1) := by decide +kernel
theorem dX6_block_1 : decode cX6_block 1 = .ok (.iconst 0, 1) := by decide +kernel
theorem dX6_block_2 : decode cX6_block 2 = .ok (.iconst 2, 1) := by decide +kernel
theorem dX6_block_3 : decode cX6_block 3 = .ok (.invokestatic 72, 3) := by decide +kernel
theorem dX6_block_6 : decode cX6_block 6 = .ok (.ifCond .eq 30, 3) := by decide +kernel
theorem dX6_block_9 : decode cX6_block 9 = .ok (.iload_n 2, 1) := by decide +kernel
theorem dX6_block_10 : decode cX6_block 10 = .ok (.iconst 0, 1) := by decide +kernel
theorem dX6_block_11 : decode cX6_block 11 = .ok (.iload_n 1, 1) := by decide +kernel
theorem dX6_block_12 : decode cX6_block 12 = .ok (.iconst 2, 1) := by decide +kernel
theorem dX6_block_13 : decode cX6_block 13 = .ok (.if_icmp .ne 7, 3) := by decide +kernel
theorem dX6_block_16 : decode cX6_block 16 = .ok (.iconst 5, 1) := by decide +kernel
theorem dX6_block_17 : decode cX6_block 17 = .ok (.goto 5, 3) := by decide +kernel
theorem dX6_block_20 : decode cX6_block 20 = .ok (.bipush 7, 2) := by decide +kernel
theorem dX6_block_22 : decode cX6_block 22 = .ok (.invokestatic 72, 3) := by decide +kernel
theorem dX6_block_25 : decode cX6_block 25 = .ok (.ifCond .eq 11, 3) := by decide +kernel
theorem dX6_block_28 : decode cX6_block 28 = .ok (.aload_n 0, 1) := by decide +kernel
theorem dX6_block_29 : decode cX6_block 29 = .ok (.iload_n 3, 1) := by decide +kernel
theorem dX6_block_30 : decode cX6_block 30 = .ok (.invokevirtual 94, 3) := by decide +kernel
theorem dX6_block_33 : decode cX6_block 33 = .ok (.ifCond .ne 7, 3) := by decide +kernel
theorem dX6_block_36 : decode cX6_block 36 = .ok (.iconst 1, 1) := by decide +kernel
theorem dX6_block_37 : decode cX6_block 37 = .ok (.goto 4, 3) := by decide +kernel
theorem dX6_block_40 : decode cX6_block 40 = .ok (.iconst 0, 1) := by decide +kernel
theorem dX6_block_41 : decode cX6_block 41 = .ok (.istore 5, 2) := by decide +kernel
theorem dX6_block_43 : decode cX6_block 43 = .ok (.aload_n 0, 1) := by decide +kernel
theorem dX6_block_44 : decode cX6_block 44 = .ok (.iload 5, 2) := by decide +kernel
theorem dX6_block_46 : decode cX6_block 46 = .ok (.iload 5, 2) := by decide +kernel
theorem dX6_block_48 : decode cX6_block 48 = .ok (.ifCond .ne 22, 3) := by decide +kernel
theorem dX6_block_51 : decode cX6_block 51 = .ok (.iload 4, 2) := by decide +kernel
theorem dX6_block_53 : decode cX6_block 53 = .ok (.ifCond .eq 17, 3) := by decide +kernel
theorem dX6_block_56 : decode cX6_block 56 = .ok (.aload_n 0, 1) := by decide +kernel
theorem dX6_block_57 : decode cX6_block 57 = .ok (.iload_n 1, 1) := by decide +kernel
theorem dX6_block_58 : decode cX6_block 58 = .ok (.iload_n 2, 1) := by decide +kernel
theorem dX6_block_59 : decode cX6_block 59 = .ok (.iload_n 3, 1) := by decide +kernel
theorem dX6_block_60 : decode cX6_block 60 = .ok (.invokevirtual 98, 3) := by decide +kernel
theorem dX6_block_63 : decode cX6_block 63 = .ok (.ifCond .lt 7, 3) := by decide +kernel
theorem dX6_block_66 : decode cX6_block 66 = .ok (.iconst 1, 1) := by decide +kernel
theorem dX6_block_67 : decode cX6_block 67 = .ok (.goto 4, 3) := by decide +kernel
theorem dX6_block_70 : decode cX6_block 70 = .ok (.iconst 0, 1) := by decide +kernel
theorem dX6_block_71 : decode cX6_block 71 = .ok (.invokevirtual 90, 3) := by decide +kernel
theorem dX6_block_74 : decode cX6_block 74 = .ok (.ifCond .eq 4, 3) := by decide +kernel
theorem dX6_block_77 : decode cX6_block 77 = .ok (.return_, 1) := by decide +kernel
theorem dX6_block_78 : decode cX6_block 78 = .ok (.aload_n 0, 1) := by decide +kernel
theorem dX6_block_79 : decode cX6_block 79 = .ok (.getfield 40, 3) := by decide +kernel
theorem dX6_block_82 : decode cX6_block 82 = .ok (.sipush 240, 3) := by decide +kernel
theorem dX6_block_85 : decode cX6_block 85 = .ok (.iload_n 1, 1) := by decide +kernel
theorem dX6_block_86 : decode cX6_block 86 = .ok (.imul, 1) := by decide +kernel
theorem dX6_block_87 : decode cX6_block 87 = .ok (.bipush 30, 2) := by decide +kernel
theorem dX6_block_89 : decode cX6_block 89 = .ok (.iload_n 2, 1) := by decide +kernel
theorem dX6_block_90 : decode cX6_block 90 = .ok (.imul, 1) := by decide +kernel
theorem dX6_block_91 : decode cX6_block 91 = .ok (.iadd, 1) := by decide +kernel
theorem dX6_block_92 : decode cX6_block 92 = .ok (.iload_n 3, 1) := by decide +kernel
theorem dX6_block_93 : decode cX6_block 93 = .ok (.iadd, 1) := by decide +kernel
theorem dX6_block_94 : decode cX6_block 94 = .ok (.iload 4, 2) := by decide +kernel
theorem dX6_block_96 : decode cX6_block 96 = .ok (.bastore, 1) := by decide +kernel
theorem dX6_block_97 : decode cX6_block 97 = .ok (.return_, 1) := by decide +kernel
theorem dX6_anyBlocked_0 : decode cX6_anyBlocked 0 = .ok (.iconst 0, 1) := by decide +kernel
theorem dX6_anyBlocked_1 : decode cX6_anyBlocked 1 = .ok (.istore 5, 2) := by decide +kernel
theorem dX6_anyBlocked_3 : decode cX6_anyBlocked 3 = .ok (.iconst 0, 1) := by decide +kernel
theorem dX6_anyBlocked_4 : decode cX6_anyBlocked 4 = .ok (.istore 6, 2) := by decide +kernel
theorem dX6_anyBlocked_6 : decode cX6_anyBlocked 6 = .ok (.iload 6, 2) := by decide +kernel
theorem dX6_anyBlocked_8 : decode cX6_anyBlocked 8 = .ok (.iload 4, 2) := by decide +kernel
theorem dX6_anyBlocked_10 : decode cX6_anyBlocked 10 = .ok (.if_icmp .ge 34, 3) := by decide +kernel
theorem dX6_anyBlocked_13 : decode cX6_anyBlocked 13 = .ok (.iload 5, 2) := by decide +kernel
theorem dX6_anyBlocked_15 : decode cX6_anyBlocked 15 = .ok (.ifCond .ne 16, 3) := by decide +kernel
theorem dX6_anyBlocked_18 : decode cX6_anyBlocked 18 = .ok (.aload_n 0, 1) := by decide +kernel
theorem dX6_anyBlocked_19 : decode cX6_anyBlocked 19 = .ok (.iload_n 1, 1) := by decide +kernel
theorem dX6_anyBlocked_20 : decode cX6_anyBlocked 20 = .ok (.iload_n 2, 1) := by decide +kernel
theorem dX6_anyBlocked_21 : decode cX6_anyBlocked 21 = .ok (.iload_n 3, 1) := by decide +kernel
theorem dX6_anyBlocked_22 : decode cX6_anyBlocked 22 = .ok (.iload 6, 2) := by decide +kernel
theorem dX6_anyBlocked_24 : decode cX6_anyBlocked 24 = .ok (.iadd, 1) := by decide +kernel
theorem dX6_anyBlocked_25 : decode cX6_anyBlocked 25 = .ok (.invokevirtual 102, 3) := by decide +kernel
theorem dX6_anyBlocked_28 : decode cX6_anyBlocked 28 = .ok (.ifCond .eq 7, 3) := by decide +kernel
theorem dX6_anyBlocked_31 : decode cX6_anyBlocked 31 = .ok (.iconst 1, 1) := by decide +kernel
theorem dX6_anyBlocked_32 : decode cX6_anyBlocked 32 = .ok (.goto 4, 3) := by decide +kernel
theorem dX6_anyBlocked_35 : decode cX6_anyBlocked 35 = .ok (.iconst 0, 1) := by decide +kernel
theorem dX6_anyBlocked_36 : decode cX6_anyBlocked 36 = .ok (.istore 5, 2) := by decide +kernel
theorem dX6_anyBlocked_38 : decode cX6_anyBlocked 38 = .ok (.iinc 6 1, 3) := by decide +kernel
theorem dX6_anyBlocked_41 : decode cX6_anyBlocked 41 = .ok (.goto (-35), 3) := by decide +kernel
theorem dX6_anyBlocked_44 : decode cX6_anyBlocked 44 = .ok (.iload 5, 2) := by decide +kernel
theorem dX6_anyBlocked_46 : decode cX6_anyBlocked 46 = .ok (.ireturn, 1) := by decide +kernel
theorem dX6_anyItem_0 : decode cX6_anyItem 0 = .ok (.iconst 0, 1) := by decide +kernel
theorem dX6_anyItem_1 : decode cX6_anyItem 1 = .ok (.istore 5, 2) := by decide +kernel
theorem dX6_anyItem_3 : decode cX6_anyItem 3 = .ok (.iconst 0, 1) := by decide +kernel
theorem dX6_anyItem_4 : decode cX6_anyItem 4 = .ok (.istore 6, 2) := by decide +kernel
theorem dX6_anyItem_6 : decode cX6_anyItem 6 = .ok (.iload 6, 2) := by decide +kernel
theorem dX6_anyItem_8 : decode cX6_anyItem 8 = .ok (.iload 4, 2) := by decide +kernel
theorem dX6_anyItem_10 : decode cX6_anyItem 10 = .ok (.if_icmp .ge 34, 3) := by decide +kernel
theorem dX6_anyItem_13 : decode cX6_anyItem 13 = .ok (.iload 5, 2) := by decide +kernel
theorem dX6_anyItem_15 : decode cX6_anyItem 15 = .ok (.ifCond .ne 16, 3) := by decide +kernel
theorem dX6_anyItem_18 : decode cX6_anyItem 18 = .ok (.aload_n 0, 1) := by decide +kernel
theorem dX6_anyItem_19 : decode cX6_anyItem 19 = .ok (.iload_n 1, 1) := by decide +kernel
theorem dX6_anyItem_20 : decode cX6_anyItem 20 = .ok (.iload_n 2, 1) := by decide +kernel
theorem dX6_anyItem_21 : decode cX6_anyItem 21 = .ok (.iload_n 3, 1) := by decide +kernel
theorem dX6_anyItem_22 : decode cX6_anyItem 22 = .ok (.iload 6, 2) := by decide +kernel
theorem dX6_anyItem_24 : decode cX6_anyItem 24 = .ok (.iadd, 1) := by decide +kernel
theorem dX6_anyItem_25 : decode cX6_anyItem 25 = .ok (.invokevirtual 98, 3) := by decide +kernel
theorem dX6_anyItem_28 : decode cX6_anyItem 28 = .ok (.ifCond .lt 7, 3) := by decide +kernel
theorem dX6_anyItem_31 : decode cX6_anyItem 31 = .ok (.iconst 1, 1) := by decide +kernel
theorem dX6_anyItem_32 : decode cX6_anyItem 32 = .ok (.goto 4, 3) := by decide +kernel
theorem dX6_anyItem_35 : decode cX6_anyItem 35 = .ok (.iconst 0, 1) := by decide +kernel
theorem dX6_anyItem_36 : decode cX6_anyItem 36 = .ok (.istore 5, 2) := by decide +kernel
theorem dX6_anyItem_38 : decode cX6_anyItem 38 = .ok (.iinc 6 1, 3) := by decide +kernel
theorem dX6_anyItem_41 : decode cX6_anyItem 41 = .ok (.goto (-35), 3) := by decide +kernel
theorem dX6_anyItem_44 : decode cX6_anyItem 44 = .ok (.iload 5, 2) := by decide +kernel
theorem dX6_anyItem_46 : decode cX6_anyItem 46 = .ok (.ireturn, 1) := by decide +kernel
theorem dX6_freeRoom_0 : decode cX6_freeRoom 0 = .ok (.iconst 0, 1) := by decide +kernel
theorem dX6_freeRoom_1 : decode cX6_freeRoom 1 = .ok (.istore_n 3, 1) := by decide +kernel
theorem dX6_freeRoom_2 : decode cX6_freeRoom 2 = .ok (.iload_n 3, 1) := by decide +kernel
theorem dX6_freeRoom_3 : decode cX6_freeRoom 3 = .ok (.bipush 6, 2) := by decide +kernel
theorem dX6_freeRoom_5 : decode cX6_freeRoom 5 = .ok (.if_icmp .ge 58, 3) := by decide +kernel
theorem dX6_freeRoom_8 : decode cX6_freeRoom 8 = .ok (.aload_n 0, 1) := by decide +kernel
theorem dX6_freeRoom_9 : decode cX6_freeRoom 9 = .ok (.getfield 7, 3) := by decide +kernel
theorem dX6_freeRoom_12 : decode cX6_freeRoom 12 = .ok (.iload_n 3, 1) := by decide +kernel
theorem dX6_freeRoom_13 : decode cX6_freeRoom 13 = .ok (.iaload, 1) := by decide +kernel
theorem dX6_freeRoom_14 : decode cX6_freeRoom 14 = .ok (.aload_n 0, 1) := by decide +kernel
theorem dX6_freeRoom_15 : decode cX6_freeRoom 15 = .ok (.getfield 22, 3) := by decide +kernel
theorem dX6_freeRoom_18 : decode cX6_freeRoom 18 = .ok (.iload_n 1, 1) := by decide +kernel
theorem dX6_freeRoom_19 : decode cX6_freeRoom 19 = .ok (.iaload, 1) := by decide +kernel
theorem dX6_freeRoom_20 : decode cX6_freeRoom 20 = .ok (.if_icmp .ne 37, 3) := by decide +kernel
theorem dX6_freeRoom_23 : decode cX6_freeRoom 23 = .ok (.aload_n 0, 1) := by decide +kernel
theorem dX6_freeRoom_24 : decode cX6_freeRoom 24 = .ok (.iconst 2, 1) := by decide +kernel
theorem dX6_freeRoom_25 : decode cX6_freeRoom 25 = .ok (.iload_n 3, 1) := by decide +kernel
theorem dX6_freeRoom_26 : decode cX6_freeRoom 26 = .ok (.iload_n 2, 1) := by decide +kernel
theorem dX6_freeRoom_27 : decode cX6_freeRoom 27 = .ok (.aload_n 0, 1) := by decide +kernel
theorem dX6_freeRoom_28 : decode cX6_freeRoom 28 = .ok (.getfield 25, 3) := by decide +kernel
theorem dX6_freeRoom_31 : decode cX6_freeRoom 31 = .ok (.iload_n 1, 1) := by decide +kernel
theorem dX6_freeRoom_32 : decode cX6_freeRoom 32 = .ok (.iaload, 1) := by decide +kernel
theorem dX6_freeRoom_33 : decode cX6_freeRoom 33 = .ok (.invokevirtual 105, 3) := by decide +kernel
theorem dX6_freeRoom_36 : decode cX6_freeRoom 36 = .ok (.ifCond .ne 21, 3) := by decide +kernel
theorem dX6_freeRoom_39 : decode cX6_freeRoom 39 = .ok (.aload_n 0, 1) := by decide +kernel
theorem dX6_freeRoom_40 : decode cX6_freeRoom 40 = .ok (.iconst 2, 1) := by decide +kernel
theorem dX6_freeRoom_41 : decode cX6_freeRoom 41 = .ok (.iload_n 3, 1) := by decide +kernel
theorem dX6_freeRoom_42 : decode cX6_freeRoom 42 = .ok (.iload_n 2, 1) := by decide +kernel
theorem dX6_freeRoom_43 : decode cX6_freeRoom 43 = .ok (.aload_n 0, 1) := by decide +kernel
theorem dX6_freeRoom_44 : decode cX6_freeRoom 44 = .ok (.getfield 25, 3) := by decide +kernel
theorem dX6_freeRoom_47 : decode cX6_freeRoom 47 = .ok (.iload_n 1, 1) := by decide +kernel
theorem dX6_freeRoom_48 : decode cX6_freeRoom 48 = .ok (.iaload, 1) := by decide +kernel
theorem dX6_freeRoom_49 : decode cX6_freeRoom 49 = .ok (.invokevirtual 109, 3) := by decide +kernel
theorem dX6_freeRoom_52 : decode cX6_freeRoom 52 = .ok (.ifCond .ne 5, 3) := by decide +kernel
theorem dX6_freeRoom_55 : decode cX6_freeRoom 55 = .ok (.iload_n 3, 1) := by decide +kernel
theorem dX6_freeRoom_56 : decode cX6_freeRoom 56 = .ok (.ireturn, 1) := by decide +kernel
theorem dX6_freeRoom_57 : decode cX6_freeRoom 57 = .ok (.iinc 3 1, 3) := by decide +kernel
theorem dX6_freeRoom_60 : decode cX6_freeRoom 60 = .ok (.goto (-58), 3) := by decide +kernel
theorem dX6_freeRoom_63 : decode cX6_freeRoom 63 = .ok (.iconst (-1), 1) := by decide +kernel
theorem dX6_freeRoom_64 : decode cX6_freeRoom 64 = .ok (.ireturn, 1) := by decide +kernel
theorem dX6_rule_0 : decode cX6_rule 0 = .ok (.iload_n 1, 1) := by decide +kernel
theorem dX6_rule_1 : decode cX6_rule 1 = .ok (.invokestatic 79, 3) := by decide +kernel
theorem dX6_rule_4 : decode cX6_rule 4 = .ok (.istore_n 3, 1) := by decide +kernel
theorem dX6_rule_5 : decode cX6_rule 5 = .ok (.aload_n 0, 1) := by decide +kernel
theorem dX6_rule_6 : decode cX6_rule 6 = .ok (.getfield 25, 3) := by decide +kernel
theorem dX6_rule_9 : decode cX6_rule 9 = .ok (.iload_n 3, 1) := by decide +kernel
theorem dX6_rule_10 : decode cX6_rule 10 = .ok (.iaload, 1) := by decide +kernel
theorem dX6_rule_11 : decode cX6_rule 11 = .ok (.istore 4, 2) := by decide +kernel
theorem dX6_rule_13 : decode cX6_rule 13 = .ok (.iload_n 2, 1) := by decide +kernel
theorem dX6_rule_14 : decode cX6_rule 14 = .ok (.aload_n 0, 1) := by decide +kernel
theorem dX6_rule_15 : decode cX6_rule 15 = .ok (.getfield 66, 3) := by decide +kernel
theorem dX6_rule_18 : decode cX6_rule 18 = .ok (.irem, 1) := by decide +kernel
theorem dX6_rule_19 : decode cX6_rule 19 = .ok (.iload 4, 2) := by decide +kernel
theorem dX6_rule_21 : decode cX6_rule 21 = .ok (.iadd, 1) := by decide +kernel
theorem dX6_rule_22 : decode cX6_rule 22 = .ok (.aload_n 0, 1) := by decide +kernel
theorem dX6_rule_23 : decode cX6_rule 23 = .ok (.getfield 66, 3) := by decide +kernel
theorem dX6_rule_26 : decode cX6_rule 26 = .ok (.if_icmp .le 5, 3) := by decide +kernel
theorem dX6_rule_29 : decode cX6_rule 29 = .ok (.iconst 1, 1) := by decide +kernel
theorem dX6_rule_30 : decode cX6_rule 30 = .ok (.ireturn, 1) := by decide +kernel
theorem dX6_rule_31 : decode cX6_rule 31 = .ok (.aload_n 0, 1) := by decide +kernel
theorem dX6_rule_32 : decode cX6_rule 32 = .ok (.iconst 1, 1) := by decide +kernel
theorem dX6_rule_33 : decode cX6_rule 33 = .ok (.aload_n 0, 1) := by decide +kernel
theorem dX6_rule_34 : decode cX6_rule 34 = .ok (.getfield 19, 3) := by decide +kernel
theorem dX6_rule_37 : decode cX6_rule 37 = .ok (.iload_n 3, 1) := by decide +kernel
theorem dX6_rule_38 : decode cX6_rule 38 = .ok (.iaload, 1) := by decide +kernel
theorem dX6_rule_39 : decode cX6_rule 39 = .ok (.iload_n 2, 1) := by decide +kernel
theorem dX6_rule_40 : decode cX6_rule 40 = .ok (.iload 4, 2) := by decide +kernel
theorem dX6_rule_42 : decode cX6_rule 42 = .ok (.invokevirtual 105, 3) := by decide +kernel
theorem dX6_rule_45 : decode cX6_rule 45 = .ok (.ifCond .eq 5, 3) := by decide +kernel
theorem dX6_rule_48 : decode cX6_rule 48 = .ok (.iconst 2, 1) := by decide +kernel
theorem dX6_rule_49 : decode cX6_rule 49 = .ok (.ireturn, 1) := by decide +kernel
theorem dX6_rule_50 : decode cX6_rule 50 = .ok (.aload_n 0, 1) := by decide +kernel
theorem dX6_rule_51 : decode cX6_rule 51 = .ok (.iconst 1, 1) := by decide +kernel
theorem dX6_rule_52 : decode cX6_rule 52 = .ok (.aload_n 0, 1) := by decide +kernel
theorem dX6_rule_53 : decode cX6_rule 53 = .ok (.getfield 19, 3) := by decide +kernel
theorem dX6_rule_56 : decode cX6_rule 56 = .ok (.iload_n 3, 1) := by decide +kernel
theorem dX6_rule_57 : decode cX6_rule 57 = .ok (.iaload, 1) := by decide +kernel
theorem dX6_rule_58 : decode cX6_rule 58 = .ok (.iload_n 2, 1) := by decide +kernel
theorem dX6_rule_59 : decode cX6_rule 59 = .ok (.iload 4, 2) := by decide +kernel
theorem dX6_rule_61 : decode cX6_rule 61 = .ok (.invokevirtual 109, 3) := by decide +kernel
theorem dX6_rule_64 : decode cX6_rule 64 = .ok (.ifCond .eq 5, 3) := by decide +kernel
theorem dX6_rule_67 : decode cX6_rule 67 = .ok (.iconst 3, 1) := by decide +kernel
theorem dX6_rule_68 : decode cX6_rule 68 = .ok (.ireturn, 1) := by decide +kernel
theorem dX6_rule_69 : decode cX6_rule 69 = .ok (.aload_n 0, 1) := by decide +kernel
theorem dX6_rule_70 : decode cX6_rule 70 = .ok (.getfield 16, 3) := by decide +kernel
theorem dX6_rule_73 : decode cX6_rule 73 = .ok (.iload_n 3, 1) := by decide +kernel
theorem dX6_rule_74 : decode cX6_rule 74 = .ok (.iaload, 1) := by decide +kernel
theorem dX6_rule_75 : decode cX6_rule 75 = .ok (.ifCond .lt 7, 3) := by decide +kernel
theorem dX6_rule_78 : decode cX6_rule 78 = .ok (.iconst 1, 1) := by decide +kernel
theorem dX6_rule_79 : decode cX6_rule 79 = .ok (.goto 4, 3) := by decide +kernel
