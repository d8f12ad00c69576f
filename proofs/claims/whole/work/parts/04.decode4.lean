theorem dX6_rule_82 : decode cX6_rule 82 = .ok (.iconst 0, 1) := by decide +kernel
theorem dX6_rule_83 : decode cX6_rule 83 = .ok (.istore 5, 2) := by decide +kernel
theorem dX6_rule_85 : decode cX6_rule 85 = .ok (.aload_n 0, 1) := by decide +kernel
theorem dX6_rule_86 : decode cX6_rule 86 = .ok (.iconst 0, 1) := by decide +kernel
theorem dX6_rule_87 : decode cX6_rule 87 = .ok (.aload_n 0, 1) := by decide +kernel
theorem dX6_rule_88 : decode cX6_rule 88 = .ok (.getfield 13, 3) := by decide +kernel
theorem dX6_rule_91 : decode cX6_rule 91 = .ok (.iload_n 3, 1) := by decide +kernel
theorem dX6_rule_92 : decode cX6_rule 92 = .ok (.iaload, 1) := by decide +kernel
theorem dX6_rule_93 : decode cX6_rule 93 = .ok (.iload_n 2, 1) := by decide +kernel
theorem dX6_rule_94 : decode cX6_rule 94 = .ok (.iload 4, 2) := by decide +kernel
theorem dX6_rule_96 : decode cX6_rule 96 = .ok (.invokevirtual 105, 3) := by decide +kernel
theorem dX6_rule_99 : decode cX6_rule 99 = .ok (.ifCond .ne 25, 3) := by decide +kernel
theorem dX6_rule_102 : decode cX6_rule 102 = .ok (.iload 5, 2) := by decide +kernel
theorem dX6_rule_104 : decode cX6_rule 104 = .ok (.ifCond .eq 22, 3) := by decide +kernel
theorem dX6_rule_107 : decode cX6_rule 107 = .ok (.aload_n 0, 1) := by decide +kernel
theorem dX6_rule_108 : decode cX6_rule 108 = .ok (.iconst 0, 1) := by decide +kernel
theorem dX6_rule_109 : decode cX6_rule 109 = .ok (.aload_n 0, 1) := by decide +kernel
theorem dX6_rule_110 : decode cX6_rule 110 = .ok (.getfield 16, 3) := by decide +kernel
theorem dX6_rule_113 : decode cX6_rule 113 = .ok (.iload_n 3, 1) := by decide +kernel
theorem dX6_rule_114 : decode cX6_rule 114 = .ok (.iaload, 1) := by decide +kernel
theorem dX6_rule_115 : decode cX6_rule 115 = .ok (.iload_n 2, 1) := by decide +kernel
theorem dX6_rule_116 : decode cX6_rule 116 = .ok (.iload 4, 2) := by decide +kernel
theorem dX6_rule_118 : decode cX6_rule 118 = .ok (.invokevirtual 105, 3) := by decide +kernel
theorem dX6_rule_121 : decode cX6_rule 121 = .ok (.ifCond .eq 5, 3) := by decide +kernel
theorem dX6_rule_124 : decode cX6_rule 124 = .ok (.iconst 4, 1) := by decide +kernel
theorem dX6_rule_125 : decode cX6_rule 125 = .ok (.ireturn, 1) := by decide +kernel
theorem dX6_rule_126 : decode cX6_rule 126 = .ok (.aload_n 0, 1) := by decide +kernel
theorem dX6_rule_127 : decode cX6_rule 127 = .ok (.iconst 0, 1) := by decide +kernel
theorem dX6_rule_128 : decode cX6_rule 128 = .ok (.aload_n 0, 1) := by decide +kernel
theorem dX6_rule_129 : decode cX6_rule 129 = .ok (.getfield 13, 3) := by decide +kernel
theorem dX6_rule_132 : decode cX6_rule 132 = .ok (.iload_n 3, 1) := by decide +kernel
theorem dX6_rule_133 : decode cX6_rule 133 = .ok (.iaload, 1) := by decide +kernel
theorem dX6_rule_134 : decode cX6_rule 134 = .ok (.iload_n 2, 1) := by decide +kernel
theorem dX6_rule_135 : decode cX6_rule 135 = .ok (.iload 4, 2) := by decide +kernel
theorem dX6_rule_137 : decode cX6_rule 137 = .ok (.invokevirtual 109, 3) := by decide +kernel
theorem dX6_rule_140 : decode cX6_rule 140 = .ok (.ifCond .ne 25, 3) := by decide +kernel
theorem dX6_rule_143 : decode cX6_rule 143 = .ok (.iload 5, 2) := by decide +kernel
theorem dX6_rule_145 : decode cX6_rule 145 = .ok (.ifCond .eq 22, 3) := by decide +kernel
theorem dX6_rule_148 : decode cX6_rule 148 = .ok (.aload_n 0, 1) := by decide +kernel
theorem dX6_rule_149 : decode cX6_rule 149 = .ok (.iconst 0, 1) := by decide +kernel
theorem dX6_rule_150 : decode cX6_rule 150 = .ok (.aload_n 0, 1) := by decide +kernel
theorem dX6_rule_151 : decode cX6_rule 151 = .ok (.getfield 16, 3) := by decide +kernel
theorem dX6_rule_154 : decode cX6_rule 154 = .ok (.iload_n 3, 1) := by decide +kernel
theorem dX6_rule_155 : decode cX6_rule 155 = .ok (.iaload, 1) := by decide +kernel
theorem dX6_rule_156 : decode cX6_rule 156 = .ok (.iload_n 2, 1) := by decide +kernel
theorem dX6_rule_157 : decode cX6_rule 157 = .ok (.iload 4, 2) := by decide +kernel
theorem dX6_rule_159 : decode cX6_rule 159 = .ok (.invokevirtual 109, 3) := by decide +kernel
theorem dX6_rule_162 : decode cX6_rule 162 = .ok (.ifCond .eq 5, 3) := by decide +kernel
theorem dX6_rule_165 : decode cX6_rule 165 = .ok (.iconst 5, 1) := by decide +kernel
theorem dX6_rule_166 : decode cX6_rule 166 = .ok (.ireturn, 1) := by decide +kernel
theorem dX6_rule_167 : decode cX6_rule 167 = .ok (.iconst 4, 1) := by decide +kernel
theorem dX6_rule_168 : decode cX6_rule 168 = .ok (.iload_n 3, 1) := by decide +kernel
theorem dX6_rule_169 : decode cX6_rule 169 = .ok (.imul, 1) := by decide +kernel
theorem dX6_rule_170 : decode cX6_rule 170 = .ok (.istore 6, 2) := by decide +kernel
theorem dX6_rule_172 : decode cX6_rule 172 = .ok (.iload 6, 2) := by decide +kernel
theorem dX6_rule_174 : decode cX6_rule 174 = .ok (.iconst 4, 1) := by decide +kernel
theorem dX6_rule_175 : decode cX6_rule 175 = .ok (.iload_n 3, 1) := by decide +kernel
theorem dX6_rule_176 : decode cX6_rule 176 = .ok (.imul, 1) := by decide +kernel
theorem dX6_rule_177 : decode cX6_rule 177 = .ok (.iconst 4, 1) := by decide +kernel
theorem dX6_rule_178 : decode cX6_rule 178 = .ok (.iadd, 1) := by decide +kernel
theorem dX6_rule_179 : decode cX6_rule 179 = .ok (.if_icmp .ge 49, 3) := by decide +kernel
theorem dX6_rule_182 : decode cX6_rule 182 = .ok (.iload 6, 2) := by decide +kernel
theorem dX6_rule_184 : decode cX6_rule 184 = .ok (.iload_n 1, 1) := by decide +kernel
theorem dX6_rule_185 : decode cX6_rule 185 = .ok (.if_icmp .eq 37, 3) := by decide +kernel
theorem dX6_rule_188 : decode cX6_rule 188 = .ok (.aload_n 0, 1) := by decide +kernel
theorem dX6_rule_189 : decode cX6_rule 189 = .ok (.getfield 34, 3) := by decide +kernel
theorem dX6_rule_192 : decode cX6_rule 192 = .ok (.iload 6, 2) := by decide +kernel
theorem dX6_rule_194 : decode cX6_rule 194 = .ok (.iaload, 1) := by decide +kernel
theorem dX6_rule_195 : decode cX6_rule 195 = .ok (.ifCond .lt 27, 3) := by decide +kernel
theorem dX6_rule_198 : decode cX6_rule 198 = .ok (.aload_n 0, 1) := by decide +kernel
theorem dX6_rule_199 : decode cX6_rule 199 = .ok (.getfield 34, 3) := by decide +kernel
theorem dX6_rule_202 : decode cX6_rule 202 = .ok (.iload 6, 2) := by decide +kernel
theorem dX6_rule_204 : decode cX6_rule 204 = .ok (.iaload, 1) := by decide +kernel
theorem dX6_rule_205 : decode cX6_rule 205 = .ok (.aload_n 0, 1) := by decide +kernel
theorem dX6_rule_206 : decode cX6_rule 206 = .ok (.getfield 66, 3) := by decide +kernel
theorem dX6_rule_209 : decode cX6_rule 209 = .ok (.idiv, 1) := by decide +kernel
theorem dX6_rule_210 : decode cX6_rule 210 = .ok (.iload_n 2, 1) := by decide +kernel
theorem dX6_rule_211 : decode cX6_rule 211 = .ok (.aload_n 0, 1) := by decide +kernel
theorem dX6_rule_212 : decode cX6_rule 212 = .ok (.getfield 66, 3) := by decide +kernel
theorem dX6_rule_215 : decode cX6_rule 215 = .ok (.idiv, 1) := by decide +kernel
theorem dX6_rule_216 : decode cX6_rule 216 = .ok (.if_icmp .ne 6, 3) := by decide +kernel
theorem dX6_rule_219 : decode cX6_rule 219 = .ok (.bipush 6, 2) := by decide +kernel
theorem dX6_rule_221 : decode cX6_rule 221 = .ok (.ireturn, 1) := by decide +kernel
theorem dX6_rule_222 : decode cX6_rule 222 = .ok (.iinc 6 1, 3) := by decide +kernel
theorem dX6_rule_225 : decode cX6_rule 225 = .ok (.goto (-53), 3) := by decide +kernel
theorem dX6_rule_228 : decode cX6_rule 228 = .ok (.aload_n 0, 1) := by decide +kernel
theorem dX6_rule_229 : decode cX6_rule 229 = .ok (.iload_n 3, 1) := by decide +kernel
theorem dX6_rule_230 : decode cX6_rule 230 = .ok (.iload_n 2, 1) := by decide +kernel
theorem dX6_rule_231 : decode cX6_rule 231 = .ok (.invokevirtual 112, 3) := by decide +kernel
theorem dX6_rule_234 : decode cX6_rule 234 = .ok (.ifCond .ge 8, 3) := by decide +kernel
theorem dX6_rule_237 : decode cX6_rule 237 = .ok (.bipush 7, 2) := by decide +kernel
theorem dX6_rule_239 : decode cX6_rule 239 = .ok (.goto 4, 3) := by decide +kernel
theorem dX6_rule_242 : decode cX6_rule 242 = .ok (.iconst 0, 1) := by decide +kernel
theorem dX6_rule_243 : decode cX6_rule 243 = .ok (.ireturn, 1) := by decide +kernel
theorem dX6_put_0 : decode cX6_put 0 = .ok (.aload_n 0, 1) := by decide +kernel
theorem dX6_put_1 : decode cX6_put 1 = .ok (.iload_n 1, 1) := by decide +kernel
theorem dX6_put_2 : decode cX6_put 2 = .ok (.invokestatic 79, 3) := by decide +kernel
theorem dX6_put_5 : decode cX6_put 5 = .ok (.iload_n 2, 1) := by decide +kernel
theorem dX6_put_6 : decode cX6_put 6 = .ok (.invokevirtual 112, 3) := by decide +kernel
theorem dX6_put_9 : decode cX6_put 9 = .ok (.istore_n 3, 1) := by decide +kernel
theorem dX6_put_10 : decode cX6_put 10 = .ok (.aload_n 0, 1) := by decide +kernel
theorem dX6_put_11 : decode cX6_put 11 = .ok (.getfield 34, 3) := by decide +kernel
theorem dX6_put_14 : decode cX6_put 14 = .ok (.iload_n 1, 1) := by decide +kernel
theorem dX6_put_15 : decode cX6_put 15 = .ok (.iload_n 2, 1) := by decide +kernel
theorem dX6_put_16 : decode cX6_put 16 = .ok (.iastore, 1) := by decide +kernel
theorem dX6_put_17 : decode cX6_put 17 = .ok (.aload_n 0, 1) := by decide +kernel
theorem dX6_put_18 : decode cX6_put 18 = .ok (.getfield 37, 3) := by decide +kernel
theorem dX6_put_21 : decode cX6_put 21 = .ok (.iload_n 1, 1) := by decide +kernel
theorem dX6_put_22 : decode cX6_put 22 = .ok (.iload_n 3, 1) := by decide +kernel
theorem dX6_put_23 : decode cX6_put 23 = .ok (.iastore, 1) := by decide +kernel
theorem dX6_put_24 : decode cX6_put 24 = .ok (.return_, 1) := by decide +kernel
theorem dX6_out_0 : decode cX6_out 0 = .ok (.aload_n 0, 1) := by decide +kernel
theorem dX6_out_1 : decode cX6_out 1 = .ok (.getfield 34, 3) := by decide +kernel
theorem dX6_out_4 : decode cX6_out 4 = .ok (.iload_n 1, 1) := by decide +kernel
theorem dX6_out_5 : decode cX6_out 5 = .ok (.iconst (-1), 1) := by decide +kernel
theorem dX6_out_6 : decode cX6_out 6 = .ok (.iastore, 1) := by decide +kernel
theorem dX6_out_7 : decode cX6_out 7 = .ok (.aload_n 0, 1) := by decide +kernel
theorem dX6_out_8 : decode cX6_out 8 = .ok (.getfield 37, 3) := by decide +kernel
theorem dX6_out_11 : decode cX6_out 11 = .ok (.iload_n 1, 1) := by decide +kernel
theorem dX6_out_12 : decode cX6_out 12 = .ok (.iconst (-1), 1) := by decide +kernel
theorem dX6_out_13 : decode cX6_out 13 = .ok (.iastore, 1) := by decide +kernel
theorem dX6_out_14 : decode cX6_out 14 = .ok (.return_, 1) := by decide +kernel
theorem dX6_keep_0 : decode cX6_keep 0 = .ok (.iconst 0, 1) := by decide +kernel
theorem dX6_keep_1 : decode cX6_keep 1 = .ok (.istore_n 1, 1) := by decide +kernel
theorem dX6_keep_2 : decode cX6_keep 2 = .ok (.iload_n 1, 1) := by decide +kernel
theorem dX6_keep_3 : decode cX6_keep 3 = .ok (.bipush 64, 2) := by decide +kernel
theorem dX6_keep_5 : decode cX6_keep 5 = .ok (.if_icmp .ge 33, 3) := by decide +kernel
theorem dX6_keep_8 : decode cX6_keep 8 = .ok (.aload_n 0, 1) := by decide +kernel
theorem dX6_keep_9 : decode cX6_keep 9 = .ok (.getfield 47, 3) := by decide +kernel
theorem dX6_keep_12 : decode cX6_keep 12 = .ok (.iload_n 1, 1) := by decide +kernel
theorem dX6_keep_13 : decode cX6_keep 13 = .ok (.aload_n 0, 1) := by decide +kernel
theorem dX6_keep_14 : decode cX6_keep 14 = .ok (.getfield 34, 3) := by decide +kernel
theorem dX6_keep_17 : decode cX6_keep 17 = .ok (.iload_n 1, 1) := by decide +kernel
theorem dX6_keep_18 : decode cX6_keep 18 = .ok (.iaload, 1) := by decide +kernel
theorem dX6_keep_19 : decode cX6_keep 19 = .ok (.iastore, 1) := by decide +kernel
theorem dX6_keep_20 : decode cX6_keep 20 = .ok (.aload_n 0, 1) := by decide +kernel
theorem dX6_keep_21 : decode cX6_keep 21 = .ok (.getfield 50, 3) := by decide +kernel
theorem dX6_keep_24 : decode cX6_keep 24 = .ok (.iload_n 1, 1) := by decide +kernel
theorem dX6_keep_25 : decode cX6_keep 25 = .ok (.aload_n 0, 1) := by decide +kernel
theorem dX6_keep_26 : decode cX6_keep 26 = .ok (.getfield 37, 3) := by decide +kernel
theorem dX6_keep_29 : decode cX6_keep 29 = .ok (.iload_n 1, 1) := by decide +kernel
theorem dX6_keep_30 : decode cX6_keep 30 = .ok (.iaload, 1) := by decide +kernel
theorem dX6_keep_31 : decode cX6_keep 31 = .ok (.iastore, 1) := by decide +kernel
theorem dX6_keep_32 : decode cX6_keep 32 = .ok (.iinc 1 1, 3) := by decide +kernel
theorem dX6_keep_35 : decode cX6_keep 35 = .ok (.goto (-33), 3) := by decide +kernel
theorem dX6_keep_38 : decode cX6_keep 38 = .ok (.return_, 1) := by decide +kernel
theorem dX6_restore_0 : decode cX6_restore 0 = .ok (.iconst 0, 1) := by decide +kernel
theorem dX6_restore_1 : decode cX6_restore 1 = .ok (.istore_n 1, 1) := by decide +kernel
theorem dX6_restore_2 : decode cX6_restore 2 = .ok (.iload_n 1, 1) := by decide +kernel
theorem dX6_restore_3 : decode cX6_restore 3 = .ok (.bipush 64, 2) := by decide +kernel
theorem dX6_restore_5 : decode cX6_restore 5 = .ok (.if_icmp .ge 33, 3) := by decide +kernel
theorem dX6_restore_8 : decode cX6_restore 8 = .ok (.aload_n 0, 1) := by decide +kernel
theorem dX6_restore_9 : decode cX6_restore 9 = .ok (.getfield 34, 3) := by decide +kernel
theorem dX6_restore_12 : decode cX6_restore 12 = .ok (.iload_n 1, 1) := by decide +kernel
theorem dX6_restore_13 : decode cX6_restore 13 = .ok (.aload_n 0, 1) := by decide +kernel
theorem dX6_restore_14 : decode cX6_restore 14 = .ok (.getfield 47, 3) := by decide +kernel
theorem dX6_restore_17 : decode cX6_restore 17 = .ok (.iload_n 1, 1) := by decide +kernel
theorem dX6_restore_18 : decode cX6_restore 18 = .ok (.iaload, 1) := by decide +kernel
theorem dX6_restore_19 : decode cX6_restore 19 = .ok (.iastore, 1) := by decide +kernel
theorem dX6_restore_20 : decode cX6_restore 20 = .ok (.aload_n 0, 1) := by decide +kernel
theorem dX6_restore_21 : decode cX6_restore 21 = .ok (.getfield 37, 3) := by decide +kernel
theorem dX6_restore_24 : decode cX6_restore 24 = .ok (.iload_n 1, 1) := by decide +kernel
theorem dX6_restore_25 : decode cX6_restore 25 = .ok (.aload_n 0, 1) := by decide +kernel
theorem dX6_restore_26 : decode cX6_restore 26 = .ok (.getfield 50, 3) := by decide +kernel
theorem dX6_restore_29 : decode cX6_restore 29 = .ok (.iload_n 1, 1) := by decide +kernel
theorem dX6_restore_30 : decode cX6_restore 30 = .ok (.iaload, 1) := by decide +kernel
theorem dX6_restore_31 : decode cX6_restore 31 = .ok (.iastore, 1) := by decide +kernel
theorem dX6_restore_32 : decode cX6_restore 32 = .ok (.iinc 1 1, 3) := by decide +kernel
theorem dX6_restore_35 : decode cX6_restore 35 = .ok (.goto (-33), 3) := by decide +kernel
theorem dX6_restore_38 : decode cX6_restore 38 = .ok (.return_, 1) := by decide +kernel
theorem dX6_note_0 : decode cX6_note 0 = .ok (.iconst 0, 1) := by decide +kernel
theorem dX6_note_1 : decode cX6_note 1 = .ok (.istore_n 1, 1) := by decide +kernel
theorem dX6_note_2 : decode cX6_note 2 = .ok (.iconst 0, 1) := by decide +kernel
theorem dX6_note_3 : decode cX6_note 3 = .ok (.istore_n 2, 1) := by decide +kernel
theorem dX6_note_4 : decode cX6_note 4 = .ok (.iload_n 2, 1) := by decide +kernel
theorem dX6_note_5 : decode cX6_note 5 = .ok (.bipush 64, 2) := by decide +kernel
theorem dX6_note_7 : decode cX6_note 7 = .ok (.if_icmp .ge 49, 3) := by decide +kernel
theorem dX6_note_10 : decode cX6_note 10 = .ok (.iload_n 1, 1) := by decide +kernel
theorem dX6_note_11 : decode cX6_note 11 = .ok (.ifCond .ne 33, 3) := by decide +kernel
theorem dX6_note_14 : decode cX6_note 14 = .ok (.aload_n 0, 1) := by decide +kernel
theorem dX6_note_15 : decode cX6_note 15 = .ok (.getfield 47, 3) := by decide +kernel
theorem dX6_note_18 : decode cX6_note 18 = .ok (.iload_n 2, 1) := by decide +kernel
theorem dX6_note_19 : decode cX6_note 19 = .ok (.iaload, 1) := by decide +kernel
theorem dX6_note_20 : decode cX6_note 20 = .ok (.aload_n 0, 1) := by decide +kernel
theorem dX6_note_21 : decode cX6_note 21 = .ok (.getfield 34, 3) := by decide +kernel
theorem dX6_note_24 : decode cX6_note 24 = .ok (.iload_n 2, 1) := by decide +kernel
theorem dX6_note_25 : decode cX6_note 25 = .ok (.iaload, 1) := by decide +kernel
theorem dX6_note_26 : decode cX6_note 26 = .ok (.if_icmp .ne 18, 3) := by decide +kernel
theorem dX6_note_29 : decode cX6_note 29 = .ok (.aload_n 0, 1) := by decide +kernel
theorem dX6_note_30 : decode cX6_note 30 = .ok (.getfield 50, 3) := by decide +kernel
theorem dX6_note_33 : decode cX6_note 33 = .ok (.iload_n 2, 1) := by decide +kernel
theorem dX6_note_34 : decode cX6_note 34 = .ok (.iaload, 1) := by decide +kernel
theorem dX6_note_35 : decode cX6_note 35 = .ok (.aload_n 0, 1) := by decide +kernel
theorem dX6_note_36 : decode cX6_note 36 = .ok (.getfield 37, 3) := by decide +kernel
theorem dX6_note_39 : decode cX6_note 39 = .ok (.iload_n 2, 1) := by decide +kernel
theorem dX6_note_40 : decode cX6_note 40 = .ok (.iaload, 1) := by decide +kernel
theorem dX6_note_41 : decode cX6_note 41 = .ok (.if_icmp .eq 7, 3) := by decide +kernel
theorem dX6_note_44 : decode cX6_note 44 = .ok (.iconst 1, 1) := by decide +kernel
theorem dX6_note_45 : decode cX6_note 45 = .ok (.goto 4, 3) := by decide +kernel
theorem dX6_note_48 : decode cX6_note 48 = .ok (.iconst 0, 1) := by decide +kernel
theorem dX6_note_49 : decode cX6_note 49 = .ok (.istore_n 1, 1) := by decide +kernel
theorem dX6_note_50 : decode cX6_note 50 = .ok (.iinc 2 1, 3) := by decide +kernel
theorem dX6_note_53 : decode cX6_note 53 = .ok (.goto (-49), 3) := by decide +kernel
theorem dX6_note_56 : decode cX6_note 56 = .ok (.iload_n 1, 1) := by decide +kernel
theorem dX6_note_57 : decode cX6_note 57 = .ok (.ifCond .ne 4, 3) := by decide +kernel
theorem dX6_note_60 : decode cX6_note 60 = .ok (.return_, 1) := by decide +kernel
theorem dX6_note_61 : decode cX6_note 61 = .ok (.aload_n 0, 1) := by decide +kernel
theorem dX6_note_62 : decode cX6_note 62 = .ok (.getfield 116, 3) := by decide +kernel
theorem dX6_note_65 : decode cX6_note 65 = .ok (.bipush 20, 2) := by decide +kernel
theorem dX6_note_67 : decode cX6_note 67 = .ok (.if_icmp .ne 58, 3) := by decide +kernel
theorem dX6_note_70 : decode cX6_note 70 = .ok (.iconst 0, 1) := by decide +kernel
theorem dX6_note_71 : decode cX6_note 71 = .ok (.istore_n 2, 1) := by decide +kernel
theorem dX6_note_72 : decode cX6_note 72 = .ok (.iload_n 2, 1) := by decide +kernel
theorem dX6_note_73 : decode cX6_note 73 = .ok (.sipush 1216, 3) := by decide +kernel
theorem dX6_note_76 : decode cX6_note 76 = .ok (.if_icmp .ge 39, 3) := by decide +kernel
theorem dX6_note_79 : decode cX6_note 79 = .ok (.aload_n 0, 1) := by decide +kernel
theorem dX6_note_80 : decode cX6_note 80 = .ok (.getfield 53, 3) := by decide +kernel
theorem dX6_note_83 : decode cX6_note 83 = .ok (.iload_n 2, 1) := by decide +kernel
theorem dX6_note_84 : decode cX6_note 84 = .ok (.aload_n 0, 1) := by decide +kernel
theorem dX6_note_85 : decode cX6_note 85 = .ok (.getfield 53, 3) := by decide +kernel
theorem dX6_note_88 : decode cX6_note 88 = .ok (.iload_n 2, 1) := by decide +kernel
theorem dX6_note_89 : decode cX6_note 89 = .ok (.bipush 64, 2) := by decide +kernel
theorem dX6_note_91 : decode cX6_note 91 = .ok (.iadd, 1) := by decide +kernel
theorem dX6_note_92 : decode cX6_note 92 = .ok (.iaload, 1) := by decide +kernel
theorem dX6_note_93 : decode cX6_note 93 = .ok (.iastore, 1) := by decide +kernel
theorem dX6_note_94 : decode cX6_note 94 = .ok (.aload_n 0, 1) := by decide +kernel
theorem dX6_note_95 : decode cX6_note 95 = .ok (.getfield 56, 3) := by decide +kernel
theorem dX6_note_98 : decode cX6_note 98 = .ok (.iload_n 2, 1) := by decide +kernel
theorem dX6_note_99 : decode cX6_note 99 = .ok (.aload_n 0, 1) := by decide +kernel
theorem dX6_note_100 : decode cX6_note 100 = .ok (.getfield 56, 3) := by decide +kernel
theorem dX6_note_103 : decode cX6_note 103 = .ok (.iload_n 2, 1) := by decide +kernel
theorem dX6_note_104 : decode cX6_note 104 = .ok (.bipush 64, 2) := by decide +kernel
theorem dX6_note_106 : decode cX6_note 106 = .ok (.iadd, 1) := by decide +kernel
theorem dX6_note_107 : decode cX6_note 107 = .ok (.iaload, 1) := by decide +kernel
theorem dX6_note_108 : decode cX6_note 108 = .ok (.iastore, 1) := by decide +kernel
theorem dX6_note_109 : decode cX6_note 109 = .ok (.iinc 2 1, 3) := by decide +kernel
theorem dX6_note_112 : decode cX6_note 112 = .ok (.goto (-40), 3) := by decide +kernel
theorem dX6_note_115 : decode cX6_note 115 = .ok (.aload_n 0, 1) := by decide +kernel
theorem dX6_note_116 : decode cX6_note 116 = .ok (.dup, 1) := by decide +kernel
theorem dX6_note_117 : decode cX6_note 117 = .ok (.getfield 116, 3) := by decide +kernel
theorem dX6_note_120 : decode cX6_note 120 = .ok (.iconst 1, 1) := by decide +kernel
theorem dX6_note_121 : decode cX6_note 121 = .ok (.isub, 1) := by decide +kernel
theorem dX6_note_122 : decode cX6_note 122 = .ok (.putfield 116, 3) := by decide +kernel
theorem dX6_note_125 : decode cX6_note 125 = .ok (.iconst 0, 1) := by decide +kernel
theorem dX6_note_126 : decode cX6_note 126 = .ok (.istore_n 2, 1) := by decide +kernel
theorem dX6_note_127 : decode cX6_note 127 = .ok (.iload_n 2, 1) := by decide +kernel
theorem dX6_note_128 : decode cX6_note 128 = .ok (.bipush 64, 2) := by decide +kernel
theorem dX6_note_130 : decode cX6_note 130 = .ok (.if_icmp .ge 49, 3) := by decide +kernel
theorem dX6_note_133 : decode cX6_note 133 = .ok (.aload_n 0, 1) := by decide +kernel
theorem dX6_note_134 : decode cX6_note 134 = .ok (.getfield 53, 3) := by decide +kernel
theorem dX6_note_137 : decode cX6_note 137 = .ok (.bipush 64, 2) := by decide +kernel
theorem dX6_note_139 : decode cX6_note 139 = .ok (.aload_n 0, 1) := by decide +kernel
theorem dX6_note_140 : decode cX6_note 140 = .ok (.getfield 116, 3) := by decide +kernel
theorem dX6_note_143 : decode cX6_note 143 = .ok (.imul, 1) := by decide +kernel
theorem dX6_note_144 : decode cX6_note 144 = .ok (.iload_n 2, 1) := by decide +kernel
theorem dX6_note_145 : decode cX6_note 145 = .ok (.iadd, 1) := by decide +kernel
theorem dX6_note_146 : decode cX6_note 146 = .ok (.aload_n 0, 1) := by decide +kernel
theorem dX6_note_147 : decode cX6_note 147 = .ok (.getfield 47, 3) := by decide +kernel
theorem dX6_note_150 : decode cX6_note 150 = .ok (.iload_n 2, 1) := by decide +kernel
theorem dX6_note_151 : decode cX6_note 151 = .ok (.iaload, 1) := by decide +kernel
theorem dX6_note_152 : decode cX6_note 152 = .ok (.iastore, 1) := by decide +kernel
theorem dX6_note_153 : decode cX6_note 153 = .ok (.aload_n 0, 1) := by decide +kernel
theorem dX6_note_154 : decode cX6_note 154 = .ok (.getfield 56, 3) := by decide +kernel
theorem dX6_note_157 : decode cX6_note 157 = .ok (.bipush 64, 2) := by decide +kernel
theorem dX6_note_159 : decode cX6_note 159 = .ok (.aload_n 0, 1) := by decide +kernel
theorem dX6_note_160 : decode cX6_note 160 = .ok (.getfield 116, 3) := by decide +kernel
theorem dX6_note_163 : decode cX6_note 163 = .ok (.imul, 1) := by decide +kernel
theorem dX6_note_164 : decode cX6_note 164 = .ok (.iload_n 2, 1) := by decide +kernel
theorem dX6_note_165 : decode cX6_note 165 = .ok (.iadd, 1) := by decide +kernel
theorem dX6_note_166 : decode cX6_note 166 = .ok (.aload_n 0, 1) := by decide +kernel
theorem dX6_note_167 : decode cX6_note 167 = .ok (.getfield 50, 3) := by decide +kernel
theorem dX6_note_170 : decode cX6_note 170 = .ok (.iload_n 2, 1) := by decide +kernel
theorem dX6_note_171 : decode cX6_note 171 = .ok (.iaload, 1) := by decide +kernel
theorem dX6_note_172 : decode cX6_note 172 = .ok (.iastore, 1) := by decide +kernel
theorem dX6_note_173 : decode cX6_note 173 = .ok (.iinc 2 1, 3) := by decide +kernel
theorem dX6_note_176 : decode cX6_note 176 = .ok (.goto (-49), 3) := by decide +kernel
theorem dX6_note_179 : decode cX6_note 179 = .ok (.aload_n 0, 1) := by decide +kernel
theorem dX6_note_180 : decode cX6_note 180 = .ok (.dup, 1) := by decide +kernel
theorem dX6_note_181 : decode cX6_note 181 = .ok (.getfield 116, 3) := by decide +kernel
theorem dX6_note_184 : decode cX6_note 184 = .ok (.iconst 1, 1) := by decide +kernel
theorem dX6_note_185 : decode cX6_note 185 = .ok (.iadd, 1) := by decide +kernel
theorem dX6_note_186 : decode cX6_note 186 = .ok (.putfield 116, 3) := by decide +kernel
theorem dX6_note_189 : decode cX6_note 189 = .ok (.return_, 1) := by decide +kernel
theorem dX6_undo_0 : decode cX6_undo 0 = .ok (.aload_n 0, 1) := by decide +kernel
theorem dX6_undo_1 : decode cX6_undo 1 = .ok (.aload_n 0, 1) := by decide +kernel
theorem dX6_undo_2 : decode cX6_undo 2 = .ok (.getfield 116, 3) := by decide +kernel
theorem dX6_undo_5 : decode cX6_undo 5 = .ok (.ifCond .ne 7, 3) := by decide +kernel
theorem dX6_undo_8 : decode cX6_undo 8 = .ok (.iconst 1, 1) := by decide +kernel
theorem dX6_undo_9 : decode cX6_undo 9 = .ok (.goto 4, 3) := by decide +kernel
theorem dX6_undo_12 : decode cX6_undo 12 = .ok (.iconst 0, 1) := by decide +kernel
theorem dX6_undo_13 : decode cX6_undo 13 = .ok (.iconst 0, 1) := by decide +kernel
theorem dX6_undo_14 : decode cX6_undo 14 = .ok (.invokevirtual 90, 3) := by decide +kernel
theorem dX6_undo_17 : decode cX6_undo 17 = .ok (.ifCond .eq 5, 3) := by decide +kernel
theorem dX6_undo_20 : decode cX6_undo 20 = .ok (.iconst 0, 1) := by decide +kernel
theorem dX6_undo_21 : decode cX6_undo 21 = .ok (.ireturn, 1) := by decide +kernel
theorem dX6_undo_22 : decode cX6_undo 22 = .ok (.aload_n 0, 1) := by decide +kernel
theorem dX6_undo_23 : decode cX6_undo 23 = .ok (.dup, 1) := by decide +kernel
theorem dX6_undo_24 : decode cX6_undo 24 = .ok (.getfield 116, 3) := by decide +kernel
theorem dX6_undo_27 : decode cX6_undo 27 = .ok (.iconst 1, 1) := by decide +kernel
theorem dX6_undo_28 : decode cX6_undo 28 = .ok (.isub, 1) := by decide +kernel
theorem dX6_undo_29 : decode cX6_undo 29 = .ok (.putfield 116, 3) := by decide +kernel
theorem dX6_undo_32 : decode cX6_undo 32 = .ok (.iconst 0, 1) := by decide +kernel
theorem dX6_undo_33 : decode cX6_undo 33 = .ok (.istore_n 1, 1) := by decide +kernel
theorem dX6_undo_34 : decode cX6_undo 34 = .ok (.iload_n 1, 1) := by decide +kernel
theorem dX6_undo_35 : decode cX6_undo 35 = .ok (.bipush 64, 2) := by decide +kernel
theorem dX6_undo_37 : decode cX6_undo 37 = .ok (.if_icmp .ge 49, 3) := by decide +kernel
theorem dX6_undo_40 : decode cX6_undo 40 = .ok (.aload_n 0, 1) := by decide +kernel
theorem dX6_undo_41 : decode cX6_undo 41 = .ok (.getfield 34, 3) := by decide +kernel
theorem dX6_undo_44 : decode cX6_undo 44 = .ok (.iload_n 1, 1) := by decide +kernel
theorem dX6_undo_45 : decode cX6_undo 45 = .ok (.aload_n 0, 1) := by decide +kernel
theorem dX6_undo_46 : decode cX6_undo 46 = .ok (.getfield 53, 3) := by decide +kernel
theorem dX6_undo_49 : decode cX6_undo 49 = .ok (.bipush 64, 2) := by decide +kernel
theorem dX6_undo_51 : decode cX6_undo 51 = .ok (.aload_n 0, 1) := by decide +kernel
theorem dX6_undo_52 : decode cX6_undo 52 = .ok (.getfield 116, 3) := by decide +kernel
theorem dX6_undo_55 : decode cX6_undo 55 = .ok (.imul, 1) := by decide +kernel
theorem dX6_undo_56 : decode cX6_undo 56 = .ok (.iload_n 1, 1) := by decide +kernel
theorem dX6_undo_57 : decode cX6_undo 57 = .ok (.iadd, 1) := by decide +kernel
theorem dX6_undo_58 : decode cX6_undo 58 = .ok (.iaload, 1) := by decide +kernel
theorem dX6_undo_59 : decode cX6_undo 59 = .ok (.iastore, 1) := by decide +kernel
theorem dX6_undo_60 : decode cX6_undo 60 = .ok (.aload_n 0, 1) := by decide +kernel
theorem dX6_undo_61 : decode cX6_undo 61 = .ok (.getfield 37, 3) := by decide +kernel
theorem dX6_undo_64 : decode cX6_undo 64 = .ok (.iload_n 1, 1) := by decide +kernel
theorem dX6_undo_65 : decode cX6_undo 65 = .ok (.aload_n 0, 1) := by decide +kernel
theorem dX6_undo_66 : decode cX6_undo 66 = .ok (.getfield 56, 3) := by decide +kernel
theorem dX6_undo_69 : decode cX6_undo 69 = .ok (.bipush 64, 2) := by decide +kernel
theorem dX6_undo_71 : decode cX6_undo 71 = .ok (.aload_n 0, 1) := by decide +kernel
theorem dX6_undo_72 : decode cX6_undo 72 = .ok (.getfield 116, 3) := by decide +kernel
theorem dX6_undo_75 : decode cX6_undo 75 = .ok (.imul, 1) := by decide +kernel
theorem dX6_undo_76 : decode cX6_undo 76 = .ok (.iload_n 1, 1) := by decide +kernel
theorem dX6_undo_77 : decode cX6_undo 77 = .ok (.iadd, 1) := by decide +kernel
theorem dX6_undo_78 : decode cX6_undo 78 = .ok (.iaload, 1) := by decide +kernel
theorem dX6_undo_79 : decode cX6_undo 79 = .ok (.iastore, 1) := by decide +kernel
theorem dX6_undo_80 : decode cX6_undo 80 = .ok (.iinc 1 1, 3) := by decide +kernel
theorem dX6_undo_83 : decode cX6_undo 83 = .ok (.goto (-49), 3) := by decide +kernel
theorem dX6_undo_86 : decode cX6_undo 86 = .ok (.aload_n 0, 1) := by decide +kernel
theorem dX6_undo_87 : decode cX6_undo 87 = .ok (.getfield 116, 3) := by decide +kernel
theorem dX6_undo_90 : decode cX6_undo 90 = .ok (.ireturn, 1) := by decide +kernel
theorem dX6_place_0 : decode cX6_place 0 = .ok (.aload_n 0, 1) := by decide +kernel
theorem dX6_place_1 : decode cX6_place 1 = .ok (.iload_n 1, 1) := by decide +kernel
theorem dX6_place_2 : decode cX6_place 2 = .ok (.iload_n 2, 1) := by decide +kernel
theorem dX6_place_3 : decode cX6_place 3 = .ok (.invokevirtual 119, 3) := by decide +kernel
theorem dX6_place_6 : decode cX6_place 6 = .ok (.ifCond .eq 11, 3) := by decide +kernel
theorem dX6_place_9 : decode cX6_place 9 = .ok (.aload_n 0, 1) := by decide +kernel
theorem dX6_place_10 : decode cX6_place 10 = .ok (.iload_n 3, 1) := by decide +kernel
theorem dX6_place_11 : decode cX6_place 11 = .ok (.invokevirtual 94, 3) := by decide +kernel
theorem dX6_place_14 : decode cX6_place 14 = .ok (.ifCond .ne 7, 3) := by decide +kernel
theorem dX6_place_17 : decode cX6_place 17 = .ok (.iconst 1, 1) := by decide +kernel
theorem dX6_place_18 : decode cX6_place 18 = .ok (.goto 4, 3) := by decide +kernel
theorem dX6_place_21 : decode cX6_place 21 = .ok (.iconst 0, 1) := by decide +kernel
theorem dX6_place_22 : decode cX6_place 22 = .ok (.istore 4, 2) := by decide +kernel
theorem dX6_place_24 : decode cX6_place 24 = .ok (.aload_n 0, 1) := by decide +kernel
theorem dX6_place_25 : decode cX6_place 25 = .ok (.iload 4, 2) := by decide +kernel
theorem dX6_place_27 : decode cX6_place 27 = .ok (.iload 4, 2) := by decide +kernel
theorem dX6_place_29 : decode cX6_place 29 = .ok (.ifCond .ne 20, 3) := by decide +kernel
theorem dX6_place_32 : decode cX6_place 32 = .ok (.aload_n 0, 1) := by decide +kernel
theorem dX6_place_33 : decode cX6_place 33 = .ok (.getfield 34, 3) := by decide +kernel
theorem dX6_place_36 : decode cX6_place 36 = .ok (.iconst 4, 1) := by decide +kernel
theorem dX6_place_37 : decode cX6_place 37 = .ok (.iload_n 1, 1) := by decide +kernel
theorem dX6_place_38 : decode cX6_place 38 = .ok (.imul, 1) := by decide +kernel
theorem dX6_place_39 : decode cX6_place 39 = .ok (.iload_n 2, 1) := by decide +kernel
theorem dX6_place_40 : decode cX6_place 40 = .ok (.iadd, 1) := by decide +kernel
theorem dX6_place_41 : decode cX6_place 41 = .ok (.iaload, 1) := by decide +kernel
theorem dX6_place_42 : decode cX6_place 42 = .ok (.ifCond .lt 7, 3) := by decide +kernel
theorem dX6_place_45 : decode cX6_place 45 = .ok (.iconst 1, 1) := by decide +kernel
theorem dX6_place_46 : decode cX6_place 46 = .ok (.goto 4, 3) := by decide +kernel
theorem dX6_place_49 : decode cX6_place 49 = .ok (.iconst 0, 1) := by decide +kernel
theorem dX6_place_50 : decode cX6_place 50 = .ok (.invokevirtual 90, 3) := by decide +kernel
theorem dX6_place_53 : decode cX6_place 53 = .ok (.ifCond .eq 5, 3) := by decide +kernel
theorem dX6_place_56 : decode cX6_place 56 = .ok (.iconst 0, 1) := by decide +kernel
theorem dX6_place_57 : decode cX6_place 57 = .ok (.ireturn, 1) := by decide +kernel
theorem dX6_place_58 : decode cX6_place 58 = .ok (.aload_n 0, 1) := by decide +kernel
theorem dX6_place_59 : decode cX6_place 59 = .ok (.iconst 4, 1) := by decide +kernel
theorem dX6_place_60 : decode cX6_place 60 = .ok (.iload_n 1, 1) := by decide +kernel
theorem dX6_place_61 : decode cX6_place 61 = .ok (.imul, 1) := by decide +kernel
theorem dX6_place_62 : decode cX6_place 62 = .ok (.iload_n 2, 1) := by decide +kernel
theorem dX6_place_63 : decode cX6_place 63 = .ok (.iadd, 1) := by decide +kernel
theorem dX6_place_64 : decode cX6_place 64 = .ok (.iload_n 3, 1) := by decide +kernel
theorem dX6_place_65 : decode cX6_place 65 = .ok (.invokevirtual 122, 3) := by decide +kernel
theorem dX6_place_68 : decode cX6_place 68 = .ok (.istore 5, 2) := by decide +kernel
theorem dX6_place_70 : decode cX6_place 70 = .ok (.iload 5, 2) := by decide +kernel
theorem dX6_place_72 : decode cX6_place 72 = .ok (.ifCond .le 6, 3) := by decide +kernel
theorem dX6_place_75 : decode cX6_place 75 = .ok (.iload 5, 2) := by decide +kernel
theorem dX6_place_77 : decode cX6_place 77 = .ok (.ireturn, 1) := by decide +kernel
theorem dX6_place_78 : decode cX6_place 78 = .ok (.aload_n 0, 1) := by decide +kernel
theorem dX6_place_79 : decode cX6_place 79 = .ok (.invokevirtual 125, 3) := by decide +kernel
theorem dX6_place_82 : decode cX6_place 82 = .ok (.aload_n 0, 1) := by decide +kernel
theorem dX6_place_83 : decode cX6_place 83 = .ok (.iconst 4, 1) := by decide +kernel
theorem dX6_place_84 : decode cX6_place 84 = .ok (.iload_n 1, 1) := by decide +kernel
theorem dX6_place_85 : decode cX6_place 85 = .ok (.imul, 1) := by decide +kernel
theorem dX6_place_86 : decode cX6_place 86 = .ok (.iload_n 2, 1) := by decide +kernel
theorem dX6_place_87 : decode cX6_place 87 = .ok (.iadd, 1) := by decide +kernel
theorem dX6_place_88 : decode cX6_place 88 = .ok (.iload_n 3, 1) := by decide +kernel
theorem dX6_place_89 : decode cX6_place 89 = .ok (.invokevirtual 128, 3) := by decide +kernel
theorem dX6_place_92 : decode cX6_place 92 = .ok (.aload_n 0, 1) := by decide +kernel
theorem dX6_place_93 : decode cX6_place 93 = .ok (.invokevirtual 132, 3) := by decide +kernel
theorem dX6_place_96 : decode cX6_place 96 = .ok (.iconst 0, 1) := by decide +kernel
theorem dX6_place_97 : decode cX6_place 97 = .ok (.ireturn, 1) := by decide +kernel
theorem dX6_drop_0 : decode cX6_drop 0 = .ok (.aload_n 0, 1) := by decide +kernel
theorem dX6_drop_1 : decode cX6_drop 1 = .ok (.iload_n 1, 1) := by decide +kernel
theorem dX6_drop_2 : decode cX6_drop 2 = .ok (.iload_n 2, 1) := by decide +kernel
theorem dX6_drop_3 : decode cX6_drop 3 = .ok (.invokevirtual 119, 3) := by decide +kernel
theorem dX6_drop_6 : decode cX6_drop 6 = .ok (.ifCond .ne 7, 3) := by decide +kernel
theorem dX6_drop_9 : decode cX6_drop 9 = .ok (.iconst 1, 1) := by decide +kernel
theorem dX6_drop_10 : decode cX6_drop 10 = .ok (.goto 4, 3) := by decide +kernel
theorem dX6_drop_13 : decode cX6_drop 13 = .ok (.iconst 0, 1) := by decide +kernel
theorem dX6_drop_14 : decode cX6_drop 14 = .ok (.istore_n 3, 1) := by decide +kernel
theorem dX6_drop_15 : decode cX6_drop 15 = .ok (.aload_n 0, 1) := by decide +kernel
theorem dX6_drop_16 : decode cX6_drop 16 = .ok (.iload_n 3, 1) := by decide +kernel
theorem dX6_drop_17 : decode cX6_drop 17 = .ok (.iload_n 3, 1) := by decide +kernel
theorem dX6_drop_18 : decode cX6_drop 18 = .ok (.ifCond .ne 20, 3) := by decide +kernel
theorem dX6_drop_21 : decode cX6_drop 21 = .ok (.aload_n 0, 1) := by decide +kernel
theorem dX6_drop_22 : decode cX6_drop 22 = .ok (.getfield 34, 3) := by decide +kernel
theorem dX6_drop_25 : decode cX6_drop 25 = .ok (.iconst 4, 1) := by decide +kernel
theorem dX6_drop_26 : decode cX6_drop 26 = .ok (.iload_n 1, 1) := by decide +kernel
theorem dX6_drop_27 : decode cX6_drop 27 = .ok (.imul, 1) := by decide +kernel
theorem dX6_drop_28 : decode cX6_drop 28 = .ok (.iload_n 2, 1) := by decide +kernel
theorem dX6_drop_29 : decode cX6_drop 29 = .ok (.iadd, 1) := by decide +kernel
theorem dX6_drop_30 : decode cX6_drop 30 = .ok (.iaload, 1) := by decide +kernel
theorem dX6_drop_31 : decode cX6_drop 31 = .ok (.ifCond .ge 7, 3) := by decide +kernel
theorem dX6_drop_34 : decode cX6_drop 34 = .ok (.iconst 1, 1) := by decide +kernel
theorem dX6_drop_35 : decode cX6_drop 35 = .ok (.goto 4, 3) := by decide +kernel
theorem dX6_drop_38 : decode cX6_drop 38 = .ok (.iconst 0, 1) := by decide +kernel
theorem dX6_drop_39 : decode cX6_drop 39 = .ok (.invokevirtual 90, 3) := by decide +kernel
theorem dX6_drop_42 : decode cX6_drop 42 = .ok (.ifCond .eq 5, 3) := by decide +kernel
theorem dX6_drop_45 : decode cX6_drop 45 = .ok (.iconst 0, 1) := by decide +kernel
theorem dX6_drop_46 : decode cX6_drop 46 = .ok (.ireturn, 1) := by decide +kernel
theorem dX6_drop_47 : decode cX6_drop 47 = .ok (.aload_n 0, 1) := by decide +kernel
theorem dX6_drop_48 : decode cX6_drop 48 = .ok (.getfield 34, 3) := by decide +kernel
theorem dX6_drop_51 : decode cX6_drop 51 = .ok (.iconst 4, 1) := by decide +kernel
theorem dX6_drop_52 : decode cX6_drop 52 = .ok (.iload_n 1, 1) := by decide +kernel
theorem dX6_drop_53 : decode cX6_drop 53 = .ok (.imul, 1) := by decide +kernel
theorem dX6_drop_54 : decode cX6_drop 54 = .ok (.iload_n 2, 1) := by decide +kernel
theorem dX6_drop_55 : decode cX6_drop 55 = .ok (.iadd, 1) := by decide +kernel
theorem dX6_drop_56 : decode cX6_drop 56 = .ok (.iaload, 1) := by decide +kernel
theorem dX6_drop_57 : decode cX6_drop 57 = .ok (.istore 4, 2) := by decide +kernel
theorem dX6_drop_59 : decode cX6_drop 59 = .ok (.aload_n 0, 1) := by decide +kernel
theorem dX6_drop_60 : decode cX6_drop 60 = .ok (.invokevirtual 125, 3) := by decide +kernel
theorem dX6_drop_63 : decode cX6_drop 63 = .ok (.aload_n 0, 1) := by decide +kernel
theorem dX6_drop_64 : decode cX6_drop 64 = .ok (.iconst 4, 1) := by decide +kernel
theorem dX6_drop_65 : decode cX6_drop 65 = .ok (.iload_n 1, 1) := by decide +kernel
theorem dX6_drop_66 : decode cX6_drop 66 = .ok (.imul, 1) := by decide +kernel
theorem dX6_drop_67 : decode cX6_drop 67 = .ok (.iload_n 2, 1) := by decide +kernel
theorem dX6_drop_68 : decode cX6_drop 68 = .ok (.iadd, 1) := by decide +kernel
theorem dX6_drop_69 : decode cX6_drop 69 = .ok (.invokevirtual 135, 3) := by decide +kernel
theorem dX6_drop_72 : decode cX6_drop 72 = .ok (.aload_n 0, 1) := by decide +kernel
theorem dX6_drop_73 : decode cX6_drop 73 = .ok (.invokevirtual 132, 3) := by decide +kernel
theorem dX6_drop_76 : decode cX6_drop 76 = .ok (.iload 4, 2) := by decide +kernel
theorem dX6_drop_78 : decode cX6_drop 78 = .ok (.ireturn, 1) := by decide +kernel
theorem dX6_fill_0 : decode cX6_fill 0 = .ok (.aload_n 0, 1) := by decide +kernel
theorem dX6_fill_1 : decode cX6_fill 1 = .ok (.iload_n 1, 1) := by decide +kernel
theorem dX6_fill_2 : decode cX6_fill 2 = .ok (.iconst 1, 1) := by decide +kernel
theorem dX6_fill_3 : decode cX6_fill 3 = .ok (.sipush 20000, 3) := by decide +kernel
theorem dX6_fill_6 : decode cX6_fill 6 = .ok (.invokestatic 72, 3) := by decide +kernel
theorem dX6_fill_9 : decode cX6_fill 9 = .ok (.ifCond .ne 7, 3) := by decide +kernel
theorem dX6_fill_12 : decode cX6_fill 12 = .ok (.iconst 1, 1) := by decide +kernel
theorem dX6_fill_13 : decode cX6_fill 13 = .ok (.goto 4, 3) := by decide +kernel
theorem dX6_fill_16 : decode cX6_fill 16 = .ok (.iconst 0, 1) := by decide +kernel
theorem dX6_fill_17 : decode cX6_fill 17 = .ok (.iconst 0, 1) := by decide +kernel
theorem dX6_fill_18 : decode cX6_fill 18 = .ok (.invokevirtual 90, 3) := by decide +kernel
theorem dX6_fill_21 : decode cX6_fill 21 = .ok (.ifCond .eq 5, 3) := by decide +kernel
theorem dX6_fill_24 : decode cX6_fill 24 = .ok (.iconst 0, 1) := by decide +kernel
theorem dX6_fill_25 : decode cX6_fill 25 = .ok (.ireturn, 1) := by decide +kernel
theorem dX6_fill_26 : decode cX6_fill 26 = .ok (.aload_n 0, 1) := by decide +kernel
theorem dX6_fill_27 : decode cX6_fill 27 = .ok (.invokevirtual 125, 3) := by decide +kernel
theorem dX6_fill_30 : decode cX6_fill 30 = .ok (.iconst 0, 1) := by decide +kernel
theorem dX6_fill_31 : decode cX6_fill 31 = .ok (.istore_n 2, 1) := by decide +kernel
theorem dX6_fill_32 : decode cX6_fill 32 = .ok (.iconst 0, 1) := by decide +kernel
theorem dX6_fill_33 : decode cX6_fill 33 = .ok (.istore_n 3, 1) := by decide +kernel
theorem dX6_fill_34 : decode cX6_fill 34 = .ok (.iload_n 3, 1) := by decide +kernel
theorem dX6_fill_35 : decode cX6_fill 35 = .ok (.aload_n 0, 1) := by decide +kernel
theorem dX6_fill_36 : decode cX6_fill 36 = .ok (.getfield 76, 3) := by decide +kernel
theorem dX6_fill_39 : decode cX6_fill 39 = .ok (.if_icmp .ge 58, 3) := by decide +kernel
theorem dX6_fill_42 : decode cX6_fill 42 = .ok (.iconst 0, 1) := by decide +kernel
theorem dX6_fill_43 : decode cX6_fill 43 = .ok (.istore 4, 2) := by decide +kernel
theorem dX6_fill_45 : decode cX6_fill 45 = .ok (.iload 4, 2) := by decide +kernel
theorem dX6_fill_47 : decode cX6_fill 47 = .ok (.aload_n 0, 1) := by decide +kernel
theorem dX6_fill_48 : decode cX6_fill 48 = .ok (.getfield 28, 3) := by decide +kernel
theorem dX6_fill_51 : decode cX6_fill 51 = .ok (.iload_n 3, 1) := by decide +kernel
theorem dX6_fill_52 : decode cX6_fill 52 = .ok (.iaload, 1) := by decide +kernel
theorem dX6_fill_53 : decode cX6_fill 53 = .ok (.if_icmp .ge 38, 3) := by decide +kernel
theorem dX6_fill_56 : decode cX6_fill 56 = .ok (.aload_n 0, 1) := by decide +kernel
theorem dX6_fill_57 : decode cX6_fill 57 = .ok (.getfield 34, 3) := by decide +kernel
theorem dX6_fill_60 : decode cX6_fill 60 = .ok (.iconst 4, 1) := by decide +kernel
theorem dX6_fill_61 : decode cX6_fill 61 = .ok (.iload_n 3, 1) := by decide +kernel
theorem dX6_fill_62 : decode cX6_fill 62 = .ok (.imul, 1) := by decide +kernel
theorem dX6_fill_63 : decode cX6_fill 63 = .ok (.iload 4, 2) := by decide +kernel
theorem dX6_fill_65 : decode cX6_fill 65 = .ok (.iadd, 1) := by decide +kernel
theorem dX6_fill_66 : decode cX6_fill 66 = .ok (.iaload, 1) := by decide +kernel
theorem dX6_fill_67 : decode cX6_fill 67 = .ok (.ifCond .ge 18, 3) := by decide +kernel
theorem dX6_fill_70 : decode cX6_fill 70 = .ok (.aload_n 0, 1) := by decide +kernel
theorem dX6_fill_71 : decode cX6_fill 71 = .ok (.getfield 44, 3) := by decide +kernel
theorem dX6_fill_74 : decode cX6_fill 74 = .ok (.iload_n 2, 1) := by decide +kernel
theorem dX6_fill_75 : decode cX6_fill 75 = .ok (.iconst 4, 1) := by decide +kernel
theorem dX6_fill_76 : decode cX6_fill 76 = .ok (.iload_n 3, 1) := by decide +kernel
theorem dX6_fill_77 : decode cX6_fill 77 = .ok (.imul, 1) := by decide +kernel
theorem dX6_fill_78 : decode cX6_fill 78 = .ok (.iload 4, 2) := by decide +kernel
theorem dX6_fill_80 : decode cX6_fill 80 = .ok (.iadd, 1) := by decide +kernel
theorem dX6_fill_81 : decode cX6_fill 81 = .ok (.iastore, 1) := by decide +kernel
theorem dX6_fill_82 : decode cX6_fill 82 = .ok (.iinc 2 1, 3) := by decide +kernel
theorem dX6_fill_85 : decode cX6_fill 85 = .ok (.iinc 4 1, 3) := by decide +kernel
theorem dX6_fill_88 : decode cX6_fill 88 = .ok (.goto (-43), 3) := by decide +kernel
theorem dX6_fill_91 : decode cX6_fill 91 = .ok (.iinc 3 1, 3) := by decide +kernel
theorem dX6_fill_94 : decode cX6_fill 94 = .ok (.goto (-60), 3) := by decide +kernel
theorem dX6_fill_97 : decode cX6_fill 97 = .ok (.aload_n 0, 1) := by decide +kernel
theorem dX6_fill_98 : decode cX6_fill 98 = .ok (.iconst 0, 1) := by decide +kernel
theorem dX6_fill_99 : decode cX6_fill 99 = .ok (.putfield 139, 3) := by decide +kernel
theorem dX6_fill_102 : decode cX6_fill 102 = .ok (.iconst 0, 1) := by decide +kernel
theorem dX6_fill_103 : decode cX6_fill 103 = .ok (.istore_n 3, 1) := by decide +kernel
theorem dX6_fill_104 : decode cX6_fill 104 = .ok (.iconst 0, 1) := by decide +kernel
theorem dX6_fill_105 : decode cX6_fill 105 = .ok (.istore 4, 2) := by decide +kernel
theorem dX6_fill_107 : decode cX6_fill 107 = .ok (.iconst 0, 1) := by decide +kernel
theorem dX6_fill_108 : decode cX6_fill 108 = .ok (.istore 5, 2) := by decide +kernel
theorem dX6_fill_110 : decode cX6_fill 110 = .ok (.iload_n 3, 1) := by decide +kernel
theorem dX6_fill_111 : decode cX6_fill 111 = .ok (.ifCond .lt 213, 3) := by decide +kernel
theorem dX6_fill_114 : decode cX6_fill 114 = .ok (.iload_n 3, 1) := by decide +kernel
theorem dX6_fill_115 : decode cX6_fill 115 = .ok (.iload_n 2, 1) := by decide +kernel
theorem dX6_fill_116 : decode cX6_fill 116 = .ok (.if_icmp .ge 208, 3) := by decide +kernel
theorem dX6_fill_119 : decode cX6_fill 119 = .ok (.iload 5, 2) := by decide +kernel
theorem dX6_fill_121 : decode cX6_fill 121 = .ok (.ifCond .ne 203, 3) := by decide +kernel
theorem dX6_fill_124 : decode cX6_fill 124 = .ok (.aload_n 0, 1) := by decide +kernel
theorem dX6_fill_125 : decode cX6_fill 125 = .ok (.getfield 44, 3) := by decide +kernel
theorem dX6_fill_128 : decode cX6_fill 128 = .ok (.iload_n 3, 1) := by decide +kernel
theorem dX6_fill_129 : decode cX6_fill 129 = .ok (.iaload, 1) := by decide +kernel
theorem dX6_fill_130 : decode cX6_fill 130 = .ok (.istore 6, 2) := by decide +kernel
theorem dX6_fill_132 : decode cX6_fill 132 = .ok (.iconst 0, 1) := by decide +kernel
theorem dX6_fill_133 : decode cX6_fill 133 = .ok (.istore 7, 2) := by decide +kernel
theorem dX6_fill_135 : decode cX6_fill 135 = .ok (.iload 7, 2) := by decide +kernel
theorem dX6_fill_137 : decode cX6_fill 137 = .ok (.ifCond .ne 92, 3) := by decide +kernel
theorem dX6_fill_140 : decode cX6_fill 140 = .ok (.iload 5, 2) := by decide +kernel
theorem dX6_fill_142 : decode cX6_fill 142 = .ok (.ifCond .ne 87, 3) := by decide +kernel
theorem dX6_fill_145 : decode cX6_fill 145 = .ok (.iload 4, 2) := by decide +kernel
theorem dX6_fill_147 : decode cX6_fill 147 = .ok (.aload_n 0, 1) := by decide +kernel
theorem dX6_fill_148 : decode cX6_fill 148 = .ok (.getfield 62, 3) := by decide +kernel
theorem dX6_fill_151 : decode cX6_fill 151 = .ok (.aload_n 0, 1) := by decide +kernel
theorem dX6_fill_152 : decode cX6_fill 152 = .ok (.getfield 66, 3) := by decide +kernel
theorem dX6_fill_155 : decode cX6_fill 155 = .ok (.imul, 1) := by decide +kernel
theorem dX6_fill_156 : decode cX6_fill 156 = .ok (.if_icmp .ge 73, 3) := by decide +kernel
theorem dX6_fill_159 : decode cX6_fill 159 = .ok (.aload_n 0, 1) := by decide +kernel
theorem dX6_fill_160 : decode cX6_fill 160 = .ok (.getfield 139, 3) := by decide +kernel
theorem dX6_fill_163 : decode cX6_fill 163 = .ok (.iload_n 1, 1) := by decide +kernel
theorem dX6_fill_164 : decode cX6_fill 164 = .ok (.if_icmp .ne 7, 3) := by decide +kernel
theorem dX6_fill_167 : decode cX6_fill 167 = .ok (.iconst 1, 1) := by decide +kernel
theorem dX6_fill_168 : decode cX6_fill 168 = .ok (.goto 4, 3) := by decide +kernel
theorem dX6_fill_171 : decode cX6_fill 171 = .ok (.iconst 0, 1) := by decide +kernel
theorem dX6_fill_172 : decode cX6_fill 172 = .ok (.istore 5, 2) := by decide +kernel
theorem dX6_fill_174 : decode cX6_fill 174 = .ok (.iload 5, 2) := by decide +kernel
theorem dX6_fill_176 : decode cX6_fill 176 = .ok (.ifCond .ne (-41), 3) := by decide +kernel
theorem dX6_fill_179 : decode cX6_fill 179 = .ok (.aload_n 0, 1) := by decide +kernel
theorem dX6_fill_180 : decode cX6_fill 180 = .ok (.dup, 1) := by decide +kernel
theorem dX6_fill_181 : decode cX6_fill 181 = .ok (.getfield 139, 3) := by decide +kernel
theorem dX6_fill_184 : decode cX6_fill 184 = .ok (.iconst 1, 1) := by decide +kernel
theorem dX6_fill_185 : decode cX6_fill 185 = .ok (.iadd, 1) := by decide +kernel
theorem dX6_fill_186 : decode cX6_fill 186 = .ok (.putfield 139, 3) := by decide +kernel
theorem dX6_fill_189 : decode cX6_fill 189 = .ok (.aload_n 0, 1) := by decide +kernel
theorem dX6_fill_190 : decode cX6_fill 190 = .ok (.iload 6, 2) := by decide +kernel
theorem dX6_fill_192 : decode cX6_fill 192 = .ok (.iload 4, 2) := by decide +kernel
theorem dX6_fill_194 : decode cX6_fill 194 = .ok (.invokevirtual 122, 3) := by decide +kernel
theorem dX6_fill_197 : decode cX6_fill 197 = .ok (.ifCond .ne 7, 3) := by decide +kernel
theorem dX6_fill_200 : decode cX6_fill 200 = .ok (.iconst 1, 1) := by decide +kernel
theorem dX6_fill_201 : decode cX6_fill 201 = .ok (.goto 4, 3) := by decide +kernel
theorem dX6_fill_204 : decode cX6_fill 204 = .ok (.iconst 0, 1) := by decide +kernel
theorem dX6_fill_205 : decode cX6_fill 205 = .ok (.istore 7, 2) := by decide +kernel
theorem dX6_fill_207 : decode cX6_fill 207 = .ok (.iload 7, 2) := by decide +kernel
theorem dX6_fill_209 : decode cX6_fill 209 = .ok (.ifCond .eq 14, 3) := by decide +kernel
theorem dX6_fill_212 : decode cX6_fill 212 = .ok (.aload_n 0, 1) := by decide +kernel
theorem dX6_fill_213 : decode cX6_fill 213 = .ok (.iload 6, 2) := by decide +kernel
theorem dX6_fill_215 : decode cX6_fill 215 = .ok (.iload 4, 2) := by decide +kernel
theorem dX6_fill_217 : decode cX6_fill 217 = .ok (.invokevirtual 128, 3) := by decide +kernel
theorem dX6_fill_220 : decode cX6_fill 220 = .ok (.goto (-85), 3) := by decide +kernel
theorem dX6_fill_223 : decode cX6_fill 223 = .ok (.iinc 4 1, 3) := by decide +kernel
theorem dX6_fill_226 : decode cX6_fill 226 = .ok (.goto (-91), 3) := by decide +kernel
theorem dX6_fill_229 : decode cX6_fill 229 = .ok (.iload 7, 2) := by decide +kernel
theorem dX6_fill_231 : decode cX6_fill 231 = .ok (.ifCond .eq 53, 3) := by decide +kernel
theorem dX6_fill_234 : decode cX6_fill 234 = .ok (.iinc 3 1, 3) := by decide +kernel
theorem dX6_fill_237 : decode cX6_fill 237 = .ok (.iload_n 3, 1) := by decide +kernel
theorem dX6_fill_238 : decode cX6_fill 238 = .ok (.iload_n 2, 1) := by decide +kernel
theorem dX6_fill_239 : decode cX6_fill 239 = .ok (.if_icmp .ge 24, 3) := by decide +kernel
theorem dX6_fill_242 : decode cX6_fill 242 = .ok (.aload_n 0, 1) := by decide +kernel
theorem dX6_fill_243 : decode cX6_fill 243 = .ok (.getfield 44, 3) := by decide +kernel
theorem dX6_fill_246 : decode cX6_fill 246 = .ok (.iload_n 3, 1) := by decide +kernel
theorem dX6_fill_247 : decode cX6_fill 247 = .ok (.iaload, 1) := by decide +kernel
theorem dX6_fill_248 : decode cX6_fill 248 = .ok (.invokestatic 79, 3) := by decide +kernel
theorem dX6_fill_251 : decode cX6_fill 251 = .ok (.iload 6, 2) := by decide +kernel
theorem dX6_fill_253 : decode cX6_fill 253 = .ok (.invokestatic 79, 3) := by decide +kernel
theorem dX6_fill_256 : decode cX6_fill 256 = .ok (.if_icmp .ne 7, 3) := by decide +kernel
theorem dX6_fill_259 : decode cX6_fill 259 = .ok (.iconst 1, 1) := by decide +kernel
theorem dX6_fill_260 : decode cX6_fill 260 = .ok (.goto 4, 3) := by decide +kernel
theorem dX6_fill_263 : decode cX6_fill 263 = .ok (.iconst 0, 1) := by decide +kernel
theorem dX6_fill_264 : decode cX6_fill 264 = .ok (.istore 8, 2) := by decide +kernel
theorem dX6_fill_266 : decode cX6_fill 266 = .ok (.iload 8, 2) := by decide +kernel
theorem dX6_fill_268 : decode cX6_fill 268 = .ok (.ifCond .eq 10, 3) := by decide +kernel
theorem dX6_fill_271 : decode cX6_fill 271 = .ok (.iload 4, 2) := by decide +kernel
theorem dX6_fill_273 : decode cX6_fill 273 = .ok (.iconst 1, 1) := by decide +kernel
theorem dX6_fill_274 : decode cX6_fill 274 = .ok (.iadd, 1) := by decide +kernel
theorem dX6_fill_275 : decode cX6_fill 275 = .ok (.goto 4, 3) := by decide +kernel
theorem dX6_fill_278 : decode cX6_fill 278 = .ok (.iconst 0, 1) := by decide +kernel
theorem dX6_fill_279 : decode cX6_fill 279 = .ok (.istore 4, 2) := by decide +kernel
theorem dX6_fill_281 : decode cX6_fill 281 = .ok (.goto 40, 3) := by decide +kernel
theorem dX6_fill_284 : decode cX6_fill 284 = .ok (.iload 5, 2) := by decide +kernel
theorem dX6_fill_286 : decode cX6_fill 286 = .ok (.ifCond .ne 35, 3) := by decide +kernel
theorem dX6_fill_289 : decode cX6_fill 289 = .ok (.iinc 3 (-1), 3) := by decide +kernel
theorem dX6_fill_292 : decode cX6_fill 292 = .ok (.iload_n 3, 1) := by decide +kernel
theorem dX6_fill_293 : decode cX6_fill 293 = .ok (.ifCond .lt 28, 3) := by decide +kernel
theorem dX6_fill_296 : decode cX6_fill 296 = .ok (.aload_n 0, 1) := by decide +kernel
theorem dX6_fill_297 : decode cX6_fill 297 = .ok (.getfield 34, 3) := by decide +kernel
theorem dX6_fill_300 : decode cX6_fill 300 = .ok (.aload_n 0, 1) := by decide +kernel
theorem dX6_fill_301 : decode cX6_fill 301 = .ok (.getfield 44, 3) := by decide +kernel
theorem dX6_fill_304 : decode cX6_fill 304 = .ok (.iload_n 3, 1) := by decide +kernel
theorem dX6_fill_305 : decode cX6_fill 305 = .ok (.iaload, 1) := by decide +kernel
theorem dX6_fill_306 : decode cX6_fill 306 = .ok (.iaload, 1) := by decide +kernel
theorem dX6_fill_307 : decode cX6_fill 307 = .ok (.iconst 1, 1) := by decide +kernel
theorem dX6_fill_308 : decode cX6_fill 308 = .ok (.iadd, 1) := by decide +kernel
theorem dX6_fill_309 : decode cX6_fill 309 = .ok (.istore 4, 2) := by decide +kernel
theorem dX6_fill_311 : decode cX6_fill 311 = .ok (.aload_n 0, 1) := by decide +kernel
theorem dX6_fill_312 : decode cX6_fill 312 = .ok (.aload_n 0, 1) := by decide +kernel
theorem dX6_fill_313 : decode cX6_fill 313 = .ok (.getfield 44, 3) := by decide +kernel
theorem dX6_fill_316 : decode cX6_fill 316 = .ok (.iload_n 3, 1) := by decide +kernel
theorem dX6_fill_317 : decode cX6_fill 317 = .ok (.iaload, 1) := by decide +kernel
theorem dX6_fill_318 : decode cX6_fill 318 = .ok (.invokevirtual 135, 3) := by decide +kernel
theorem dX6_fill_321 : decode cX6_fill 321 = .ok (.goto (-211), 3) := by decide +kernel
theorem dX6_fill_324 : decode cX6_fill 324 = .ok (.iload 5, 2) := by decide +kernel
theorem dX6_fill_326 : decode cX6_fill 326 = .ok (.ifCond .ne 7, 3) := by decide +kernel
theorem dX6_fill_329 : decode cX6_fill 329 = .ok (.iload_n 3, 1) := by decide +kernel
theorem dX6_fill_330 : decode cX6_fill 330 = .ok (.ifCond .ge 7, 3) := by decide +kernel
theorem dX6_fill_333 : decode cX6_fill 333 = .ok (.aload_n 0, 1) := by decide +kernel
theorem dX6_fill_334 : decode cX6_fill 334 = .ok (.invokevirtual 142, 3) := by decide +kernel
theorem dX6_fill_337 : decode cX6_fill 337 = .ok (.aload_n 0, 1) := by decide +kernel
theorem dX6_fill_338 : decode cX6_fill 338 = .ok (.invokevirtual 132, 3) := by decide +kernel
theorem dX6_fill_341 : decode cX6_fill 341 = .ok (.iload 5, 2) := by decide +kernel
theorem dX6_fill_343 : decode cX6_fill 343 = .ok (.ifCond .eq 7, 3) := by decide +kernel
theorem dX6_fill_346 : decode cX6_fill 346 = .ok (.iconst 2, 1) := by decide +kernel
theorem dX6_fill_347 : decode cX6_fill 347 = .ok (.goto 12, 3) := by decide +kernel
theorem dX6_fill_350 : decode cX6_fill 350 = .ok (.iload_n 3, 1) := by decide +kernel
theorem dX6_fill_351 : decode cX6_fill 351 = .ok (.ifCond .ge 7, 3) := by decide +kernel
theorem dX6_fill_354 : decode cX6_fill 354 = .ok (.iconst 0, 1) := by decide +kernel
theorem dX6_fill_355 : decode cX6_fill 355 = .ok (.goto 4, 3) := by decide +kernel
theorem dX6_fill_358 : decode cX6_fill 358 = .ok (.iconst 1, 1) := by decide +kernel
theorem dX6_fill_359 : decode cX6_fill 359 = .ok (.ireturn, 1) := by decide +kernel
theorem dX6_tries_0 : decode cX6_tries 0 = .ok (.aload_n 0, 1) := by decide +kernel
theorem dX6_tries_1 : decode cX6_tries 1 = .ok (.iconst 0, 1) := by decide +kernel
theorem dX6_tries_2 : decode cX6_tries 2 = .ok (.putfield 69, 3) := by decide +kernel
theorem dX6_tries_5 : decode cX6_tries 5 = .ok (.aload_n 0, 1) := by decide +kernel
theorem dX6_tries_6 : decode cX6_tries 6 = .ok (.getfield 139, 3) := by decide +kernel
theorem dX6_tries_9 : decode cX6_tries 9 = .ok (.ireturn, 1) := by decide +kernel
theorem dX6_period_0 : decode cX6_period 0 = .ok (.aload_n 0, 1) := by decide +kernel
theorem dX6_period_1 : decode cX6_period 1 = .ok (.aload_n 0, 1) := by decide +kernel
theorem dX6_period_2 : decode cX6_period 2 = .ok (.iload_n 1, 1) := by decide +kernel
theorem dX6_period_3 : decode cX6_period 3 = .ok (.iload_n 2, 1) := by decide +kernel
theorem dX6_period_4 : decode cX6_period 4 = .ok (.invokevirtual 119, 3) := by decide +kernel
theorem dX6_period_7 : decode cX6_period 7 = .ok (.ifCond .ne 7, 3) := by decide +kernel
theorem dX6_period_10 : decode cX6_period 10 = .ok (.iconst 1, 1) := by decide +kernel
theorem dX6_period_11 : decode cX6_period 11 = .ok (.goto 4, 3) := by decide +kernel
theorem dX6_period_14 : decode cX6_period 14 = .ok (.iconst 0, 1) := by decide +kernel
theorem dX6_period_15 : decode cX6_period 15 = .ok (.iconst 0, 1) := by decide +kernel
theorem dX6_period_16 : decode cX6_period 16 = .ok (.invokevirtual 90, 3) := by decide +kernel
theorem dX6_period_19 : decode cX6_period 19 = .ok (.ifCond .eq 5, 3) := by decide +kernel
theorem dX6_period_22 : decode cX6_period 22 = .ok (.iconst 0, 1) := by decide +kernel
theorem dX6_period_23 : decode cX6_period 23 = .ok (.ireturn, 1) := by decide +kernel
theorem dX6_period_24 : decode cX6_period 24 = .ok (.aload_n 0, 1) := by decide +kernel
theorem dX6_period_25 : decode cX6_period 25 = .ok (.getfield 34, 3) := by decide +kernel
theorem dX6_period_28 : decode cX6_period 28 = .ok (.iconst 4, 1) := by decide +kernel
theorem dX6_period_29 : decode cX6_period 29 = .ok (.iload_n 1, 1) := by decide +kernel
theorem dX6_period_30 : decode cX6_period 30 = .ok (.imul, 1) := by decide +kernel
theorem dX6_period_31 : decode cX6_period 31 = .ok (.iload_n 2, 1) := by decide +kernel
theorem dX6_period_32 : decode cX6_period 32 = .ok (.iadd, 1) := by decide +kernel
theorem dX6_period_33 : decode cX6_period 33 = .ok (.iaload, 1) := by decide +kernel
theorem dX6_period_34 : decode cX6_period 34 = .ok (.ireturn, 1) := by decide +kernel
theorem dX6_roomOf_0 : decode cX6_roomOf 0 = .ok (.aload_n 0, 1) := by decide +kernel
theorem dX6_roomOf_1 : decode cX6_roomOf 1 = .ok (.aload_n 0, 1) := by decide +kernel
theorem dX6_roomOf_2 : decode cX6_roomOf 2 = .ok (.iload_n 1, 1) := by decide +kernel
theorem dX6_roomOf_3 : decode cX6_roomOf 3 = .ok (.iload_n 2, 1) := by decide +kernel
theorem dX6_roomOf_4 : decode cX6_roomOf 4 = .ok (.invokevirtual 119, 3) := by decide +kernel
theorem dX6_roomOf_7 : decode cX6_roomOf 7 = .ok (.ifCond .ne 7, 3) := by decide +kernel
theorem dX6_roomOf_10 : decode cX6_roomOf 10 = .ok (.iconst 1, 1) := by decide +kernel
theorem dX6_roomOf_11 : decode cX6_roomOf 11 = .ok (.goto 4, 3) := by decide +kernel
theorem dX6_roomOf_14 : decode cX6_roomOf 14 = .ok (.iconst 0, 1) := by decide +kernel
theorem dX6_roomOf_15 : decode cX6_roomOf 15 = .ok (.iconst 0, 1) := by decide +kernel
theorem dX6_roomOf_16 : decode cX6_roomOf 16 = .ok (.invokevirtual 90, 3) := by decide +kernel
theorem dX6_roomOf_19 : decode cX6_roomOf 19 = .ok (.ifCond .eq 5, 3) := by decide +kernel
theorem dX6_roomOf_22 : decode cX6_roomOf 22 = .ok (.iconst 0, 1) := by decide +kernel
theorem dX6_roomOf_23 : decode cX6_roomOf 23 = .ok (.ireturn, 1) := by decide +kernel
theorem dX6_roomOf_24 : decode cX6_roomOf 24 = .ok (.aload_n 0, 1) := by decide +kernel
theorem dX6_roomOf_25 : decode cX6_roomOf 25 = .ok (.getfield 37, 3) := by decide +kernel
theorem dX6_roomOf_28 : decode cX6_roomOf 28 = .ok (.iconst 4, 1) := by decide +kernel
theorem dX6_roomOf_29 : decode cX6_roomOf 29 = .ok (.iload_n 1, 1) := by decide +kernel
theorem dX6_roomOf_30 : decode cX6_roomOf 30 = .ok (.imul, 1) := by decide +kernel
theorem dX6_roomOf_31 : decode cX6_roomOf 31 = .ok (.iload_n 2, 1) := by decide +kernel
theorem dX6_roomOf_32 : decode cX6_roomOf 32 = .ok (.iadd, 1) := by decide +kernel
theorem dX6_roomOf_33 : decode cX6_roomOf 33 = .ok (.iaload, 1) := by decide +kernel
theorem dX6_roomOf_34 : decode cX6_roomOf 34 = .ok (.ireturn, 1) := by decide +kernel
theorem dX6_gaps_0 : decode cX6_gaps 0 = .ok (.iconst (-1), 1) := by decide +kernel
theorem dX6_gaps_1 : decode cX6_gaps 1 = .ok (.istore 4, 2) := by decide +kernel
theorem dX6_gaps_3 : decode cX6_gaps 3 = .ok (.iconst (-1), 1) := by decide +kernel
theorem dX6_gaps_4 : decode cX6_gaps 4 = .ok (.istore 5, 2) := by decide +kernel
theorem dX6_gaps_6 : decode cX6_gaps 6 = .ok (.iconst 0, 1) := by decide +kernel
theorem dX6_gaps_7 : decode cX6_gaps 7 = .ok (.istore 6, 2) := by decide +kernel
theorem dX6_gaps_9 : decode cX6_gaps 9 = .ok (.iload_n 3, 1) := by decide +kernel
theorem dX6_gaps_10 : decode cX6_gaps 10 = .ok (.aload_n 0, 1) := by decide +kernel
theorem dX6_gaps_11 : decode cX6_gaps 11 = .ok (.getfield 66, 3) := by decide +kernel
theorem dX6_gaps_14 : decode cX6_gaps 14 = .ok (.imul, 1) := by decide +kernel
theorem dX6_gaps_15 : decode cX6_gaps 15 = .ok (.istore 7, 2) := by decide +kernel
theorem dX6_gaps_17 : decode cX6_gaps 17 = .ok (.iload 7, 2) := by decide +kernel
theorem dX6_gaps_19 : decode cX6_gaps 19 = .ok (.iload_n 3, 1) := by decide +kernel
theorem dX6_gaps_20 : decode cX6_gaps 20 = .ok (.iconst 1, 1) := by decide +kernel
theorem dX6_gaps_21 : decode cX6_gaps 21 = .ok (.iadd, 1) := by decide +kernel
theorem dX6_gaps_22 : decode cX6_gaps 22 = .ok (.aload_n 0, 1) := by decide +kernel
theorem dX6_gaps_23 : decode cX6_gaps 23 = .ok (.getfield 66, 3) := by decide +kernel
theorem dX6_gaps_26 : decode cX6_gaps 26 = .ok (.imul, 1) := by decide +kernel
theorem dX6_gaps_27 : decode cX6_gaps 27 = .ok (.if_icmp .ge 41, 3) := by decide +kernel
theorem dX6_gaps_30 : decode cX6_gaps 30 = .ok (.aload_n 0, 1) := by decide +kernel
theorem dX6_gaps_31 : decode cX6_gaps 31 = .ok (.iload_n 1, 1) := by decide +kernel
theorem dX6_gaps_32 : decode cX6_gaps 32 = .ok (.iload_n 2, 1) := by decide +kernel
theorem dX6_gaps_33 : decode cX6_gaps 33 = .ok (.iload 7, 2) := by decide +kernel
theorem dX6_gaps_35 : decode cX6_gaps 35 = .ok (.invokevirtual 98, 3) := by decide +kernel
theorem dX6_gaps_38 : decode cX6_gaps 38 = .ok (.ifCond .lt 24, 3) := by decide +kernel
theorem dX6_gaps_41 : decode cX6_gaps 41 = .ok (.iload 4, 2) := by decide +kernel
theorem dX6_gaps_43 : decode cX6_gaps 43 = .ok (.ifCond .ge 8, 3) := by decide +kernel
theorem dX6_gaps_46 : decode cX6_gaps 46 = .ok (.iload 7, 2) := by decide +kernel
theorem dX6_gaps_48 : decode cX6_gaps 48 = .ok (.goto 5, 3) := by decide +kernel
theorem dX6_gaps_51 : decode cX6_gaps 51 = .ok (.iload 4, 2) := by decide +kernel
theorem dX6_gaps_53 : decode cX6_gaps 53 = .ok (.istore 4, 2) := by decide +kernel
theorem dX6_gaps_55 : decode cX6_gaps 55 = .ok (.iload 7, 2) := by decide +kernel
theorem dX6_gaps_57 : decode cX6_gaps 57 = .ok (.istore 5, 2) := by decide +kernel
theorem dX6_gaps_59 : decode cX6_gaps 59 = .ok (.iinc 6 1, 3) := by decide +kernel
theorem dX6_gaps_62 : decode cX6_gaps 62 = .ok (.iinc 7 1, 3) := by decide +kernel
theorem dX6_gaps_65 : decode cX6_gaps 65 = .ok (.goto (-48), 3) := by decide +kernel
theorem dX6_gaps_68 : decode cX6_gaps 68 = .ok (.iload 6, 2) := by decide +kernel
theorem dX6_gaps_70 : decode cX6_gaps 70 = .ok (.ifCond .ne 7, 3) := by decide +kernel
theorem dX6_gaps_73 : decode cX6_gaps 73 = .ok (.iconst 0, 1) := by decide +kernel
theorem dX6_gaps_74 : decode cX6_gaps 74 = .ok (.goto 13, 3) := by decide +kernel
theorem dX6_gaps_77 : decode cX6_gaps 77 = .ok (.iload 5, 2) := by decide +kernel
theorem dX6_gaps_79 : decode cX6_gaps 79 = .ok (.iload 4, 2) := by decide +kernel
theorem dX6_gaps_81 : decode cX6_gaps 81 = .ok (.isub, 1) := by decide +kernel
theorem dX6_gaps_82 : decode cX6_gaps 82 = .ok (.iconst 1, 1) := by decide +kernel
theorem dX6_gaps_83 : decode cX6_gaps 83 = .ok (.iadd, 1) := by decide +kernel
theorem dX6_gaps_84 : decode cX6_gaps 84 = .ok (.iload 6, 2) := by decide +kernel
theorem dX6_gaps_86 : decode cX6_gaps 86 = .ok (.isub, 1) := by decide +kernel
theorem dX6_gaps_87 : decode cX6_gaps 87 = .ok (.ireturn, 1) := by decide +kernel
theorem dX6_penaltyNow_0 : decode cX6_penaltyNow 0 = .ok (.iconst 0, 1) := by decide +kernel
theorem dX6_penaltyNow_1 : decode cX6_penaltyNow 1 = .ok (.istore_n 1, 1) := by decide +kernel
theorem dX6_penaltyNow_2 : decode cX6_penaltyNow 2 = .ok (.iconst 0, 1) := by decide +kernel
theorem dX6_penaltyNow_3 : decode cX6_penaltyNow 3 = .ok (.istore_n 2, 1) := by decide +kernel
theorem dX6_penaltyNow_4 : decode cX6_penaltyNow 4 = .ok (.iload_n 2, 1) := by decide +kernel
theorem dX6_penaltyNow_5 : decode cX6_penaltyNow 5 = .ok (.bipush 8, 2) := by decide +kernel
theorem dX6_penaltyNow_7 : decode cX6_penaltyNow 7 = .ok (.if_icmp .ge 45, 3) := by decide +kernel
theorem dX6_penaltyNow_10 : decode cX6_penaltyNow 10 = .ok (.iconst 0, 1) := by decide +kernel
theorem dX6_penaltyNow_11 : decode cX6_penaltyNow 11 = .ok (.istore_n 3, 1) := by decide +kernel
theorem dX6_penaltyNow_12 : decode cX6_penaltyNow 12 = .ok (.iload_n 3, 1) := by decide +kernel
theorem dX6_penaltyNow_13 : decode cX6_penaltyNow 13 = .ok (.aload_n 0, 1) := by decide +kernel
theorem dX6_penaltyNow_14 : decode cX6_penaltyNow 14 = .ok (.getfield 62, 3) := by decide +kernel
theorem dX6_penaltyNow_17 : decode cX6_penaltyNow 17 = .ok (.if_icmp .ge 29, 3) := by decide +kernel
theorem dX6_penaltyNow_20 : decode cX6_penaltyNow 20 = .ok (.iload_n 1, 1) := by decide +kernel
theorem dX6_penaltyNow_21 : decode cX6_penaltyNow 21 = .ok (.iconst 2, 1) := by decide +kernel
theorem dX6_penaltyNow_22 : decode cX6_penaltyNow 22 = .ok (.aload_n 0, 1) := by decide +kernel
theorem dX6_penaltyNow_23 : decode cX6_penaltyNow 23 = .ok (.iconst 0, 1) := by decide +kernel
theorem dX6_penaltyNow_24 : decode cX6_penaltyNow 24 = .ok (.iload_n 2, 1) := by decide +kernel
theorem dX6_penaltyNow_25 : decode cX6_penaltyNow 25 = .ok (.iload_n 3, 1) := by decide +kernel
theorem dX6_penaltyNow_26 : decode cX6_penaltyNow 26 = .ok (.invokevirtual 145, 3) := by decide +kernel
theorem dX6_penaltyNow_29 : decode cX6_penaltyNow 29 = .ok (.imul, 1) := by decide +kernel
theorem dX6_penaltyNow_30 : decode cX6_penaltyNow 30 = .ok (.aload_n 0, 1) := by decide +kernel
theorem dX6_penaltyNow_31 : decode cX6_penaltyNow 31 = .ok (.iconst 1, 1) := by decide +kernel
theorem dX6_penaltyNow_32 : decode cX6_penaltyNow 32 = .ok (.iload_n 2, 1) := by decide +kernel
theorem dX6_penaltyNow_33 : decode cX6_penaltyNow 33 = .ok (.iload_n 3, 1) := by decide +kernel
theorem dX6_penaltyNow_34 : decode cX6_penaltyNow 34 = .ok (.invokevirtual 145, 3) := by decide +kernel
theorem dX6_penaltyNow_37 : decode cX6_penaltyNow 37 = .ok (.iadd, 1) := by decide +kernel
theorem dX6_penaltyNow_38 : decode cX6_penaltyNow 38 = .ok (.iadd, 1) := by decide +kernel
theorem dX6_penaltyNow_39 : decode cX6_penaltyNow 39 = .ok (.istore_n 1, 1) := by decide +kernel
theorem dX6_penaltyNow_40 : decode cX6_penaltyNow 40 = .ok (.iinc 3 1, 3) := by decide +kernel
theorem dX6_penaltyNow_43 : decode cX6_penaltyNow 43 = .ok (.goto (-31), 3) := by decide +kernel
theorem dX6_penaltyNow_46 : decode cX6_penaltyNow 46 = .ok (.iinc 2 1, 3) := by decide +kernel
theorem dX6_penaltyNow_49 : decode cX6_penaltyNow 49 = .ok (.goto (-45), 3) := by decide +kernel
theorem dX6_penaltyNow_52 : decode cX6_penaltyNow 52 = .ok (.iconst 0, 1) := by decide +kernel
theorem dX6_penaltyNow_53 : decode cX6_penaltyNow 53 = .ok (.istore_n 2, 1) := by decide +kernel
theorem dX6_penaltyNow_54 : decode cX6_penaltyNow 54 = .ok (.iload_n 2, 1) := by decide +kernel
theorem dX6_penaltyNow_55 : decode cX6_penaltyNow 55 = .ok (.bipush 64, 2) := by decide +kernel
theorem dX6_penaltyNow_57 : decode cX6_penaltyNow 57 = .ok (.if_icmp .ge 60, 3) := by decide +kernel
theorem dX6_penaltyNow_60 : decode cX6_penaltyNow 60 = .ok (.aload_n 0, 1) := by decide +kernel
theorem dX6_penaltyNow_61 : decode cX6_penaltyNow 61 = .ok (.getfield 34, 3) := by decide +kernel
theorem dX6_penaltyNow_64 : decode cX6_penaltyNow 64 = .ok (.iload_n 2, 1) := by decide +kernel
theorem dX6_penaltyNow_65 : decode cX6_penaltyNow 65 = .ok (.iaload, 1) := by decide +kernel
theorem dX6_penaltyNow_66 : decode cX6_penaltyNow 66 = .ok (.ifCond .lt 31, 3) := by decide +kernel
theorem dX6_penaltyNow_69 : decode cX6_penaltyNow 69 = .ok (.aload_n 0, 1) := by decide +kernel
theorem dX6_penaltyNow_70 : decode cX6_penaltyNow 70 = .ok (.getfield 34, 3) := by decide +kernel
theorem dX6_penaltyNow_73 : decode cX6_penaltyNow 73 = .ok (.iload_n 2, 1) := by decide +kernel
theorem dX6_penaltyNow_74 : decode cX6_penaltyNow 74 = .ok (.iaload, 1) := by decide +kernel
theorem dX6_penaltyNow_75 : decode cX6_penaltyNow 75 = .ok (.aload_n 0, 1) := by decide +kernel
theorem dX6_penaltyNow_76 : decode cX6_penaltyNow 76 = .ok (.getfield 25, 3) := by decide +kernel
theorem dX6_penaltyNow_79 : decode cX6_penaltyNow 79 = .ok (.iload_n 2, 1) := by decide +kernel
theorem dX6_penaltyNow_80 : decode cX6_penaltyNow 80 = .ok (.invokestatic 79, 3) := by decide +kernel
theorem dX6_penaltyNow_83 : decode cX6_penaltyNow 83 = .ok (.iaload, 1) := by decide +kernel
theorem dX6_penaltyNow_84 : decode cX6_penaltyNow 84 = .ok (.iadd, 1) := by decide +kernel
theorem dX6_penaltyNow_85 : decode cX6_penaltyNow 85 = .ok (.aload_n 0, 1) := by decide +kernel
theorem dX6_penaltyNow_86 : decode cX6_penaltyNow 86 = .ok (.getfield 66, 3) := by decide +kernel
theorem dX6_penaltyNow_89 : decode cX6_penaltyNow 89 = .ok (.irem, 1) := by decide +kernel
theorem dX6_penaltyNow_90 : decode cX6_penaltyNow 90 = .ok (.ifCond .ne 7, 3) := by decide +kernel
theorem dX6_penaltyNow_93 : decode cX6_penaltyNow 93 = .ok (.iconst 1, 1) := by decide +kernel
theorem dX6_penaltyNow_94 : decode cX6_penaltyNow 94 = .ok (.goto 4, 3) := by decide +kernel
theorem dX6_penaltyNow_97 : decode cX6_penaltyNow 97 = .ok (.iconst 0, 1) := by decide +kernel
theorem dX6_penaltyNow_98 : decode cX6_penaltyNow 98 = .ok (.istore_n 3, 1) := by decide +kernel
theorem dX6_penaltyNow_99 : decode cX6_penaltyNow 99 = .ok (.iload_n 1, 1) := by decide +kernel
theorem dX6_penaltyNow_100 : decode cX6_penaltyNow 100 = .ok (.iload_n 3, 1) := by decide +kernel
theorem dX6_penaltyNow_101 : decode cX6_penaltyNow 101 = .ok (.ifCond .eq 7, 3) := by decide +kernel
theorem dX6_penaltyNow_104 : decode cX6_penaltyNow 104 = .ok (.iconst 3, 1) := by decide +kernel
theorem dX6_penaltyNow_105 : decode cX6_penaltyNow 105 = .ok (.goto 4, 3) := by decide +kernel
theorem dX6_penaltyNow_108 : decode cX6_penaltyNow 108 = .ok (.iconst 0, 1) := by decide +kernel
theorem dX6_penaltyNow_109 : decode cX6_penaltyNow 109 = .ok (.iadd, 1) := by decide +kernel
theorem dX6_penaltyNow_110 : decode cX6_penaltyNow 110 = .ok (.istore_n 1, 1) := by decide +kernel
theorem dX6_penaltyNow_111 : decode cX6_penaltyNow 111 = .ok (.iinc 2 1, 3) := by decide +kernel
theorem dX6_penaltyNow_114 : decode cX6_penaltyNow 114 = .ok (.goto (-60), 3) := by decide +kernel
theorem dX6_penaltyNow_117 : decode cX6_penaltyNow 117 = .ok (.iload_n 1, 1) := by decide +kernel
theorem dX6_penaltyNow_118 : decode cX6_penaltyNow 118 = .ok (.ireturn, 1) := by decide +kernel
theorem dX6_penalty_0 : decode cX6_penalty 0 = .ok (.aload_n 0, 1) := by decide +kernel
theorem dX6_penalty_1 : decode cX6_penalty 1 = .ok (.iconst 0, 1) := by decide +kernel
theorem dX6_penalty_2 : decode cX6_penalty 2 = .ok (.putfield 69, 3) := by decide +kernel
theorem dX6_penalty_5 : decode cX6_penalty 5 = .ok (.aload_n 0, 1) := by decide +kernel
theorem dX6_penalty_6 : decode cX6_penalty 6 = .ok (.invokevirtual 148, 3) := by decide +kernel
theorem dX6_penalty_9 : decode cX6_penalty 9 = .ok (.ireturn, 1) := by decide +kernel
theorem dX6_move_0 : decode cX6_move 0 = .ok (.aload_n 0, 1) := by decide +kernel
theorem dX6_move_1 : decode cX6_move 1 = .ok (.getfield 34, 3) := by decide +kernel
theorem dX6_move_4 : decode cX6_move 4 = .ok (.iload_n 1, 1) := by decide +kernel
theorem dX6_move_5 : decode cX6_move 5 = .ok (.iaload, 1) := by decide +kernel
theorem dX6_move_6 : decode cX6_move 6 = .ok (.istore_n 2, 1) := by decide +kernel
theorem dX6_move_7 : decode cX6_move 7 = .ok (.aload_n 0, 1) := by decide +kernel
theorem dX6_move_8 : decode cX6_move 8 = .ok (.getfield 37, 3) := by decide +kernel
theorem dX6_move_11 : decode cX6_move 11 = .ok (.iload_n 1, 1) := by decide +kernel
theorem dX6_move_12 : decode cX6_move 12 = .ok (.iaload, 1) := by decide +kernel
theorem dX6_move_13 : decode cX6_move 13 = .ok (.istore_n 3, 1) := by decide +kernel
theorem dX6_move_14 : decode cX6_move 14 = .ok (.aload_n 0, 1) := by decide +kernel
theorem dX6_move_15 : decode cX6_move 15 = .ok (.invokevirtual 148, 3) := by decide +kernel
theorem dX6_move_18 : decode cX6_move 18 = .ok (.istore 4, 2) := by decide +kernel
theorem dX6_move_20 : decode cX6_move 20 = .ok (.iconst (-1), 1) := by decide +kernel
theorem dX6_move_21 : decode cX6_move 21 = .ok (.istore 5, 2) := by decide +kernel
theorem dX6_move_23 : decode cX6_move 23 = .ok (.aload_n 0, 1) := by decide +kernel
theorem dX6_move_24 : decode cX6_move 24 = .ok (.iload_n 1, 1) := by decide +kernel
theorem dX6_move_25 : decode cX6_move 25 = .ok (.invokevirtual 135, 3) := by decide +kernel
theorem dX6_move_28 : decode cX6_move 28 = .ok (.iconst 0, 1) := by decide +kernel
theorem dX6_move_29 : decode cX6_move 29 = .ok (.istore 6, 2) := by decide +kernel
theorem dX6_move_31 : decode cX6_move 31 = .ok (.iload 6, 2) := by decide +kernel
theorem dX6_move_33 : decode cX6_move 33 = .ok (.aload_n 0, 1) := by decide +kernel
theorem dX6_move_34 : decode cX6_move 34 = .ok (.getfield 62, 3) := by decide +kernel
theorem dX6_move_37 : decode cX6_move 37 = .ok (.aload_n 0, 1) := by decide +kernel
theorem dX6_move_38 : decode cX6_move 38 = .ok (.getfield 66, 3) := by decide +kernel
theorem dX6_move_41 : decode cX6_move 41 = .ok (.imul, 1) := by decide +kernel
theorem dX6_move_42 : decode cX6_move 42 = .ok (.if_icmp .ge 69, 3) := by decide +kernel
theorem dX6_move_45 : decode cX6_move 45 = .ok (.aload_n 0, 1) := by decide +kernel
theorem dX6_move_46 : decode cX6_move 46 = .ok (.iload_n 1, 1) := by decide +kernel
theorem dX6_move_47 : decode cX6_move 47 = .ok (.iload 6, 2) := by decide +kernel
theorem dX6_move_49 : decode cX6_move 49 = .ok (.invokevirtual 122, 3) := by decide +kernel
theorem dX6_move_52 : decode cX6_move 52 = .ok (.ifCond .ne 53, 3) := by decide +kernel
theorem dX6_move_55 : decode cX6_move 55 = .ok (.aload_n 0, 1) := by decide +kernel
theorem dX6_move_56 : decode cX6_move 56 = .ok (.iload_n 1, 1) := by decide +kernel
theorem dX6_move_57 : decode cX6_move 57 = .ok (.iload 6, 2) := by decide +kernel
theorem dX6_move_59 : decode cX6_move 59 = .ok (.invokevirtual 128, 3) := by decide +kernel
theorem dX6_move_62 : decode cX6_move 62 = .ok (.aload_n 0, 1) := by decide +kernel
theorem dX6_move_63 : decode cX6_move 63 = .ok (.invokevirtual 148, 3) := by decide +kernel
theorem dX6_move_66 : decode cX6_move 66 = .ok (.istore 7, 2) := by decide +kernel
theorem dX6_move_68 : decode cX6_move 68 = .ok (.iload 7, 2) := by decide +kernel
theorem dX6_move_70 : decode cX6_move 70 = .ok (.iload 4, 2) := by decide +kernel
theorem dX6_move_72 : decode cX6_move 72 = .ok (.if_icmp .ge 8, 3) := by decide +kernel
theorem dX6_move_75 : decode cX6_move 75 = .ok (.iload 6, 2) := by decide +kernel
theorem dX6_move_77 : decode cX6_move 77 = .ok (.goto 5, 3) := by decide +kernel
theorem dX6_move_80 : decode cX6_move 80 = .ok (.iload 5, 2) := by decide +kernel
theorem dX6_move_82 : decode cX6_move 82 = .ok (.istore 5, 2) := by decide +kernel
theorem dX6_move_84 : decode cX6_move 84 = .ok (.iload 7, 2) := by decide +kernel
theorem dX6_move_86 : decode cX6_move 86 = .ok (.iload 4, 2) := by decide +kernel
theorem dX6_move_88 : decode cX6_move 88 = .ok (.if_icmp .ge 8, 3) := by decide +kernel
theorem dX6_move_91 : decode cX6_move 91 = .ok (.iload 7, 2) := by decide +kernel
theorem dX6_move_93 : decode cX6_move 93 = .ok (.goto 5, 3) := by decide +kernel
theorem dX6_move_96 : decode cX6_move 96 = .ok (.iload 4, 2) := by decide +kernel
theorem dX6_move_98 : decode cX6_move 98 = .ok (.istore 4, 2) := by decide +kernel
theorem dX6_move_100 : decode cX6_move 100 = .ok (.aload_n 0, 1) := by decide +kernel
theorem dX6_move_101 : decode cX6_move 101 = .ok (.iload_n 1, 1) := by decide +kernel
theorem dX6_move_102 : decode cX6_move 102 = .ok (.invokevirtual 135, 3) := by decide +kernel
theorem dX6_move_105 : decode cX6_move 105 = .ok (.iinc 6 1, 3) := by decide +kernel
theorem dX6_move_108 : decode cX6_move 108 = .ok (.goto (-77), 3) := by decide +kernel
theorem dX6_move_111 : decode cX6_move 111 = .ok (.iload 5, 2) := by decide +kernel
theorem dX6_move_113 : decode cX6_move 113 = .ok (.ifCond .lt 12, 3) := by decide +kernel
theorem dX6_move_116 : decode cX6_move 116 = .ok (.aload_n 0, 1) := by decide +kernel
theorem dX6_move_117 : decode cX6_move 117 = .ok (.iload_n 1, 1) := by decide +kernel
theorem dX6_move_118 : decode cX6_move 118 = .ok (.iload 5, 2) := by decide +kernel
theorem dX6_move_120 : decode cX6_move 120 = .ok (.invokevirtual 128, 3) := by decide +kernel
theorem dX6_move_123 : decode cX6_move 123 = .ok (.iconst 1, 1) := by decide +kernel
theorem dX6_move_124 : decode cX6_move 124 = .ok (.ireturn, 1) := by decide +kernel
theorem dX6_move_125 : decode cX6_move 125 = .ok (.aload_n 0, 1) := by decide +kernel
theorem dX6_move_126 : decode cX6_move 126 = .ok (.getfield 34, 3) := by decide +kernel
theorem dX6_move_129 : decode cX6_move 129 = .ok (.iload_n 1, 1) := by decide +kernel
theorem dX6_move_130 : decode cX6_move 130 = .ok (.iload_n 2, 1) := by decide +kernel
theorem dX6_move_131 : decode cX6_move 131 = .ok (.iastore, 1) := by decide +kernel
theorem dX6_move_132 : decode cX6_move 132 = .ok (.aload_n 0, 1) := by decide +kernel
theorem dX6_move_133 : decode cX6_move 133 = .ok (.getfield 37, 3) := by decide +kernel
theorem dX6_move_136 : decode cX6_move 136 = .ok (.iload_n 1, 1) := by decide +kernel
theorem dX6_move_137 : decode cX6_move 137 = .ok (.iload_n 3, 1) := by decide +kernel
theorem dX6_move_138 : decode cX6_move 138 = .ok (.iastore, 1) := by decide +kernel
theorem dX6_move_139 : decode cX6_move 139 = .ok (.iconst 0, 1) := by decide +kernel
theorem dX6_move_140 : decode cX6_move 140 = .ok (.ireturn, 1) := by decide +kernel
theorem dX6_improve_0 : decode cX6_improve 0 = .ok (.aload_n 0, 1) := by decide +kernel
theorem dX6_improve_1 : decode cX6_improve 1 = .ok (.iload_n 1, 1) := by decide +kernel
theorem dX6_improve_2 : decode cX6_improve 2 = .ok (.iconst 1, 1) := by decide +kernel
theorem dX6_improve_3 : decode cX6_improve 3 = .ok (.bipush 10, 2) := by decide +kernel
theorem dX6_improve_5 : decode cX6_improve 5 = .ok (.invokestatic 72, 3) := by decide +kernel
