theorem dLW_size_0 : decode cLW_size 0 = .ok (.aload_n 2, 1) := by decide +kernel
theorem dLW_size_1 : decode cLW_size 1 = .ok (.iconst 0, 1) := by decide +kernel
theorem dLW_size_2 : decode cLW_size 2 = .ok (.aload_n 0, 1) := by decide +kernel
theorem dLW_size_3 : decode cLW_size 3 = .ok (.iload_n 1, 1) := by decide +kernel
theorem dLW_size_4 : decode cLW_size 4 = .ok (.invokevirtual 7, 3) := by decide +kernel
theorem dLW_size_7 : decode cLW_size 7 = .ok (.i2l, 1) := by decide +kernel
theorem dLW_size_8 : decode cLW_size 8 = .ok (.lastore, 1) := by decide +kernel
theorem dLW_size_9 : decode cLW_size 9 = .ok (.goto 6, 3) := by decide +kernel
theorem dLW_size_12 : decode cLW_size 12 = .ok (.astore_n 3, 1) := by decide +kernel
theorem dLW_size_13 : decode cLW_size 13 = .ok (.iconst 1, 1) := by decide +kernel
theorem dLW_size_14 : decode cLW_size 14 = .ok (.ireturn, 1) := by decide +kernel
theorem dLW_size_15 : decode cLW_size 15 = .ok (.iconst 0, 1) := by decide +kernel
theorem dLW_size_16 : decode cLW_size 16 = .ok (.ireturn, 1) := by decide +kernel
theorem dLW_unrank_0 : decode cLW_unrank 0 = .ok (.aload_n 0, 1) := by decide +kernel
theorem dLW_unrank_1 : decode cLW_unrank 1 = .ok (.iload_n 1, 1) := by decide +kernel
theorem dLW_unrank_2 : decode cLW_unrank 2 = .ok (.invokevirtual 15, 3) := by decide +kernel
theorem dLW_unrank_5 : decode cLW_unrank 5 = .ok (.goto 6, 3) := by decide +kernel
theorem dLW_unrank_8 : decode cLW_unrank 8 = .ok (.astore_n 2, 1) := by decide +kernel
theorem dLW_unrank_9 : decode cLW_unrank 9 = .ok (.iconst 1, 1) := by decide +kernel
theorem dLW_unrank_10 : decode cLW_unrank 10 = .ok (.ireturn, 1) := by decide +kernel
theorem dLW_unrank_11 : decode cLW_unrank 11 = .ok (.iconst 0, 1) := by decide +kernel
theorem dLW_unrank_12 : decode cLW_unrank 12 = .ok (.ireturn, 1) := by decide +kernel
theorem dLW_rows_0 : decode cLW_rows 0 = .ok (.aload_n 3, 1) := by decide +kernel
theorem dLW_rows_1 : decode cLW_rows 1 = .ok (.iconst 0, 1) := by decide +kernel
theorem dLW_rows_2 : decode cLW_rows 2 = .ok (.aload_n 0, 1) := by decide +kernel
theorem dLW_rows_3 : decode cLW_rows 3 = .ok (.iload_n 1, 1) := by decide +kernel
theorem dLW_rows_4 : decode cLW_rows 4 = .ok (.iload_n 2, 1) := by decide +kernel
theorem dLW_rows_5 : decode cLW_rows 5 = .ok (.invokevirtual 19, 3) := by decide +kernel
theorem dLW_rows_8 : decode cLW_rows 8 = .ok (.i2l, 1) := by decide +kernel
theorem dLW_rows_9 : decode cLW_rows 9 = .ok (.lastore, 1) := by decide +kernel
theorem dLW_rows_10 : decode cLW_rows 10 = .ok (.goto 7, 3) := by decide +kernel
theorem dLW_rows_13 : decode cLW_rows 13 = .ok (.astore 4, 2) := by decide +kernel
theorem dLW_rows_15 : decode cLW_rows 15 = .ok (.iconst 1, 1) := by decide +kernel
theorem dLW_rows_16 : decode cLW_rows 16 = .ok (.ireturn, 1) := by decide +kernel
theorem dLW_rows_17 : decode cLW_rows 17 = .ok (.iconst 0, 1) := by decide +kernel
theorem dLW_rows_18 : decode cLW_rows 18 = .ok (.ireturn, 1) := by decide +kernel
theorem dLW_put_0 : decode cLW_put 0 = .ok (.aload_n 0, 1) := by decide +kernel
theorem dLW_put_1 : decode cLW_put 1 = .ok (.iload_n 1, 1) := by decide +kernel
theorem dLW_put_2 : decode cLW_put 2 = .ok (.iload_n 2, 1) := by decide +kernel
theorem dLW_put_3 : decode cLW_put 3 = .ok (.invokevirtual 23, 3) := by decide +kernel
theorem dLW_put_6 : decode cLW_put 6 = .ok (.goto 6, 3) := by decide +kernel
theorem dLW_put_9 : decode cLW_put 9 = .ok (.astore_n 3, 1) := by decide +kernel
theorem dLW_put_10 : decode cLW_put 10 = .ok (.iconst 1, 1) := by decide +kernel
theorem dLW_put_11 : decode cLW_put 11 = .ok (.ireturn, 1) := by decide +kernel
theorem dLW_put_12 : decode cLW_put 12 = .ok (.iconst 0, 1) := by decide +kernel
theorem dLW_put_13 : decode cLW_put 13 = .ok (.ireturn, 1) := by decide +kernel
theorem dLW_note_0 : decode cLW_note 0 = .ok (.aload_n 2, 1) := by decide +kernel
theorem dLW_note_1 : decode cLW_note 1 = .ok (.iconst 0, 1) := by decide +kernel
theorem dLW_note_2 : decode cLW_note 2 = .ok (.aload_n 0, 1) := by decide +kernel
theorem dLW_note_3 : decode cLW_note 3 = .ok (.iload_n 1, 1) := by decide +kernel
theorem dLW_note_4 : decode cLW_note 4 = .ok (.invokevirtual 29, 3) := by decide +kernel
theorem dLW_note_7 : decode cLW_note 7 = .ok (.i2l, 1) := by decide +kernel
theorem dLW_note_8 : decode cLW_note 8 = .ok (.lastore, 1) := by decide +kernel
theorem dLW_note_9 : decode cLW_note 9 = .ok (.goto 6, 3) := by decide +kernel
theorem dLW_note_12 : decode cLW_note 12 = .ok (.astore_n 3, 1) := by decide +kernel
theorem dLW_note_13 : decode cLW_note 13 = .ok (.iconst 1, 1) := by decide +kernel
theorem dLW_note_14 : decode cLW_note 14 = .ok (.ireturn, 1) := by decide +kernel
theorem dLW_note_15 : decode cLW_note 15 = .ok (.iconst 0, 1) := by decide +kernel
theorem dLW_note_16 : decode cLW_note 16 = .ok (.ireturn, 1) := by decide +kernel
theorem dLW_show_0 : decode cLW_show 0 = .ok (.aload_n 2, 1) := by decide +kernel
theorem dLW_show_1 : decode cLW_show 1 = .ok (.iconst 0, 1) := by decide +kernel
theorem dLW_show_2 : decode cLW_show 2 = .ok (.aload_n 0, 1) := by decide +kernel
theorem dLW_show_3 : decode cLW_show 3 = .ok (.iload_n 1, 1) := by decide +kernel
theorem dLW_show_4 : decode cLW_show 4 = .ok (.invokevirtual 32, 3) := by decide +kernel
theorem dLW_show_7 : decode cLW_show 7 = .ok (.i2l, 1) := by decide +kernel
theorem dLW_show_8 : decode cLW_show 8 = .ok (.lastore, 1) := by decide +kernel
theorem dLW_show_9 : decode cLW_show 9 = .ok (.goto 6, 3) := by decide +kernel
theorem dLW_show_12 : decode cLW_show 12 = .ok (.astore_n 3, 1) := by decide +kernel
theorem dLW_show_13 : decode cLW_show 13 = .ok (.iconst 1, 1) := by decide +kernel
theorem dLW_show_14 : decode cLW_show 14 = .ok (.ireturn, 1) := by decide +kernel
theorem dLW_show_15 : decode cLW_show 15 = .ok (.iconst 0, 1) := by decide +kernel
theorem dLW_show_16 : decode cLW_show 16 = .ok (.ireturn, 1) := by decide +kernel
theorem dLW_take_0 : decode cLW_take 0 = .ok (.aload_n 2, 1) := by decide +kernel
theorem dLW_take_1 : decode cLW_take 1 = .ok (.iconst 0, 1) := by decide +kernel
theorem dLW_take_2 : decode cLW_take 2 = .ok (.aload_n 0, 1) := by decide +kernel
theorem dLW_take_3 : decode cLW_take 3 = .ok (.iload_n 1, 1) := by decide +kernel
theorem dLW_take_4 : decode cLW_take 4 = .ok (.invokevirtual 35, 3) := by decide +kernel
theorem dLW_take_7 : decode cLW_take 7 = .ok (.i2l, 1) := by decide +kernel
theorem dLW_take_8 : decode cLW_take 8 = .ok (.lastore, 1) := by decide +kernel
theorem dLW_take_9 : decode cLW_take 9 = .ok (.goto 9, 3) := by decide +kernel
theorem dLW_take_12 : decode cLW_take 12 = .ok (.astore_n 3, 1) := by decide +kernel
theorem dLW_take_13 : decode cLW_take 13 = .ok (.iconst 1, 1) := by decide +kernel
theorem dLW_take_14 : decode cLW_take 14 = .ok (.ireturn, 1) := by decide +kernel
theorem dLW_take_15 : decode cLW_take 15 = .ok (.astore_n 3, 1) := by decide +kernel
theorem dLW_take_16 : decode cLW_take 16 = .ok (.iconst 2, 1) := by decide +kernel
theorem dLW_take_17 : decode cLW_take 17 = .ok (.ireturn, 1) := by decide +kernel
theorem dLW_take_18 : decode cLW_take 18 = .ok (.iconst 0, 1) := by decide +kernel
theorem dLW_take_19 : decode cLW_take 19 = .ok (.ireturn, 1) := by decide +kernel
theorem dLW_flip_0 : decode cLW_flip 0 = .ok (.aload_n 2, 1) := by decide +kernel
theorem dLW_flip_1 : decode cLW_flip 1 = .ok (.iconst 0, 1) := by decide +kernel
theorem dLW_flip_2 : decode cLW_flip 2 = .ok (.aload_n 0, 1) := by decide +kernel
theorem dLW_flip_3 : decode cLW_flip 3 = .ok (.iload_n 1, 1) := by decide +kernel
theorem dLW_flip_4 : decode cLW_flip 4 = .ok (.invokevirtual 40, 3) := by decide +kernel
theorem dLW_flip_7 : decode cLW_flip 7 = .ok (.i2l, 1) := by decide +kernel
theorem dLW_flip_8 : decode cLW_flip 8 = .ok (.lastore, 1) := by decide +kernel
theorem dLW_flip_9 : decode cLW_flip 9 = .ok (.goto 6, 3) := by decide +kernel
theorem dLW_flip_12 : decode cLW_flip 12 = .ok (.astore_n 3, 1) := by decide +kernel
theorem dLW_flip_13 : decode cLW_flip 13 = .ok (.iconst 1, 1) := by decide +kernel
theorem dLW_flip_14 : decode cLW_flip 14 = .ok (.ireturn, 1) := by decide +kernel
theorem dLW_flip_15 : decode cLW_flip 15 = .ok (.iconst 0, 1) := by decide +kernel
theorem dLW_flip_16 : decode cLW_flip 16 = .ok (.ireturn, 1) := by decide +kernel
theorem dLW_flips_0 : decode cLW_flips 0 = .ok (.aload_n 2, 1) := by decide +kernel
theorem dLW_flips_1 : decode cLW_flips 1 = .ok (.iconst 0, 1) := by decide +kernel
theorem dLW_flips_2 : decode cLW_flips 2 = .ok (.aload_n 0, 1) := by decide +kernel
theorem dLW_flips_3 : decode cLW_flips 3 = .ok (.iload_n 1, 1) := by decide +kernel
theorem dLW_flips_4 : decode cLW_flips 4 = .ok (.invokevirtual 43, 3) := by decide +kernel
theorem dLW_flips_7 : decode cLW_flips 7 = .ok (.i2l, 1) := by decide +kernel
theorem dLW_flips_8 : decode cLW_flips 8 = .ok (.lastore, 1) := by decide +kernel
theorem dLW_flips_9 : decode cLW_flips 9 = .ok (.goto 6, 3) := by decide +kernel
theorem dLW_flips_12 : decode cLW_flips 12 = .ok (.astore_n 3, 1) := by decide +kernel
theorem dLW_flips_13 : decode cLW_flips 13 = .ok (.iconst 1, 1) := by decide +kernel
theorem dLW_flips_14 : decode cLW_flips 14 = .ok (.ireturn, 1) := by decide +kernel
theorem dLW_flips_15 : decode cLW_flips 15 = .ok (.iconst 0, 1) := by decide +kernel
theorem dLW_flips_16 : decode cLW_flips 16 = .ok (.ireturn, 1) := by decide +kernel
theorem dLW_law_0 : decode cLW_law 0 = .ok (.new 8, 3) := by decide +kernel
theorem dLW_law_3 : decode cLW_law 3 = .ok (.dup, 1) := by decide +kernel
theorem dLW_law_4 : decode cLW_law 4 = .ok (.invokespecial 46, 3) := by decide +kernel
theorem dLW_law_7 : decode cLW_law 7 = .ok (.astore_n 1, 1) := by decide +kernel
theorem dLW_law_8 : decode cLW_law 8 = .ok (.new 47, 3) := by decide +kernel
theorem dLW_law_11 : decode cLW_law 11 = .ok (.dup, 1) := by decide +kernel
theorem dLW_law_12 : decode cLW_law 12 = .ok (.invokespecial 49, 3) := by decide +kernel
theorem dLW_law_15 : decode cLW_law 15 = .ok (.astore_n 2, 1) := by decide +kernel
theorem dLW_law_16 : decode cLW_law 16 = .ok (.iconst 1, 1) := by decide +kernel
theorem dLW_law_17 : decode cLW_law 17 = .ok (.newarray .long, 2) := by decide +kernel
theorem dLW_law_19 : decode cLW_law 19 = .ok (.astore_n 3, 1) := by decide +kernel
theorem dLW_law_20 : decode cLW_law 20 = .ok (.iconst 0, 1) := by decide +kernel
theorem dLW_law_21 : decode cLW_law 21 = .ok (.istore 4, 2) := by decide +kernel
theorem dLW_law_23 : decode cLW_law 23 = .ok (.iload 4, 2) := by decide +kernel
theorem dLW_law_25 : decode cLW_law 25 = .ok (.aload_n 0, 1) := by decide +kernel
theorem dLW_law_26 : decode cLW_law 26 = .ok (.arraylength, 1) := by decide +kernel
theorem dLW_law_27 : decode cLW_law 27 = .ok (.iconst 3, 1) := by decide +kernel
theorem dLW_law_28 : decode cLW_law 28 = .ok (.isub, 1) := by decide +kernel
theorem dLW_law_29 : decode cLW_law 29 = .ok (.if_icmp .gt 621, 3) := by decide +kernel
theorem dLW_law_32 : decode cLW_law 32 = .ok (.aload_n 0, 1) := by decide +kernel
theorem dLW_law_33 : decode cLW_law 33 = .ok (.iload 4, 2) := by decide +kernel
theorem dLW_law_35 : decode cLW_law 35 = .ok (.iaload, 1) := by decide +kernel
theorem dLW_law_36 : decode cLW_law 36 = .ok (.bipush 15, 2) := by decide +kernel
theorem dLW_law_38 : decode cLW_law 38 = .ok (.iand, 1) := by decide +kernel
theorem dLW_law_39 : decode cLW_law 39 = .ok (.tableswitch 605 0 12 #[65, 121, 134, 170, 238, 286, 342, 398, 454, 467, 480, 493, 549], 65) := by decide +kernel
theorem dLW_law_104 : decode cLW_law 104 = .ok (.aload_n 1, 1) := by decide +kernel
theorem dLW_law_105 : decode cLW_law 105 = .ok (.aload_n 0, 1) := by decide +kernel
theorem dLW_law_106 : decode cLW_law 106 = .ok (.iload 4, 2) := by decide +kernel
theorem dLW_law_108 : decode cLW_law 108 = .ok (.iconst 1, 1) := by decide +kernel
theorem dLW_law_109 : decode cLW_law 109 = .ok (.iadd, 1) := by decide +kernel
theorem dLW_law_110 : decode cLW_law 110 = .ok (.iaload, 1) := by decide +kernel
theorem dLW_law_111 : decode cLW_law 111 = .ok (.aload_n 3, 1) := by decide +kernel
theorem dLW_law_112 : decode cLW_law 112 = .ok (.invokestatic 50, 3) := by decide +kernel
theorem dLW_law_115 : decode cLW_law 115 = .ok (.istore 5, 2) := by decide +kernel
theorem dLW_law_117 : decode cLW_law 117 = .ok (.aload_n 2, 1) := by decide +kernel
theorem dLW_law_118 : decode cLW_law 118 = .ok (.aload_n 0, 1) := by decide +kernel
theorem dLW_law_119 : decode cLW_law 119 = .ok (.iload 4, 2) := by decide +kernel
theorem dLW_law_121 : decode cLW_law 121 = .ok (.iconst 1, 1) := by decide +kernel
theorem dLW_law_122 : decode cLW_law 122 = .ok (.iadd, 1) := by decide +kernel
theorem dLW_law_123 : decode cLW_law 123 = .ok (.iaload, 1) := by decide +kernel
theorem dLW_law_124 : decode cLW_law 124 = .ok (.invokevirtual 55, 3) := by decide +kernel
theorem dLW_law_127 : decode cLW_law 127 = .ok (.istore 6, 2) := by decide +kernel
theorem dLW_law_129 : decode cLW_law 129 = .ok (.aload_n 2, 1) := by decide +kernel
theorem dLW_law_130 : decode cLW_law 130 = .ok (.invokevirtual 56, 3) := by decide +kernel
theorem dLW_law_133 : decode cLW_law 133 = .ok (.iload 5, 2) := by decide +kernel
theorem dLW_law_135 : decode cLW_law 135 = .ok (.if_icmp .eq 5, 3) := by decide +kernel
theorem dLW_law_138 : decode cLW_law 138 = .ok (.iconst 0, 1) := by decide +kernel
theorem dLW_law_139 : decode cLW_law 139 = .ok (.ireturn, 1) := by decide +kernel
theorem dLW_law_140 : decode cLW_law 140 = .ok (.iload 5, 2) := by decide +kernel
theorem dLW_law_142 : decode cLW_law 142 = .ok (.ifCond .ne 15, 3) := by decide +kernel
theorem dLW_law_145 : decode cLW_law 145 = .ok (.aload_n 3, 1) := by decide +kernel
theorem dLW_law_146 : decode cLW_law 146 = .ok (.iconst 0, 1) := by decide +kernel
theorem dLW_law_147 : decode cLW_law 147 = .ok (.laload, 1) := by decide +kernel
theorem dLW_law_148 : decode cLW_law 148 = .ok (.iload 6, 2) := by decide +kernel
theorem dLW_law_150 : decode cLW_law 150 = .ok (.i2l, 1) := by decide +kernel
theorem dLW_law_151 : decode cLW_law 151 = .ok (.lcmp, 1) := by decide +kernel
theorem dLW_law_152 : decode cLW_law 152 = .ok (.ifCond .eq 5, 3) := by decide +kernel
theorem dLW_law_155 : decode cLW_law 155 = .ok (.iconst 0, 1) := by decide +kernel
theorem dLW_law_156 : decode cLW_law 156 = .ok (.ireturn, 1) := by decide +kernel
theorem dLW_law_157 : decode cLW_law 157 = .ok (.goto 487, 3) := by decide +kernel
theorem dLW_law_160 : decode cLW_law 160 = .ok (.aload_n 1, 1) := by decide +kernel
theorem dLW_law_161 : decode cLW_law 161 = .ok (.invokevirtual 60, 3) := by decide +kernel
theorem dLW_law_164 : decode cLW_law 164 = .ok (.aload_n 2, 1) := by decide +kernel
theorem dLW_law_165 : decode cLW_law 165 = .ok (.invokevirtual 63, 3) := by decide +kernel
theorem dLW_law_168 : decode cLW_law 168 = .ok (.if_icmp .eq 476, 3) := by decide +kernel
theorem dLW_law_171 : decode cLW_law 171 = .ok (.iconst 0, 1) := by decide +kernel
theorem dLW_law_172 : decode cLW_law 172 = .ok (.ireturn, 1) := by decide +kernel
theorem dLW_law_173 : decode cLW_law 173 = .ok (.aload_n 1, 1) := by decide +kernel
theorem dLW_law_174 : decode cLW_law 174 = .ok (.aload_n 0, 1) := by decide +kernel
theorem dLW_law_175 : decode cLW_law 175 = .ok (.iload 4, 2) := by decide +kernel
theorem dLW_law_177 : decode cLW_law 177 = .ok (.iconst 1, 1) := by decide +kernel
theorem dLW_law_178 : decode cLW_law 178 = .ok (.iadd, 1) := by decide +kernel
theorem dLW_law_179 : decode cLW_law 179 = .ok (.iaload, 1) := by decide +kernel
theorem dLW_law_180 : decode cLW_law 180 = .ok (.invokestatic 64, 3) := by decide +kernel
theorem dLW_law_183 : decode cLW_law 183 = .ok (.istore 5, 2) := by decide +kernel
theorem dLW_law_185 : decode cLW_law 185 = .ok (.aload_n 2, 1) := by decide +kernel
theorem dLW_law_186 : decode cLW_law 186 = .ok (.aload_n 0, 1) := by decide +kernel
theorem dLW_law_187 : decode cLW_law 187 = .ok (.iload 4, 2) := by decide +kernel
theorem dLW_law_189 : decode cLW_law 189 = .ok (.iconst 1, 1) := by decide +kernel
theorem dLW_law_190 : decode cLW_law 190 = .ok (.iadd, 1) := by decide +kernel
theorem dLW_law_191 : decode cLW_law 191 = .ok (.iaload, 1) := by decide +kernel
theorem dLW_law_192 : decode cLW_law 192 = .ok (.invokevirtual 67, 3) := by decide +kernel
theorem dLW_law_195 : decode cLW_law 195 = .ok (.aload_n 2, 1) := by decide +kernel
theorem dLW_law_196 : decode cLW_law 196 = .ok (.invokevirtual 56, 3) := by decide +kernel
theorem dLW_law_199 : decode cLW_law 199 = .ok (.iload 5, 2) := by decide +kernel
theorem dLW_law_201 : decode cLW_law 201 = .ok (.if_icmp .eq 5, 3) := by decide +kernel
theorem dLW_law_204 : decode cLW_law 204 = .ok (.iconst 0, 1) := by decide +kernel
theorem dLW_law_205 : decode cLW_law 205 = .ok (.ireturn, 1) := by decide +kernel
theorem dLW_law_206 : decode cLW_law 206 = .ok (.goto 438, 3) := by decide +kernel
theorem dLW_law_209 : decode cLW_law 209 = .ok (.aload_n 1, 1) := by decide +kernel
theorem dLW_law_210 : decode cLW_law 210 = .ok (.aload_n 0, 1) := by decide +kernel
theorem dLW_law_211 : decode cLW_law 211 = .ok (.iload 4, 2) := by decide +kernel
theorem dLW_law_213 : decode cLW_law 213 = .ok (.iconst 1, 1) := by decide +kernel
theorem dLW_law_214 : decode cLW_law 214 = .ok (.iadd, 1) := by decide +kernel
theorem dLW_law_215 : decode cLW_law 215 = .ok (.iaload, 1) := by decide +kernel
theorem dLW_law_216 : decode cLW_law 216 = .ok (.aload_n 0, 1) := by decide +kernel
theorem dLW_law_217 : decode cLW_law 217 = .ok (.iload 4, 2) := by decide +kernel
theorem dLW_law_219 : decode cLW_law 219 = .ok (.iconst 2, 1) := by decide +kernel
theorem dLW_law_220 : decode cLW_law 220 = .ok (.iadd, 1) := by decide +kernel
theorem dLW_law_221 : decode cLW_law 221 = .ok (.iaload, 1) := by decide +kernel
theorem dLW_law_222 : decode cLW_law 222 = .ok (.aload_n 3, 1) := by decide +kernel
theorem dLW_law_223 : decode cLW_law 223 = .ok (.invokestatic 68, 3) := by decide +kernel
theorem dLW_law_226 : decode cLW_law 226 = .ok (.istore 5, 2) := by decide +kernel
theorem dLW_law_228 : decode cLW_law 228 = .ok (.aload_n 2, 1) := by decide +kernel
theorem dLW_law_229 : decode cLW_law 229 = .ok (.aload_n 0, 1) := by decide +kernel
theorem dLW_law_230 : decode cLW_law 230 = .ok (.iload 4, 2) := by decide +kernel
theorem dLW_law_232 : decode cLW_law 232 = .ok (.iconst 1, 1) := by decide +kernel
theorem dLW_law_233 : decode cLW_law 233 = .ok (.iadd, 1) := by decide +kernel
theorem dLW_law_234 : decode cLW_law 234 = .ok (.iaload, 1) := by decide +kernel
theorem dLW_law_235 : decode cLW_law 235 = .ok (.aload_n 0, 1) := by decide +kernel
theorem dLW_law_236 : decode cLW_law 236 = .ok (.iload 4, 2) := by decide +kernel
theorem dLW_law_238 : decode cLW_law 238 = .ok (.iconst 2, 1) := by decide +kernel
theorem dLW_law_239 : decode cLW_law 239 = .ok (.iadd, 1) := by decide +kernel
theorem dLW_law_240 : decode cLW_law 240 = .ok (.iaload, 1) := by decide +kernel
theorem dLW_law_241 : decode cLW_law 241 = .ok (.invokevirtual 71, 3) := by decide +kernel
theorem dLW_law_244 : decode cLW_law 244 = .ok (.istore 6, 2) := by decide +kernel
theorem dLW_law_246 : decode cLW_law 246 = .ok (.aload_n 2, 1) := by decide +kernel
theorem dLW_law_247 : decode cLW_law 247 = .ok (.invokevirtual 56, 3) := by decide +kernel
theorem dLW_law_250 : decode cLW_law 250 = .ok (.iload 5, 2) := by decide +kernel
theorem dLW_law_252 : decode cLW_law 252 = .ok (.if_icmp .eq 5, 3) := by decide +kernel
theorem dLW_law_255 : decode cLW_law 255 = .ok (.iconst 0, 1) := by decide +kernel
theorem dLW_law_256 : decode cLW_law 256 = .ok (.ireturn, 1) := by decide +kernel
theorem dLW_law_257 : decode cLW_law 257 = .ok (.iload 5, 2) := by decide +kernel
theorem dLW_law_259 : decode cLW_law 259 = .ok (.ifCond .ne 15, 3) := by decide +kernel
theorem dLW_law_262 : decode cLW_law 262 = .ok (.aload_n 3, 1) := by decide +kernel
theorem dLW_law_263 : decode cLW_law 263 = .ok (.iconst 0, 1) := by decide +kernel
theorem dLW_law_264 : decode cLW_law 264 = .ok (.laload, 1) := by decide +kernel
theorem dLW_law_265 : decode cLW_law 265 = .ok (.iload 6, 2) := by decide +kernel
theorem dLW_law_267 : decode cLW_law 267 = .ok (.i2l, 1) := by decide +kernel
theorem dLW_law_268 : decode cLW_law 268 = .ok (.lcmp, 1) := by decide +kernel
theorem dLW_law_269 : decode cLW_law 269 = .ok (.ifCond .eq 5, 3) := by decide +kernel
theorem dLW_law_272 : decode cLW_law 272 = .ok (.iconst 0, 1) := by decide +kernel
theorem dLW_law_273 : decode cLW_law 273 = .ok (.ireturn, 1) := by decide +kernel
theorem dLW_law_274 : decode cLW_law 274 = .ok (.goto 370, 3) := by decide +kernel
theorem dLW_law_277 : decode cLW_law 277 = .ok (.aload_n 1, 1) := by decide +kernel
theorem dLW_law_278 : decode cLW_law 278 = .ok (.aload_n 0, 1) := by decide +kernel
theorem dLW_law_279 : decode cLW_law 279 = .ok (.iload 4, 2) := by decide +kernel
theorem dLW_law_281 : decode cLW_law 281 = .ok (.iconst 1, 1) := by decide +kernel
theorem dLW_law_282 : decode cLW_law 282 = .ok (.iadd, 1) := by decide +kernel
theorem dLW_law_283 : decode cLW_law 283 = .ok (.iaload, 1) := by decide +kernel
theorem dLW_law_284 : decode cLW_law 284 = .ok (.aload_n 0, 1) := by decide +kernel
theorem dLW_law_285 : decode cLW_law 285 = .ok (.iload 4, 2) := by decide +kernel
theorem dLW_law_287 : decode cLW_law 287 = .ok (.iconst 2, 1) := by decide +kernel
theorem dLW_law_288 : decode cLW_law 288 = .ok (.iadd, 1) := by decide +kernel
theorem dLW_law_289 : decode cLW_law 289 = .ok (.iaload, 1) := by decide +kernel
theorem dLW_law_290 : decode cLW_law 290 = .ok (.invokestatic 72, 3) := by decide +kernel
theorem dLW_law_293 : decode cLW_law 293 = .ok (.istore 5, 2) := by decide +kernel
theorem dLW_law_295 : decode cLW_law 295 = .ok (.aload_n 2, 1) := by decide +kernel
theorem dLW_law_296 : decode cLW_law 296 = .ok (.aload_n 0, 1) := by decide +kernel
theorem dLW_law_297 : decode cLW_law 297 = .ok (.iload 4, 2) := by decide +kernel
theorem dLW_law_299 : decode cLW_law 299 = .ok (.iconst 1, 1) := by decide +kernel
theorem dLW_law_300 : decode cLW_law 300 = .ok (.iadd, 1) := by decide +kernel
theorem dLW_law_301 : decode cLW_law 301 = .ok (.iaload, 1) := by decide +kernel
theorem dLW_law_302 : decode cLW_law 302 = .ok (.aload_n 0, 1) := by decide +kernel
theorem dLW_law_303 : decode cLW_law 303 = .ok (.iload 4, 2) := by decide +kernel
theorem dLW_law_305 : decode cLW_law 305 = .ok (.iconst 2, 1) := by decide +kernel
theorem dLW_law_306 : decode cLW_law 306 = .ok (.iadd, 1) := by decide +kernel
theorem dLW_law_307 : decode cLW_law 307 = .ok (.iaload, 1) := by decide +kernel
theorem dLW_law_308 : decode cLW_law 308 = .ok (.invokevirtual 75, 3) := by decide +kernel
theorem dLW_law_311 : decode cLW_law 311 = .ok (.aload_n 2, 1) := by decide +kernel
theorem dLW_law_312 : decode cLW_law 312 = .ok (.invokevirtual 56, 3) := by decide +kernel
theorem dLW_law_315 : decode cLW_law 315 = .ok (.iload 5, 2) := by decide +kernel
theorem dLW_law_317 : decode cLW_law 317 = .ok (.if_icmp .eq 5, 3) := by decide +kernel
theorem dLW_law_320 : decode cLW_law 320 = .ok (.iconst 0, 1) := by decide +kernel
theorem dLW_law_321 : decode cLW_law 321 = .ok (.ireturn, 1) := by decide +kernel
theorem dLW_law_322 : decode cLW_law 322 = .ok (.goto 322, 3) := by decide +kernel
theorem dLW_law_325 : decode cLW_law 325 = .ok (.aload_n 1, 1) := by decide +kernel
theorem dLW_law_326 : decode cLW_law 326 = .ok (.aload_n 0, 1) := by decide +kernel
theorem dLW_law_327 : decode cLW_law 327 = .ok (.iload 4, 2) := by decide +kernel
theorem dLW_law_329 : decode cLW_law 329 = .ok (.iconst 1, 1) := by decide +kernel
theorem dLW_law_330 : decode cLW_law 330 = .ok (.iadd, 1) := by decide +kernel
theorem dLW_law_331 : decode cLW_law 331 = .ok (.iaload, 1) := by decide +kernel
theorem dLW_law_332 : decode cLW_law 332 = .ok (.aload_n 3, 1) := by decide +kernel
theorem dLW_law_333 : decode cLW_law 333 = .ok (.invokestatic 76, 3) := by decide +kernel
theorem dLW_law_336 : decode cLW_law 336 = .ok (.istore 5, 2) := by decide +kernel
theorem dLW_law_338 : decode cLW_law 338 = .ok (.aload_n 2, 1) := by decide +kernel
theorem dLW_law_339 : decode cLW_law 339 = .ok (.aload_n 0, 1) := by decide +kernel
theorem dLW_law_340 : decode cLW_law 340 = .ok (.iload 4, 2) := by decide +kernel
theorem dLW_law_342 : decode cLW_law 342 = .ok (.iconst 1, 1) := by decide +kernel
theorem dLW_law_343 : decode cLW_law 343 = .ok (.iadd, 1) := by decide +kernel
theorem dLW_law_344 : decode cLW_law 344 = .ok (.iaload, 1) := by decide +kernel
theorem dLW_law_345 : decode cLW_law 345 = .ok (.invokevirtual 78, 3) := by decide +kernel
theorem dLW_law_348 : decode cLW_law 348 = .ok (.istore 6, 2) := by decide +kernel
theorem dLW_law_350 : decode cLW_law 350 = .ok (.aload_n 2, 1) := by decide +kernel
theorem dLW_law_351 : decode cLW_law 351 = .ok (.invokevirtual 56, 3) := by decide +kernel
theorem dLW_law_354 : decode cLW_law 354 = .ok (.iload 5, 2) := by decide +kernel
theorem dLW_law_356 : decode cLW_law 356 = .ok (.if_icmp .eq 5, 3) := by decide +kernel
theorem dLW_law_359 : decode cLW_law 359 = .ok (.iconst 0, 1) := by decide +kernel
theorem dLW_law_360 : decode cLW_law 360 = .ok (.ireturn, 1) := by decide +kernel
theorem dLW_law_361 : decode cLW_law 361 = .ok (.iload 5, 2) := by decide +kernel
theorem dLW_law_363 : decode cLW_law 363 = .ok (.ifCond .ne 15, 3) := by decide +kernel
theorem dLW_law_366 : decode cLW_law 366 = .ok (.aload_n 3, 1) := by decide +kernel
theorem dLW_law_367 : decode cLW_law 367 = .ok (.iconst 0, 1) := by decide +kernel
theorem dLW_law_368 : decode cLW_law 368 = .ok (.laload, 1) := by decide +kernel
theorem dLW_law_369 : decode cLW_law 369 = .ok (.iload 6, 2) := by decide +kernel
theorem dLW_law_371 : decode cLW_law 371 = .ok (.i2l, 1) := by decide +kernel
theorem dLW_law_372 : decode cLW_law 372 = .ok (.lcmp, 1) := by decide +kernel
theorem dLW_law_373 : decode cLW_law 373 = .ok (.ifCond .eq 5, 3) := by decide +kernel
theorem dLW_law_376 : decode cLW_law 376 = .ok (.iconst 0, 1) := by decide +kernel
theorem dLW_law_377 : decode cLW_law 377 = .ok (.ireturn, 1) := by decide +kernel
theorem dLW_law_378 : decode cLW_law 378 = .ok (.goto 266, 3) := by decide +kernel
theorem dLW_law_381 : decode cLW_law 381 = .ok (.aload_n 1, 1) := by decide +kernel
theorem dLW_law_382 : decode cLW_law 382 = .ok (.aload_n 0, 1) := by decide +kernel
theorem dLW_law_383 : decode cLW_law 383 = .ok (.iload 4, 2) := by decide +kernel
theorem dLW_law_385 : decode cLW_law 385 = .ok (.iconst 1, 1) := by decide +kernel
theorem dLW_law_386 : decode cLW_law 386 = .ok (.iadd, 1) := by decide +kernel
theorem dLW_law_387 : decode cLW_law 387 = .ok (.iaload, 1) := by decide +kernel
theorem dLW_law_388 : decode cLW_law 388 = .ok (.aload_n 3, 1) := by decide +kernel
theorem dLW_law_389 : decode cLW_law 389 = .ok (.invokestatic 79, 3) := by decide +kernel
theorem dLW_law_392 : decode cLW_law 392 = .ok (.istore 5, 2) := by decide +kernel
theorem dLW_law_394 : decode cLW_law 394 = .ok (.aload_n 2, 1) := by decide +kernel
theorem dLW_law_395 : decode cLW_law 395 = .ok (.aload_n 0, 1) := by decide +kernel
theorem dLW_law_396 : decode cLW_law 396 = .ok (.iload 4, 2) := by decide +kernel
theorem dLW_law_398 : decode cLW_law 398 = .ok (.iconst 1, 1) := by decide +kernel
theorem dLW_law_399 : decode cLW_law 399 = .ok (.iadd, 1) := by decide +kernel
theorem dLW_law_400 : decode cLW_law 400 = .ok (.iaload, 1) := by decide +kernel
theorem dLW_law_401 : decode cLW_law 401 = .ok (.invokevirtual 81, 3) := by decide +kernel
theorem dLW_law_404 : decode cLW_law 404 = .ok (.istore 6, 2) := by decide +kernel
theorem dLW_law_406 : decode cLW_law 406 = .ok (.aload_n 2, 1) := by decide +kernel
theorem dLW_law_407 : decode cLW_law 407 = .ok (.invokevirtual 56, 3) := by decide +kernel
theorem dLW_law_410 : decode cLW_law 410 = .ok (.iload 5, 2) := by decide +kernel
theorem dLW_law_412 : decode cLW_law 412 = .ok (.if_icmp .eq 5, 3) := by decide +kernel
theorem dLW_law_415 : decode cLW_law 415 = .ok (.iconst 0, 1) := by decide +kernel
theorem dLW_law_416 : decode cLW_law 416 = .ok (.ireturn, 1) := by decide +kernel
theorem dLW_law_417 : decode cLW_law 417 = .ok (.iload 5, 2) := by decide +kernel
theorem dLW_law_419 : decode cLW_law 419 = .ok (.ifCond .ne 15, 3) := by decide +kernel
theorem dLW_law_422 : decode cLW_law 422 = .ok (.aload_n 3, 1) := by decide +kernel
theorem dLW_law_423 : decode cLW_law 423 = .ok (.iconst 0, 1) := by decide +kernel
theorem dLW_law_424 : decode cLW_law 424 = .ok (.laload, 1) := by decide +kernel
theorem dLW_law_425 : decode cLW_law 425 = .ok (.iload 6, 2) := by decide +kernel
theorem dLW_law_427 : decode cLW_law 427 = .ok (.i2l, 1) := by decide +kernel
theorem dLW_law_428 : decode cLW_law 428 = .ok (.lcmp, 1) := by decide +kernel
theorem dLW_law_429 : decode cLW_law 429 = .ok (.ifCond .eq 5, 3) := by decide +kernel
theorem dLW_law_432 : decode cLW_law 432 = .ok (.iconst 0, 1) := by decide +kernel
theorem dLW_law_433 : decode cLW_law 433 = .ok (.ireturn, 1) := by decide +kernel
theorem dLW_law_434 : decode cLW_law 434 = .ok (.goto 210, 3) := by decide +kernel
theorem dLW_law_437 : decode cLW_law 437 = .ok (.aload_n 1, 1) := by decide +kernel
theorem dLW_law_438 : decode cLW_law 438 = .ok (.aload_n 0, 1) := by decide +kernel
theorem dLW_law_439 : decode cLW_law 439 = .ok (.iload 4, 2) := by decide +kernel
theorem dLW_law_441 : decode cLW_law 441 = .ok (.iconst 1, 1) := by decide +kernel
theorem dLW_law_442 : decode cLW_law 442 = .ok (.iadd, 1) := by decide +kernel
theorem dLW_law_443 : decode cLW_law 443 = .ok (.iaload, 1) := by decide +kernel
theorem dLW_law_444 : decode cLW_law 444 = .ok (.aload_n 3, 1) := by decide +kernel
theorem dLW_law_445 : decode cLW_law 445 = .ok (.invokestatic 82, 3) := by decide +kernel
theorem dLW_law_448 : decode cLW_law 448 = .ok (.istore 5, 2) := by decide +kernel
theorem dLW_law_450 : decode cLW_law 450 = .ok (.aload_n 2, 1) := by decide +kernel
theorem dLW_law_451 : decode cLW_law 451 = .ok (.aload_n 0, 1) := by decide +kernel
theorem dLW_law_452 : decode cLW_law 452 = .ok (.iload 4, 2) := by decide +kernel
theorem dLW_law_454 : decode cLW_law 454 = .ok (.iconst 1, 1) := by decide +kernel
theorem dLW_law_455 : decode cLW_law 455 = .ok (.iadd, 1) := by decide +kernel
theorem dLW_law_456 : decode cLW_law 456 = .ok (.iaload, 1) := by decide +kernel
theorem dLW_law_457 : decode cLW_law 457 = .ok (.invokevirtual 84, 3) := by decide +kernel
theorem dLW_law_460 : decode cLW_law 460 = .ok (.istore 6, 2) := by decide +kernel
theorem dLW_law_462 : decode cLW_law 462 = .ok (.aload_n 2, 1) := by decide +kernel
theorem dLW_law_463 : decode cLW_law 463 = .ok (.invokevirtual 56, 3) := by decide +kernel
theorem dLW_law_466 : decode cLW_law 466 = .ok (.iload 5, 2) := by decide +kernel
theorem dLW_law_468 : decode cLW_law 468 = .ok (.if_icmp .eq 5, 3) := by decide +kernel
theorem dLW_law_471 : decode cLW_law 471 = .ok (.iconst 0, 1) := by decide +kernel
theorem dLW_law_472 : decode cLW_law 472 = .ok (.ireturn, 1) := by decide +kernel
theorem dLW_law_473 : decode cLW_law 473 = .ok (.iload 5, 2) := by decide +kernel
theorem dLW_law_475 : decode cLW_law 475 = .ok (.ifCond .ne 15, 3) := by decide +kernel
theorem dLW_law_478 : decode cLW_law 478 = .ok (.aload_n 3, 1) := by decide +kernel
theorem dLW_law_479 : decode cLW_law 479 = .ok (.iconst 0, 1) := by decide +kernel
theorem dLW_law_480 : decode cLW_law 480 = .ok (.laload, 1) := by decide +kernel
theorem dLW_law_481 : decode cLW_law 481 = .ok (.iload 6, 2) := by decide +kernel
theorem dLW_law_483 : decode cLW_law 483 = .ok (.i2l, 1) := by decide +kernel
theorem dLW_law_484 : decode cLW_law 484 = .ok (.lcmp, 1) := by decide +kernel
theorem dLW_law_485 : decode cLW_law 485 = .ok (.ifCond .eq 5, 3) := by decide +kernel
theorem dLW_law_488 : decode cLW_law 488 = .ok (.iconst 0, 1) := by decide +kernel
theorem dLW_law_489 : decode cLW_law 489 = .ok (.ireturn, 1) := by decide +kernel
theorem dLW_law_490 : decode cLW_law 490 = .ok (.goto 154, 3) := by decide +kernel
theorem dLW_law_493 : decode cLW_law 493 = .ok (.aload_n 1, 1) := by decide +kernel
theorem dLW_law_494 : decode cLW_law 494 = .ok (.invokevirtual 85, 3) := by decide +kernel
theorem dLW_law_497 : decode cLW_law 497 = .ok (.aload_n 2, 1) := by decide +kernel
theorem dLW_law_498 : decode cLW_law 498 = .ok (.invokevirtual 88, 3) := by decide +kernel
theorem dLW_law_501 : decode cLW_law 501 = .ok (.if_icmp .eq 143, 3) := by decide +kernel
theorem dLW_law_504 : decode cLW_law 504 = .ok (.iconst 0, 1) := by decide +kernel
theorem dLW_law_505 : decode cLW_law 505 = .ok (.ireturn, 1) := by decide +kernel
theorem dLW_law_506 : decode cLW_law 506 = .ok (.aload_n 1, 1) := by decide +kernel
theorem dLW_law_507 : decode cLW_law 507 = .ok (.invokevirtual 89, 3) := by decide +kernel
theorem dLW_law_510 : decode cLW_law 510 = .ok (.aload_n 2, 1) := by decide +kernel
theorem dLW_law_511 : decode cLW_law 511 = .ok (.invokevirtual 92, 3) := by decide +kernel
theorem dLW_law_514 : decode cLW_law 514 = .ok (.if_icmp .eq 130, 3) := by decide +kernel
theorem dLW_law_517 : decode cLW_law 517 = .ok (.iconst 0, 1) := by decide +kernel
theorem dLW_law_518 : decode cLW_law 518 = .ok (.ireturn, 1) := by decide +kernel
theorem dLW_law_519 : decode cLW_law 519 = .ok (.aload_n 1, 1) := by decide +kernel
theorem dLW_law_520 : decode cLW_law 520 = .ok (.invokevirtual 93, 3) := by decide +kernel
theorem dLW_law_523 : decode cLW_law 523 = .ok (.aload_n 2, 1) := by decide +kernel
theorem dLW_law_524 : decode cLW_law 524 = .ok (.invokevirtual 96, 3) := by decide +kernel
theorem dLW_law_527 : decode cLW_law 527 = .ok (.if_icmp .eq 117, 3) := by decide +kernel
theorem dLW_law_530 : decode cLW_law 530 = .ok (.iconst 0, 1) := by decide +kernel
theorem dLW_law_531 : decode cLW_law 531 = .ok (.ireturn, 1) := by decide +kernel
theorem dLW_law_532 : decode cLW_law 532 = .ok (.aload_n 1, 1) := by decide +kernel
theorem dLW_law_533 : decode cLW_law 533 = .ok (.aload_n 0, 1) := by decide +kernel
theorem dLW_law_534 : decode cLW_law 534 = .ok (.iload 4, 2) := by decide +kernel
theorem dLW_law_536 : decode cLW_law 536 = .ok (.iconst 1, 1) := by decide +kernel
theorem dLW_law_537 : decode cLW_law 537 = .ok (.iadd, 1) := by decide +kernel
theorem dLW_law_538 : decode cLW_law 538 = .ok (.iaload, 1) := by decide +kernel
theorem dLW_law_539 : decode cLW_law 539 = .ok (.aload_n 3, 1) := by decide +kernel
theorem dLW_law_540 : decode cLW_law 540 = .ok (.invokestatic 97, 3) := by decide +kernel
theorem dLW_law_543 : decode cLW_law 543 = .ok (.istore 5, 2) := by decide +kernel
theorem dLW_law_545 : decode cLW_law 545 = .ok (.aload_n 2, 1) := by decide +kernel
theorem dLW_law_546 : decode cLW_law 546 = .ok (.aload_n 0, 1) := by decide +kernel
theorem dLW_law_547 : decode cLW_law 547 = .ok (.iload 4, 2) := by decide +kernel
theorem dLW_law_549 : decode cLW_law 549 = .ok (.iconst 1, 1) := by decide +kernel
theorem dLW_law_550 : decode cLW_law 550 = .ok (.iadd, 1) := by decide +kernel
theorem dLW_law_551 : decode cLW_law 551 = .ok (.iaload, 1) := by decide +kernel
theorem dLW_law_552 : decode cLW_law 552 = .ok (.invokevirtual 99, 3) := by decide +kernel
theorem dLW_law_555 : decode cLW_law 555 = .ok (.istore 6, 2) := by decide +kernel
theorem dLW_law_557 : decode cLW_law 557 = .ok (.aload_n 2, 1) := by decide +kernel
theorem dLW_law_558 : decode cLW_law 558 = .ok (.invokevirtual 56, 3) := by decide +kernel
theorem dLW_law_561 : decode cLW_law 561 = .ok (.iload 5, 2) := by decide +kernel
theorem dLW_law_563 : decode cLW_law 563 = .ok (.if_icmp .eq 5, 3) := by decide +kernel
theorem dLW_law_566 : decode cLW_law 566 = .ok (.iconst 0, 1) := by decide +kernel
theorem dLW_law_567 : decode cLW_law 567 = .ok (.ireturn, 1) := by decide +kernel
theorem dLW_law_568 : decode cLW_law 568 = .ok (.iload 5, 2) := by decide +kernel
theorem dLW_law_570 : decode cLW_law 570 = .ok (.ifCond .ne 15, 3) := by decide +kernel
theorem dLW_law_573 : decode cLW_law 573 = .ok (.aload_n 3, 1) := by decide +kernel
theorem dLW_law_574 : decode cLW_law 574 = .ok (.iconst 0, 1) := by decide +kernel
theorem dLW_law_575 : decode cLW_law 575 = .ok (.laload, 1) := by decide +kernel
theorem dLW_law_576 : decode cLW_law 576 = .ok (.iload 6, 2) := by decide +kernel
theorem dLW_law_578 : decode cLW_law 578 = .ok (.i2l, 1) := by decide +kernel
theorem dLW_law_579 : decode cLW_law 579 = .ok (.lcmp, 1) := by decide +kernel
theorem dLW_law_580 : decode cLW_law 580 = .ok (.ifCond .eq 5, 3) := by decide +kernel
theorem dLW_law_583 : decode cLW_law 583 = .ok (.iconst 0, 1) := by decide +kernel
theorem dLW_law_584 : decode cLW_law 584 = .ok (.ireturn, 1) := by decide +kernel
theorem dLW_law_585 : decode cLW_law 585 = .ok (.goto 59, 3) := by decide +kernel
theorem dLW_law_588 : decode cLW_law 588 = .ok (.aload_n 1, 1) := by decide +kernel
theorem dLW_law_589 : decode cLW_law 589 = .ok (.aload_n 0, 1) := by decide +kernel
theorem dLW_law_590 : decode cLW_law 590 = .ok (.iload 4, 2) := by decide +kernel
theorem dLW_law_592 : decode cLW_law 592 = .ok (.iconst 1, 1) := by decide +kernel
theorem dLW_law_593 : decode cLW_law 593 = .ok (.iadd, 1) := by decide +kernel
theorem dLW_law_594 : decode cLW_law 594 = .ok (.iaload, 1) := by decide +kernel
theorem dLW_law_595 : decode cLW_law 595 = .ok (.aload_n 3, 1) := by decide +kernel
theorem dLW_law_596 : decode cLW_law 596 = .ok (.invokestatic 100, 3) := by decide +kernel
theorem dLW_law_599 : decode cLW_law 599 = .ok (.istore 5, 2) := by decide +kernel
theorem dLW_law_601 : decode cLW_law 601 = .ok (.aload_n 2, 1) := by decide +kernel
theorem dLW_law_602 : decode cLW_law 602 = .ok (.aload_n 0, 1) := by decide +kernel
theorem dLW_law_603 : decode cLW_law 603 = .ok (.iload 4, 2) := by decide +kernel
theorem dLW_law_605 : decode cLW_law 605 = .ok (.iconst 1, 1) := by decide +kernel
theorem dLW_law_606 : decode cLW_law 606 = .ok (.iadd, 1) := by decide +kernel
theorem dLW_law_607 : decode cLW_law 607 = .ok (.iaload, 1) := by decide +kernel
theorem dLW_law_608 : decode cLW_law 608 = .ok (.invokevirtual 102, 3) := by decide +kernel
theorem dLW_law_611 : decode cLW_law 611 = .ok (.istore 6, 2) := by decide +kernel
theorem dLW_law_613 : decode cLW_law 613 = .ok (.aload_n 2, 1) := by decide +kernel
theorem dLW_law_614 : decode cLW_law 614 = .ok (.invokevirtual 56, 3) := by decide +kernel
theorem dLW_law_617 : decode cLW_law 617 = .ok (.iload 5, 2) := by decide +kernel
theorem dLW_law_619 : decode cLW_law 619 = .ok (.if_icmp .eq 5, 3) := by decide +kernel
theorem dLW_law_622 : decode cLW_law 622 = .ok (.iconst 0, 1) := by decide +kernel
theorem dLW_law_623 : decode cLW_law 623 = .ok (.ireturn, 1) := by decide +kernel
theorem dLW_law_624 : decode cLW_law 624 = .ok (.iload 5, 2) := by decide +kernel
theorem dLW_law_626 : decode cLW_law 626 = .ok (.ifCond .ne 15, 3) := by decide +kernel
theorem dLW_law_629 : decode cLW_law 629 = .ok (.aload_n 3, 1) := by decide +kernel
theorem dLW_law_630 : decode cLW_law 630 = .ok (.iconst 0, 1) := by decide +kernel
theorem dLW_law_631 : decode cLW_law 631 = .ok (.laload, 1) := by decide +kernel
theorem dLW_law_632 : decode cLW_law 632 = .ok (.iload 6, 2) := by decide +kernel
theorem dLW_law_634 : decode cLW_law 634 = .ok (.i2l, 1) := by decide +kernel
theorem dLW_law_635 : decode cLW_law 635 = .ok (.lcmp, 1) := by decide +kernel
theorem dLW_law_636 : decode cLW_law 636 = .ok (.ifCond .eq 5, 3) := by decide +kernel
theorem dLW_law_639 : decode cLW_law 639 = .ok (.iconst 0, 1) := by decide +kernel
theorem dLW_law_640 : decode cLW_law 640 = .ok (.ireturn, 1) := by decide +kernel
theorem dLW_law_641 : decode cLW_law 641 = .ok (.goto 3, 3) := by decide +kernel
theorem dLW_law_644 : decode cLW_law 644 = .ok (.iinc 4 3, 3) := by decide +kernel
theorem dLW_law_647 : decode cLW_law 647 = .ok (.goto (-624), 3) := by decide +kernel
theorem dLW_law_650 : decode cLW_law 650 = .ok (.iconst 1, 1) := by decide +kernel
theorem dLW_law_651 : decode cLW_law 651 = .ok (.ireturn, 1) := by decide +kernel
