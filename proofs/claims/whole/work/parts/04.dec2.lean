theorem dX10_init_379 : decode cX10_init 379 = .ok (.iload_n 1, 1) := by decide +kernel
theorem dX10_init_380 : decode cX10_init 380 = .ok (.iconst 1, 1) := by decide +kernel
theorem dX10_init_381 : decode cX10_init 381 = .ok (.iastore, 1) := by decide +kernel
theorem dX10_init_382 : decode cX10_init 382 = .ok (.iconst 0, 1) := by decide +kernel
theorem dX10_init_383 : decode cX10_init 383 = .ok (.istore_n 2, 1) := by decide +kernel
theorem dX10_init_384 : decode cX10_init 384 = .ok (.iload_n 2, 1) := by decide +kernel
theorem dX10_init_385 : decode cX10_init 385 = .ok (.iconst 5, 1) := by decide +kernel
theorem dX10_init_386 : decode cX10_init 386 = .ok (.if_icmp .ge 20, 3) := by decide +kernel
theorem dX10_init_389 : decode cX10_init 389 = .ok (.aload_n 0, 1) := by decide +kernel
theorem dX10_init_390 : decode cX10_init 390 = .ok (.getfield 127, 3) := by decide +kernel
theorem dX10_init_393 : decode cX10_init 393 = .ok (.iconst 5, 1) := by decide +kernel
theorem dX10_init_394 : decode cX10_init 394 = .ok (.iload_n 1, 1) := by decide +kernel
theorem dX10_init_395 : decode cX10_init 395 = .ok (.imul, 1) := by decide +kernel
theorem dX10_init_396 : decode cX10_init 396 = .ok (.iload_n 2, 1) := by decide +kernel
theorem dX10_init_397 : decode cX10_init 397 = .ok (.iadd, 1) := by decide +kernel
theorem dX10_init_398 : decode cX10_init 398 = .ok (.iconst (-1), 1) := by decide +kernel
theorem dX10_init_399 : decode cX10_init 399 = .ok (.iastore, 1) := by decide +kernel
theorem dX10_init_400 : decode cX10_init 400 = .ok (.iinc 2 1, 3) := by decide +kernel
theorem dX10_init_403 : decode cX10_init 403 = .ok (.goto (-19), 3) := by decide +kernel
theorem dX10_init_406 : decode cX10_init 406 = .ok (.iinc 1 1, 3) := by decide +kernel
theorem dX10_init_409 : decode cX10_init 409 = .ok (.goto (-40), 3) := by decide +kernel
theorem dX10_init_412 : decode cX10_init 412 = .ok (.return_, 1) := by decide +kernel
theorem dX10_isLetter_0 : decode cX10_isLetter 0 = .ok (.iload_n 0, 1) := by decide +kernel
theorem dX10_isLetter_1 : decode cX10_isLetter 1 = .ok (.bipush 97, 2) := by decide +kernel
theorem dX10_isLetter_3 : decode cX10_isLetter 3 = .ok (.if_icmp .lt 13, 3) := by decide +kernel
theorem dX10_isLetter_6 : decode cX10_isLetter 6 = .ok (.iload_n 0, 1) := by decide +kernel
theorem dX10_isLetter_7 : decode cX10_isLetter 7 = .ok (.bipush 122, 2) := by decide +kernel
theorem dX10_isLetter_9 : decode cX10_isLetter 9 = .ok (.if_icmp .gt 7, 3) := by decide +kernel
theorem dX10_isLetter_12 : decode cX10_isLetter 12 = .ok (.iconst 1, 1) := by decide +kernel
theorem dX10_isLetter_13 : decode cX10_isLetter 13 = .ok (.goto 4, 3) := by decide +kernel
theorem dX10_isLetter_16 : decode cX10_isLetter 16 = .ok (.iconst 0, 1) := by decide +kernel
theorem dX10_isLetter_17 : decode cX10_isLetter 17 = .ok (.ireturn, 1) := by decide +kernel
theorem dX10_isDigit_0 : decode cX10_isDigit 0 = .ok (.iload_n 0, 1) := by decide +kernel
theorem dX10_isDigit_1 : decode cX10_isDigit 1 = .ok (.bipush 48, 2) := by decide +kernel
theorem dX10_isDigit_3 : decode cX10_isDigit 3 = .ok (.if_icmp .lt 13, 3) := by decide +kernel
theorem dX10_isDigit_6 : decode cX10_isDigit 6 = .ok (.iload_n 0, 1) := by decide +kernel
theorem dX10_isDigit_7 : decode cX10_isDigit 7 = .ok (.bipush 57, 2) := by decide +kernel
theorem dX10_isDigit_9 : decode cX10_isDigit 9 = .ok (.if_icmp .gt 7, 3) := by decide +kernel
theorem dX10_isDigit_12 : decode cX10_isDigit 12 = .ok (.iconst 1, 1) := by decide +kernel
theorem dX10_isDigit_13 : decode cX10_isDigit 13 = .ok (.goto 4, 3) := by decide +kernel
theorem dX10_isDigit_16 : decode cX10_isDigit 16 = .ok (.iconst 0, 1) := by decide +kernel
theorem dX10_isDigit_17 : decode cX10_isDigit 17 = .ok (.ireturn, 1) := by decide +kernel
theorem dX10_rank_0 : decode cX10_rank 0 = .ok (.iload_n 0, 1) := by decide +kernel
theorem dX10_rank_1 : decode cX10_rank 1 = .ok (.invokestatic 152, 3) := by decide +kernel
theorem dX10_rank_4 : decode cX10_rank 4 = .ok (.ifCond .eq 10, 3) := by decide +kernel
theorem dX10_rank_7 : decode cX10_rank 7 = .ok (.iload_n 0, 1) := by decide +kernel
theorem dX10_rank_8 : decode cX10_rank 8 = .ok (.bipush 96, 2) := by decide +kernel
theorem dX10_rank_10 : decode cX10_rank 10 = .ok (.isub, 1) := by decide +kernel
theorem dX10_rank_11 : decode cX10_rank 11 = .ok (.goto 7, 3) := by decide +kernel
theorem dX10_rank_14 : decode cX10_rank 14 = .ok (.iload_n 0, 1) := by decide +kernel
theorem dX10_rank_15 : decode cX10_rank 15 = .ok (.bipush 21, 2) := by decide +kernel
theorem dX10_rank_17 : decode cX10_rank 17 = .ok (.isub, 1) := by decide +kernel
theorem dX10_rank_18 : decode cX10_rank 18 = .ok (.ireturn, 1) := by decide +kernel
theorem dX10_isSignOf_0 : decode cX10_isSignOf 0 = .ok (.iload_n 0, 1) := by decide +kernel
theorem dX10_isSignOf_1 : decode cX10_isSignOf 1 = .ok (.bipush 40, 2) := by decide +kernel
theorem dX10_isSignOf_3 : decode cX10_isSignOf 3 = .ok (.if_icmp .eq 39, 3) := by decide +kernel
theorem dX10_isSignOf_6 : decode cX10_isSignOf 6 = .ok (.iload_n 0, 1) := by decide +kernel
theorem dX10_isSignOf_7 : decode cX10_isSignOf 7 = .ok (.bipush 41, 2) := by decide +kernel
theorem dX10_isSignOf_9 : decode cX10_isSignOf 9 = .ok (.if_icmp .eq 33, 3) := by decide +kernel
theorem dX10_isSignOf_12 : decode cX10_isSignOf 12 = .ok (.iload_n 0, 1) := by decide +kernel
theorem dX10_isSignOf_13 : decode cX10_isSignOf 13 = .ok (.bipush 59, 2) := by decide +kernel
theorem dX10_isSignOf_15 : decode cX10_isSignOf 15 = .ok (.if_icmp .eq 27, 3) := by decide +kernel
theorem dX10_isSignOf_18 : decode cX10_isSignOf 18 = .ok (.iload_n 0, 1) := by decide +kernel
theorem dX10_isSignOf_19 : decode cX10_isSignOf 19 = .ok (.bipush 61, 2) := by decide +kernel
theorem dX10_isSignOf_21 : decode cX10_isSignOf 21 = .ok (.if_icmp .eq 21, 3) := by decide +kernel
theorem dX10_isSignOf_24 : decode cX10_isSignOf 24 = .ok (.iload_n 0, 1) := by decide +kernel
theorem dX10_isSignOf_25 : decode cX10_isSignOf 25 = .ok (.bipush 60, 2) := by decide +kernel
theorem dX10_isSignOf_27 : decode cX10_isSignOf 27 = .ok (.if_icmp .eq 15, 3) := by decide +kernel
theorem dX10_isSignOf_30 : decode cX10_isSignOf 30 = .ok (.iload_n 0, 1) := by decide +kernel
theorem dX10_isSignOf_31 : decode cX10_isSignOf 31 = .ok (.bipush 43, 2) := by decide +kernel
theorem dX10_isSignOf_33 : decode cX10_isSignOf 33 = .ok (.if_icmp .eq 9, 3) := by decide +kernel
theorem dX10_isSignOf_36 : decode cX10_isSignOf 36 = .ok (.iload_n 0, 1) := by decide +kernel
theorem dX10_isSignOf_37 : decode cX10_isSignOf 37 = .ok (.bipush 45, 2) := by decide +kernel
theorem dX10_isSignOf_39 : decode cX10_isSignOf 39 = .ok (.if_icmp .ne 7, 3) := by decide +kernel
theorem dX10_isSignOf_42 : decode cX10_isSignOf 42 = .ok (.iconst 1, 1) := by decide +kernel
theorem dX10_isSignOf_43 : decode cX10_isSignOf 43 = .ok (.goto 4, 3) := by decide +kernel
theorem dX10_isSignOf_46 : decode cX10_isSignOf 46 = .ok (.iconst 0, 1) := by decide +kernel
theorem dX10_isSignOf_47 : decode cX10_isSignOf 47 = .ok (.ireturn, 1) := by decide +kernel
theorem dX10_cutAll_0 : decode cX10_cutAll 0 = .ok (.aload_n 0, 1) := by decide +kernel
theorem dX10_cutAll_1 : decode cX10_cutAll 1 = .ok (.aload_n 0, 1) := by decide +kernel
theorem dX10_cutAll_2 : decode cX10_cutAll 2 = .ok (.getfield 11, 3) := by decide +kernel
theorem dX10_cutAll_5 : decode cX10_cutAll 5 = .ok (.putfield 156, 3) := by decide +kernel
theorem dX10_cutAll_8 : decode cX10_cutAll 8 = .ok (.aload_n 0, 1) := by decide +kernel
theorem dX10_cutAll_9 : decode cX10_cutAll 9 = .ok (.iconst 0, 1) := by decide +kernel
theorem dX10_cutAll_10 : decode cX10_cutAll 10 = .ok (.putfield 11, 3) := by decide +kernel
theorem dX10_cutAll_13 : decode cX10_cutAll 13 = .ok (.iconst 0, 1) := by decide +kernel
theorem dX10_cutAll_14 : decode cX10_cutAll 14 = .ok (.istore_n 1, 1) := by decide +kernel
theorem dX10_cutAll_15 : decode cX10_cutAll 15 = .ok (.iconst 0, 1) := by decide +kernel
theorem dX10_cutAll_16 : decode cX10_cutAll 16 = .ok (.istore_n 2, 1) := by decide +kernel
theorem dX10_cutAll_17 : decode cX10_cutAll 17 = .ok (.iload_n 2, 1) := by decide +kernel
theorem dX10_cutAll_18 : decode cX10_cutAll 18 = .ok (.aload_n 0, 1) := by decide +kernel
theorem dX10_cutAll_19 : decode cX10_cutAll 19 = .ok (.getfield 156, 3) := by decide +kernel
theorem dX10_cutAll_22 : decode cX10_cutAll 22 = .ok (.if_icmp .ge 257, 3) := by decide +kernel
theorem dX10_cutAll_25 : decode cX10_cutAll 25 = .ok (.aload_n 0, 1) := by decide +kernel
theorem dX10_cutAll_26 : decode cX10_cutAll 26 = .ok (.getfield 14, 3) := by decide +kernel
theorem dX10_cutAll_29 : decode cX10_cutAll 29 = .ok (.iload_n 2, 1) := by decide +kernel
theorem dX10_cutAll_30 : decode cX10_cutAll 30 = .ok (.iaload, 1) := by decide +kernel
theorem dX10_cutAll_31 : decode cX10_cutAll 31 = .ok (.istore_n 3, 1) := by decide +kernel
theorem dX10_cutAll_32 : decode cX10_cutAll 32 = .ok (.iload_n 3, 1) := by decide +kernel
theorem dX10_cutAll_33 : decode cX10_cutAll 33 = .ok (.bipush 10, 2) := by decide +kernel
theorem dX10_cutAll_35 : decode cX10_cutAll 35 = .ok (.if_icmp .eq 9, 3) := by decide +kernel
theorem dX10_cutAll_38 : decode cX10_cutAll 38 = .ok (.iload_n 3, 1) := by decide +kernel
theorem dX10_cutAll_39 : decode cX10_cutAll 39 = .ok (.bipush 32, 2) := by decide +kernel
theorem dX10_cutAll_41 : decode cX10_cutAll 41 = .ok (.if_icmp .ne 9, 3) := by decide +kernel
theorem dX10_cutAll_44 : decode cX10_cutAll 44 = .ok (.iinc 2 1, 3) := by decide +kernel
theorem dX10_cutAll_47 : decode cX10_cutAll 47 = .ok (.goto (-30), 3) := by decide +kernel
theorem dX10_cutAll_50 : decode cX10_cutAll 50 = .ok (.iload_n 2, 1) := by decide +kernel
theorem dX10_cutAll_51 : decode cX10_cutAll 51 = .ok (.istore 4, 2) := by decide +kernel
theorem dX10_cutAll_53 : decode cX10_cutAll 53 = .ok (.lconst 0, 1) := by decide +kernel
theorem dX10_cutAll_54 : decode cX10_cutAll 54 = .ok (.lstore 5, 2) := by decide +kernel
theorem dX10_cutAll_56 : decode cX10_cutAll 56 = .ok (.aload_n 0, 1) := by decide +kernel
theorem dX10_cutAll_57 : decode cX10_cutAll 57 = .ok (.getfield 27, 3) := by decide +kernel
theorem dX10_cutAll_60 : decode cX10_cutAll 60 = .ok (.iload_n 1, 1) := by decide +kernel
theorem dX10_cutAll_61 : decode cX10_cutAll 61 = .ok (.iload_n 2, 1) := by decide +kernel
theorem dX10_cutAll_62 : decode cX10_cutAll 62 = .ok (.iastore, 1) := by decide +kernel
theorem dX10_cutAll_63 : decode cX10_cutAll 63 = .ok (.iload_n 3, 1) := by decide +kernel
theorem dX10_cutAll_64 : decode cX10_cutAll 64 = .ok (.invokestatic 152, 3) := by decide +kernel
theorem dX10_cutAll_67 : decode cX10_cutAll 67 = .ok (.ifCond .eq 85, 3) := by decide +kernel
theorem dX10_cutAll_70 : decode cX10_cutAll 70 = .ok (.iload_n 2, 1) := by decide +kernel
theorem dX10_cutAll_71 : decode cX10_cutAll 71 = .ok (.aload_n 0, 1) := by decide +kernel
theorem dX10_cutAll_72 : decode cX10_cutAll 72 = .ok (.getfield 156, 3) := by decide +kernel
theorem dX10_cutAll_75 : decode cX10_cutAll 75 = .ok (.if_icmp .ge 54, 3) := by decide +kernel
theorem dX10_cutAll_78 : decode cX10_cutAll 78 = .ok (.aload_n 0, 1) := by decide +kernel
theorem dX10_cutAll_79 : decode cX10_cutAll 79 = .ok (.getfield 14, 3) := by decide +kernel
theorem dX10_cutAll_82 : decode cX10_cutAll 82 = .ok (.iload_n 2, 1) := by decide +kernel
theorem dX10_cutAll_83 : decode cX10_cutAll 83 = .ok (.iaload, 1) := by decide +kernel
theorem dX10_cutAll_84 : decode cX10_cutAll 84 = .ok (.invokestatic 152, 3) := by decide +kernel
theorem dX10_cutAll_87 : decode cX10_cutAll 87 = .ok (.ifCond .eq 42, 3) := by decide +kernel
theorem dX10_cutAll_90 : decode cX10_cutAll 90 = .ok (.iload_n 2, 1) := by decide +kernel
theorem dX10_cutAll_91 : decode cX10_cutAll 91 = .ok (.iload 4, 2) := by decide +kernel
theorem dX10_cutAll_93 : decode cX10_cutAll 93 = .ok (.isub, 1) := by decide +kernel
theorem dX10_cutAll_94 : decode cX10_cutAll 94 = .ok (.bipush 8, 2) := by decide +kernel
theorem dX10_cutAll_96 : decode cX10_cutAll 96 = .ok (.if_icmp .ge 23, 3) := by decide +kernel
theorem dX10_cutAll_99 : decode cX10_cutAll 99 = .ok (.ldc2_w 159, 3) := by decide +kernel
theorem dX10_cutAll_102 : decode cX10_cutAll 102 = .ok (.lload 5, 2) := by decide +kernel
theorem dX10_cutAll_104 : decode cX10_cutAll 104 = .ok (.lmul, 1) := by decide +kernel
theorem dX10_cutAll_105 : decode cX10_cutAll 105 = .ok (.aload_n 0, 1) := by decide +kernel
theorem dX10_cutAll_106 : decode cX10_cutAll 106 = .ok (.getfield 14, 3) := by decide +kernel
theorem dX10_cutAll_109 : decode cX10_cutAll 109 = .ok (.iload_n 2, 1) := by decide +kernel
theorem dX10_cutAll_110 : decode cX10_cutAll 110 = .ok (.iaload, 1) := by decide +kernel
theorem dX10_cutAll_111 : decode cX10_cutAll 111 = .ok (.invokestatic 161, 3) := by decide +kernel
theorem dX10_cutAll_114 : decode cX10_cutAll 114 = .ok (.i2l, 1) := by decide +kernel
theorem dX10_cutAll_115 : decode cX10_cutAll 115 = .ok (.ladd, 1) := by decide +kernel
theorem dX10_cutAll_116 : decode cX10_cutAll 116 = .ok (.goto 5, 3) := by decide +kernel
theorem dX10_cutAll_119 : decode cX10_cutAll 119 = .ok (.lload 5, 2) := by decide +kernel
theorem dX10_cutAll_121 : decode cX10_cutAll 121 = .ok (.lstore 5, 2) := by decide +kernel
theorem dX10_cutAll_123 : decode cX10_cutAll 123 = .ok (.iinc 2 1, 3) := by decide +kernel
theorem dX10_cutAll_126 : decode cX10_cutAll 126 = .ok (.goto (-56), 3) := by decide +kernel
theorem dX10_cutAll_129 : decode cX10_cutAll 129 = .ok (.aload_n 0, 1) := by decide +kernel
theorem dX10_cutAll_130 : decode cX10_cutAll 130 = .ok (.getfield 24, 3) := by decide +kernel
theorem dX10_cutAll_133 : decode cX10_cutAll 133 = .ok (.iload_n 1, 1) := by decide +kernel
theorem dX10_cutAll_134 : decode cX10_cutAll 134 = .ok (.iload_n 2, 1) := by decide +kernel
theorem dX10_cutAll_135 : decode cX10_cutAll 135 = .ok (.iload 4, 2) := by decide +kernel
theorem dX10_cutAll_137 : decode cX10_cutAll 137 = .ok (.isub, 1) := by decide +kernel
theorem dX10_cutAll_138 : decode cX10_cutAll 138 = .ok (.bipush 8, 2) := by decide +kernel
theorem dX10_cutAll_140 : decode cX10_cutAll 140 = .ok (.if_icmp .le 7, 3) := by decide +kernel
theorem dX10_cutAll_143 : decode cX10_cutAll 143 = .ok (.iconst 4, 1) := by decide +kernel
theorem dX10_cutAll_144 : decode cX10_cutAll 144 = .ok (.goto 4, 3) := by decide +kernel
theorem dX10_cutAll_147 : decode cX10_cutAll 147 = .ok (.iconst 1, 1) := by decide +kernel
theorem dX10_cutAll_148 : decode cX10_cutAll 148 = .ok (.iastore, 1) := by decide +kernel
theorem dX10_cutAll_149 : decode cX10_cutAll 149 = .ok (.goto 116, 3) := by decide +kernel
theorem dX10_cutAll_152 : decode cX10_cutAll 152 = .ok (.iload_n 3, 1) := by decide +kernel
theorem dX10_cutAll_153 : decode cX10_cutAll 153 = .ok (.invokestatic 165, 3) := by decide +kernel
theorem dX10_cutAll_156 : decode cX10_cutAll 156 = .ok (.ifCond .eq 84, 3) := by decide +kernel
theorem dX10_cutAll_159 : decode cX10_cutAll 159 = .ok (.iload_n 2, 1) := by decide +kernel
theorem dX10_cutAll_160 : decode cX10_cutAll 160 = .ok (.aload_n 0, 1) := by decide +kernel
theorem dX10_cutAll_161 : decode cX10_cutAll 161 = .ok (.getfield 156, 3) := by decide +kernel
theorem dX10_cutAll_164 : decode cX10_cutAll 164 = .ok (.if_icmp .ge 54, 3) := by decide +kernel
theorem dX10_cutAll_167 : decode cX10_cutAll 167 = .ok (.aload_n 0, 1) := by decide +kernel
theorem dX10_cutAll_168 : decode cX10_cutAll 168 = .ok (.getfield 14, 3) := by decide +kernel
theorem dX10_cutAll_171 : decode cX10_cutAll 171 = .ok (.iload_n 2, 1) := by decide +kernel
theorem dX10_cutAll_172 : decode cX10_cutAll 172 = .ok (.iaload, 1) := by decide +kernel
theorem dX10_cutAll_173 : decode cX10_cutAll 173 = .ok (.invokestatic 165, 3) := by decide +kernel
theorem dX10_cutAll_176 : decode cX10_cutAll 176 = .ok (.ifCond .eq 42, 3) := by decide +kernel
theorem dX10_cutAll_179 : decode cX10_cutAll 179 = .ok (.iload_n 2, 1) := by decide +kernel
theorem dX10_cutAll_180 : decode cX10_cutAll 180 = .ok (.iload 4, 2) := by decide +kernel
theorem dX10_cutAll_182 : decode cX10_cutAll 182 = .ok (.isub, 1) := by decide +kernel
theorem dX10_cutAll_183 : decode cX10_cutAll 183 = .ok (.iconst 4, 1) := by decide +kernel
theorem dX10_cutAll_184 : decode cX10_cutAll 184 = .ok (.if_icmp .ge 24, 3) := by decide +kernel
theorem dX10_cutAll_187 : decode cX10_cutAll 187 = .ok (.ldc2_w 168, 3) := by decide +kernel
theorem dX10_cutAll_190 : decode cX10_cutAll 190 = .ok (.lload 5, 2) := by decide +kernel
theorem dX10_cutAll_192 : decode cX10_cutAll 192 = .ok (.lmul, 1) := by decide +kernel
theorem dX10_cutAll_193 : decode cX10_cutAll 193 = .ok (.aload_n 0, 1) := by decide +kernel
theorem dX10_cutAll_194 : decode cX10_cutAll 194 = .ok (.getfield 14, 3) := by decide +kernel
theorem dX10_cutAll_197 : decode cX10_cutAll 197 = .ok (.iload_n 2, 1) := by decide +kernel
theorem dX10_cutAll_198 : decode cX10_cutAll 198 = .ok (.iaload, 1) := by decide +kernel
theorem dX10_cutAll_199 : decode cX10_cutAll 199 = .ok (.i2l, 1) := by decide +kernel
theorem dX10_cutAll_200 : decode cX10_cutAll 200 = .ok (.ladd, 1) := by decide +kernel
theorem dX10_cutAll_201 : decode cX10_cutAll 201 = .ok (.ldc2_w 170, 3) := by decide +kernel
theorem dX10_cutAll_204 : decode cX10_cutAll 204 = .ok (.lsub, 1) := by decide +kernel
theorem dX10_cutAll_205 : decode cX10_cutAll 205 = .ok (.goto 5, 3) := by decide +kernel
theorem dX10_cutAll_208 : decode cX10_cutAll 208 = .ok (.lload 5, 2) := by decide +kernel
theorem dX10_cutAll_210 : decode cX10_cutAll 210 = .ok (.lstore 5, 2) := by decide +kernel
theorem dX10_cutAll_212 : decode cX10_cutAll 212 = .ok (.iinc 2 1, 3) := by decide +kernel
theorem dX10_cutAll_215 : decode cX10_cutAll 215 = .ok (.goto (-56), 3) := by decide +kernel
theorem dX10_cutAll_218 : decode cX10_cutAll 218 = .ok (.aload_n 0, 1) := by decide +kernel
theorem dX10_cutAll_219 : decode cX10_cutAll 219 = .ok (.getfield 24, 3) := by decide +kernel
theorem dX10_cutAll_222 : decode cX10_cutAll 222 = .ok (.iload_n 1, 1) := by decide +kernel
theorem dX10_cutAll_223 : decode cX10_cutAll 223 = .ok (.iload_n 2, 1) := by decide +kernel
theorem dX10_cutAll_224 : decode cX10_cutAll 224 = .ok (.iload 4, 2) := by decide +kernel
theorem dX10_cutAll_226 : decode cX10_cutAll 226 = .ok (.isub, 1) := by decide +kernel
theorem dX10_cutAll_227 : decode cX10_cutAll 227 = .ok (.iconst 4, 1) := by decide +kernel
theorem dX10_cutAll_228 : decode cX10_cutAll 228 = .ok (.if_icmp .le 7, 3) := by decide +kernel
theorem dX10_cutAll_231 : decode cX10_cutAll 231 = .ok (.iconst 4, 1) := by decide +kernel
theorem dX10_cutAll_232 : decode cX10_cutAll 232 = .ok (.goto 4, 3) := by decide +kernel
theorem dX10_cutAll_235 : decode cX10_cutAll 235 = .ok (.iconst 2, 1) := by decide +kernel
theorem dX10_cutAll_236 : decode cX10_cutAll 236 = .ok (.iastore, 1) := by decide +kernel
theorem dX10_cutAll_237 : decode cX10_cutAll 237 = .ok (.goto 28, 3) := by decide +kernel
theorem dX10_cutAll_240 : decode cX10_cutAll 240 = .ok (.iload_n 3, 1) := by decide +kernel
theorem dX10_cutAll_241 : decode cX10_cutAll 241 = .ok (.i2l, 1) := by decide +kernel
theorem dX10_cutAll_242 : decode cX10_cutAll 242 = .ok (.lstore 5, 2) := by decide +kernel
theorem dX10_cutAll_244 : decode cX10_cutAll 244 = .ok (.aload_n 0, 1) := by decide +kernel
theorem dX10_cutAll_245 : decode cX10_cutAll 245 = .ok (.getfield 24, 3) := by decide +kernel
theorem dX10_cutAll_248 : decode cX10_cutAll 248 = .ok (.iload_n 1, 1) := by decide +kernel
theorem dX10_cutAll_249 : decode cX10_cutAll 249 = .ok (.iload_n 3, 1) := by decide +kernel
theorem dX10_cutAll_250 : decode cX10_cutAll 250 = .ok (.invokestatic 172, 3) := by decide +kernel
theorem dX10_cutAll_253 : decode cX10_cutAll 253 = .ok (.ifCond .eq 7, 3) := by decide +kernel
theorem dX10_cutAll_256 : decode cX10_cutAll 256 = .ok (.iconst 3, 1) := by decide +kernel
theorem dX10_cutAll_257 : decode cX10_cutAll 257 = .ok (.goto 4, 3) := by decide +kernel
theorem dX10_cutAll_260 : decode cX10_cutAll 260 = .ok (.iconst 4, 1) := by decide +kernel
theorem dX10_cutAll_261 : decode cX10_cutAll 261 = .ok (.iastore, 1) := by decide +kernel
theorem dX10_cutAll_262 : decode cX10_cutAll 262 = .ok (.iinc 2 1, 3) := by decide +kernel
theorem dX10_cutAll_265 : decode cX10_cutAll 265 = .ok (.aload_n 0, 1) := by decide +kernel
theorem dX10_cutAll_266 : decode cX10_cutAll 266 = .ok (.getfield 30, 3) := by decide +kernel
theorem dX10_cutAll_269 : decode cX10_cutAll 269 = .ok (.iload_n 1, 1) := by decide +kernel
theorem dX10_cutAll_270 : decode cX10_cutAll 270 = .ok (.lload 5, 2) := by decide +kernel
theorem dX10_cutAll_272 : decode cX10_cutAll 272 = .ok (.lastore, 1) := by decide +kernel
theorem dX10_cutAll_273 : decode cX10_cutAll 273 = .ok (.iinc 1 1, 3) := by decide +kernel
theorem dX10_cutAll_276 : decode cX10_cutAll 276 = .ok (.goto (-259), 3) := by decide +kernel
theorem dX10_cutAll_279 : decode cX10_cutAll 279 = .ok (.aload_n 0, 1) := by decide +kernel
theorem dX10_cutAll_280 : decode cX10_cutAll 280 = .ok (.getfield 24, 3) := by decide +kernel
theorem dX10_cutAll_283 : decode cX10_cutAll 283 = .ok (.iload_n 1, 1) := by decide +kernel
theorem dX10_cutAll_284 : decode cX10_cutAll 284 = .ok (.iconst 0, 1) := by decide +kernel
theorem dX10_cutAll_285 : decode cX10_cutAll 285 = .ok (.iastore, 1) := by decide +kernel
theorem dX10_cutAll_286 : decode cX10_cutAll 286 = .ok (.aload_n 0, 1) := by decide +kernel
theorem dX10_cutAll_287 : decode cX10_cutAll 287 = .ok (.getfield 27, 3) := by decide +kernel
theorem dX10_cutAll_290 : decode cX10_cutAll 290 = .ok (.iload_n 1, 1) := by decide +kernel
theorem dX10_cutAll_291 : decode cX10_cutAll 291 = .ok (.aload_n 0, 1) := by decide +kernel
theorem dX10_cutAll_292 : decode cX10_cutAll 292 = .ok (.getfield 156, 3) := by decide +kernel
theorem dX10_cutAll_295 : decode cX10_cutAll 295 = .ok (.iastore, 1) := by decide +kernel
theorem dX10_cutAll_296 : decode cX10_cutAll 296 = .ok (.aload_n 0, 1) := by decide +kernel
theorem dX10_cutAll_297 : decode cX10_cutAll 297 = .ok (.iconst 0, 1) := by decide +kernel
theorem dX10_cutAll_298 : decode cX10_cutAll 298 = .ok (.putfield 175, 3) := by decide +kernel
theorem dX10_cutAll_301 : decode cX10_cutAll 301 = .ok (.aload_n 0, 1) := by decide +kernel
theorem dX10_cutAll_302 : decode cX10_cutAll 302 = .ok (.iconst 0, 1) := by decide +kernel
theorem dX10_cutAll_303 : decode cX10_cutAll 303 = .ok (.putfield 178, 3) := by decide +kernel
theorem dX10_cutAll_306 : decode cX10_cutAll 306 = .ok (.return_, 1) := by decide +kernel
theorem dX10_wrong_0 : decode cX10_wrong 0 = .ok (.aload_n 0, 1) := by decide +kernel
theorem dX10_wrong_1 : decode cX10_wrong 1 = .ok (.getfield 178, 3) := by decide +kernel
theorem dX10_wrong_4 : decode cX10_wrong 4 = .ok (.ifCond .ne 21, 3) := by decide +kernel
theorem dX10_wrong_7 : decode cX10_wrong 7 = .ok (.aload_n 0, 1) := by decide +kernel
theorem dX10_wrong_8 : decode cX10_wrong 8 = .ok (.iload_n 1, 1) := by decide +kernel
theorem dX10_wrong_9 : decode cX10_wrong 9 = .ok (.bipush 16, 2) := by decide +kernel
theorem dX10_wrong_11 : decode cX10_wrong 11 = .ok (.aload_n 0, 1) := by decide +kernel
theorem dX10_wrong_12 : decode cX10_wrong 12 = .ok (.getfield 27, 3) := by decide +kernel
theorem dX10_wrong_15 : decode cX10_wrong 15 = .ok (.aload_n 0, 1) := by decide +kernel
theorem dX10_wrong_16 : decode cX10_wrong 16 = .ok (.getfield 175, 3) := by decide +kernel
theorem dX10_wrong_19 : decode cX10_wrong 19 = .ok (.iaload, 1) := by decide +kernel
theorem dX10_wrong_20 : decode cX10_wrong 20 = .ok (.imul, 1) := by decide +kernel
theorem dX10_wrong_21 : decode cX10_wrong 21 = .ok (.iadd, 1) := by decide +kernel
theorem dX10_wrong_22 : decode cX10_wrong 22 = .ok (.putfield 178, 3) := by decide +kernel
theorem dX10_wrong_25 : decode cX10_wrong 25 = .ok (.return_, 1) := by decide +kernel
theorem dX10_isSign_0 : decode cX10_isSign 0 = .ok (.aload_n 0, 1) := by decide +kernel
theorem dX10_isSign_1 : decode cX10_isSign 1 = .ok (.getfield 178, 3) := by decide +kernel
theorem dX10_isSign_4 : decode cX10_isSign 4 = .ok (.ifCond .ne 35, 3) := by decide +kernel
theorem dX10_isSign_7 : decode cX10_isSign 7 = .ok (.aload_n 0, 1) := by decide +kernel
theorem dX10_isSign_8 : decode cX10_isSign 8 = .ok (.getfield 24, 3) := by decide +kernel
theorem dX10_isSign_11 : decode cX10_isSign 11 = .ok (.aload_n 0, 1) := by decide +kernel
theorem dX10_isSign_12 : decode cX10_isSign 12 = .ok (.getfield 175, 3) := by decide +kernel
theorem dX10_isSign_15 : decode cX10_isSign 15 = .ok (.iaload, 1) := by decide +kernel
theorem dX10_isSign_16 : decode cX10_isSign 16 = .ok (.iconst 3, 1) := by decide +kernel
theorem dX10_isSign_17 : decode cX10_isSign 17 = .ok (.if_icmp .ne 22, 3) := by decide +kernel
theorem dX10_isSign_20 : decode cX10_isSign 20 = .ok (.aload_n 0, 1) := by decide +kernel
theorem dX10_isSign_21 : decode cX10_isSign 21 = .ok (.getfield 30, 3) := by decide +kernel
theorem dX10_isSign_24 : decode cX10_isSign 24 = .ok (.aload_n 0, 1) := by decide +kernel
theorem dX10_isSign_25 : decode cX10_isSign 25 = .ok (.getfield 175, 3) := by decide +kernel
theorem dX10_isSign_28 : decode cX10_isSign 28 = .ok (.laload, 1) := by decide +kernel
theorem dX10_isSign_29 : decode cX10_isSign 29 = .ok (.iload_n 1, 1) := by decide +kernel
theorem dX10_isSign_30 : decode cX10_isSign 30 = .ok (.i2l, 1) := by decide +kernel
theorem dX10_isSign_31 : decode cX10_isSign 31 = .ok (.lcmp, 1) := by decide +kernel
theorem dX10_isSign_32 : decode cX10_isSign 32 = .ok (.ifCond .ne 7, 3) := by decide +kernel
theorem dX10_isSign_35 : decode cX10_isSign 35 = .ok (.iconst 1, 1) := by decide +kernel
theorem dX10_isSign_36 : decode cX10_isSign 36 = .ok (.goto 4, 3) := by decide +kernel
theorem dX10_isSign_39 : decode cX10_isSign 39 = .ok (.iconst 0, 1) := by decide +kernel
theorem dX10_isSign_40 : decode cX10_isSign 40 = .ok (.ireturn, 1) := by decide +kernel
theorem dX10_isWord_0 : decode cX10_isWord 0 = .ok (.aload_n 0, 1) := by decide +kernel
theorem dX10_isWord_1 : decode cX10_isWord 1 = .ok (.getfield 178, 3) := by decide +kernel
theorem dX10_isWord_4 : decode cX10_isWord 4 = .ok (.ifCond .ne 39, 3) := by decide +kernel
theorem dX10_isWord_7 : decode cX10_isWord 7 = .ok (.aload_n 0, 1) := by decide +kernel
theorem dX10_isWord_8 : decode cX10_isWord 8 = .ok (.getfield 24, 3) := by decide +kernel
theorem dX10_isWord_11 : decode cX10_isWord 11 = .ok (.aload_n 0, 1) := by decide +kernel
theorem dX10_isWord_12 : decode cX10_isWord 12 = .ok (.getfield 175, 3) := by decide +kernel
theorem dX10_isWord_15 : decode cX10_isWord 15 = .ok (.iaload, 1) := by decide +kernel
theorem dX10_isWord_16 : decode cX10_isWord 16 = .ok (.iconst 1, 1) := by decide +kernel
theorem dX10_isWord_17 : decode cX10_isWord 17 = .ok (.if_icmp .ne 26, 3) := by decide +kernel
theorem dX10_isWord_20 : decode cX10_isWord 20 = .ok (.aload_n 0, 1) := by decide +kernel
theorem dX10_isWord_21 : decode cX10_isWord 21 = .ok (.getfield 30, 3) := by decide +kernel
theorem dX10_isWord_24 : decode cX10_isWord 24 = .ok (.aload_n 0, 1) := by decide +kernel
theorem dX10_isWord_25 : decode cX10_isWord 25 = .ok (.getfield 175, 3) := by decide +kernel
theorem dX10_isWord_28 : decode cX10_isWord 28 = .ok (.laload, 1) := by decide +kernel
theorem dX10_isWord_29 : decode cX10_isWord 29 = .ok (.aload_n 0, 1) := by decide +kernel
theorem dX10_isWord_30 : decode cX10_isWord 30 = .ok (.getfield 52, 3) := by decide +kernel
theorem dX10_isWord_33 : decode cX10_isWord 33 = .ok (.iload_n 1, 1) := by decide +kernel
theorem dX10_isWord_34 : decode cX10_isWord 34 = .ok (.laload, 1) := by decide +kernel
theorem dX10_isWord_35 : decode cX10_isWord 35 = .ok (.lcmp, 1) := by decide +kernel
theorem dX10_isWord_36 : decode cX10_isWord 36 = .ok (.ifCond .ne 7, 3) := by decide +kernel
theorem dX10_isWord_39 : decode cX10_isWord 39 = .ok (.iconst 1, 1) := by decide +kernel
theorem dX10_isWord_40 : decode cX10_isWord 40 = .ok (.goto 4, 3) := by decide +kernel
theorem dX10_isWord_43 : decode cX10_isWord 43 = .ok (.iconst 0, 1) := by decide +kernel
theorem dX10_isWord_44 : decode cX10_isWord 44 = .ok (.ireturn, 1) := by decide +kernel
theorem dX10_takeSign_0 : decode cX10_takeSign 0 = .ok (.aload_n 0, 1) := by decide +kernel
theorem dX10_takeSign_1 : decode cX10_takeSign 1 = .ok (.iload_n 1, 1) := by decide +kernel
theorem dX10_takeSign_2 : decode cX10_takeSign 2 = .ok (.invokevirtual 181, 3) := by decide +kernel
theorem dX10_takeSign_5 : decode cX10_takeSign 5 = .ok (.ifCond .eq 16, 3) := by decide +kernel
theorem dX10_takeSign_8 : decode cX10_takeSign 8 = .ok (.aload_n 0, 1) := by decide +kernel
theorem dX10_takeSign_9 : decode cX10_takeSign 9 = .ok (.dup, 1) := by decide +kernel
theorem dX10_takeSign_10 : decode cX10_takeSign 10 = .ok (.getfield 175, 3) := by decide +kernel
theorem dX10_takeSign_13 : decode cX10_takeSign 13 = .ok (.iconst 1, 1) := by decide +kernel
theorem dX10_takeSign_14 : decode cX10_takeSign 14 = .ok (.iadd, 1) := by decide +kernel
theorem dX10_takeSign_15 : decode cX10_takeSign 15 = .ok (.putfield 175, 3) := by decide +kernel
theorem dX10_takeSign_18 : decode cX10_takeSign 18 = .ok (.goto 8, 3) := by decide +kernel
theorem dX10_takeSign_21 : decode cX10_takeSign 21 = .ok (.aload_n 0, 1) := by decide +kernel
theorem dX10_takeSign_22 : decode cX10_takeSign 22 = .ok (.iconst 1, 1) := by decide +kernel
theorem dX10_takeSign_23 : decode cX10_takeSign 23 = .ok (.invokevirtual 184, 3) := by decide +kernel
theorem dX10_takeSign_26 : decode cX10_takeSign 26 = .ok (.return_, 1) := by decide +kernel
theorem dX10_hasSign_0 : decode cX10_hasSign 0 = .ok (.aload_n 0, 1) := by decide +kernel
theorem dX10_hasSign_1 : decode cX10_hasSign 1 = .ok (.iload_n 1, 1) := by decide +kernel
theorem dX10_hasSign_2 : decode cX10_hasSign 2 = .ok (.invokevirtual 181, 3) := by decide +kernel
theorem dX10_hasSign_5 : decode cX10_hasSign 5 = .ok (.istore_n 2, 1) := by decide +kernel
theorem dX10_hasSign_6 : decode cX10_hasSign 6 = .ok (.aload_n 0, 1) := by decide +kernel
theorem dX10_hasSign_7 : decode cX10_hasSign 7 = .ok (.dup, 1) := by decide +kernel
theorem dX10_hasSign_8 : decode cX10_hasSign 8 = .ok (.getfield 175, 3) := by decide +kernel
theorem dX10_hasSign_11 : decode cX10_hasSign 11 = .ok (.iload_n 2, 1) := by decide +kernel
theorem dX10_hasSign_12 : decode cX10_hasSign 12 = .ok (.ifCond .eq 7, 3) := by decide +kernel
theorem dX10_hasSign_15 : decode cX10_hasSign 15 = .ok (.iconst 1, 1) := by decide +kernel
theorem dX10_hasSign_16 : decode cX10_hasSign 16 = .ok (.goto 4, 3) := by decide +kernel
theorem dX10_hasSign_19 : decode cX10_hasSign 19 = .ok (.iconst 0, 1) := by decide +kernel
theorem dX10_hasSign_20 : decode cX10_hasSign 20 = .ok (.iadd, 1) := by decide +kernel
theorem dX10_hasSign_21 : decode cX10_hasSign 21 = .ok (.putfield 175, 3) := by decide +kernel
theorem dX10_hasSign_24 : decode cX10_hasSign 24 = .ok (.iload_n 2, 1) := by decide +kernel
theorem dX10_hasSign_25 : decode cX10_hasSign 25 = .ok (.ireturn, 1) := by decide +kernel
theorem dX10_hasWord_0 : decode cX10_hasWord 0 = .ok (.aload_n 0, 1) := by decide +kernel
theorem dX10_hasWord_1 : decode cX10_hasWord 1 = .ok (.iload_n 1, 1) := by decide +kernel
theorem dX10_hasWord_2 : decode cX10_hasWord 2 = .ok (.invokevirtual 188, 3) := by decide +kernel
theorem dX10_hasWord_5 : decode cX10_hasWord 5 = .ok (.istore_n 2, 1) := by decide +kernel
theorem dX10_hasWord_6 : decode cX10_hasWord 6 = .ok (.aload_n 0, 1) := by decide +kernel
theorem dX10_hasWord_7 : decode cX10_hasWord 7 = .ok (.dup, 1) := by decide +kernel
theorem dX10_hasWord_8 : decode cX10_hasWord 8 = .ok (.getfield 175, 3) := by decide +kernel
theorem dX10_hasWord_11 : decode cX10_hasWord 11 = .ok (.iload_n 2, 1) := by decide +kernel
theorem dX10_hasWord_12 : decode cX10_hasWord 12 = .ok (.ifCond .eq 7, 3) := by decide +kernel
theorem dX10_hasWord_15 : decode cX10_hasWord 15 = .ok (.iconst 1, 1) := by decide +kernel
theorem dX10_hasWord_16 : decode cX10_hasWord 16 = .ok (.goto 4, 3) := by decide +kernel
theorem dX10_hasWord_19 : decode cX10_hasWord 19 = .ok (.iconst 0, 1) := by decide +kernel
theorem dX10_hasWord_20 : decode cX10_hasWord 20 = .ok (.iadd, 1) := by decide +kernel
theorem dX10_hasWord_21 : decode cX10_hasWord 21 = .ok (.putfield 175, 3) := by decide +kernel
theorem dX10_hasWord_24 : decode cX10_hasWord 24 = .ok (.iload_n 2, 1) := by decide +kernel
theorem dX10_hasWord_25 : decode cX10_hasWord 25 = .ok (.ireturn, 1) := by decide +kernel
theorem dX10_takeWord_0 : decode cX10_takeWord 0 = .ok (.aload_n 0, 1) := by decide +kernel
theorem dX10_takeWord_1 : decode cX10_takeWord 1 = .ok (.iload_n 1, 1) := by decide +kernel
theorem dX10_takeWord_2 : decode cX10_takeWord 2 = .ok (.invokevirtual 191, 3) := by decide +kernel
theorem dX10_takeWord_5 : decode cX10_takeWord 5 = .ok (.ifCond .ne 8, 3) := by decide +kernel
theorem dX10_takeWord_8 : decode cX10_takeWord 8 = .ok (.aload_n 0, 1) := by decide +kernel
theorem dX10_takeWord_9 : decode cX10_takeWord 9 = .ok (.iconst 1, 1) := by decide +kernel
theorem dX10_takeWord_10 : decode cX10_takeWord 10 = .ok (.invokevirtual 184, 3) := by decide +kernel
theorem dX10_takeWord_13 : decode cX10_takeWord 13 = .ok (.return_, 1) := by decide +kernel
theorem dX10_emit_0 : decode cX10_emit 0 = .ok (.aload_n 0, 1) := by decide +kernel
theorem dX10_emit_1 : decode cX10_emit 1 = .ok (.getfield 64, 3) := by decide +kernel
theorem dX10_emit_4 : decode cX10_emit 4 = .ok (.sipush 660, 3) := by decide +kernel
theorem dX10_emit_7 : decode cX10_emit 7 = .ok (.aload_n 0, 1) := by decide +kernel
theorem dX10_emit_8 : decode cX10_emit 8 = .ok (.getfield 194, 3) := by decide +kernel
theorem dX10_emit_11 : decode cX10_emit 11 = .ok (.imul, 1) := by decide +kernel
theorem dX10_emit_12 : decode cX10_emit 12 = .ok (.aload_n 0, 1) := by decide +kernel
theorem dX10_emit_13 : decode cX10_emit 13 = .ok (.getfield 197, 3) := by decide +kernel
theorem dX10_emit_16 : decode cX10_emit 16 = .ok (.iadd, 1) := by decide +kernel
theorem dX10_emit_17 : decode cX10_emit 17 = .ok (.iload_n 1, 1) := by decide +kernel
theorem dX10_emit_18 : decode cX10_emit 18 = .ok (.iastore, 1) := by decide +kernel
theorem dX10_emit_19 : decode cX10_emit 19 = .ok (.aload_n 0, 1) := by decide +kernel
theorem dX10_emit_20 : decode cX10_emit 20 = .ok (.getfield 67, 3) := by decide +kernel
theorem dX10_emit_23 : decode cX10_emit 23 = .ok (.sipush 660, 3) := by decide +kernel
theorem dX10_emit_26 : decode cX10_emit 26 = .ok (.aload_n 0, 1) := by decide +kernel
theorem dX10_emit_27 : decode cX10_emit 27 = .ok (.getfield 194, 3) := by decide +kernel
theorem dX10_emit_30 : decode cX10_emit 30 = .ok (.imul, 1) := by decide +kernel
theorem dX10_emit_31 : decode cX10_emit 31 = .ok (.aload_n 0, 1) := by decide +kernel
theorem dX10_emit_32 : decode cX10_emit 32 = .ok (.getfield 197, 3) := by decide +kernel
theorem dX10_emit_35 : decode cX10_emit 35 = .ok (.iadd, 1) := by decide +kernel
theorem dX10_emit_36 : decode cX10_emit 36 = .ok (.iload_n 2, 1) := by decide +kernel
theorem dX10_emit_37 : decode cX10_emit 37 = .ok (.iastore, 1) := by decide +kernel
theorem dX10_emit_38 : decode cX10_emit 38 = .ok (.aload_n 0, 1) := by decide +kernel
theorem dX10_emit_39 : decode cX10_emit 39 = .ok (.dup, 1) := by decide +kernel
theorem dX10_emit_40 : decode cX10_emit 40 = .ok (.getfield 197, 3) := by decide +kernel
theorem dX10_emit_43 : decode cX10_emit 43 = .ok (.iconst 1, 1) := by decide +kernel
theorem dX10_emit_44 : decode cX10_emit 44 = .ok (.iadd, 1) := by decide +kernel
theorem dX10_emit_45 : decode cX10_emit 45 = .ok (.putfield 197, 3) := by decide +kernel
theorem dX10_emit_48 : decode cX10_emit 48 = .ok (.return_, 1) := by decide +kernel
theorem dX10_text_0 : decode cX10_text 0 = .ok (.aload_n 0, 1) := by decide +kernel
theorem dX10_text_1 : decode cX10_text 1 = .ok (.iconst 0, 1) := by decide +kernel
theorem dX10_text_2 : decode cX10_text 2 = .ok (.putfield 1, 3) := by decide +kernel
theorem dX10_text_5 : decode cX10_text 5 = .ok (.aload_n 0, 1) := by decide +kernel
theorem dX10_text_6 : decode cX10_text 6 = .ok (.invokevirtual 200, 3) := by decide +kernel
theorem dX10_text_9 : decode cX10_text 9 = .ok (.aload_n 0, 1) := by decide +kernel
theorem dX10_text_10 : decode cX10_text 10 = .ok (.iconst 1, 1) := by decide +kernel
theorem dX10_text_11 : decode cX10_text 11 = .ok (.aload_n 0, 1) := by decide +kernel
theorem dX10_text_12 : decode cX10_text 12 = .ok (.getfield 203, 3) := by decide +kernel
theorem dX10_text_15 : decode cX10_text 15 = .ok (.isub, 1) := by decide +kernel
theorem dX10_text_16 : decode cX10_text 16 = .ok (.putfield 194, 3) := by decide +kernel
theorem dX10_text_19 : decode cX10_text 19 = .ok (.aload_n 0, 1) := by decide +kernel
theorem dX10_text_20 : decode cX10_text 20 = .ok (.getfield 55, 3) := by decide +kernel
theorem dX10_text_23 : decode cX10_text 23 = .ok (.aload_n 0, 1) := by decide +kernel
theorem dX10_text_24 : decode cX10_text 24 = .ok (.getfield 194, 3) := by decide +kernel
theorem dX10_text_27 : decode cX10_text 27 = .ok (.iconst 0, 1) := by decide +kernel
theorem dX10_text_28 : decode cX10_text 28 = .ok (.iastore, 1) := by decide +kernel
theorem dX10_text_29 : decode cX10_text 29 = .ok (.aload_n 0, 1) := by decide +kernel
theorem dX10_text_30 : decode cX10_text 30 = .ok (.iconst 0, 1) := by decide +kernel
theorem dX10_text_31 : decode cX10_text 31 = .ok (.putfield 197, 3) := by decide +kernel
theorem dX10_text_34 : decode cX10_text 34 = .ok (.aload_n 0, 1) := by decide +kernel
theorem dX10_text_35 : decode cX10_text 35 = .ok (.getfield 178, 3) := by decide +kernel
theorem dX10_text_38 : decode cX10_text 38 = .ok (.ifCond .ne 22, 3) := by decide +kernel
theorem dX10_text_41 : decode cX10_text 41 = .ok (.aload_n 0, 1) := by decide +kernel
theorem dX10_text_42 : decode cX10_text 42 = .ok (.getfield 24, 3) := by decide +kernel
theorem dX10_text_45 : decode cX10_text 45 = .ok (.aload_n 0, 1) := by decide +kernel
theorem dX10_text_46 : decode cX10_text 46 = .ok (.getfield 175, 3) := by decide +kernel
theorem dX10_text_49 : decode cX10_text 49 = .ok (.iaload, 1) := by decide +kernel
theorem dX10_text_50 : decode cX10_text 50 = .ok (.ifCond .eq 10, 3) := by decide +kernel
theorem dX10_text_53 : decode cX10_text 53 = .ok (.aload_n 0, 1) := by decide +kernel
theorem dX10_text_54 : decode cX10_text 54 = .ok (.invokevirtual 206, 3) := by decide +kernel
theorem dX10_text_57 : decode cX10_text 57 = .ok (.goto (-23), 3) := by decide +kernel
theorem dX10_text_60 : decode cX10_text 60 = .ok (.aload_n 0, 1) := by decide +kernel
theorem dX10_text_61 : decode cX10_text 61 = .ok (.getfield 178, 3) := by decide +kernel
theorem dX10_text_64 : decode cX10_text 64 = .ok (.ifCond .ne 11, 3) := by decide +kernel
theorem dX10_text_67 : decode cX10_text 67 = .ok (.aload_n 0, 1) := by decide +kernel
theorem dX10_text_68 : decode cX10_text 68 = .ok (.aload_n 0, 1) := by decide +kernel
theorem dX10_text_69 : decode cX10_text 69 = .ok (.getfield 194, 3) := by decide +kernel
theorem dX10_text_72 : decode cX10_text 72 = .ok (.putfield 203, 3) := by decide +kernel
theorem dX10_text_75 : decode cX10_text 75 = .ok (.aload_n 0, 1) := by decide +kernel
theorem dX10_text_76 : decode cX10_text 76 = .ok (.getfield 178, 3) := by decide +kernel
theorem dX10_text_79 : decode cX10_text 79 = .ok (.ireturn, 1) := by decide +kernel
theorem dX10_line_0 : decode cX10_line 0 = .ok (.aload_n 0, 1) := by decide +kernel
theorem dX10_line_1 : decode cX10_line 1 = .ok (.iconst 0, 1) := by decide +kernel
theorem dX10_line_2 : decode cX10_line 2 = .ok (.invokevirtual 188, 3) := by decide +kernel
theorem dX10_line_5 : decode cX10_line 5 = .ok (.ifCond .ne 11, 3) := by decide +kernel
theorem dX10_line_8 : decode cX10_line 8 = .ok (.aload_n 0, 1) := by decide +kernel
theorem dX10_line_9 : decode cX10_line 9 = .ok (.iconst 1, 1) := by decide +kernel
theorem dX10_line_10 : decode cX10_line 10 = .ok (.invokevirtual 184, 3) := by decide +kernel
theorem dX10_line_13 : decode cX10_line 13 = .ok (.goto 22, 3) := by decide +kernel
theorem dX10_line_16 : decode cX10_line 16 = .ok (.aload_n 0, 1) := by decide +kernel
theorem dX10_line_17 : decode cX10_line 17 = .ok (.getfield 55, 3) := by decide +kernel
theorem dX10_line_20 : decode cX10_line 20 = .ok (.aload_n 0, 1) := by decide +kernel
theorem dX10_line_21 : decode cX10_line 21 = .ok (.getfield 194, 3) := by decide +kernel
theorem dX10_line_24 : decode cX10_line 24 = .ok (.iaload, 1) := by decide +kernel
theorem dX10_line_25 : decode cX10_line 25 = .ok (.bipush 16, 2) := by decide +kernel
theorem dX10_line_27 : decode cX10_line 27 = .ok (.if_icmp .ne 8, 3) := by decide +kernel
theorem dX10_line_30 : decode cX10_line 30 = .ok (.aload_n 0, 1) := by decide +kernel
theorem dX10_line_31 : decode cX10_line 31 = .ok (.iconst 5, 1) := by decide +kernel
theorem dX10_line_32 : decode cX10_line 32 = .ok (.invokevirtual 184, 3) := by decide +kernel
theorem dX10_line_35 : decode cX10_line 35 = .ok (.aload_n 0, 1) := by decide +kernel
theorem dX10_line_36 : decode cX10_line 36 = .ok (.getfield 178, 3) := by decide +kernel
theorem dX10_line_39 : decode cX10_line 39 = .ok (.ifCond .le 4, 3) := by decide +kernel
theorem dX10_line_42 : decode cX10_line 42 = .ok (.return_, 1) := by decide +kernel
theorem dX10_line_43 : decode cX10_line 43 = .ok (.aload_n 0, 1) := by decide +kernel
theorem dX10_line_44 : decode cX10_line 44 = .ok (.dup, 1) := by decide +kernel
theorem dX10_line_45 : decode cX10_line 45 = .ok (.getfield 175, 3) := by decide +kernel
theorem dX10_line_48 : decode cX10_line 48 = .ok (.iconst 1, 1) := by decide +kernel
theorem dX10_line_49 : decode cX10_line 49 = .ok (.iadd, 1) := by decide +kernel
theorem dX10_line_50 : decode cX10_line 50 = .ok (.putfield 175, 3) := by decide +kernel
theorem dX10_line_53 : decode cX10_line 53 = .ok (.bipush 16, 2) := by decide +kernel
theorem dX10_line_55 : decode cX10_line 55 = .ok (.aload_n 0, 1) := by decide +kernel
theorem dX10_line_56 : decode cX10_line 56 = .ok (.getfield 194, 3) := by decide +kernel
theorem dX10_line_59 : decode cX10_line 59 = .ok (.imul, 1) := by decide +kernel
theorem dX10_line_60 : decode cX10_line 60 = .ok (.aload_n 0, 1) := by decide +kernel
theorem dX10_line_61 : decode cX10_line 61 = .ok (.getfield 55, 3) := by decide +kernel
theorem dX10_line_64 : decode cX10_line 64 = .ok (.aload_n 0, 1) := by decide +kernel
theorem dX10_line_65 : decode cX10_line 65 = .ok (.getfield 194, 3) := by decide +kernel
theorem dX10_line_68 : decode cX10_line 68 = .ok (.iaload, 1) := by decide +kernel
theorem dX10_line_69 : decode cX10_line 69 = .ok (.iadd, 1) := by decide +kernel
theorem dX10_line_70 : decode cX10_line 70 = .ok (.istore_n 1, 1) := by decide +kernel
theorem dX10_line_71 : decode cX10_line 71 = .ok (.aload_n 0, 1) := by decide +kernel
theorem dX10_line_72 : decode cX10_line 72 = .ok (.getfield 24, 3) := by decide +kernel
theorem dX10_line_75 : decode cX10_line 75 = .ok (.aload_n 0, 1) := by decide +kernel
theorem dX10_line_76 : decode cX10_line 76 = .ok (.getfield 175, 3) := by decide +kernel
theorem dX10_line_79 : decode cX10_line 79 = .ok (.iaload, 1) := by decide +kernel
theorem dX10_line_80 : decode cX10_line 80 = .ok (.iconst 2, 1) := by decide +kernel
theorem dX10_line_81 : decode cX10_line 81 = .ok (.if_icmp .eq 11, 3) := by decide +kernel
theorem dX10_line_84 : decode cX10_line 84 = .ok (.aload_n 0, 1) := by decide +kernel
theorem dX10_line_85 : decode cX10_line 85 = .ok (.iconst 1, 1) := by decide +kernel
theorem dX10_line_86 : decode cX10_line 86 = .ok (.invokevirtual 184, 3) := by decide +kernel
theorem dX10_line_89 : decode cX10_line 89 = .ok (.goto 24, 3) := by decide +kernel
theorem dX10_line_92 : decode cX10_line 92 = .ok (.aload_n 0, 1) := by decide +kernel
theorem dX10_line_93 : decode cX10_line 93 = .ok (.getfield 30, 3) := by decide +kernel
theorem dX10_line_96 : decode cX10_line 96 = .ok (.aload_n 0, 1) := by decide +kernel
theorem dX10_line_97 : decode cX10_line 97 = .ok (.getfield 175, 3) := by decide +kernel
theorem dX10_line_100 : decode cX10_line 100 = .ok (.laload, 1) := by decide +kernel
theorem dX10_line_101 : decode cX10_line 101 = .ok (.ldc2_w 209, 3) := by decide +kernel
theorem dX10_line_104 : decode cX10_line 104 = .ok (.lcmp, 1) := by decide +kernel
theorem dX10_line_105 : decode cX10_line 105 = .ok (.ifCond .le 8, 3) := by decide +kernel
theorem dX10_line_108 : decode cX10_line 108 = .ok (.aload_n 0, 1) := by decide +kernel
theorem dX10_line_109 : decode cX10_line 109 = .ok (.iconst 4, 1) := by decide +kernel
theorem dX10_line_110 : decode cX10_line 110 = .ok (.invokevirtual 184, 3) := by decide +kernel
theorem dX10_line_113 : decode cX10_line 113 = .ok (.aload_n 0, 1) := by decide +kernel
theorem dX10_line_114 : decode cX10_line 114 = .ok (.getfield 58, 3) := by decide +kernel
theorem dX10_line_117 : decode cX10_line 117 = .ok (.iload_n 1, 1) := by decide +kernel
theorem dX10_line_118 : decode cX10_line 118 = .ok (.aload_n 0, 1) := by decide +kernel
theorem dX10_line_119 : decode cX10_line 119 = .ok (.getfield 178, 3) := by decide +kernel
theorem dX10_line_122 : decode cX10_line 122 = .ok (.ifCond .le 7, 3) := by decide +kernel
theorem dX10_line_125 : decode cX10_line 125 = .ok (.iconst 0, 1) := by decide +kernel
theorem dX10_line_126 : decode cX10_line 126 = .ok (.goto 13, 3) := by decide +kernel
theorem dX10_line_129 : decode cX10_line 129 = .ok (.aload_n 0, 1) := by decide +kernel
theorem dX10_line_130 : decode cX10_line 130 = .ok (.getfield 30, 3) := by decide +kernel
theorem dX10_line_133 : decode cX10_line 133 = .ok (.aload_n 0, 1) := by decide +kernel
theorem dX10_line_134 : decode cX10_line 134 = .ok (.getfield 175, 3) := by decide +kernel
theorem dX10_line_137 : decode cX10_line 137 = .ok (.laload, 1) := by decide +kernel
theorem dX10_line_138 : decode cX10_line 138 = .ok (.l2i, 1) := by decide +kernel
theorem dX10_line_139 : decode cX10_line 139 = .ok (.iastore, 1) := by decide +kernel
theorem dX10_line_140 : decode cX10_line 140 = .ok (.aload_n 0, 1) := by decide +kernel
theorem dX10_line_141 : decode cX10_line 141 = .ok (.dup, 1) := by decide +kernel
theorem dX10_line_142 : decode cX10_line 142 = .ok (.getfield 175, 3) := by decide +kernel
theorem dX10_line_145 : decode cX10_line 145 = .ok (.iconst 1, 1) := by decide +kernel
theorem dX10_line_146 : decode cX10_line 146 = .ok (.iadd, 1) := by decide +kernel
theorem dX10_line_147 : decode cX10_line 147 = .ok (.putfield 175, 3) := by decide +kernel
theorem dX10_line_150 : decode cX10_line 150 = .ok (.aload_n 0, 1) := by decide +kernel
theorem dX10_line_151 : decode cX10_line 151 = .ok (.iconst 1, 1) := by decide +kernel
theorem dX10_line_152 : decode cX10_line 152 = .ok (.invokevirtual 211, 3) := by decide +kernel
theorem dX10_line_155 : decode cX10_line 155 = .ok (.aload_n 0, 1) := by decide +kernel
theorem dX10_line_156 : decode cX10_line 156 = .ok (.getfield 61, 3) := by decide +kernel
theorem dX10_line_159 : decode cX10_line 159 = .ok (.iload_n 1, 1) := by decide +kernel
theorem dX10_line_160 : decode cX10_line 160 = .ok (.sipush 660, 3) := by decide +kernel
theorem dX10_line_163 : decode cX10_line 163 = .ok (.aload_n 0, 1) := by decide +kernel
theorem dX10_line_164 : decode cX10_line 164 = .ok (.getfield 194, 3) := by decide +kernel
theorem dX10_line_167 : decode cX10_line 167 = .ok (.imul, 1) := by decide +kernel
theorem dX10_line_168 : decode cX10_line 168 = .ok (.aload_n 0, 1) := by decide +kernel
theorem dX10_line_169 : decode cX10_line 169 = .ok (.getfield 197, 3) := by decide +kernel
theorem dX10_line_172 : decode cX10_line 172 = .ok (.iadd, 1) := by decide +kernel
theorem dX10_line_173 : decode cX10_line 173 = .ok (.iastore, 1) := by decide +kernel
theorem dX10_line_174 : decode cX10_line 174 = .ok (.aload_n 0, 1) := by decide +kernel
theorem dX10_line_175 : decode cX10_line 175 = .ok (.iconst 0, 1) := by decide +kernel
theorem dX10_line_176 : decode cX10_line 176 = .ok (.putfield 214, 3) := by decide +kernel
theorem dX10_line_179 : decode cX10_line 179 = .ok (.aload_n 0, 1) := by decide +kernel
theorem dX10_line_180 : decode cX10_line 180 = .ok (.invokevirtual 217, 3) := by decide +kernel
theorem dX10_line_183 : decode cX10_line 183 = .ok (.iconst 1, 1) := by decide +kernel
theorem dX10_line_184 : decode cX10_line 184 = .ok (.istore_n 2, 1) := by decide +kernel
theorem dX10_line_185 : decode cX10_line 185 = .ok (.iload_n 2, 1) := by decide +kernel
theorem dX10_line_186 : decode cX10_line 186 = .ok (.ifCond .eq 33, 3) := by decide +kernel
theorem dX10_line_189 : decode cX10_line 189 = .ok (.aload_n 0, 1) := by decide +kernel
theorem dX10_line_190 : decode cX10_line 190 = .ok (.getfield 178, 3) := by decide +kernel
theorem dX10_line_193 : decode cX10_line 193 = .ok (.ifCond .ne 26, 3) := by decide +kernel
theorem dX10_line_196 : decode cX10_line 196 = .ok (.aload_n 0, 1) := by decide +kernel
theorem dX10_line_197 : decode cX10_line 197 = .ok (.invokevirtual 220, 3) := by decide +kernel
theorem dX10_line_200 : decode cX10_line 200 = .ok (.ifCond .ne 10, 3) := by decide +kernel
theorem dX10_line_203 : decode cX10_line 203 = .ok (.aload_n 0, 1) := by decide +kernel
theorem dX10_line_204 : decode cX10_line 204 = .ok (.invokevirtual 224, 3) := by decide +kernel
theorem dX10_line_207 : decode cX10_line 207 = .ok (.ifCond .eq 7, 3) := by decide +kernel
theorem dX10_line_210 : decode cX10_line 210 = .ok (.iconst 1, 1) := by decide +kernel
theorem dX10_line_211 : decode cX10_line 211 = .ok (.goto 4, 3) := by decide +kernel
theorem dX10_line_214 : decode cX10_line 214 = .ok (.iconst 0, 1) := by decide +kernel
theorem dX10_line_215 : decode cX10_line 215 = .ok (.istore_n 2, 1) := by decide +kernel
theorem dX10_line_216 : decode cX10_line 216 = .ok (.goto (-31), 3) := by decide +kernel
theorem dX10_line_219 : decode cX10_line 219 = .ok (.aload_n 0, 1) := by decide +kernel
theorem dX10_line_220 : decode cX10_line 220 = .ok (.iconst 0, 1) := by decide +kernel
theorem dX10_line_221 : decode cX10_line 221 = .ok (.iconst 0, 1) := by decide +kernel
theorem dX10_line_222 : decode cX10_line 222 = .ok (.invokevirtual 227, 3) := by decide +kernel
theorem dX10_line_225 : decode cX10_line 225 = .ok (.aload_n 0, 1) := by decide +kernel
theorem dX10_line_226 : decode cX10_line 226 = .ok (.bipush 59, 2) := by decide +kernel
theorem dX10_line_228 : decode cX10_line 228 = .ok (.invokevirtual 231, 3) := by decide +kernel
theorem dX10_line_231 : decode cX10_line 231 = .ok (.aload_n 0, 1) := by decide +kernel
theorem dX10_line_232 : decode cX10_line 232 = .ok (.getfield 55, 3) := by decide +kernel
theorem dX10_line_235 : decode cX10_line 235 = .ok (.aload_n 0, 1) := by decide +kernel
theorem dX10_line_236 : decode cX10_line 236 = .ok (.getfield 194, 3) := by decide +kernel
theorem dX10_line_239 : decode cX10_line 239 = .ok (.dup2, 1) := by decide +kernel
theorem dX10_line_240 : decode cX10_line 240 = .ok (.iaload, 1) := by decide +kernel
theorem dX10_line_241 : decode cX10_line 241 = .ok (.iconst 1, 1) := by decide +kernel
theorem dX10_line_242 : decode cX10_line 242 = .ok (.iadd, 1) := by decide +kernel
theorem dX10_line_243 : decode cX10_line 243 = .ok (.iastore, 1) := by decide +kernel
theorem dX10_line_244 : decode cX10_line 244 = .ok (.return_, 1) := by decide +kernel
theorem dX10_opens_0 : decode cX10_opens 0 = .ok (.aload_n 0, 1) := by decide +kernel
theorem dX10_opens_1 : decode cX10_opens 1 = .ok (.getfield 70, 3) := by decide +kernel
theorem dX10_opens_4 : decode cX10_opens 4 = .ok (.aload_n 0, 1) := by decide +kernel
theorem dX10_opens_5 : decode cX10_opens 5 = .ok (.getfield 214, 3) := by decide +kernel
theorem dX10_opens_8 : decode cX10_opens 8 = .ok (.iconst 0, 1) := by decide +kernel
theorem dX10_opens_9 : decode cX10_opens 9 = .ok (.iastore, 1) := by decide +kernel
theorem dX10_opens_10 : decode cX10_opens 10 = .ok (.aload_n 0, 1) := by decide +kernel
theorem dX10_opens_11 : decode cX10_opens 11 = .ok (.getfield 73, 3) := by decide +kernel
theorem dX10_opens_14 : decode cX10_opens 14 = .ok (.aload_n 0, 1) := by decide +kernel
theorem dX10_opens_15 : decode cX10_opens 15 = .ok (.getfield 214, 3) := by decide +kernel
theorem dX10_opens_18 : decode cX10_opens 18 = .ok (.iconst 0, 1) := by decide +kernel
theorem dX10_opens_19 : decode cX10_opens 19 = .ok (.iastore, 1) := by decide +kernel
theorem dX10_opens_20 : decode cX10_opens 20 = .ok (.aload_n 0, 1) := by decide +kernel
theorem dX10_opens_21 : decode cX10_opens 21 = .ok (.getfield 76, 3) := by decide +kernel
theorem dX10_opens_24 : decode cX10_opens 24 = .ok (.aload_n 0, 1) := by decide +kernel
theorem dX10_opens_25 : decode cX10_opens 25 = .ok (.getfield 214, 3) := by decide +kernel
theorem dX10_opens_28 : decode cX10_opens 28 = .ok (.iconst 0, 1) := by decide +kernel
theorem dX10_opens_29 : decode cX10_opens 29 = .ok (.iastore, 1) := by decide +kernel
theorem dX10_opens_30 : decode cX10_opens 30 = .ok (.return_, 1) := by decide +kernel
theorem dX10_partWord_0 : decode cX10_partWord 0 = .ok (.iconst 0, 1) := by decide +kernel
theorem dX10_partWord_1 : decode cX10_partWord 1 = .ok (.istore_n 1, 1) := by decide +kernel
theorem dX10_partWord_2 : decode cX10_partWord 2 = .ok (.iload_n 1, 1) := by decide +kernel
theorem dX10_partWord_3 : decode cX10_partWord 3 = .ok (.bipush 6, 2) := by decide +kernel
theorem dX10_partWord_5 : decode cX10_partWord 5 = .ok (.if_icmp .ge 21, 3) := by decide +kernel
theorem dX10_partWord_8 : decode cX10_partWord 8 = .ok (.aload_n 0, 1) := by decide +kernel
theorem dX10_partWord_9 : decode cX10_partWord 9 = .ok (.iconst 3, 1) := by decide +kernel
theorem dX10_partWord_10 : decode cX10_partWord 10 = .ok (.iload_n 1, 1) := by decide +kernel
theorem dX10_partWord_11 : decode cX10_partWord 11 = .ok (.iadd, 1) := by decide +kernel
theorem dX10_partWord_12 : decode cX10_partWord 12 = .ok (.invokevirtual 188, 3) := by decide +kernel
theorem dX10_partWord_15 : decode cX10_partWord 15 = .ok (.ifCond .eq 5, 3) := by decide +kernel
theorem dX10_partWord_18 : decode cX10_partWord 18 = .ok (.iload_n 1, 1) := by decide +kernel
theorem dX10_partWord_19 : decode cX10_partWord 19 = .ok (.ireturn, 1) := by decide +kernel
theorem dX10_partWord_20 : decode cX10_partWord 20 = .ok (.iinc 1 1, 3) := by decide +kernel
theorem dX10_partWord_23 : decode cX10_partWord 23 = .ok (.goto (-21), 3) := by decide +kernel
theorem dX10_partWord_26 : decode cX10_partWord 26 = .ok (.iconst (-1), 1) := by decide +kernel
theorem dX10_partWord_27 : decode cX10_partWord 27 = .ok (.ireturn, 1) := by decide +kernel
theorem dX10_part_0 : decode cX10_part 0 = .ok (.aload_n 0, 1) := by decide +kernel
theorem dX10_part_1 : decode cX10_part 1 = .ok (.invokevirtual 234, 3) := by decide +kernel
theorem dX10_part_4 : decode cX10_part 4 = .ok (.istore_n 1, 1) := by decide +kernel
theorem dX10_part_5 : decode cX10_part 5 = .ok (.aload_n 0, 1) := by decide +kernel
theorem dX10_part_6 : decode cX10_part 6 = .ok (.getfield 178, 3) := by decide +kernel
theorem dX10_part_9 : decode cX10_part 9 = .ok (.ifCond .ne 37, 3) := by decide +kernel
theorem dX10_part_12 : decode cX10_part 12 = .ok (.aload_n 0, 1) := by decide +kernel
theorem dX10_part_13 : decode cX10_part 13 = .ok (.getfield 24, 3) := by decide +kernel
theorem dX10_part_16 : decode cX10_part 16 = .ok (.aload_n 0, 1) := by decide +kernel
theorem dX10_part_17 : decode cX10_part 17 = .ok (.getfield 175, 3) := by decide +kernel
theorem dX10_part_20 : decode cX10_part 20 = .ok (.iaload, 1) := by decide +kernel
theorem dX10_part_21 : decode cX10_part 21 = .ok (.iconst 2, 1) := by decide +kernel
theorem dX10_part_22 : decode cX10_part 22 = .ok (.if_icmp .eq 24, 3) := by decide +kernel
theorem dX10_part_25 : decode cX10_part 25 = .ok (.aload_n 0, 1) := by decide +kernel
theorem dX10_part_26 : decode cX10_part 26 = .ok (.bipush 40, 2) := by decide +kernel
theorem dX10_part_28 : decode cX10_part 28 = .ok (.invokevirtual 181, 3) := by decide +kernel
theorem dX10_part_31 : decode cX10_part 31 = .ok (.ifCond .ne 15, 3) := by decide +kernel
theorem dX10_part_34 : decode cX10_part 34 = .ok (.iload_n 1, 1) := by decide +kernel
theorem dX10_part_35 : decode cX10_part 35 = .ok (.ifCond .ge 11, 3) := by decide +kernel
theorem dX10_part_38 : decode cX10_part 38 = .ok (.aload_n 0, 1) := by decide +kernel
theorem dX10_part_39 : decode cX10_part 39 = .ok (.iconst 1, 1) := by decide +kernel
theorem dX10_part_40 : decode cX10_part 40 = .ok (.invokevirtual 184, 3) := by decide +kernel
theorem dX10_part_43 : decode cX10_part 43 = .ok (.goto 16, 3) := by decide +kernel
theorem dX10_part_46 : decode cX10_part 46 = .ok (.aload_n 0, 1) := by decide +kernel
theorem dX10_part_47 : decode cX10_part 47 = .ok (.getfield 214, 3) := by decide +kernel
theorem dX10_part_50 : decode cX10_part 50 = .ok (.iconst 5, 1) := by decide +kernel
theorem dX10_part_51 : decode cX10_part 51 = .ok (.if_icmp .ne 8, 3) := by decide +kernel
theorem dX10_part_54 : decode cX10_part 54 = .ok (.aload_n 0, 1) := by decide +kernel
theorem dX10_part_55 : decode cX10_part 55 = .ok (.iconst 5, 1) := by decide +kernel
theorem dX10_part_56 : decode cX10_part 56 = .ok (.invokevirtual 184, 3) := by decide +kernel
theorem dX10_part_59 : decode cX10_part 59 = .ok (.aload_n 0, 1) := by decide +kernel
theorem dX10_part_60 : decode cX10_part 60 = .ok (.getfield 178, 3) := by decide +kernel
theorem dX10_part_63 : decode cX10_part 63 = .ok (.ifCond .le 5, 3) := by decide +kernel
theorem dX10_part_66 : decode cX10_part 66 = .ok (.iconst 0, 1) := by decide +kernel
theorem dX10_part_67 : decode cX10_part 67 = .ok (.ireturn, 1) := by decide +kernel
theorem dX10_part_68 : decode cX10_part 68 = .ok (.aload_n 0, 1) := by decide +kernel
theorem dX10_part_69 : decode cX10_part 69 = .ok (.bipush 40, 2) := by decide +kernel
theorem dX10_part_71 : decode cX10_part 71 = .ok (.invokevirtual 238, 3) := by decide +kernel
theorem dX10_part_74 : decode cX10_part 74 = .ok (.ifCond .eq 19, 3) := by decide +kernel
theorem dX10_part_77 : decode cX10_part 77 = .ok (.aload_n 0, 1) := by decide +kernel
theorem dX10_part_78 : decode cX10_part 78 = .ok (.dup, 1) := by decide +kernel
theorem dX10_part_79 : decode cX10_part 79 = .ok (.getfield 214, 3) := by decide +kernel
theorem dX10_part_82 : decode cX10_part 82 = .ok (.iconst 1, 1) := by decide +kernel
theorem dX10_part_83 : decode cX10_part 83 = .ok (.iadd, 1) := by decide +kernel
theorem dX10_part_84 : decode cX10_part 84 = .ok (.putfield 214, 3) := by decide +kernel
theorem dX10_part_87 : decode cX10_part 87 = .ok (.aload_n 0, 1) := by decide +kernel
theorem dX10_part_88 : decode cX10_part 88 = .ok (.invokevirtual 217, 3) := by decide +kernel
theorem dX10_part_91 : decode cX10_part 91 = .ok (.iconst 1, 1) := by decide +kernel
theorem dX10_part_92 : decode cX10_part 92 = .ok (.ireturn, 1) := by decide +kernel
theorem dX10_part_93 : decode cX10_part 93 = .ok (.aload_n 0, 1) := by decide +kernel
theorem dX10_part_94 : decode cX10_part 94 = .ok (.iload_n 1, 1) := by decide +kernel
theorem dX10_part_95 : decode cX10_part 95 = .ok (.ifCond .ge 7, 3) := by decide +kernel
theorem dX10_part_98 : decode cX10_part 98 = .ok (.iconst 1, 1) := by decide +kernel
theorem dX10_part_99 : decode cX10_part 99 = .ok (.goto 4, 3) := by decide +kernel
theorem dX10_part_102 : decode cX10_part 102 = .ok (.iconst 2, 1) := by decide +kernel
theorem dX10_part_103 : decode cX10_part 103 = .ok (.iload_n 1, 1) := by decide +kernel
theorem dX10_part_104 : decode cX10_part 104 = .ok (.ifCond .ge 16, 3) := by decide +kernel
theorem dX10_part_107 : decode cX10_part 107 = .ok (.aload_n 0, 1) := by decide +kernel
theorem dX10_part_108 : decode cX10_part 108 = .ok (.getfield 30, 3) := by decide +kernel
theorem dX10_part_111 : decode cX10_part 111 = .ok (.aload_n 0, 1) := by decide +kernel
theorem dX10_part_112 : decode cX10_part 112 = .ok (.getfield 175, 3) := by decide +kernel
theorem dX10_part_115 : decode cX10_part 115 = .ok (.laload, 1) := by decide +kernel
theorem dX10_part_116 : decode cX10_part 116 = .ok (.l2i, 1) := by decide +kernel
theorem dX10_part_117 : decode cX10_part 117 = .ok (.goto 4, 3) := by decide +kernel
theorem dX10_part_120 : decode cX10_part 120 = .ok (.iload_n 1, 1) := by decide +kernel
theorem dX10_part_121 : decode cX10_part 121 = .ok (.invokevirtual 227, 3) := by decide +kernel
theorem dX10_part_124 : decode cX10_part 124 = .ok (.aload_n 0, 1) := by decide +kernel
theorem dX10_part_125 : decode cX10_part 125 = .ok (.dup, 1) := by decide +kernel
theorem dX10_part_126 : decode cX10_part 126 = .ok (.getfield 175, 3) := by decide +kernel
theorem dX10_part_129 : decode cX10_part 129 = .ok (.iconst 1, 1) := by decide +kernel
theorem dX10_part_130 : decode cX10_part 130 = .ok (.iadd, 1) := by decide +kernel
theorem dX10_part_131 : decode cX10_part 131 = .ok (.putfield 175, 3) := by decide +kernel
theorem dX10_part_134 : decode cX10_part 134 = .ok (.iconst 0, 1) := by decide +kernel
theorem dX10_part_135 : decode cX10_part 135 = .ok (.ireturn, 1) := by decide +kernel
theorem dX10_goesOnBehind_0 : decode cX10_goesOnBehind 0 = .ok (.aload_n 0, 1) := by decide +kernel
theorem dX10_goesOnBehind_1 : decode cX10_goesOnBehind 1 = .ok (.getfield 178, 3) := by decide +kernel
theorem dX10_goesOnBehind_4 : decode cX10_goesOnBehind 4 = .ok (.ifCond .ne 273, 3) := by decide +kernel
theorem dX10_goesOnBehind_7 : decode cX10_goesOnBehind 7 = .ok (.aload_n 0, 1) := by decide +kernel
theorem dX10_goesOnBehind_8 : decode cX10_goesOnBehind 8 = .ok (.getfield 70, 3) := by decide +kernel
theorem dX10_goesOnBehind_11 : decode cX10_goesOnBehind 11 = .ok (.aload_n 0, 1) := by decide +kernel
theorem dX10_goesOnBehind_12 : decode cX10_goesOnBehind 12 = .ok (.getfield 214, 3) := by decide +kernel
theorem dX10_goesOnBehind_15 : decode cX10_goesOnBehind 15 = .ok (.iaload, 1) := by decide +kernel
theorem dX10_goesOnBehind_16 : decode cX10_goesOnBehind 16 = .ok (.ifCond .eq 27, 3) := by decide +kernel
theorem dX10_goesOnBehind_19 : decode cX10_goesOnBehind 19 = .ok (.aload_n 0, 1) := by decide +kernel
theorem dX10_goesOnBehind_20 : decode cX10_goesOnBehind 20 = .ok (.aload_n 0, 1) := by decide +kernel
theorem dX10_goesOnBehind_21 : decode cX10_goesOnBehind 21 = .ok (.getfield 70, 3) := by decide +kernel
theorem dX10_goesOnBehind_24 : decode cX10_goesOnBehind 24 = .ok (.aload_n 0, 1) := by decide +kernel
theorem dX10_goesOnBehind_25 : decode cX10_goesOnBehind 25 = .ok (.getfield 214, 3) := by decide +kernel
theorem dX10_goesOnBehind_28 : decode cX10_goesOnBehind 28 = .ok (.iaload, 1) := by decide +kernel
theorem dX10_goesOnBehind_29 : decode cX10_goesOnBehind 29 = .ok (.iconst 0, 1) := by decide +kernel
theorem dX10_goesOnBehind_30 : decode cX10_goesOnBehind 30 = .ok (.invokevirtual 227, 3) := by decide +kernel
theorem dX10_goesOnBehind_33 : decode cX10_goesOnBehind 33 = .ok (.aload_n 0, 1) := by decide +kernel
theorem dX10_goesOnBehind_34 : decode cX10_goesOnBehind 34 = .ok (.getfield 70, 3) := by decide +kernel
theorem dX10_goesOnBehind_37 : decode cX10_goesOnBehind 37 = .ok (.aload_n 0, 1) := by decide +kernel
theorem dX10_goesOnBehind_38 : decode cX10_goesOnBehind 38 = .ok (.getfield 214, 3) := by decide +kernel
theorem dX10_goesOnBehind_41 : decode cX10_goesOnBehind 41 = .ok (.iconst 0, 1) := by decide +kernel
theorem dX10_goesOnBehind_42 : decode cX10_goesOnBehind 42 = .ok (.iastore, 1) := by decide +kernel
theorem dX10_goesOnBehind_43 : decode cX10_goesOnBehind 43 = .ok (.aload_n 0, 1) := by decide +kernel
theorem dX10_goesOnBehind_44 : decode cX10_goesOnBehind 44 = .ok (.bipush 43, 2) := by decide +kernel
theorem dX10_goesOnBehind_46 : decode cX10_goesOnBehind 46 = .ok (.invokevirtual 181, 3) := by decide +kernel
theorem dX10_goesOnBehind_49 : decode cX10_goesOnBehind 49 = .ok (.ifCond .ne 12, 3) := by decide +kernel
theorem dX10_goesOnBehind_52 : decode cX10_goesOnBehind 52 = .ok (.aload_n 0, 1) := by decide +kernel
theorem dX10_goesOnBehind_53 : decode cX10_goesOnBehind 53 = .ok (.bipush 45, 2) := by decide +kernel
theorem dX10_goesOnBehind_55 : decode cX10_goesOnBehind 55 = .ok (.invokevirtual 181, 3) := by decide +kernel
theorem dX10_goesOnBehind_58 : decode cX10_goesOnBehind 58 = .ok (.ifCond .eq 38, 3) := by decide +kernel
theorem dX10_goesOnBehind_61 : decode cX10_goesOnBehind 61 = .ok (.aload_n 0, 1) := by decide +kernel
theorem dX10_goesOnBehind_62 : decode cX10_goesOnBehind 62 = .ok (.getfield 70, 3) := by decide +kernel
theorem dX10_goesOnBehind_65 : decode cX10_goesOnBehind 65 = .ok (.aload_n 0, 1) := by decide +kernel
theorem dX10_goesOnBehind_66 : decode cX10_goesOnBehind 66 = .ok (.getfield 214, 3) := by decide +kernel
theorem dX10_goesOnBehind_69 : decode cX10_goesOnBehind 69 = .ok (.aload_n 0, 1) := by decide +kernel
theorem dX10_goesOnBehind_70 : decode cX10_goesOnBehind 70 = .ok (.bipush 43, 2) := by decide +kernel
theorem dX10_goesOnBehind_72 : decode cX10_goesOnBehind 72 = .ok (.invokevirtual 181, 3) := by decide +kernel
theorem dX10_goesOnBehind_75 : decode cX10_goesOnBehind 75 = .ok (.ifCond .eq 7, 3) := by decide +kernel
theorem dX10_goesOnBehind_78 : decode cX10_goesOnBehind 78 = .ok (.iconst 3, 1) := by decide +kernel
theorem dX10_goesOnBehind_79 : decode cX10_goesOnBehind 79 = .ok (.goto 4, 3) := by decide +kernel
theorem dX10_goesOnBehind_82 : decode cX10_goesOnBehind 82 = .ok (.iconst 4, 1) := by decide +kernel
theorem dX10_goesOnBehind_83 : decode cX10_goesOnBehind 83 = .ok (.iastore, 1) := by decide +kernel
theorem dX10_goesOnBehind_84 : decode cX10_goesOnBehind 84 = .ok (.aload_n 0, 1) := by decide +kernel
theorem dX10_goesOnBehind_85 : decode cX10_goesOnBehind 85 = .ok (.dup, 1) := by decide +kernel
theorem dX10_goesOnBehind_86 : decode cX10_goesOnBehind 86 = .ok (.getfield 175, 3) := by decide +kernel
theorem dX10_goesOnBehind_89 : decode cX10_goesOnBehind 89 = .ok (.iconst 1, 1) := by decide +kernel
theorem dX10_goesOnBehind_90 : decode cX10_goesOnBehind 90 = .ok (.iadd, 1) := by decide +kernel
theorem dX10_goesOnBehind_91 : decode cX10_goesOnBehind 91 = .ok (.putfield 175, 3) := by decide +kernel
theorem dX10_goesOnBehind_94 : decode cX10_goesOnBehind 94 = .ok (.iconst 1, 1) := by decide +kernel
theorem dX10_goesOnBehind_95 : decode cX10_goesOnBehind 95 = .ok (.ireturn, 1) := by decide +kernel
theorem dX10_goesOnBehind_96 : decode cX10_goesOnBehind 96 = .ok (.aload_n 0, 1) := by decide +kernel
theorem dX10_goesOnBehind_97 : decode cX10_goesOnBehind 97 = .ok (.getfield 73, 3) := by decide +kernel
theorem dX10_goesOnBehind_100 : decode cX10_goesOnBehind 100 = .ok (.aload_n 0, 1) := by decide +kernel
theorem dX10_goesOnBehind_101 : decode cX10_goesOnBehind 101 = .ok (.getfield 214, 3) := by decide +kernel
theorem dX10_goesOnBehind_104 : decode cX10_goesOnBehind 104 = .ok (.iaload, 1) := by decide +kernel
theorem dX10_goesOnBehind_105 : decode cX10_goesOnBehind 105 = .ok (.ifCond .eq 30, 3) := by decide +kernel
theorem dX10_goesOnBehind_108 : decode cX10_goesOnBehind 108 = .ok (.aload_n 0, 1) := by decide +kernel
theorem dX10_goesOnBehind_109 : decode cX10_goesOnBehind 109 = .ok (.aload_n 0, 1) := by decide +kernel
theorem dX10_goesOnBehind_110 : decode cX10_goesOnBehind 110 = .ok (.getfield 73, 3) := by decide +kernel
theorem dX10_goesOnBehind_113 : decode cX10_goesOnBehind 113 = .ok (.aload_n 0, 1) := by decide +kernel
theorem dX10_goesOnBehind_114 : decode cX10_goesOnBehind 114 = .ok (.getfield 214, 3) := by decide +kernel
theorem dX10_goesOnBehind_117 : decode cX10_goesOnBehind 117 = .ok (.iaload, 1) := by decide +kernel
theorem dX10_goesOnBehind_118 : decode cX10_goesOnBehind 118 = .ok (.iconst 0, 1) := by decide +kernel
theorem dX10_goesOnBehind_119 : decode cX10_goesOnBehind 119 = .ok (.invokevirtual 227, 3) := by decide +kernel
theorem dX10_goesOnBehind_122 : decode cX10_goesOnBehind 122 = .ok (.aload_n 0, 1) := by decide +kernel
theorem dX10_goesOnBehind_123 : decode cX10_goesOnBehind 123 = .ok (.getfield 73, 3) := by decide +kernel
theorem dX10_goesOnBehind_126 : decode cX10_goesOnBehind 126 = .ok (.aload_n 0, 1) := by decide +kernel
theorem dX10_goesOnBehind_127 : decode cX10_goesOnBehind 127 = .ok (.getfield 214, 3) := by decide +kernel
theorem dX10_goesOnBehind_130 : decode cX10_goesOnBehind 130 = .ok (.iconst 0, 1) := by decide +kernel
theorem dX10_goesOnBehind_131 : decode cX10_goesOnBehind 131 = .ok (.iastore, 1) := by decide +kernel
theorem dX10_goesOnBehind_132 : decode cX10_goesOnBehind 132 = .ok (.goto 57, 3) := by decide +kernel
theorem dX10_goesOnBehind_135 : decode cX10_goesOnBehind 135 = .ok (.aload_n 0, 1) := by decide +kernel
theorem dX10_goesOnBehind_136 : decode cX10_goesOnBehind 136 = .ok (.bipush 60, 2) := by decide +kernel
theorem dX10_goesOnBehind_138 : decode cX10_goesOnBehind 138 = .ok (.invokevirtual 181, 3) := by decide +kernel
theorem dX10_goesOnBehind_141 : decode cX10_goesOnBehind 141 = .ok (.ifCond .ne 12, 3) := by decide +kernel
theorem dX10_goesOnBehind_144 : decode cX10_goesOnBehind 144 = .ok (.aload_n 0, 1) := by decide +kernel
theorem dX10_goesOnBehind_145 : decode cX10_goesOnBehind 145 = .ok (.bipush 61, 2) := by decide +kernel
theorem dX10_goesOnBehind_147 : decode cX10_goesOnBehind 147 = .ok (.invokevirtual 181, 3) := by decide +kernel
theorem dX10_goesOnBehind_150 : decode cX10_goesOnBehind 150 = .ok (.ifCond .eq 39, 3) := by decide +kernel
theorem dX10_goesOnBehind_153 : decode cX10_goesOnBehind 153 = .ok (.aload_n 0, 1) := by decide +kernel
theorem dX10_goesOnBehind_154 : decode cX10_goesOnBehind 154 = .ok (.getfield 73, 3) := by decide +kernel
theorem dX10_goesOnBehind_157 : decode cX10_goesOnBehind 157 = .ok (.aload_n 0, 1) := by decide +kernel
theorem dX10_goesOnBehind_158 : decode cX10_goesOnBehind 158 = .ok (.getfield 214, 3) := by decide +kernel
theorem dX10_goesOnBehind_161 : decode cX10_goesOnBehind 161 = .ok (.aload_n 0, 1) := by decide +kernel
theorem dX10_goesOnBehind_162 : decode cX10_goesOnBehind 162 = .ok (.bipush 60, 2) := by decide +kernel
theorem dX10_goesOnBehind_164 : decode cX10_goesOnBehind 164 = .ok (.invokevirtual 181, 3) := by decide +kernel
theorem dX10_goesOnBehind_167 : decode cX10_goesOnBehind 167 = .ok (.ifCond .eq 7, 3) := by decide +kernel
theorem dX10_goesOnBehind_170 : decode cX10_goesOnBehind 170 = .ok (.iconst 5, 1) := by decide +kernel
theorem dX10_goesOnBehind_171 : decode cX10_goesOnBehind 171 = .ok (.goto 5, 3) := by decide +kernel
theorem dX10_goesOnBehind_174 : decode cX10_goesOnBehind 174 = .ok (.bipush 6, 2) := by decide +kernel
theorem dX10_goesOnBehind_176 : decode cX10_goesOnBehind 176 = .ok (.iastore, 1) := by decide +kernel
theorem dX10_goesOnBehind_177 : decode cX10_goesOnBehind 177 = .ok (.aload_n 0, 1) := by decide +kernel
theorem dX10_goesOnBehind_178 : decode cX10_goesOnBehind 178 = .ok (.dup, 1) := by decide +kernel
theorem dX10_goesOnBehind_179 : decode cX10_goesOnBehind 179 = .ok (.getfield 175, 3) := by decide +kernel
theorem dX10_goesOnBehind_182 : decode cX10_goesOnBehind 182 = .ok (.iconst 1, 1) := by decide +kernel
theorem dX10_goesOnBehind_183 : decode cX10_goesOnBehind 183 = .ok (.iadd, 1) := by decide +kernel
theorem dX10_goesOnBehind_184 : decode cX10_goesOnBehind 184 = .ok (.putfield 175, 3) := by decide +kernel
theorem dX10_goesOnBehind_187 : decode cX10_goesOnBehind 187 = .ok (.iconst 1, 1) := by decide +kernel
theorem dX10_goesOnBehind_188 : decode cX10_goesOnBehind 188 = .ok (.ireturn, 1) := by decide +kernel
theorem dX10_goesOnBehind_189 : decode cX10_goesOnBehind 189 = .ok (.aload_n 0, 1) := by decide +kernel
theorem dX10_goesOnBehind_190 : decode cX10_goesOnBehind 190 = .ok (.getfield 76, 3) := by decide +kernel
theorem dX10_goesOnBehind_193 : decode cX10_goesOnBehind 193 = .ok (.aload_n 0, 1) := by decide +kernel
theorem dX10_goesOnBehind_194 : decode cX10_goesOnBehind 194 = .ok (.getfield 214, 3) := by decide +kernel
theorem dX10_goesOnBehind_197 : decode cX10_goesOnBehind 197 = .ok (.iaload, 1) := by decide +kernel
theorem dX10_goesOnBehind_198 : decode cX10_goesOnBehind 198 = .ok (.ifCond .eq 20, 3) := by decide +kernel
theorem dX10_goesOnBehind_201 : decode cX10_goesOnBehind 201 = .ok (.aload_n 0, 1) := by decide +kernel
theorem dX10_goesOnBehind_202 : decode cX10_goesOnBehind 202 = .ok (.bipush 7, 2) := by decide +kernel
theorem dX10_goesOnBehind_204 : decode cX10_goesOnBehind 204 = .ok (.iconst 0, 1) := by decide +kernel
theorem dX10_goesOnBehind_205 : decode cX10_goesOnBehind 205 = .ok (.invokevirtual 227, 3) := by decide +kernel
theorem dX10_goesOnBehind_208 : decode cX10_goesOnBehind 208 = .ok (.aload_n 0, 1) := by decide +kernel
theorem dX10_goesOnBehind_209 : decode cX10_goesOnBehind 209 = .ok (.getfield 76, 3) := by decide +kernel
theorem dX10_goesOnBehind_212 : decode cX10_goesOnBehind 212 = .ok (.aload_n 0, 1) := by decide +kernel
theorem dX10_goesOnBehind_213 : decode cX10_goesOnBehind 213 = .ok (.getfield 214, 3) := by decide +kernel
theorem dX10_goesOnBehind_216 : decode cX10_goesOnBehind 216 = .ok (.iconst 0, 1) := by decide +kernel
theorem dX10_goesOnBehind_217 : decode cX10_goesOnBehind 217 = .ok (.iastore, 1) := by decide +kernel
theorem dX10_goesOnBehind_218 : decode cX10_goesOnBehind 218 = .ok (.aload_n 0, 1) := by decide +kernel
theorem dX10_goesOnBehind_219 : decode cX10_goesOnBehind 219 = .ok (.iconst 2, 1) := by decide +kernel
theorem dX10_goesOnBehind_220 : decode cX10_goesOnBehind 220 = .ok (.invokevirtual 188, 3) := by decide +kernel
theorem dX10_goesOnBehind_223 : decode cX10_goesOnBehind 223 = .ok (.ifCond .eq 26, 3) := by decide +kernel
theorem dX10_goesOnBehind_226 : decode cX10_goesOnBehind 226 = .ok (.aload_n 0, 1) := by decide +kernel
theorem dX10_goesOnBehind_227 : decode cX10_goesOnBehind 227 = .ok (.getfield 76, 3) := by decide +kernel
theorem dX10_goesOnBehind_230 : decode cX10_goesOnBehind 230 = .ok (.aload_n 0, 1) := by decide +kernel
theorem dX10_goesOnBehind_231 : decode cX10_goesOnBehind 231 = .ok (.getfield 214, 3) := by decide +kernel
theorem dX10_goesOnBehind_234 : decode cX10_goesOnBehind 234 = .ok (.bipush 7, 2) := by decide +kernel
theorem dX10_goesOnBehind_236 : decode cX10_goesOnBehind 236 = .ok (.iastore, 1) := by decide +kernel
theorem dX10_goesOnBehind_237 : decode cX10_goesOnBehind 237 = .ok (.aload_n 0, 1) := by decide +kernel
theorem dX10_goesOnBehind_238 : decode cX10_goesOnBehind 238 = .ok (.dup, 1) := by decide +kernel
theorem dX10_goesOnBehind_239 : decode cX10_goesOnBehind 239 = .ok (.getfield 175, 3) := by decide +kernel
theorem dX10_goesOnBehind_242 : decode cX10_goesOnBehind 242 = .ok (.iconst 1, 1) := by decide +kernel
theorem dX10_goesOnBehind_243 : decode cX10_goesOnBehind 243 = .ok (.iadd, 1) := by decide +kernel
theorem dX10_goesOnBehind_244 : decode cX10_goesOnBehind 244 = .ok (.putfield 175, 3) := by decide +kernel
theorem dX10_goesOnBehind_247 : decode cX10_goesOnBehind 247 = .ok (.iconst 1, 1) := by decide +kernel
theorem dX10_goesOnBehind_248 : decode cX10_goesOnBehind 248 = .ok (.ireturn, 1) := by decide +kernel
theorem dX10_goesOnBehind_249 : decode cX10_goesOnBehind 249 = .ok (.aload_n 0, 1) := by decide +kernel
theorem dX10_goesOnBehind_250 : decode cX10_goesOnBehind 250 = .ok (.getfield 214, 3) := by decide +kernel
theorem dX10_goesOnBehind_253 : decode cX10_goesOnBehind 253 = .ok (.ifCond .ne 5, 3) := by decide +kernel
theorem dX10_goesOnBehind_256 : decode cX10_goesOnBehind 256 = .ok (.iconst 0, 1) := by decide +kernel
theorem dX10_goesOnBehind_257 : decode cX10_goesOnBehind 257 = .ok (.ireturn, 1) := by decide +kernel
theorem dX10_goesOnBehind_258 : decode cX10_goesOnBehind 258 = .ok (.aload_n 0, 1) := by decide +kernel
theorem dX10_goesOnBehind_259 : decode cX10_goesOnBehind 259 = .ok (.bipush 41, 2) := by decide +kernel
theorem dX10_goesOnBehind_261 : decode cX10_goesOnBehind 261 = .ok (.invokevirtual 231, 3) := by decide +kernel
theorem dX10_goesOnBehind_264 : decode cX10_goesOnBehind 264 = .ok (.aload_n 0, 1) := by decide +kernel
theorem dX10_goesOnBehind_265 : decode cX10_goesOnBehind 265 = .ok (.dup, 1) := by decide +kernel
theorem dX10_goesOnBehind_266 : decode cX10_goesOnBehind 266 = .ok (.getfield 214, 3) := by decide +kernel
theorem dX10_goesOnBehind_269 : decode cX10_goesOnBehind 269 = .ok (.iconst 1, 1) := by decide +kernel
theorem dX10_goesOnBehind_270 : decode cX10_goesOnBehind 270 = .ok (.isub, 1) := by decide +kernel
theorem dX10_goesOnBehind_271 : decode cX10_goesOnBehind 271 = .ok (.putfield 214, 3) := by decide +kernel
theorem dX10_goesOnBehind_274 : decode cX10_goesOnBehind 274 = .ok (.goto (-274), 3) := by decide +kernel
theorem dX10_goesOnBehind_277 : decode cX10_goesOnBehind 277 = .ok (.iconst 0, 1) := by decide +kernel
theorem dX10_goesOnBehind_278 : decode cX10_goesOnBehind 278 = .ok (.ireturn, 1) := by decide +kernel
theorem dX10_worth_0 : decode cX10_worth 0 = .ok (.iload_n 1, 1) := by decide +kernel
theorem dX10_worth_1 : decode cX10_worth 1 = .ok (.istore_n 2, 1) := by decide +kernel
theorem dX10_worth_2 : decode cX10_worth 2 = .ok (.iconst 0, 1) := by decide +kernel
theorem dX10_worth_3 : decode cX10_worth 3 = .ok (.istore_n 3, 1) := by decide +kernel
theorem dX10_worth_4 : decode cX10_worth 4 = .ok (.aload_n 0, 1) := by decide +kernel
theorem dX10_worth_5 : decode cX10_worth 5 = .ok (.getfield 64, 3) := by decide +kernel
theorem dX10_worth_8 : decode cX10_worth 8 = .ok (.iload_n 2, 1) := by decide +kernel
theorem dX10_worth_9 : decode cX10_worth 9 = .ok (.iaload, 1) := by decide +kernel
theorem dX10_worth_10 : decode cX10_worth 10 = .ok (.ifCond .eq 182, 3) := by decide +kernel
theorem dX10_worth_13 : decode cX10_worth 13 = .ok (.aload_n 0, 1) := by decide +kernel
theorem dX10_worth_14 : decode cX10_worth 14 = .ok (.getfield 64, 3) := by decide +kernel
theorem dX10_worth_17 : decode cX10_worth 17 = .ok (.iload_n 2, 1) := by decide +kernel
theorem dX10_worth_18 : decode cX10_worth 18 = .ok (.iaload, 1) := by decide +kernel
theorem dX10_worth_19 : decode cX10_worth 19 = .ok (.istore 4, 2) := by decide +kernel
theorem dX10_worth_21 : decode cX10_worth 21 = .ok (.iload 4, 2) := by decide +kernel
theorem dX10_worth_23 : decode cX10_worth 23 = .ok (.iconst 1, 1) := by decide +kernel
theorem dX10_worth_24 : decode cX10_worth 24 = .ok (.if_icmp .eq 9, 3) := by decide +kernel
theorem dX10_worth_27 : decode cX10_worth 27 = .ok (.iload 4, 2) := by decide +kernel
theorem dX10_worth_29 : decode cX10_worth 29 = .ok (.iconst 2, 1) := by decide +kernel
theorem dX10_worth_30 : decode cX10_worth 30 = .ok (.if_icmp .ne 41, 3) := by decide +kernel
theorem dX10_worth_33 : decode cX10_worth 33 = .ok (.aload_n 0, 1) := by decide +kernel
theorem dX10_worth_34 : decode cX10_worth 34 = .ok (.getfield 82, 3) := by decide +kernel
theorem dX10_worth_37 : decode cX10_worth 37 = .ok (.iload_n 3, 1) := by decide +kernel
theorem dX10_worth_38 : decode cX10_worth 38 = .ok (.iload 4, 2) := by decide +kernel
theorem dX10_worth_40 : decode cX10_worth 40 = .ok (.iconst 1, 1) := by decide +kernel
theorem dX10_worth_41 : decode cX10_worth 41 = .ok (.if_icmp .ne 12, 3) := by decide +kernel
theorem dX10_worth_44 : decode cX10_worth 44 = .ok (.aload_n 0, 1) := by decide +kernel
theorem dX10_worth_45 : decode cX10_worth 45 = .ok (.getfield 67, 3) := by decide +kernel
theorem dX10_worth_48 : decode cX10_worth 48 = .ok (.iload_n 2, 1) := by decide +kernel
theorem dX10_worth_49 : decode cX10_worth 49 = .ok (.iaload, 1) := by decide +kernel
theorem dX10_worth_50 : decode cX10_worth 50 = .ok (.goto 14, 3) := by decide +kernel
theorem dX10_worth_53 : decode cX10_worth 53 = .ok (.aload_n 0, 1) := by decide +kernel
theorem dX10_worth_54 : decode cX10_worth 54 = .ok (.getfield 79, 3) := by decide +kernel
theorem dX10_worth_57 : decode cX10_worth 57 = .ok (.aload_n 0, 1) := by decide +kernel
theorem dX10_worth_58 : decode cX10_worth 58 = .ok (.getfield 67, 3) := by decide +kernel
theorem dX10_worth_61 : decode cX10_worth 61 = .ok (.iload_n 2, 1) := by decide +kernel
theorem dX10_worth_62 : decode cX10_worth 62 = .ok (.iaload, 1) := by decide +kernel
theorem dX10_worth_63 : decode cX10_worth 63 = .ok (.iaload, 1) := by decide +kernel
theorem dX10_worth_64 : decode cX10_worth 64 = .ok (.iastore, 1) := by decide +kernel
theorem dX10_worth_65 : decode cX10_worth 65 = .ok (.iinc 3 1, 3) := by decide +kernel
theorem dX10_worth_68 : decode cX10_worth 68 = .ok (.goto 118, 3) := by decide +kernel
theorem dX10_worth_71 : decode cX10_worth 71 = .ok (.iinc 3 (-1), 3) := by decide +kernel
theorem dX10_worth_74 : decode cX10_worth 74 = .ok (.aload_n 0, 1) := by decide +kernel
theorem dX10_worth_75 : decode cX10_worth 75 = .ok (.getfield 82, 3) := by decide +kernel
theorem dX10_worth_78 : decode cX10_worth 78 = .ok (.iload_n 3, 1) := by decide +kernel
theorem dX10_worth_79 : decode cX10_worth 79 = .ok (.iaload, 1) := by decide +kernel
theorem dX10_worth_80 : decode cX10_worth 80 = .ok (.istore 5, 2) := by decide +kernel
theorem dX10_worth_82 : decode cX10_worth 82 = .ok (.aload_n 0, 1) := by decide +kernel
theorem dX10_worth_83 : decode cX10_worth 83 = .ok (.getfield 82, 3) := by decide +kernel
theorem dX10_worth_86 : decode cX10_worth 86 = .ok (.iload_n 3, 1) := by decide +kernel
theorem dX10_worth_87 : decode cX10_worth 87 = .ok (.iconst 1, 1) := by decide +kernel
theorem dX10_worth_88 : decode cX10_worth 88 = .ok (.isub, 1) := by decide +kernel
theorem dX10_worth_89 : decode cX10_worth 89 = .ok (.iaload, 1) := by decide +kernel
theorem dX10_worth_90 : decode cX10_worth 90 = .ok (.istore 6, 2) := by decide +kernel
theorem dX10_worth_92 : decode cX10_worth 92 = .ok (.aload_n 0, 1) := by decide +kernel
theorem dX10_worth_93 : decode cX10_worth 93 = .ok (.getfield 82, 3) := by decide +kernel
theorem dX10_worth_96 : decode cX10_worth 96 = .ok (.iload_n 3, 1) := by decide +kernel
theorem dX10_worth_97 : decode cX10_worth 97 = .ok (.iconst 1, 1) := by decide +kernel
theorem dX10_worth_98 : decode cX10_worth 98 = .ok (.isub, 1) := by decide +kernel
theorem dX10_worth_99 : decode cX10_worth 99 = .ok (.iload 4, 2) := by decide +kernel
theorem dX10_worth_101 : decode cX10_worth 101 = .ok (.iconst 3, 1) := by decide +kernel
theorem dX10_worth_102 : decode cX10_worth 102 = .ok (.if_icmp .ne 11, 3) := by decide +kernel
theorem dX10_worth_105 : decode cX10_worth 105 = .ok (.iload 6, 2) := by decide +kernel
theorem dX10_worth_107 : decode cX10_worth 107 = .ok (.iload 5, 2) := by decide +kernel
theorem dX10_worth_109 : decode cX10_worth 109 = .ok (.iadd, 1) := by decide +kernel
theorem dX10_worth_110 : decode cX10_worth 110 = .ok (.goto 75, 3) := by decide +kernel
theorem dX10_worth_113 : decode cX10_worth 113 = .ok (.iload 4, 2) := by decide +kernel
theorem dX10_worth_115 : decode cX10_worth 115 = .ok (.iconst 4, 1) := by decide +kernel
theorem dX10_worth_116 : decode cX10_worth 116 = .ok (.if_icmp .ne 11, 3) := by decide +kernel
theorem dX10_worth_119 : decode cX10_worth 119 = .ok (.iload 6, 2) := by decide +kernel
theorem dX10_worth_121 : decode cX10_worth 121 = .ok (.iload 5, 2) := by decide +kernel
theorem dX10_worth_123 : decode cX10_worth 123 = .ok (.isub, 1) := by decide +kernel
theorem dX10_worth_124 : decode cX10_worth 124 = .ok (.goto 61, 3) := by decide +kernel
theorem dX10_worth_127 : decode cX10_worth 127 = .ok (.iload 4, 2) := by decide +kernel
theorem dX10_worth_129 : decode cX10_worth 129 = .ok (.iconst 5, 1) := by decide +kernel
theorem dX10_worth_130 : decode cX10_worth 130 = .ok (.if_icmp .ne 18, 3) := by decide +kernel
theorem dX10_worth_133 : decode cX10_worth 133 = .ok (.iload 6, 2) := by decide +kernel
theorem dX10_worth_135 : decode cX10_worth 135 = .ok (.iload 5, 2) := by decide +kernel
theorem dX10_worth_137 : decode cX10_worth 137 = .ok (.if_icmp .ge 7, 3) := by decide +kernel
theorem dX10_worth_140 : decode cX10_worth 140 = .ok (.iconst 1, 1) := by decide +kernel
theorem dX10_worth_141 : decode cX10_worth 141 = .ok (.goto 44, 3) := by decide +kernel
theorem dX10_worth_144 : decode cX10_worth 144 = .ok (.iconst 0, 1) := by decide +kernel
theorem dX10_worth_145 : decode cX10_worth 145 = .ok (.goto 40, 3) := by decide +kernel
theorem dX10_worth_148 : decode cX10_worth 148 = .ok (.iload 4, 2) := by decide +kernel
theorem dX10_worth_150 : decode cX10_worth 150 = .ok (.bipush 6, 2) := by decide +kernel
theorem dX10_worth_152 : decode cX10_worth 152 = .ok (.if_icmp .ne 18, 3) := by decide +kernel
theorem dX10_worth_155 : decode cX10_worth 155 = .ok (.iload 6, 2) := by decide +kernel
theorem dX10_worth_157 : decode cX10_worth 157 = .ok (.iload 5, 2) := by decide +kernel
theorem dX10_worth_159 : decode cX10_worth 159 = .ok (.if_icmp .ne 7, 3) := by decide +kernel
theorem dX10_worth_162 : decode cX10_worth 162 = .ok (.iconst 1, 1) := by decide +kernel
theorem dX10_worth_163 : decode cX10_worth 163 = .ok (.goto 22, 3) := by decide +kernel
theorem dX10_worth_166 : decode cX10_worth 166 = .ok (.iconst 0, 1) := by decide +kernel
theorem dX10_worth_167 : decode cX10_worth 167 = .ok (.goto 18, 3) := by decide +kernel
theorem dX10_worth_170 : decode cX10_worth 170 = .ok (.iload 6, 2) := by decide +kernel
theorem dX10_worth_172 : decode cX10_worth 172 = .ok (.ifCond .eq 12, 3) := by decide +kernel
theorem dX10_worth_175 : decode cX10_worth 175 = .ok (.iload 5, 2) := by decide +kernel
theorem dX10_worth_177 : decode cX10_worth 177 = .ok (.ifCond .eq 7, 3) := by decide +kernel
theorem dX10_worth_180 : decode cX10_worth 180 = .ok (.iconst 1, 1) := by decide +kernel
theorem dX10_worth_181 : decode cX10_worth 181 = .ok (.goto 4, 3) := by decide +kernel
theorem dX10_worth_184 : decode cX10_worth 184 = .ok (.iconst 0, 1) := by decide +kernel
theorem dX10_worth_185 : decode cX10_worth 185 = .ok (.iastore, 1) := by decide +kernel
theorem dX10_worth_186 : decode cX10_worth 186 = .ok (.iinc 2 1, 3) := by decide +kernel
theorem dX10_worth_189 : decode cX10_worth 189 = .ok (.goto (-185), 3) := by decide +kernel
theorem dX10_worth_192 : decode cX10_worth 192 = .ok (.aload_n 0, 1) := by decide +kernel
theorem dX10_worth_193 : decode cX10_worth 193 = .ok (.getfield 82, 3) := by decide +kernel
theorem dX10_worth_196 : decode cX10_worth 196 = .ok (.iconst 0, 1) := by decide +kernel
theorem dX10_worth_197 : decode cX10_worth 197 = .ok (.iaload, 1) := by decide +kernel
theorem dX10_worth_198 : decode cX10_worth 198 = .ok (.ireturn, 1) := by decide +kernel
theorem dX10_years_0 : decode cX10_years 0 = .ok (.aload_n 0, 1) := by decide +kernel
theorem dX10_years_1 : decode cX10_years 1 = .ok (.iconst 0, 1) := by decide +kernel
theorem dX10_years_2 : decode cX10_years 2 = .ok (.putfield 1, 3) := by decide +kernel
theorem dX10_years_5 : decode cX10_years 5 = .ok (.iload_n 1, 1) := by decide +kernel
theorem dX10_years_6 : decode cX10_years 6 = .ok (.ifCond .lt 20, 3) := by decide +kernel
theorem dX10_years_9 : decode cX10_years 9 = .ok (.iload_n 1, 1) := by decide +kernel
theorem dX10_years_10 : decode cX10_years 10 = .ok (.bipush 20, 2) := by decide +kernel
theorem dX10_years_12 : decode cX10_years 12 = .ok (.if_icmp .gt 14, 3) := by decide +kernel
theorem dX10_years_15 : decode cX10_years 15 = .ok (.aload_n 0, 1) := by decide +kernel
theorem dX10_years_16 : decode cX10_years 16 = .ok (.getfield 241, 3) := by decide +kernel
theorem dX10_years_19 : decode cX10_years 19 = .ok (.iload_n 1, 1) := by decide +kernel
theorem dX10_years_20 : decode cX10_years 20 = .ok (.iadd, 1) := by decide +kernel
theorem dX10_years_21 : decode cX10_years 21 = .ok (.bipush 99, 2) := by decide +kernel
theorem dX10_years_23 : decode cX10_years 23 = .ok (.if_icmp .le 5, 3) := by decide +kernel
theorem dX10_years_26 : decode cX10_years 26 = .ok (.iconst (-1), 1) := by decide +kernel
theorem dX10_years_27 : decode cX10_years 27 = .ok (.ireturn, 1) := by decide +kernel
theorem dX10_years_28 : decode cX10_years 28 = .ok (.aload_n 0, 1) := by decide +kernel
theorem dX10_years_29 : decode cX10_years 29 = .ok (.dup, 1) := by decide +kernel
theorem dX10_years_30 : decode cX10_years 30 = .ok (.getfield 241, 3) := by decide +kernel
theorem dX10_years_33 : decode cX10_years 33 = .ok (.iload_n 1, 1) := by decide +kernel
theorem dX10_years_34 : decode cX10_years 34 = .ok (.iadd, 1) := by decide +kernel
theorem dX10_years_35 : decode cX10_years 35 = .ok (.putfield 241, 3) := by decide +kernel
theorem dX10_years_38 : decode cX10_years 38 = .ok (.aload_n 0, 1) := by decide +kernel
theorem dX10_years_39 : decode cX10_years 39 = .ok (.getfield 241, 3) := by decide +kernel
theorem dX10_years_42 : decode cX10_years 42 = .ok (.ireturn, 1) := by decide +kernel
theorem dX10_isPlace_0 : decode cX10_isPlace 0 = .ok (.iload_n 0, 1) := by decide +kernel
theorem dX10_isPlace_1 : decode cX10_isPlace 1 = .ok (.ifCond .lt 13, 3) := by decide +kernel
theorem dX10_isPlace_4 : decode cX10_isPlace 4 = .ok (.iload_n 0, 1) := by decide +kernel
theorem dX10_isPlace_5 : decode cX10_isPlace 5 = .ok (.bipush 10, 2) := by decide +kernel
theorem dX10_isPlace_7 : decode cX10_isPlace 7 = .ok (.if_icmp .ge 7, 3) := by decide +kernel
theorem dX10_isPlace_10 : decode cX10_isPlace 10 = .ok (.iconst 1, 1) := by decide +kernel
theorem dX10_isPlace_11 : decode cX10_isPlace 11 = .ok (.goto 4, 3) := by decide +kernel
theorem dX10_isPlace_14 : decode cX10_isPlace 14 = .ok (.iconst 0, 1) := by decide +kernel
theorem dX10_isPlace_15 : decode cX10_isPlace 15 = .ok (.ireturn, 1) := by decide +kernel
theorem dX10_isValue_0 : decode cX10_isValue 0 = .ok (.iload_n 0, 1) := by decide +kernel
theorem dX10_isValue_1 : decode cX10_isValue 1 = .ok (.ifCond .lt 14, 3) := by decide +kernel
theorem dX10_isValue_4 : decode cX10_isValue 4 = .ok (.iload_n 0, 1) := by decide +kernel
theorem dX10_isValue_5 : decode cX10_isValue 5 = .ok (.sipush 9999, 3) := by decide +kernel
theorem dX10_isValue_8 : decode cX10_isValue 8 = .ok (.if_icmp .gt 7, 3) := by decide +kernel
theorem dX10_isValue_11 : decode cX10_isValue 11 = .ok (.iconst 1, 1) := by decide +kernel
theorem dX10_isValue_12 : decode cX10_isValue 12 = .ok (.goto 4, 3) := by decide +kernel
theorem dX10_isValue_15 : decode cX10_isValue 15 = .ok (.iconst 0, 1) := by decide +kernel
theorem dX10_isValue_16 : decode cX10_isValue 16 = .ok (.ireturn, 1) := by decide +kernel
theorem dX10_fact_0 : decode cX10_fact 0 = .ok (.aload_n 0, 1) := by decide +kernel
theorem dX10_fact_1 : decode cX10_fact 1 = .ok (.iconst 0, 1) := by decide +kernel
theorem dX10_fact_2 : decode cX10_fact 2 = .ok (.putfield 1, 3) := by decide +kernel
theorem dX10_fact_5 : decode cX10_fact 5 = .ok (.iload_n 1, 1) := by decide +kernel
theorem dX10_fact_6 : decode cX10_fact 6 = .ok (.ifCond .lt 31, 3) := by decide +kernel
theorem dX10_fact_9 : decode cX10_fact 9 = .ok (.iload_n 1, 1) := by decide +kernel
theorem dX10_fact_10 : decode cX10_fact 10 = .ok (.iconst 5, 1) := by decide +kernel
theorem dX10_fact_11 : decode cX10_fact 11 = .ok (.if_icmp .gt 26, 3) := by decide +kernel
theorem dX10_fact_14 : decode cX10_fact 14 = .ok (.iload_n 2, 1) := by decide +kernel
theorem dX10_fact_15 : decode cX10_fact 15 = .ok (.invokestatic 244, 3) := by decide +kernel
theorem dX10_fact_18 : decode cX10_fact 18 = .ok (.ifCond .eq 19, 3) := by decide +kernel
theorem dX10_fact_21 : decode cX10_fact 21 = .ok (.iload_n 3, 1) := by decide +kernel
theorem dX10_fact_22 : decode cX10_fact 22 = .ok (.invokestatic 247, 3) := by decide +kernel
theorem dX10_fact_25 : decode cX10_fact 25 = .ok (.ifCond .eq 12, 3) := by decide +kernel
theorem dX10_fact_28 : decode cX10_fact 28 = .ok (.aload_n 0, 1) := by decide +kernel
theorem dX10_fact_29 : decode cX10_fact 29 = .ok (.getfield 250, 3) := by decide +kernel
theorem dX10_fact_32 : decode cX10_fact 32 = .ok (.bipush 60, 2) := by decide +kernel
theorem dX10_fact_34 : decode cX10_fact 34 = .ok (.if_icmp .ne 5, 3) := by decide +kernel
theorem dX10_fact_37 : decode cX10_fact 37 = .ok (.iconst (-1), 1) := by decide +kernel
theorem dX10_fact_38 : decode cX10_fact 38 = .ok (.ireturn, 1) := by decide +kernel
theorem dX10_fact_39 : decode cX10_fact 39 = .ok (.aload_n 0, 1) := by decide +kernel
theorem dX10_fact_40 : decode cX10_fact 40 = .ok (.getfield 85, 3) := by decide +kernel
theorem dX10_fact_43 : decode cX10_fact 43 = .ok (.aload_n 0, 1) := by decide +kernel
theorem dX10_fact_44 : decode cX10_fact 44 = .ok (.getfield 250, 3) := by decide +kernel
theorem dX10_fact_47 : decode cX10_fact 47 = .ok (.iload_n 1, 1) := by decide +kernel
theorem dX10_fact_48 : decode cX10_fact 48 = .ok (.iastore, 1) := by decide +kernel
theorem dX10_fact_49 : decode cX10_fact 49 = .ok (.aload_n 0, 1) := by decide +kernel
theorem dX10_fact_50 : decode cX10_fact 50 = .ok (.getfield 88, 3) := by decide +kernel
theorem dX10_fact_53 : decode cX10_fact 53 = .ok (.aload_n 0, 1) := by decide +kernel
theorem dX10_fact_54 : decode cX10_fact 54 = .ok (.getfield 250, 3) := by decide +kernel
theorem dX10_fact_57 : decode cX10_fact 57 = .ok (.iload_n 2, 1) := by decide +kernel
theorem dX10_fact_58 : decode cX10_fact 58 = .ok (.iastore, 1) := by decide +kernel
theorem dX10_fact_59 : decode cX10_fact 59 = .ok (.aload_n 0, 1) := by decide +kernel
theorem dX10_fact_60 : decode cX10_fact 60 = .ok (.getfield 91, 3) := by decide +kernel
theorem dX10_fact_63 : decode cX10_fact 63 = .ok (.aload_n 0, 1) := by decide +kernel
theorem dX10_fact_64 : decode cX10_fact 64 = .ok (.getfield 250, 3) := by decide +kernel
theorem dX10_fact_67 : decode cX10_fact 67 = .ok (.iload_n 3, 1) := by decide +kernel
theorem dX10_fact_68 : decode cX10_fact 68 = .ok (.iastore, 1) := by decide +kernel
theorem dX10_fact_69 : decode cX10_fact 69 = .ok (.aload_n 0, 1) := by decide +kernel
theorem dX10_fact_70 : decode cX10_fact 70 = .ok (.getfield 94, 3) := by decide +kernel
theorem dX10_fact_73 : decode cX10_fact 73 = .ok (.aload_n 0, 1) := by decide +kernel
theorem dX10_fact_74 : decode cX10_fact 74 = .ok (.getfield 250, 3) := by decide +kernel
theorem dX10_fact_77 : decode cX10_fact 77 = .ok (.aload_n 0, 1) := by decide +kernel
theorem dX10_fact_78 : decode cX10_fact 78 = .ok (.getfield 241, 3) := by decide +kernel
theorem dX10_fact_81 : decode cX10_fact 81 = .ok (.iastore, 1) := by decide +kernel
theorem dX10_fact_82 : decode cX10_fact 82 = .ok (.aload_n 0, 1) := by decide +kernel
theorem dX10_fact_83 : decode cX10_fact 83 = .ok (.getfield 97, 3) := by decide +kernel
theorem dX10_fact_86 : decode cX10_fact 86 = .ok (.aload_n 0, 1) := by decide +kernel
theorem dX10_fact_87 : decode cX10_fact 87 = .ok (.getfield 250, 3) := by decide +kernel
theorem dX10_fact_90 : decode cX10_fact 90 = .ok (.iconst 1, 1) := by decide +kernel
theorem dX10_fact_91 : decode cX10_fact 91 = .ok (.iastore, 1) := by decide +kernel
theorem dX10_fact_92 : decode cX10_fact 92 = .ok (.aload_n 0, 1) := by decide +kernel
theorem dX10_fact_93 : decode cX10_fact 93 = .ok (.getfield 100, 3) := by decide +kernel
theorem dX10_fact_96 : decode cX10_fact 96 = .ok (.aload_n 0, 1) := by decide +kernel
theorem dX10_fact_97 : decode cX10_fact 97 = .ok (.getfield 250, 3) := by decide +kernel
theorem dX10_fact_100 : decode cX10_fact 100 = .ok (.iconst 1, 1) := by decide +kernel
theorem dX10_fact_101 : decode cX10_fact 101 = .ok (.iastore, 1) := by decide +kernel
theorem dX10_fact_102 : decode cX10_fact 102 = .ok (.aload_n 0, 1) := by decide +kernel
theorem dX10_fact_103 : decode cX10_fact 103 = .ok (.dup, 1) := by decide +kernel
theorem dX10_fact_104 : decode cX10_fact 104 = .ok (.getfield 250, 3) := by decide +kernel
theorem dX10_fact_107 : decode cX10_fact 107 = .ok (.iconst 1, 1) := by decide +kernel
theorem dX10_fact_108 : decode cX10_fact 108 = .ok (.iadd, 1) := by decide +kernel
theorem dX10_fact_109 : decode cX10_fact 109 = .ok (.putfield 250, 3) := by decide +kernel
theorem dX10_fact_112 : decode cX10_fact 112 = .ok (.aload_n 0, 1) := by decide +kernel
theorem dX10_fact_113 : decode cX10_fact 113 = .ok (.getfield 250, 3) := by decide +kernel
theorem dX10_fact_116 : decode cX10_fact 116 = .ok (.iconst 1, 1) := by decide +kernel
theorem dX10_fact_117 : decode cX10_fact 117 = .ok (.isub, 1) := by decide +kernel
theorem dX10_fact_118 : decode cX10_fact 118 = .ok (.ireturn, 1) := by decide +kernel
theorem dX10_isFact_0 : decode cX10_isFact 0 = .ok (.iload_n 1, 1) := by decide +kernel
theorem dX10_isFact_1 : decode cX10_isFact 1 = .ok (.ifCond .lt 15, 3) := by decide +kernel
theorem dX10_isFact_4 : decode cX10_isFact 4 = .ok (.iload_n 1, 1) := by decide +kernel
theorem dX10_isFact_5 : decode cX10_isFact 5 = .ok (.aload_n 0, 1) := by decide +kernel
theorem dX10_isFact_6 : decode cX10_isFact 6 = .ok (.getfield 250, 3) := by decide +kernel
theorem dX10_isFact_9 : decode cX10_isFact 9 = .ok (.if_icmp .ge 7, 3) := by decide +kernel
theorem dX10_isFact_12 : decode cX10_isFact 12 = .ok (.iconst 1, 1) := by decide +kernel
theorem dX10_isFact_13 : decode cX10_isFact 13 = .ok (.goto 4, 3) := by decide +kernel
theorem dX10_isFact_16 : decode cX10_isFact 16 = .ok (.iconst 0, 1) := by decide +kernel
theorem dX10_isFact_17 : decode cX10_isFact 17 = .ok (.ireturn, 1) := by decide +kernel
theorem dX10_line__0 : decode cX10_line_ 0 = .ok (.aload_n 0, 1) := by decide +kernel
theorem dX10_line__1 : decode cX10_line_ 1 = .ok (.iconst 0, 1) := by decide +kernel
theorem dX10_line__2 : decode cX10_line_ 2 = .ok (.putfield 1, 3) := by decide +kernel
theorem dX10_line__5 : decode cX10_line_ 5 = .ok (.aload_n 0, 1) := by decide +kernel
theorem dX10_line__6 : decode cX10_line_ 6 = .ok (.iload_n 1, 1) := by decide +kernel
theorem dX10_line__7 : decode cX10_line_ 7 = .ok (.invokevirtual 253, 3) := by decide +kernel
theorem dX10_line__10 : decode cX10_line_ 10 = .ok (.ifCond .eq 25, 3) := by decide +kernel
theorem dX10_line__13 : decode cX10_line_ 13 = .ok (.iload_n 2, 1) := by decide +kernel
theorem dX10_line__14 : decode cX10_line_ 14 = .ok (.iconst 1, 1) := by decide +kernel
theorem dX10_line__15 : decode cX10_line_ 15 = .ok (.if_icmp .lt 20, 3) := by decide +kernel
theorem dX10_line__18 : decode cX10_line_ 18 = .ok (.iload_n 2, 1) := by decide +kernel
theorem dX10_line__19 : decode cX10_line_ 19 = .ok (.bipush 9, 2) := by decide +kernel
theorem dX10_line__21 : decode cX10_line_ 21 = .ok (.if_icmp .gt 14, 3) := by decide +kernel
theorem dX10_line__24 : decode cX10_line_ 24 = .ok (.iload_n 3, 1) := by decide +kernel
theorem dX10_line__25 : decode cX10_line_ 25 = .ok (.ifCond .lt 10, 3) := by decide +kernel
theorem dX10_line__28 : decode cX10_line_ 28 = .ok (.iload_n 3, 1) := by decide +kernel
theorem dX10_line__29 : decode cX10_line_ 29 = .ok (.sipush 999, 3) := by decide +kernel
theorem dX10_line__32 : decode cX10_line_ 32 = .ok (.if_icmp .le 5, 3) := by decide +kernel
theorem dX10_line__35 : decode cX10_line_ 35 = .ok (.iconst 0, 1) := by decide +kernel
theorem dX10_line__36 : decode cX10_line_ 36 = .ok (.ireturn, 1) := by decide +kernel
theorem dX10_line__37 : decode cX10_line_ 37 = .ok (.aload_n 0, 1) := by decide +kernel
theorem dX10_line__38 : decode cX10_line_ 38 = .ok (.getfield 97, 3) := by decide +kernel
theorem dX10_line__41 : decode cX10_line_ 41 = .ok (.iload_n 1, 1) := by decide +kernel
theorem dX10_line__42 : decode cX10_line_ 42 = .ok (.iload_n 2, 1) := by decide +kernel
theorem dX10_line__43 : decode cX10_line_ 43 = .ok (.iastore, 1) := by decide +kernel
theorem dX10_line__44 : decode cX10_line_ 44 = .ok (.aload_n 0, 1) := by decide +kernel
theorem dX10_line__45 : decode cX10_line_ 45 = .ok (.getfield 100, 3) := by decide +kernel
theorem dX10_line__48 : decode cX10_line_ 48 = .ok (.iload_n 1, 1) := by decide +kernel
theorem dX10_line__49 : decode cX10_line_ 49 = .ok (.iload_n 3, 1) := by decide +kernel
theorem dX10_line__50 : decode cX10_line_ 50 = .ok (.iastore, 1) := by decide +kernel
theorem dX10_line__51 : decode cX10_line_ 51 = .ok (.iconst 1, 1) := by decide +kernel
theorem dX10_line__52 : decode cX10_line_ 52 = .ok (.ireturn, 1) := by decide +kernel
theorem dX10_rateOf_0 : decode cX10_rateOf 0 = .ok (.aload_n 0, 1) := by decide +kernel
theorem dX10_rateOf_1 : decode cX10_rateOf 1 = .ok (.getfield 103, 3) := by decide +kernel
theorem dX10_rateOf_4 : decode cX10_rateOf 4 = .ok (.iload_n 1, 1) := by decide +kernel
theorem dX10_rateOf_5 : decode cX10_rateOf 5 = .ok (.iaload, 1) := by decide +kernel
theorem dX10_rateOf_6 : decode cX10_rateOf 6 = .ok (.iconst 1, 1) := by decide +kernel
theorem dX10_rateOf_7 : decode cX10_rateOf 7 = .ok (.iadd, 1) := by decide +kernel
theorem dX10_rateOf_8 : decode cX10_rateOf 8 = .ok (.aload_n 0, 1) := by decide +kernel
theorem dX10_rateOf_9 : decode cX10_rateOf 9 = .ok (.getfield 106, 3) := by decide +kernel
theorem dX10_rateOf_12 : decode cX10_rateOf 12 = .ok (.iload_n 1, 1) := by decide +kernel
theorem dX10_rateOf_13 : decode cX10_rateOf 13 = .ok (.iaload, 1) := by decide +kernel
theorem dX10_rateOf_14 : decode cX10_rateOf 14 = .ok (.isub, 1) := by decide +kernel
theorem dX10_rateOf_15 : decode cX10_rateOf 15 = .ok (.istore_n 2, 1) := by decide +kernel
theorem dX10_rateOf_16 : decode cX10_rateOf 16 = .ok (.iload_n 2, 1) := by decide +kernel
theorem dX10_rateOf_17 : decode cX10_rateOf 17 = .ok (.ifCond .ge 7, 3) := by decide +kernel
theorem dX10_rateOf_20 : decode cX10_rateOf 20 = .ok (.iconst 0, 1) := by decide +kernel
theorem dX10_rateOf_21 : decode cX10_rateOf 21 = .ok (.goto 20, 3) := by decide +kernel
theorem dX10_rateOf_24 : decode cX10_rateOf 24 = .ok (.ldc2_w 256, 3) := by decide +kernel
theorem dX10_rateOf_27 : decode cX10_rateOf 27 = .ok (.iload_n 2, 1) := by decide +kernel
theorem dX10_rateOf_28 : decode cX10_rateOf 28 = .ok (.i2l, 1) := by decide +kernel
theorem dX10_rateOf_29 : decode cX10_rateOf 29 = .ok (.lmul, 1) := by decide +kernel
theorem dX10_rateOf_30 : decode cX10_rateOf 30 = .ok (.aload_n 0, 1) := by decide +kernel
theorem dX10_rateOf_31 : decode cX10_rateOf 31 = .ok (.getfield 103, 3) := by decide +kernel
theorem dX10_rateOf_34 : decode cX10_rateOf 34 = .ok (.iload_n 1, 1) := by decide +kernel
theorem dX10_rateOf_35 : decode cX10_rateOf 35 = .ok (.iaload, 1) := by decide +kernel
theorem dX10_rateOf_36 : decode cX10_rateOf 36 = .ok (.iconst 2, 1) := by decide +kernel
theorem dX10_rateOf_37 : decode cX10_rateOf 37 = .ok (.iadd, 1) := by decide +kernel
theorem dX10_rateOf_38 : decode cX10_rateOf 38 = .ok (.i2l, 1) := by decide +kernel
theorem dX10_rateOf_39 : decode cX10_rateOf 39 = .ok (.ldiv, 1) := by decide +kernel
theorem dX10_rateOf_40 : decode cX10_rateOf 40 = .ok (.l2i, 1) := by decide +kernel
theorem dX10_rateOf_41 : decode cX10_rateOf 41 = .ok (.ireturn, 1) := by decide +kernel
theorem dX10_chanceOf_0 : decode cX10_chanceOf 0 = .ok (.ldc2_w 256, 3) := by decide +kernel
theorem dX10_chanceOf_3 : decode cX10_chanceOf 3 = .ok (.lstore_n 2, 1) := by decide +kernel
theorem dX10_chanceOf_4 : decode cX10_chanceOf 4 = .ok (.aload_n 0, 1) := by decide +kernel
theorem dX10_chanceOf_5 : decode cX10_chanceOf 5 = .ok (.getfield 94, 3) := by decide +kernel
theorem dX10_chanceOf_8 : decode cX10_chanceOf 8 = .ok (.iload_n 1, 1) := by decide +kernel
theorem dX10_chanceOf_9 : decode cX10_chanceOf 9 = .ok (.iaload, 1) := by decide +kernel
theorem dX10_chanceOf_10 : decode cX10_chanceOf 10 = .ok (.istore 4, 2) := by decide +kernel
theorem dX10_chanceOf_12 : decode cX10_chanceOf 12 = .ok (.iload 4, 2) := by decide +kernel
theorem dX10_chanceOf_14 : decode cX10_chanceOf 14 = .ok (.aload_n 0, 1) := by decide +kernel
theorem dX10_chanceOf_15 : decode cX10_chanceOf 15 = .ok (.getfield 241, 3) := by decide +kernel
theorem dX10_chanceOf_18 : decode cX10_chanceOf 18 = .ok (.if_icmp .ge 27, 3) := by decide +kernel
theorem dX10_chanceOf_21 : decode cX10_chanceOf 21 = .ok (.lload_n 2, 1) := by decide +kernel
theorem dX10_chanceOf_22 : decode cX10_chanceOf 22 = .ok (.aload_n 0, 1) := by decide +kernel
theorem dX10_chanceOf_23 : decode cX10_chanceOf 23 = .ok (.aload_n 0, 1) := by decide +kernel
theorem dX10_chanceOf_24 : decode cX10_chanceOf 24 = .ok (.getfield 85, 3) := by decide +kernel
theorem dX10_chanceOf_27 : decode cX10_chanceOf 27 = .ok (.iload_n 1, 1) := by decide +kernel
theorem dX10_chanceOf_28 : decode cX10_chanceOf 28 = .ok (.iaload, 1) := by decide +kernel
theorem dX10_chanceOf_29 : decode cX10_chanceOf 29 = .ok (.invokevirtual 258, 3) := by decide +kernel
theorem dX10_chanceOf_32 : decode cX10_chanceOf 32 = .ok (.i2l, 1) := by decide +kernel
theorem dX10_chanceOf_33 : decode cX10_chanceOf 33 = .ok (.lmul, 1) := by decide +kernel
theorem dX10_chanceOf_34 : decode cX10_chanceOf 34 = .ok (.ldc2_w 256, 3) := by decide +kernel
theorem dX10_chanceOf_37 : decode cX10_chanceOf 37 = .ok (.ldiv, 1) := by decide +kernel
theorem dX10_chanceOf_38 : decode cX10_chanceOf 38 = .ok (.lstore_n 2, 1) := by decide +kernel
theorem dX10_chanceOf_39 : decode cX10_chanceOf 39 = .ok (.iinc 4 1, 3) := by decide +kernel
theorem dX10_chanceOf_42 : decode cX10_chanceOf 42 = .ok (.goto (-30), 3) := by decide +kernel
theorem dX10_chanceOf_45 : decode cX10_chanceOf 45 = .ok (.lload_n 2, 1) := by decide +kernel
theorem dX10_chanceOf_46 : decode cX10_chanceOf 46 = .ok (.l2i, 1) := by decide +kernel
theorem dX10_chanceOf_47 : decode cX10_chanceOf 47 = .ok (.ireturn, 1) := by decide +kernel
theorem dX10_rate_0 : decode cX10_rate 0 = .ok (.aload_n 0, 1) := by decide +kernel
theorem dX10_rate_1 : decode cX10_rate 1 = .ok (.iconst 0, 1) := by decide +kernel
theorem dX10_rate_2 : decode cX10_rate 2 = .ok (.putfield 1, 3) := by decide +kernel
theorem dX10_rate_5 : decode cX10_rate 5 = .ok (.iload_n 1, 1) := by decide +kernel
theorem dX10_rate_6 : decode cX10_rate 6 = .ok (.ifCond .lt 8, 3) := by decide +kernel
theorem dX10_rate_9 : decode cX10_rate 9 = .ok (.iload_n 1, 1) := by decide +kernel
theorem dX10_rate_10 : decode cX10_rate 10 = .ok (.iconst 5, 1) := by decide +kernel
theorem dX10_rate_11 : decode cX10_rate 11 = .ok (.if_icmp .le 7, 3) := by decide +kernel
theorem dX10_rate_14 : decode cX10_rate 14 = .ok (.iconst (-1), 1) := by decide +kernel
theorem dX10_rate_15 : decode cX10_rate 15 = .ok (.goto 8, 3) := by decide +kernel
theorem dX10_rate_18 : decode cX10_rate 18 = .ok (.aload_n 0, 1) := by decide +kernel
theorem dX10_rate_19 : decode cX10_rate 19 = .ok (.iload_n 1, 1) := by decide +kernel
theorem dX10_rate_20 : decode cX10_rate 20 = .ok (.invokevirtual 258, 3) := by decide +kernel
theorem dX10_rate_23 : decode cX10_rate 23 = .ok (.ireturn, 1) := by decide +kernel
theorem dX10_chance_0 : decode cX10_chance 0 = .ok (.aload_n 0, 1) := by decide +kernel
theorem dX10_chance_1 : decode cX10_chance 1 = .ok (.iconst 0, 1) := by decide +kernel
theorem dX10_chance_2 : decode cX10_chance 2 = .ok (.putfield 1, 3) := by decide +kernel
theorem dX10_chance_5 : decode cX10_chance 5 = .ok (.aload_n 0, 1) := by decide +kernel
theorem dX10_chance_6 : decode cX10_chance 6 = .ok (.iload_n 1, 1) := by decide +kernel
theorem dX10_chance_7 : decode cX10_chance 7 = .ok (.invokevirtual 253, 3) := by decide +kernel
theorem dX10_chance_10 : decode cX10_chance 10 = .ok (.ifCond .eq 11, 3) := by decide +kernel
theorem dX10_chance_13 : decode cX10_chance 13 = .ok (.aload_n 0, 1) := by decide +kernel
theorem dX10_chance_14 : decode cX10_chance 14 = .ok (.iload_n 1, 1) := by decide +kernel
theorem dX10_chance_15 : decode cX10_chance 15 = .ok (.invokevirtual 261, 3) := by decide +kernel
theorem dX10_chance_18 : decode cX10_chance 18 = .ok (.goto 4, 3) := by decide +kernel
theorem dX10_chance_21 : decode cX10_chance 21 = .ok (.iconst (-1), 1) := by decide +kernel
theorem dX10_chance_22 : decode cX10_chance 22 = .ok (.ireturn, 1) := by decide +kernel
theorem dX10_check_0 : decode cX10_check 0 = .ok (.aload_n 0, 1) := by decide +kernel
theorem dX10_check_1 : decode cX10_check 1 = .ok (.iconst 0, 1) := by decide +kernel
theorem dX10_check_2 : decode cX10_check 2 = .ok (.putfield 1, 3) := by decide +kernel
theorem dX10_check_5 : decode cX10_check 5 = .ok (.aload_n 0, 1) := by decide +kernel
theorem dX10_check_6 : decode cX10_check 6 = .ok (.iload_n 1, 1) := by decide +kernel
theorem dX10_check_7 : decode cX10_check 7 = .ok (.invokevirtual 253, 3) := by decide +kernel
theorem dX10_check_10 : decode cX10_check 10 = .ok (.ifCond .eq 10, 3) := by decide +kernel
theorem dX10_check_13 : decode cX10_check 13 = .ok (.iload_n 2, 1) := by decide +kernel
theorem dX10_check_14 : decode cX10_check 14 = .ok (.invokestatic 247, 3) := by decide +kernel
theorem dX10_check_17 : decode cX10_check 17 = .ok (.ifCond .ne 5, 3) := by decide +kernel
theorem dX10_check_20 : decode cX10_check 20 = .ok (.iconst (-1), 1) := by decide +kernel
theorem dX10_check_21 : decode cX10_check 21 = .ok (.ireturn, 1) := by decide +kernel
theorem dX10_check_22 : decode cX10_check 22 = .ok (.iload_n 2, 1) := by decide +kernel
theorem dX10_check_23 : decode cX10_check 23 = .ok (.aload_n 0, 1) := by decide +kernel
theorem dX10_check_24 : decode cX10_check 24 = .ok (.getfield 91, 3) := by decide +kernel
theorem dX10_check_27 : decode cX10_check 27 = .ok (.iload_n 1, 1) := by decide +kernel
theorem dX10_check_28 : decode cX10_check 28 = .ok (.iaload, 1) := by decide +kernel
theorem dX10_check_29 : decode cX10_check 29 = .ok (.if_icmp .eq 7, 3) := by decide +kernel
theorem dX10_check_32 : decode cX10_check 32 = .ok (.iconst 1, 1) := by decide +kernel
theorem dX10_check_33 : decode cX10_check 33 = .ok (.goto 4, 3) := by decide +kernel
theorem dX10_check_36 : decode cX10_check 36 = .ok (.iconst 0, 1) := by decide +kernel
theorem dX10_check_37 : decode cX10_check 37 = .ok (.istore_n 3, 1) := by decide +kernel
theorem dX10_check_38 : decode cX10_check 38 = .ok (.aload_n 0, 1) := by decide +kernel
theorem dX10_check_39 : decode cX10_check 39 = .ok (.getfield 103, 3) := by decide +kernel
theorem dX10_check_42 : decode cX10_check 42 = .ok (.aload_n 0, 1) := by decide +kernel
theorem dX10_check_43 : decode cX10_check 43 = .ok (.getfield 85, 3) := by decide +kernel
theorem dX10_check_46 : decode cX10_check 46 = .ok (.iload_n 1, 1) := by decide +kernel
theorem dX10_check_47 : decode cX10_check 47 = .ok (.iaload, 1) := by decide +kernel
theorem dX10_check_48 : decode cX10_check 48 = .ok (.dup2, 1) := by decide +kernel
theorem dX10_check_49 : decode cX10_check 49 = .ok (.iaload, 1) := by decide +kernel
theorem dX10_check_50 : decode cX10_check 50 = .ok (.aload_n 0, 1) := by decide +kernel
theorem dX10_check_51 : decode cX10_check 51 = .ok (.getfield 241, 3) := by decide +kernel
theorem dX10_check_54 : decode cX10_check 54 = .ok (.aload_n 0, 1) := by decide +kernel
theorem dX10_check_55 : decode cX10_check 55 = .ok (.getfield 94, 3) := by decide +kernel
theorem dX10_check_58 : decode cX10_check 58 = .ok (.iload_n 1, 1) := by decide +kernel
theorem dX10_check_59 : decode cX10_check 59 = .ok (.iaload, 1) := by decide +kernel
theorem dX10_check_60 : decode cX10_check 60 = .ok (.isub, 1) := by decide +kernel
theorem dX10_check_61 : decode cX10_check 61 = .ok (.iadd, 1) := by decide +kernel
theorem dX10_check_62 : decode cX10_check 62 = .ok (.iastore, 1) := by decide +kernel
theorem dX10_check_63 : decode cX10_check 63 = .ok (.aload_n 0, 1) := by decide +kernel
theorem dX10_check_64 : decode cX10_check 64 = .ok (.getfield 106, 3) := by decide +kernel
theorem dX10_check_67 : decode cX10_check 67 = .ok (.aload_n 0, 1) := by decide +kernel
theorem dX10_check_68 : decode cX10_check 68 = .ok (.getfield 85, 3) := by decide +kernel
theorem dX10_check_71 : decode cX10_check 71 = .ok (.iload_n 1, 1) := by decide +kernel
theorem dX10_check_72 : decode cX10_check 72 = .ok (.iaload, 1) := by decide +kernel
theorem dX10_check_73 : decode cX10_check 73 = .ok (.dup2, 1) := by decide +kernel
theorem dX10_check_74 : decode cX10_check 74 = .ok (.iaload, 1) := by decide +kernel
theorem dX10_check_75 : decode cX10_check 75 = .ok (.iload_n 3, 1) := by decide +kernel
theorem dX10_check_76 : decode cX10_check 76 = .ok (.ifCond .eq 7, 3) := by decide +kernel
theorem dX10_check_79 : decode cX10_check 79 = .ok (.iconst 1, 1) := by decide +kernel
theorem dX10_check_80 : decode cX10_check 80 = .ok (.goto 4, 3) := by decide +kernel
theorem dX10_check_83 : decode cX10_check 83 = .ok (.iconst 0, 1) := by decide +kernel
theorem dX10_check_84 : decode cX10_check 84 = .ok (.iadd, 1) := by decide +kernel
theorem dX10_check_85 : decode cX10_check 85 = .ok (.iastore, 1) := by decide +kernel
theorem dX10_check_86 : decode cX10_check 86 = .ok (.aload_n 0, 1) := by decide +kernel
theorem dX10_check_87 : decode cX10_check 87 = .ok (.getfield 91, 3) := by decide +kernel
theorem dX10_check_90 : decode cX10_check 90 = .ok (.iload_n 1, 1) := by decide +kernel
theorem dX10_check_91 : decode cX10_check 91 = .ok (.iload_n 2, 1) := by decide +kernel
theorem dX10_check_92 : decode cX10_check 92 = .ok (.iastore, 1) := by decide +kernel
theorem dX10_check_93 : decode cX10_check 93 = .ok (.aload_n 0, 1) := by decide +kernel
theorem dX10_check_94 : decode cX10_check 94 = .ok (.getfield 94, 3) := by decide +kernel
theorem dX10_check_97 : decode cX10_check 97 = .ok (.iload_n 1, 1) := by decide +kernel
theorem dX10_check_98 : decode cX10_check 98 = .ok (.aload_n 0, 1) := by decide +kernel
theorem dX10_check_99 : decode cX10_check 99 = .ok (.getfield 241, 3) := by decide +kernel
theorem dX10_check_102 : decode cX10_check 102 = .ok (.iastore, 1) := by decide +kernel
theorem dX10_check_103 : decode cX10_check 103 = .ok (.iconst 0, 1) := by decide +kernel
theorem dX10_check_104 : decode cX10_check 104 = .ok (.istore 4, 2) := by decide +kernel
theorem dX10_check_106 : decode cX10_check 106 = .ok (.iload 4, 2) := by decide +kernel
theorem dX10_check_108 : decode cX10_check 108 = .ok (.aload_n 0, 1) := by decide +kernel
theorem dX10_check_109 : decode cX10_check 109 = .ok (.getfield 264, 3) := by decide +kernel
theorem dX10_check_112 : decode cX10_check 112 = .ok (.if_icmp .ge 53, 3) := by decide +kernel
theorem dX10_check_115 : decode cX10_check 115 = .ok (.aload_n 0, 1) := by decide +kernel
theorem dX10_check_116 : decode cX10_check 116 = .ok (.getfield 118, 3) := by decide +kernel
theorem dX10_check_119 : decode cX10_check 119 = .ok (.iload 4, 2) := by decide +kernel
theorem dX10_check_121 : decode cX10_check 121 = .ok (.iaload, 1) := by decide +kernel
theorem dX10_check_122 : decode cX10_check 122 = .ok (.iload_n 1, 1) := by decide +kernel
theorem dX10_check_123 : decode cX10_check 123 = .ok (.if_icmp .ne 36, 3) := by decide +kernel
theorem dX10_check_126 : decode cX10_check 126 = .ok (.aload_n 0, 1) := by decide +kernel
theorem dX10_check_127 : decode cX10_check 127 = .ok (.getfield 124, 3) := by decide +kernel
theorem dX10_check_130 : decode cX10_check 130 = .ok (.iload 4, 2) := by decide +kernel
theorem dX10_check_132 : decode cX10_check 132 = .ok (.iaload, 1) := by decide +kernel
theorem dX10_check_133 : decode cX10_check 133 = .ok (.ifCond .ne 26, 3) := by decide +kernel
theorem dX10_check_136 : decode cX10_check 136 = .ok (.aload_n 0, 1) := by decide +kernel
theorem dX10_check_137 : decode cX10_check 137 = .ok (.getfield 124, 3) := by decide +kernel
theorem dX10_check_140 : decode cX10_check 140 = .ok (.iload 4, 2) := by decide +kernel
theorem dX10_check_142 : decode cX10_check 142 = .ok (.aload_n 0, 1) := by decide +kernel
theorem dX10_check_143 : decode cX10_check 143 = .ok (.getfield 121, 3) := by decide +kernel
theorem dX10_check_146 : decode cX10_check 146 = .ok (.iload 4, 2) := by decide +kernel
theorem dX10_check_148 : decode cX10_check 148 = .ok (.iaload, 1) := by decide +kernel
theorem dX10_check_149 : decode cX10_check 149 = .ok (.iload_n 2, 1) := by decide +kernel
theorem dX10_check_150 : decode cX10_check 150 = .ok (.if_icmp .ne 7, 3) := by decide +kernel
theorem dX10_check_153 : decode cX10_check 153 = .ok (.iconst 1, 1) := by decide +kernel
theorem dX10_check_154 : decode cX10_check 154 = .ok (.goto 4, 3) := by decide +kernel
theorem dX10_check_157 : decode cX10_check 157 = .ok (.iconst 2, 1) := by decide +kernel
theorem dX10_check_158 : decode cX10_check 158 = .ok (.iastore, 1) := by decide +kernel
theorem dX10_check_159 : decode cX10_check 159 = .ok (.iinc 4 1, 3) := by decide +kernel
theorem dX10_check_162 : decode cX10_check 162 = .ok (.goto (-56), 3) := by decide +kernel
theorem dX10_check_165 : decode cX10_check 165 = .ok (.aload_n 0, 1) := by decide +kernel
theorem dX10_check_166 : decode cX10_check 166 = .ok (.iload_n 1, 1) := by decide +kernel
theorem dX10_check_167 : decode cX10_check 167 = .ok (.iload_n 2, 1) := by decide +kernel
theorem dX10_check_168 : decode cX10_check 168 = .ok (.invokevirtual 267, 3) := by decide +kernel
theorem dX10_check_171 : decode cX10_check 171 = .ok (.iload_n 3, 1) := by decide +kernel
theorem dX10_check_172 : decode cX10_check 172 = .ok (.ifCond .eq 7, 3) := by decide +kernel
theorem dX10_check_175 : decode cX10_check 175 = .ok (.iconst 1, 1) := by decide +kernel
theorem dX10_check_176 : decode cX10_check 176 = .ok (.goto 4, 3) := by decide +kernel
theorem dX10_check_179 : decode cX10_check 179 = .ok (.iconst 0, 1) := by decide +kernel
theorem dX10_check_180 : decode cX10_check 180 = .ok (.ireturn, 1) := by decide +kernel
theorem dX10_takes_0 : decode cX10_takes 0 = .ok (.aload_n 0, 1) := by decide +kernel
theorem dX10_takes_1 : decode cX10_takes 1 = .ok (.iconst 0, 1) := by decide +kernel
theorem dX10_takes_2 : decode cX10_takes 2 = .ok (.putfield 1, 3) := by decide +kernel
theorem dX10_takes_5 : decode cX10_takes 5 = .ok (.iload_n 1, 1) := by decide +kernel
theorem dX10_takes_6 : decode cX10_takes 6 = .ok (.invokestatic 244, 3) := by decide +kernel
theorem dX10_takes_9 : decode cX10_takes 9 = .ok (.ifCond .eq 14, 3) := by decide +kernel
theorem dX10_takes_12 : decode cX10_takes 12 = .ok (.iload_n 2, 1) := by decide +kernel
theorem dX10_takes_13 : decode cX10_takes 13 = .ok (.iconst 1, 1) := by decide +kernel
theorem dX10_takes_14 : decode cX10_takes 14 = .ok (.if_icmp .lt 9, 3) := by decide +kernel
theorem dX10_takes_17 : decode cX10_takes 17 = .ok (.iload_n 2, 1) := by decide +kernel
theorem dX10_takes_18 : decode cX10_takes 18 = .ok (.bipush 20, 2) := by decide +kernel
theorem dX10_takes_20 : decode cX10_takes 20 = .ok (.if_icmp .le 5, 3) := by decide +kernel
theorem dX10_takes_23 : decode cX10_takes 23 = .ok (.iconst 0, 1) := by decide +kernel
theorem dX10_takes_24 : decode cX10_takes 24 = .ok (.ireturn, 1) := by decide +kernel
theorem dX10_takes_25 : decode cX10_takes 25 = .ok (.aload_n 0, 1) := by decide +kernel
theorem dX10_takes_26 : decode cX10_takes 26 = .ok (.getfield 109, 3) := by decide +kernel
theorem dX10_takes_29 : decode cX10_takes 29 = .ok (.iload_n 1, 1) := by decide +kernel
theorem dX10_takes_30 : decode cX10_takes 30 = .ok (.iload_n 2, 1) := by decide +kernel
theorem dX10_takes_31 : decode cX10_takes 31 = .ok (.iastore, 1) := by decide +kernel
theorem dX10_takes_32 : decode cX10_takes 32 = .ok (.iconst 1, 1) := by decide +kernel
theorem dX10_takes_33 : decode cX10_takes 33 = .ok (.ireturn, 1) := by decide +kernel
theorem dX10_daysOf_0 : decode cX10_daysOf 0 = .ok (.iconst 0, 1) := by decide +kernel
theorem dX10_daysOf_1 : decode cX10_daysOf 1 = .ok (.istore_n 2, 1) := by decide +kernel
theorem dX10_daysOf_2 : decode cX10_daysOf 2 = .ok (.iconst 0, 1) := by decide +kernel
theorem dX10_daysOf_3 : decode cX10_daysOf 3 = .ok (.istore_n 3, 1) := by decide +kernel
theorem dX10_daysOf_4 : decode cX10_daysOf 4 = .ok (.iload_n 3, 1) := by decide +kernel
theorem dX10_daysOf_5 : decode cX10_daysOf 5 = .ok (.bipush 10, 2) := by decide +kernel
theorem dX10_daysOf_7 : decode cX10_daysOf 7 = .ok (.if_icmp .ge 31, 3) := by decide +kernel
theorem dX10_daysOf_10 : decode cX10_daysOf 10 = .ok (.iload_n 2, 1) := by decide +kernel
theorem dX10_daysOf_11 : decode cX10_daysOf 11 = .ok (.iload_n 1, 1) := by decide +kernel
theorem dX10_daysOf_12 : decode cX10_daysOf 12 = .ok (.iload_n 3, 1) := by decide +kernel
theorem dX10_daysOf_13 : decode cX10_daysOf 13 = .ok (.ishr, 1) := by decide +kernel
theorem dX10_daysOf_14 : decode cX10_daysOf 14 = .ok (.iconst 1, 1) := by decide +kernel
theorem dX10_daysOf_15 : decode cX10_daysOf 15 = .ok (.iand, 1) := by decide +kernel
theorem dX10_daysOf_16 : decode cX10_daysOf 16 = .ok (.iconst 1, 1) := by decide +kernel
theorem dX10_daysOf_17 : decode cX10_daysOf 17 = .ok (.if_icmp .ne 12, 3) := by decide +kernel
theorem dX10_daysOf_20 : decode cX10_daysOf 20 = .ok (.aload_n 0, 1) := by decide +kernel
theorem dX10_daysOf_21 : decode cX10_daysOf 21 = .ok (.getfield 109, 3) := by decide +kernel
theorem dX10_daysOf_24 : decode cX10_daysOf 24 = .ok (.iload_n 3, 1) := by decide +kernel
theorem dX10_daysOf_25 : decode cX10_daysOf 25 = .ok (.iaload, 1) := by decide +kernel
theorem dX10_daysOf_26 : decode cX10_daysOf 26 = .ok (.goto 4, 3) := by decide +kernel
theorem dX10_daysOf_29 : decode cX10_daysOf 29 = .ok (.iconst 0, 1) := by decide +kernel
theorem dX10_daysOf_30 : decode cX10_daysOf 30 = .ok (.iadd, 1) := by decide +kernel
theorem dX10_daysOf_31 : decode cX10_daysOf 31 = .ok (.istore_n 2, 1) := by decide +kernel
theorem dX10_daysOf_32 : decode cX10_daysOf 32 = .ok (.iinc 3 1, 3) := by decide +kernel
theorem dX10_daysOf_35 : decode cX10_daysOf 35 = .ok (.goto (-31), 3) := by decide +kernel
theorem dX10_daysOf_38 : decode cX10_daysOf 38 = .ok (.iload_n 2, 1) := by decide +kernel
theorem dX10_daysOf_39 : decode cX10_daysOf 39 = .ok (.ireturn, 1) := by decide +kernel
theorem dX10_doubtOf_0 : decode cX10_doubtOf 0 = .ok (.lconst 0, 1) := by decide +kernel
theorem dX10_doubtOf_1 : decode cX10_doubtOf 1 = .ok (.lstore_n 2, 1) := by decide +kernel
theorem dX10_doubtOf_2 : decode cX10_doubtOf 2 = .ok (.iconst 0, 1) := by decide +kernel
theorem dX10_doubtOf_3 : decode cX10_doubtOf 3 = .ok (.istore 4, 2) := by decide +kernel
theorem dX10_doubtOf_5 : decode cX10_doubtOf 5 = .ok (.iload 4, 2) := by decide +kernel
theorem dX10_doubtOf_7 : decode cX10_doubtOf 7 = .ok (.bipush 10, 2) := by decide +kernel
theorem dX10_doubtOf_9 : decode cX10_doubtOf 9 = .ok (.if_icmp .ge 33, 3) := by decide +kernel
theorem dX10_doubtOf_12 : decode cX10_doubtOf 12 = .ok (.lload_n 2, 1) := by decide +kernel
theorem dX10_doubtOf_13 : decode cX10_doubtOf 13 = .ok (.iload_n 1, 1) := by decide +kernel
theorem dX10_doubtOf_14 : decode cX10_doubtOf 14 = .ok (.iload 4, 2) := by decide +kernel
theorem dX10_doubtOf_16 : decode cX10_doubtOf 16 = .ok (.ishr, 1) := by decide +kernel
theorem dX10_doubtOf_17 : decode cX10_doubtOf 17 = .ok (.iconst 1, 1) := by decide +kernel
theorem dX10_doubtOf_18 : decode cX10_doubtOf 18 = .ok (.iand, 1) := by decide +kernel
theorem dX10_doubtOf_19 : decode cX10_doubtOf 19 = .ok (.iconst 1, 1) := by decide +kernel
theorem dX10_doubtOf_20 : decode cX10_doubtOf 20 = .ok (.if_icmp .ne 13, 3) := by decide +kernel
theorem dX10_doubtOf_23 : decode cX10_doubtOf 23 = .ok (.aload_n 0, 1) := by decide +kernel
theorem dX10_doubtOf_24 : decode cX10_doubtOf 24 = .ok (.getfield 112, 3) := by decide +kernel
theorem dX10_doubtOf_27 : decode cX10_doubtOf 27 = .ok (.iload 4, 2) := by decide +kernel
theorem dX10_doubtOf_29 : decode cX10_doubtOf 29 = .ok (.laload, 1) := by decide +kernel
theorem dX10_doubtOf_30 : decode cX10_doubtOf 30 = .ok (.goto 4, 3) := by decide +kernel
theorem dX10_doubtOf_33 : decode cX10_doubtOf 33 = .ok (.lconst 0, 1) := by decide +kernel
theorem dX10_doubtOf_34 : decode cX10_doubtOf 34 = .ok (.ladd, 1) := by decide +kernel
theorem dX10_doubtOf_35 : decode cX10_doubtOf 35 = .ok (.lstore_n 2, 1) := by decide +kernel
theorem dX10_doubtOf_36 : decode cX10_doubtOf 36 = .ok (.iinc 4 1, 3) := by decide +kernel
theorem dX10_doubtOf_39 : decode cX10_doubtOf 39 = .ok (.goto (-34), 3) := by decide +kernel
theorem dX10_doubtOf_42 : decode cX10_doubtOf 42 = .ok (.lload_n 2, 1) := by decide +kernel
theorem dX10_doubtOf_43 : decode cX10_doubtOf 43 = .ok (.lreturn, 1) := by decide +kernel
theorem dX10_plan_0 : decode cX10_plan 0 = .ok (.aload_n 0, 1) := by decide +kernel
theorem dX10_plan_1 : decode cX10_plan 1 = .ok (.iconst 0, 1) := by decide +kernel
theorem dX10_plan_2 : decode cX10_plan 2 = .ok (.putfield 1, 3) := by decide +kernel
theorem dX10_plan_5 : decode cX10_plan 5 = .ok (.iload_n 1, 1) := by decide +kernel
theorem dX10_plan_6 : decode cX10_plan 6 = .ok (.ifCond .lt 18, 3) := by decide +kernel
theorem dX10_plan_9 : decode cX10_plan 9 = .ok (.iload_n 1, 1) := by decide +kernel
theorem dX10_plan_10 : decode cX10_plan 10 = .ok (.bipush 99, 2) := by decide +kernel
theorem dX10_plan_12 : decode cX10_plan 12 = .ok (.if_icmp .gt 12, 3) := by decide +kernel
theorem dX10_plan_15 : decode cX10_plan 15 = .ok (.iload_n 2, 1) := by decide +kernel
theorem dX10_plan_16 : decode cX10_plan 16 = .ok (.ifCond .lt 8, 3) := by decide +kernel
theorem dX10_plan_19 : decode cX10_plan 19 = .ok (.iload_n 2, 1) := by decide +kernel
theorem dX10_plan_20 : decode cX10_plan 20 = .ok (.iconst 1, 1) := by decide +kernel
theorem dX10_plan_21 : decode cX10_plan 21 = .ok (.if_icmp .le 5, 3) := by decide +kernel
theorem dX10_plan_24 : decode cX10_plan 24 = .ok (.iconst (-1), 1) := by decide +kernel
theorem dX10_plan_25 : decode cX10_plan 25 = .ok (.ireturn, 1) := by decide +kernel
theorem dX10_plan_26 : decode cX10_plan 26 = .ok (.iconst 0, 1) := by decide +kernel
theorem dX10_plan_27 : decode cX10_plan 27 = .ok (.istore_n 3, 1) := by decide +kernel
theorem dX10_plan_28 : decode cX10_plan 28 = .ok (.iload_n 3, 1) := by decide +kernel
theorem dX10_plan_29 : decode cX10_plan 29 = .ok (.bipush 10, 2) := by decide +kernel
theorem dX10_plan_31 : decode cX10_plan 31 = .ok (.if_icmp .ge 16, 3) := by decide +kernel
theorem dX10_plan_34 : decode cX10_plan 34 = .ok (.aload_n 0, 1) := by decide +kernel
theorem dX10_plan_35 : decode cX10_plan 35 = .ok (.getfield 112, 3) := by decide +kernel
theorem dX10_plan_38 : decode cX10_plan 38 = .ok (.iload_n 3, 1) := by decide +kernel
theorem dX10_plan_39 : decode cX10_plan 39 = .ok (.lconst 0, 1) := by decide +kernel
theorem dX10_plan_40 : decode cX10_plan 40 = .ok (.lastore, 1) := by decide +kernel
theorem dX10_plan_41 : decode cX10_plan 41 = .ok (.iinc 3 1, 3) := by decide +kernel
theorem dX10_plan_44 : decode cX10_plan 44 = .ok (.goto (-16), 3) := by decide +kernel
theorem dX10_plan_47 : decode cX10_plan 47 = .ok (.iconst 0, 1) := by decide +kernel
theorem dX10_plan_48 : decode cX10_plan 48 = .ok (.istore_n 3, 1) := by decide +kernel
theorem dX10_plan_49 : decode cX10_plan 49 = .ok (.iload_n 3, 1) := by decide +kernel
theorem dX10_plan_50 : decode cX10_plan 50 = .ok (.aload_n 0, 1) := by decide +kernel
theorem dX10_plan_51 : decode cX10_plan 51 = .ok (.getfield 250, 3) := by decide +kernel
theorem dX10_plan_54 : decode cX10_plan 54 = .ok (.if_icmp .ge 33, 3) := by decide +kernel
theorem dX10_plan_57 : decode cX10_plan 57 = .ok (.aload_n 0, 1) := by decide +kernel
theorem dX10_plan_58 : decode cX10_plan 58 = .ok (.getfield 112, 3) := by decide +kernel
theorem dX10_plan_61 : decode cX10_plan 61 = .ok (.aload_n 0, 1) := by decide +kernel
theorem dX10_plan_62 : decode cX10_plan 62 = .ok (.getfield 88, 3) := by decide +kernel
theorem dX10_plan_65 : decode cX10_plan 65 = .ok (.iload_n 3, 1) := by decide +kernel
theorem dX10_plan_66 : decode cX10_plan 66 = .ok (.iaload, 1) := by decide +kernel
theorem dX10_plan_67 : decode cX10_plan 67 = .ok (.dup2, 1) := by decide +kernel
theorem dX10_plan_68 : decode cX10_plan 68 = .ok (.laload, 1) := by decide +kernel
theorem dX10_plan_69 : decode cX10_plan 69 = .ok (.ldc_w 270, 3) := by decide +kernel
theorem dX10_plan_72 : decode cX10_plan 72 = .ok (.aload_n 0, 1) := by decide +kernel
theorem dX10_plan_73 : decode cX10_plan 73 = .ok (.iload_n 3, 1) := by decide +kernel
theorem dX10_plan_74 : decode cX10_plan 74 = .ok (.invokevirtual 261, 3) := by decide +kernel
theorem dX10_plan_77 : decode cX10_plan 77 = .ok (.isub, 1) := by decide +kernel
theorem dX10_plan_78 : decode cX10_plan 78 = .ok (.i2l, 1) := by decide +kernel
theorem dX10_plan_79 : decode cX10_plan 79 = .ok (.ladd, 1) := by decide +kernel
theorem dX10_plan_80 : decode cX10_plan 80 = .ok (.lastore, 1) := by decide +kernel
theorem dX10_plan_81 : decode cX10_plan 81 = .ok (.iinc 3 1, 3) := by decide +kernel
theorem dX10_plan_84 : decode cX10_plan 84 = .ok (.goto (-35), 3) := by decide +kernel
theorem dX10_plan_87 : decode cX10_plan 87 = .ok (.iconst 0, 1) := by decide +kernel
theorem dX10_plan_88 : decode cX10_plan 88 = .ok (.istore_n 3, 1) := by decide +kernel
theorem dX10_plan_89 : decode cX10_plan 89 = .ok (.iconst 1, 1) := by decide +kernel
theorem dX10_plan_90 : decode cX10_plan 90 = .ok (.istore 4, 2) := by decide +kernel
theorem dX10_plan_92 : decode cX10_plan 92 = .ok (.iload 4, 2) := by decide +kernel
theorem dX10_plan_94 : decode cX10_plan 94 = .ok (.sipush 1024, 3) := by decide +kernel
theorem dX10_plan_97 : decode cX10_plan 97 = .ok (.if_icmp .ge 82, 3) := by decide +kernel
theorem dX10_plan_100 : decode cX10_plan 100 = .ok (.aload_n 0, 1) := by decide +kernel
theorem dX10_plan_101 : decode cX10_plan 101 = .ok (.iload 4, 2) := by decide +kernel
theorem dX10_plan_103 : decode cX10_plan 103 = .ok (.invokevirtual 271, 3) := by decide +kernel
theorem dX10_plan_106 : decode cX10_plan 106 = .ok (.aload_n 0, 1) := by decide +kernel
theorem dX10_plan_107 : decode cX10_plan 107 = .ok (.iload_n 3, 1) := by decide +kernel
theorem dX10_plan_108 : decode cX10_plan 108 = .ok (.invokevirtual 271, 3) := by decide +kernel
theorem dX10_plan_111 : decode cX10_plan 111 = .ok (.lcmp, 1) := by decide +kernel
theorem dX10_plan_112 : decode cX10_plan 112 = .ok (.ifCond .gt 32, 3) := by decide +kernel
theorem dX10_plan_115 : decode cX10_plan 115 = .ok (.aload_n 0, 1) := by decide +kernel
theorem dX10_plan_116 : decode cX10_plan 116 = .ok (.iload 4, 2) := by decide +kernel
theorem dX10_plan_118 : decode cX10_plan 118 = .ok (.invokevirtual 271, 3) := by decide +kernel
theorem dX10_plan_121 : decode cX10_plan 121 = .ok (.aload_n 0, 1) := by decide +kernel
theorem dX10_plan_122 : decode cX10_plan 122 = .ok (.iload_n 3, 1) := by decide +kernel
theorem dX10_plan_123 : decode cX10_plan 123 = .ok (.invokevirtual 271, 3) := by decide +kernel
theorem dX10_plan_126 : decode cX10_plan 126 = .ok (.lcmp, 1) := by decide +kernel
theorem dX10_plan_127 : decode cX10_plan 127 = .ok (.ifCond .ne 21, 3) := by decide +kernel
theorem dX10_plan_130 : decode cX10_plan 130 = .ok (.aload_n 0, 1) := by decide +kernel
theorem dX10_plan_131 : decode cX10_plan 131 = .ok (.iload 4, 2) := by decide +kernel
theorem dX10_plan_133 : decode cX10_plan 133 = .ok (.invokevirtual 275, 3) := by decide +kernel
theorem dX10_plan_136 : decode cX10_plan 136 = .ok (.aload_n 0, 1) := by decide +kernel
theorem dX10_plan_137 : decode cX10_plan 137 = .ok (.iload_n 3, 1) := by decide +kernel
theorem dX10_plan_138 : decode cX10_plan 138 = .ok (.invokevirtual 275, 3) := by decide +kernel
theorem dX10_plan_141 : decode cX10_plan 141 = .ok (.if_icmp .ge 7, 3) := by decide +kernel
theorem dX10_plan_144 : decode cX10_plan 144 = .ok (.iconst 1, 1) := by decide +kernel
theorem dX10_plan_145 : decode cX10_plan 145 = .ok (.goto 4, 3) := by decide +kernel
theorem dX10_plan_148 : decode cX10_plan 148 = .ok (.iconst 0, 1) := by decide +kernel
theorem dX10_plan_149 : decode cX10_plan 149 = .ok (.istore 5, 2) := by decide +kernel
theorem dX10_plan_151 : decode cX10_plan 151 = .ok (.aload_n 0, 1) := by decide +kernel
theorem dX10_plan_152 : decode cX10_plan 152 = .ok (.iload 4, 2) := by decide +kernel
theorem dX10_plan_154 : decode cX10_plan 154 = .ok (.invokevirtual 275, 3) := by decide +kernel
theorem dX10_plan_157 : decode cX10_plan 157 = .ok (.iload_n 1, 1) := by decide +kernel
theorem dX10_plan_158 : decode cX10_plan 158 = .ok (.if_icmp .gt 13, 3) := by decide +kernel
theorem dX10_plan_161 : decode cX10_plan 161 = .ok (.iload 5, 2) := by decide +kernel
theorem dX10_plan_163 : decode cX10_plan 163 = .ok (.ifCond .eq 8, 3) := by decide +kernel
theorem dX10_plan_166 : decode cX10_plan 166 = .ok (.iload 4, 2) := by decide +kernel
theorem dX10_plan_168 : decode cX10_plan 168 = .ok (.goto 4, 3) := by decide +kernel
theorem dX10_plan_171 : decode cX10_plan 171 = .ok (.iload_n 3, 1) := by decide +kernel
theorem dX10_plan_172 : decode cX10_plan 172 = .ok (.istore_n 3, 1) := by decide +kernel
theorem dX10_plan_173 : decode cX10_plan 173 = .ok (.iinc 4 1, 3) := by decide +kernel
theorem dX10_plan_176 : decode cX10_plan 176 = .ok (.goto (-84), 3) := by decide +kernel
theorem dX10_plan_179 : decode cX10_plan 179 = .ok (.iload_n 2, 1) := by decide +kernel
theorem dX10_plan_180 : decode cX10_plan 180 = .ok (.ifCond .ne 7, 3) := by decide +kernel
theorem dX10_plan_183 : decode cX10_plan 183 = .ok (.iload_n 3, 1) := by decide +kernel
theorem dX10_plan_184 : decode cX10_plan 184 = .ok (.goto 13, 3) := by decide +kernel
theorem dX10_plan_187 : decode cX10_plan 187 = .ok (.aload_n 0, 1) := by decide +kernel
theorem dX10_plan_188 : decode cX10_plan 188 = .ok (.iload_n 3, 1) := by decide +kernel
theorem dX10_plan_189 : decode cX10_plan 189 = .ok (.invokevirtual 271, 3) := by decide +kernel
theorem dX10_plan_192 : decode cX10_plan 192 = .ok (.ldc2_w 278, 3) := by decide +kernel
theorem dX10_plan_195 : decode cX10_plan 195 = .ok (.ldiv, 1) := by decide +kernel
theorem dX10_plan_196 : decode cX10_plan 196 = .ok (.l2i, 1) := by decide +kernel
theorem dX10_plan_197 : decode cX10_plan 197 = .ok (.ireturn, 1) := by decide +kernel
theorem dX10_letter_0 : decode cX10_letter 0 = .ok (.aload_n 0, 1) := by decide +kernel
theorem dX10_letter_1 : decode cX10_letter 1 = .ok (.iconst 0, 1) := by decide +kernel
theorem dX10_letter_2 : decode cX10_letter 2 = .ok (.putfield 1, 3) := by decide +kernel
theorem dX10_letter_5 : decode cX10_letter 5 = .ok (.iload_n 1, 1) := by decide +kernel
theorem dX10_letter_6 : decode cX10_letter 6 = .ok (.ifCond .lt 33, 3) := by decide +kernel
theorem dX10_letter_9 : decode cX10_letter 9 = .ok (.iload_n 1, 1) := by decide +kernel
theorem dX10_letter_10 : decode cX10_letter 10 = .ok (.bipush 19, 2) := by decide +kernel
theorem dX10_letter_12 : decode cX10_letter 12 = .ok (.if_icmp .gt 27, 3) := by decide +kernel
theorem dX10_letter_15 : decode cX10_letter 15 = .ok (.aload_n 0, 1) := by decide +kernel
theorem dX10_letter_16 : decode cX10_letter 16 = .ok (.iload_n 2, 1) := by decide +kernel
theorem dX10_letter_17 : decode cX10_letter 17 = .ok (.invokevirtual 253, 3) := by decide +kernel
theorem dX10_letter_20 : decode cX10_letter 20 = .ok (.ifCond .eq 19, 3) := by decide +kernel
theorem dX10_letter_23 : decode cX10_letter 23 = .ok (.iload_n 3, 1) := by decide +kernel
theorem dX10_letter_24 : decode cX10_letter 24 = .ok (.invokestatic 247, 3) := by decide +kernel
theorem dX10_letter_27 : decode cX10_letter 27 = .ok (.ifCond .eq 12, 3) := by decide +kernel
theorem dX10_letter_30 : decode cX10_letter 30 = .ok (.aload_n 0, 1) := by decide +kernel
theorem dX10_letter_31 : decode cX10_letter 31 = .ok (.getfield 264, 3) := by decide +kernel
theorem dX10_letter_34 : decode cX10_letter 34 = .ok (.bipush 100, 2) := by decide +kernel
theorem dX10_letter_36 : decode cX10_letter 36 = .ok (.if_icmp .ne 5, 3) := by decide +kernel
theorem dX10_letter_39 : decode cX10_letter 39 = .ok (.iconst (-1), 1) := by decide +kernel
theorem dX10_letter_40 : decode cX10_letter 40 = .ok (.ireturn, 1) := by decide +kernel
theorem dX10_letter_41 : decode cX10_letter 41 = .ok (.aload_n 0, 1) := by decide +kernel
theorem dX10_letter_42 : decode cX10_letter 42 = .ok (.getfield 115, 3) := by decide +kernel
theorem dX10_letter_45 : decode cX10_letter 45 = .ok (.aload_n 0, 1) := by decide +kernel
theorem dX10_letter_46 : decode cX10_letter 46 = .ok (.getfield 264, 3) := by decide +kernel
theorem dX10_letter_49 : decode cX10_letter 49 = .ok (.iload_n 1, 1) := by decide +kernel
theorem dX10_letter_50 : decode cX10_letter 50 = .ok (.iastore, 1) := by decide +kernel
theorem dX10_letter_51 : decode cX10_letter 51 = .ok (.aload_n 0, 1) := by decide +kernel
theorem dX10_letter_52 : decode cX10_letter 52 = .ok (.getfield 118, 3) := by decide +kernel
theorem dX10_letter_55 : decode cX10_letter 55 = .ok (.aload_n 0, 1) := by decide +kernel
theorem dX10_letter_56 : decode cX10_letter 56 = .ok (.getfield 264, 3) := by decide +kernel
theorem dX10_letter_59 : decode cX10_letter 59 = .ok (.iload_n 2, 1) := by decide +kernel
theorem dX10_letter_60 : decode cX10_letter 60 = .ok (.iastore, 1) := by decide +kernel
theorem dX10_letter_61 : decode cX10_letter 61 = .ok (.aload_n 0, 1) := by decide +kernel
theorem dX10_letter_62 : decode cX10_letter 62 = .ok (.getfield 121, 3) := by decide +kernel
theorem dX10_letter_65 : decode cX10_letter 65 = .ok (.aload_n 0, 1) := by decide +kernel
theorem dX10_letter_66 : decode cX10_letter 66 = .ok (.getfield 264, 3) := by decide +kernel
theorem dX10_letter_69 : decode cX10_letter 69 = .ok (.iload_n 3, 1) := by decide +kernel
theorem dX10_letter_70 : decode cX10_letter 70 = .ok (.iastore, 1) := by decide +kernel
theorem dX10_letter_71 : decode cX10_letter 71 = .ok (.aload_n 0, 1) := by decide +kernel
theorem dX10_letter_72 : decode cX10_letter 72 = .ok (.dup, 1) := by decide +kernel
theorem dX10_letter_73 : decode cX10_letter 73 = .ok (.getfield 264, 3) := by decide +kernel
theorem dX10_letter_76 : decode cX10_letter 76 = .ok (.iconst 1, 1) := by decide +kernel
theorem dX10_letter_77 : decode cX10_letter 77 = .ok (.iadd, 1) := by decide +kernel
theorem dX10_letter_78 : decode cX10_letter 78 = .ok (.putfield 264, 3) := by decide +kernel
theorem dX10_letter_81 : decode cX10_letter 81 = .ok (.aload_n 0, 1) := by decide +kernel
theorem dX10_letter_82 : decode cX10_letter 82 = .ok (.getfield 264, 3) := by decide +kernel
theorem dX10_letter_85 : decode cX10_letter 85 = .ok (.iconst 1, 1) := by decide +kernel
theorem dX10_letter_86 : decode cX10_letter 86 = .ok (.isub, 1) := by decide +kernel
theorem dX10_letter_87 : decode cX10_letter 87 = .ok (.ireturn, 1) := by decide +kernel
theorem dX10_weightOf_0 : decode cX10_weightOf 0 = .ok (.iconst 0, 1) := by decide +kernel
theorem dX10_weightOf_1 : decode cX10_weightOf 1 = .ok (.istore_n 2, 1) := by decide +kernel
theorem dX10_weightOf_2 : decode cX10_weightOf 2 = .ok (.iconst 0, 1) := by decide +kernel
theorem dX10_weightOf_3 : decode cX10_weightOf 3 = .ok (.istore_n 3, 1) := by decide +kernel
theorem dX10_weightOf_4 : decode cX10_weightOf 4 = .ok (.iconst 0, 1) := by decide +kernel
theorem dX10_weightOf_5 : decode cX10_weightOf 5 = .ok (.istore 4, 2) := by decide +kernel
theorem dX10_weightOf_7 : decode cX10_weightOf 7 = .ok (.iload 4, 2) := by decide +kernel
theorem dX10_weightOf_9 : decode cX10_weightOf 9 = .ok (.aload_n 0, 1) := by decide +kernel
theorem dX10_weightOf_10 : decode cX10_weightOf 10 = .ok (.getfield 264, 3) := by decide +kernel
theorem dX10_weightOf_13 : decode cX10_weightOf 13 = .ok (.if_icmp .ge 68, 3) := by decide +kernel
theorem dX10_weightOf_16 : decode cX10_weightOf 16 = .ok (.iload_n 2, 1) := by decide +kernel
theorem dX10_weightOf_17 : decode cX10_weightOf 17 = .ok (.aload_n 0, 1) := by decide +kernel
theorem dX10_weightOf_18 : decode cX10_weightOf 18 = .ok (.getfield 115, 3) := by decide +kernel
theorem dX10_weightOf_21 : decode cX10_weightOf 21 = .ok (.iload 4, 2) := by decide +kernel
theorem dX10_weightOf_23 : decode cX10_weightOf 23 = .ok (.iaload, 1) := by decide +kernel
theorem dX10_weightOf_24 : decode cX10_weightOf 24 = .ok (.iload_n 1, 1) := by decide +kernel
theorem dX10_weightOf_25 : decode cX10_weightOf 25 = .ok (.if_icmp .ne 18, 3) := by decide +kernel
theorem dX10_weightOf_28 : decode cX10_weightOf 28 = .ok (.aload_n 0, 1) := by decide +kernel
theorem dX10_weightOf_29 : decode cX10_weightOf 29 = .ok (.getfield 124, 3) := by decide +kernel
theorem dX10_weightOf_32 : decode cX10_weightOf 32 = .ok (.iload 4, 2) := by decide +kernel
theorem dX10_weightOf_34 : decode cX10_weightOf 34 = .ok (.iaload, 1) := by decide +kernel
theorem dX10_weightOf_35 : decode cX10_weightOf 35 = .ok (.iconst 1, 1) := by decide +kernel
theorem dX10_weightOf_36 : decode cX10_weightOf 36 = .ok (.if_icmp .ne 7, 3) := by decide +kernel
theorem dX10_weightOf_39 : decode cX10_weightOf 39 = .ok (.iconst 1, 1) := by decide +kernel
theorem dX10_weightOf_40 : decode cX10_weightOf 40 = .ok (.goto 4, 3) := by decide +kernel
theorem dX10_weightOf_43 : decode cX10_weightOf 43 = .ok (.iconst 0, 1) := by decide +kernel
theorem dX10_weightOf_44 : decode cX10_weightOf 44 = .ok (.iadd, 1) := by decide +kernel
theorem dX10_weightOf_45 : decode cX10_weightOf 45 = .ok (.istore_n 2, 1) := by decide +kernel
theorem dX10_weightOf_46 : decode cX10_weightOf 46 = .ok (.iload_n 3, 1) := by decide +kernel
theorem dX10_weightOf_47 : decode cX10_weightOf 47 = .ok (.aload_n 0, 1) := by decide +kernel
theorem dX10_weightOf_48 : decode cX10_weightOf 48 = .ok (.getfield 115, 3) := by decide +kernel
theorem dX10_weightOf_51 : decode cX10_weightOf 51 = .ok (.iload 4, 2) := by decide +kernel
theorem dX10_weightOf_53 : decode cX10_weightOf 53 = .ok (.iaload, 1) := by decide +kernel
theorem dX10_weightOf_54 : decode cX10_weightOf 54 = .ok (.iload_n 1, 1) := by decide +kernel
theorem dX10_weightOf_55 : decode cX10_weightOf 55 = .ok (.if_icmp .ne 17, 3) := by decide +kernel
theorem dX10_weightOf_58 : decode cX10_weightOf 58 = .ok (.aload_n 0, 1) := by decide +kernel
theorem dX10_weightOf_59 : decode cX10_weightOf 59 = .ok (.getfield 124, 3) := by decide +kernel
theorem dX10_weightOf_62 : decode cX10_weightOf 62 = .ok (.iload 4, 2) := by decide +kernel
theorem dX10_weightOf_64 : decode cX10_weightOf 64 = .ok (.iaload, 1) := by decide +kernel
theorem dX10_weightOf_65 : decode cX10_weightOf 65 = .ok (.ifCond .le 7, 3) := by decide +kernel
theorem dX10_weightOf_68 : decode cX10_weightOf 68 = .ok (.iconst 1, 1) := by decide +kernel
theorem dX10_weightOf_69 : decode cX10_weightOf 69 = .ok (.goto 4, 3) := by decide +kernel
theorem dX10_weightOf_72 : decode cX10_weightOf 72 = .ok (.iconst 0, 1) := by decide +kernel
theorem dX10_weightOf_73 : decode cX10_weightOf 73 = .ok (.iadd, 1) := by decide +kernel
theorem dX10_weightOf_74 : decode cX10_weightOf 74 = .ok (.istore_n 3, 1) := by decide +kernel
theorem dX10_weightOf_75 : decode cX10_weightOf 75 = .ok (.iinc 4 1, 3) := by decide +kernel
theorem dX10_weightOf_78 : decode cX10_weightOf 78 = .ok (.goto (-71), 3) := by decide +kernel
theorem dX10_weightOf_81 : decode cX10_weightOf 81 = .ok (.sipush 1000, 3) := by decide +kernel
theorem dX10_weightOf_84 : decode cX10_weightOf 84 = .ok (.iload_n 2, 1) := by decide +kernel
theorem dX10_weightOf_85 : decode cX10_weightOf 85 = .ok (.iconst 1, 1) := by decide +kernel
theorem dX10_weightOf_86 : decode cX10_weightOf 86 = .ok (.iadd, 1) := by decide +kernel
theorem dX10_weightOf_87 : decode cX10_weightOf 87 = .ok (.imul, 1) := by decide +kernel
theorem dX10_weightOf_88 : decode cX10_weightOf 88 = .ok (.iload_n 3, 1) := by decide +kernel
theorem dX10_weightOf_89 : decode cX10_weightOf 89 = .ok (.iconst 2, 1) := by decide +kernel
theorem dX10_weightOf_90 : decode cX10_weightOf 90 = .ok (.iadd, 1) := by decide +kernel
theorem dX10_weightOf_91 : decode cX10_weightOf 91 = .ok (.idiv, 1) := by decide +kernel
theorem dX10_weightOf_92 : decode cX10_weightOf 92 = .ok (.ireturn, 1) := by decide +kernel
theorem dX10_weight_0 : decode cX10_weight 0 = .ok (.aload_n 0, 1) := by decide +kernel
theorem dX10_weight_1 : decode cX10_weight 1 = .ok (.iconst 0, 1) := by decide +kernel
theorem dX10_weight_2 : decode cX10_weight 2 = .ok (.putfield 1, 3) := by decide +kernel
theorem dX10_weight_5 : decode cX10_weight 5 = .ok (.iload_n 1, 1) := by decide +kernel
theorem dX10_weight_6 : decode cX10_weight 6 = .ok (.ifCond .lt 9, 3) := by decide +kernel
theorem dX10_weight_9 : decode cX10_weight 9 = .ok (.iload_n 1, 1) := by decide +kernel
theorem dX10_weight_10 : decode cX10_weight 10 = .ok (.bipush 19, 2) := by decide +kernel
theorem dX10_weight_12 : decode cX10_weight 12 = .ok (.if_icmp .le 7, 3) := by decide +kernel
theorem dX10_weight_15 : decode cX10_weight 15 = .ok (.iconst (-1), 1) := by decide +kernel
theorem dX10_weight_16 : decode cX10_weight 16 = .ok (.goto 8, 3) := by decide +kernel
theorem dX10_weight_19 : decode cX10_weight 19 = .ok (.aload_n 0, 1) := by decide +kernel
theorem dX10_weight_20 : decode cX10_weight 20 = .ok (.iload_n 1, 1) := by decide +kernel
theorem dX10_weight_21 : decode cX10_weight 21 = .ok (.invokevirtual 280, 3) := by decide +kernel
theorem dX10_weight_24 : decode cX10_weight 24 = .ok (.ireturn, 1) := by decide +kernel
theorem dX10_isOpen_0 : decode cX10_isOpen 0 = .ok (.aload_n 0, 1) := by decide +kernel
theorem dX10_isOpen_1 : decode cX10_isOpen 1 = .ok (.getfield 118, 3) := by decide +kernel
theorem dX10_isOpen_4 : decode cX10_isOpen 4 = .ok (.iload_n 1, 1) := by decide +kernel
theorem dX10_isOpen_5 : decode cX10_isOpen 5 = .ok (.iaload, 1) := by decide +kernel
theorem dX10_isOpen_6 : decode cX10_isOpen 6 = .ok (.iload_n 2, 1) := by decide +kernel
theorem dX10_isOpen_7 : decode cX10_isOpen 7 = .ok (.if_icmp .ne 16, 3) := by decide +kernel
theorem dX10_isOpen_10 : decode cX10_isOpen 10 = .ok (.aload_n 0, 1) := by decide +kernel
theorem dX10_isOpen_11 : decode cX10_isOpen 11 = .ok (.getfield 124, 3) := by decide +kernel
theorem dX10_isOpen_14 : decode cX10_isOpen 14 = .ok (.iload_n 1, 1) := by decide +kernel
theorem dX10_isOpen_15 : decode cX10_isOpen 15 = .ok (.iaload, 1) := by decide +kernel
theorem dX10_isOpen_16 : decode cX10_isOpen 16 = .ok (.ifCond .ne 7, 3) := by decide +kernel
theorem dX10_isOpen_19 : decode cX10_isOpen 19 = .ok (.iconst 1, 1) := by decide +kernel
theorem dX10_isOpen_20 : decode cX10_isOpen 20 = .ok (.goto 4, 3) := by decide +kernel
theorem dX10_isOpen_23 : decode cX10_isOpen 23 = .ok (.iconst 0, 1) := by decide +kernel
theorem dX10_isOpen_24 : decode cX10_isOpen 24 = .ok (.ireturn, 1) := by decide +kernel
theorem dX10_heard_0 : decode cX10_heard 0 = .ok (.iload_n 2, 1) := by decide +kernel
theorem dX10_heard_1 : decode cX10_heard 1 = .ok (.aload_n 0, 1) := by decide +kernel
theorem dX10_heard_2 : decode cX10_heard 2 = .ok (.getfield 91, 3) := by decide +kernel
theorem dX10_heard_5 : decode cX10_heard 5 = .ok (.iload_n 1, 1) := by decide +kernel
theorem dX10_heard_6 : decode cX10_heard 6 = .ok (.iaload, 1) := by decide +kernel
theorem dX10_heard_7 : decode cX10_heard 7 = .ok (.if_icmp .ne 15, 3) := by decide +kernel
theorem dX10_heard_10 : decode cX10_heard 10 = .ok (.aload_n 0, 1) := by decide +kernel
theorem dX10_heard_11 : decode cX10_heard 11 = .ok (.iload_n 1, 1) := by decide +kernel
theorem dX10_heard_12 : decode cX10_heard 12 = .ok (.invokevirtual 261, 3) := by decide +kernel
theorem dX10_heard_15 : decode cX10_heard 15 = .ok (.sipush 1000, 3) := by decide +kernel
theorem dX10_heard_18 : decode cX10_heard 18 = .ok (.idiv, 1) := by decide +kernel
theorem dX10_heard_19 : decode cX10_heard 19 = .ok (.goto 4, 3) := by decide +kernel
theorem dX10_heard_22 : decode cX10_heard 22 = .ok (.iconst 0, 1) := by decide +kernel
theorem dX10_heard_23 : decode cX10_heard 23 = .ok (.istore_n 3, 1) := by decide +kernel
theorem dX10_heard_24 : decode cX10_heard 24 = .ok (.iconst 0, 1) := by decide +kernel
theorem dX10_heard_25 : decode cX10_heard 25 = .ok (.istore 4, 2) := by decide +kernel
theorem dX10_heard_27 : decode cX10_heard 27 = .ok (.iload 4, 2) := by decide +kernel
theorem dX10_heard_29 : decode cX10_heard 29 = .ok (.bipush 20, 2) := by decide +kernel
theorem dX10_heard_31 : decode cX10_heard 31 = .ok (.if_icmp .ge 93, 3) := by decide +kernel
theorem dX10_heard_34 : decode cX10_heard 34 = .ok (.iconst 0, 1) := by decide +kernel
theorem dX10_heard_35 : decode cX10_heard 35 = .ok (.istore 5, 2) := by decide +kernel
theorem dX10_heard_37 : decode cX10_heard 37 = .ok (.iconst 0, 1) := by decide +kernel
theorem dX10_heard_38 : decode cX10_heard 38 = .ok (.istore 6, 2) := by decide +kernel
theorem dX10_heard_40 : decode cX10_heard 40 = .ok (.iload 6, 2) := by decide +kernel
theorem dX10_heard_42 : decode cX10_heard 42 = .ok (.aload_n 0, 1) := by decide +kernel
theorem dX10_heard_43 : decode cX10_heard 43 = .ok (.getfield 264, 3) := by decide +kernel
theorem dX10_heard_46 : decode cX10_heard 46 = .ok (.if_icmp .ge 54, 3) := by decide +kernel
theorem dX10_heard_49 : decode cX10_heard 49 = .ok (.iload 5, 2) := by decide +kernel
theorem dX10_heard_51 : decode cX10_heard 51 = .ok (.ifCond .ne 36, 3) := by decide +kernel
theorem dX10_heard_54 : decode cX10_heard 54 = .ok (.aload_n 0, 1) := by decide +kernel
theorem dX10_heard_55 : decode cX10_heard 55 = .ok (.getfield 115, 3) := by decide +kernel
theorem dX10_heard_58 : decode cX10_heard 58 = .ok (.iload 6, 2) := by decide +kernel
theorem dX10_heard_60 : decode cX10_heard 60 = .ok (.iaload, 1) := by decide +kernel
theorem dX10_heard_61 : decode cX10_heard 61 = .ok (.iload 4, 2) := by decide +kernel
theorem dX10_heard_63 : decode cX10_heard 63 = .ok (.if_icmp .ne 28, 3) := by decide +kernel
theorem dX10_heard_66 : decode cX10_heard 66 = .ok (.aload_n 0, 1) := by decide +kernel
theorem dX10_heard_67 : decode cX10_heard 67 = .ok (.iload 6, 2) := by decide +kernel
theorem dX10_heard_69 : decode cX10_heard 69 = .ok (.iload_n 1, 1) := by decide +kernel
theorem dX10_heard_70 : decode cX10_heard 70 = .ok (.invokevirtual 283, 3) := by decide +kernel
theorem dX10_heard_73 : decode cX10_heard 73 = .ok (.ifCond .eq 18, 3) := by decide +kernel
theorem dX10_heard_76 : decode cX10_heard 76 = .ok (.aload_n 0, 1) := by decide +kernel
theorem dX10_heard_77 : decode cX10_heard 77 = .ok (.getfield 121, 3) := by decide +kernel
theorem dX10_heard_80 : decode cX10_heard 80 = .ok (.iload 6, 2) := by decide +kernel
theorem dX10_heard_82 : decode cX10_heard 82 = .ok (.iaload, 1) := by decide +kernel
theorem dX10_heard_83 : decode cX10_heard 83 = .ok (.iload_n 2, 1) := by decide +kernel
theorem dX10_heard_84 : decode cX10_heard 84 = .ok (.if_icmp .ne 7, 3) := by decide +kernel
theorem dX10_heard_87 : decode cX10_heard 87 = .ok (.iconst 1, 1) := by decide +kernel
theorem dX10_heard_88 : decode cX10_heard 88 = .ok (.goto 4, 3) := by decide +kernel
theorem dX10_heard_91 : decode cX10_heard 91 = .ok (.iconst 0, 1) := by decide +kernel
theorem dX10_heard_92 : decode cX10_heard 92 = .ok (.istore 5, 2) := by decide +kernel
theorem dX10_heard_94 : decode cX10_heard 94 = .ok (.iinc 6 1, 3) := by decide +kernel
theorem dX10_heard_97 : decode cX10_heard 97 = .ok (.goto (-57), 3) := by decide +kernel
theorem dX10_heard_100 : decode cX10_heard 100 = .ok (.iload_n 3, 1) := by decide +kernel
theorem dX10_heard_101 : decode cX10_heard 101 = .ok (.iload 5, 2) := by decide +kernel
theorem dX10_heard_103 : decode cX10_heard 103 = .ok (.ifCond .eq 12, 3) := by decide +kernel
theorem dX10_heard_106 : decode cX10_heard 106 = .ok (.aload_n 0, 1) := by decide +kernel
theorem dX10_heard_107 : decode cX10_heard 107 = .ok (.iload 4, 2) := by decide +kernel
theorem dX10_heard_109 : decode cX10_heard 109 = .ok (.invokevirtual 280, 3) := by decide +kernel
theorem dX10_heard_112 : decode cX10_heard 112 = .ok (.goto 4, 3) := by decide +kernel
theorem dX10_heard_115 : decode cX10_heard 115 = .ok (.iconst 0, 1) := by decide +kernel
theorem dX10_heard_116 : decode cX10_heard 116 = .ok (.iadd, 1) := by decide +kernel
theorem dX10_heard_117 : decode cX10_heard 117 = .ok (.istore_n 3, 1) := by decide +kernel
theorem dX10_heard_118 : decode cX10_heard 118 = .ok (.iinc 4 1, 3) := by decide +kernel
theorem dX10_heard_121 : decode cX10_heard 121 = .ok (.goto (-94), 3) := by decide +kernel
theorem dX10_heard_124 : decode cX10_heard 124 = .ok (.iload_n 3, 1) := by decide +kernel
theorem dX10_heard_125 : decode cX10_heard 125 = .ok (.ireturn, 1) := by decide +kernel
theorem dX10_believes_0 : decode cX10_believes 0 = .ok (.aload_n 0, 1) := by decide +kernel
theorem dX10_believes_1 : decode cX10_believes 1 = .ok (.getfield 91, 3) := by decide +kernel
theorem dX10_believes_4 : decode cX10_believes 4 = .ok (.iload_n 1, 1) := by decide +kernel
theorem dX10_believes_5 : decode cX10_believes 5 = .ok (.iaload, 1) := by decide +kernel
theorem dX10_believes_6 : decode cX10_believes 6 = .ok (.istore_n 2, 1) := by decide +kernel
theorem dX10_believes_7 : decode cX10_believes 7 = .ok (.iconst (-1), 1) := by decide +kernel
theorem dX10_believes_8 : decode cX10_believes 8 = .ok (.istore_n 3, 1) := by decide +kernel
theorem dX10_believes_9 : decode cX10_believes 9 = .ok (.iconst 0, 1) := by decide +kernel
theorem dX10_believes_10 : decode cX10_believes 10 = .ok (.istore 4, 2) := by decide +kernel
theorem dX10_believes_12 : decode cX10_believes 12 = .ok (.iload 4, 2) := by decide +kernel
theorem dX10_believes_14 : decode cX10_believes 14 = .ok (.aload_n 0, 1) := by decide +kernel
theorem dX10_believes_15 : decode cX10_believes 15 = .ok (.getfield 264, 3) := by decide +kernel
theorem dX10_believes_18 : decode cX10_believes 18 = .ok (.if_icmp .ge 113, 3) := by decide +kernel
theorem dX10_believes_21 : decode cX10_believes 21 = .ok (.aload_n 0, 1) := by decide +kernel
theorem dX10_believes_22 : decode cX10_believes 22 = .ok (.iload 4, 2) := by decide +kernel
theorem dX10_believes_24 : decode cX10_believes 24 = .ok (.iload_n 1, 1) := by decide +kernel
theorem dX10_believes_25 : decode cX10_believes 25 = .ok (.invokevirtual 283, 3) := by decide +kernel
theorem dX10_believes_28 : decode cX10_believes 28 = .ok (.ifCond .eq 97, 3) := by decide +kernel
theorem dX10_believes_31 : decode cX10_believes 31 = .ok (.aload_n 0, 1) := by decide +kernel
theorem dX10_believes_32 : decode cX10_believes 32 = .ok (.getfield 121, 3) := by decide +kernel
theorem dX10_believes_35 : decode cX10_believes 35 = .ok (.iload 4, 2) := by decide +kernel
theorem dX10_believes_37 : decode cX10_believes 37 = .ok (.iaload, 1) := by decide +kernel
theorem dX10_believes_38 : decode cX10_believes 38 = .ok (.aload_n 0, 1) := by decide +kernel
theorem dX10_believes_39 : decode cX10_believes 39 = .ok (.getfield 91, 3) := by decide +kernel
theorem dX10_believes_42 : decode cX10_believes 42 = .ok (.iload_n 1, 1) := by decide +kernel
theorem dX10_believes_43 : decode cX10_believes 43 = .ok (.iaload, 1) := by decide +kernel
theorem dX10_believes_44 : decode cX10_believes 44 = .ok (.if_icmp .eq 81, 3) := by decide +kernel
theorem dX10_believes_47 : decode cX10_believes 47 = .ok (.iload_n 3, 1) := by decide +kernel
theorem dX10_believes_48 : decode cX10_believes 48 = .ok (.ifCond .ge 17, 3) := by decide +kernel
theorem dX10_believes_51 : decode cX10_believes 51 = .ok (.aload_n 0, 1) := by decide +kernel
theorem dX10_believes_52 : decode cX10_believes 52 = .ok (.iload_n 1, 1) := by decide +kernel
theorem dX10_believes_53 : decode cX10_believes 53 = .ok (.aload_n 0, 1) := by decide +kernel
theorem dX10_believes_54 : decode cX10_believes 54 = .ok (.getfield 91, 3) := by decide +kernel
theorem dX10_believes_57 : decode cX10_believes 57 = .ok (.iload_n 1, 1) := by decide +kernel
theorem dX10_believes_58 : decode cX10_believes 58 = .ok (.iaload, 1) := by decide +kernel
theorem dX10_believes_59 : decode cX10_believes 59 = .ok (.invokevirtual 287, 3) := by decide +kernel
theorem dX10_believes_62 : decode cX10_believes 62 = .ok (.goto 4, 3) := by decide +kernel
theorem dX10_believes_65 : decode cX10_believes 65 = .ok (.iload_n 3, 1) := by decide +kernel
theorem dX10_believes_66 : decode cX10_believes 66 = .ok (.istore_n 3, 1) := by decide +kernel
theorem dX10_believes_67 : decode cX10_believes 67 = .ok (.aload_n 0, 1) := by decide +kernel
theorem dX10_believes_68 : decode cX10_believes 68 = .ok (.iload_n 1, 1) := by decide +kernel
theorem dX10_believes_69 : decode cX10_believes 69 = .ok (.aload_n 0, 1) := by decide +kernel
theorem dX10_believes_70 : decode cX10_believes 70 = .ok (.getfield 121, 3) := by decide +kernel
theorem dX10_believes_73 : decode cX10_believes 73 = .ok (.iload 4, 2) := by decide +kernel
theorem dX10_believes_75 : decode cX10_believes 75 = .ok (.iaload, 1) := by decide +kernel
theorem dX10_believes_76 : decode cX10_believes 76 = .ok (.invokevirtual 287, 3) := by decide +kernel
theorem dX10_believes_79 : decode cX10_believes 79 = .ok (.istore 5, 2) := by decide +kernel
theorem dX10_believes_81 : decode cX10_believes 81 = .ok (.iload 5, 2) := by decide +kernel
theorem dX10_believes_83 : decode cX10_believes 83 = .ok (.iload_n 3, 1) := by decide +kernel
theorem dX10_believes_84 : decode cX10_believes 84 = .ok (.if_icmp .gt 30, 3) := by decide +kernel
theorem dX10_believes_87 : decode cX10_believes 87 = .ok (.iload 5, 2) := by decide +kernel
theorem dX10_believes_89 : decode cX10_believes 89 = .ok (.iload_n 3, 1) := by decide +kernel
theorem dX10_believes_90 : decode cX10_believes 90 = .ok (.if_icmp .ne 35, 3) := by decide +kernel
theorem dX10_believes_93 : decode cX10_believes 93 = .ok (.iload_n 2, 1) := by decide +kernel
theorem dX10_believes_94 : decode cX10_believes 94 = .ok (.aload_n 0, 1) := by decide +kernel
theorem dX10_believes_95 : decode cX10_believes 95 = .ok (.getfield 91, 3) := by decide +kernel
theorem dX10_believes_98 : decode cX10_believes 98 = .ok (.iload_n 1, 1) := by decide +kernel
theorem dX10_believes_99 : decode cX10_believes 99 = .ok (.iaload, 1) := by decide +kernel
theorem dX10_believes_100 : decode cX10_believes 100 = .ok (.if_icmp .eq 25, 3) := by decide +kernel
theorem dX10_believes_103 : decode cX10_believes 103 = .ok (.aload_n 0, 1) := by decide +kernel
theorem dX10_believes_104 : decode cX10_believes 104 = .ok (.getfield 121, 3) := by decide +kernel
theorem dX10_believes_107 : decode cX10_believes 107 = .ok (.iload 4, 2) := by decide +kernel
theorem dX10_believes_109 : decode cX10_believes 109 = .ok (.iaload, 1) := by decide +kernel
theorem dX10_believes_110 : decode cX10_believes 110 = .ok (.iload_n 2, 1) := by decide +kernel
theorem dX10_believes_111 : decode cX10_believes 111 = .ok (.if_icmp .ge 14, 3) := by decide +kernel
theorem dX10_believes_114 : decode cX10_believes 114 = .ok (.aload_n 0, 1) := by decide +kernel
theorem dX10_believes_115 : decode cX10_believes 115 = .ok (.getfield 121, 3) := by decide +kernel
theorem dX10_believes_118 : decode cX10_believes 118 = .ok (.iload 4, 2) := by decide +kernel
theorem dX10_believes_120 : decode cX10_believes 120 = .ok (.iaload, 1) := by decide +kernel
theorem dX10_believes_121 : decode cX10_believes 121 = .ok (.istore_n 2, 1) := by decide +kernel
theorem dX10_believes_122 : decode cX10_believes 122 = .ok (.iload 5, 2) := by decide +kernel
theorem dX10_believes_124 : decode cX10_believes 124 = .ok (.istore_n 3, 1) := by decide +kernel
theorem dX10_believes_125 : decode cX10_believes 125 = .ok (.iinc 4 1, 3) := by decide +kernel
theorem dX10_believes_128 : decode cX10_believes 128 = .ok (.goto (-116), 3) := by decide +kernel
theorem dX10_believes_131 : decode cX10_believes 131 = .ok (.iload_n 2, 1) := by decide +kernel
theorem dX10_believes_132 : decode cX10_believes 132 = .ok (.ireturn, 1) := by decide +kernel
theorem dX10_believed_0 : decode cX10_believed 0 = .ok (.aload_n 0, 1) := by decide +kernel
theorem dX10_believed_1 : decode cX10_believed 1 = .ok (.iconst 0, 1) := by decide +kernel
theorem dX10_believed_2 : decode cX10_believed 2 = .ok (.putfield 1, 3) := by decide +kernel
theorem dX10_believed_5 : decode cX10_believed 5 = .ok (.aload_n 0, 1) := by decide +kernel
theorem dX10_believed_6 : decode cX10_believed 6 = .ok (.iload_n 1, 1) := by decide +kernel
theorem dX10_believed_7 : decode cX10_believed 7 = .ok (.invokevirtual 253, 3) := by decide +kernel
theorem dX10_believed_10 : decode cX10_believed 10 = .ok (.ifCond .eq 11, 3) := by decide +kernel
theorem dX10_believed_13 : decode cX10_believed 13 = .ok (.aload_n 0, 1) := by decide +kernel
theorem dX10_believed_14 : decode cX10_believed 14 = .ok (.iload_n 1, 1) := by decide +kernel
theorem dX10_believed_15 : decode cX10_believed 15 = .ok (.invokevirtual 291, 3) := by decide +kernel
theorem dX10_believed_18 : decode cX10_believed 18 = .ok (.goto 4, 3) := by decide +kernel
theorem dX10_believed_21 : decode cX10_believed 21 = .ok (.iconst (-1), 1) := by decide +kernel
theorem dX10_believed_22 : decode cX10_believed 22 = .ok (.ireturn, 1) := by decide +kernel
theorem dX10_quarrel_0 : decode cX10_quarrel 0 = .ok (.aload_n 0, 1) := by decide +kernel
theorem dX10_quarrel_1 : decode cX10_quarrel 1 = .ok (.iconst 0, 1) := by decide +kernel
theorem dX10_quarrel_2 : decode cX10_quarrel 2 = .ok (.putfield 1, 3) := by decide +kernel
theorem dX10_quarrel_5 : decode cX10_quarrel 5 = .ok (.aload_n 0, 1) := by decide +kernel
theorem dX10_quarrel_6 : decode cX10_quarrel 6 = .ok (.iload_n 1, 1) := by decide +kernel
theorem dX10_quarrel_7 : decode cX10_quarrel 7 = .ok (.invokevirtual 253, 3) := by decide +kernel
theorem dX10_quarrel_10 : decode cX10_quarrel 10 = .ok (.ifCond .ne 5, 3) := by decide +kernel
theorem dX10_quarrel_13 : decode cX10_quarrel 13 = .ok (.iconst (-1), 1) := by decide +kernel
theorem dX10_quarrel_14 : decode cX10_quarrel 14 = .ok (.ireturn, 1) := by decide +kernel
theorem dX10_quarrel_15 : decode cX10_quarrel 15 = .ok (.iconst (-1), 1) := by decide +kernel
theorem dX10_quarrel_16 : decode cX10_quarrel 16 = .ok (.istore_n 2, 1) := by decide +kernel
theorem dX10_quarrel_17 : decode cX10_quarrel 17 = .ok (.iconst 0, 1) := by decide +kernel
theorem dX10_quarrel_18 : decode cX10_quarrel 18 = .ok (.istore_n 3, 1) := by decide +kernel
theorem dX10_quarrel_19 : decode cX10_quarrel 19 = .ok (.iconst 0, 1) := by decide +kernel
theorem dX10_quarrel_20 : decode cX10_quarrel 20 = .ok (.istore 4, 2) := by decide +kernel
theorem dX10_quarrel_22 : decode cX10_quarrel 22 = .ok (.iload 4, 2) := by decide +kernel
theorem dX10_quarrel_24 : decode cX10_quarrel 24 = .ok (.aload_n 0, 1) := by decide +kernel
theorem dX10_quarrel_25 : decode cX10_quarrel 25 = .ok (.getfield 264, 3) := by decide +kernel
theorem dX10_quarrel_28 : decode cX10_quarrel 28 = .ok (.if_icmp .ge 48, 3) := by decide +kernel
theorem dX10_quarrel_31 : decode cX10_quarrel 31 = .ok (.aload_n 0, 1) := by decide +kernel
theorem dX10_quarrel_32 : decode cX10_quarrel 32 = .ok (.iload 4, 2) := by decide +kernel
theorem dX10_quarrel_34 : decode cX10_quarrel 34 = .ok (.iload_n 1, 1) := by decide +kernel
theorem dX10_quarrel_35 : decode cX10_quarrel 35 = .ok (.invokevirtual 283, 3) := by decide +kernel
theorem dX10_quarrel_38 : decode cX10_quarrel 38 = .ok (.ifCond .eq 32, 3) := by decide +kernel
theorem dX10_quarrel_41 : decode cX10_quarrel 41 = .ok (.iload_n 2, 1) := by decide +kernel
theorem dX10_quarrel_42 : decode cX10_quarrel 42 = .ok (.ifCond .lt 18, 3) := by decide +kernel
theorem dX10_quarrel_45 : decode cX10_quarrel 45 = .ok (.iload_n 2, 1) := by decide +kernel
theorem dX10_quarrel_46 : decode cX10_quarrel 46 = .ok (.aload_n 0, 1) := by decide +kernel
theorem dX10_quarrel_47 : decode cX10_quarrel 47 = .ok (.getfield 121, 3) := by decide +kernel
theorem dX10_quarrel_50 : decode cX10_quarrel 50 = .ok (.iload 4, 2) := by decide +kernel
theorem dX10_quarrel_52 : decode cX10_quarrel 52 = .ok (.iaload, 1) := by decide +kernel
theorem dX10_quarrel_53 : decode cX10_quarrel 53 = .ok (.if_icmp .eq 7, 3) := by decide +kernel
theorem dX10_quarrel_56 : decode cX10_quarrel 56 = .ok (.iconst 1, 1) := by decide +kernel
theorem dX10_quarrel_57 : decode cX10_quarrel 57 = .ok (.goto 4, 3) := by decide +kernel
theorem dX10_quarrel_60 : decode cX10_quarrel 60 = .ok (.iload_n 3, 1) := by decide +kernel
theorem dX10_quarrel_61 : decode cX10_quarrel 61 = .ok (.istore_n 3, 1) := by decide +kernel
theorem dX10_quarrel_62 : decode cX10_quarrel 62 = .ok (.aload_n 0, 1) := by decide +kernel
theorem dX10_quarrel_63 : decode cX10_quarrel 63 = .ok (.getfield 121, 3) := by decide +kernel
theorem dX10_quarrel_66 : decode cX10_quarrel 66 = .ok (.iload 4, 2) := by decide +kernel
theorem dX10_quarrel_68 : decode cX10_quarrel 68 = .ok (.iaload, 1) := by decide +kernel
theorem dX10_quarrel_69 : decode cX10_quarrel 69 = .ok (.istore_n 2, 1) := by decide +kernel
theorem dX10_quarrel_70 : decode cX10_quarrel 70 = .ok (.iinc 4 1, 3) := by decide +kernel
theorem dX10_quarrel_73 : decode cX10_quarrel 73 = .ok (.goto (-51), 3) := by decide +kernel
theorem dX10_quarrel_76 : decode cX10_quarrel 76 = .ok (.iload_n 3, 1) := by decide +kernel
theorem dX10_quarrel_77 : decode cX10_quarrel 77 = .ok (.ireturn, 1) := by decide +kernel
theorem dX10_proof_0 : decode cX10_proof 0 = .ok (.aload_n 0, 1) := by decide +kernel
theorem dX10_proof_1 : decode cX10_proof 1 = .ok (.iconst 0, 1) := by decide +kernel
theorem dX10_proof_2 : decode cX10_proof 2 = .ok (.putfield 1, 3) := by decide +kernel
theorem dX10_proof_5 : decode cX10_proof 5 = .ok (.iload_n 1, 1) := by decide +kernel
theorem dX10_proof_6 : decode cX10_proof 6 = .ok (.ifCond .lt 11, 3) := by decide +kernel
theorem dX10_proof_9 : decode cX10_proof 9 = .ok (.iload_n 1, 1) := by decide +kernel
theorem dX10_proof_10 : decode cX10_proof 10 = .ok (.aload_n 0, 1) := by decide +kernel
theorem dX10_proof_11 : decode cX10_proof 11 = .ok (.getfield 264, 3) := by decide +kernel
theorem dX10_proof_14 : decode cX10_proof 14 = .ok (.if_icmp .lt 7, 3) := by decide +kernel
theorem dX10_proof_17 : decode cX10_proof 17 = .ok (.iconst (-1), 1) := by decide +kernel
theorem dX10_proof_18 : decode cX10_proof 18 = .ok (.goto 9, 3) := by decide +kernel
theorem dX10_proof_21 : decode cX10_proof 21 = .ok (.aload_n 0, 1) := by decide +kernel
theorem dX10_proof_22 : decode cX10_proof 22 = .ok (.getfield 124, 3) := by decide +kernel
theorem dX10_proof_25 : decode cX10_proof 25 = .ok (.iload_n 1, 1) := by decide +kernel
theorem dX10_proof_26 : decode cX10_proof 26 = .ok (.iaload, 1) := by decide +kernel
theorem dX10_proof_27 : decode cX10_proof 27 = .ok (.ireturn, 1) := by decide +kernel
theorem dX10_mark_0 : decode cX10_mark 0 = .ok (.aload_n 0, 1) := by decide +kernel
theorem dX10_mark_1 : decode cX10_mark 1 = .ok (.iconst 0, 1) := by decide +kernel
theorem dX10_mark_2 : decode cX10_mark 2 = .ok (.putfield 1, 3) := by decide +kernel
theorem dX10_mark_5 : decode cX10_mark 5 = .ok (.iload_n 1, 1) := by decide +kernel
theorem dX10_mark_6 : decode cX10_mark 6 = .ok (.invokestatic 244, 3) := by decide +kernel
theorem dX10_mark_9 : decode cX10_mark 9 = .ok (.ifCond .eq 22, 3) := by decide +kernel
theorem dX10_mark_12 : decode cX10_mark 12 = .ok (.iload_n 2, 1) := by decide +kernel
theorem dX10_mark_13 : decode cX10_mark 13 = .ok (.ifCond .lt 18, 3) := by decide +kernel
theorem dX10_mark_16 : decode cX10_mark 16 = .ok (.iload_n 2, 1) := by decide +kernel
theorem dX10_mark_17 : decode cX10_mark 17 = .ok (.iconst 4, 1) := by decide +kernel
theorem dX10_mark_18 : decode cX10_mark 18 = .ok (.if_icmp .gt 13, 3) := by decide +kernel
theorem dX10_mark_21 : decode cX10_mark 21 = .ok (.iload_n 3, 1) := by decide +kernel
theorem dX10_mark_22 : decode cX10_mark 22 = .ok (.ifCond .lt 9, 3) := by decide +kernel
theorem dX10_mark_25 : decode cX10_mark 25 = .ok (.iload_n 3, 1) := by decide +kernel
theorem dX10_mark_26 : decode cX10_mark 26 = .ok (.bipush 100, 2) := by decide +kernel
theorem dX10_mark_28 : decode cX10_mark 28 = .ok (.if_icmp .le 5, 3) := by decide +kernel
theorem dX10_mark_31 : decode cX10_mark 31 = .ok (.iconst 0, 1) := by decide +kernel
theorem dX10_mark_32 : decode cX10_mark 32 = .ok (.ireturn, 1) := by decide +kernel
theorem dX10_mark_33 : decode cX10_mark 33 = .ok (.aload_n 0, 1) := by decide +kernel
theorem dX10_mark_34 : decode cX10_mark 34 = .ok (.getfield 127, 3) := by decide +kernel
theorem dX10_mark_37 : decode cX10_mark 37 = .ok (.iconst 5, 1) := by decide +kernel
theorem dX10_mark_38 : decode cX10_mark 38 = .ok (.iload_n 1, 1) := by decide +kernel
theorem dX10_mark_39 : decode cX10_mark 39 = .ok (.imul, 1) := by decide +kernel
theorem dX10_mark_40 : decode cX10_mark 40 = .ok (.iload_n 2, 1) := by decide +kernel
theorem dX10_mark_41 : decode cX10_mark 41 = .ok (.iadd, 1) := by decide +kernel
theorem dX10_mark_42 : decode cX10_mark 42 = .ok (.iload_n 3, 1) := by decide +kernel
theorem dX10_mark_43 : decode cX10_mark 43 = .ok (.iastore, 1) := by decide +kernel
theorem dX10_mark_44 : decode cX10_mark 44 = .ok (.iconst 1, 1) := by decide +kernel
theorem dX10_mark_45 : decode cX10_mark 45 = .ok (.ireturn, 1) := by decide +kernel
theorem dX10_shiftOf_0 : decode cX10_shiftOf 0 = .ok (.iconst 0, 1) := by decide +kernel
theorem dX10_shiftOf_1 : decode cX10_shiftOf 1 = .ok (.istore_n 2, 1) := by decide +kernel
theorem dX10_shiftOf_2 : decode cX10_shiftOf 2 = .ok (.iconst 0, 1) := by decide +kernel
theorem dX10_shiftOf_3 : decode cX10_shiftOf 3 = .ok (.istore_n 3, 1) := by decide +kernel
theorem dX10_shiftOf_4 : decode cX10_shiftOf 4 = .ok (.iconst 0, 1) := by decide +kernel
theorem dX10_shiftOf_5 : decode cX10_shiftOf 5 = .ok (.istore 4, 2) := by decide +kernel
theorem dX10_shiftOf_7 : decode cX10_shiftOf 7 = .ok (.iload 4, 2) := by decide +kernel
theorem dX10_shiftOf_9 : decode cX10_shiftOf 9 = .ok (.bipush 10, 2) := by decide +kernel
theorem dX10_shiftOf_11 : decode cX10_shiftOf 11 = .ok (.if_icmp .ge 62, 3) := by decide +kernel
theorem dX10_shiftOf_14 : decode cX10_shiftOf 14 = .ok (.aload_n 0, 1) := by decide +kernel
theorem dX10_shiftOf_15 : decode cX10_shiftOf 15 = .ok (.getfield 127, 3) := by decide +kernel
theorem dX10_shiftOf_18 : decode cX10_shiftOf 18 = .ok (.iconst 5, 1) := by decide +kernel
theorem dX10_shiftOf_19 : decode cX10_shiftOf 19 = .ok (.iload 4, 2) := by decide +kernel
theorem dX10_shiftOf_21 : decode cX10_shiftOf 21 = .ok (.imul, 1) := by decide +kernel
theorem dX10_shiftOf_22 : decode cX10_shiftOf 22 = .ok (.iaload, 1) := by decide +kernel
theorem dX10_shiftOf_23 : decode cX10_shiftOf 23 = .ok (.ifCond .lt 44, 3) := by decide +kernel
theorem dX10_shiftOf_26 : decode cX10_shiftOf 26 = .ok (.aload_n 0, 1) := by decide +kernel
theorem dX10_shiftOf_27 : decode cX10_shiftOf 27 = .ok (.getfield 127, 3) := by decide +kernel
theorem dX10_shiftOf_30 : decode cX10_shiftOf 30 = .ok (.iconst 5, 1) := by decide +kernel
theorem dX10_shiftOf_31 : decode cX10_shiftOf 31 = .ok (.iload 4, 2) := by decide +kernel
theorem dX10_shiftOf_33 : decode cX10_shiftOf 33 = .ok (.imul, 1) := by decide +kernel
theorem dX10_shiftOf_34 : decode cX10_shiftOf 34 = .ok (.iload_n 1, 1) := by decide +kernel
theorem dX10_shiftOf_35 : decode cX10_shiftOf 35 = .ok (.iadd, 1) := by decide +kernel
theorem dX10_shiftOf_36 : decode cX10_shiftOf 36 = .ok (.iaload, 1) := by decide +kernel
theorem dX10_shiftOf_37 : decode cX10_shiftOf 37 = .ok (.ifCond .lt 30, 3) := by decide +kernel
theorem dX10_shiftOf_40 : decode cX10_shiftOf 40 = .ok (.iload_n 2, 1) := by decide +kernel
theorem dX10_shiftOf_41 : decode cX10_shiftOf 41 = .ok (.aload_n 0, 1) := by decide +kernel
theorem dX10_shiftOf_42 : decode cX10_shiftOf 42 = .ok (.getfield 127, 3) := by decide +kernel
theorem dX10_shiftOf_45 : decode cX10_shiftOf 45 = .ok (.iconst 5, 1) := by decide +kernel
theorem dX10_shiftOf_46 : decode cX10_shiftOf 46 = .ok (.iload 4, 2) := by decide +kernel
theorem dX10_shiftOf_48 : decode cX10_shiftOf 48 = .ok (.imul, 1) := by decide +kernel
theorem dX10_shiftOf_49 : decode cX10_shiftOf 49 = .ok (.iload_n 1, 1) := by decide +kernel
theorem dX10_shiftOf_50 : decode cX10_shiftOf 50 = .ok (.iadd, 1) := by decide +kernel
theorem dX10_shiftOf_51 : decode cX10_shiftOf 51 = .ok (.iaload, 1) := by decide +kernel
theorem dX10_shiftOf_52 : decode cX10_shiftOf 52 = .ok (.aload_n 0, 1) := by decide +kernel
theorem dX10_shiftOf_53 : decode cX10_shiftOf 53 = .ok (.getfield 127, 3) := by decide +kernel
theorem dX10_shiftOf_56 : decode cX10_shiftOf 56 = .ok (.iconst 5, 1) := by decide +kernel
theorem dX10_shiftOf_57 : decode cX10_shiftOf 57 = .ok (.iload 4, 2) := by decide +kernel
theorem dX10_shiftOf_59 : decode cX10_shiftOf 59 = .ok (.imul, 1) := by decide +kernel
theorem dX10_shiftOf_60 : decode cX10_shiftOf 60 = .ok (.iaload, 1) := by decide +kernel
theorem dX10_shiftOf_61 : decode cX10_shiftOf 61 = .ok (.isub, 1) := by decide +kernel
theorem dX10_shiftOf_62 : decode cX10_shiftOf 62 = .ok (.iadd, 1) := by decide +kernel
theorem dX10_shiftOf_63 : decode cX10_shiftOf 63 = .ok (.istore_n 2, 1) := by decide +kernel
theorem dX10_shiftOf_64 : decode cX10_shiftOf 64 = .ok (.iinc 3 1, 3) := by decide +kernel
theorem dX10_shiftOf_67 : decode cX10_shiftOf 67 = .ok (.iinc 4 1, 3) := by decide +kernel
theorem dX10_shiftOf_70 : decode cX10_shiftOf 70 = .ok (.goto (-63), 3) := by decide +kernel
theorem dX10_shiftOf_73 : decode cX10_shiftOf 73 = .ok (.iload_n 3, 1) := by decide +kernel
theorem dX10_shiftOf_74 : decode cX10_shiftOf 74 = .ok (.ifCond .ne 7, 3) := by decide +kernel
theorem dX10_shiftOf_77 : decode cX10_shiftOf 77 = .ok (.iconst 0, 1) := by decide +kernel
theorem dX10_shiftOf_78 : decode cX10_shiftOf 78 = .ok (.goto 6, 3) := by decide +kernel
theorem dX10_shiftOf_81 : decode cX10_shiftOf 81 = .ok (.iload_n 2, 1) := by decide +kernel
theorem dX10_shiftOf_82 : decode cX10_shiftOf 82 = .ok (.iload_n 3, 1) := by decide +kernel
theorem dX10_shiftOf_83 : decode cX10_shiftOf 83 = .ok (.idiv, 1) := by decide +kernel
theorem dX10_shiftOf_84 : decode cX10_shiftOf 84 = .ok (.ireturn, 1) := by decide +kernel
theorem dX10_shift_0 : decode cX10_shift 0 = .ok (.aload_n 0, 1) := by decide +kernel
theorem dX10_shift_1 : decode cX10_shift 1 = .ok (.iload_n 1, 1) := by decide +kernel
theorem dX10_shift_2 : decode cX10_shift 2 = .ok (.ifCond .lt 12, 3) := by decide +kernel
theorem dX10_shift_5 : decode cX10_shift 5 = .ok (.iload_n 1, 1) := by decide +kernel
theorem dX10_shift_6 : decode cX10_shift 6 = .ok (.iconst 4, 1) := by decide +kernel
theorem dX10_shift_7 : decode cX10_shift 7 = .ok (.if_icmp .gt 7, 3) := by decide +kernel
theorem dX10_shift_10 : decode cX10_shift 10 = .ok (.iconst 0, 1) := by decide +kernel
theorem dX10_shift_11 : decode cX10_shift 11 = .ok (.goto 4, 3) := by decide +kernel
theorem dX10_shift_14 : decode cX10_shift 14 = .ok (.iconst 1, 1) := by decide +kernel
theorem dX10_shift_15 : decode cX10_shift 15 = .ok (.putfield 1, 3) := by decide +kernel
theorem dX10_shift_18 : decode cX10_shift 18 = .ok (.aload_n 0, 1) := by decide +kernel
theorem dX10_shift_19 : decode cX10_shift 19 = .ok (.getfield 1, 3) := by decide +kernel
theorem dX10_shift_22 : decode cX10_shift 22 = .ok (.ifCond .le 7, 3) := by decide +kernel
theorem dX10_shift_25 : decode cX10_shift 25 = .ok (.iconst 0, 1) := by decide +kernel
theorem dX10_shift_26 : decode cX10_shift 26 = .ok (.goto 8, 3) := by decide +kernel
theorem dX10_shift_29 : decode cX10_shift 29 = .ok (.aload_n 0, 1) := by decide +kernel
theorem dX10_shift_30 : decode cX10_shift 30 = .ok (.iload_n 1, 1) := by decide +kernel
theorem dX10_shift_31 : decode cX10_shift 31 = .ok (.invokevirtual 294, 3) := by decide +kernel
theorem dX10_shift_34 : decode cX10_shift 34 = .ok (.ireturn, 1) := by decide +kernel
theorem dX10_paid_0 : decode cX10_paid 0 = .ok (.aload_n 0, 1) := by decide +kernel
theorem dX10_paid_1 : decode cX10_paid 1 = .ok (.iconst 0, 1) := by decide +kernel
theorem dX10_paid_2 : decode cX10_paid 2 = .ok (.putfield 1, 3) := by decide +kernel
theorem dX10_paid_5 : decode cX10_paid 5 = .ok (.iload_n 1, 1) := by decide +kernel
theorem dX10_paid_6 : decode cX10_paid 6 = .ok (.invokestatic 244, 3) := by decide +kernel
theorem dX10_paid_9 : decode cX10_paid 9 = .ok (.ifCond .ne 5, 3) := by decide +kernel
theorem dX10_paid_12 : decode cX10_paid 12 = .ok (.iconst 0, 1) := by decide +kernel
theorem dX10_paid_13 : decode cX10_paid 13 = .ok (.ireturn, 1) := by decide +kernel
theorem dX10_paid_14 : decode cX10_paid 14 = .ok (.aload_n 0, 1) := by decide +kernel
theorem dX10_paid_15 : decode cX10_paid 15 = .ok (.getfield 130, 3) := by decide +kernel
theorem dX10_paid_18 : decode cX10_paid 18 = .ok (.iload_n 1, 1) := by decide +kernel
theorem dX10_paid_19 : decode cX10_paid 19 = .ok (.iload_n 2, 1) := by decide +kernel
theorem dX10_paid_20 : decode cX10_paid 20 = .ok (.bastore, 1) := by decide +kernel
theorem dX10_paid_21 : decode cX10_paid 21 = .ok (.iconst 1, 1) := by decide +kernel
theorem dX10_paid_22 : decode cX10_paid 22 = .ok (.ireturn, 1) := by decide +kernel
theorem dX10_starsOf_0 : decode cX10_starsOf 0 = .ok (.iconst 0, 1) := by decide +kernel
theorem dX10_starsOf_1 : decode cX10_starsOf 1 = .ok (.istore_n 2, 1) := by decide +kernel
theorem dX10_starsOf_2 : decode cX10_starsOf 2 = .ok (.iconst 0, 1) := by decide +kernel
theorem dX10_starsOf_3 : decode cX10_starsOf 3 = .ok (.istore_n 3, 1) := by decide +kernel
theorem dX10_starsOf_4 : decode cX10_starsOf 4 = .ok (.iconst 0, 1) := by decide +kernel
theorem dX10_starsOf_5 : decode cX10_starsOf 5 = .ok (.istore 4, 2) := by decide +kernel
theorem dX10_starsOf_7 : decode cX10_starsOf 7 = .ok (.iconst 0, 1) := by decide +kernel
theorem dX10_starsOf_8 : decode cX10_starsOf 8 = .ok (.istore 5, 2) := by decide +kernel
theorem dX10_starsOf_10 : decode cX10_starsOf 10 = .ok (.iconst 0, 1) := by decide +kernel
theorem dX10_starsOf_11 : decode cX10_starsOf 11 = .ok (.istore 6, 2) := by decide +kernel
theorem dX10_starsOf_13 : decode cX10_starsOf 13 = .ok (.iload 6, 2) := by decide +kernel
theorem dX10_starsOf_15 : decode cX10_starsOf 15 = .ok (.iconst 5, 1) := by decide +kernel
theorem dX10_starsOf_16 : decode cX10_starsOf 16 = .ok (.if_icmp .ge 116, 3) := by decide +kernel
theorem dX10_starsOf_19 : decode cX10_starsOf 19 = .ok (.aload_n 0, 1) := by decide +kernel
theorem dX10_starsOf_20 : decode cX10_starsOf 20 = .ok (.getfield 127, 3) := by decide +kernel
theorem dX10_starsOf_23 : decode cX10_starsOf 23 = .ok (.iconst 5, 1) := by decide +kernel
theorem dX10_starsOf_24 : decode cX10_starsOf 24 = .ok (.iload_n 1, 1) := by decide +kernel
theorem dX10_starsOf_25 : decode cX10_starsOf 25 = .ok (.imul, 1) := by decide +kernel
theorem dX10_starsOf_26 : decode cX10_starsOf 26 = .ok (.iload 6, 2) := by decide +kernel
theorem dX10_starsOf_28 : decode cX10_starsOf 28 = .ok (.iadd, 1) := by decide +kernel
theorem dX10_starsOf_29 : decode cX10_starsOf 29 = .ok (.iaload, 1) := by decide +kernel
theorem dX10_starsOf_30 : decode cX10_starsOf 30 = .ok (.ifCond .lt 96, 3) := by decide +kernel
theorem dX10_starsOf_33 : decode cX10_starsOf 33 = .ok (.aload_n 0, 1) := by decide +kernel
theorem dX10_starsOf_34 : decode cX10_starsOf 34 = .ok (.getfield 127, 3) := by decide +kernel
theorem dX10_starsOf_37 : decode cX10_starsOf 37 = .ok (.iconst 5, 1) := by decide +kernel
theorem dX10_starsOf_38 : decode cX10_starsOf 38 = .ok (.iload_n 1, 1) := by decide +kernel
theorem dX10_starsOf_39 : decode cX10_starsOf 39 = .ok (.imul, 1) := by decide +kernel
theorem dX10_starsOf_40 : decode cX10_starsOf 40 = .ok (.iload 6, 2) := by decide +kernel
theorem dX10_starsOf_42 : decode cX10_starsOf 42 = .ok (.iadd, 1) := by decide +kernel
theorem dX10_starsOf_43 : decode cX10_starsOf 43 = .ok (.iaload, 1) := by decide +kernel
theorem dX10_starsOf_44 : decode cX10_starsOf 44 = .ok (.aload_n 0, 1) := by decide +kernel
theorem dX10_starsOf_45 : decode cX10_starsOf 45 = .ok (.iload 6, 2) := by decide +kernel
theorem dX10_starsOf_47 : decode cX10_starsOf 47 = .ok (.invokevirtual 294, 3) := by decide +kernel
theorem dX10_starsOf_50 : decode cX10_starsOf 50 = .ok (.isub, 1) := by decide +kernel
theorem dX10_starsOf_51 : decode cX10_starsOf 51 = .ok (.istore 7, 2) := by decide +kernel
theorem dX10_starsOf_53 : decode cX10_starsOf 53 = .ok (.iload 7, 2) := by decide +kernel
theorem dX10_starsOf_55 : decode cX10_starsOf 55 = .ok (.ifCond .ge 7, 3) := by decide +kernel
theorem dX10_starsOf_58 : decode cX10_starsOf 58 = .ok (.iconst 0, 1) := by decide +kernel
theorem dX10_starsOf_59 : decode cX10_starsOf 59 = .ok (.goto 17, 3) := by decide +kernel
theorem dX10_starsOf_62 : decode cX10_starsOf 62 = .ok (.iload 7, 2) := by decide +kernel
theorem dX10_starsOf_64 : decode cX10_starsOf 64 = .ok (.bipush 100, 2) := by decide +kernel
theorem dX10_starsOf_66 : decode cX10_starsOf 66 = .ok (.if_icmp .le 8, 3) := by decide +kernel
theorem dX10_starsOf_69 : decode cX10_starsOf 69 = .ok (.bipush 100, 2) := by decide +kernel
theorem dX10_starsOf_71 : decode cX10_starsOf 71 = .ok (.goto 5, 3) := by decide +kernel
theorem dX10_starsOf_74 : decode cX10_starsOf 74 = .ok (.iload 7, 2) := by decide +kernel
theorem dX10_starsOf_76 : decode cX10_starsOf 76 = .ok (.istore 7, 2) := by decide +kernel
theorem dX10_starsOf_78 : decode cX10_starsOf 78 = .ok (.iload_n 2, 1) := by decide +kernel
theorem dX10_starsOf_79 : decode cX10_starsOf 79 = .ok (.ifCond .eq 10, 3) := by decide +kernel
theorem dX10_starsOf_82 : decode cX10_starsOf 82 = .ok (.iload 7, 2) := by decide +kernel
theorem dX10_starsOf_84 : decode cX10_starsOf 84 = .ok (.iload 4, 2) := by decide +kernel
theorem dX10_starsOf_86 : decode cX10_starsOf 86 = .ok (.if_icmp .ge 8, 3) := by decide +kernel
theorem dX10_starsOf_89 : decode cX10_starsOf 89 = .ok (.iload 7, 2) := by decide +kernel
theorem dX10_starsOf_91 : decode cX10_starsOf 91 = .ok (.goto 5, 3) := by decide +kernel
theorem dX10_starsOf_94 : decode cX10_starsOf 94 = .ok (.iload 4, 2) := by decide +kernel
theorem dX10_starsOf_96 : decode cX10_starsOf 96 = .ok (.istore 4, 2) := by decide +kernel
theorem dX10_starsOf_98 : decode cX10_starsOf 98 = .ok (.iload_n 2, 1) := by decide +kernel
theorem dX10_starsOf_99 : decode cX10_starsOf 99 = .ok (.ifCond .eq 10, 3) := by decide +kernel
theorem dX10_starsOf_102 : decode cX10_starsOf 102 = .ok (.iload 7, 2) := by decide +kernel
theorem dX10_starsOf_104 : decode cX10_starsOf 104 = .ok (.iload 5, 2) := by decide +kernel
theorem dX10_starsOf_106 : decode cX10_starsOf 106 = .ok (.if_icmp .le 8, 3) := by decide +kernel
theorem dX10_starsOf_109 : decode cX10_starsOf 109 = .ok (.iload 7, 2) := by decide +kernel
theorem dX10_starsOf_111 : decode cX10_starsOf 111 = .ok (.goto 5, 3) := by decide +kernel
theorem dX10_starsOf_114 : decode cX10_starsOf 114 = .ok (.iload 5, 2) := by decide +kernel
theorem dX10_starsOf_116 : decode cX10_starsOf 116 = .ok (.istore 5, 2) := by decide +kernel
theorem dX10_starsOf_118 : decode cX10_starsOf 118 = .ok (.iload_n 3, 1) := by decide +kernel
theorem dX10_starsOf_119 : decode cX10_starsOf 119 = .ok (.iload 7, 2) := by decide +kernel
theorem dX10_starsOf_121 : decode cX10_starsOf 121 = .ok (.iadd, 1) := by decide +kernel
theorem dX10_starsOf_122 : decode cX10_starsOf 122 = .ok (.istore_n 3, 1) := by decide +kernel
theorem dX10_starsOf_123 : decode cX10_starsOf 123 = .ok (.iinc 2 1, 3) := by decide +kernel
theorem dX10_starsOf_126 : decode cX10_starsOf 126 = .ok (.iinc 6 1, 3) := by decide +kernel
theorem dX10_starsOf_129 : decode cX10_starsOf 129 = .ok (.goto (-116), 3) := by decide +kernel
theorem dX10_starsOf_132 : decode cX10_starsOf 132 = .ok (.aload_n 0, 1) := by decide +kernel
theorem dX10_starsOf_133 : decode cX10_starsOf 133 = .ok (.getfield 79, 3) := by decide +kernel
theorem dX10_starsOf_136 : decode cX10_starsOf 136 = .ok (.iconst 0, 1) := by decide +kernel
theorem dX10_starsOf_137 : decode cX10_starsOf 137 = .ok (.iload_n 2, 1) := by decide +kernel
theorem dX10_starsOf_138 : decode cX10_starsOf 138 = .ok (.iastore, 1) := by decide +kernel
theorem dX10_starsOf_139 : decode cX10_starsOf 139 = .ok (.aload_n 0, 1) := by decide +kernel
theorem dX10_starsOf_140 : decode cX10_starsOf 140 = .ok (.getfield 79, 3) := by decide +kernel
theorem dX10_starsOf_143 : decode cX10_starsOf 143 = .ok (.iconst 1, 1) := by decide +kernel
theorem dX10_starsOf_144 : decode cX10_starsOf 144 = .ok (.iload_n 2, 1) := by decide +kernel
theorem dX10_starsOf_145 : decode cX10_starsOf 145 = .ok (.ifCond .ne 7, 3) := by decide +kernel
theorem dX10_starsOf_148 : decode cX10_starsOf 148 = .ok (.iconst 0, 1) := by decide +kernel
theorem dX10_starsOf_149 : decode cX10_starsOf 149 = .ok (.goto 6, 3) := by decide +kernel
theorem dX10_starsOf_152 : decode cX10_starsOf 152 = .ok (.iload_n 3, 1) := by decide +kernel
theorem dX10_starsOf_153 : decode cX10_starsOf 153 = .ok (.iload_n 2, 1) := by decide +kernel
theorem dX10_starsOf_154 : decode cX10_starsOf 154 = .ok (.idiv, 1) := by decide +kernel
theorem dX10_starsOf_155 : decode cX10_starsOf 155 = .ok (.iastore, 1) := by decide +kernel
theorem dX10_starsOf_156 : decode cX10_starsOf 156 = .ok (.aload_n 0, 1) := by decide +kernel
theorem dX10_starsOf_157 : decode cX10_starsOf 157 = .ok (.getfield 79, 3) := by decide +kernel
theorem dX10_starsOf_160 : decode cX10_starsOf 160 = .ok (.iconst 2, 1) := by decide +kernel
theorem dX10_starsOf_161 : decode cX10_starsOf 161 = .ok (.iload 4, 2) := by decide +kernel
theorem dX10_starsOf_163 : decode cX10_starsOf 163 = .ok (.iastore, 1) := by decide +kernel
theorem dX10_starsOf_164 : decode cX10_starsOf 164 = .ok (.aload_n 0, 1) := by decide +kernel
theorem dX10_starsOf_165 : decode cX10_starsOf 165 = .ok (.getfield 79, 3) := by decide +kernel
theorem dX10_starsOf_168 : decode cX10_starsOf 168 = .ok (.iconst 3, 1) := by decide +kernel
theorem dX10_starsOf_169 : decode cX10_starsOf 169 = .ok (.iload 5, 2) := by decide +kernel
theorem dX10_starsOf_171 : decode cX10_starsOf 171 = .ok (.iastore, 1) := by decide +kernel
theorem dX10_starsOf_172 : decode cX10_starsOf 172 = .ok (.aload_n 0, 1) := by decide +kernel
theorem dX10_starsOf_173 : decode cX10_starsOf 173 = .ok (.getfield 79, 3) := by decide +kernel
theorem dX10_starsOf_176 : decode cX10_starsOf 176 = .ok (.iconst 4, 1) := by decide +kernel
theorem dX10_starsOf_177 : decode cX10_starsOf 177 = .ok (.iconst 0, 1) := by decide +kernel
theorem dX10_starsOf_178 : decode cX10_starsOf 178 = .ok (.iastore, 1) := by decide +kernel
theorem dX10_starsOf_179 : decode cX10_starsOf 179 = .ok (.iconst 0, 1) := by decide +kernel
theorem dX10_starsOf_180 : decode cX10_starsOf 180 = .ok (.istore 6, 2) := by decide +kernel
theorem dX10_starsOf_182 : decode cX10_starsOf 182 = .ok (.iload 6, 2) := by decide +kernel
theorem dX10_starsOf_184 : decode cX10_starsOf 184 = .ok (.aload_n 0, 1) := by decide +kernel
theorem dX10_starsOf_185 : decode cX10_starsOf 185 = .ok (.getfield 250, 3) := by decide +kernel
theorem dX10_starsOf_188 : decode cX10_starsOf 188 = .ok (.if_icmp .ge 34, 3) := by decide +kernel
theorem dX10_starsOf_191 : decode cX10_starsOf 191 = .ok (.aload_n 0, 1) := by decide +kernel
theorem dX10_starsOf_192 : decode cX10_starsOf 192 = .ok (.getfield 79, 3) := by decide +kernel
theorem dX10_starsOf_195 : decode cX10_starsOf 195 = .ok (.iconst 4, 1) := by decide +kernel
theorem dX10_starsOf_196 : decode cX10_starsOf 196 = .ok (.dup2, 1) := by decide +kernel
theorem dX10_starsOf_197 : decode cX10_starsOf 197 = .ok (.iaload, 1) := by decide +kernel
theorem dX10_starsOf_198 : decode cX10_starsOf 198 = .ok (.aload_n 0, 1) := by decide +kernel
theorem dX10_starsOf_199 : decode cX10_starsOf 199 = .ok (.getfield 88, 3) := by decide +kernel
theorem dX10_starsOf_202 : decode cX10_starsOf 202 = .ok (.iload 6, 2) := by decide +kernel
theorem dX10_starsOf_204 : decode cX10_starsOf 204 = .ok (.iaload, 1) := by decide +kernel
theorem dX10_starsOf_205 : decode cX10_starsOf 205 = .ok (.iload_n 1, 1) := by decide +kernel
theorem dX10_starsOf_206 : decode cX10_starsOf 206 = .ok (.if_icmp .ne 7, 3) := by decide +kernel
theorem dX10_starsOf_209 : decode cX10_starsOf 209 = .ok (.iconst 1, 1) := by decide +kernel
theorem dX10_starsOf_210 : decode cX10_starsOf 210 = .ok (.goto 4, 3) := by decide +kernel
theorem dX10_starsOf_213 : decode cX10_starsOf 213 = .ok (.iconst 0, 1) := by decide +kernel
theorem dX10_starsOf_214 : decode cX10_starsOf 214 = .ok (.iadd, 1) := by decide +kernel
theorem dX10_starsOf_215 : decode cX10_starsOf 215 = .ok (.iastore, 1) := by decide +kernel
theorem dX10_starsOf_216 : decode cX10_starsOf 216 = .ok (.iinc 6 1, 3) := by decide +kernel
theorem dX10_starsOf_219 : decode cX10_starsOf 219 = .ok (.goto (-37), 3) := by decide +kernel
theorem dX10_starsOf_222 : decode cX10_starsOf 222 = .ok (.aload_n 0, 1) := by decide +kernel
theorem dX10_starsOf_223 : decode cX10_starsOf 223 = .ok (.getfield 79, 3) := by decide +kernel
theorem dX10_starsOf_226 : decode cX10_starsOf 226 = .ok (.iconst 5, 1) := by decide +kernel
theorem dX10_starsOf_227 : decode cX10_starsOf 227 = .ok (.aload_n 0, 1) := by decide +kernel
theorem dX10_starsOf_228 : decode cX10_starsOf 228 = .ok (.getfield 130, 3) := by decide +kernel
theorem dX10_starsOf_231 : decode cX10_starsOf 231 = .ok (.iload_n 1, 1) := by decide +kernel
theorem dX10_starsOf_232 : decode cX10_starsOf 232 = .ok (.baload, 1) := by decide +kernel
theorem dX10_starsOf_233 : decode cX10_starsOf 233 = .ok (.ifCond .eq 7, 3) := by decide +kernel
theorem dX10_starsOf_236 : decode cX10_starsOf 236 = .ok (.iconst 1, 1) := by decide +kernel
theorem dX10_starsOf_237 : decode cX10_starsOf 237 = .ok (.goto 4, 3) := by decide +kernel
theorem dX10_starsOf_240 : decode cX10_starsOf 240 = .ok (.iconst 0, 1) := by decide +kernel
theorem dX10_starsOf_241 : decode cX10_starsOf 241 = .ok (.iastore, 1) := by decide +kernel
theorem dX10_starsOf_242 : decode cX10_starsOf 242 = .ok (.bipush 16, 2) := by decide +kernel
theorem dX10_starsOf_244 : decode cX10_starsOf 244 = .ok (.aload_n 0, 1) := by decide +kernel
theorem dX10_starsOf_245 : decode cX10_starsOf 245 = .ok (.getfield 203, 3) := by decide +kernel
theorem dX10_starsOf_248 : decode cX10_starsOf 248 = .ok (.imul, 1) := by decide +kernel
theorem dX10_starsOf_249 : decode cX10_starsOf 249 = .ok (.istore 6, 2) := by decide +kernel
theorem dX10_starsOf_251 : decode cX10_starsOf 251 = .ok (.iload 6, 2) := by decide +kernel
theorem dX10_starsOf_253 : decode cX10_starsOf 253 = .ok (.bipush 16, 2) := by decide +kernel
theorem dX10_starsOf_255 : decode cX10_starsOf 255 = .ok (.aload_n 0, 1) := by decide +kernel
theorem dX10_starsOf_256 : decode cX10_starsOf 256 = .ok (.getfield 203, 3) := by decide +kernel
theorem dX10_starsOf_259 : decode cX10_starsOf 259 = .ok (.imul, 1) := by decide +kernel
theorem dX10_starsOf_260 : decode cX10_starsOf 260 = .ok (.aload_n 0, 1) := by decide +kernel
theorem dX10_starsOf_261 : decode cX10_starsOf 261 = .ok (.getfield 55, 3) := by decide +kernel
theorem dX10_starsOf_264 : decode cX10_starsOf 264 = .ok (.aload_n 0, 1) := by decide +kernel
theorem dX10_starsOf_265 : decode cX10_starsOf 265 = .ok (.getfield 203, 3) := by decide +kernel
theorem dX10_starsOf_268 : decode cX10_starsOf 268 = .ok (.iaload, 1) := by decide +kernel
theorem dX10_starsOf_269 : decode cX10_starsOf 269 = .ok (.iadd, 1) := by decide +kernel
theorem dX10_starsOf_270 : decode cX10_starsOf 270 = .ok (.if_icmp .ge 31, 3) := by decide +kernel
theorem dX10_starsOf_273 : decode cX10_starsOf 273 = .ok (.aload_n 0, 1) := by decide +kernel
theorem dX10_starsOf_274 : decode cX10_starsOf 274 = .ok (.aload_n 0, 1) := by decide +kernel
theorem dX10_starsOf_275 : decode cX10_starsOf 275 = .ok (.getfield 61, 3) := by decide +kernel
theorem dX10_starsOf_278 : decode cX10_starsOf 278 = .ok (.iload 6, 2) := by decide +kernel
theorem dX10_starsOf_280 : decode cX10_starsOf 280 = .ok (.iaload, 1) := by decide +kernel
theorem dX10_starsOf_281 : decode cX10_starsOf 281 = .ok (.invokevirtual 297, 3) := by decide +kernel
theorem dX10_starsOf_284 : decode cX10_starsOf 284 = .ok (.ifCond .eq 11, 3) := by decide +kernel
theorem dX10_starsOf_287 : decode cX10_starsOf 287 = .ok (.aload_n 0, 1) := by decide +kernel
theorem dX10_starsOf_288 : decode cX10_starsOf 288 = .ok (.getfield 58, 3) := by decide +kernel
theorem dX10_starsOf_291 : decode cX10_starsOf 291 = .ok (.iload 6, 2) := by decide +kernel
theorem dX10_starsOf_293 : decode cX10_starsOf 293 = .ok (.iaload, 1) := by decide +kernel
theorem dX10_starsOf_294 : decode cX10_starsOf 294 = .ok (.ireturn, 1) := by decide +kernel
theorem dX10_starsOf_295 : decode cX10_starsOf 295 = .ok (.iinc 6 1, 3) := by decide +kernel
theorem dX10_starsOf_298 : decode cX10_starsOf 298 = .ok (.goto (-47), 3) := by decide +kernel
theorem dX10_starsOf_301 : decode cX10_starsOf 301 = .ok (.iconst 0, 1) := by decide +kernel
theorem dX10_starsOf_302 : decode cX10_starsOf 302 = .ok (.ireturn, 1) := by decide +kernel
theorem dX10_stars_0 : decode cX10_stars 0 = .ok (.aload_n 0, 1) := by decide +kernel
theorem dX10_stars_1 : decode cX10_stars 1 = .ok (.iconst 0, 1) := by decide +kernel
theorem dX10_stars_2 : decode cX10_stars 2 = .ok (.putfield 1, 3) := by decide +kernel
theorem dX10_stars_5 : decode cX10_stars 5 = .ok (.iload_n 1, 1) := by decide +kernel
theorem dX10_stars_6 : decode cX10_stars 6 = .ok (.invokestatic 244, 3) := by decide +kernel
theorem dX10_stars_9 : decode cX10_stars 9 = .ok (.ifCond .eq 11, 3) := by decide +kernel
theorem dX10_stars_12 : decode cX10_stars 12 = .ok (.aload_n 0, 1) := by decide +kernel
theorem dX10_stars_13 : decode cX10_stars 13 = .ok (.iload_n 1, 1) := by decide +kernel
theorem dX10_stars_14 : decode cX10_stars 14 = .ok (.invokevirtual 300, 3) := by decide +kernel
theorem dX10_stars_17 : decode cX10_stars 17 = .ok (.goto 4, 3) := by decide +kernel
theorem dX10_stars_20 : decode cX10_stars 20 = .ok (.iconst (-1), 1) := by decide +kernel
theorem dX10_stars_21 : decode cX10_stars 21 = .ok (.ireturn, 1) := by decide +kernel
theorem dX10_laysOut_0 : decode cX10_laysOut 0 = .ok (.aload_n 0, 1) := by decide +kernel
theorem dX10_laysOut_1 : decode cX10_laysOut 1 = .ok (.iconst 0, 1) := by decide +kernel
theorem dX10_laysOut_2 : decode cX10_laysOut 2 = .ok (.putfield 303, 3) := by decide +kernel
theorem dX10_laysOut_5 : decode cX10_laysOut 5 = .ok (.iconst 0, 1) := by decide +kernel
theorem dX10_laysOut_6 : decode cX10_laysOut 6 = .ok (.istore_n 2, 1) := by decide +kernel
theorem dX10_laysOut_7 : decode cX10_laysOut 7 = .ok (.iload_n 2, 1) := by decide +kernel
theorem dX10_laysOut_8 : decode cX10_laysOut 8 = .ok (.aload_n 0, 1) := by decide +kernel
theorem dX10_laysOut_9 : decode cX10_laysOut 9 = .ok (.getfield 250, 3) := by decide +kernel
theorem dX10_laysOut_12 : decode cX10_laysOut 12 = .ok (.if_icmp .ge 39, 3) := by decide +kernel
theorem dX10_laysOut_15 : decode cX10_laysOut 15 = .ok (.aload_n 0, 1) := by decide +kernel
theorem dX10_laysOut_16 : decode cX10_laysOut 16 = .ok (.getfield 88, 3) := by decide +kernel
theorem dX10_laysOut_19 : decode cX10_laysOut 19 = .ok (.iload_n 2, 1) := by decide +kernel
theorem dX10_laysOut_20 : decode cX10_laysOut 20 = .ok (.iaload, 1) := by decide +kernel
theorem dX10_laysOut_21 : decode cX10_laysOut 21 = .ok (.iload_n 1, 1) := by decide +kernel
theorem dX10_laysOut_22 : decode cX10_laysOut 22 = .ok (.if_icmp .ne 23, 3) := by decide +kernel
theorem dX10_laysOut_25 : decode cX10_laysOut 25 = .ok (.aload_n 0, 1) := by decide +kernel
theorem dX10_laysOut_26 : decode cX10_laysOut 26 = .ok (.getfield 134, 3) := by decide +kernel
theorem dX10_laysOut_29 : decode cX10_laysOut 29 = .ok (.aload_n 0, 1) := by decide +kernel
theorem dX10_laysOut_30 : decode cX10_laysOut 30 = .ok (.getfield 303, 3) := by decide +kernel
theorem dX10_laysOut_33 : decode cX10_laysOut 33 = .ok (.iload_n 2, 1) := by decide +kernel
theorem dX10_laysOut_34 : decode cX10_laysOut 34 = .ok (.iastore, 1) := by decide +kernel
theorem dX10_laysOut_35 : decode cX10_laysOut 35 = .ok (.aload_n 0, 1) := by decide +kernel
theorem dX10_laysOut_36 : decode cX10_laysOut 36 = .ok (.dup, 1) := by decide +kernel
theorem dX10_laysOut_37 : decode cX10_laysOut 37 = .ok (.getfield 303, 3) := by decide +kernel
theorem dX10_laysOut_40 : decode cX10_laysOut 40 = .ok (.iconst 1, 1) := by decide +kernel
theorem dX10_laysOut_41 : decode cX10_laysOut 41 = .ok (.iadd, 1) := by decide +kernel
theorem dX10_laysOut_42 : decode cX10_laysOut 42 = .ok (.putfield 303, 3) := by decide +kernel
theorem dX10_laysOut_45 : decode cX10_laysOut 45 = .ok (.iinc 2 1, 3) := by decide +kernel
theorem dX10_laysOut_48 : decode cX10_laysOut 48 = .ok (.goto (-41), 3) := by decide +kernel
theorem dX10_laysOut_51 : decode cX10_laysOut 51 = .ok (.aload_n 0, 1) := by decide +kernel
theorem dX10_laysOut_52 : decode cX10_laysOut 52 = .ok (.getfield 303, 3) := by decide +kernel
theorem dX10_laysOut_55 : decode cX10_laysOut 55 = .ok (.istore_n 2, 1) := by decide +kernel
theorem dX10_laysOut_56 : decode cX10_laysOut 56 = .ok (.iload_n 2, 1) := by decide +kernel
theorem dX10_laysOut_57 : decode cX10_laysOut 57 = .ok (.ifCond .lt 200, 3) := by decide +kernel
theorem dX10_laysOut_60 : decode cX10_laysOut 60 = .ok (.iconst 0, 1) := by decide +kernel
theorem dX10_laysOut_61 : decode cX10_laysOut 61 = .ok (.istore_n 3, 1) := by decide +kernel
theorem dX10_laysOut_62 : decode cX10_laysOut 62 = .ok (.iload_n 3, 1) := by decide +kernel
theorem dX10_laysOut_63 : decode cX10_laysOut 63 = .ok (.bipush 100, 2) := by decide +kernel
theorem dX10_laysOut_65 : decode cX10_laysOut 65 = .ok (.if_icmp .ge 186, 3) := by decide +kernel
theorem dX10_laysOut_68 : decode cX10_laysOut 68 = .ok (.aload_n 0, 1) := by decide +kernel
theorem dX10_laysOut_69 : decode cX10_laysOut 69 = .ok (.getfield 137, 3) := by decide +kernel
theorem dX10_laysOut_72 : decode cX10_laysOut 72 = .ok (.bipush 100, 2) := by decide +kernel
theorem dX10_laysOut_74 : decode cX10_laysOut 74 = .ok (.iload_n 2, 1) := by decide +kernel
theorem dX10_laysOut_75 : decode cX10_laysOut 75 = .ok (.imul, 1) := by decide +kernel
theorem dX10_laysOut_76 : decode cX10_laysOut 76 = .ok (.iload_n 3, 1) := by decide +kernel
theorem dX10_laysOut_77 : decode cX10_laysOut 77 = .ok (.iadd, 1) := by decide +kernel
theorem dX10_laysOut_78 : decode cX10_laysOut 78 = .ok (.iconst 0, 1) := by decide +kernel
theorem dX10_laysOut_79 : decode cX10_laysOut 79 = .ok (.iastore, 1) := by decide +kernel
theorem dX10_laysOut_80 : decode cX10_laysOut 80 = .ok (.aload_n 0, 1) := by decide +kernel
theorem dX10_laysOut_81 : decode cX10_laysOut 81 = .ok (.getfield 140, 3) := by decide +kernel
theorem dX10_laysOut_84 : decode cX10_laysOut 84 = .ok (.bipush 100, 2) := by decide +kernel
theorem dX10_laysOut_86 : decode cX10_laysOut 86 = .ok (.iload_n 2, 1) := by decide +kernel
theorem dX10_laysOut_87 : decode cX10_laysOut 87 = .ok (.imul, 1) := by decide +kernel
theorem dX10_laysOut_88 : decode cX10_laysOut 88 = .ok (.iload_n 3, 1) := by decide +kernel
theorem dX10_laysOut_89 : decode cX10_laysOut 89 = .ok (.iadd, 1) := by decide +kernel
theorem dX10_laysOut_90 : decode cX10_laysOut 90 = .ok (.iconst 0, 1) := by decide +kernel
theorem dX10_laysOut_91 : decode cX10_laysOut 91 = .ok (.iastore, 1) := by decide +kernel
theorem dX10_laysOut_92 : decode cX10_laysOut 92 = .ok (.iload_n 2, 1) := by decide +kernel
theorem dX10_laysOut_93 : decode cX10_laysOut 93 = .ok (.aload_n 0, 1) := by decide +kernel
theorem dX10_laysOut_94 : decode cX10_laysOut 94 = .ok (.getfield 303, 3) := by decide +kernel
theorem dX10_laysOut_97 : decode cX10_laysOut 97 = .ok (.if_icmp .ge 148, 3) := by decide +kernel
theorem dX10_laysOut_100 : decode cX10_laysOut 100 = .ok (.aload_n 0, 1) := by decide +kernel
theorem dX10_laysOut_101 : decode cX10_laysOut 101 = .ok (.getfield 137, 3) := by decide +kernel
theorem dX10_laysOut_104 : decode cX10_laysOut 104 = .ok (.bipush 100, 2) := by decide +kernel
theorem dX10_laysOut_106 : decode cX10_laysOut 106 = .ok (.iload_n 2, 1) := by decide +kernel
theorem dX10_laysOut_107 : decode cX10_laysOut 107 = .ok (.imul, 1) := by decide +kernel
theorem dX10_laysOut_108 : decode cX10_laysOut 108 = .ok (.iload_n 3, 1) := by decide +kernel
theorem dX10_laysOut_109 : decode cX10_laysOut 109 = .ok (.iadd, 1) := by decide +kernel
theorem dX10_laysOut_110 : decode cX10_laysOut 110 = .ok (.aload_n 0, 1) := by decide +kernel
theorem dX10_laysOut_111 : decode cX10_laysOut 111 = .ok (.getfield 137, 3) := by decide +kernel
theorem dX10_laysOut_114 : decode cX10_laysOut 114 = .ok (.bipush 100, 2) := by decide +kernel
theorem dX10_laysOut_116 : decode cX10_laysOut 116 = .ok (.iload_n 2, 1) := by decide +kernel
theorem dX10_laysOut_117 : decode cX10_laysOut 117 = .ok (.iconst 1, 1) := by decide +kernel
theorem dX10_laysOut_118 : decode cX10_laysOut 118 = .ok (.iadd, 1) := by decide +kernel
theorem dX10_laysOut_119 : decode cX10_laysOut 119 = .ok (.imul, 1) := by decide +kernel
theorem dX10_laysOut_120 : decode cX10_laysOut 120 = .ok (.iload_n 3, 1) := by decide +kernel
theorem dX10_laysOut_121 : decode cX10_laysOut 121 = .ok (.iadd, 1) := by decide +kernel
theorem dX10_laysOut_122 : decode cX10_laysOut 122 = .ok (.iaload, 1) := by decide +kernel
theorem dX10_laysOut_123 : decode cX10_laysOut 123 = .ok (.iastore, 1) := by decide +kernel
theorem dX10_laysOut_124 : decode cX10_laysOut 124 = .ok (.aload_n 0, 1) := by decide +kernel
theorem dX10_laysOut_125 : decode cX10_laysOut 125 = .ok (.getfield 140, 3) := by decide +kernel
theorem dX10_laysOut_128 : decode cX10_laysOut 128 = .ok (.bipush 100, 2) := by decide +kernel
theorem dX10_laysOut_130 : decode cX10_laysOut 130 = .ok (.iload_n 2, 1) := by decide +kernel
theorem dX10_laysOut_131 : decode cX10_laysOut 131 = .ok (.imul, 1) := by decide +kernel
theorem dX10_laysOut_132 : decode cX10_laysOut 132 = .ok (.iload_n 3, 1) := by decide +kernel
theorem dX10_laysOut_133 : decode cX10_laysOut 133 = .ok (.iadd, 1) := by decide +kernel
theorem dX10_laysOut_134 : decode cX10_laysOut 134 = .ok (.aload_n 0, 1) := by decide +kernel
theorem dX10_laysOut_135 : decode cX10_laysOut 135 = .ok (.getfield 140, 3) := by decide +kernel
theorem dX10_laysOut_138 : decode cX10_laysOut 138 = .ok (.bipush 100, 2) := by decide +kernel
theorem dX10_laysOut_140 : decode cX10_laysOut 140 = .ok (.iload_n 2, 1) := by decide +kernel
theorem dX10_laysOut_141 : decode cX10_laysOut 141 = .ok (.iconst 1, 1) := by decide +kernel
theorem dX10_laysOut_142 : decode cX10_laysOut 142 = .ok (.iadd, 1) := by decide +kernel
theorem dX10_laysOut_143 : decode cX10_laysOut 143 = .ok (.imul, 1) := by decide +kernel
theorem dX10_laysOut_144 : decode cX10_laysOut 144 = .ok (.iload_n 3, 1) := by decide +kernel
theorem dX10_laysOut_145 : decode cX10_laysOut 145 = .ok (.iadd, 1) := by decide +kernel
theorem dX10_laysOut_146 : decode cX10_laysOut 146 = .ok (.iaload, 1) := by decide +kernel
theorem dX10_laysOut_147 : decode cX10_laysOut 147 = .ok (.iastore, 1) := by decide +kernel
theorem dX10_laysOut_148 : decode cX10_laysOut 148 = .ok (.aload_n 0, 1) := by decide +kernel
theorem dX10_laysOut_149 : decode cX10_laysOut 149 = .ok (.iload_n 2, 1) := by decide +kernel
theorem dX10_laysOut_150 : decode cX10_laysOut 150 = .ok (.iload_n 3, 1) := by decide +kernel
theorem dX10_laysOut_151 : decode cX10_laysOut 151 = .ok (.invokevirtual 306, 3) := by decide +kernel
theorem dX10_laysOut_154 : decode cX10_laysOut 154 = .ok (.ifCond .eq 91, 3) := by decide +kernel
theorem dX10_laysOut_157 : decode cX10_laysOut 157 = .ok (.aload_n 0, 1) := by decide +kernel
theorem dX10_laysOut_158 : decode cX10_laysOut 158 = .ok (.getfield 134, 3) := by decide +kernel
theorem dX10_laysOut_161 : decode cX10_laysOut 161 = .ok (.iload_n 2, 1) := by decide +kernel
theorem dX10_laysOut_162 : decode cX10_laysOut 162 = .ok (.iaload, 1) := by decide +kernel
theorem dX10_laysOut_163 : decode cX10_laysOut 163 = .ok (.istore 4, 2) := by decide +kernel
theorem dX10_laysOut_165 : decode cX10_laysOut 165 = .ok (.aload_n 0, 1) := by decide +kernel
theorem dX10_laysOut_166 : decode cX10_laysOut 166 = .ok (.getfield 137, 3) := by decide +kernel
theorem dX10_laysOut_169 : decode cX10_laysOut 169 = .ok (.bipush 100, 2) := by decide +kernel
theorem dX10_laysOut_171 : decode cX10_laysOut 171 = .ok (.iload_n 2, 1) := by decide +kernel
theorem dX10_laysOut_172 : decode cX10_laysOut 172 = .ok (.imul, 1) := by decide +kernel
theorem dX10_laysOut_173 : decode cX10_laysOut 173 = .ok (.iload_n 3, 1) := by decide +kernel
theorem dX10_laysOut_174 : decode cX10_laysOut 174 = .ok (.iadd, 1) := by decide +kernel
theorem dX10_laysOut_175 : decode cX10_laysOut 175 = .ok (.aload_n 0, 1) := by decide +kernel
theorem dX10_laysOut_176 : decode cX10_laysOut 176 = .ok (.getfield 100, 3) := by decide +kernel
theorem dX10_laysOut_179 : decode cX10_laysOut 179 = .ok (.iload 4, 2) := by decide +kernel
theorem dX10_laysOut_181 : decode cX10_laysOut 181 = .ok (.iaload, 1) := by decide +kernel
theorem dX10_laysOut_182 : decode cX10_laysOut 182 = .ok (.aload_n 0, 1) := by decide +kernel
theorem dX10_laysOut_183 : decode cX10_laysOut 183 = .ok (.getfield 137, 3) := by decide +kernel
theorem dX10_laysOut_186 : decode cX10_laysOut 186 = .ok (.bipush 100, 2) := by decide +kernel
theorem dX10_laysOut_188 : decode cX10_laysOut 188 = .ok (.iload_n 2, 1) := by decide +kernel
theorem dX10_laysOut_189 : decode cX10_laysOut 189 = .ok (.iconst 1, 1) := by decide +kernel
theorem dX10_laysOut_190 : decode cX10_laysOut 190 = .ok (.iadd, 1) := by decide +kernel
theorem dX10_laysOut_191 : decode cX10_laysOut 191 = .ok (.imul, 1) := by decide +kernel
theorem dX10_laysOut_192 : decode cX10_laysOut 192 = .ok (.iload_n 3, 1) := by decide +kernel
theorem dX10_laysOut_193 : decode cX10_laysOut 193 = .ok (.iadd, 1) := by decide +kernel
theorem dX10_laysOut_194 : decode cX10_laysOut 194 = .ok (.aload_n 0, 1) := by decide +kernel
theorem dX10_laysOut_195 : decode cX10_laysOut 195 = .ok (.getfield 97, 3) := by decide +kernel
theorem dX10_laysOut_198 : decode cX10_laysOut 198 = .ok (.iload 4, 2) := by decide +kernel
theorem dX10_laysOut_200 : decode cX10_laysOut 200 = .ok (.iaload, 1) := by decide +kernel
theorem dX10_laysOut_201 : decode cX10_laysOut 201 = .ok (.isub, 1) := by decide +kernel
theorem dX10_laysOut_202 : decode cX10_laysOut 202 = .ok (.iaload, 1) := by decide +kernel
theorem dX10_laysOut_203 : decode cX10_laysOut 203 = .ok (.iadd, 1) := by decide +kernel
theorem dX10_laysOut_204 : decode cX10_laysOut 204 = .ok (.iastore, 1) := by decide +kernel
theorem dX10_laysOut_205 : decode cX10_laysOut 205 = .ok (.aload_n 0, 1) := by decide +kernel
theorem dX10_laysOut_206 : decode cX10_laysOut 206 = .ok (.getfield 140, 3) := by decide +kernel
theorem dX10_laysOut_209 : decode cX10_laysOut 209 = .ok (.bipush 100, 2) := by decide +kernel
theorem dX10_laysOut_211 : decode cX10_laysOut 211 = .ok (.iload_n 2, 1) := by decide +kernel
theorem dX10_laysOut_212 : decode cX10_laysOut 212 = .ok (.imul, 1) := by decide +kernel
theorem dX10_laysOut_213 : decode cX10_laysOut 213 = .ok (.iload_n 3, 1) := by decide +kernel
theorem dX10_laysOut_214 : decode cX10_laysOut 214 = .ok (.iadd, 1) := by decide +kernel
theorem dX10_laysOut_215 : decode cX10_laysOut 215 = .ok (.aload_n 0, 1) := by decide +kernel
theorem dX10_laysOut_216 : decode cX10_laysOut 216 = .ok (.getfield 97, 3) := by decide +kernel
theorem dX10_laysOut_219 : decode cX10_laysOut 219 = .ok (.iload 4, 2) := by decide +kernel
theorem dX10_laysOut_221 : decode cX10_laysOut 221 = .ok (.iaload, 1) := by decide +kernel
theorem dX10_laysOut_222 : decode cX10_laysOut 222 = .ok (.aload_n 0, 1) := by decide +kernel
theorem dX10_laysOut_223 : decode cX10_laysOut 223 = .ok (.getfield 140, 3) := by decide +kernel
theorem dX10_laysOut_226 : decode cX10_laysOut 226 = .ok (.bipush 100, 2) := by decide +kernel
theorem dX10_laysOut_228 : decode cX10_laysOut 228 = .ok (.iload_n 2, 1) := by decide +kernel
theorem dX10_laysOut_229 : decode cX10_laysOut 229 = .ok (.iconst 1, 1) := by decide +kernel
theorem dX10_laysOut_230 : decode cX10_laysOut 230 = .ok (.iadd, 1) := by decide +kernel
theorem dX10_laysOut_231 : decode cX10_laysOut 231 = .ok (.imul, 1) := by decide +kernel
theorem dX10_laysOut_232 : decode cX10_laysOut 232 = .ok (.iload_n 3, 1) := by decide +kernel
theorem dX10_laysOut_233 : decode cX10_laysOut 233 = .ok (.iadd, 1) := by decide +kernel
theorem dX10_laysOut_234 : decode cX10_laysOut 234 = .ok (.aload_n 0, 1) := by decide +kernel
theorem dX10_laysOut_235 : decode cX10_laysOut 235 = .ok (.getfield 97, 3) := by decide +kernel
theorem dX10_laysOut_238 : decode cX10_laysOut 238 = .ok (.iload 4, 2) := by decide +kernel
theorem dX10_laysOut_240 : decode cX10_laysOut 240 = .ok (.iaload, 1) := by decide +kernel
theorem dX10_laysOut_241 : decode cX10_laysOut 241 = .ok (.isub, 1) := by decide +kernel
theorem dX10_laysOut_242 : decode cX10_laysOut 242 = .ok (.iaload, 1) := by decide +kernel
theorem dX10_laysOut_243 : decode cX10_laysOut 243 = .ok (.iadd, 1) := by decide +kernel
theorem dX10_laysOut_244 : decode cX10_laysOut 244 = .ok (.iastore, 1) := by decide +kernel
theorem dX10_laysOut_245 : decode cX10_laysOut 245 = .ok (.iinc 3 1, 3) := by decide +kernel
theorem dX10_laysOut_248 : decode cX10_laysOut 248 = .ok (.goto (-186), 3) := by decide +kernel
theorem dX10_laysOut_251 : decode cX10_laysOut 251 = .ok (.iinc 2 (-1), 3) := by decide +kernel
theorem dX10_laysOut_254 : decode cX10_laysOut 254 = .ok (.goto (-198), 3) := by decide +kernel
theorem dX10_laysOut_257 : decode cX10_laysOut 257 = .ok (.return_, 1) := by decide +kernel
theorem dX10_isWith_0 : decode cX10_isWith 0 = .ok (.aload_n 0, 1) := by decide +kernel
theorem dX10_isWith_1 : decode cX10_isWith 1 = .ok (.getfield 134, 3) := by decide +kernel
theorem dX10_isWith_4 : decode cX10_isWith 4 = .ok (.iload_n 1, 1) := by decide +kernel
theorem dX10_isWith_5 : decode cX10_isWith 5 = .ok (.iaload, 1) := by decide +kernel
theorem dX10_isWith_6 : decode cX10_isWith 6 = .ok (.istore_n 3, 1) := by decide +kernel
theorem dX10_isWith_7 : decode cX10_isWith 7 = .ok (.aload_n 0, 1) := by decide +kernel
theorem dX10_isWith_8 : decode cX10_isWith 8 = .ok (.getfield 97, 3) := by decide +kernel
theorem dX10_isWith_11 : decode cX10_isWith 11 = .ok (.iload_n 3, 1) := by decide +kernel
theorem dX10_isWith_12 : decode cX10_isWith 12 = .ok (.iaload, 1) := by decide +kernel
theorem dX10_isWith_13 : decode cX10_isWith 13 = .ok (.iload_n 2, 1) := by decide +kernel
theorem dX10_isWith_14 : decode cX10_isWith 14 = .ok (.if_icmp .le 5, 3) := by decide +kernel
theorem dX10_isWith_17 : decode cX10_isWith 17 = .ok (.iconst 0, 1) := by decide +kernel
theorem dX10_isWith_18 : decode cX10_isWith 18 = .ok (.ireturn, 1) := by decide +kernel
theorem dX10_isWith_19 : decode cX10_isWith 19 = .ok (.bipush 100, 2) := by decide +kernel
theorem dX10_isWith_21 : decode cX10_isWith 21 = .ok (.iload_n 1, 1) := by decide +kernel
theorem dX10_isWith_22 : decode cX10_isWith 22 = .ok (.iconst 1, 1) := by decide +kernel
theorem dX10_isWith_23 : decode cX10_isWith 23 = .ok (.iadd, 1) := by decide +kernel
theorem dX10_isWith_24 : decode cX10_isWith 24 = .ok (.imul, 1) := by decide +kernel
theorem dX10_isWith_25 : decode cX10_isWith 25 = .ok (.iload_n 2, 1) := by decide +kernel
theorem dX10_isWith_26 : decode cX10_isWith 26 = .ok (.iadd, 1) := by decide +kernel
theorem dX10_isWith_27 : decode cX10_isWith 27 = .ok (.aload_n 0, 1) := by decide +kernel
theorem dX10_isWith_28 : decode cX10_isWith 28 = .ok (.getfield 97, 3) := by decide +kernel
theorem dX10_isWith_31 : decode cX10_isWith 31 = .ok (.iload_n 3, 1) := by decide +kernel
theorem dX10_isWith_32 : decode cX10_isWith 32 = .ok (.iaload, 1) := by decide +kernel
theorem dX10_isWith_33 : decode cX10_isWith 33 = .ok (.isub, 1) := by decide +kernel
theorem dX10_isWith_34 : decode cX10_isWith 34 = .ok (.istore 4, 2) := by decide +kernel
theorem dX10_isWith_36 : decode cX10_isWith 36 = .ok (.bipush 100, 2) := by decide +kernel
theorem dX10_isWith_38 : decode cX10_isWith 38 = .ok (.iload_n 1, 1) := by decide +kernel
theorem dX10_isWith_39 : decode cX10_isWith 39 = .ok (.iconst 1, 1) := by decide +kernel
theorem dX10_isWith_40 : decode cX10_isWith 40 = .ok (.iadd, 1) := by decide +kernel
theorem dX10_isWith_41 : decode cX10_isWith 41 = .ok (.imul, 1) := by decide +kernel
theorem dX10_isWith_42 : decode cX10_isWith 42 = .ok (.iload_n 2, 1) := by decide +kernel
theorem dX10_isWith_43 : decode cX10_isWith 43 = .ok (.iadd, 1) := by decide +kernel
theorem dX10_isWith_44 : decode cX10_isWith 44 = .ok (.istore 5, 2) := by decide +kernel
theorem dX10_isWith_46 : decode cX10_isWith 46 = .ok (.aload_n 0, 1) := by decide +kernel
theorem dX10_isWith_47 : decode cX10_isWith 47 = .ok (.getfield 100, 3) := by decide +kernel
theorem dX10_isWith_50 : decode cX10_isWith 50 = .ok (.iload_n 3, 1) := by decide +kernel
theorem dX10_isWith_51 : decode cX10_isWith 51 = .ok (.iaload, 1) := by decide +kernel
theorem dX10_isWith_52 : decode cX10_isWith 52 = .ok (.aload_n 0, 1) := by decide +kernel
theorem dX10_isWith_53 : decode cX10_isWith 53 = .ok (.getfield 137, 3) := by decide +kernel
theorem dX10_isWith_56 : decode cX10_isWith 56 = .ok (.iload 4, 2) := by decide +kernel
theorem dX10_isWith_58 : decode cX10_isWith 58 = .ok (.iaload, 1) := by decide +kernel
theorem dX10_isWith_59 : decode cX10_isWith 59 = .ok (.iadd, 1) := by decide +kernel
theorem dX10_isWith_60 : decode cX10_isWith 60 = .ok (.istore 6, 2) := by decide +kernel
theorem dX10_isWith_62 : decode cX10_isWith 62 = .ok (.aload_n 0, 1) := by decide +kernel
theorem dX10_isWith_63 : decode cX10_isWith 63 = .ok (.getfield 97, 3) := by decide +kernel
theorem dX10_isWith_66 : decode cX10_isWith 66 = .ok (.iload_n 3, 1) := by decide +kernel
theorem dX10_isWith_67 : decode cX10_isWith 67 = .ok (.iaload, 1) := by decide +kernel
theorem dX10_isWith_68 : decode cX10_isWith 68 = .ok (.aload_n 0, 1) := by decide +kernel
theorem dX10_isWith_69 : decode cX10_isWith 69 = .ok (.getfield 140, 3) := by decide +kernel
theorem dX10_isWith_72 : decode cX10_isWith 72 = .ok (.iload 4, 2) := by decide +kernel
theorem dX10_isWith_74 : decode cX10_isWith 74 = .ok (.iaload, 1) := by decide +kernel
theorem dX10_isWith_75 : decode cX10_isWith 75 = .ok (.iadd, 1) := by decide +kernel
theorem dX10_isWith_76 : decode cX10_isWith 76 = .ok (.istore 7, 2) := by decide +kernel
theorem dX10_isWith_78 : decode cX10_isWith 78 = .ok (.iload 6, 2) := by decide +kernel
theorem dX10_isWith_80 : decode cX10_isWith 80 = .ok (.aload_n 0, 1) := by decide +kernel
theorem dX10_isWith_81 : decode cX10_isWith 81 = .ok (.getfield 137, 3) := by decide +kernel
theorem dX10_isWith_84 : decode cX10_isWith 84 = .ok (.iload 5, 2) := by decide +kernel
theorem dX10_isWith_86 : decode cX10_isWith 86 = .ok (.iaload, 1) := by decide +kernel
theorem dX10_isWith_87 : decode cX10_isWith 87 = .ok (.if_icmp .gt 27, 3) := by decide +kernel
theorem dX10_isWith_90 : decode cX10_isWith 90 = .ok (.iload 6, 2) := by decide +kernel
theorem dX10_isWith_92 : decode cX10_isWith 92 = .ok (.aload_n 0, 1) := by decide +kernel
theorem dX10_isWith_93 : decode cX10_isWith 93 = .ok (.getfield 137, 3) := by decide +kernel
theorem dX10_isWith_96 : decode cX10_isWith 96 = .ok (.iload 5, 2) := by decide +kernel
theorem dX10_isWith_98 : decode cX10_isWith 98 = .ok (.iaload, 1) := by decide +kernel
theorem dX10_isWith_99 : decode cX10_isWith 99 = .ok (.if_icmp .ne 19, 3) := by decide +kernel
theorem dX10_isWith_102 : decode cX10_isWith 102 = .ok (.iload 7, 2) := by decide +kernel
theorem dX10_isWith_104 : decode cX10_isWith 104 = .ok (.aload_n 0, 1) := by decide +kernel
theorem dX10_isWith_105 : decode cX10_isWith 105 = .ok (.getfield 140, 3) := by decide +kernel
theorem dX10_isWith_108 : decode cX10_isWith 108 = .ok (.iload 5, 2) := by decide +kernel
theorem dX10_isWith_110 : decode cX10_isWith 110 = .ok (.iaload, 1) := by decide +kernel
theorem dX10_isWith_111 : decode cX10_isWith 111 = .ok (.if_icmp .gt 7, 3) := by decide +kernel
theorem dX10_isWith_114 : decode cX10_isWith 114 = .ok (.iconst 1, 1) := by decide +kernel
theorem dX10_isWith_115 : decode cX10_isWith 115 = .ok (.goto 4, 3) := by decide +kernel
theorem dX10_isWith_118 : decode cX10_isWith 118 = .ok (.iconst 0, 1) := by decide +kernel
theorem dX10_isWith_119 : decode cX10_isWith 119 = .ok (.ireturn, 1) := by decide +kernel
theorem dX10_number_0 : decode cX10_number 0 = .ok (.aload_n 0, 1) := by decide +kernel
theorem dX10_number_1 : decode cX10_number 1 = .ok (.iconst 0, 1) := by decide +kernel
theorem dX10_number_2 : decode cX10_number 2 = .ok (.putfield 1, 3) := by decide +kernel
theorem dX10_number_5 : decode cX10_number 5 = .ok (.aload_n 0, 1) := by decide +kernel
theorem dX10_number_6 : decode cX10_number 6 = .ok (.iload_n 1, 1) := by decide +kernel
theorem dX10_number_7 : decode cX10_number 7 = .ok (.invokevirtual 253, 3) := by decide +kernel
theorem dX10_number_10 : decode cX10_number 10 = .ok (.ifCond .eq 13, 3) := by decide +kernel
theorem dX10_number_13 : decode cX10_number 13 = .ok (.iload_n 2, 1) := by decide +kernel
theorem dX10_number_14 : decode cX10_number 14 = .ok (.ifCond .lt 9, 3) := by decide +kernel
theorem dX10_number_17 : decode cX10_number 17 = .ok (.iload_n 2, 1) := by decide +kernel
theorem dX10_number_18 : decode cX10_number 18 = .ok (.bipush 99, 2) := by decide +kernel
theorem dX10_number_20 : decode cX10_number 20 = .ok (.if_icmp .le 5, 3) := by decide +kernel
theorem dX10_number_23 : decode cX10_number 23 = .ok (.iconst (-1), 1) := by decide +kernel
theorem dX10_number_24 : decode cX10_number 24 = .ok (.ireturn, 1) := by decide +kernel
theorem dX10_number_25 : decode cX10_number 25 = .ok (.aload_n 0, 1) := by decide +kernel
theorem dX10_number_26 : decode cX10_number 26 = .ok (.aload_n 0, 1) := by decide +kernel
theorem dX10_number_27 : decode cX10_number 27 = .ok (.getfield 88, 3) := by decide +kernel
theorem dX10_number_30 : decode cX10_number 30 = .ok (.iload_n 1, 1) := by decide +kernel
theorem dX10_number_31 : decode cX10_number 31 = .ok (.iaload, 1) := by decide +kernel
theorem dX10_number_32 : decode cX10_number 32 = .ok (.invokevirtual 309, 3) := by decide +kernel
theorem dX10_number_35 : decode cX10_number 35 = .ok (.iload_n 2, 1) := by decide +kernel
theorem dX10_number_36 : decode cX10_number 36 = .ok (.istore_n 3, 1) := by decide +kernel
theorem dX10_number_37 : decode cX10_number 37 = .ok (.iconst 0, 1) := by decide +kernel
theorem dX10_number_38 : decode cX10_number 38 = .ok (.istore 4, 2) := by decide +kernel
theorem dX10_number_40 : decode cX10_number 40 = .ok (.iconst 0, 1) := by decide +kernel
theorem dX10_number_41 : decode cX10_number 41 = .ok (.istore 5, 2) := by decide +kernel
theorem dX10_number_43 : decode cX10_number 43 = .ok (.iload 5, 2) := by decide +kernel
theorem dX10_number_45 : decode cX10_number 45 = .ok (.aload_n 0, 1) := by decide +kernel
theorem dX10_number_46 : decode cX10_number 46 = .ok (.getfield 303, 3) := by decide +kernel
theorem dX10_number_49 : decode cX10_number 49 = .ok (.if_icmp .ge 80, 3) := by decide +kernel
theorem dX10_number_52 : decode cX10_number 52 = .ok (.aload_n 0, 1) := by decide +kernel
theorem dX10_number_53 : decode cX10_number 53 = .ok (.iload 5, 2) := by decide +kernel
theorem dX10_number_55 : decode cX10_number 55 = .ok (.iload_n 3, 1) := by decide +kernel
theorem dX10_number_56 : decode cX10_number 56 = .ok (.invokevirtual 306, 3) := by decide +kernel
theorem dX10_number_59 : decode cX10_number 59 = .ok (.istore 6, 2) := by decide +kernel
theorem dX10_number_61 : decode cX10_number 61 = .ok (.iload 4, 2) := by decide +kernel
theorem dX10_number_63 : decode cX10_number 63 = .ok (.iload 6, 2) := by decide +kernel
theorem dX10_number_65 : decode cX10_number 65 = .ok (.ifCond .eq 7, 3) := by decide +kernel
theorem dX10_number_68 : decode cX10_number 68 = .ok (.iconst 1, 1) := by decide +kernel
theorem dX10_number_69 : decode cX10_number 69 = .ok (.goto 4, 3) := by decide +kernel
theorem dX10_number_72 : decode cX10_number 72 = .ok (.iconst 0, 1) := by decide +kernel
theorem dX10_number_73 : decode cX10_number 73 = .ok (.iadd, 1) := by decide +kernel
theorem dX10_number_74 : decode cX10_number 74 = .ok (.istore 4, 2) := by decide +kernel
theorem dX10_number_76 : decode cX10_number 76 = .ok (.iload_n 3, 1) := by decide +kernel
theorem dX10_number_77 : decode cX10_number 77 = .ok (.iload 6, 2) := by decide +kernel
theorem dX10_number_79 : decode cX10_number 79 = .ok (.ifCond .eq 18, 3) := by decide +kernel
theorem dX10_number_82 : decode cX10_number 82 = .ok (.aload_n 0, 1) := by decide +kernel
theorem dX10_number_83 : decode cX10_number 83 = .ok (.getfield 97, 3) := by decide +kernel
theorem dX10_number_86 : decode cX10_number 86 = .ok (.aload_n 0, 1) := by decide +kernel
theorem dX10_number_87 : decode cX10_number 87 = .ok (.getfield 134, 3) := by decide +kernel
theorem dX10_number_90 : decode cX10_number 90 = .ok (.iload 5, 2) := by decide +kernel
theorem dX10_number_92 : decode cX10_number 92 = .ok (.iaload, 1) := by decide +kernel
theorem dX10_number_93 : decode cX10_number 93 = .ok (.iaload, 1) := by decide +kernel
theorem dX10_number_94 : decode cX10_number 94 = .ok (.goto 4, 3) := by decide +kernel
theorem dX10_number_97 : decode cX10_number 97 = .ok (.iconst 0, 1) := by decide +kernel
theorem dX10_number_98 : decode cX10_number 98 = .ok (.isub, 1) := by decide +kernel
theorem dX10_number_99 : decode cX10_number 99 = .ok (.istore_n 3, 1) := by decide +kernel
theorem dX10_number_100 : decode cX10_number 100 = .ok (.aload_n 0, 1) := by decide +kernel
theorem dX10_number_101 : decode cX10_number 101 = .ok (.getfield 134, 3) := by decide +kernel
theorem dX10_number_104 : decode cX10_number 104 = .ok (.iload 5, 2) := by decide +kernel
theorem dX10_number_106 : decode cX10_number 106 = .ok (.iaload, 1) := by decide +kernel
theorem dX10_number_107 : decode cX10_number 107 = .ok (.iload_n 1, 1) := by decide +kernel
theorem dX10_number_108 : decode cX10_number 108 = .ok (.if_icmp .ne 15, 3) := by decide +kernel
theorem dX10_number_111 : decode cX10_number 111 = .ok (.iload 6, 2) := by decide +kernel
theorem dX10_number_113 : decode cX10_number 113 = .ok (.ifCond .eq 8, 3) := by decide +kernel
theorem dX10_number_116 : decode cX10_number 116 = .ok (.iload 4, 2) := by decide +kernel
theorem dX10_number_118 : decode cX10_number 118 = .ok (.goto 4, 3) := by decide +kernel
theorem dX10_number_121 : decode cX10_number 121 = .ok (.iconst 0, 1) := by decide +kernel
theorem dX10_number_122 : decode cX10_number 122 = .ok (.ireturn, 1) := by decide +kernel
theorem dX10_number_123 : decode cX10_number 123 = .ok (.iinc 5 1, 3) := by decide +kernel
theorem dX10_number_126 : decode cX10_number 126 = .ok (.goto (-83), 3) := by decide +kernel
theorem dX10_number_129 : decode cX10_number 129 = .ok (.iconst 0, 1) := by decide +kernel
theorem dX10_number_130 : decode cX10_number 130 = .ok (.ireturn, 1) := by decide +kernel
theorem dX10_edition_0 : decode cX10_edition 0 = .ok (.aload_n 0, 1) := by decide +kernel
theorem dX10_edition_1 : decode cX10_edition 1 = .ok (.iconst 0, 1) := by decide +kernel
theorem dX10_edition_2 : decode cX10_edition 2 = .ok (.putfield 1, 3) := by decide +kernel
theorem dX10_edition_5 : decode cX10_edition 5 = .ok (.aload_n 0, 1) := by decide +kernel
theorem dX10_edition_6 : decode cX10_edition 6 = .ok (.getfield 312, 3) := by decide +kernel
theorem dX10_edition_9 : decode cX10_edition 9 = .ok (.bipush 10, 2) := by decide +kernel
theorem dX10_edition_11 : decode cX10_edition 11 = .ok (.if_icmp .ne 5, 3) := by decide +kernel
theorem dX10_edition_14 : decode cX10_edition 14 = .ok (.iconst (-1), 1) := by decide +kernel
theorem dX10_edition_15 : decode cX10_edition 15 = .ok (.ireturn, 1) := by decide +kernel
theorem dX10_edition_16 : decode cX10_edition 16 = .ok (.iconst 0, 1) := by decide +kernel
theorem dX10_edition_17 : decode cX10_edition 17 = .ok (.istore_n 1, 1) := by decide +kernel
theorem dX10_edition_18 : decode cX10_edition 18 = .ok (.iload_n 1, 1) := by decide +kernel
theorem dX10_edition_19 : decode cX10_edition 19 = .ok (.bipush 60, 2) := by decide +kernel
theorem dX10_edition_21 : decode cX10_edition 21 = .ok (.if_icmp .ge 55, 3) := by decide +kernel
theorem dX10_edition_24 : decode cX10_edition 24 = .ok (.aload_n 0, 1) := by decide +kernel
theorem dX10_edition_25 : decode cX10_edition 25 = .ok (.getfield 143, 3) := by decide +kernel
theorem dX10_edition_28 : decode cX10_edition 28 = .ok (.bipush 60, 2) := by decide +kernel
theorem dX10_edition_30 : decode cX10_edition 30 = .ok (.aload_n 0, 1) := by decide +kernel
theorem dX10_edition_31 : decode cX10_edition 31 = .ok (.getfield 312, 3) := by decide +kernel
theorem dX10_edition_34 : decode cX10_edition 34 = .ok (.imul, 1) := by decide +kernel
theorem dX10_edition_35 : decode cX10_edition 35 = .ok (.iload_n 1, 1) := by decide +kernel
theorem dX10_edition_36 : decode cX10_edition 36 = .ok (.iadd, 1) := by decide +kernel
theorem dX10_edition_37 : decode cX10_edition 37 = .ok (.iload_n 1, 1) := by decide +kernel
theorem dX10_edition_38 : decode cX10_edition 38 = .ok (.aload_n 0, 1) := by decide +kernel
theorem dX10_edition_39 : decode cX10_edition 39 = .ok (.getfield 250, 3) := by decide +kernel
theorem dX10_edition_42 : decode cX10_edition 42 = .ok (.if_icmp .ge 11, 3) := by decide +kernel
theorem dX10_edition_45 : decode cX10_edition 45 = .ok (.aload_n 0, 1) := by decide +kernel
theorem dX10_edition_46 : decode cX10_edition 46 = .ok (.iload_n 1, 1) := by decide +kernel
theorem dX10_edition_47 : decode cX10_edition 47 = .ok (.invokevirtual 291, 3) := by decide +kernel
theorem dX10_edition_50 : decode cX10_edition 50 = .ok (.goto 4, 3) := by decide +kernel
theorem dX10_edition_53 : decode cX10_edition 53 = .ok (.iconst (-1), 1) := by decide +kernel
theorem dX10_edition_54 : decode cX10_edition 54 = .ok (.iastore, 1) := by decide +kernel
theorem dX10_edition_55 : decode cX10_edition 55 = .ok (.aload_n 0, 1) := by decide +kernel
theorem dX10_edition_56 : decode cX10_edition 56 = .ok (.getfield 146, 3) := by decide +kernel
theorem dX10_edition_59 : decode cX10_edition 59 = .ok (.bipush 60, 2) := by decide +kernel
theorem dX10_edition_61 : decode cX10_edition 61 = .ok (.aload_n 0, 1) := by decide +kernel
theorem dX10_edition_62 : decode cX10_edition 62 = .ok (.getfield 312, 3) := by decide +kernel
theorem dX10_edition_65 : decode cX10_edition 65 = .ok (.imul, 1) := by decide +kernel
theorem dX10_edition_66 : decode cX10_edition 66 = .ok (.iload_n 1, 1) := by decide +kernel
theorem dX10_edition_67 : decode cX10_edition 67 = .ok (.iadd, 1) := by decide +kernel
theorem dX10_edition_68 : decode cX10_edition 68 = .ok (.iconst 0, 1) := by decide +kernel
theorem dX10_edition_69 : decode cX10_edition 69 = .ok (.iastore, 1) := by decide +kernel
theorem dX10_edition_70 : decode cX10_edition 70 = .ok (.iinc 1 1, 3) := by decide +kernel
theorem dX10_edition_73 : decode cX10_edition 73 = .ok (.goto (-55), 3) := by decide +kernel
theorem dX10_edition_76 : decode cX10_edition 76 = .ok (.iconst 0, 1) := by decide +kernel
theorem dX10_edition_77 : decode cX10_edition 77 = .ok (.istore_n 1, 1) := by decide +kernel
theorem dX10_edition_78 : decode cX10_edition 78 = .ok (.iload_n 1, 1) := by decide +kernel
theorem dX10_edition_79 : decode cX10_edition 79 = .ok (.bipush 10, 2) := by decide +kernel
theorem dX10_edition_81 : decode cX10_edition 81 = .ok (.if_icmp .ge 28, 3) := by decide +kernel
theorem dX10_edition_84 : decode cX10_edition 84 = .ok (.aload_n 0, 1) := by decide +kernel
theorem dX10_edition_85 : decode cX10_edition 85 = .ok (.getfield 149, 3) := by decide +kernel
theorem dX10_edition_88 : decode cX10_edition 88 = .ok (.bipush 10, 2) := by decide +kernel
theorem dX10_edition_90 : decode cX10_edition 90 = .ok (.aload_n 0, 1) := by decide +kernel
theorem dX10_edition_91 : decode cX10_edition 91 = .ok (.getfield 312, 3) := by decide +kernel
theorem dX10_edition_94 : decode cX10_edition 94 = .ok (.imul, 1) := by decide +kernel
theorem dX10_edition_95 : decode cX10_edition 95 = .ok (.iload_n 1, 1) := by decide +kernel
theorem dX10_edition_96 : decode cX10_edition 96 = .ok (.iadd, 1) := by decide +kernel
theorem dX10_edition_97 : decode cX10_edition 97 = .ok (.aload_n 0, 1) := by decide +kernel
theorem dX10_edition_98 : decode cX10_edition 98 = .ok (.iload_n 1, 1) := by decide +kernel
theorem dX10_edition_99 : decode cX10_edition 99 = .ok (.invokevirtual 300, 3) := by decide +kernel
theorem dX10_edition_102 : decode cX10_edition 102 = .ok (.iastore, 1) := by decide +kernel
theorem dX10_edition_103 : decode cX10_edition 103 = .ok (.iinc 1 1, 3) := by decide +kernel
theorem dX10_edition_106 : decode cX10_edition 106 = .ok (.goto (-28), 3) := by decide +kernel
theorem dX10_edition_109 : decode cX10_edition 109 = .ok (.aload_n 0, 1) := by decide +kernel
theorem dX10_edition_110 : decode cX10_edition 110 = .ok (.dup, 1) := by decide +kernel
theorem dX10_edition_111 : decode cX10_edition 111 = .ok (.getfield 312, 3) := by decide +kernel
theorem dX10_edition_114 : decode cX10_edition 114 = .ok (.iconst 1, 1) := by decide +kernel
theorem dX10_edition_115 : decode cX10_edition 115 = .ok (.iadd, 1) := by decide +kernel
theorem dX10_edition_116 : decode cX10_edition 116 = .ok (.putfield 312, 3) := by decide +kernel
theorem dX10_edition_119 : decode cX10_edition 119 = .ok (.aload_n 0, 1) := by decide +kernel
theorem dX10_edition_120 : decode cX10_edition 120 = .ok (.getfield 312, 3) := by decide +kernel
theorem dX10_edition_123 : decode cX10_edition 123 = .ok (.iconst 1, 1) := by decide +kernel
theorem dX10_edition_124 : decode cX10_edition 124 = .ok (.isub, 1) := by decide +kernel
theorem dX10_edition_125 : decode cX10_edition 125 = .ok (.ireturn, 1) := by decide +kernel
theorem dX10_proves_0 : decode cX10_proves 0 = .ok (.iconst 0, 1) := by decide +kernel
theorem dX10_proves_1 : decode cX10_proves 1 = .ok (.istore_n 3, 1) := by decide +kernel
theorem dX10_proves_2 : decode cX10_proves 2 = .ok (.iload_n 3, 1) := by decide +kernel
theorem dX10_proves_3 : decode cX10_proves 3 = .ok (.aload_n 0, 1) := by decide +kernel
theorem dX10_proves_4 : decode cX10_proves 4 = .ok (.getfield 312, 3) := by decide +kernel
theorem dX10_proves_7 : decode cX10_proves 7 = .ok (.if_icmp .ge 70, 3) := by decide +kernel
theorem dX10_proves_10 : decode cX10_proves 10 = .ok (.bipush 60, 2) := by decide +kernel
theorem dX10_proves_12 : decode cX10_proves 12 = .ok (.iload_n 3, 1) := by decide +kernel
theorem dX10_proves_13 : decode cX10_proves 13 = .ok (.imul, 1) := by decide +kernel
theorem dX10_proves_14 : decode cX10_proves 14 = .ok (.iload_n 1, 1) := by decide +kernel
theorem dX10_proves_15 : decode cX10_proves 15 = .ok (.iadd, 1) := by decide +kernel
theorem dX10_proves_16 : decode cX10_proves 16 = .ok (.istore 4, 2) := by decide +kernel
theorem dX10_proves_18 : decode cX10_proves 18 = .ok (.aload_n 0, 1) := by decide +kernel
theorem dX10_proves_19 : decode cX10_proves 19 = .ok (.getfield 146, 3) := by decide +kernel
theorem dX10_proves_22 : decode cX10_proves 22 = .ok (.iload 4, 2) := by decide +kernel
theorem dX10_proves_24 : decode cX10_proves 24 = .ok (.aload_n 0, 1) := by decide +kernel
theorem dX10_proves_25 : decode cX10_proves 25 = .ok (.getfield 143, 3) := by decide +kernel
theorem dX10_proves_28 : decode cX10_proves 28 = .ok (.iload 4, 2) := by decide +kernel
theorem dX10_proves_30 : decode cX10_proves 30 = .ok (.iaload, 1) := by decide +kernel
theorem dX10_proves_31 : decode cX10_proves 31 = .ok (.ifCond .lt 13, 3) := by decide +kernel
theorem dX10_proves_34 : decode cX10_proves 34 = .ok (.aload_n 0, 1) := by decide +kernel
theorem dX10_proves_35 : decode cX10_proves 35 = .ok (.getfield 146, 3) := by decide +kernel
theorem dX10_proves_38 : decode cX10_proves 38 = .ok (.iload 4, 2) := by decide +kernel
theorem dX10_proves_40 : decode cX10_proves 40 = .ok (.iaload, 1) := by decide +kernel
theorem dX10_proves_41 : decode cX10_proves 41 = .ok (.ifCond .le 13, 3) := by decide +kernel
theorem dX10_proves_44 : decode cX10_proves 44 = .ok (.aload_n 0, 1) := by decide +kernel
theorem dX10_proves_45 : decode cX10_proves 45 = .ok (.getfield 146, 3) := by decide +kernel
theorem dX10_proves_48 : decode cX10_proves 48 = .ok (.iload 4, 2) := by decide +kernel
theorem dX10_proves_50 : decode cX10_proves 50 = .ok (.iaload, 1) := by decide +kernel
theorem dX10_proves_51 : decode cX10_proves 51 = .ok (.goto 19, 3) := by decide +kernel
theorem dX10_proves_54 : decode cX10_proves 54 = .ok (.aload_n 0, 1) := by decide +kernel
theorem dX10_proves_55 : decode cX10_proves 55 = .ok (.getfield 143, 3) := by decide +kernel
theorem dX10_proves_58 : decode cX10_proves 58 = .ok (.iload 4, 2) := by decide +kernel
theorem dX10_proves_60 : decode cX10_proves 60 = .ok (.iaload, 1) := by decide +kernel
theorem dX10_proves_61 : decode cX10_proves 61 = .ok (.iload_n 2, 1) := by decide +kernel
theorem dX10_proves_62 : decode cX10_proves 62 = .ok (.if_icmp .ne 7, 3) := by decide +kernel
theorem dX10_proves_65 : decode cX10_proves 65 = .ok (.iconst 1, 1) := by decide +kernel
theorem dX10_proves_66 : decode cX10_proves 66 = .ok (.goto 4, 3) := by decide +kernel
theorem dX10_proves_69 : decode cX10_proves 69 = .ok (.iconst 2, 1) := by decide +kernel
theorem dX10_proves_70 : decode cX10_proves 70 = .ok (.iastore, 1) := by decide +kernel
theorem dX10_proves_71 : decode cX10_proves 71 = .ok (.iinc 3 1, 3) := by decide +kernel
theorem dX10_proves_74 : decode cX10_proves 74 = .ok (.goto (-72), 3) := by decide +kernel
theorem dX10_proves_77 : decode cX10_proves 77 = .ok (.return_, 1) := by decide +kernel
theorem dX10_printed_0 : decode cX10_printed 0 = .ok (.aload_n 0, 1) := by decide +kernel
theorem dX10_printed_1 : decode cX10_printed 1 = .ok (.iconst 0, 1) := by decide +kernel
theorem dX10_printed_2 : decode cX10_printed 2 = .ok (.putfield 1, 3) := by decide +kernel
theorem dX10_printed_5 : decode cX10_printed 5 = .ok (.iload_n 1, 1) := by decide +kernel
theorem dX10_printed_6 : decode cX10_printed 6 = .ok (.ifCond .lt 39, 3) := by decide +kernel
theorem dX10_printed_9 : decode cX10_printed 9 = .ok (.iload_n 1, 1) := by decide +kernel
theorem dX10_printed_10 : decode cX10_printed 10 = .ok (.aload_n 0, 1) := by decide +kernel
theorem dX10_printed_11 : decode cX10_printed 11 = .ok (.getfield 312, 3) := by decide +kernel
theorem dX10_printed_14 : decode cX10_printed 14 = .ok (.if_icmp .ge 31, 3) := by decide +kernel
theorem dX10_printed_17 : decode cX10_printed 17 = .ok (.iload_n 2, 1) := by decide +kernel
theorem dX10_printed_18 : decode cX10_printed 18 = .ok (.ifCond .lt 27, 3) := by decide +kernel
theorem dX10_printed_21 : decode cX10_printed 21 = .ok (.iload_n 2, 1) := by decide +kernel
theorem dX10_printed_22 : decode cX10_printed 22 = .ok (.iconst 1, 1) := by decide +kernel
theorem dX10_printed_23 : decode cX10_printed 23 = .ok (.if_icmp .gt 22, 3) := by decide +kernel
theorem dX10_printed_26 : decode cX10_printed 26 = .ok (.iload_n 3, 1) := by decide +kernel
theorem dX10_printed_27 : decode cX10_printed 27 = .ok (.ifCond .lt 18, 3) := by decide +kernel
theorem dX10_printed_30 : decode cX10_printed 30 = .ok (.iload_n 3, 1) := by decide +kernel
theorem dX10_printed_31 : decode cX10_printed 31 = .ok (.iload_n 2, 1) := by decide +kernel
theorem dX10_printed_32 : decode cX10_printed 32 = .ok (.ifCond .ne 8, 3) := by decide +kernel
theorem dX10_printed_35 : decode cX10_printed 35 = .ok (.bipush 60, 2) := by decide +kernel
theorem dX10_printed_37 : decode cX10_printed 37 = .ok (.goto 5, 3) := by decide +kernel
theorem dX10_printed_40 : decode cX10_printed 40 = .ok (.bipush 10, 2) := by decide +kernel
theorem dX10_printed_42 : decode cX10_printed 42 = .ok (.if_icmp .lt 5, 3) := by decide +kernel
theorem dX10_printed_45 : decode cX10_printed 45 = .ok (.iconst (-1), 1) := by decide +kernel
theorem dX10_printed_46 : decode cX10_printed 46 = .ok (.ireturn, 1) := by decide +kernel
theorem dX10_printed_47 : decode cX10_printed 47 = .ok (.iload_n 2, 1) := by decide +kernel
theorem dX10_printed_48 : decode cX10_printed 48 = .ok (.ifCond .ne 17, 3) := by decide +kernel
theorem dX10_printed_51 : decode cX10_printed 51 = .ok (.aload_n 0, 1) := by decide +kernel
theorem dX10_printed_52 : decode cX10_printed 52 = .ok (.getfield 143, 3) := by decide +kernel
theorem dX10_printed_55 : decode cX10_printed 55 = .ok (.bipush 60, 2) := by decide +kernel
theorem dX10_printed_57 : decode cX10_printed 57 = .ok (.iload_n 1, 1) := by decide +kernel
theorem dX10_printed_58 : decode cX10_printed 58 = .ok (.imul, 1) := by decide +kernel
theorem dX10_printed_59 : decode cX10_printed 59 = .ok (.iload_n 3, 1) := by decide +kernel
theorem dX10_printed_60 : decode cX10_printed 60 = .ok (.iadd, 1) := by decide +kernel
theorem dX10_printed_61 : decode cX10_printed 61 = .ok (.iaload, 1) := by decide +kernel
theorem dX10_printed_62 : decode cX10_printed 62 = .ok (.goto 14, 3) := by decide +kernel
theorem dX10_printed_65 : decode cX10_printed 65 = .ok (.aload_n 0, 1) := by decide +kernel
theorem dX10_printed_66 : decode cX10_printed 66 = .ok (.getfield 149, 3) := by decide +kernel
theorem dX10_printed_69 : decode cX10_printed 69 = .ok (.bipush 10, 2) := by decide +kernel
theorem dX10_printed_71 : decode cX10_printed 71 = .ok (.iload_n 1, 1) := by decide +kernel
theorem dX10_printed_72 : decode cX10_printed 72 = .ok (.imul, 1) := by decide +kernel
theorem dX10_printed_73 : decode cX10_printed 73 = .ok (.iload_n 3, 1) := by decide +kernel
theorem dX10_printed_74 : decode cX10_printed 74 = .ok (.iadd, 1) := by decide +kernel
theorem dX10_printed_75 : decode cX10_printed 75 = .ok (.iaload, 1) := by decide +kernel
theorem dX10_printed_76 : decode cX10_printed 76 = .ok (.ireturn, 1) := by decide +kernel
theorem dX10_errors_0 : decode cX10_errors 0 = .ok (.aload_n 0, 1) := by decide +kernel
theorem dX10_errors_1 : decode cX10_errors 1 = .ok (.iconst 0, 1) := by decide +kernel
theorem dX10_errors_2 : decode cX10_errors 2 = .ok (.putfield 1, 3) := by decide +kernel
theorem dX10_errors_5 : decode cX10_errors 5 = .ok (.iload_n 1, 1) := by decide +kernel
theorem dX10_errors_6 : decode cX10_errors 6 = .ok (.ifCond .lt 21, 3) := by decide +kernel
theorem dX10_errors_9 : decode cX10_errors 9 = .ok (.iload_n 1, 1) := by decide +kernel
theorem dX10_errors_10 : decode cX10_errors 10 = .ok (.aload_n 0, 1) := by decide +kernel
theorem dX10_errors_11 : decode cX10_errors 11 = .ok (.getfield 312, 3) := by decide +kernel
theorem dX10_errors_14 : decode cX10_errors 14 = .ok (.if_icmp .ge 13, 3) := by decide +kernel
theorem dX10_errors_17 : decode cX10_errors 17 = .ok (.iload_n 2, 1) := by decide +kernel
theorem dX10_errors_18 : decode cX10_errors 18 = .ok (.iconst (-1), 1) := by decide +kernel
theorem dX10_errors_19 : decode cX10_errors 19 = .ok (.if_icmp .lt 8, 3) := by decide +kernel
theorem dX10_errors_22 : decode cX10_errors 22 = .ok (.iload_n 2, 1) := by decide +kernel
theorem dX10_errors_23 : decode cX10_errors 23 = .ok (.iconst 5, 1) := by decide +kernel
theorem dX10_errors_24 : decode cX10_errors 24 = .ok (.if_icmp .le 5, 3) := by decide +kernel
theorem dX10_errors_27 : decode cX10_errors 27 = .ok (.iconst (-1), 1) := by decide +kernel
theorem dX10_errors_28 : decode cX10_errors 28 = .ok (.ireturn, 1) := by decide +kernel
theorem dX10_errors_29 : decode cX10_errors 29 = .ok (.iconst 0, 1) := by decide +kernel
theorem dX10_errors_30 : decode cX10_errors 30 = .ok (.istore_n 3, 1) := by decide +kernel
theorem dX10_errors_31 : decode cX10_errors 31 = .ok (.iconst 0, 1) := by decide +kernel
theorem dX10_errors_32 : decode cX10_errors 32 = .ok (.istore 4, 2) := by decide +kernel
theorem dX10_errors_34 : decode cX10_errors 34 = .ok (.iload 4, 2) := by decide +kernel
theorem dX10_errors_36 : decode cX10_errors 36 = .ok (.bipush 60, 2) := by decide +kernel
theorem dX10_errors_38 : decode cX10_errors 38 = .ok (.if_icmp .ge 48, 3) := by decide +kernel
theorem dX10_errors_41 : decode cX10_errors 41 = .ok (.iload_n 3, 1) := by decide +kernel
theorem dX10_errors_42 : decode cX10_errors 42 = .ok (.aload_n 0, 1) := by decide +kernel
theorem dX10_errors_43 : decode cX10_errors 43 = .ok (.getfield 146, 3) := by decide +kernel
theorem dX10_errors_46 : decode cX10_errors 46 = .ok (.bipush 60, 2) := by decide +kernel
theorem dX10_errors_48 : decode cX10_errors 48 = .ok (.iload_n 1, 1) := by decide +kernel
theorem dX10_errors_49 : decode cX10_errors 49 = .ok (.imul, 1) := by decide +kernel
theorem dX10_errors_50 : decode cX10_errors 50 = .ok (.iload 4, 2) := by decide +kernel
theorem dX10_errors_52 : decode cX10_errors 52 = .ok (.iadd, 1) := by decide +kernel
theorem dX10_errors_53 : decode cX10_errors 53 = .ok (.iaload, 1) := by decide +kernel
theorem dX10_errors_54 : decode cX10_errors 54 = .ok (.iconst 2, 1) := by decide +kernel
theorem dX10_errors_55 : decode cX10_errors 55 = .ok (.if_icmp .ne 22, 3) := by decide +kernel
theorem dX10_errors_58 : decode cX10_errors 58 = .ok (.iload_n 2, 1) := by decide +kernel
theorem dX10_errors_59 : decode cX10_errors 59 = .ok (.ifCond .lt 14, 3) := by decide +kernel
theorem dX10_errors_62 : decode cX10_errors 62 = .ok (.aload_n 0, 1) := by decide +kernel
theorem dX10_errors_63 : decode cX10_errors 63 = .ok (.getfield 85, 3) := by decide +kernel
theorem dX10_errors_66 : decode cX10_errors 66 = .ok (.iload 4, 2) := by decide +kernel
theorem dX10_errors_68 : decode cX10_errors 68 = .ok (.iaload, 1) := by decide +kernel
theorem dX10_errors_69 : decode cX10_errors 69 = .ok (.iload_n 2, 1) := by decide +kernel
theorem dX10_errors_70 : decode cX10_errors 70 = .ok (.if_icmp .ne 7, 3) := by decide +kernel
theorem dX10_errors_73 : decode cX10_errors 73 = .ok (.iconst 1, 1) := by decide +kernel
theorem dX10_errors_74 : decode cX10_errors 74 = .ok (.goto 4, 3) := by decide +kernel
theorem dX10_errors_77 : decode cX10_errors 77 = .ok (.iconst 0, 1) := by decide +kernel
theorem dX10_errors_78 : decode cX10_errors 78 = .ok (.iadd, 1) := by decide +kernel
theorem dX10_errors_79 : decode cX10_errors 79 = .ok (.istore_n 3, 1) := by decide +kernel
theorem dX10_errors_80 : decode cX10_errors 80 = .ok (.iinc 4 1, 3) := by decide +kernel
theorem dX10_errors_83 : decode cX10_errors 83 = .ok (.goto (-49), 3) := by decide +kernel
theorem dX10_errors_86 : decode cX10_errors 86 = .ok (.iload_n 3, 1) := by decide +kernel
theorem dX10_errors_87 : decode cX10_errors 87 = .ok (.ireturn, 1) := by decide +kernel
theorem dX10_count_0 : decode cX10_count 0 = .ok (.aload_n 0, 1) := by decide +kernel
theorem dX10_count_1 : decode cX10_count 1 = .ok (.iconst 0, 1) := by decide +kernel
theorem dX10_count_2 : decode cX10_count 2 = .ok (.putfield 1, 3) := by decide +kernel
theorem dX10_count_5 : decode cX10_count 5 = .ok (.iconst 0, 1) := by decide +kernel
theorem dX10_count_6 : decode cX10_count 6 = .ok (.istore_n 2, 1) := by decide +kernel
theorem dX10_count_7 : decode cX10_count 7 = .ok (.iconst 0, 1) := by decide +kernel
theorem dX10_count_8 : decode cX10_count 8 = .ok (.istore_n 3, 1) := by decide +kernel
theorem dX10_count_9 : decode cX10_count 9 = .ok (.iload_n 3, 1) := by decide +kernel
theorem dX10_count_10 : decode cX10_count 10 = .ok (.aload_n 0, 1) := by decide +kernel
theorem dX10_count_11 : decode cX10_count 11 = .ok (.getfield 264, 3) := by decide +kernel
theorem dX10_count_14 : decode cX10_count 14 = .ok (.if_icmp .ge 26, 3) := by decide +kernel
theorem dX10_count_17 : decode cX10_count 17 = .ok (.iload_n 2, 1) := by decide +kernel
theorem dX10_count_18 : decode cX10_count 18 = .ok (.aload_n 0, 1) := by decide +kernel
theorem dX10_count_19 : decode cX10_count 19 = .ok (.getfield 124, 3) := by decide +kernel
theorem dX10_count_22 : decode cX10_count 22 = .ok (.iload_n 3, 1) := by decide +kernel
theorem dX10_count_23 : decode cX10_count 23 = .ok (.iaload, 1) := by decide +kernel
theorem dX10_count_24 : decode cX10_count 24 = .ok (.ifCond .ne 7, 3) := by decide +kernel
theorem dX10_count_27 : decode cX10_count 27 = .ok (.iconst 1, 1) := by decide +kernel
theorem dX10_count_28 : decode cX10_count 28 = .ok (.goto 4, 3) := by decide +kernel
theorem dX10_count_31 : decode cX10_count 31 = .ok (.iconst 0, 1) := by decide +kernel
theorem dX10_count_32 : decode cX10_count 32 = .ok (.iadd, 1) := by decide +kernel
theorem dX10_count_33 : decode cX10_count 33 = .ok (.istore_n 2, 1) := by decide +kernel
theorem dX10_count_34 : decode cX10_count 34 = .ok (.iinc 3 1, 3) := by decide +kernel
theorem dX10_count_37 : decode cX10_count 37 = .ok (.goto (-28), 3) := by decide +kernel
theorem dX10_count_40 : decode cX10_count 40 = .ok (.iload_n 1, 1) := by decide +kernel
theorem dX10_count_41 : decode cX10_count 41 = .ok (.ifCond .ne 10, 3) := by decide +kernel
theorem dX10_count_44 : decode cX10_count 44 = .ok (.aload_n 0, 1) := by decide +kernel
theorem dX10_count_45 : decode cX10_count 45 = .ok (.getfield 250, 3) := by decide +kernel
theorem dX10_count_48 : decode cX10_count 48 = .ok (.goto 79, 3) := by decide +kernel
theorem dX10_count_51 : decode cX10_count 51 = .ok (.iload_n 1, 1) := by decide +kernel
theorem dX10_count_52 : decode cX10_count 52 = .ok (.iconst 1, 1) := by decide +kernel
theorem dX10_count_53 : decode cX10_count 53 = .ok (.if_icmp .ne 10, 3) := by decide +kernel
theorem dX10_count_56 : decode cX10_count 56 = .ok (.aload_n 0, 1) := by decide +kernel
theorem dX10_count_57 : decode cX10_count 57 = .ok (.getfield 241, 3) := by decide +kernel
theorem dX10_count_60 : decode cX10_count 60 = .ok (.goto 67, 3) := by decide +kernel
theorem dX10_count_63 : decode cX10_count 63 = .ok (.iload_n 1, 1) := by decide +kernel
theorem dX10_count_64 : decode cX10_count 64 = .ok (.iconst 2, 1) := by decide +kernel
theorem dX10_count_65 : decode cX10_count 65 = .ok (.if_icmp .ne 10, 3) := by decide +kernel
theorem dX10_count_68 : decode cX10_count 68 = .ok (.aload_n 0, 1) := by decide +kernel
theorem dX10_count_69 : decode cX10_count 69 = .ok (.getfield 264, 3) := by decide +kernel
theorem dX10_count_72 : decode cX10_count 72 = .ok (.goto 55, 3) := by decide +kernel
theorem dX10_count_75 : decode cX10_count 75 = .ok (.iload_n 1, 1) := by decide +kernel
theorem dX10_count_76 : decode cX10_count 76 = .ok (.iconst 3, 1) := by decide +kernel
theorem dX10_count_77 : decode cX10_count 77 = .ok (.if_icmp .ne 7, 3) := by decide +kernel
theorem dX10_count_80 : decode cX10_count 80 = .ok (.iload_n 2, 1) := by decide +kernel
theorem dX10_count_81 : decode cX10_count 81 = .ok (.goto 46, 3) := by decide +kernel
theorem dX10_count_84 : decode cX10_count 84 = .ok (.iload_n 1, 1) := by decide +kernel
theorem dX10_count_85 : decode cX10_count 85 = .ok (.iconst 4, 1) := by decide +kernel
theorem dX10_count_86 : decode cX10_count 86 = .ok (.if_icmp .ne 10, 3) := by decide +kernel
theorem dX10_count_89 : decode cX10_count 89 = .ok (.aload_n 0, 1) := by decide +kernel
theorem dX10_count_90 : decode cX10_count 90 = .ok (.getfield 312, 3) := by decide +kernel
theorem dX10_count_93 : decode cX10_count 93 = .ok (.goto 34, 3) := by decide +kernel
theorem dX10_count_96 : decode cX10_count 96 = .ok (.iload_n 1, 1) := by decide +kernel
theorem dX10_count_97 : decode cX10_count 97 = .ok (.iconst 5, 1) := by decide +kernel
theorem dX10_count_98 : decode cX10_count 98 = .ok (.if_icmp .ne 15, 3) := by decide +kernel
theorem dX10_count_101 : decode cX10_count 101 = .ok (.aload_n 0, 1) := by decide +kernel
theorem dX10_count_102 : decode cX10_count 102 = .ok (.getfield 55, 3) := by decide +kernel
theorem dX10_count_105 : decode cX10_count 105 = .ok (.aload_n 0, 1) := by decide +kernel
theorem dX10_count_106 : decode cX10_count 106 = .ok (.getfield 203, 3) := by decide +kernel
theorem dX10_count_109 : decode cX10_count 109 = .ok (.iaload, 1) := by decide +kernel
theorem dX10_count_110 : decode cX10_count 110 = .ok (.goto 17, 3) := by decide +kernel
theorem dX10_count_113 : decode cX10_count 113 = .ok (.iload_n 1, 1) := by decide +kernel
theorem dX10_count_114 : decode cX10_count 114 = .ok (.bipush 6, 2) := by decide +kernel
theorem dX10_count_116 : decode cX10_count 116 = .ok (.if_icmp .ne 10, 3) := by decide +kernel
theorem dX10_count_119 : decode cX10_count 119 = .ok (.aload_n 0, 1) := by decide +kernel
theorem dX10_count_120 : decode cX10_count 120 = .ok (.getfield 11, 3) := by decide +kernel
theorem dX10_count_123 : decode cX10_count 123 = .ok (.goto 4, 3) := by decide +kernel
theorem dX10_count_126 : decode cX10_count 126 = .ok (.iconst (-1), 1) := by decide +kernel
theorem dX10_count_127 : decode cX10_count 127 = .ok (.ireturn, 1) := by decide +kernel
theorem dX10_look_0 : decode cX10_look 0 = .ok (.aload_n 0, 1) := by decide +kernel
theorem dX10_look_1 : decode cX10_look 1 = .ok (.aload_n 0, 1) := by decide +kernel
theorem dX10_look_2 : decode cX10_look 2 = .ok (.iload_n 1, 1) := by decide +kernel
theorem dX10_look_3 : decode cX10_look 3 = .ok (.invokevirtual 253, 3) := by decide +kernel
theorem dX10_look_6 : decode cX10_look 6 = .ok (.ifCond .eq 16, 3) := by decide +kernel
theorem dX10_look_9 : decode cX10_look 9 = .ok (.iload_n 2, 1) := by decide +kernel
theorem dX10_look_10 : decode cX10_look 10 = .ok (.ifCond .lt 12, 3) := by decide +kernel
theorem dX10_look_13 : decode cX10_look 13 = .ok (.iload_n 2, 1) := by decide +kernel
theorem dX10_look_14 : decode cX10_look 14 = .ok (.iconst 5, 1) := by decide +kernel
theorem dX10_look_15 : decode cX10_look 15 = .ok (.if_icmp .gt 7, 3) := by decide +kernel
theorem dX10_look_18 : decode cX10_look 18 = .ok (.iconst 0, 1) := by decide +kernel
theorem dX10_look_19 : decode cX10_look 19 = .ok (.goto 4, 3) := by decide +kernel
theorem dX10_look_22 : decode cX10_look 22 = .ok (.iconst 1, 1) := by decide +kernel
theorem dX10_look_23 : decode cX10_look 23 = .ok (.putfield 1, 3) := by decide +kernel
theorem dX10_look_26 : decode cX10_look 26 = .ok (.aload_n 0, 1) := by decide +kernel
theorem dX10_look_27 : decode cX10_look 27 = .ok (.getfield 1, 3) := by decide +kernel
theorem dX10_look_30 : decode cX10_look 30 = .ok (.ifCond .le 5, 3) := by decide +kernel
theorem dX10_look_33 : decode cX10_look 33 = .ok (.iconst 0, 1) := by decide +kernel
theorem dX10_look_34 : decode cX10_look 34 = .ok (.ireturn, 1) := by decide +kernel
theorem dX10_look_35 : decode cX10_look 35 = .ok (.iload_n 2, 1) := by decide +kernel
theorem dX10_look_36 : decode cX10_look 36 = .ok (.ifCond .ne 12, 3) := by decide +kernel
theorem dX10_look_39 : decode cX10_look 39 = .ok (.aload_n 0, 1) := by decide +kernel
theorem dX10_look_40 : decode cX10_look 40 = .ok (.getfield 85, 3) := by decide +kernel
theorem dX10_look_43 : decode cX10_look 43 = .ok (.iload_n 1, 1) := by decide +kernel
theorem dX10_look_44 : decode cX10_look 44 = .ok (.iaload, 1) := by decide +kernel
theorem dX10_look_45 : decode cX10_look 45 = .ok (.goto 65, 3) := by decide +kernel
theorem dX10_look_48 : decode cX10_look 48 = .ok (.iload_n 2, 1) := by decide +kernel
theorem dX10_look_49 : decode cX10_look 49 = .ok (.iconst 1, 1) := by decide +kernel
theorem dX10_look_50 : decode cX10_look 50 = .ok (.if_icmp .ne 12, 3) := by decide +kernel
theorem dX10_look_53 : decode cX10_look 53 = .ok (.aload_n 0, 1) := by decide +kernel
theorem dX10_look_54 : decode cX10_look 54 = .ok (.getfield 88, 3) := by decide +kernel
theorem dX10_look_57 : decode cX10_look 57 = .ok (.iload_n 1, 1) := by decide +kernel
theorem dX10_look_58 : decode cX10_look 58 = .ok (.iaload, 1) := by decide +kernel
theorem dX10_look_59 : decode cX10_look 59 = .ok (.goto 51, 3) := by decide +kernel
theorem dX10_look_62 : decode cX10_look 62 = .ok (.iload_n 2, 1) := by decide +kernel
theorem dX10_look_63 : decode cX10_look 63 = .ok (.iconst 2, 1) := by decide +kernel
theorem dX10_look_64 : decode cX10_look 64 = .ok (.if_icmp .ne 12, 3) := by decide +kernel
theorem dX10_look_67 : decode cX10_look 67 = .ok (.aload_n 0, 1) := by decide +kernel
theorem dX10_look_68 : decode cX10_look 68 = .ok (.getfield 91, 3) := by decide +kernel
theorem dX10_look_71 : decode cX10_look 71 = .ok (.iload_n 1, 1) := by decide +kernel
theorem dX10_look_72 : decode cX10_look 72 = .ok (.iaload, 1) := by decide +kernel
theorem dX10_look_73 : decode cX10_look 73 = .ok (.goto 37, 3) := by decide +kernel
theorem dX10_look_76 : decode cX10_look 76 = .ok (.iload_n 2, 1) := by decide +kernel
theorem dX10_look_77 : decode cX10_look 77 = .ok (.iconst 3, 1) := by decide +kernel
theorem dX10_look_78 : decode cX10_look 78 = .ok (.if_icmp .ne 12, 3) := by decide +kernel
theorem dX10_look_81 : decode cX10_look 81 = .ok (.aload_n 0, 1) := by decide +kernel
theorem dX10_look_82 : decode cX10_look 82 = .ok (.getfield 94, 3) := by decide +kernel
theorem dX10_look_85 : decode cX10_look 85 = .ok (.iload_n 1, 1) := by decide +kernel
theorem dX10_look_86 : decode cX10_look 86 = .ok (.iaload, 1) := by decide +kernel
theorem dX10_look_87 : decode cX10_look 87 = .ok (.goto 23, 3) := by decide +kernel
theorem dX10_look_90 : decode cX10_look 90 = .ok (.iload_n 2, 1) := by decide +kernel
theorem dX10_look_91 : decode cX10_look 91 = .ok (.iconst 4, 1) := by decide +kernel
theorem dX10_look_92 : decode cX10_look 92 = .ok (.if_icmp .ne 12, 3) := by decide +kernel
theorem dX10_look_95 : decode cX10_look 95 = .ok (.aload_n 0, 1) := by decide +kernel
theorem dX10_look_96 : decode cX10_look 96 = .ok (.getfield 97, 3) := by decide +kernel
theorem dX10_look_99 : decode cX10_look 99 = .ok (.iload_n 1, 1) := by decide +kernel
theorem dX10_look_100 : decode cX10_look 100 = .ok (.iaload, 1) := by decide +kernel
theorem dX10_look_101 : decode cX10_look 101 = .ok (.goto 9, 3) := by decide +kernel
theorem dX10_look_104 : decode cX10_look 104 = .ok (.aload_n 0, 1) := by decide +kernel
theorem dX10_look_105 : decode cX10_look 105 = .ok (.getfield 100, 3) := by decide +kernel
theorem dX10_look_108 : decode cX10_look 108 = .ok (.iload_n 1, 1) := by decide +kernel
theorem dX10_look_109 : decode cX10_look 109 = .ok (.iaload, 1) := by decide +kernel
theorem dX10_look_110 : decode cX10_look 110 = .ok (.ireturn, 1) := by decide +kernel
theorem dJ13_bitCount_95d88_0 : decode cJ13_bitCount_95d88 0 = .ok (.lload_n 0, 1) := by decide +kernel
theorem dJ13_bitCount_95d88_1 : decode cJ13_bitCount_95d88 1 = .ok (.lload_n 0, 1) := by decide +kernel
theorem dJ13_bitCount_95d88_2 : decode cJ13_bitCount_95d88 2 = .ok (.iconst 1, 1) := by decide +kernel
theorem dJ13_bitCount_95d88_3 : decode cJ13_bitCount_95d88 3 = .ok (.lushr, 1) := by decide +kernel
theorem dJ13_bitCount_95d88_4 : decode cJ13_bitCount_95d88 4 = .ok (.ldc2_w 314, 3) := by decide +kernel
theorem dJ13_bitCount_95d88_7 : decode cJ13_bitCount_95d88 7 = .ok (.land, 1) := by decide +kernel
theorem dJ13_bitCount_95d88_8 : decode cJ13_bitCount_95d88 8 = .ok (.lsub, 1) := by decide +kernel
theorem dJ13_bitCount_95d88_9 : decode cJ13_bitCount_95d88 9 = .ok (.lstore_n 0, 1) := by decide +kernel
theorem dJ13_bitCount_95d88_10 : decode cJ13_bitCount_95d88 10 = .ok (.lload_n 0, 1) := by decide +kernel
theorem dJ13_bitCount_95d88_11 : decode cJ13_bitCount_95d88 11 = .ok (.ldc2_w 316, 3) := by decide +kernel
theorem dJ13_bitCount_95d88_14 : decode cJ13_bitCount_95d88 14 = .ok (.land, 1) := by decide +kernel
theorem dJ13_bitCount_95d88_15 : decode cJ13_bitCount_95d88 15 = .ok (.lload_n 0, 1) := by decide +kernel
theorem dJ13_bitCount_95d88_16 : decode cJ13_bitCount_95d88 16 = .ok (.iconst 2, 1) := by decide +kernel
theorem dJ13_bitCount_95d88_17 : decode cJ13_bitCount_95d88 17 = .ok (.lushr, 1) := by decide +kernel
theorem dJ13_bitCount_95d88_18 : decode cJ13_bitCount_95d88 18 = .ok (.ldc2_w 316, 3) := by decide +kernel
theorem dJ13_bitCount_95d88_21 : decode cJ13_bitCount_95d88 21 = .ok (.land, 1) := by decide +kernel
theorem dJ13_bitCount_95d88_22 : decode cJ13_bitCount_95d88 22 = .ok (.ladd, 1) := by decide +kernel
theorem dJ13_bitCount_95d88_23 : decode cJ13_bitCount_95d88 23 = .ok (.lstore_n 0, 1) := by decide +kernel
theorem dJ13_bitCount_95d88_24 : decode cJ13_bitCount_95d88 24 = .ok (.lload_n 0, 1) := by decide +kernel
theorem dJ13_bitCount_95d88_25 : decode cJ13_bitCount_95d88 25 = .ok (.lload_n 0, 1) := by decide +kernel
theorem dJ13_bitCount_95d88_26 : decode cJ13_bitCount_95d88 26 = .ok (.iconst 4, 1) := by decide +kernel
theorem dJ13_bitCount_95d88_27 : decode cJ13_bitCount_95d88 27 = .ok (.lushr, 1) := by decide +kernel
theorem dJ13_bitCount_95d88_28 : decode cJ13_bitCount_95d88 28 = .ok (.ladd, 1) := by decide +kernel
theorem dJ13_bitCount_95d88_29 : decode cJ13_bitCount_95d88 29 = .ok (.ldc2_w 318, 3) := by decide +kernel
theorem dJ13_bitCount_95d88_32 : decode cJ13_bitCount_95d88 32 = .ok (.land, 1) := by decide +kernel
theorem dJ13_bitCount_95d88_33 : decode cJ13_bitCount_95d88 33 = .ok (.lstore_n 0, 1) := by decide +kernel
theorem dJ13_bitCount_95d88_34 : decode cJ13_bitCount_95d88 34 = .ok (.lload_n 0, 1) := by decide +kernel
theorem dJ13_bitCount_95d88_35 : decode cJ13_bitCount_95d88 35 = .ok (.lload_n 0, 1) := by decide +kernel
theorem dJ13_bitCount_95d88_36 : decode cJ13_bitCount_95d88 36 = .ok (.bipush 8, 2) := by decide +kernel
theorem dJ13_bitCount_95d88_38 : decode cJ13_bitCount_95d88 38 = .ok (.lushr, 1) := by decide +kernel
theorem dJ13_bitCount_95d88_39 : decode cJ13_bitCount_95d88 39 = .ok (.ladd, 1) := by decide +kernel
theorem dJ13_bitCount_95d88_40 : decode cJ13_bitCount_95d88 40 = .ok (.lstore_n 0, 1) := by decide +kernel
theorem dJ13_bitCount_95d88_41 : decode cJ13_bitCount_95d88 41 = .ok (.lload_n 0, 1) := by decide +kernel
theorem dJ13_bitCount_95d88_42 : decode cJ13_bitCount_95d88 42 = .ok (.lload_n 0, 1) := by decide +kernel
theorem dJ13_bitCount_95d88_43 : decode cJ13_bitCount_95d88 43 = .ok (.bipush 16, 2) := by decide +kernel
theorem dJ13_bitCount_95d88_45 : decode cJ13_bitCount_95d88 45 = .ok (.lushr, 1) := by decide +kernel
theorem dJ13_bitCount_95d88_46 : decode cJ13_bitCount_95d88 46 = .ok (.ladd, 1) := by decide +kernel
theorem dJ13_bitCount_95d88_47 : decode cJ13_bitCount_95d88 47 = .ok (.lstore_n 0, 1) := by decide +kernel
theorem dJ13_bitCount_95d88_48 : decode cJ13_bitCount_95d88 48 = .ok (.lload_n 0, 1) := by decide +kernel
theorem dJ13_bitCount_95d88_49 : decode cJ13_bitCount_95d88 49 = .ok (.lload_n 0, 1) := by decide +kernel
theorem dJ13_bitCount_95d88_50 : decode cJ13_bitCount_95d88 50 = .ok (.bipush 32, 2) := by decide +kernel
theorem dJ13_bitCount_95d88_52 : decode cJ13_bitCount_95d88 52 = .ok (.lushr, 1) := by decide +kernel
theorem dJ13_bitCount_95d88_53 : decode cJ13_bitCount_95d88 53 = .ok (.ladd, 1) := by decide +kernel
theorem dJ13_bitCount_95d88_54 : decode cJ13_bitCount_95d88 54 = .ok (.lstore_n 0, 1) := by decide +kernel
theorem dJ13_bitCount_95d88_55 : decode cJ13_bitCount_95d88 55 = .ok (.lload_n 0, 1) := by decide +kernel
theorem dJ13_bitCount_95d88_56 : decode cJ13_bitCount_95d88 56 = .ok (.l2i, 1) := by decide +kernel
theorem dJ13_bitCount_95d88_57 : decode cJ13_bitCount_95d88 57 = .ok (.bipush 127, 2) := by decide +kernel
theorem dJ13_bitCount_95d88_59 : decode cJ13_bitCount_95d88 59 = .ok (.iand, 1) := by decide +kernel
theorem dJ13_bitCount_95d88_60 : decode cJ13_bitCount_95d88 60 = .ok (.ireturn, 1) := by decide +kernel
theorem dJ9_max_7cf53_0 : decode cJ9_max_7cf53 0 = .ok (.iload_n 0, 1) := by decide +kernel
theorem dJ9_max_7cf53_1 : decode cJ9_max_7cf53 1 = .ok (.iload_n 1, 1) := by decide +kernel
theorem dJ9_max_7cf53_2 : decode cJ9_max_7cf53 2 = .ok (.if_icmp .lt 7, 3) := by decide +kernel
theorem dJ9_max_7cf53_5 : decode cJ9_max_7cf53 5 = .ok (.iload_n 0, 1) := by decide +kernel
theorem dJ9_max_7cf53_6 : decode cJ9_max_7cf53 6 = .ok (.goto 4, 3) := by decide +kernel
theorem dJ9_max_7cf53_9 : decode cJ9_max_7cf53 9 = .ok (.iload_n 1, 1) := by decide +kernel
theorem dJ9_max_7cf53_10 : decode cJ9_max_7cf53 10 = .ok (.ireturn, 1) := by decide +kernel
theorem dJ9_min_7cf53_0 : decode cJ9_min_7cf53 0 = .ok (.iload_n 0, 1) := by decide +kernel
theorem dJ9_min_7cf53_1 : decode cJ9_min_7cf53 1 = .ok (.iload_n 1, 1) := by decide +kernel
theorem dJ9_min_7cf53_2 : decode cJ9_min_7cf53 2 = .ok (.if_icmp .gt 7, 3) := by decide +kernel
theorem dJ9_min_7cf53_5 : decode cJ9_min_7cf53 5 = .ok (.iload_n 0, 1) := by decide +kernel
theorem dJ9_min_7cf53_6 : decode cJ9_min_7cf53 6 = .ok (.goto 4, 3) := by decide +kernel
theorem dJ9_min_7cf53_9 : decode cJ9_min_7cf53 9 = .ok (.iload_n 1, 1) := by decide +kernel
theorem dJ9_min_7cf53_10 : decode cJ9_min_7cf53 10 = .ok (.ireturn, 1) := by decide +kernel
theorem dJ0_length_8abf5_0 : decode cJ0_length_8abf5 0 = .ok (.aload_n 0, 1) := by decide +kernel
theorem dJ0_length_8abf5_1 : decode cJ0_length_8abf5 1 = .ok (.getfield 9, 3) := by decide +kernel
theorem dJ0_length_8abf5_4 : decode cJ0_length_8abf5 4 = .ok (.arraylength, 1) := by decide +kernel
theorem dJ0_length_8abf5_5 : decode cJ0_length_8abf5 5 = .ok (.aload_n 0, 1) := by decide +kernel
theorem dJ0_length_8abf5_6 : decode cJ0_length_8abf5 6 = .ok (.invokevirtual 335, 3) := by decide +kernel
theorem dJ0_length_8abf5_9 : decode cJ0_length_8abf5 9 = .ok (.ishr, 1) := by decide +kernel
theorem dJ0_length_8abf5_10 : decode cJ0_length_8abf5 10 = .ok (.ireturn, 1) := by decide +kernel
theorem dJ0_charAt_5068e_0 : decode cJ0_charAt_5068e 0 = .ok (.aload_n 0, 1) := by decide +kernel
theorem dJ0_charAt_5068e_1 : decode cJ0_charAt_5068e 1 = .ok (.invokevirtual 492, 3) := by decide +kernel
theorem dJ0_charAt_5068e_4 : decode cJ0_charAt_5068e 4 = .ok (.ifCond .eq 12, 3) := by decide +kernel
theorem dJ0_charAt_5068e_7 : decode cJ0_charAt_5068e 7 = .ok (.aload_n 0, 1) := by decide +kernel
theorem dJ0_charAt_5068e_8 : decode cJ0_charAt_5068e 8 = .ok (.getfield 9, 3) := by decide +kernel
theorem dJ0_charAt_5068e_11 : decode cJ0_charAt_5068e 11 = .ok (.iload_n 1, 1) := by decide +kernel
theorem dJ0_charAt_5068e_12 : decode cJ0_charAt_5068e 12 = .ok (.invokestatic 495, 3) := by decide +kernel
theorem dJ0_charAt_5068e_15 : decode cJ0_charAt_5068e 15 = .ok (.ireturn, 1) := by decide +kernel
theorem dJ0_charAt_5068e_16 : decode cJ0_charAt_5068e 16 = .ok (.aload_n 0, 1) := by decide +kernel
theorem dJ0_charAt_5068e_17 : decode cJ0_charAt_5068e 17 = .ok (.getfield 9, 3) := by decide +kernel
theorem dJ0_charAt_5068e_20 : decode cJ0_charAt_5068e 20 = .ok (.iload_n 1, 1) := by decide +kernel
theorem dJ0_charAt_5068e_21 : decode cJ0_charAt_5068e 21 = .ok (.invokestatic 498, 3) := by decide +kernel
theorem dJ0_charAt_5068e_24 : decode cJ0_charAt_5068e 24 = .ok (.ireturn, 1) := by decide +kernel
theorem dJ0_coder_7d493_0 : decode cJ0_coder_7d493 0 = .ok (.getstatic 38, 3) := by decide +kernel
theorem dJ0_coder_7d493_3 : decode cJ0_coder_7d493 3 = .ok (.ifCond .eq 10, 3) := by decide +kernel
theorem dJ0_coder_7d493_6 : decode cJ0_coder_7d493 6 = .ok (.aload_n 0, 1) := by decide +kernel
theorem dJ0_coder_7d493_7 : decode cJ0_coder_7d493 7 = .ok (.getfield 15, 3) := by decide +kernel
theorem dJ0_coder_7d493_10 : decode cJ0_coder_7d493 10 = .ok (.goto 4, 3) := by decide +kernel
theorem dJ0_coder_7d493_13 : decode cJ0_coder_7d493 13 = .ok (.iconst 1, 1) := by decide +kernel
theorem dJ0_coder_7d493_14 : decode cJ0_coder_7d493 14 = .ok (.ireturn, 1) := by decide +kernel
theorem dJ0_isLatin1_aae02_0 : decode cJ0_isLatin1_aae02 0 = .ok (.getstatic 38, 3) := by decide +kernel
theorem dJ0_isLatin1_aae02_3 : decode cJ0_isLatin1_aae02 3 = .ok (.ifCond .eq 14, 3) := by decide +kernel
theorem dJ0_isLatin1_aae02_6 : decode cJ0_isLatin1_aae02 6 = .ok (.aload_n 0, 1) := by decide +kernel
theorem dJ0_isLatin1_aae02_7 : decode cJ0_isLatin1_aae02 7 = .ok (.getfield 15, 3) := by decide +kernel
theorem dJ0_isLatin1_aae02_10 : decode cJ0_isLatin1_aae02 10 = .ok (.ifCond .ne 7, 3) := by decide +kernel
theorem dJ0_isLatin1_aae02_13 : decode cJ0_isLatin1_aae02 13 = .ok (.iconst 1, 1) := by decide +kernel
theorem dJ0_isLatin1_aae02_14 : decode cJ0_isLatin1_aae02 14 = .ok (.goto 4, 3) := by decide +kernel
theorem dJ0_isLatin1_aae02_17 : decode cJ0_isLatin1_aae02 17 = .ok (.iconst 0, 1) := by decide +kernel
theorem dJ0_isLatin1_aae02_18 : decode cJ0_isLatin1_aae02 18 = .ok (.ireturn, 1) := by decide +kernel
theorem dJ0_checkIndex_df160_0 : decode cJ0_checkIndex_df160 0 = .ok (.iload_n 0, 1) := by decide +kernel
theorem dJ0_checkIndex_df160_1 : decode cJ0_checkIndex_df160 1 = .ok (.iload_n 1, 1) := by decide +kernel
theorem dJ0_checkIndex_df160_2 : decode cJ0_checkIndex_df160 2 = .ok (.getstatic 1053, 3) := by decide +kernel
theorem dJ0_checkIndex_df160_5 : decode cJ0_checkIndex_df160 5 = .ok (.invokestatic 1059, 3) := by decide +kernel
theorem dJ0_checkIndex_df160_8 : decode cJ0_checkIndex_df160 8 = .ok (.pop, 1) := by decide +kernel
theorem dJ0_checkIndex_df160_9 : decode cJ0_checkIndex_df160 9 = .ok (.return_, 1) := by decide +kernel
theorem dJ1_charAt_3b067_0 : decode cJ1_charAt_3b067 0 = .ok (.iload_n 1, 1) := by decide +kernel
theorem dJ1_charAt_3b067_1 : decode cJ1_charAt_3b067 1 = .ok (.aload_n 0, 1) := by decide +kernel
theorem dJ1_charAt_3b067_2 : decode cJ1_charAt_3b067 2 = .ok (.arraylength, 1) := by decide +kernel
theorem dJ1_charAt_3b067_3 : decode cJ1_charAt_3b067 3 = .ok (.invokestatic 9, 3) := by decide +kernel
theorem dJ1_charAt_3b067_6 : decode cJ1_charAt_3b067 6 = .ok (.aload_n 0, 1) := by decide +kernel
theorem dJ1_charAt_3b067_7 : decode cJ1_charAt_3b067 7 = .ok (.iload_n 1, 1) := by decide +kernel
theorem dJ1_charAt_3b067_8 : decode cJ1_charAt_3b067 8 = .ok (.baload, 1) := by decide +kernel
theorem dJ1_charAt_3b067_9 : decode cJ1_charAt_3b067 9 = .ok (.sipush 255, 3) := by decide +kernel
theorem dJ1_charAt_3b067_12 : decode cJ1_charAt_3b067 12 = .ok (.iand, 1) := by decide +kernel
theorem dJ1_charAt_3b067_13 : decode cJ1_charAt_3b067 13 = .ok (.i2c, 1) := by decide +kernel
theorem dJ1_charAt_3b067_14 : decode cJ1_charAt_3b067 14 = .ok (.ireturn, 1) := by decide +kernel
theorem dJ2_getChar_3b067_0 : decode cJ2_getChar_3b067 0 = .ok (.getstatic 44, 3) := by decide +kernel
theorem dJ2_getChar_3b067_3 : decode cJ2_getChar_3b067 3 = .ok (.ifCond .ne 25, 3) := by decide +kernel
theorem dJ2_getChar_3b067_6 : decode cJ2_getChar_3b067 6 = .ok (.iload_n 1, 1) := by decide +kernel
theorem dJ2_getChar_3b067_7 : decode cJ2_getChar_3b067 7 = .ok (.ifCond .lt 11, 3) := by decide +kernel
theorem dJ2_getChar_3b067_10 : decode cJ2_getChar_3b067 10 = .ok (.iload_n 1, 1) := by decide +kernel
theorem dJ2_getChar_3b067_11 : decode cJ2_getChar_3b067 11 = .ok (.aload_n 0, 1) := by decide +kernel
theorem dJ2_getChar_3b067_12 : decode cJ2_getChar_3b067 12 = .ok (.invokestatic 48, 3) := by decide +kernel
theorem dJ2_getChar_3b067_15 : decode cJ2_getChar_3b067 15 = .ok (.if_icmp .lt 13, 3) := by decide +kernel
theorem dJ2_getChar_3b067_18 : decode cJ2_getChar_3b067 18 = .ok (.new 52, 3) := by decide +kernel
theorem dJ2_getChar_3b067_21 : decode cJ2_getChar_3b067 21 = .ok (.dup, 1) := by decide +kernel
theorem dJ2_getChar_3b067_22 : decode cJ2_getChar_3b067 22 = .ok (.ldc 54, 2) := by decide +kernel
theorem dJ2_getChar_3b067_24 : decode cJ2_getChar_3b067 24 = .ok (.invokespecial 56, 3) := by decide +kernel
theorem dJ2_getChar_3b067_27 : decode cJ2_getChar_3b067 27 = .ok (.athrow, 1) := by decide +kernel
theorem dJ2_getChar_3b067_28 : decode cJ2_getChar_3b067 28 = .ok (.iload_n 1, 1) := by decide +kernel
theorem dJ2_getChar_3b067_29 : decode cJ2_getChar_3b067 29 = .ok (.iconst 1, 1) := by decide +kernel
theorem dJ2_getChar_3b067_30 : decode cJ2_getChar_3b067 30 = .ok (.ishl, 1) := by decide +kernel
theorem dJ2_getChar_3b067_31 : decode cJ2_getChar_3b067 31 = .ok (.istore_n 1, 1) := by decide +kernel
theorem dJ2_getChar_3b067_32 : decode cJ2_getChar_3b067 32 = .ok (.aload_n 0, 1) := by decide +kernel
theorem dJ2_getChar_3b067_33 : decode cJ2_getChar_3b067 33 = .ok (.iload_n 1, 1) := by decide +kernel
theorem dJ2_getChar_3b067_34 : decode cJ2_getChar_3b067 34 = .ok (.iinc 1 1, 3) := by decide +kernel
theorem dJ2_getChar_3b067_37 : decode cJ2_getChar_3b067 37 = .ok (.baload, 1) := by decide +kernel
theorem dJ2_getChar_3b067_38 : decode cJ2_getChar_3b067 38 = .ok (.sipush 255, 3) := by decide +kernel
theorem dJ2_getChar_3b067_41 : decode cJ2_getChar_3b067 41 = .ok (.iand, 1) := by decide +kernel
theorem dJ2_getChar_3b067_42 : decode cJ2_getChar_3b067 42 = .ok (.getstatic 59, 3) := by decide +kernel
theorem dJ2_getChar_3b067_45 : decode cJ2_getChar_3b067 45 = .ok (.ishl, 1) := by decide +kernel
theorem dJ2_getChar_3b067_46 : decode cJ2_getChar_3b067 46 = .ok (.aload_n 0, 1) := by decide +kernel
theorem dJ2_getChar_3b067_47 : decode cJ2_getChar_3b067 47 = .ok (.iload_n 1, 1) := by decide +kernel
theorem dJ2_getChar_3b067_48 : decode cJ2_getChar_3b067 48 = .ok (.baload, 1) := by decide +kernel
theorem dJ2_getChar_3b067_49 : decode cJ2_getChar_3b067 49 = .ok (.sipush 255, 3) := by decide +kernel
theorem dJ2_getChar_3b067_52 : decode cJ2_getChar_3b067 52 = .ok (.iand, 1) := by decide +kernel
theorem dJ2_getChar_3b067_53 : decode cJ2_getChar_3b067 53 = .ok (.getstatic 63, 3) := by decide +kernel
theorem dJ2_getChar_3b067_56 : decode cJ2_getChar_3b067 56 = .ok (.ishl, 1) := by decide +kernel
theorem dJ2_getChar_3b067_57 : decode cJ2_getChar_3b067 57 = .ok (.ior, 1) := by decide +kernel
theorem dJ2_getChar_3b067_58 : decode cJ2_getChar_3b067 58 = .ok (.i2c, 1) := by decide +kernel
theorem dJ2_getChar_3b067_59 : decode cJ2_getChar_3b067 59 = .ok (.ireturn, 1) := by decide +kernel
theorem dJ2_length_9d52b_0 : decode cJ2_length_9d52b 0 = .ok (.aload_n 0, 1) := by decide +kernel
theorem dJ2_length_9d52b_1 : decode cJ2_length_9d52b 1 = .ok (.arraylength, 1) := by decide +kernel
theorem dJ2_length_9d52b_2 : decode cJ2_length_9d52b 2 = .ok (.iconst 1, 1) := by decide +kernel
theorem dJ2_length_9d52b_3 : decode cJ2_length_9d52b 3 = .ok (.ishr, 1) := by decide +kernel
theorem dJ2_length_9d52b_4 : decode cJ2_length_9d52b 4 = .ok (.ireturn, 1) := by decide +kernel
theorem dJ2_charAt_3b067_0 : decode cJ2_charAt_3b067 0 = .ok (.iload_n 1, 1) := by decide +kernel
theorem dJ2_charAt_3b067_1 : decode cJ2_charAt_3b067 1 = .ok (.aload_n 0, 1) := by decide +kernel
theorem dJ2_charAt_3b067_2 : decode cJ2_charAt_3b067 2 = .ok (.invokestatic 67, 3) := by decide +kernel
theorem dJ2_charAt_3b067_5 : decode cJ2_charAt_3b067 5 = .ok (.aload_n 0, 1) := by decide +kernel
theorem dJ2_charAt_3b067_6 : decode cJ2_charAt_3b067 6 = .ok (.iload_n 1, 1) := by decide +kernel
theorem dJ2_charAt_3b067_7 : decode cJ2_charAt_3b067 7 = .ok (.invokestatic 71, 3) := by decide +kernel
theorem dJ2_charAt_3b067_10 : decode cJ2_charAt_3b067 10 = .ok (.ireturn, 1) := by decide +kernel
theorem dJ2_checkIndex_2214a_0 : decode cJ2_checkIndex_2214a 0 = .ok (.iload_n 0, 1) := by decide +kernel
theorem dJ2_checkIndex_2214a_1 : decode cJ2_checkIndex_2214a 1 = .ok (.aload_n 1, 1) := by decide +kernel
theorem dJ2_checkIndex_2214a_2 : decode cJ2_checkIndex_2214a 2 = .ok (.invokestatic 48, 3) := by decide +kernel
theorem dJ2_checkIndex_2214a_5 : decode cJ2_checkIndex_2214a 5 = .ok (.invokestatic 414, 3) := by decide +kernel
theorem dJ2_checkIndex_2214a_8 : decode cJ2_checkIndex_2214a 8 = .ok (.return_, 1) := by decide +kernel
theorem dJ7_fill_d0a16_0 : decode cJ7_fill_d0a16 0 = .ok (.iconst 0, 1) := by decide +kernel
theorem dJ7_fill_d0a16_1 : decode cJ7_fill_d0a16 1 = .ok (.istore_n 3, 1) := by decide +kernel
theorem dJ7_fill_d0a16_2 : decode cJ7_fill_d0a16 2 = .ok (.aload_n 0, 1) := by decide +kernel
theorem dJ7_fill_d0a16_3 : decode cJ7_fill_d0a16 3 = .ok (.arraylength, 1) := by decide +kernel
theorem dJ7_fill_d0a16_4 : decode cJ7_fill_d0a16 4 = .ok (.istore 4, 2) := by decide +kernel
theorem dJ7_fill_d0a16_6 : decode cJ7_fill_d0a16 6 = .ok (.iload_n 3, 1) := by decide +kernel
theorem dJ7_fill_d0a16_7 : decode cJ7_fill_d0a16 7 = .ok (.iload 4, 2) := by decide +kernel
theorem dJ7_fill_d0a16_9 : decode cJ7_fill_d0a16 9 = .ok (.if_icmp .ge 13, 3) := by decide +kernel
theorem dJ7_fill_d0a16_12 : decode cJ7_fill_d0a16 12 = .ok (.aload_n 0, 1) := by decide +kernel
theorem dJ7_fill_d0a16_13 : decode cJ7_fill_d0a16 13 = .ok (.iload_n 3, 1) := by decide +kernel
theorem dJ7_fill_d0a16_14 : decode cJ7_fill_d0a16 14 = .ok (.lload_n 1, 1) := by decide +kernel
theorem dJ7_fill_d0a16_15 : decode cJ7_fill_d0a16 15 = .ok (.lastore, 1) := by decide +kernel
theorem dJ7_fill_d0a16_16 : decode cJ7_fill_d0a16 16 = .ok (.iinc 3 1, 3) := by decide +kernel
theorem dJ7_fill_d0a16_19 : decode cJ7_fill_d0a16 19 = .ok (.goto (-13), 3) := by decide +kernel
theorem dJ7_fill_d0a16_22 : decode cJ7_fill_d0a16 22 = .ok (.return_, 1) := by decide +kernel
theorem dJ7_fill_53178_0 : decode cJ7_fill_53178 0 = .ok (.iconst 0, 1) := by decide +kernel
theorem dJ7_fill_53178_1 : decode cJ7_fill_53178 1 = .ok (.istore_n 2, 1) := by decide +kernel
theorem dJ7_fill_53178_2 : decode cJ7_fill_53178 2 = .ok (.aload_n 0, 1) := by decide +kernel
theorem dJ7_fill_53178_3 : decode cJ7_fill_53178 3 = .ok (.arraylength, 1) := by decide +kernel
theorem dJ7_fill_53178_4 : decode cJ7_fill_53178 4 = .ok (.istore_n 3, 1) := by decide +kernel
theorem dJ7_fill_53178_5 : decode cJ7_fill_53178 5 = .ok (.iload_n 2, 1) := by decide +kernel
theorem dJ7_fill_53178_6 : decode cJ7_fill_53178 6 = .ok (.iload_n 3, 1) := by decide +kernel
theorem dJ7_fill_53178_7 : decode cJ7_fill_53178 7 = .ok (.if_icmp .ge 13, 3) := by decide +kernel
theorem dJ7_fill_53178_10 : decode cJ7_fill_53178 10 = .ok (.aload_n 0, 1) := by decide +kernel
theorem dJ7_fill_53178_11 : decode cJ7_fill_53178 11 = .ok (.iload_n 2, 1) := by decide +kernel
theorem dJ7_fill_53178_12 : decode cJ7_fill_53178 12 = .ok (.iload_n 1, 1) := by decide +kernel
theorem dJ7_fill_53178_13 : decode cJ7_fill_53178 13 = .ok (.iastore, 1) := by decide +kernel
theorem dJ7_fill_53178_14 : decode cJ7_fill_53178 14 = .ok (.iinc 2 1, 3) := by decide +kernel
theorem dJ7_fill_53178_17 : decode cJ7_fill_53178 17 = .ok (.goto (-12), 3) := by decide +kernel
theorem dJ7_fill_53178_20 : decode cJ7_fill_53178 20 = .ok (.return_, 1) := by decide +kernel
theorem dJ3_checkIndex_8e157_0 : decode cJ3_checkIndex_8e157 0 = .ok (.iload_n 0, 1) := by decide +kernel
theorem dJ3_checkIndex_8e157_1 : decode cJ3_checkIndex_8e157 1 = .ok (.ifCond .lt 8, 3) := by decide +kernel
theorem dJ3_checkIndex_8e157_4 : decode cJ3_checkIndex_8e157 4 = .ok (.iload_n 0, 1) := by decide +kernel
theorem dJ3_checkIndex_8e157_5 : decode cJ3_checkIndex_8e157 5 = .ok (.iload_n 1, 1) := by decide +kernel
theorem dJ3_checkIndex_8e157_6 : decode cJ3_checkIndex_8e157 6 = .ok (.if_icmp .lt 10, 3) := by decide +kernel
theorem dJ3_checkIndex_8e157_9 : decode cJ3_checkIndex_8e157 9 = .ok (.aload_n 2, 1) := by decide +kernel
theorem dJ3_checkIndex_8e157_10 : decode cJ3_checkIndex_8e157 10 = .ok (.iload_n 0, 1) := by decide +kernel
theorem dJ3_checkIndex_8e157_11 : decode cJ3_checkIndex_8e157 11 = .ok (.iload_n 1, 1) := by decide +kernel
theorem dJ3_checkIndex_8e157_12 : decode cJ3_checkIndex_8e157 12 = .ok (.invokestatic 95, 3) := by decide +kernel
theorem dJ3_checkIndex_8e157_15 : decode cJ3_checkIndex_8e157 15 = .ok (.athrow, 1) := by decide +kernel
theorem dJ3_checkIndex_8e157_16 : decode cJ3_checkIndex_8e157 16 = .ok (.iload_n 0, 1) := by decide +kernel
theorem dJ3_checkIndex_8e157_17 : decode cJ3_checkIndex_8e157 17 = .ok (.ireturn, 1) := by decide +kernel
theorem dL_shift_0 : decode cL_shift 0 = .ok (.aload_n 2, 1) := by decide +kernel
theorem dL_shift_1 : decode cL_shift 1 = .ok (.iconst 0, 1) := by decide +kernel
theorem dL_shift_2 : decode cL_shift 2 = .ok (.aload_n 0, 1) := by decide +kernel
theorem dL_shift_3 : decode cL_shift 3 = .ok (.iload_n 1, 1) := by decide +kernel
theorem dL_shift_4 : decode cL_shift 4 = .ok (.invokevirtual 7, 3) := by decide +kernel
theorem dL_shift_7 : decode cL_shift 7 = .ok (.i2l, 1) := by decide +kernel
theorem dL_shift_8 : decode cL_shift 8 = .ok (.lastore, 1) := by decide +kernel
theorem dL_shift_9 : decode cL_shift 9 = .ok (.goto 6, 3) := by decide +kernel
theorem dL_shift_12 : decode cL_shift 12 = .ok (.astore_n 3, 1) := by decide +kernel
theorem dL_shift_13 : decode cL_shift 13 = .ok (.iconst 1, 1) := by decide +kernel
theorem dL_shift_14 : decode cL_shift 14 = .ok (.ireturn, 1) := by decide +kernel
theorem dL_shift_15 : decode cL_shift 15 = .ok (.iconst 0, 1) := by decide +kernel
theorem dL_shift_16 : decode cL_shift 16 = .ok (.ireturn, 1) := by decide +kernel
theorem dL_look_0 : decode cL_look 0 = .ok (.aload_n 3, 1) := by decide +kernel
theorem dL_look_1 : decode cL_look 1 = .ok (.iconst 0, 1) := by decide +kernel
theorem dL_look_2 : decode cL_look 2 = .ok (.aload_n 0, 1) := by decide +kernel
theorem dL_look_3 : decode cL_look 3 = .ok (.iload_n 1, 1) := by decide +kernel
theorem dL_look_4 : decode cL_look 4 = .ok (.iload_n 2, 1) := by decide +kernel
theorem dL_look_5 : decode cL_look 5 = .ok (.invokevirtual 15, 3) := by decide +kernel
theorem dL_look_8 : decode cL_look 8 = .ok (.i2l, 1) := by decide +kernel
theorem dL_look_9 : decode cL_look 9 = .ok (.lastore, 1) := by decide +kernel
theorem dL_look_10 : decode cL_look 10 = .ok (.goto 7, 3) := by decide +kernel
theorem dL_look_13 : decode cL_look 13 = .ok (.astore 4, 2) := by decide +kernel
theorem dL_look_15 : decode cL_look 15 = .ok (.iconst 1, 1) := by decide +kernel
theorem dL_look_16 : decode cL_look 16 = .ok (.ireturn, 1) := by decide +kernel
theorem dL_look_17 : decode cL_look 17 = .ok (.iconst 0, 1) := by decide +kernel
theorem dL_look_18 : decode cL_look 18 = .ok (.ireturn, 1) := by decide +kernel
theorem dL_law_0 : decode cL_law 0 = .ok (.new 8, 3) := by decide +kernel
theorem dL_law_3 : decode cL_law 3 = .ok (.dup, 1) := by decide +kernel
theorem dL_law_4 : decode cL_law 4 = .ok (.invokespecial 19, 3) := by decide +kernel
