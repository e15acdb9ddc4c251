theorem d_Mo_run_0 : decode b_Mo_run 0 = .ok (.iload_n 1, 1) := by decide +kernel
theorem d_Mo_run_1 : decode b_Mo_run 1 = .ok (.i2l, 1) := by decide +kernel
theorem d_Mo_run_2 : decode b_Mo_run 2 = .ok (.lconst 0, 1) := by decide +kernel
theorem d_Mo_run_3 : decode b_Mo_run 3 = .ok (.lconst 1, 1) := by decide +kernel
theorem d_Mo_run_4 : decode b_Mo_run 4 = .ok (.invokestatic 69, 3) := by decide +kernel
theorem d_Mo_run_7 : decode b_Mo_run 7 = .ok (.ifCond .eq 31, 3) := by decide +kernel
theorem d_Mo_run_10 : decode b_Mo_run 10 = .ok (.lload_n 2, 1) := by decide +kernel
theorem d_Mo_run_11 : decode b_Mo_run 11 = .ok (.lconst 1, 1) := by decide +kernel
theorem d_Mo_run_12 : decode b_Mo_run 12 = .ok (.ldc2_w 122, 3) := by decide +kernel
theorem d_Mo_run_15 : decode b_Mo_run 15 = .ok (.invokestatic 69, 3) := by decide +kernel
theorem d_Mo_run_18 : decode b_Mo_run 18 = .ok (.ifCond .eq 20, 3) := by decide +kernel
theorem d_Mo_run_21 : decode b_Mo_run 21 = .ok (.aload_n 0, 1) := by decide +kernel
theorem d_Mo_run_22 : decode b_Mo_run 22 = .ok (.getfield 66, 3) := by decide +kernel
theorem d_Mo_run_25 : decode b_Mo_run 25 = .ok (.iconst 2, 1) := by decide +kernel
theorem d_Mo_run_26 : decode b_Mo_run 26 = .ok (.if_icmp .lt 12, 3) := by decide +kernel
theorem d_Mo_run_29 : decode b_Mo_run 29 = .ok (.aload_n 0, 1) := by decide +kernel
theorem d_Mo_run_30 : decode b_Mo_run 30 = .ok (.invokevirtual 124, 3) := by decide +kernel
theorem d_Mo_run_33 : decode b_Mo_run 33 = .ok (.lconst 0, 1) := by decide +kernel
theorem d_Mo_run_34 : decode b_Mo_run 34 = .ok (.lcmp, 1) := by decide +kernel
theorem d_Mo_run_35 : decode b_Mo_run 35 = .ok (.ifCond .ne 5, 3) := by decide +kernel
theorem d_Mo_run_38 : decode b_Mo_run 38 = .ok (.iconst (-1), 1) := by decide +kernel
theorem d_Mo_run_39 : decode b_Mo_run 39 = .ok (.ireturn, 1) := by decide +kernel
theorem d_Mo_run_40 : decode b_Mo_run 40 = .ok (.lconst 0, 1) := by decide +kernel
theorem d_Mo_run_41 : decode b_Mo_run 41 = .ok (.lstore 4, 2) := by decide +kernel
theorem d_Mo_run_43 : decode b_Mo_run 43 = .ok (.lconst 0, 1) := by decide +kernel
theorem d_Mo_run_44 : decode b_Mo_run 44 = .ok (.lstore 6, 2) := by decide +kernel
theorem d_Mo_run_46 : decode b_Mo_run 46 = .ok (.iconst 0, 1) := by decide +kernel
theorem d_Mo_run_47 : decode b_Mo_run 47 = .ok (.istore 8, 2) := by decide +kernel
theorem d_Mo_run_49 : decode b_Mo_run 49 = .ok (.aload_n 0, 1) := by decide +kernel
theorem d_Mo_run_50 : decode b_Mo_run 50 = .ok (.getfield 25, 3) := by decide +kernel
theorem d_Mo_run_53 : decode b_Mo_run 53 = .ok (.istore 9, 2) := by decide +kernel
theorem d_Mo_run_55 : decode b_Mo_run 55 = .ok (.iload 9, 2) := by decide +kernel
theorem d_Mo_run_57 : decode b_Mo_run 57 = .ok (.aload_n 0, 1) := by decide +kernel
theorem d_Mo_run_58 : decode b_Mo_run 58 = .ok (.getfield 29, 3) := by decide +kernel
theorem d_Mo_run_61 : decode b_Mo_run 61 = .ok (.if_icmp .gt 204, 3) := by decide +kernel
theorem d_Mo_run_64 : decode b_Mo_run 64 = .ok (.lload 4, 2) := by decide +kernel
theorem d_Mo_run_66 : decode b_Mo_run 66 = .ok (.lload_n 2, 1) := by decide +kernel
theorem d_Mo_run_67 : decode b_Mo_run 67 = .ok (.lcmp, 1) := by decide +kernel
theorem d_Mo_run_68 : decode b_Mo_run 68 = .ok (.ifCond .ge 197, 3) := by decide +kernel
theorem d_Mo_run_71 : decode b_Mo_run 71 = .ok (.aload_n 0, 1) := by decide +kernel
theorem d_Mo_run_72 : decode b_Mo_run 72 = .ok (.iload 9, 2) := by decide +kernel
theorem d_Mo_run_74 : decode b_Mo_run 74 = .ok (.invokevirtual 104, 3) := by decide +kernel
theorem d_Mo_run_77 : decode b_Mo_run 77 = .ok (.istore 10, 2) := by decide +kernel
theorem d_Mo_run_79 : decode b_Mo_run 79 = .ok (.iconst 0, 1) := by decide +kernel
theorem d_Mo_run_80 : decode b_Mo_run 80 = .ok (.istore 11, 2) := by decide +kernel
theorem d_Mo_run_82 : decode b_Mo_run 82 = .ok (.iload 11, 2) := by decide +kernel
theorem d_Mo_run_84 : decode b_Mo_run 84 = .ok (.aload_n 0, 1) := by decide +kernel
theorem d_Mo_run_85 : decode b_Mo_run 85 = .ok (.getfield 66, 3) := by decide +kernel
theorem d_Mo_run_88 : decode b_Mo_run 88 = .ok (.if_icmp .ge 31, 3) := by decide +kernel
theorem d_Mo_run_91 : decode b_Mo_run 91 = .ok (.iload 10, 2) := by decide +kernel
theorem d_Mo_run_93 : decode b_Mo_run 93 = .ok (.ifCond .eq 26, 3) := by decide +kernel
theorem d_Mo_run_96 : decode b_Mo_run 96 = .ok (.aload_n 0, 1) := by decide +kernel
theorem d_Mo_run_97 : decode b_Mo_run 97 = .ok (.getfield 41, 3) := by decide +kernel
theorem d_Mo_run_100 : decode b_Mo_run 100 = .ok (.iload 11, 2) := by decide +kernel
theorem d_Mo_run_102 : decode b_Mo_run 102 = .ok (.iconst 0, 1) := by decide +kernel
theorem d_Mo_run_103 : decode b_Mo_run 103 = .ok (.iastore, 1) := by decide +kernel
theorem d_Mo_run_104 : decode b_Mo_run 104 = .ok (.aload_n 0, 1) := by decide +kernel
theorem d_Mo_run_105 : decode b_Mo_run 105 = .ok (.iload 11, 2) := by decide +kernel
theorem d_Mo_run_107 : decode b_Mo_run 107 = .ok (.iconst 0, 1) := by decide +kernel
theorem d_Mo_run_108 : decode b_Mo_run 108 = .ok (.iload 9, 2) := by decide +kernel
theorem d_Mo_run_110 : decode b_Mo_run 110 = .ok (.invokevirtual 100, 3) := by decide +kernel
theorem d_Mo_run_113 : decode b_Mo_run 113 = .ok (.iinc 11 1, 3) := by decide +kernel
theorem d_Mo_run_116 : decode b_Mo_run 116 = .ok (.goto (-34), 3) := by decide +kernel
theorem d_Mo_run_119 : decode b_Mo_run 119 = .ok (.iload 10, 2) := by decide +kernel
theorem d_Mo_run_121 : decode b_Mo_run 121 = .ok (.ifCond .eq 132, 3) := by decide +kernel
theorem d_Mo_run_124 : decode b_Mo_run 124 = .ok (.lload 4, 2) := by decide +kernel
theorem d_Mo_run_126 : decode b_Mo_run 126 = .ok (.lload_n 2, 1) := by decide +kernel
theorem d_Mo_run_127 : decode b_Mo_run 127 = .ok (.lcmp, 1) := by decide +kernel
theorem d_Mo_run_128 : decode b_Mo_run 128 = .ok (.ifCond .ge 125, 3) := by decide +kernel
theorem d_Mo_run_131 : decode b_Mo_run 131 = .ok (.lload 4, 2) := by decide +kernel
theorem d_Mo_run_133 : decode b_Mo_run 133 = .ok (.lconst 1, 1) := by decide +kernel
theorem d_Mo_run_134 : decode b_Mo_run 134 = .ok (.ladd, 1) := by decide +kernel
theorem d_Mo_run_135 : decode b_Mo_run 135 = .ok (.lstore 4, 2) := by decide +kernel
theorem d_Mo_run_137 : decode b_Mo_run 137 = .ok (.aload_n 0, 1) := by decide +kernel
theorem d_Mo_run_138 : decode b_Mo_run 138 = .ok (.iload 9, 2) := by decide +kernel
theorem d_Mo_run_140 : decode b_Mo_run 140 = .ok (.iload_n 1, 1) := by decide +kernel
theorem d_Mo_run_141 : decode b_Mo_run 141 = .ok (.invokevirtual 128, 3) := by decide +kernel
theorem d_Mo_run_144 : decode b_Mo_run 144 = .ok (.lstore 11, 2) := by decide +kernel
theorem d_Mo_run_146 : decode b_Mo_run 146 = .ok (.iload 8, 2) := by decide +kernel
theorem d_Mo_run_148 : decode b_Mo_run 148 = .ok (.ifCond .eq 42, 3) := by decide +kernel
theorem d_Mo_run_151 : decode b_Mo_run 151 = .ok (.iload_n 1, 1) := by decide +kernel
theorem d_Mo_run_152 : decode b_Mo_run 152 = .ok (.ifCond .ne 22, 3) := by decide +kernel
theorem d_Mo_run_155 : decode b_Mo_run 155 = .ok (.lload 11, 2) := by decide +kernel
theorem d_Mo_run_157 : decode b_Mo_run 157 = .ok (.iload 8, 2) := by decide +kernel
theorem d_Mo_run_159 : decode b_Mo_run 159 = .ok (.i2l, 1) := by decide +kernel
theorem d_Mo_run_160 : decode b_Mo_run 160 = .ok (.lmul, 1) := by decide +kernel
theorem d_Mo_run_161 : decode b_Mo_run 161 = .ok (.lload 6, 2) := by decide +kernel
theorem d_Mo_run_163 : decode b_Mo_run 163 = .ok (.iload 9, 2) := by decide +kernel
theorem d_Mo_run_165 : decode b_Mo_run 165 = .ok (.i2l, 1) := by decide +kernel
theorem d_Mo_run_166 : decode b_Mo_run 166 = .ok (.lmul, 1) := by decide +kernel
theorem d_Mo_run_167 : decode b_Mo_run 167 = .ok (.lcmp, 1) := by decide +kernel
theorem d_Mo_run_168 : decode b_Mo_run 168 = .ok (.ifCond .le 26, 3) := by decide +kernel
theorem d_Mo_run_171 : decode b_Mo_run 171 = .ok (.goto 19, 3) := by decide +kernel
theorem d_Mo_run_174 : decode b_Mo_run 174 = .ok (.lload 11, 2) := by decide +kernel
theorem d_Mo_run_176 : decode b_Mo_run 176 = .ok (.iload 8, 2) := by decide +kernel
theorem d_Mo_run_178 : decode b_Mo_run 178 = .ok (.i2l, 1) := by decide +kernel
theorem d_Mo_run_179 : decode b_Mo_run 179 = .ok (.lmul, 1) := by decide +kernel
theorem d_Mo_run_180 : decode b_Mo_run 180 = .ok (.lload 6, 2) := by decide +kernel
theorem d_Mo_run_182 : decode b_Mo_run 182 = .ok (.iload 9, 2) := by decide +kernel
theorem d_Mo_run_184 : decode b_Mo_run 184 = .ok (.i2l, 1) := by decide +kernel
theorem d_Mo_run_185 : decode b_Mo_run 185 = .ok (.lmul, 1) := by decide +kernel
theorem d_Mo_run_186 : decode b_Mo_run 186 = .ok (.lcmp, 1) := by decide +kernel
theorem d_Mo_run_187 : decode b_Mo_run 187 = .ok (.ifCond .ge 7, 3) := by decide +kernel
theorem d_Mo_run_190 : decode b_Mo_run 190 = .ok (.iconst 1, 1) := by decide +kernel
theorem d_Mo_run_191 : decode b_Mo_run 191 = .ok (.goto 4, 3) := by decide +kernel
theorem d_Mo_run_194 : decode b_Mo_run 194 = .ok (.iconst 0, 1) := by decide +kernel
theorem d_Mo_run_195 : decode b_Mo_run 195 = .ok (.istore 13, 2) := by decide +kernel
theorem d_Mo_run_197 : decode b_Mo_run 197 = .ok (.iload 13, 2) := by decide +kernel
theorem d_Mo_run_199 : decode b_Mo_run 199 = .ok (.ifCond .eq 43, 3) := by decide +kernel
theorem d_Mo_run_202 : decode b_Mo_run 202 = .ok (.lload 11, 2) := by decide +kernel
theorem d_Mo_run_204 : decode b_Mo_run 204 = .ok (.lstore 6, 2) := by decide +kernel
theorem d_Mo_run_206 : decode b_Mo_run 206 = .ok (.iload 9, 2) := by decide +kernel
theorem d_Mo_run_208 : decode b_Mo_run 208 = .ok (.istore 8, 2) := by decide +kernel
theorem d_Mo_run_210 : decode b_Mo_run 210 = .ok (.iconst 0, 1) := by decide +kernel
theorem d_Mo_run_211 : decode b_Mo_run 211 = .ok (.istore 14, 2) := by decide +kernel
theorem d_Mo_run_213 : decode b_Mo_run 213 = .ok (.iload 14, 2) := by decide +kernel
theorem d_Mo_run_215 : decode b_Mo_run 215 = .ok (.aload_n 0, 1) := by decide +kernel
theorem d_Mo_run_216 : decode b_Mo_run 216 = .ok (.getfield 66, 3) := by decide +kernel
theorem d_Mo_run_219 : decode b_Mo_run 219 = .ok (.if_icmp .ge 23, 3) := by decide +kernel
theorem d_Mo_run_222 : decode b_Mo_run 222 = .ok (.aload_n 0, 1) := by decide +kernel
theorem d_Mo_run_223 : decode b_Mo_run 223 = .ok (.getfield 38, 3) := by decide +kernel
theorem d_Mo_run_226 : decode b_Mo_run 226 = .ok (.iload 14, 2) := by decide +kernel
theorem d_Mo_run_228 : decode b_Mo_run 228 = .ok (.aload_n 0, 1) := by decide +kernel
theorem d_Mo_run_229 : decode b_Mo_run 229 = .ok (.getfield 41, 3) := by decide +kernel
theorem d_Mo_run_232 : decode b_Mo_run 232 = .ok (.iload 14, 2) := by decide +kernel
theorem d_Mo_run_234 : decode b_Mo_run 234 = .ok (.iaload, 1) := by decide +kernel
theorem d_Mo_run_235 : decode b_Mo_run 235 = .ok (.iastore, 1) := by decide +kernel
theorem d_Mo_run_236 : decode b_Mo_run 236 = .ok (.iinc 14 1, 3) := by decide +kernel
theorem d_Mo_run_239 : decode b_Mo_run 239 = .ok (.goto (-26), 3) := by decide +kernel
theorem d_Mo_run_242 : decode b_Mo_run 242 = .ok (.aload_n 0, 1) := by decide +kernel
theorem d_Mo_run_243 : decode b_Mo_run 243 = .ok (.iload 9, 2) := by decide +kernel
theorem d_Mo_run_245 : decode b_Mo_run 245 = .ok (.invokevirtual 132, 3) := by decide +kernel
theorem d_Mo_run_248 : decode b_Mo_run 248 = .ok (.istore 10, 2) := by decide +kernel
theorem d_Mo_run_250 : decode b_Mo_run 250 = .ok (.goto (-131), 3) := by decide +kernel
theorem d_Mo_run_253 : decode b_Mo_run 253 = .ok (.iload 9, 2) := by decide +kernel
theorem d_Mo_run_255 : decode b_Mo_run 255 = .ok (.aload_n 0, 1) := by decide +kernel
theorem d_Mo_run_256 : decode b_Mo_run 256 = .ok (.getfield 32, 3) := by decide +kernel
theorem d_Mo_run_259 : decode b_Mo_run 259 = .ok (.iadd, 1) := by decide +kernel
theorem d_Mo_run_260 : decode b_Mo_run 260 = .ok (.istore 9, 2) := by decide +kernel
theorem d_Mo_run_262 : decode b_Mo_run 262 = .ok (.goto (-207), 3) := by decide +kernel
theorem d_Mo_run_265 : decode b_Mo_run 265 = .ok (.aload_n 0, 1) := by decide +kernel
theorem d_Mo_run_266 : decode b_Mo_run 266 = .ok (.iconst 1, 1) := by decide +kernel
theorem d_Mo_run_267 : decode b_Mo_run 267 = .ok (.putfield 81, 3) := by decide +kernel
theorem d_Mo_run_270 : decode b_Mo_run 270 = .ok (.aload_n 0, 1) := by decide +kernel
theorem d_Mo_run_271 : decode b_Mo_run 271 = .ok (.iload 8, 2) := by decide +kernel
theorem d_Mo_run_273 : decode b_Mo_run 273 = .ok (.putfield 97, 3) := by decide +kernel
theorem d_Mo_run_276 : decode b_Mo_run 276 = .ok (.aload_n 0, 1) := by decide +kernel
theorem d_Mo_run_277 : decode b_Mo_run 277 = .ok (.iload_n 1, 1) := by decide +kernel
theorem d_Mo_run_278 : decode b_Mo_run 278 = .ok (.putfield 135, 3) := by decide +kernel
theorem d_Mo_run_281 : decode b_Mo_run 281 = .ok (.aload_n 0, 1) := by decide +kernel
theorem d_Mo_run_282 : decode b_Mo_run 282 = .ok (.lload 4, 2) := by decide +kernel
theorem d_Mo_run_284 : decode b_Mo_run 284 = .ok (.aload_n 0, 1) := by decide +kernel
theorem d_Mo_run_285 : decode b_Mo_run 285 = .ok (.invokevirtual 124, 3) := by decide +kernel
theorem d_Mo_run_288 : decode b_Mo_run 288 = .ok (.lcmp, 1) := by decide +kernel
theorem d_Mo_run_289 : decode b_Mo_run 289 = .ok (.ifCond .ne 7, 3) := by decide +kernel
theorem d_Mo_run_292 : decode b_Mo_run 292 = .ok (.iconst 1, 1) := by decide +kernel
theorem d_Mo_run_293 : decode b_Mo_run 293 = .ok (.goto 4, 3) := by decide +kernel
theorem d_Mo_run_296 : decode b_Mo_run 296 = .ok (.iconst 0, 1) := by decide +kernel
theorem d_Mo_run_297 : decode b_Mo_run 297 = .ok (.putfield 138, 3) := by decide +kernel
theorem d_Mo_run_300 : decode b_Mo_run 300 = .ok (.aload_n 0, 1) := by decide +kernel
theorem d_Mo_run_301 : decode b_Mo_run 301 = .ok (.getfield 97, 3) := by decide +kernel
theorem d_Mo_run_304 : decode b_Mo_run 304 = .ok (.ireturn, 1) := by decide +kernel
theorem d_Mo_proved_0 : decode b_Mo_proved 0 = .ok (.aload_n 0, 1) := by decide +kernel
theorem d_Mo_proved_1 : decode b_Mo_proved 1 = .ok (.getfield 81, 3) := by decide +kernel
theorem d_Mo_proved_4 : decode b_Mo_proved 4 = .ok (.ifCond .eq 14, 3) := by decide +kernel
theorem d_Mo_proved_7 : decode b_Mo_proved 7 = .ok (.aload_n 0, 1) := by decide +kernel
theorem d_Mo_proved_8 : decode b_Mo_proved 8 = .ok (.getfield 138, 3) := by decide +kernel
theorem d_Mo_proved_11 : decode b_Mo_proved 11 = .ok (.ifCond .eq 7, 3) := by decide +kernel
theorem d_Mo_proved_14 : decode b_Mo_proved 14 = .ok (.iconst 1, 1) := by decide +kernel
theorem d_Mo_proved_15 : decode b_Mo_proved 15 = .ok (.goto 4, 3) := by decide +kernel
theorem d_Mo_proved_18 : decode b_Mo_proved 18 = .ok (.iconst 0, 1) := by decide +kernel
theorem d_Mo_proved_19 : decode b_Mo_proved 19 = .ok (.ireturn, 1) := by decide +kernel
theorem d_Mo_common_0 : decode b_Mo_common 0 = .ok (.lload_n 0, 1) := by decide +kernel
theorem d_Mo_common_1 : decode b_Mo_common 1 = .ok (.lstore 4, 2) := by decide +kernel
theorem d_Mo_common_3 : decode b_Mo_common 3 = .ok (.lload_n 2, 1) := by decide +kernel
theorem d_Mo_common_4 : decode b_Mo_common 4 = .ok (.lstore 6, 2) := by decide +kernel
theorem d_Mo_common_6 : decode b_Mo_common 6 = .ok (.lload 6, 2) := by decide +kernel
theorem d_Mo_common_8 : decode b_Mo_common 8 = .ok (.lconst 0, 1) := by decide +kernel
theorem d_Mo_common_9 : decode b_Mo_common 9 = .ok (.lcmp, 1) := by decide +kernel
theorem d_Mo_common_10 : decode b_Mo_common 10 = .ok (.ifCond .le 21, 3) := by decide +kernel
theorem d_Mo_common_13 : decode b_Mo_common 13 = .ok (.lload 4, 2) := by decide +kernel
theorem d_Mo_common_15 : decode b_Mo_common 15 = .ok (.lload 6, 2) := by decide +kernel
theorem d_Mo_common_17 : decode b_Mo_common 17 = .ok (.lrem, 1) := by decide +kernel
theorem d_Mo_common_18 : decode b_Mo_common 18 = .ok (.lstore 8, 2) := by decide +kernel
theorem d_Mo_common_20 : decode b_Mo_common 20 = .ok (.lload 6, 2) := by decide +kernel
theorem d_Mo_common_22 : decode b_Mo_common 22 = .ok (.lstore 4, 2) := by decide +kernel
theorem d_Mo_common_24 : decode b_Mo_common 24 = .ok (.lload 8, 2) := by decide +kernel
theorem d_Mo_common_26 : decode b_Mo_common 26 = .ok (.lstore 6, 2) := by decide +kernel
theorem d_Mo_common_28 : decode b_Mo_common 28 = .ok (.goto (-22), 3) := by decide +kernel
theorem d_Mo_common_31 : decode b_Mo_common 31 = .ok (.lload 4, 2) := by decide +kernel
theorem d_Mo_common_33 : decode b_Mo_common 33 = .ok (.lreturn, 1) := by decide +kernel
theorem d_Mo_share_0 : decode b_Mo_share 0 = .ok (.lload_n 2, 1) := by decide +kernel
theorem d_Mo_share_1 : decode b_Mo_share 1 = .ok (.lload_n 0, 1) := by decide +kernel
theorem d_Mo_share_2 : decode b_Mo_share 2 = .ok (.invokestatic 141, 3) := by decide +kernel
theorem d_Mo_share_5 : decode b_Mo_share 5 = .ok (.lstore 5, 2) := by decide +kernel
theorem d_Mo_share_7 : decode b_Mo_share 7 = .ok (.iload 4, 2) := by decide +kernel
theorem d_Mo_share_9 : decode b_Mo_share 9 = .ok (.ifCond .ne 10, 3) := by decide +kernel
theorem d_Mo_share_12 : decode b_Mo_share 12 = .ok (.lload_n 0, 1) := by decide +kernel
theorem d_Mo_share_13 : decode b_Mo_share 13 = .ok (.lload 5, 2) := by decide +kernel
theorem d_Mo_share_15 : decode b_Mo_share 15 = .ok (.ldiv, 1) := by decide +kernel
theorem d_Mo_share_16 : decode b_Mo_share 16 = .ok (.goto 7, 3) := by decide +kernel
theorem d_Mo_share_19 : decode b_Mo_share 19 = .ok (.lload_n 2, 1) := by decide +kernel
theorem d_Mo_share_20 : decode b_Mo_share 20 = .ok (.lload 5, 2) := by decide +kernel
theorem d_Mo_share_22 : decode b_Mo_share 22 = .ok (.ldiv, 1) := by decide +kernel
theorem d_Mo_share_23 : decode b_Mo_share 23 = .ok (.lreturn, 1) := by decide +kernel
theorem d_Mo_bound_0 : decode b_Mo_bound 0 = .ok (.iload_n 1, 1) := by decide +kernel
theorem d_Mo_bound_1 : decode b_Mo_bound 1 = .ok (.i2l, 1) := by decide +kernel
theorem d_Mo_bound_2 : decode b_Mo_bound 2 = .ok (.lconst 0, 1) := by decide +kernel
theorem d_Mo_bound_3 : decode b_Mo_bound 3 = .ok (.lconst 1, 1) := by decide +kernel
theorem d_Mo_bound_4 : decode b_Mo_bound 4 = .ok (.invokestatic 69, 3) := by decide +kernel
theorem d_Mo_bound_7 : decode b_Mo_bound 7 = .ok (.ifCond .eq 11, 3) := by decide +kernel
theorem d_Mo_bound_10 : decode b_Mo_bound 10 = .ok (.aload_n 0, 1) := by decide +kernel
theorem d_Mo_bound_11 : decode b_Mo_bound 11 = .ok (.getfield 66, 3) := by decide +kernel
theorem d_Mo_bound_14 : decode b_Mo_bound 14 = .ok (.iconst 2, 1) := by decide +kernel
theorem d_Mo_bound_15 : decode b_Mo_bound 15 = .ok (.if_icmp .ge 7, 3) := by decide +kernel
theorem d_Mo_bound_18 : decode b_Mo_bound 18 = .ok (.ldc2_w 145, 3) := by decide +kernel
theorem d_Mo_bound_21 : decode b_Mo_bound 21 = .ok (.lreturn, 1) := by decide +kernel
theorem d_Mo_bound_22 : decode b_Mo_bound 22 = .ok (.aload_n 0, 1) := by decide +kernel
theorem d_Mo_bound_23 : decode b_Mo_bound 23 = .ok (.getfield 25, 3) := by decide +kernel
theorem d_Mo_bound_26 : decode b_Mo_bound 26 = .ok (.istore_n 2, 1) := by decide +kernel
theorem d_Mo_bound_27 : decode b_Mo_bound 27 = .ok (.iload_n 2, 1) := by decide +kernel
theorem d_Mo_bound_28 : decode b_Mo_bound 28 = .ok (.aload_n 0, 1) := by decide +kernel
theorem d_Mo_bound_29 : decode b_Mo_bound 29 = .ok (.getfield 29, 3) := by decide +kernel
theorem d_Mo_bound_32 : decode b_Mo_bound 32 = .ok (.if_icmp .gt 21, 3) := by decide +kernel
theorem d_Mo_bound_35 : decode b_Mo_bound 35 = .ok (.aload_n 0, 1) := by decide +kernel
theorem d_Mo_bound_36 : decode b_Mo_bound 36 = .ok (.iload_n 2, 1) := by decide +kernel
theorem d_Mo_bound_37 : decode b_Mo_bound 37 = .ok (.invokevirtual 104, 3) := by decide +kernel
theorem d_Mo_bound_40 : decode b_Mo_bound 40 = .ok (.ifCond .ne 13, 3) := by decide +kernel
theorem d_Mo_bound_43 : decode b_Mo_bound 43 = .ok (.iload_n 2, 1) := by decide +kernel
theorem d_Mo_bound_44 : decode b_Mo_bound 44 = .ok (.aload_n 0, 1) := by decide +kernel
theorem d_Mo_bound_45 : decode b_Mo_bound 45 = .ok (.getfield 32, 3) := by decide +kernel
theorem d_Mo_bound_48 : decode b_Mo_bound 48 = .ok (.iadd, 1) := by decide +kernel
theorem d_Mo_bound_49 : decode b_Mo_bound 49 = .ok (.istore_n 2, 1) := by decide +kernel
theorem d_Mo_bound_50 : decode b_Mo_bound 50 = .ok (.goto (-23), 3) := by decide +kernel
theorem d_Mo_bound_53 : decode b_Mo_bound 53 = .ok (.iload_n 2, 1) := by decide +kernel
theorem d_Mo_bound_54 : decode b_Mo_bound 54 = .ok (.aload_n 0, 1) := by decide +kernel
theorem d_Mo_bound_55 : decode b_Mo_bound 55 = .ok (.getfield 29, 3) := by decide +kernel
theorem d_Mo_bound_58 : decode b_Mo_bound 58 = .ok (.if_icmp .le 6, 3) := by decide +kernel
theorem d_Mo_bound_61 : decode b_Mo_bound 61 = .ok (.iload_n 1, 1) := by decide +kernel
theorem d_Mo_bound_62 : decode b_Mo_bound 62 = .ok (.i2l, 1) := by decide +kernel
theorem d_Mo_bound_63 : decode b_Mo_bound 63 = .ok (.lreturn, 1) := by decide +kernel
theorem d_Mo_bound_64 : decode b_Mo_bound 64 = .ok (.bipush 120, 2) := by decide +kernel
theorem d_Mo_bound_66 : decode b_Mo_bound 66 = .ok (.istore_n 3, 1) := by decide +kernel
theorem d_Mo_bound_67 : decode b_Mo_bound 67 = .ok (.iconst 0, 1) := by decide +kernel
theorem d_Mo_bound_68 : decode b_Mo_bound 68 = .ok (.istore 4, 2) := by decide +kernel
theorem d_Mo_bound_70 : decode b_Mo_bound 70 = .ok (.iload 4, 2) := by decide +kernel
theorem d_Mo_bound_72 : decode b_Mo_bound 72 = .ok (.aload_n 0, 1) := by decide +kernel
theorem d_Mo_bound_73 : decode b_Mo_bound 73 = .ok (.getfield 66, 3) := by decide +kernel
theorem d_Mo_bound_76 : decode b_Mo_bound 76 = .ok (.if_icmp .ge 48, 3) := by decide +kernel
theorem d_Mo_bound_79 : decode b_Mo_bound 79 = .ok (.aload_n 0, 1) := by decide +kernel
theorem d_Mo_bound_80 : decode b_Mo_bound 80 = .ok (.getfield 7, 3) := by decide +kernel
theorem d_Mo_bound_83 : decode b_Mo_bound 83 = .ok (.iload 4, 2) := by decide +kernel
theorem d_Mo_bound_85 : decode b_Mo_bound 85 = .ok (.iaload, 1) := by decide +kernel
theorem d_Mo_bound_86 : decode b_Mo_bound 86 = .ok (.aload_n 0, 1) := by decide +kernel
theorem d_Mo_bound_87 : decode b_Mo_bound 87 = .ok (.getfield 16, 3) := by decide +kernel
theorem d_Mo_bound_90 : decode b_Mo_bound 90 = .ok (.iload 4, 2) := by decide +kernel
theorem d_Mo_bound_92 : decode b_Mo_bound 92 = .ok (.iaload, 1) := by decide +kernel
theorem d_Mo_bound_93 : decode b_Mo_bound 93 = .ok (.isub, 1) := by decide +kernel
theorem d_Mo_bound_94 : decode b_Mo_bound 94 = .ok (.iload_n 3, 1) := by decide +kernel
theorem d_Mo_bound_95 : decode b_Mo_bound 95 = .ok (.if_icmp .ge 21, 3) := by decide +kernel
theorem d_Mo_bound_98 : decode b_Mo_bound 98 = .ok (.aload_n 0, 1) := by decide +kernel
theorem d_Mo_bound_99 : decode b_Mo_bound 99 = .ok (.getfield 7, 3) := by decide +kernel
theorem d_Mo_bound_102 : decode b_Mo_bound 102 = .ok (.iload 4, 2) := by decide +kernel
theorem d_Mo_bound_104 : decode b_Mo_bound 104 = .ok (.iaload, 1) := by decide +kernel
theorem d_Mo_bound_105 : decode b_Mo_bound 105 = .ok (.aload_n 0, 1) := by decide +kernel
theorem d_Mo_bound_106 : decode b_Mo_bound 106 = .ok (.getfield 16, 3) := by decide +kernel
theorem d_Mo_bound_109 : decode b_Mo_bound 109 = .ok (.iload 4, 2) := by decide +kernel
theorem d_Mo_bound_111 : decode b_Mo_bound 111 = .ok (.iaload, 1) := by decide +kernel
theorem d_Mo_bound_112 : decode b_Mo_bound 112 = .ok (.isub, 1) := by decide +kernel
theorem d_Mo_bound_113 : decode b_Mo_bound 113 = .ok (.goto 4, 3) := by decide +kernel
theorem d_Mo_bound_116 : decode b_Mo_bound 116 = .ok (.iload_n 3, 1) := by decide +kernel
theorem d_Mo_bound_117 : decode b_Mo_bound 117 = .ok (.istore_n 3, 1) := by decide +kernel
theorem d_Mo_bound_118 : decode b_Mo_bound 118 = .ok (.iinc 4 1, 3) := by decide +kernel
theorem d_Mo_bound_121 : decode b_Mo_bound 121 = .ok (.goto (-51), 3) := by decide +kernel
theorem d_Mo_bound_124 : decode b_Mo_bound 124 = .ok (.iload_n 3, 1) := by decide +kernel
theorem d_Mo_bound_125 : decode b_Mo_bound 125 = .ok (.i2l, 1) := by decide +kernel
theorem d_Mo_bound_126 : decode b_Mo_bound 126 = .ok (.aload_n 0, 1) := by decide +kernel
theorem d_Mo_bound_127 : decode b_Mo_bound 127 = .ok (.iconst 0, 1) := by decide +kernel
theorem d_Mo_bound_128 : decode b_Mo_bound 128 = .ok (.invokevirtual 115, 3) := by decide +kernel
theorem d_Mo_bound_131 : decode b_Mo_bound 131 = .ok (.aload_n 0, 1) := by decide +kernel
theorem d_Mo_bound_132 : decode b_Mo_bound 132 = .ok (.iconst 1, 1) := by decide +kernel
theorem d_Mo_bound_133 : decode b_Mo_bound 133 = .ok (.invokevirtual 115, 3) := by decide +kernel
theorem d_Mo_bound_136 : decode b_Mo_bound 136 = .ok (.iadd, 1) := by decide +kernel
theorem d_Mo_bound_137 : decode b_Mo_bound 137 = .ok (.i2l, 1) := by decide +kernel
theorem d_Mo_bound_138 : decode b_Mo_bound 138 = .ok (.lmul, 1) := by decide +kernel
theorem d_Mo_bound_139 : decode b_Mo_bound 139 = .ok (.iload_n 2, 1) := by decide +kernel
theorem d_Mo_bound_140 : decode b_Mo_bound 140 = .ok (.i2l, 1) := by decide +kernel
theorem d_Mo_bound_141 : decode b_Mo_bound 141 = .ok (.iload_n 1, 1) := by decide +kernel
theorem d_Mo_bound_142 : decode b_Mo_bound 142 = .ok (.invokestatic 147, 3) := by decide +kernel
theorem d_Mo_bound_145 : decode b_Mo_bound 145 = .ok (.lreturn, 1) := by decide +kernel
theorem d_Mo_offset_0 : decode b_Mo_offset 0 = .ok (.aload_n 0, 1) := by decide +kernel
theorem d_Mo_offset_1 : decode b_Mo_offset 1 = .ok (.getfield 81, 3) := by decide +kernel
theorem d_Mo_offset_4 : decode b_Mo_offset 4 = .ok (.ifCond .eq 20, 3) := by decide +kernel
theorem d_Mo_offset_7 : decode b_Mo_offset 7 = .ok (.aload_n 0, 1) := by decide +kernel
theorem d_Mo_offset_8 : decode b_Mo_offset 8 = .ok (.iload_n 1, 1) := by decide +kernel
theorem d_Mo_offset_9 : decode b_Mo_offset 9 = .ok (.invokevirtual 85, 3) := by decide +kernel
theorem d_Mo_offset_12 : decode b_Mo_offset 12 = .ok (.ifCond .eq 12, 3) := by decide +kernel
theorem d_Mo_offset_15 : decode b_Mo_offset 15 = .ok (.aload_n 0, 1) := by decide +kernel
theorem d_Mo_offset_16 : decode b_Mo_offset 16 = .ok (.getfield 38, 3) := by decide +kernel
theorem d_Mo_offset_19 : decode b_Mo_offset 19 = .ok (.iload_n 1, 1) := by decide +kernel
theorem d_Mo_offset_20 : decode b_Mo_offset 20 = .ok (.iaload, 1) := by decide +kernel
theorem d_Mo_offset_21 : decode b_Mo_offset 21 = .ok (.goto 4, 3) := by decide +kernel
theorem d_Mo_offset_24 : decode b_Mo_offset 24 = .ok (.iconst (-1), 1) := by decide +kernel
theorem d_Mo_offset_25 : decode b_Mo_offset 25 = .ok (.ireturn, 1) := by decide +kernel
theorem d_Mo_green_0 : decode b_Mo_green 0 = .ok (.aload_n 0, 1) := by decide +kernel
theorem d_Mo_green_1 : decode b_Mo_green 1 = .ok (.getfield 81, 3) := by decide +kernel
theorem d_Mo_green_4 : decode b_Mo_green 4 = .ok (.ifCond .eq 23, 3) := by decide +kernel
theorem d_Mo_green_7 : decode b_Mo_green 7 = .ok (.aload_n 0, 1) := by decide +kernel
theorem d_Mo_green_8 : decode b_Mo_green 8 = .ok (.iload_n 1, 1) := by decide +kernel
theorem d_Mo_green_9 : decode b_Mo_green 9 = .ok (.invokevirtual 85, 3) := by decide +kernel
theorem d_Mo_green_12 : decode b_Mo_green 12 = .ok (.ifCond .eq 15, 3) := by decide +kernel
theorem d_Mo_green_15 : decode b_Mo_green 15 = .ok (.iload_n 2, 1) := by decide +kernel
theorem d_Mo_green_16 : decode b_Mo_green 16 = .ok (.i2l, 1) := by decide +kernel
theorem d_Mo_green_17 : decode b_Mo_green 17 = .ok (.lconst 0, 1) := by decide +kernel
theorem d_Mo_green_18 : decode b_Mo_green 18 = .ok (.ldc2_w 151, 3) := by decide +kernel
theorem d_Mo_green_21 : decode b_Mo_green 21 = .ok (.invokestatic 69, 3) := by decide +kernel
theorem d_Mo_green_24 : decode b_Mo_green 24 = .ok (.ifCond .ne 5, 3) := by decide +kernel
theorem d_Mo_green_27 : decode b_Mo_green 27 = .ok (.iconst (-1), 1) := by decide +kernel
theorem d_Mo_green_28 : decode b_Mo_green 28 = .ok (.ireturn, 1) := by decide +kernel
theorem d_Mo_green_29 : decode b_Mo_green 29 = .ok (.iload_n 2, 1) := by decide +kernel
theorem d_Mo_green_30 : decode b_Mo_green 30 = .ok (.ifCond .ne 7, 3) := by decide +kernel
theorem d_Mo_green_33 : decode b_Mo_green 33 = .ok (.iconst 0, 1) := by decide +kernel
theorem d_Mo_green_34 : decode b_Mo_green 34 = .ok (.goto 23, 3) := by decide +kernel
theorem d_Mo_green_37 : decode b_Mo_green 37 = .ok (.iload_n 2, 1) := by decide +kernel
theorem d_Mo_green_38 : decode b_Mo_green 38 = .ok (.iconst 1, 1) := by decide +kernel
theorem d_Mo_green_39 : decode b_Mo_green 39 = .ok (.if_icmp .ne 12, 3) := by decide +kernel
theorem d_Mo_green_42 : decode b_Mo_green 42 = .ok (.aload_n 0, 1) := by decide +kernel
theorem d_Mo_green_43 : decode b_Mo_green 43 = .ok (.getfield 7, 3) := by decide +kernel
theorem d_Mo_green_46 : decode b_Mo_green 46 = .ok (.iload_n 1, 1) := by decide +kernel
theorem d_Mo_green_47 : decode b_Mo_green 47 = .ok (.iaload, 1) := by decide +kernel
theorem d_Mo_green_48 : decode b_Mo_green 48 = .ok (.goto 9, 3) := by decide +kernel
theorem d_Mo_green_51 : decode b_Mo_green 51 = .ok (.aload_n 0, 1) := by decide +kernel
theorem d_Mo_green_52 : decode b_Mo_green 52 = .ok (.getfield 16, 3) := by decide +kernel
theorem d_Mo_green_55 : decode b_Mo_green 55 = .ok (.iload_n 1, 1) := by decide +kernel
theorem d_Mo_green_56 : decode b_Mo_green 56 = .ok (.iaload, 1) := by decide +kernel
theorem d_Mo_green_57 : decode b_Mo_green 57 = .ok (.istore_n 3, 1) := by decide +kernel
theorem d_Mo_green_58 : decode b_Mo_green 58 = .ok (.aload_n 0, 1) := by decide +kernel
theorem d_Mo_green_59 : decode b_Mo_green 59 = .ok (.getfield 38, 3) := by decide +kernel
theorem d_Mo_green_62 : decode b_Mo_green 62 = .ok (.iload_n 1, 1) := by decide +kernel
theorem d_Mo_green_63 : decode b_Mo_green 63 = .ok (.iaload, 1) := by decide +kernel
theorem d_Mo_green_64 : decode b_Mo_green 64 = .ok (.iload_n 3, 1) := by decide +kernel
theorem d_Mo_green_65 : decode b_Mo_green 65 = .ok (.iadd, 1) := by decide +kernel
theorem d_Mo_green_66 : decode b_Mo_green 66 = .ok (.aload_n 0, 1) := by decide +kernel
theorem d_Mo_green_67 : decode b_Mo_green 67 = .ok (.getfield 97, 3) := by decide +kernel
theorem d_Mo_green_70 : decode b_Mo_green 70 = .ok (.irem, 1) := by decide +kernel
theorem d_Mo_green_71 : decode b_Mo_green 71 = .ok (.ireturn, 1) := by decide +kernel
theorem d_Mo_width_0 : decode b_Mo_width 0 = .ok (.aload_n 0, 1) := by decide +kernel
theorem d_Mo_width_1 : decode b_Mo_width 1 = .ok (.getfield 81, 3) := by decide +kernel
theorem d_Mo_width_4 : decode b_Mo_width 4 = .ok (.ifCond .eq 23, 3) := by decide +kernel
theorem d_Mo_width_7 : decode b_Mo_width 7 = .ok (.iload_n 1, 1) := by decide +kernel
theorem d_Mo_width_8 : decode b_Mo_width 8 = .ok (.i2l, 1) := by decide +kernel
theorem d_Mo_width_9 : decode b_Mo_width 9 = .ok (.lconst 0, 1) := by decide +kernel
theorem d_Mo_width_10 : decode b_Mo_width 10 = .ok (.lconst 1, 1) := by decide +kernel
theorem d_Mo_width_11 : decode b_Mo_width 11 = .ok (.invokestatic 69, 3) := by decide +kernel
theorem d_Mo_width_14 : decode b_Mo_width 14 = .ok (.ifCond .eq 13, 3) := by decide +kernel
theorem d_Mo_width_17 : decode b_Mo_width 17 = .ok (.iload_n 2, 1) := by decide +kernel
theorem d_Mo_width_18 : decode b_Mo_width 18 = .ok (.i2l, 1) := by decide +kernel
theorem d_Mo_width_19 : decode b_Mo_width 19 = .ok (.lconst 0, 1) := by decide +kernel
theorem d_Mo_width_20 : decode b_Mo_width 20 = .ok (.lconst 1, 1) := by decide +kernel
theorem d_Mo_width_21 : decode b_Mo_width 21 = .ok (.invokestatic 69, 3) := by decide +kernel
theorem d_Mo_width_24 : decode b_Mo_width 24 = .ok (.ifCond .ne 7, 3) := by decide +kernel
theorem d_Mo_width_27 : decode b_Mo_width 27 = .ok (.ldc2_w 145, 3) := by decide +kernel
theorem d_Mo_width_30 : decode b_Mo_width 30 = .ok (.lreturn, 1) := by decide +kernel
theorem d_Mo_width_31 : decode b_Mo_width 31 = .ok (.aload_n 0, 1) := by decide +kernel
theorem d_Mo_width_32 : decode b_Mo_width 32 = .ok (.invokevirtual 153, 3) := by decide +kernel
theorem d_Mo_width_35 : decode b_Mo_width 35 = .ok (.aload_n 0, 1) := by decide +kernel
theorem d_Mo_width_36 : decode b_Mo_width 36 = .ok (.iload_n 1, 1) := by decide +kernel
theorem d_Mo_width_37 : decode b_Mo_width 37 = .ok (.aload_n 0, 1) := by decide +kernel
theorem d_Mo_width_38 : decode b_Mo_width 38 = .ok (.getfield 97, 3) := by decide +kernel
theorem d_Mo_width_41 : decode b_Mo_width 41 = .ok (.invokevirtual 111, 3) := by decide +kernel
theorem d_Mo_width_44 : decode b_Mo_width 44 = .ok (.i2l, 1) := by decide +kernel
theorem d_Mo_width_45 : decode b_Mo_width 45 = .ok (.aload_n 0, 1) := by decide +kernel
theorem d_Mo_width_46 : decode b_Mo_width 46 = .ok (.getfield 97, 3) := by decide +kernel
theorem d_Mo_width_49 : decode b_Mo_width 49 = .ok (.i2l, 1) := by decide +kernel
theorem d_Mo_width_50 : decode b_Mo_width 50 = .ok (.iload_n 2, 1) := by decide +kernel
theorem d_Mo_width_51 : decode b_Mo_width 51 = .ok (.invokestatic 147, 3) := by decide +kernel
theorem d_Mo_width_54 : decode b_Mo_width 54 = .ok (.lreturn, 1) := by decide +kernel
theorem d_Mo_stops_0 : decode b_Mo_stops 0 = .ok (.aload_n 0, 1) := by decide +kernel
theorem d_Mo_stops_1 : decode b_Mo_stops 1 = .ok (.getfield 81, 3) := by decide +kernel
theorem d_Mo_stops_4 : decode b_Mo_stops 4 = .ok (.ifCond .eq 13, 3) := by decide +kernel
theorem d_Mo_stops_7 : decode b_Mo_stops 7 = .ok (.iload_n 1, 1) := by decide +kernel
theorem d_Mo_stops_8 : decode b_Mo_stops 8 = .ok (.i2l, 1) := by decide +kernel
theorem d_Mo_stops_9 : decode b_Mo_stops 9 = .ok (.lconst 0, 1) := by decide +kernel
theorem d_Mo_stops_10 : decode b_Mo_stops 10 = .ok (.lconst 1, 1) := by decide +kernel
theorem d_Mo_stops_11 : decode b_Mo_stops 11 = .ok (.invokestatic 69, 3) := by decide +kernel
theorem d_Mo_stops_14 : decode b_Mo_stops 14 = .ok (.ifCond .ne 7, 3) := by decide +kernel
theorem d_Mo_stops_17 : decode b_Mo_stops 17 = .ok (.ldc2_w 145, 3) := by decide +kernel
theorem d_Mo_stops_20 : decode b_Mo_stops 20 = .ok (.lreturn, 1) := by decide +kernel
theorem d_Mo_stops_21 : decode b_Mo_stops 21 = .ok (.aload_n 0, 1) := by decide +kernel
theorem d_Mo_stops_22 : decode b_Mo_stops 22 = .ok (.invokevirtual 153, 3) := by decide +kernel
theorem d_Mo_stops_25 : decode b_Mo_stops 25 = .ok (.aload_n 0, 1) := by decide +kernel
theorem d_Mo_stops_26 : decode b_Mo_stops 26 = .ok (.aload_n 0, 1) := by decide +kernel
theorem d_Mo_stops_27 : decode b_Mo_stops 27 = .ok (.getfield 97, 3) := by decide +kernel
theorem d_Mo_stops_30 : decode b_Mo_stops 30 = .ok (.invokevirtual 119, 3) := by decide +kernel
theorem d_Mo_stops_33 : decode b_Mo_stops 33 = .ok (.i2l, 1) := by decide +kernel
theorem d_Mo_stops_34 : decode b_Mo_stops 34 = .ok (.aload_n 0, 1) := by decide +kernel
theorem d_Mo_stops_35 : decode b_Mo_stops 35 = .ok (.getfield 97, 3) := by decide +kernel
theorem d_Mo_stops_38 : decode b_Mo_stops 38 = .ok (.i2l, 1) := by decide +kernel
theorem d_Mo_stops_39 : decode b_Mo_stops 39 = .ok (.iload_n 1, 1) := by decide +kernel
theorem d_Mo_stops_40 : decode b_Mo_stops 40 = .ok (.invokestatic 147, 3) := by decide +kernel
theorem d_Mo_stops_43 : decode b_Mo_stops 43 = .ok (.lreturn, 1) := by decide +kernel
theorem d_Mo_arrive_0 : decode b_Mo_arrive 0 = .ok (.iload_n 2, 1) := by decide +kernel
theorem d_Mo_arrive_1 : decode b_Mo_arrive 1 = .ok (.i2l, 1) := by decide +kernel
theorem d_Mo_arrive_2 : decode b_Mo_arrive 2 = .ok (.lconst 0, 1) := by decide +kernel
theorem d_Mo_arrive_3 : decode b_Mo_arrive 3 = .ok (.lconst 1, 1) := by decide +kernel
theorem d_Mo_arrive_4 : decode b_Mo_arrive 4 = .ok (.invokestatic 69, 3) := by decide +kernel
theorem d_Mo_arrive_7 : decode b_Mo_arrive 7 = .ok (.ifCond .eq 69, 3) := by decide +kernel
theorem d_Mo_arrive_10 : decode b_Mo_arrive 10 = .ok (.aload_n 0, 1) := by decide +kernel
theorem d_Mo_arrive_11 : decode b_Mo_arrive 11 = .ok (.iload_n 1, 1) := by decide +kernel
theorem d_Mo_arrive_12 : decode b_Mo_arrive 12 = .ok (.invokevirtual 85, 3) := by decide +kernel
theorem d_Mo_arrive_15 : decode b_Mo_arrive 15 = .ok (.ifCond .eq 61, 3) := by decide +kernel
theorem d_Mo_arrive_18 : decode b_Mo_arrive 18 = .ok (.aload_n 0, 1) := by decide +kernel
theorem d_Mo_arrive_19 : decode b_Mo_arrive 19 = .ok (.iload_n 2, 1) := by decide +kernel
theorem d_Mo_arrive_20 : decode b_Mo_arrive 20 = .ok (.ifCond .ne 9, 3) := by decide +kernel
theorem d_Mo_arrive_23 : decode b_Mo_arrive 23 = .ok (.iload_n 1, 1) := by decide +kernel
theorem d_Mo_arrive_24 : decode b_Mo_arrive 24 = .ok (.iconst 1, 1) := by decide +kernel
theorem d_Mo_arrive_25 : decode b_Mo_arrive 25 = .ok (.iadd, 1) := by decide +kernel
theorem d_Mo_arrive_26 : decode b_Mo_arrive 26 = .ok (.goto 6, 3) := by decide +kernel
theorem d_Mo_arrive_29 : decode b_Mo_arrive 29 = .ok (.iload_n 1, 1) := by decide +kernel
theorem d_Mo_arrive_30 : decode b_Mo_arrive 30 = .ok (.iconst 1, 1) := by decide +kernel
theorem d_Mo_arrive_31 : decode b_Mo_arrive 31 = .ok (.isub, 1) := by decide +kernel
theorem d_Mo_arrive_32 : decode b_Mo_arrive 32 = .ok (.invokevirtual 85, 3) := by decide +kernel
theorem d_Mo_arrive_35 : decode b_Mo_arrive 35 = .ok (.ifCond .eq 41, 3) := by decide +kernel
theorem d_Mo_arrive_38 : decode b_Mo_arrive 38 = .ok (.iload_n 3, 1) := by decide +kernel
theorem d_Mo_arrive_39 : decode b_Mo_arrive 39 = .ok (.i2l, 1) := by decide +kernel
theorem d_Mo_arrive_40 : decode b_Mo_arrive 40 = .ok (.lconst 0, 1) := by decide +kernel
theorem d_Mo_arrive_41 : decode b_Mo_arrive 41 = .ok (.ldc2_w 156, 3) := by decide +kernel
theorem d_Mo_arrive_44 : decode b_Mo_arrive 44 = .ok (.invokestatic 69, 3) := by decide +kernel
theorem d_Mo_arrive_47 : decode b_Mo_arrive 47 = .ok (.ifCond .eq 29, 3) := by decide +kernel
theorem d_Mo_arrive_50 : decode b_Mo_arrive 50 = .ok (.iload 4, 2) := by decide +kernel
theorem d_Mo_arrive_52 : decode b_Mo_arrive 52 = .ok (.i2l, 1) := by decide +kernel
theorem d_Mo_arrive_53 : decode b_Mo_arrive 53 = .ok (.lconst 1, 1) := by decide +kernel
theorem d_Mo_arrive_54 : decode b_Mo_arrive 54 = .ok (.ldc2_w 158, 3) := by decide +kernel
theorem d_Mo_arrive_57 : decode b_Mo_arrive 57 = .ok (.invokestatic 69, 3) := by decide +kernel
theorem d_Mo_arrive_60 : decode b_Mo_arrive 60 = .ok (.ifCond .eq 16, 3) := by decide +kernel
theorem d_Mo_arrive_63 : decode b_Mo_arrive 63 = .ok (.aload_n 0, 1) := by decide +kernel
theorem d_Mo_arrive_64 : decode b_Mo_arrive 64 = .ok (.getfield 160, 3) := by decide +kernel
theorem d_Mo_arrive_67 : decode b_Mo_arrive 67 = .ok (.bipush 40, 2) := by decide +kernel
theorem d_Mo_arrive_69 : decode b_Mo_arrive 69 = .ok (.if_icmp .ge 7, 3) := by decide +kernel
theorem d_Mo_arrive_72 : decode b_Mo_arrive 72 = .ok (.iconst 1, 1) := by decide +kernel
theorem d_Mo_arrive_73 : decode b_Mo_arrive 73 = .ok (.goto 4, 3) := by decide +kernel
theorem d_Mo_arrive_76 : decode b_Mo_arrive 76 = .ok (.iconst 0, 1) := by decide +kernel
theorem d_Mo_arrive_77 : decode b_Mo_arrive 77 = .ok (.istore 5, 2) := by decide +kernel
theorem d_Mo_arrive_79 : decode b_Mo_arrive 79 = .ok (.iload 5, 2) := by decide +kernel
theorem d_Mo_arrive_81 : decode b_Mo_arrive 81 = .ok (.ifCond .eq 56, 3) := by decide +kernel
theorem d_Mo_arrive_84 : decode b_Mo_arrive 84 = .ok (.aload_n 0, 1) := by decide +kernel
theorem d_Mo_arrive_85 : decode b_Mo_arrive 85 = .ok (.getfield 48, 3) := by decide +kernel
theorem d_Mo_arrive_88 : decode b_Mo_arrive 88 = .ok (.aload_n 0, 1) := by decide +kernel
theorem d_Mo_arrive_89 : decode b_Mo_arrive 89 = .ok (.getfield 160, 3) := by decide +kernel
theorem d_Mo_arrive_92 : decode b_Mo_arrive 92 = .ok (.iload_n 2, 1) := by decide +kernel
theorem d_Mo_arrive_93 : decode b_Mo_arrive 93 = .ok (.ifCond .ne 9, 3) := by decide +kernel
theorem d_Mo_arrive_96 : decode b_Mo_arrive 96 = .ok (.iload_n 1, 1) := by decide +kernel
theorem d_Mo_arrive_97 : decode b_Mo_arrive 97 = .ok (.iconst 1, 1) := by decide +kernel
theorem d_Mo_arrive_98 : decode b_Mo_arrive 98 = .ok (.iadd, 1) := by decide +kernel
theorem d_Mo_arrive_99 : decode b_Mo_arrive 99 = .ok (.goto 6, 3) := by decide +kernel
theorem d_Mo_arrive_102 : decode b_Mo_arrive 102 = .ok (.iload_n 1, 1) := by decide +kernel
theorem d_Mo_arrive_103 : decode b_Mo_arrive 103 = .ok (.iconst 1, 1) := by decide +kernel
theorem d_Mo_arrive_104 : decode b_Mo_arrive 104 = .ok (.isub, 1) := by decide +kernel
theorem d_Mo_arrive_105 : decode b_Mo_arrive 105 = .ok (.iastore, 1) := by decide +kernel
theorem d_Mo_arrive_106 : decode b_Mo_arrive 106 = .ok (.aload_n 0, 1) := by decide +kernel
theorem d_Mo_arrive_107 : decode b_Mo_arrive 107 = .ok (.getfield 51, 3) := by decide +kernel
theorem d_Mo_arrive_110 : decode b_Mo_arrive 110 = .ok (.aload_n 0, 1) := by decide +kernel
theorem d_Mo_arrive_111 : decode b_Mo_arrive 111 = .ok (.getfield 160, 3) := by decide +kernel
theorem d_Mo_arrive_114 : decode b_Mo_arrive 114 = .ok (.iload_n 3, 1) := by decide +kernel
theorem d_Mo_arrive_115 : decode b_Mo_arrive 115 = .ok (.iastore, 1) := by decide +kernel
theorem d_Mo_arrive_116 : decode b_Mo_arrive 116 = .ok (.aload_n 0, 1) := by decide +kernel
theorem d_Mo_arrive_117 : decode b_Mo_arrive 117 = .ok (.getfield 54, 3) := by decide +kernel
theorem d_Mo_arrive_120 : decode b_Mo_arrive 120 = .ok (.aload_n 0, 1) := by decide +kernel
theorem d_Mo_arrive_121 : decode b_Mo_arrive 121 = .ok (.getfield 160, 3) := by decide +kernel
theorem d_Mo_arrive_124 : decode b_Mo_arrive 124 = .ok (.iload 4, 2) := by decide +kernel
theorem d_Mo_arrive_126 : decode b_Mo_arrive 126 = .ok (.iastore, 1) := by decide +kernel
theorem d_Mo_arrive_127 : decode b_Mo_arrive 127 = .ok (.aload_n 0, 1) := by decide +kernel
theorem d_Mo_arrive_128 : decode b_Mo_arrive 128 = .ok (.dup, 1) := by decide +kernel
theorem d_Mo_arrive_129 : decode b_Mo_arrive 129 = .ok (.getfield 160, 3) := by decide +kernel
theorem d_Mo_arrive_132 : decode b_Mo_arrive 132 = .ok (.iconst 1, 1) := by decide +kernel
theorem d_Mo_arrive_133 : decode b_Mo_arrive 133 = .ok (.iadd, 1) := by decide +kernel
theorem d_Mo_arrive_134 : decode b_Mo_arrive 134 = .ok (.putfield 160, 3) := by decide +kernel
theorem d_Mo_arrive_137 : decode b_Mo_arrive 137 = .ok (.iload 5, 2) := by decide +kernel
theorem d_Mo_arrive_139 : decode b_Mo_arrive 139 = .ok (.ireturn, 1) := by decide +kernel
theorem d_Mo_delay_0 : decode b_Mo_delay 0 = .ok (.aload_n 0, 1) := by decide +kernel
theorem d_Mo_delay_1 : decode b_Mo_delay 1 = .ok (.getfield 81, 3) := by decide +kernel
theorem d_Mo_delay_4 : decode b_Mo_delay 4 = .ok (.ifCond .eq 13, 3) := by decide +kernel
theorem d_Mo_delay_7 : decode b_Mo_delay 7 = .ok (.iload_n 1, 1) := by decide +kernel
theorem d_Mo_delay_8 : decode b_Mo_delay 8 = .ok (.i2l, 1) := by decide +kernel
theorem d_Mo_delay_9 : decode b_Mo_delay 9 = .ok (.lconst 0, 1) := by decide +kernel
theorem d_Mo_delay_10 : decode b_Mo_delay 10 = .ok (.lconst 1, 1) := by decide +kernel
theorem d_Mo_delay_11 : decode b_Mo_delay 11 = .ok (.invokestatic 69, 3) := by decide +kernel
theorem d_Mo_delay_14 : decode b_Mo_delay 14 = .ok (.ifCond .ne 7, 3) := by decide +kernel
theorem d_Mo_delay_17 : decode b_Mo_delay 17 = .ok (.ldc2_w 145, 3) := by decide +kernel
theorem d_Mo_delay_20 : decode b_Mo_delay 20 = .ok (.lreturn, 1) := by decide +kernel
theorem d_Mo_delay_21 : decode b_Mo_delay 21 = .ok (.aload_n 0, 1) := by decide +kernel
theorem d_Mo_delay_22 : decode b_Mo_delay 22 = .ok (.invokevirtual 153, 3) := by decide +kernel
theorem d_Mo_delay_25 : decode b_Mo_delay 25 = .ok (.lconst 0, 1) := by decide +kernel
theorem d_Mo_delay_26 : decode b_Mo_delay 26 = .ok (.lstore_n 2, 1) := by decide +kernel
theorem d_Mo_delay_27 : decode b_Mo_delay 27 = .ok (.lconst 0, 1) := by decide +kernel
theorem d_Mo_delay_28 : decode b_Mo_delay 28 = .ok (.lstore 4, 2) := by decide +kernel
theorem d_Mo_delay_30 : decode b_Mo_delay 30 = .ok (.iconst 0, 1) := by decide +kernel
theorem d_Mo_delay_31 : decode b_Mo_delay 31 = .ok (.istore 6, 2) := by decide +kernel
theorem d_Mo_delay_33 : decode b_Mo_delay 33 = .ok (.iload 6, 2) := by decide +kernel
theorem d_Mo_delay_35 : decode b_Mo_delay 35 = .ok (.aload_n 0, 1) := by decide +kernel
theorem d_Mo_delay_36 : decode b_Mo_delay 36 = .ok (.getfield 160, 3) := by decide +kernel
theorem d_Mo_delay_39 : decode b_Mo_delay 39 = .ok (.if_icmp .ge 89, 3) := by decide +kernel
theorem d_Mo_delay_42 : decode b_Mo_delay 42 = .ok (.iconst 0, 1) := by decide +kernel
theorem d_Mo_delay_43 : decode b_Mo_delay 43 = .ok (.istore 7, 2) := by decide +kernel
theorem d_Mo_delay_45 : decode b_Mo_delay 45 = .ok (.aload_n 0, 1) := by decide +kernel
theorem d_Mo_delay_46 : decode b_Mo_delay 46 = .ok (.getfield 44, 3) := by decide +kernel
theorem d_Mo_delay_49 : decode b_Mo_delay 49 = .ok (.bipush 120, 2) := by decide +kernel
theorem d_Mo_delay_51 : decode b_Mo_delay 51 = .ok (.aload_n 0, 1) := by decide +kernel
theorem d_Mo_delay_52 : decode b_Mo_delay 52 = .ok (.getfield 48, 3) := by decide +kernel
theorem d_Mo_delay_55 : decode b_Mo_delay 55 = .ok (.iload 6, 2) := by decide +kernel
theorem d_Mo_delay_57 : decode b_Mo_delay 57 = .ok (.iaload, 1) := by decide +kernel
theorem d_Mo_delay_58 : decode b_Mo_delay 58 = .ok (.imul, 1) := by decide +kernel
theorem d_Mo_delay_59 : decode b_Mo_delay 59 = .ok (.aload_n 0, 1) := by decide +kernel
theorem d_Mo_delay_60 : decode b_Mo_delay 60 = .ok (.getfield 51, 3) := by decide +kernel
theorem d_Mo_delay_63 : decode b_Mo_delay 63 = .ok (.iload 6, 2) := by decide +kernel
theorem d_Mo_delay_65 : decode b_Mo_delay 65 = .ok (.iaload, 1) := by decide +kernel
theorem d_Mo_delay_66 : decode b_Mo_delay 66 = .ok (.iload 7, 2) := by decide +kernel
theorem d_Mo_delay_68 : decode b_Mo_delay 68 = .ok (.iadd, 1) := by decide +kernel
theorem d_Mo_delay_69 : decode b_Mo_delay 69 = .ok (.aload_n 0, 1) := by decide +kernel
theorem d_Mo_delay_70 : decode b_Mo_delay 70 = .ok (.getfield 97, 3) := by decide +kernel
theorem d_Mo_delay_73 : decode b_Mo_delay 73 = .ok (.irem, 1) := by decide +kernel
theorem d_Mo_delay_74 : decode b_Mo_delay 74 = .ok (.iadd, 1) := by decide +kernel
theorem d_Mo_delay_75 : decode b_Mo_delay 75 = .ok (.baload, 1) := by decide +kernel
theorem d_Mo_delay_76 : decode b_Mo_delay 76 = .ok (.ifCond .ne 9, 3) := by decide +kernel
theorem d_Mo_delay_79 : decode b_Mo_delay 79 = .ok (.iinc 7 1, 3) := by decide +kernel
theorem d_Mo_delay_82 : decode b_Mo_delay 82 = .ok (.goto (-37), 3) := by decide +kernel
theorem d_Mo_delay_85 : decode b_Mo_delay 85 = .ok (.lload_n 2, 1) := by decide +kernel
theorem d_Mo_delay_86 : decode b_Mo_delay 86 = .ok (.iload 7, 2) := by decide +kernel
theorem d_Mo_delay_88 : decode b_Mo_delay 88 = .ok (.i2l, 1) := by decide +kernel
theorem d_Mo_delay_89 : decode b_Mo_delay 89 = .ok (.aload_n 0, 1) := by decide +kernel
theorem d_Mo_delay_90 : decode b_Mo_delay 90 = .ok (.getfield 54, 3) := by decide +kernel
theorem d_Mo_delay_93 : decode b_Mo_delay 93 = .ok (.iload 6, 2) := by decide +kernel
theorem d_Mo_delay_95 : decode b_Mo_delay 95 = .ok (.iaload, 1) := by decide +kernel
theorem d_Mo_delay_96 : decode b_Mo_delay 96 = .ok (.i2l, 1) := by decide +kernel
theorem d_Mo_delay_97 : decode b_Mo_delay 97 = .ok (.lmul, 1) := by decide +kernel
theorem d_Mo_delay_98 : decode b_Mo_delay 98 = .ok (.ladd, 1) := by decide +kernel
theorem d_Mo_delay_99 : decode b_Mo_delay 99 = .ok (.lstore_n 2, 1) := by decide +kernel
theorem d_Mo_delay_100 : decode b_Mo_delay 100 = .ok (.lload 4, 2) := by decide +kernel
theorem d_Mo_delay_102 : decode b_Mo_delay 102 = .ok (.iload 7, 2) := by decide +kernel
theorem d_Mo_delay_104 : decode b_Mo_delay 104 = .ok (.ifCond .ne 14, 3) := by decide +kernel
theorem d_Mo_delay_107 : decode b_Mo_delay 107 = .ok (.aload_n 0, 1) := by decide +kernel
theorem d_Mo_delay_108 : decode b_Mo_delay 108 = .ok (.getfield 54, 3) := by decide +kernel
theorem d_Mo_delay_111 : decode b_Mo_delay 111 = .ok (.iload 6, 2) := by decide +kernel
theorem d_Mo_delay_113 : decode b_Mo_delay 113 = .ok (.iaload, 1) := by decide +kernel
theorem d_Mo_delay_114 : decode b_Mo_delay 114 = .ok (.i2l, 1) := by decide +kernel
theorem d_Mo_delay_115 : decode b_Mo_delay 115 = .ok (.goto 4, 3) := by decide +kernel
theorem d_Mo_delay_118 : decode b_Mo_delay 118 = .ok (.lconst 0, 1) := by decide +kernel
theorem d_Mo_delay_119 : decode b_Mo_delay 119 = .ok (.ladd, 1) := by decide +kernel
theorem d_Mo_delay_120 : decode b_Mo_delay 120 = .ok (.lstore 4, 2) := by decide +kernel
theorem d_Mo_delay_122 : decode b_Mo_delay 122 = .ok (.iinc 6 1, 3) := by decide +kernel
theorem d_Mo_delay_125 : decode b_Mo_delay 125 = .ok (.goto (-92), 3) := by decide +kernel
theorem d_Mo_delay_128 : decode b_Mo_delay 128 = .ok (.iload_n 1, 1) := by decide +kernel
theorem d_Mo_delay_129 : decode b_Mo_delay 129 = .ok (.ifCond .ne 7, 3) := by decide +kernel
theorem d_Mo_delay_132 : decode b_Mo_delay 132 = .ok (.lload_n 2, 1) := by decide +kernel
theorem d_Mo_delay_133 : decode b_Mo_delay 133 = .ok (.goto 5, 3) := by decide +kernel
theorem d_Mo_delay_136 : decode b_Mo_delay 136 = .ok (.lload 4, 2) := by decide +kernel
theorem d_Mo_delay_138 : decode b_Mo_delay 138 = .ok (.lreturn, 1) := by decide +kernel
set_option maxRecDepth 50000 in
theorem lk_470 : Cond.constantLong R_Mo 122 200000 ∈ lw_good := List.mem_filter.mpr ⟨List.mem_append_right _ (List.mem_of_getElem? (i := 728) (by decide +kernel)), rfl⟩
set_option maxRecDepth 50000 in
theorem lk_471 : Cond.methodLink R_Mo 124 y_Mo_allRows ∈ lw_good := List.mem_filter.mpr ⟨List.mem_append_right _ (List.mem_of_getElem? (i := 729) (by decide +kernel)), rfl⟩
set_option maxRecDepth 50000 in
theorem lk_472 : Cond.code y_Mo_allRows b_Mo_allRows 4 (some .long) ∈ lw_good := List.mem_filter.mpr ⟨List.mem_append_right _ (List.mem_of_getElem? (i := 732) rfl), rfl⟩
set_option maxRecDepth 50000 in
theorem lk_473 : Cond.instanceMethod y_Mo_allRows ∈ lw_good := List.mem_filter.mpr ⟨List.mem_append_right _ (List.mem_of_getElem? (i := 731) (by decide +kernel)), rfl⟩
set_option maxRecDepth 50000 in
theorem lk_474 : Cond.selects R_Mo y_Mo_allRows y_Mo_allRows ∈ lw_good := List.mem_filter.mpr ⟨List.mem_append_left _ (List.mem_of_getElem? (i := 11) (by decide +kernel)), rfl⟩
set_option maxRecDepth 50000 in
theorem lk_475 : Cond.methodLink R_Mo 128 y_Mo_worth ∈ lw_good := List.mem_filter.mpr ⟨List.mem_append_right _ (List.mem_of_getElem? (i := 745) (by decide +kernel)), rfl⟩
set_option maxRecDepth 50000 in
theorem lk_476 : Cond.code y_Mo_worth b_Mo_worth 3 (some .long) ∈ lw_good := List.mem_filter.mpr ⟨List.mem_append_right _ (List.mem_of_getElem? (i := 748) rfl), rfl⟩
set_option maxRecDepth 50000 in
theorem lk_477 : Cond.instanceMethod y_Mo_worth ∈ lw_good := List.mem_filter.mpr ⟨List.mem_append_right _ (List.mem_of_getElem? (i := 747) (by decide +kernel)), rfl⟩
set_option maxRecDepth 50000 in
theorem lk_478 : Cond.selects R_Mo y_Mo_worth y_Mo_worth ∈ lw_good := List.mem_filter.mpr ⟨List.mem_append_left _ (List.mem_of_getElem? (i := 15) (by decide +kernel)), rfl⟩
set_option maxRecDepth 50000 in
theorem lk_479 : Cond.methodLink R_Mo 132 y_Mo_goesOn ∈ lw_good := List.mem_filter.mpr ⟨List.mem_append_right _ (List.mem_of_getElem? (i := 761) (by decide +kernel)), rfl⟩
set_option maxRecDepth 50000 in
theorem lk_480 : Cond.code y_Mo_goesOn b_Mo_goesOn 3 (some .boolean) ∈ lw_good := List.mem_filter.mpr ⟨List.mem_append_right _ (List.mem_of_getElem? (i := 764) rfl), rfl⟩
set_option maxRecDepth 50000 in
theorem lk_481 : Cond.instanceMethod y_Mo_goesOn ∈ lw_good := List.mem_filter.mpr ⟨List.mem_append_right _ (List.mem_of_getElem? (i := 763) (by decide +kernel)), rfl⟩
set_option maxRecDepth 50000 in
theorem lk_482 : Cond.selects R_Mo y_Mo_goesOn y_Mo_goesOn ∈ lw_good := List.mem_filter.mpr ⟨List.mem_append_left _ (List.mem_of_getElem? (i := 19) (by decide +kernel)), rfl⟩
set_option maxRecDepth 50000 in
theorem lk_483 : Cond.fieldLink R_Mo 135 "WaveOffsetsModel" "aim" "I" ∈ lw_good := List.mem_filter.mpr ⟨List.mem_append_right _ (List.mem_of_getElem? (i := 627) (by decide +kernel)), rfl⟩
set_option maxRecDepth 50000 in
theorem lk_484 : Cond.fieldLink R_Mo 138 "WaveOffsetsModel" "proved" "Z" ∈ lw_good := List.mem_filter.mpr ⟨List.mem_append_right _ (List.mem_of_getElem? (i := 628) (by decide +kernel)), rfl⟩
set_option maxRecDepth 50000 in
theorem lk_485 : Cond.methodLink R_Mo 141 y_Mo_common ∈ lw_good := List.mem_filter.mpr ⟨List.mem_append_right _ (List.mem_of_getElem? (i := 777) (by decide +kernel)), rfl⟩
set_option maxRecDepth 50000 in
theorem lk_486 : Cond.code y_Mo_common b_Mo_common 10 (some .long) ∈ lw_good := List.mem_filter.mpr ⟨List.mem_append_right _ (List.mem_of_getElem? (i := 779) rfl), rfl⟩
set_option maxRecDepth 50000 in
theorem lk_487 : Cond.static y_Mo_common ∈ lw_good := List.mem_filter.mpr ⟨List.mem_append_right _ (List.mem_of_getElem? (i := 778) (by decide +kernel)), rfl⟩
set_option maxRecDepth 50000 in
theorem lk_488 : Cond.constantLong R_Mo 145 (-1) ∈ lw_good := List.mem_filter.mpr ⟨List.mem_append_right _ (List.mem_of_getElem? (i := 773) (by decide +kernel)), rfl⟩
set_option maxRecDepth 50000 in
theorem lk_489 : Cond.methodLink R_Mo 147 y_Mo_share ∈ lw_good := List.mem_filter.mpr ⟨List.mem_append_right _ (List.mem_of_getElem? (i := 774) (by decide +kernel)), rfl⟩
set_option maxRecDepth 50000 in
theorem lk_490 : Cond.code y_Mo_share b_Mo_share 7 (some .long) ∈ lw_good := List.mem_filter.mpr ⟨List.mem_append_right _ (List.mem_of_getElem? (i := 776) rfl), rfl⟩
set_option maxRecDepth 50000 in
theorem lk_491 : Cond.static y_Mo_share ∈ lw_good := List.mem_filter.mpr ⟨List.mem_append_right _ (List.mem_of_getElem? (i := 775) (by decide +kernel)), rfl⟩
set_option maxRecDepth 50000 in
theorem lk_492 : Cond.constantLong R_Mo 151 2 ∈ lw_good := List.mem_filter.mpr ⟨List.mem_append_right _ (List.mem_of_getElem? (i := 788) (by decide +kernel)), rfl⟩
set_option maxRecDepth 50000 in
theorem lk_493 : Cond.methodLink R_Mo 153 y_Mo_layPlan ∈ lw_good := List.mem_filter.mpr ⟨List.mem_append_right _ (List.mem_of_getElem? (i := 793) (by decide +kernel)), rfl⟩
set_option maxRecDepth 50000 in
theorem lk_494 : Cond.code y_Mo_layPlan b_Mo_layPlan 2 none ∈ lw_good := List.mem_filter.mpr ⟨List.mem_append_right _ (List.mem_of_getElem? (i := 796) rfl), rfl⟩
set_option maxRecDepth 50000 in
theorem lk_495 : Cond.instanceMethod y_Mo_layPlan ∈ lw_good := List.mem_filter.mpr ⟨List.mem_append_right _ (List.mem_of_getElem? (i := 795) (by decide +kernel)), rfl⟩
set_option maxRecDepth 50000 in
theorem lk_496 : Cond.selects R_Mo y_Mo_layPlan y_Mo_layPlan ∈ lw_good := List.mem_filter.mpr ⟨List.mem_append_left _ (List.mem_of_getElem? (i := 20) (by decide +kernel)), rfl⟩
set_option maxRecDepth 50000 in
theorem lk_497 : Cond.constantLong R_Mo 156 10000 ∈ lw_good := List.mem_filter.mpr ⟨List.mem_append_right _ (List.mem_of_getElem? (i := 805) (by decide +kernel)), rfl⟩
set_option maxRecDepth 50000 in
theorem lk_498 : Cond.constantLong R_Mo 158 1000 ∈ lw_good := List.mem_filter.mpr ⟨List.mem_append_right _ (List.mem_of_getElem? (i := 806) (by decide +kernel)), rfl⟩
set_option maxRecDepth 50000 in
theorem lk_499 : Cond.fieldLink R_Mo 160 "WaveOffsetsModel" "arrivals" "I" ∈ lw_good := List.mem_filter.mpr ⟨List.mem_append_right _ (List.mem_of_getElem? (i := 632) (by decide +kernel)), rfl⟩
set_option maxRecDepth 50000 in
theorem lk_500 : Cond.fieldLink R_Mo 48 "WaveOffsetsModel" "places" "[I" ∈ lw_good := List.mem_filter.mpr ⟨List.mem_append_right _ (List.mem_of_getElem? (i := 633) (by decide +kernel)), rfl⟩
set_option maxRecDepth 50000 in
theorem lk_501 : Cond.fieldLink R_Mo 51 "WaveOffsetsModel" "times" "[I" ∈ lw_good := List.mem_filter.mpr ⟨List.mem_append_right _ (List.mem_of_getElem? (i := 634) (by decide +kernel)), rfl⟩
set_option maxRecDepth 50000 in
theorem lk_502 : Cond.fieldLink R_Mo 54 "WaveOffsetsModel" "cars" "[I" ∈ lw_good := List.mem_filter.mpr ⟨List.mem_append_right _ (List.mem_of_getElem? (i := 635) (by decide +kernel)), rfl⟩
def p_Mo_run_82 (n : Nat) : Nat → Int32 → (Nat → Int32) → (Nat → Int32) → Int32 → Int64 → Int64 → Int64 → Int32 → Int32 → Int32 → Int32 → (Nat → Int32) → (Nat → Int32) → Option ((Nat → Int32) × (Nat → Int32))
  | 0, _, _, _, _, _, _, _, _, _, _, _, _, _ => none
  | k + 1, v_t_crossings, v_t_greens, v_t_queues, z1, z2, z4, z6, z8, z9, z10, z11, v_t_row, v_t_open =>
    if v_t_crossings ≤ z11 then
      some (v_t_row, v_t_open)
    else
      if z10 = 0 then
        some (v_t_row, v_t_open)
      else
        if dk_in z11 5 = true then
          (p_Mo_lay n z11 (0 : Int32) z9 v_t_greens v_t_queues v_t_open).bind fun r110_13 =>
          p_Mo_run_82 n k v_t_crossings v_t_greens v_t_queues z1 z2 z4 z6 z8 z9 z10 (z11 + (1 : Int32)) (upd v_t_row z11.toNatClampNeg (0 : Int32)) r110_13
        else none
theorem q_Mo_run_82 (n k : Nat) (v_t_crossings : Int32) (v_t_greens : Nat → Int32) (v_t_queues : Nat → Int32) (z1 : Int32) (z2 : Int64) (z4 : Int64) (z6 : Int64) (z8 : Int32) (z9 : Int32) (z10 : Int32) (z11 : Int32) (v_t_row : Nat → Int32) (v_t_open : Nat → Int32) : p_Mo_run_82 n (k + 1) v_t_crossings v_t_greens v_t_queues z1 z2 z4 z6 z8 z9 z10 z11 v_t_row v_t_open =
    if v_t_crossings ≤ z11 then
      some (v_t_row, v_t_open)
    else
      if z10 = 0 then
        some (v_t_row, v_t_open)
      else
        if dk_in z11 5 = true then
          (p_Mo_lay n z11 (0 : Int32) z9 v_t_greens v_t_queues v_t_open).bind fun r110_13 =>
          p_Mo_run_82 n k v_t_crossings v_t_greens v_t_queues z1 z2 z4 z6 z8 z9 z10 (z11 + (1 : Int32)) (upd v_t_row z11.toNatClampNeg (0 : Int32)) r110_13
        else none := rfl
def p_Mo_run_213 (n : Nat) : Nat → Int32 → Int32 → Int64 → Int64 → Int64 → Int32 → Int32 → Int32 → (Nat → Int32) → (Nat → Int32) → Option ((Nat → Int32))
  | 0, _, _, _, _, _, _, _, _, _, _ => none
  | k + 1, v_t_crossings, z1, z2, z4, z6, z8, z9, z14, v_t_offsets, v_t_row =>
    if v_t_crossings ≤ z14 then
      some v_t_offsets
    else
      if dk_in z14 5 = true then
        if dk_in z14 5 = true then
          p_Mo_run_213 n k v_t_crossings z1 z2 z4 z6 z8 z9 (z14 + (1 : Int32)) (upd v_t_offsets z14.toNatClampNeg (v_t_row z14.toNatClampNeg)) v_t_row
        else none
      else none
theorem q_Mo_run_213 (n k : Nat) (v_t_crossings : Int32) (z1 : Int32) (z2 : Int64) (z4 : Int64) (z6 : Int64) (z8 : Int32) (z9 : Int32) (z14 : Int32) (v_t_offsets : Nat → Int32) (v_t_row : Nat → Int32) : p_Mo_run_213 n (k + 1) v_t_crossings z1 z2 z4 z6 z8 z9 z14 v_t_offsets v_t_row =
    if v_t_crossings ≤ z14 then
      some v_t_offsets
    else
      if dk_in z14 5 = true then
        if dk_in z14 5 = true then
          p_Mo_run_213 n k v_t_crossings z1 z2 z4 z6 z8 z9 (z14 + (1 : Int32)) (upd v_t_offsets z14.toNatClampNeg (v_t_row z14.toNatClampNeg)) v_t_row
        else none
      else none := rfl
def p_Mo_run_119 (n : Nat) : Nat → Int32 → Int32 → (Nat → Int32) → (Nat → Int32) → (Nat → Int32) → (Nat → Int32) → Int32 → Int64 → Int64 → Int64 → Int32 → Int32 → Int32 → (Nat → Int32) → (Nat → Int32) → (Nat → Int32) → Option (Int64 × Int64 × Int32 × (Nat → Int32) × (Nat → Int32) × (Nat → Int32))
  | 0, _, _, _, _, _, _, _, _, _, _, _, _, _, _, _, _ => none
  | k + 1, v_t_crossings, v_t_step, v_t_greens, v_t_queues, v_t_seconds, v_t_weights, z1, z2, z4, z6, z8, z9, z10, v_t_offsets, v_t_row, v_t_open =>
    if z10 = 0 then
      some (z4, z6, z8, v_t_offsets, v_t_row, v_t_open)
    else
      if 0 ≤ (lg_cmp z4 z2) then
        some (z4, z6, z8, v_t_offsets, v_t_row, v_t_open)
      else
        (p_Mo_worth n z9 z1 v_t_crossings v_t_open v_t_seconds v_t_weights).bind fun r141_17 =>
        if z8 = 0 then
          (p_Mo_run_213 n n v_t_crossings z1 z2 (z4 + (1 : Int64)) r141_17 z9 z9 (0 : Int32) v_t_offsets v_t_row).bind fun q213_21 =>
          (p_Mo_goesOn n z9 v_t_crossings v_t_step v_t_greens v_t_queues v_t_row v_t_open).bind fun r245_22 =>
          p_Mo_run_119 n k v_t_crossings v_t_step v_t_greens v_t_queues v_t_seconds v_t_weights z1 z2 (z4 + (1 : Int64)) r141_17 z9 z9 r245_22.1 q213_21 r245_22.2.1 r245_22.2.2
        else
          if z1 = 0 then
            if (lg_cmp (r141_17 * z8.toInt64) (z6 * z9.toInt64)) ≤ 0 then
              (p_Mo_goesOn n z9 v_t_crossings v_t_step v_t_greens v_t_queues v_t_row v_t_open).bind fun r245_32 =>
              p_Mo_run_119 n k v_t_crossings v_t_step v_t_greens v_t_queues v_t_seconds v_t_weights z1 z2 (z4 + (1 : Int64)) z6 z8 z9 r245_32.1 v_t_offsets r245_32.2.1 r245_32.2.2
            else
              (p_Mo_run_213 n n v_t_crossings z1 z2 (z4 + (1 : Int64)) r141_17 z9 z9 (0 : Int32) v_t_offsets v_t_row).bind fun q213_34 =>
              (p_Mo_goesOn n z9 v_t_crossings v_t_step v_t_greens v_t_queues v_t_row v_t_open).bind fun r245_35 =>
              p_Mo_run_119 n k v_t_crossings v_t_step v_t_greens v_t_queues v_t_seconds v_t_weights z1 z2 (z4 + (1 : Int64)) r141_17 z9 z9 r245_35.1 q213_34 r245_35.2.1 r245_35.2.2
          else
            if 0 ≤ (lg_cmp (r141_17 * z8.toInt64) (z6 * z9.toInt64)) then
              (p_Mo_goesOn n z9 v_t_crossings v_t_step v_t_greens v_t_queues v_t_row v_t_open).bind fun r245_26 =>
              p_Mo_run_119 n k v_t_crossings v_t_step v_t_greens v_t_queues v_t_seconds v_t_weights z1 z2 (z4 + (1 : Int64)) z6 z8 z9 r245_26.1 v_t_offsets r245_26.2.1 r245_26.2.2
            else
              (p_Mo_run_213 n n v_t_crossings z1 z2 (z4 + (1 : Int64)) r141_17 z9 z9 (0 : Int32) v_t_offsets v_t_row).bind fun q213_28 =>
              (p_Mo_goesOn n z9 v_t_crossings v_t_step v_t_greens v_t_queues v_t_row v_t_open).bind fun r245_29 =>
              p_Mo_run_119 n k v_t_crossings v_t_step v_t_greens v_t_queues v_t_seconds v_t_weights z1 z2 (z4 + (1 : Int64)) r141_17 z9 z9 r245_29.1 q213_28 r245_29.2.1 r245_29.2.2
theorem q_Mo_run_119 (n k : Nat) (v_t_crossings : Int32) (v_t_step : Int32) (v_t_greens : Nat → Int32) (v_t_queues : Nat → Int32) (v_t_seconds : Nat → Int32) (v_t_weights : Nat → Int32) (z1 : Int32) (z2 : Int64) (z4 : Int64) (z6 : Int64) (z8 : Int32) (z9 : Int32) (z10 : Int32) (v_t_offsets : Nat → Int32) (v_t_row : Nat → Int32) (v_t_open : Nat → Int32) : p_Mo_run_119 n (k + 1) v_t_crossings v_t_step v_t_greens v_t_queues v_t_seconds v_t_weights z1 z2 z4 z6 z8 z9 z10 v_t_offsets v_t_row v_t_open =
    if z10 = 0 then
      some (z4, z6, z8, v_t_offsets, v_t_row, v_t_open)
    else
      if 0 ≤ (lg_cmp z4 z2) then
        some (z4, z6, z8, v_t_offsets, v_t_row, v_t_open)
      else
        (p_Mo_worth n z9 z1 v_t_crossings v_t_open v_t_seconds v_t_weights).bind fun r141_17 =>
        if z8 = 0 then
          (p_Mo_run_213 n n v_t_crossings z1 z2 (z4 + (1 : Int64)) r141_17 z9 z9 (0 : Int32) v_t_offsets v_t_row).bind fun q213_21 =>
          (p_Mo_goesOn n z9 v_t_crossings v_t_step v_t_greens v_t_queues v_t_row v_t_open).bind fun r245_22 =>
          p_Mo_run_119 n k v_t_crossings v_t_step v_t_greens v_t_queues v_t_seconds v_t_weights z1 z2 (z4 + (1 : Int64)) r141_17 z9 z9 r245_22.1 q213_21 r245_22.2.1 r245_22.2.2
        else
          if z1 = 0 then
            if (lg_cmp (r141_17 * z8.toInt64) (z6 * z9.toInt64)) ≤ 0 then
              (p_Mo_goesOn n z9 v_t_crossings v_t_step v_t_greens v_t_queues v_t_row v_t_open).bind fun r245_32 =>
              p_Mo_run_119 n k v_t_crossings v_t_step v_t_greens v_t_queues v_t_seconds v_t_weights z1 z2 (z4 + (1 : Int64)) z6 z8 z9 r245_32.1 v_t_offsets r245_32.2.1 r245_32.2.2
            else
              (p_Mo_run_213 n n v_t_crossings z1 z2 (z4 + (1 : Int64)) r141_17 z9 z9 (0 : Int32) v_t_offsets v_t_row).bind fun q213_34 =>
              (p_Mo_goesOn n z9 v_t_crossings v_t_step v_t_greens v_t_queues v_t_row v_t_open).bind fun r245_35 =>
              p_Mo_run_119 n k v_t_crossings v_t_step v_t_greens v_t_queues v_t_seconds v_t_weights z1 z2 (z4 + (1 : Int64)) r141_17 z9 z9 r245_35.1 q213_34 r245_35.2.1 r245_35.2.2
          else
            if 0 ≤ (lg_cmp (r141_17 * z8.toInt64) (z6 * z9.toInt64)) then
              (p_Mo_goesOn n z9 v_t_crossings v_t_step v_t_greens v_t_queues v_t_row v_t_open).bind fun r245_26 =>
              p_Mo_run_119 n k v_t_crossings v_t_step v_t_greens v_t_queues v_t_seconds v_t_weights z1 z2 (z4 + (1 : Int64)) z6 z8 z9 r245_26.1 v_t_offsets r245_26.2.1 r245_26.2.2
            else
              (p_Mo_run_213 n n v_t_crossings z1 z2 (z4 + (1 : Int64)) r141_17 z9 z9 (0 : Int32) v_t_offsets v_t_row).bind fun q213_28 =>
              (p_Mo_goesOn n z9 v_t_crossings v_t_step v_t_greens v_t_queues v_t_row v_t_open).bind fun r245_29 =>
              p_Mo_run_119 n k v_t_crossings v_t_step v_t_greens v_t_queues v_t_seconds v_t_weights z1 z2 (z4 + (1 : Int64)) r141_17 z9 z9 r245_29.1 q213_28 r245_29.2.1 r245_29.2.2 := rfl
def p_Mo_run_55 (n : Nat) : Nat → Int32 → Int32 → (Nat → Int32) → Int32 → Int32 → (Nat → Int32) → (Nat → Int32) → (Nat → Int32) → (Nat → Int32) → Int32 → Int64 → Int64 → Int64 → Int32 → Int32 → (Nat → Int32) → (Nat → Int32) → (Nat → Int32) → Option (Int64 × Int32 × (Nat → Int32) × (Nat → Int32) × (Nat → Int32))
  | 0, _, _, _, _, _, _, _, _, _, _, _, _, _, _, _, _, _, _ => none
  | k + 1, v_t_crossings, v_t_last, v_t_leasts, v_t_by, v_t_step, v_t_greens, v_t_queues, v_t_seconds, v_t_weights, z1, z2, z4, z6, z8, z9, v_t_offsets, v_t_row, v_t_open =>
    if v_t_last < z9 then
      some (z4, z8, v_t_offsets, v_t_row, v_t_open)
    else
      if 0 ≤ (lg_cmp z4 z2) then
        some (z4, z8, v_t_offsets, v_t_row, v_t_open)
      else
        (p_Mo_mayBe n z9 v_t_crossings v_t_leasts).bind fun r74_10 =>
        (p_Mo_run_82 n n v_t_crossings v_t_greens v_t_queues z1 z2 z4 z6 z8 z9 r74_10 (0 : Int32) v_t_row v_t_open).bind fun q82_14 =>
        (p_Mo_run_119 n n v_t_crossings v_t_step v_t_greens v_t_queues v_t_seconds v_t_weights z1 z2 z4 z6 z8 z9 r74_10 v_t_offsets q82_14.1 q82_14.2).bind fun q119_36 =>
        p_Mo_run_55 n k v_t_crossings v_t_last v_t_leasts v_t_by v_t_step v_t_greens v_t_queues v_t_seconds v_t_weights z1 z2 q119_36.1 q119_36.2.1 q119_36.2.2.1 (z9 + v_t_by) q119_36.2.2.2.1 q119_36.2.2.2.2.1 q119_36.2.2.2.2.2
theorem q_Mo_run_55 (n k : Nat) (v_t_crossings : Int32) (v_t_last : Int32) (v_t_leasts : Nat → Int32) (v_t_by : Int32) (v_t_step : Int32) (v_t_greens : Nat → Int32) (v_t_queues : Nat → Int32) (v_t_seconds : Nat → Int32) (v_t_weights : Nat → Int32) (z1 : Int32) (z2 : Int64) (z4 : Int64) (z6 : Int64) (z8 : Int32) (z9 : Int32) (v_t_offsets : Nat → Int32) (v_t_row : Nat → Int32) (v_t_open : Nat → Int32) : p_Mo_run_55 n (k + 1) v_t_crossings v_t_last v_t_leasts v_t_by v_t_step v_t_greens v_t_queues v_t_seconds v_t_weights z1 z2 z4 z6 z8 z9 v_t_offsets v_t_row v_t_open =
    if v_t_last < z9 then
      some (z4, z8, v_t_offsets, v_t_row, v_t_open)
    else
      if 0 ≤ (lg_cmp z4 z2) then
        some (z4, z8, v_t_offsets, v_t_row, v_t_open)
      else
        (p_Mo_mayBe n z9 v_t_crossings v_t_leasts).bind fun r74_10 =>
        (p_Mo_run_82 n n v_t_crossings v_t_greens v_t_queues z1 z2 z4 z6 z8 z9 r74_10 (0 : Int32) v_t_row v_t_open).bind fun q82_14 =>
        (p_Mo_run_119 n n v_t_crossings v_t_step v_t_greens v_t_queues v_t_seconds v_t_weights z1 z2 z4 z6 z8 z9 r74_10 v_t_offsets q82_14.1 q82_14.2).bind fun q119_36 =>
        p_Mo_run_55 n k v_t_crossings v_t_last v_t_leasts v_t_by v_t_step v_t_greens v_t_queues v_t_seconds v_t_weights z1 z2 q119_36.1 q119_36.2.1 q119_36.2.2.1 (z9 + v_t_by) q119_36.2.2.2.1 q119_36.2.2.2.2.1 q119_36.2.2.2.2.2 := rfl
def p_Mo_run (n : Nat) (x1 : Int32) (x2 : Int64) (v_t_crossings : Int32) (v_t_first : Int32) (v_t_last : Int32) (v_t_leasts : Nat → Int32) (v_t_by : Int32) (v_t_step : Int32) (v_t_greens : Nat → Int32) (v_t_queues : Nat → Int32) (v_t_seconds : Nat → Int32) (v_t_weights : Nat → Int32) (v_t_has : Int32) (v_t_cycle : Int32) (v_t_aim : Int32) (v_t_proved : Int32) (v_t_offsets : Nat → Int32) (v_t_row : Nat → Int32) (v_t_open : Nat → Int32) : Option (Int32 × Int32 × Int32 × Int32 × Int32 × (Nat → Int32) × (Nat → Int32) × (Nat → Int32)) :=
  (p_Mo_isIn n x1.toInt64 (0 : Int64) (1 : Int64)).bind fun r4_1 =>
  if r4_1 = 0 then
    some (((-1) : Int32), v_t_has, v_t_cycle, v_t_aim, v_t_proved, v_t_offsets, v_t_row, v_t_open)
  else
    (p_Mo_isIn n x2 (1 : Int64) (200000 : Int64)).bind fun r15_3 =>
    if r15_3 = 0 then
      some (((-1) : Int32), v_t_has, v_t_cycle, v_t_aim, v_t_proved, v_t_offsets, v_t_row, v_t_open)
    else
      if v_t_crossings < (2 : Int32) then
        some (((-1) : Int32), v_t_has, v_t_cycle, v_t_aim, v_t_proved, v_t_offsets, v_t_row, v_t_open)
      else
        (p_Mo_allRows n v_t_first v_t_last v_t_crossings v_t_leasts v_t_by v_t_step).bind fun r30_6 =>
        if (lg_cmp r30_6 (0 : Int64)) = 0 then
          some (((-1) : Int32), v_t_has, v_t_cycle, v_t_aim, v_t_proved, v_t_offsets, v_t_row, v_t_open)
        else
          (p_Mo_run_55 n n v_t_crossings v_t_last v_t_leasts v_t_by v_t_step v_t_greens v_t_queues v_t_seconds v_t_weights x1 x2 (0 : Int64) (0 : Int64) (0 : Int32) v_t_first v_t_offsets v_t_row v_t_open).bind fun q55_37 =>
          (p_Mo_allRows n v_t_first v_t_last v_t_crossings v_t_leasts v_t_by v_t_step).bind fun r285_38 =>
          if (lg_cmp q55_37.1 r285_38) = 0 then
            some (q55_37.2.1, (1 : Int32), q55_37.2.1, x1, (1 : Int32), q55_37.2.2.1, q55_37.2.2.2.1, q55_37.2.2.2.2)
          else
            some (q55_37.2.1, (1 : Int32), q55_37.2.1, x1, (0 : Int32), q55_37.2.2.1, q55_37.2.2.2.1, q55_37.2.2.2.2)
abbrev m_Mo_run : Room := { frames := 2, cells := 0, slots := 0, locals := 50 }
set_option maxHeartbeats 4000000 in
set_option maxRecDepth 100000 in
theorem c_Mo_run (l : Launch) (G : va_G) (K : Nat → ClassId) (n : Nat) (sz : Nat) (t : Nat) (t_greens : Nat) (t_leasts : Nat) (t_queues : Nat) (t_seconds : Nat) (t_weights : Nat) (t_offsets : Nat) (t_row : Nat) (t_open : Nat) (t_places : Nat) (t_times : Nat) (t_cars : Nat) (t_hourCrossings : Nat) (t_hourCycles : Nat) (t_hourOffsets : Nat) (x1 : Int32) (x2 : Int64) (v_t_crossings : Int32) (v_t_first : Int32) (v_t_last : Int32) (v_t_by : Int32) (v_t_step : Int32) (v_t_has : Int32) (v_t_cycle : Int32) (v_t_aim : Int32) (v_t_proved : Int32) (v_t_arrivals : Int32) (v_t_greens : Nat → Int32) (v_t_leasts : Nat → Int32) (v_t_queues : Nat → Int32) (v_t_seconds : Nat → Int32) (v_t_weights : Nat → Int32) (v_t_offsets : Nat → Int32) (v_t_row : Nat → Int32) (v_t_open : Nat → Int32) (o : Int32 × Int32 × Int32 × Int32 × Int32 × (Nat → Int32) × (Nat → Int32) × (Nat → Int32)) (hF : p_Mo_run n x1 x2 v_t_crossings v_t_first v_t_last v_t_leasts v_t_by v_t_step v_t_greens v_t_queues v_t_seconds v_t_weights v_t_has v_t_cycle v_t_aim v_t_proved v_t_offsets v_t_row v_t_open = some o) :
    Met l y_Mo_run (wd y_Mo_run b_Mo_run 15 (some .int)) m_Mo_run (dk_Pm [.ref t, .int x1, .long x2] G K [(t, .inr (8, [.int v_t_crossings, .ref t_greens, .ref t_leasts, .ref t_queues, .ref t_seconds, .ref t_weights, .int v_t_first, .int v_t_last, .int v_t_by, .int v_t_step, .int v_t_has, .int v_t_cycle, .int v_t_aim, .int v_t_proved, .ref t_offsets, .ref t_row, .ref t_open, .int v_t_arrivals, .ref t_places, .ref t_times, .ref t_cars, .ref t_hourCrossings, .ref t_hourCycles, .ref t_hourOffsets])), (t_greens, .inl (K 0, 5, .inl v_t_greens)), (t_leasts, .inl (K 0, 5, .inl v_t_leasts)), (t_queues, .inl (K 0, 5, .inl v_t_queues)), (t_seconds, .inl (K 0, 10, .inl v_t_seconds)), (t_weights, .inl (K 0, 10, .inl v_t_weights)), (t_offsets, .inl (K 0, 5, .inl v_t_offsets)), (t_row, .inl (K 0, 5, .inl v_t_row)), (t_open, .inl (K 3, 600, .inl v_t_open))] sz) (dk_Qm (some (.int o.1)) G (fun _ : Unit => [(t, .inr (8, [.int v_t_crossings, .ref t_greens, .ref t_leasts, .ref t_queues, .ref t_seconds, .ref t_weights, .int v_t_first, .int v_t_last, .int v_t_by, .int v_t_step, .int o.2.1, .int o.2.2.1, .int o.2.2.2.1, .int o.2.2.2.2.1, .ref t_offsets, .ref t_row, .ref t_open, .int v_t_arrivals, .ref t_places, .ref t_times, .ref t_cars, .ref t_hourCrossings, .ref t_hourCycles, .ref t_hourOffsets])), (t_greens, .inl (K 0, 5, .inl v_t_greens)), (t_leasts, .inl (K 0, 5, .inl v_t_leasts)), (t_queues, .inl (K 0, 5, .inl v_t_queues)), (t_seconds, .inl (K 0, 10, .inl v_t_seconds)), (t_weights, .inl (K 0, 10, .inl v_t_weights)), (t_offsets, .inl (K 0, 5, .inl o.2.2.2.2.2.1)), (t_row, .inl (K 0, 5, .inl o.2.2.2.2.2.2.1)), (t_open, .inl (K 3, 600, .inl o.2.2.2.2.2.2.2))]) (va_A [(t, .inr (8, [.int v_t_crossings, .ref t_greens, .ref t_leasts, .ref t_queues, .ref t_seconds, .ref t_weights, .int v_t_first, .int v_t_last, .int v_t_by, .int v_t_step, .int v_t_has, .int v_t_cycle, .int v_t_aim, .int v_t_proved, .ref t_offsets, .ref t_row, .ref t_open, .int v_t_arrivals, .ref t_places, .ref t_times, .ref t_cars, .ref t_hourCrossings, .ref t_hourCycles, .ref t_hourOffsets])), (t_greens, .inl (K 0, 5, .inl v_t_greens)), (t_leasts, .inl (K 0, 5, .inl v_t_leasts)), (t_queues, .inl (K 0, 5, .inl v_t_queues)), (t_seconds, .inl (K 0, 10, .inl v_t_seconds)), (t_weights, .inl (K 0, 10, .inl v_t_weights)), (t_offsets, .inl (K 0, 5, .inl v_t_offsets)), (t_row, .inl (K 0, 5, .inl v_t_row)), (t_open, .inl (K 3, 600, .inl v_t_open))] sz)) 0 0 (va_A [(t, .inr (8, [.int v_t_crossings, .ref t_greens, .ref t_leasts, .ref t_queues, .ref t_seconds, .ref t_weights, .int v_t_first, .int v_t_last, .int v_t_by, .int v_t_step, .int v_t_has, .int v_t_cycle, .int v_t_aim, .int v_t_proved, .ref t_offsets, .ref t_row, .ref t_open, .int v_t_arrivals, .ref t_places, .ref t_times, .ref t_cars, .ref t_hourCrossings, .ref t_hourCycles, .ref t_hourOffsets])), (t_greens, .inl (K 0, 5, .inl v_t_greens)), (t_leasts, .inl (K 0, 5, .inl v_t_leasts)), (t_queues, .inl (K 0, 5, .inl v_t_queues)), (t_seconds, .inl (K 0, 10, .inl v_t_seconds)), (t_weights, .inl (K 0, 10, .inl v_t_weights)), (t_offsets, .inl (K 0, 5, .inl v_t_offsets)), (t_row, .inl (K 0, 5, .inl v_t_row)), (t_open, .inl (K 3, 600, .inl v_t_open))] sz) := by
  refine Met.ofW (cc := b_Mo_run) (maxL := 15) (ret := (some .int)) (by decide) rfl ?_
  intro p e s m args below meth c s₁ B hml hv
  obtain ⟨rfl, hsz, hP, hK, hN, hD0⟩ := hv
  have hx := B.exec
  have hb := B.bytes
  have hr := B.returns
  have hts : ∀ w ∈ lw_good, w.before _ s = true := fun w h => atoms_spec (ws := wd y_Mo_run b_Mo_run 15 (some .int)) B.pre w (List.mem_cons_of_mem _ h)
  have hown : s.vm.findClass R_Mo = some m.cls := findClass_of_methodNamed B.named
  have hlocks := B.notSynchronized
  have hfix : CallFix p m c b_Mo_run 15 s _ lw_good R_Mo := ⟨hx, hb, hml, hown, hts⟩
  subst hsz
  have hD := hD0.self (sz := s.heap.size)
  generalize hAe : va_A [(t, .inr (8, [.int v_t_crossings, .ref t_greens, .ref t_leasts, .ref t_queues, .ref t_seconds, .ref t_weights, .int v_t_first, .int v_t_last, .int v_t_by, .int v_t_step, .int v_t_has, .int v_t_cycle, .int v_t_aim, .int v_t_proved, .ref t_offsets, .ref t_row, .ref t_open, .int v_t_arrivals, .ref t_places, .ref t_times, .ref t_cars, .ref t_hourCrossings, .ref t_hourCycles, .ref t_hourOffsets])), (t_greens, .inl (K 0, 5, .inl v_t_greens)), (t_leasts, .inl (K 0, 5, .inl v_t_leasts)), (t_queues, .inl (K 0, 5, .inl v_t_queues)), (t_seconds, .inl (K 0, 10, .inl v_t_seconds)), (t_weights, .inl (K 0, 10, .inl v_t_weights)), (t_offsets, .inl (K 0, 5, .inl v_t_offsets)), (t_row, .inl (K 0, 5, .inl v_t_row)), (t_open, .inl (K 3, 600, .inl v_t_open))] s.heap.size = A at hD ⊢
  have hA : ∀ q : Nat, s.heap.size ≤ q → A q := fun q h => by rw [← hAe]; exact Or.inr h
  have hS : va_S A s.heap s.heap [] := va_S.rf
  have hl := lv_entry ([.ref t, .int x1, .long x2]) (n := 15) (Nat.le_of_ble_eq_true rfl)
  rw [lg_entry_eq]
  generalize (lg_sl ([.ref t, .int x1, .long x2]) ++ List.replicate (15 - (lg_sl ([.ref t, .int x1, .long x2])).length) Slot.unset).toArray = ls at hl ⊢
  have hl : lv_has ls 15 [(0, .ref t), (1, .int x1), (2, .long x2)] := hl
  change W p l e m_Mo_run s m _ below meth c s.heap [] 0 0 _ _
  have L82 : ∀ (k : Nat) (z1 : Int32) (z2 : Int64) (z4 : Int64) (z6 : Int64) (z8 : Int32) (z9 : Int32) (z10 : Int32) (z11 : Int32) (v_t_has : Int32) (v_t_cycle : Int32) (v_t_aim : Int32) (v_t_proved : Int32) (v_t_offsets : Nat → Int32) (v_t_row : Nat → Int32) (v_t_open : Nat → Int32) (H : Heap) (locs : List Loc) (q : (Nat → Int32) × (Nat → Int32)), p_Mo_run_82 n k v_t_crossings v_t_greens v_t_queues z1 z2 z4 z6 z8 z9 z10 z11 v_t_row v_t_open = some q → va_P G classes [(t, .inr (8, [.int v_t_crossings, .ref t_greens, .ref t_leasts, .ref t_queues, .ref t_seconds, .ref t_weights, .int v_t_first, .int v_t_last, .int v_t_by, .int v_t_step, .int v_t_has, .int v_t_cycle, .int v_t_aim, .int v_t_proved, .ref t_offsets, .ref t_row, .ref t_open, .int v_t_arrivals, .ref t_places, .ref t_times, .ref t_cars, .ref t_hourCrossings, .ref t_hourCycles, .ref t_hourOffsets])), (t_greens, .inl (K 0, 5, .inl v_t_greens)), (t_leasts, .inl (K 0, 5, .inl v_t_leasts)), (t_queues, .inl (K 0, 5, .inl v_t_queues)), (t_seconds, .inl (K 0, 10, .inl v_t_seconds)), (t_weights, .inl (K 0, 10, .inl v_t_weights)), (t_offsets, .inl (K 0, 5, .inl v_t_offsets)), (t_row, .inl (K 0, 5, .inl v_t_row)), (t_open, .inl (K 3, 600, .inl v_t_open))] H → va_D A [(t, .inr (8, [.int v_t_crossings, .ref t_greens, .ref t_leasts, .ref t_queues, .ref t_seconds, .ref t_weights, .int v_t_first, .int v_t_last, .int v_t_by, .int v_t_step, .int v_t_has, .int v_t_cycle, .int v_t_aim, .int v_t_proved, .ref t_offsets, .ref t_row, .ref t_open, .int v_t_arrivals, .ref t_places, .ref t_times, .ref t_cars, .ref t_hourCrossings, .ref t_hourCycles, .ref t_hourOffsets])), (t_greens, .inl (K 0, 5, .inl v_t_greens)), (t_leasts, .inl (K 0, 5, .inl v_t_leasts)), (t_queues, .inl (K 0, 5, .inl v_t_queues)), (t_seconds, .inl (K 0, 10, .inl v_t_seconds)), (t_weights, .inl (K 0, 10, .inl v_t_weights)), (t_offsets, .inl (K 0, 5, .inl v_t_offsets)), (t_row, .inl (K 0, 5, .inl v_t_row)), (t_open, .inl (K 3, 600, .inl v_t_open))] → va_S A s.heap H locs → ∀ ls : Array Slot, lv_has ls 15 [(0, .ref t), (1, .int z1), (2, .long z2), (4, .long z4), (6, .long z6), (8, .int z8), (9, .int z9), (10, .int z10), (11, .int z11)] → (∀ (H1 : Heap) (locs1 : List Loc) (ls1 : Array Slot), va_P G classes [(t, .inr (8, [.int v_t_crossings, .ref t_greens, .ref t_leasts, .ref t_queues, .ref t_seconds, .ref t_weights, .int v_t_first, .int v_t_last, .int v_t_by, .int v_t_step, .int v_t_has, .int v_t_cycle, .int v_t_aim, .int v_t_proved, .ref t_offsets, .ref t_row, .ref t_open, .int v_t_arrivals, .ref t_places, .ref t_times, .ref t_cars, .ref t_hourCrossings, .ref t_hourCycles, .ref t_hourOffsets])), (t_greens, .inl (K 0, 5, .inl v_t_greens)), (t_leasts, .inl (K 0, 5, .inl v_t_leasts)), (t_queues, .inl (K 0, 5, .inl v_t_queues)), (t_seconds, .inl (K 0, 10, .inl v_t_seconds)), (t_weights, .inl (K 0, 10, .inl v_t_weights)), (t_offsets, .inl (K 0, 5, .inl v_t_offsets)), (t_row, .inl (K 0, 5, .inl q.1)), (t_open, .inl (K 3, 600, .inl q.2))] H1 → va_D A [(t, .inr (8, [.int v_t_crossings, .ref t_greens, .ref t_leasts, .ref t_queues, .ref t_seconds, .ref t_weights, .int v_t_first, .int v_t_last, .int v_t_by, .int v_t_step, .int v_t_has, .int v_t_cycle, .int v_t_aim, .int v_t_proved, .ref t_offsets, .ref t_row, .ref t_open, .int v_t_arrivals, .ref t_places, .ref t_times, .ref t_cars, .ref t_hourCrossings, .ref t_hourCycles, .ref t_hourOffsets])), (t_greens, .inl (K 0, 5, .inl v_t_greens)), (t_leasts, .inl (K 0, 5, .inl v_t_leasts)), (t_queues, .inl (K 0, 5, .inl v_t_queues)), (t_seconds, .inl (K 0, 10, .inl v_t_seconds)), (t_weights, .inl (K 0, 10, .inl v_t_weights)), (t_offsets, .inl (K 0, 5, .inl v_t_offsets)), (t_row, .inl (K 0, 5, .inl q.1)), (t_open, .inl (K 3, 600, .inl q.2))] → va_S A s.heap H1 locs1 → lv_has ls1 15 [(0, .ref t), (1, .int z1), (2, .long z2), (4, .long z4), (6, .long z6), (8, .int z8), (9, .int z9), (10, .int z10)] → W p l e m_Mo_run s m ([.ref t, .int x1, .long x2] : List Value).toArray below meth c H1 locs1 0 0 (MQ below (dk_Qm (some (.int o.1)) G (fun _ : Unit => [(t, .inr (8, [.int v_t_crossings, .ref t_greens, .ref t_leasts, .ref t_queues, .ref t_seconds, .ref t_weights, .int v_t_first, .int v_t_last, .int v_t_by, .int v_t_step, .int o.2.1, .int o.2.2.1, .int o.2.2.2.1, .int o.2.2.2.2.1, .ref t_offsets, .ref t_row, .ref t_open, .int v_t_arrivals, .ref t_places, .ref t_times, .ref t_cars, .ref t_hourCrossings, .ref t_hourCycles, .ref t_hourOffsets])), (t_greens, .inl (K 0, 5, .inl v_t_greens)), (t_leasts, .inl (K 0, 5, .inl v_t_leasts)), (t_queues, .inl (K 0, 5, .inl v_t_queues)), (t_seconds, .inl (K 0, 10, .inl v_t_seconds)), (t_weights, .inl (K 0, 10, .inl v_t_weights)), (t_offsets, .inl (K 0, 5, .inl o.2.2.2.2.2.1)), (t_row, .inl (K 0, 5, .inl o.2.2.2.2.2.2.1)), (t_open, .inl (K 3, 600, .inl o.2.2.2.2.2.2.2))]) A) ([.ref t, .int x1, .long x2] : List Value).toArray s 0 0 A) (F0 m 119 ls1 [])) → W p l e m_Mo_run s m ([.ref t, .int x1, .long x2] : List Value).toArray below meth c H locs 0 0 (MQ below (dk_Qm (some (.int o.1)) G (fun _ : Unit => [(t, .inr (8, [.int v_t_crossings, .ref t_greens, .ref t_leasts, .ref t_queues, .ref t_seconds, .ref t_weights, .int v_t_first, .int v_t_last, .int v_t_by, .int v_t_step, .int o.2.1, .int o.2.2.1, .int o.2.2.2.1, .int o.2.2.2.2.1, .ref t_offsets, .ref t_row, .ref t_open, .int v_t_arrivals, .ref t_places, .ref t_times, .ref t_cars, .ref t_hourCrossings, .ref t_hourCycles, .ref t_hourOffsets])), (t_greens, .inl (K 0, 5, .inl v_t_greens)), (t_leasts, .inl (K 0, 5, .inl v_t_leasts)), (t_queues, .inl (K 0, 5, .inl v_t_queues)), (t_seconds, .inl (K 0, 10, .inl v_t_seconds)), (t_weights, .inl (K 0, 10, .inl v_t_weights)), (t_offsets, .inl (K 0, 5, .inl o.2.2.2.2.2.1)), (t_row, .inl (K 0, 5, .inl o.2.2.2.2.2.2.1)), (t_open, .inl (K 3, 600, .inl o.2.2.2.2.2.2.2))]) A) ([.ref t, .int x1, .long x2] : List Value).toArray s 0 0 A) (F0 m 82 ls []) := by
    intro k
    induction k with
    | zero =>
      intro z1 z2 z4 z6 z8 z9 z10 z11 v_t_has v_t_cycle v_t_aim v_t_proved v_t_offsets v_t_row v_t_open H locs q hF hP hD hS ls hl hk
      exact absurd hF (by simp [p_Mo_run_82])
    | succ k jh =>
      intro z1 z2 z4 z6 z8 z9 z10 z11 v_t_has v_t_cycle v_t_aim v_t_proved v_t_offsets v_t_row v_t_open H locs q hF hP hD hS ls hl hk
      have hF := (q_Mo_run_82 n k v_t_crossings v_t_greens v_t_queues z1 z2 z4 z6 z8 z9 z10 z11 v_t_row v_t_open).symm.trans hF
      refine lv_iload hx hb d_Mo_run_82 (lv_at hl 8 rfl) ?_
      refine lv_aload_n hx hb d_Mo_run_84 rfl (lv_at hl 0 rfl) ?_
      refine va_get (D := G) (ci := 8) (v := .int v_t_crossings) (C := R_Mo) (T := F_Mo) (N := 24) hx hb hts i_Mo hown hK hP 0 rfl rfl 0 (by decide) (hts _ lk_415) (fun _ h9 => h9) rfl d_Mo_run_85 ?_
      refine lv_icmp_ge (tgt := 119) hx hb d_Mo_run_88 (by decide) (fun c88_11 => ?_) (fun c88_11 => ?_)
      · have hF := dk_t c88_11 hF
        obtain rfl := Option.some.inj hF
        exact hk H locs ls hP hD hS (lv_sub hl [0, 1, 2, 3, 4, 5, 6, 7] rfl)
      · have hF := dk_f c88_11 hF
        refine lv_iload hx hb d_Mo_run_91 (lv_at hl 7 rfl) ?_
        refine lv_if_eq (tgt := 119) hx hb d_Mo_run_93 (by decide) (fun c93_12 => ?_) (fun c93_12 => ?_)
        · have hF := dk_t c93_12 hF
          obtain rfl := Option.some.inj hF
          exact hk H locs ls hP hD hS (lv_sub hl [0, 1, 2, 3, 4, 5, 6, 7] rfl)
        · have hF := dk_f c93_12 hF
          refine lv_aload_n hx hb d_Mo_run_96 rfl (lv_at hl 0 rfl) ?_
          refine va_get (D := G) (ci := 8) (v := .ref t_row) (C := R_Mo) (T := F_Mo) (N := 24) hx hb hts i_Mo hown hK hP 0 rfl rfl 15 (by decide) (hts _ lk_457) (fun _ h9 => h9) rfl d_Mo_run_97 ?_
          refine lv_iload hx hb d_Mo_run_100 (lv_at hl 8 rfl) ?_
          refine lv_iconst (v := (0 : Int32)) hx hb d_Mo_run_102 (by decide) ?_
          obtain ⟨hi, hF⟩ := dk_a hF
          refine va_iast (D := G) hx hb hK hP hD hS 7 0 rfl rfl (dk_vp hi) d_Mo_run_103 (fun H locs hP hD hS => ?_)
          have hP : va_P G classes [(t, .inr (8, [.int v_t_crossings, .ref t_greens, .ref t_leasts, .ref t_queues, .ref t_seconds, .ref t_weights, .int v_t_first, .int v_t_last, .int v_t_by, .int v_t_step, .int v_t_has, .int v_t_cycle, .int v_t_aim, .int v_t_proved, .ref t_offsets, .ref t_row, .ref t_open, .int v_t_arrivals, .ref t_places, .ref t_times, .ref t_cars, .ref t_hourCrossings, .ref t_hourCycles, .ref t_hourOffsets])), (t_greens, .inl (K 0, 5, .inl v_t_greens)), (t_leasts, .inl (K 0, 5, .inl v_t_leasts)), (t_queues, .inl (K 0, 5, .inl v_t_queues)), (t_seconds, .inl (K 0, 10, .inl v_t_seconds)), (t_weights, .inl (K 0, 10, .inl v_t_weights)), (t_offsets, .inl (K 0, 5, .inl v_t_offsets)), (t_row, .inl (K 0, 5, .inl (upd v_t_row z11.toNatClampNeg (0 : Int32)))), (t_open, .inl (K 3, 600, .inl v_t_open))] H := hP
          have hD : va_D A [(t, .inr (8, [.int v_t_crossings, .ref t_greens, .ref t_leasts, .ref t_queues, .ref t_seconds, .ref t_weights, .int v_t_first, .int v_t_last, .int v_t_by, .int v_t_step, .int v_t_has, .int v_t_cycle, .int v_t_aim, .int v_t_proved, .ref t_offsets, .ref t_row, .ref t_open, .int v_t_arrivals, .ref t_places, .ref t_times, .ref t_cars, .ref t_hourCrossings, .ref t_hourCycles, .ref t_hourOffsets])), (t_greens, .inl (K 0, 5, .inl v_t_greens)), (t_leasts, .inl (K 0, 5, .inl v_t_leasts)), (t_queues, .inl (K 0, 5, .inl v_t_queues)), (t_seconds, .inl (K 0, 10, .inl v_t_seconds)), (t_weights, .inl (K 0, 10, .inl v_t_weights)), (t_offsets, .inl (K 0, 5, .inl v_t_offsets)), (t_row, .inl (K 0, 5, .inl (upd v_t_row z11.toNatClampNeg (0 : Int32)))), (t_open, .inl (K 3, 600, .inl v_t_open))] := hD
          refine lv_aload_n hx hb d_Mo_run_104 rfl (lv_at hl 0 rfl) ?_
          refine lv_iload hx hb d_Mo_run_105 (lv_at hl 8 rfl) ?_
          refine lv_iconst (v := (0 : Int32)) hx hb d_Mo_run_107 (by decide) ?_
          refine lv_iload hx hb d_Mo_run_108 (lv_at hl 6 rfl) ?_
          obtain ⟨r110_13, hC, hF⟩ := dk_b hF
          refine dk_mutv (wr := [(t_leasts, .inl (K 0, 5, .inl v_t_leasts)), (t_seconds, .inl (K 0, 10, .inl v_t_seconds)), (t_weights, .inl (K 0, 10, .inl v_t_weights)), (t_offsets, .inl (K 0, 5, .inl v_t_offsets)), (t_row, .inl (K 0, 5, .inl (upd v_t_row z11.toNatClampNeg (0 : Int32))))]) (va_runV (As := [.int z11, .int (0 : Int32), .int z9]) (rest := []) hfix (c_Mo_lay l G K n H.size t t_greens t_leasts t_queues t_seconds t_weights t_offsets t_row t_open t_places t_times t_cars t_hourCrossings t_hourCycles t_hourOffsets z11 (0 : Int32) z9 v_t_crossings v_t_first v_t_last v_t_by v_t_step v_t_has v_t_cycle v_t_aim v_t_proved v_t_arrivals v_t_greens v_t_queues v_t_open r110_13 hC) (cwV 3 hts (gd_V lk_445 lk_447 lk_448 lk_419 lk_446) rfl rfl rfl (by decide +kernel) ⟨Nat.le_of_ble_eq_true rfl, Nat.le_of_ble_eq_true rfl⟩) (dk_preVm hK hN (hP.sub [0, 1, 3, 8] rfl) (hD.sub [0, 1, 3, 8] (by decide) rfl) (va_recv hK hP (ci := 8) (q0 := 0) rfl rfl)) rfl rfl hl.1 rfl (lv_room (Nat.le_of_ble_eq_true rfl)) d_Mo_run_110 ⟨Nat.le_of_ble_eq_true rfl, Nat.le_of_ble_eq_true rfl⟩) hS hA hP hD [0, 1, 3, 8] [2, 4, 5, 6, 7] rfl rfl (by decide) (by decide) (fun _ H locs hP hD hS => ?_)
          have hP : va_P G classes [(t, .inr (8, [.int v_t_crossings, .ref t_greens, .ref t_leasts, .ref t_queues, .ref t_seconds, .ref t_weights, .int v_t_first, .int v_t_last, .int v_t_by, .int v_t_step, .int v_t_has, .int v_t_cycle, .int v_t_aim, .int v_t_proved, .ref t_offsets, .ref t_row, .ref t_open, .int v_t_arrivals, .ref t_places, .ref t_times, .ref t_cars, .ref t_hourCrossings, .ref t_hourCycles, .ref t_hourOffsets])), (t_greens, .inl (K 0, 5, .inl v_t_greens)), (t_leasts, .inl (K 0, 5, .inl v_t_leasts)), (t_queues, .inl (K 0, 5, .inl v_t_queues)), (t_seconds, .inl (K 0, 10, .inl v_t_seconds)), (t_weights, .inl (K 0, 10, .inl v_t_weights)), (t_offsets, .inl (K 0, 5, .inl v_t_offsets)), (t_row, .inl (K 0, 5, .inl (upd v_t_row z11.toNatClampNeg (0 : Int32)))), (t_open, .inl (K 3, 600, .inl r110_13))] H := hP.sub [5, 6, 0, 7, 1, 2, 3, 4, 8] rfl
          have hD : va_D A [(t, .inr (8, [.int v_t_crossings, .ref t_greens, .ref t_leasts, .ref t_queues, .ref t_seconds, .ref t_weights, .int v_t_first, .int v_t_last, .int v_t_by, .int v_t_step, .int v_t_has, .int v_t_cycle, .int v_t_aim, .int v_t_proved, .ref t_offsets, .ref t_row, .ref t_open, .int v_t_arrivals, .ref t_places, .ref t_times, .ref t_cars, .ref t_hourCrossings, .ref t_hourCycles, .ref t_hourOffsets])), (t_greens, .inl (K 0, 5, .inl v_t_greens)), (t_leasts, .inl (K 0, 5, .inl v_t_leasts)), (t_queues, .inl (K 0, 5, .inl v_t_queues)), (t_seconds, .inl (K 0, 10, .inl v_t_seconds)), (t_weights, .inl (K 0, 10, .inl v_t_weights)), (t_offsets, .inl (K 0, 5, .inl v_t_offsets)), (t_row, .inl (K 0, 5, .inl (upd v_t_row z11.toNatClampNeg (0 : Int32)))), (t_open, .inl (K 3, 600, .inl r110_13))] := hD.sub [5, 6, 0, 7, 1, 2, 3, 4, 8] (by decide) rfl
          refine lv_iinc (v := z11 + (1 : Int32)) (lv' := [(11, .int (z11 + (1 : Int32))), (0, .ref t), (1, .int z1), (2, .long z2), (4, .long z4), (6, .long z6), (8, .int z8), (9, .int z9), (10, .int z10)]) hx hb d_Mo_run_113 hl (k := 8) rfl rfl (by decide) rfl (fun ls hl => ?_)
          refine lv_goto (tgt := 82) hx hb d_Mo_run_116 (by decide) ?_
          exact jh z1 z2 z4 z6 z8 z9 z10 (z11 + (1 : Int32)) v_t_has v_t_cycle v_t_aim v_t_proved v_t_offsets (upd v_t_row z11.toNatClampNeg (0 : Int32)) r110_13 H locs q hF hP hD hS ls (lv_sub hl [1, 2, 3, 4, 5, 6, 7, 8, 0] rfl) hk
  have L213 : ∀ (k : Nat) (z1 : Int32) (z2 : Int64) (z4 : Int64) (z6 : Int64) (z8 : Int32) (z9 : Int32) (z14 : Int32) (v_t_has : Int32) (v_t_cycle : Int32) (v_t_aim : Int32) (v_t_proved : Int32) (v_t_offsets : Nat → Int32) (v_t_row : Nat → Int32) (v_t_open : Nat → Int32) (H : Heap) (locs : List Loc) (q : (Nat → Int32)), p_Mo_run_213 n k v_t_crossings z1 z2 z4 z6 z8 z9 z14 v_t_offsets v_t_row = some q → va_P G classes [(t, .inr (8, [.int v_t_crossings, .ref t_greens, .ref t_leasts, .ref t_queues, .ref t_seconds, .ref t_weights, .int v_t_first, .int v_t_last, .int v_t_by, .int v_t_step, .int v_t_has, .int v_t_cycle, .int v_t_aim, .int v_t_proved, .ref t_offsets, .ref t_row, .ref t_open, .int v_t_arrivals, .ref t_places, .ref t_times, .ref t_cars, .ref t_hourCrossings, .ref t_hourCycles, .ref t_hourOffsets])), (t_greens, .inl (K 0, 5, .inl v_t_greens)), (t_leasts, .inl (K 0, 5, .inl v_t_leasts)), (t_queues, .inl (K 0, 5, .inl v_t_queues)), (t_seconds, .inl (K 0, 10, .inl v_t_seconds)), (t_weights, .inl (K 0, 10, .inl v_t_weights)), (t_offsets, .inl (K 0, 5, .inl v_t_offsets)), (t_row, .inl (K 0, 5, .inl v_t_row)), (t_open, .inl (K 3, 600, .inl v_t_open))] H → va_D A [(t, .inr (8, [.int v_t_crossings, .ref t_greens, .ref t_leasts, .ref t_queues, .ref t_seconds, .ref t_weights, .int v_t_first, .int v_t_last, .int v_t_by, .int v_t_step, .int v_t_has, .int v_t_cycle, .int v_t_aim, .int v_t_proved, .ref t_offsets, .ref t_row, .ref t_open, .int v_t_arrivals, .ref t_places, .ref t_times, .ref t_cars, .ref t_hourCrossings, .ref t_hourCycles, .ref t_hourOffsets])), (t_greens, .inl (K 0, 5, .inl v_t_greens)), (t_leasts, .inl (K 0, 5, .inl v_t_leasts)), (t_queues, .inl (K 0, 5, .inl v_t_queues)), (t_seconds, .inl (K 0, 10, .inl v_t_seconds)), (t_weights, .inl (K 0, 10, .inl v_t_weights)), (t_offsets, .inl (K 0, 5, .inl v_t_offsets)), (t_row, .inl (K 0, 5, .inl v_t_row)), (t_open, .inl (K 3, 600, .inl v_t_open))] → va_S A s.heap H locs → ∀ ls : Array Slot, lv_has ls 15 [(0, .ref t), (1, .int z1), (2, .long z2), (4, .long z4), (6, .long z6), (8, .int z8), (9, .int z9), (14, .int z14)] → (∀ (H1 : Heap) (locs1 : List Loc) (ls1 : Array Slot), va_P G classes [(t, .inr (8, [.int v_t_crossings, .ref t_greens, .ref t_leasts, .ref t_queues, .ref t_seconds, .ref t_weights, .int v_t_first, .int v_t_last, .int v_t_by, .int v_t_step, .int v_t_has, .int v_t_cycle, .int v_t_aim, .int v_t_proved, .ref t_offsets, .ref t_row, .ref t_open, .int v_t_arrivals, .ref t_places, .ref t_times, .ref t_cars, .ref t_hourCrossings, .ref t_hourCycles, .ref t_hourOffsets])), (t_greens, .inl (K 0, 5, .inl v_t_greens)), (t_leasts, .inl (K 0, 5, .inl v_t_leasts)), (t_queues, .inl (K 0, 5, .inl v_t_queues)), (t_seconds, .inl (K 0, 10, .inl v_t_seconds)), (t_weights, .inl (K 0, 10, .inl v_t_weights)), (t_offsets, .inl (K 0, 5, .inl q)), (t_row, .inl (K 0, 5, .inl v_t_row)), (t_open, .inl (K 3, 600, .inl v_t_open))] H1 → va_D A [(t, .inr (8, [.int v_t_crossings, .ref t_greens, .ref t_leasts, .ref t_queues, .ref t_seconds, .ref t_weights, .int v_t_first, .int v_t_last, .int v_t_by, .int v_t_step, .int v_t_has, .int v_t_cycle, .int v_t_aim, .int v_t_proved, .ref t_offsets, .ref t_row, .ref t_open, .int v_t_arrivals, .ref t_places, .ref t_times, .ref t_cars, .ref t_hourCrossings, .ref t_hourCycles, .ref t_hourOffsets])), (t_greens, .inl (K 0, 5, .inl v_t_greens)), (t_leasts, .inl (K 0, 5, .inl v_t_leasts)), (t_queues, .inl (K 0, 5, .inl v_t_queues)), (t_seconds, .inl (K 0, 10, .inl v_t_seconds)), (t_weights, .inl (K 0, 10, .inl v_t_weights)), (t_offsets, .inl (K 0, 5, .inl q)), (t_row, .inl (K 0, 5, .inl v_t_row)), (t_open, .inl (K 3, 600, .inl v_t_open))] → va_S A s.heap H1 locs1 → lv_has ls1 15 [(0, .ref t), (1, .int z1), (2, .long z2), (4, .long z4), (6, .long z6), (8, .int z8), (9, .int z9)] → W p l e m_Mo_run s m ([.ref t, .int x1, .long x2] : List Value).toArray below meth c H1 locs1 0 0 (MQ below (dk_Qm (some (.int o.1)) G (fun _ : Unit => [(t, .inr (8, [.int v_t_crossings, .ref t_greens, .ref t_leasts, .ref t_queues, .ref t_seconds, .ref t_weights, .int v_t_first, .int v_t_last, .int v_t_by, .int v_t_step, .int o.2.1, .int o.2.2.1, .int o.2.2.2.1, .int o.2.2.2.2.1, .ref t_offsets, .ref t_row, .ref t_open, .int v_t_arrivals, .ref t_places, .ref t_times, .ref t_cars, .ref t_hourCrossings, .ref t_hourCycles, .ref t_hourOffsets])), (t_greens, .inl (K 0, 5, .inl v_t_greens)), (t_leasts, .inl (K 0, 5, .inl v_t_leasts)), (t_queues, .inl (K 0, 5, .inl v_t_queues)), (t_seconds, .inl (K 0, 10, .inl v_t_seconds)), (t_weights, .inl (K 0, 10, .inl v_t_weights)), (t_offsets, .inl (K 0, 5, .inl o.2.2.2.2.2.1)), (t_row, .inl (K 0, 5, .inl o.2.2.2.2.2.2.1)), (t_open, .inl (K 3, 600, .inl o.2.2.2.2.2.2.2))]) A) ([.ref t, .int x1, .long x2] : List Value).toArray s 0 0 A) (F0 m 242 ls1 [])) → W p l e m_Mo_run s m ([.ref t, .int x1, .long x2] : List Value).toArray below meth c H locs 0 0 (MQ below (dk_Qm (some (.int o.1)) G (fun _ : Unit => [(t, .inr (8, [.int v_t_crossings, .ref t_greens, .ref t_leasts, .ref t_queues, .ref t_seconds, .ref t_weights, .int v_t_first, .int v_t_last, .int v_t_by, .int v_t_step, .int o.2.1, .int o.2.2.1, .int o.2.2.2.1, .int o.2.2.2.2.1, .ref t_offsets, .ref t_row, .ref t_open, .int v_t_arrivals, .ref t_places, .ref t_times, .ref t_cars, .ref t_hourCrossings, .ref t_hourCycles, .ref t_hourOffsets])), (t_greens, .inl (K 0, 5, .inl v_t_greens)), (t_leasts, .inl (K 0, 5, .inl v_t_leasts)), (t_queues, .inl (K 0, 5, .inl v_t_queues)), (t_seconds, .inl (K 0, 10, .inl v_t_seconds)), (t_weights, .inl (K 0, 10, .inl v_t_weights)), (t_offsets, .inl (K 0, 5, .inl o.2.2.2.2.2.1)), (t_row, .inl (K 0, 5, .inl o.2.2.2.2.2.2.1)), (t_open, .inl (K 3, 600, .inl o.2.2.2.2.2.2.2))]) A) ([.ref t, .int x1, .long x2] : List Value).toArray s 0 0 A) (F0 m 213 ls []) := by
    intro k
    induction k with
    | zero =>
      intro z1 z2 z4 z6 z8 z9 z14 v_t_has v_t_cycle v_t_aim v_t_proved v_t_offsets v_t_row v_t_open H locs q hF hP hD hS ls hl hk
      exact absurd hF (by simp [p_Mo_run_213])
    | succ k jh =>
      intro z1 z2 z4 z6 z8 z9 z14 v_t_has v_t_cycle v_t_aim v_t_proved v_t_offsets v_t_row v_t_open H locs q hF hP hD hS ls hl hk
      have hF := (q_Mo_run_213 n k v_t_crossings z1 z2 z4 z6 z8 z9 z14 v_t_offsets v_t_row).symm.trans hF
      refine lv_iload hx hb d_Mo_run_213 (lv_at hl 7 rfl) ?_
      refine lv_aload_n hx hb d_Mo_run_215 rfl (lv_at hl 0 rfl) ?_
      refine va_get (D := G) (ci := 8) (v := .int v_t_crossings) (C := R_Mo) (T := F_Mo) (N := 24) hx hb hts i_Mo hown hK hP 0 rfl rfl 0 (by decide) (hts _ lk_415) (fun _ h9 => h9) rfl d_Mo_run_216 ?_
      refine lv_icmp_ge (tgt := 242) hx hb d_Mo_run_219 (by decide) (fun c219_20 => ?_) (fun c219_20 => ?_)
      · have hF := dk_t c219_20 hF
        obtain rfl := Option.some.inj hF
        exact hk H locs ls hP hD hS (lv_sub hl [0, 1, 2, 3, 4, 5, 6] rfl)
      · have hF := dk_f c219_20 hF
        refine lv_aload_n hx hb d_Mo_run_222 rfl (lv_at hl 0 rfl) ?_
        refine va_get (D := G) (ci := 8) (v := .ref t_offsets) (C := R_Mo) (T := F_Mo) (N := 24) hx hb hts i_Mo hown hK hP 0 rfl rfl 14 (by decide) (hts _ lk_443) (fun _ h9 => h9) rfl d_Mo_run_223 ?_
        refine lv_iload hx hb d_Mo_run_226 (lv_at hl 7 rfl) ?_
        refine lv_aload_n hx hb d_Mo_run_228 rfl (lv_at hl 0 rfl) ?_
        refine va_get (D := G) (ci := 8) (v := .ref t_row) (C := R_Mo) (T := F_Mo) (N := 24) hx hb hts i_Mo hown hK hP 0 rfl rfl 15 (by decide) (hts _ lk_457) (fun _ h9 => h9) rfl d_Mo_run_229 ?_
        refine lv_iload hx hb d_Mo_run_232 (lv_at hl 7 rfl) ?_
        obtain ⟨hi, hF⟩ := dk_a hF
        refine va_iald (D := G) hx hb hK hP 7 0 rfl rfl (dk_vp hi) d_Mo_run_234 ?_
        obtain ⟨hi, hF⟩ := dk_a hF
        refine va_iast (D := G) hx hb hK hP hD hS 6 0 rfl rfl (dk_vp hi) d_Mo_run_235 (fun H locs hP hD hS => ?_)
        have hP : va_P G classes [(t, .inr (8, [.int v_t_crossings, .ref t_greens, .ref t_leasts, .ref t_queues, .ref t_seconds, .ref t_weights, .int v_t_first, .int v_t_last, .int v_t_by, .int v_t_step, .int v_t_has, .int v_t_cycle, .int v_t_aim, .int v_t_proved, .ref t_offsets, .ref t_row, .ref t_open, .int v_t_arrivals, .ref t_places, .ref t_times, .ref t_cars, .ref t_hourCrossings, .ref t_hourCycles, .ref t_hourOffsets])), (t_greens, .inl (K 0, 5, .inl v_t_greens)), (t_leasts, .inl (K 0, 5, .inl v_t_leasts)), (t_queues, .inl (K 0, 5, .inl v_t_queues)), (t_seconds, .inl (K 0, 10, .inl v_t_seconds)), (t_weights, .inl (K 0, 10, .inl v_t_weights)), (t_offsets, .inl (K 0, 5, .inl (upd v_t_offsets z14.toNatClampNeg (v_t_row z14.toNatClampNeg)))), (t_row, .inl (K 0, 5, .inl v_t_row)), (t_open, .inl (K 3, 600, .inl v_t_open))] H := hP
        have hD : va_D A [(t, .inr (8, [.int v_t_crossings, .ref t_greens, .ref t_leasts, .ref t_queues, .ref t_seconds, .ref t_weights, .int v_t_first, .int v_t_last, .int v_t_by, .int v_t_step, .int v_t_has, .int v_t_cycle, .int v_t_aim, .int v_t_proved, .ref t_offsets, .ref t_row, .ref t_open, .int v_t_arrivals, .ref t_places, .ref t_times, .ref t_cars, .ref t_hourCrossings, .ref t_hourCycles, .ref t_hourOffsets])), (t_greens, .inl (K 0, 5, .inl v_t_greens)), (t_leasts, .inl (K 0, 5, .inl v_t_leasts)), (t_queues, .inl (K 0, 5, .inl v_t_queues)), (t_seconds, .inl (K 0, 10, .inl v_t_seconds)), (t_weights, .inl (K 0, 10, .inl v_t_weights)), (t_offsets, .inl (K 0, 5, .inl (upd v_t_offsets z14.toNatClampNeg (v_t_row z14.toNatClampNeg)))), (t_row, .inl (K 0, 5, .inl v_t_row)), (t_open, .inl (K 3, 600, .inl v_t_open))] := hD
        refine lv_iinc (v := z14 + (1 : Int32)) (lv' := [(14, .int (z14 + (1 : Int32))), (0, .ref t), (1, .int z1), (2, .long z2), (4, .long z4), (6, .long z6), (8, .int z8), (9, .int z9)]) hx hb d_Mo_run_236 hl (k := 7) rfl rfl (by decide) rfl (fun ls hl => ?_)
        refine lv_goto (tgt := 213) hx hb d_Mo_run_239 (by decide) ?_
        exact jh z1 z2 z4 z6 z8 z9 (z14 + (1 : Int32)) v_t_has v_t_cycle v_t_aim v_t_proved (upd v_t_offsets z14.toNatClampNeg (v_t_row z14.toNatClampNeg)) v_t_row v_t_open H locs q hF hP hD hS ls (lv_sub hl [1, 2, 3, 4, 5, 6, 7, 0] rfl) hk
  have L119 : ∀ (k : Nat) (z1 : Int32) (z2 : Int64) (z4 : Int64) (z6 : Int64) (z8 : Int32) (z9 : Int32) (z10 : Int32) (v_t_has : Int32) (v_t_cycle : Int32) (v_t_aim : Int32) (v_t_proved : Int32) (v_t_offsets : Nat → Int32) (v_t_row : Nat → Int32) (v_t_open : Nat → Int32) (H : Heap) (locs : List Loc) (q : Int64 × Int64 × Int32 × (Nat → Int32) × (Nat → Int32) × (Nat → Int32)), p_Mo_run_119 n k v_t_crossings v_t_step v_t_greens v_t_queues v_t_seconds v_t_weights z1 z2 z4 z6 z8 z9 z10 v_t_offsets v_t_row v_t_open = some q → va_P G classes [(t, .inr (8, [.int v_t_crossings, .ref t_greens, .ref t_leasts, .ref t_queues, .ref t_seconds, .ref t_weights, .int v_t_first, .int v_t_last, .int v_t_by, .int v_t_step, .int v_t_has, .int v_t_cycle, .int v_t_aim, .int v_t_proved, .ref t_offsets, .ref t_row, .ref t_open, .int v_t_arrivals, .ref t_places, .ref t_times, .ref t_cars, .ref t_hourCrossings, .ref t_hourCycles, .ref t_hourOffsets])), (t_greens, .inl (K 0, 5, .inl v_t_greens)), (t_leasts, .inl (K 0, 5, .inl v_t_leasts)), (t_queues, .inl (K 0, 5, .inl v_t_queues)), (t_seconds, .inl (K 0, 10, .inl v_t_seconds)), (t_weights, .inl (K 0, 10, .inl v_t_weights)), (t_offsets, .inl (K 0, 5, .inl v_t_offsets)), (t_row, .inl (K 0, 5, .inl v_t_row)), (t_open, .inl (K 3, 600, .inl v_t_open))] H → va_D A [(t, .inr (8, [.int v_t_crossings, .ref t_greens, .ref t_leasts, .ref t_queues, .ref t_seconds, .ref t_weights, .int v_t_first, .int v_t_last, .int v_t_by, .int v_t_step, .int v_t_has, .int v_t_cycle, .int v_t_aim, .int v_t_proved, .ref t_offsets, .ref t_row, .ref t_open, .int v_t_arrivals, .ref t_places, .ref t_times, .ref t_cars, .ref t_hourCrossings, .ref t_hourCycles, .ref t_hourOffsets])), (t_greens, .inl (K 0, 5, .inl v_t_greens)), (t_leasts, .inl (K 0, 5, .inl v_t_leasts)), (t_queues, .inl (K 0, 5, .inl v_t_queues)), (t_seconds, .inl (K 0, 10, .inl v_t_seconds)), (t_weights, .inl (K 0, 10, .inl v_t_weights)), (t_offsets, .inl (K 0, 5, .inl v_t_offsets)), (t_row, .inl (K 0, 5, .inl v_t_row)), (t_open, .inl (K 3, 600, .inl v_t_open))] → va_S A s.heap H locs → ∀ ls : Array Slot, lv_has ls 15 [(0, .ref t), (1, .int z1), (2, .long z2), (4, .long z4), (6, .long z6), (8, .int z8), (9, .int z9), (10, .int z10)] → (∀ (H1 : Heap) (locs1 : List Loc) (ls1 : Array Slot), va_P G classes [(t, .inr (8, [.int v_t_crossings, .ref t_greens, .ref t_leasts, .ref t_queues, .ref t_seconds, .ref t_weights, .int v_t_first, .int v_t_last, .int v_t_by, .int v_t_step, .int v_t_has, .int v_t_cycle, .int v_t_aim, .int v_t_proved, .ref t_offsets, .ref t_row, .ref t_open, .int v_t_arrivals, .ref t_places, .ref t_times, .ref t_cars, .ref t_hourCrossings, .ref t_hourCycles, .ref t_hourOffsets])), (t_greens, .inl (K 0, 5, .inl v_t_greens)), (t_leasts, .inl (K 0, 5, .inl v_t_leasts)), (t_queues, .inl (K 0, 5, .inl v_t_queues)), (t_seconds, .inl (K 0, 10, .inl v_t_seconds)), (t_weights, .inl (K 0, 10, .inl v_t_weights)), (t_offsets, .inl (K 0, 5, .inl q.2.2.2.1)), (t_row, .inl (K 0, 5, .inl q.2.2.2.2.1)), (t_open, .inl (K 3, 600, .inl q.2.2.2.2.2))] H1 → va_D A [(t, .inr (8, [.int v_t_crossings, .ref t_greens, .ref t_leasts, .ref t_queues, .ref t_seconds, .ref t_weights, .int v_t_first, .int v_t_last, .int v_t_by, .int v_t_step, .int v_t_has, .int v_t_cycle, .int v_t_aim, .int v_t_proved, .ref t_offsets, .ref t_row, .ref t_open, .int v_t_arrivals, .ref t_places, .ref t_times, .ref t_cars, .ref t_hourCrossings, .ref t_hourCycles, .ref t_hourOffsets])), (t_greens, .inl (K 0, 5, .inl v_t_greens)), (t_leasts, .inl (K 0, 5, .inl v_t_leasts)), (t_queues, .inl (K 0, 5, .inl v_t_queues)), (t_seconds, .inl (K 0, 10, .inl v_t_seconds)), (t_weights, .inl (K 0, 10, .inl v_t_weights)), (t_offsets, .inl (K 0, 5, .inl q.2.2.2.1)), (t_row, .inl (K 0, 5, .inl q.2.2.2.2.1)), (t_open, .inl (K 3, 600, .inl q.2.2.2.2.2))] → va_S A s.heap H1 locs1 → lv_has ls1 15 [(0, .ref t), (1, .int z1), (2, .long z2), (4, .long q.1), (6, .long q.2.1), (8, .int q.2.2.1), (9, .int z9)] → W p l e m_Mo_run s m ([.ref t, .int x1, .long x2] : List Value).toArray below meth c H1 locs1 0 0 (MQ below (dk_Qm (some (.int o.1)) G (fun _ : Unit => [(t, .inr (8, [.int v_t_crossings, .ref t_greens, .ref t_leasts, .ref t_queues, .ref t_seconds, .ref t_weights, .int v_t_first, .int v_t_last, .int v_t_by, .int v_t_step, .int o.2.1, .int o.2.2.1, .int o.2.2.2.1, .int o.2.2.2.2.1, .ref t_offsets, .ref t_row, .ref t_open, .int v_t_arrivals, .ref t_places, .ref t_times, .ref t_cars, .ref t_hourCrossings, .ref t_hourCycles, .ref t_hourOffsets])), (t_greens, .inl (K 0, 5, .inl v_t_greens)), (t_leasts, .inl (K 0, 5, .inl v_t_leasts)), (t_queues, .inl (K 0, 5, .inl v_t_queues)), (t_seconds, .inl (K 0, 10, .inl v_t_seconds)), (t_weights, .inl (K 0, 10, .inl v_t_weights)), (t_offsets, .inl (K 0, 5, .inl o.2.2.2.2.2.1)), (t_row, .inl (K 0, 5, .inl o.2.2.2.2.2.2.1)), (t_open, .inl (K 3, 600, .inl o.2.2.2.2.2.2.2))]) A) ([.ref t, .int x1, .long x2] : List Value).toArray s 0 0 A) (F0 m 253 ls1 [])) → W p l e m_Mo_run s m ([.ref t, .int x1, .long x2] : List Value).toArray below meth c H locs 0 0 (MQ below (dk_Qm (some (.int o.1)) G (fun _ : Unit => [(t, .inr (8, [.int v_t_crossings, .ref t_greens, .ref t_leasts, .ref t_queues, .ref t_seconds, .ref t_weights, .int v_t_first, .int v_t_last, .int v_t_by, .int v_t_step, .int o.2.1, .int o.2.2.1, .int o.2.2.2.1, .int o.2.2.2.2.1, .ref t_offsets, .ref t_row, .ref t_open, .int v_t_arrivals, .ref t_places, .ref t_times, .ref t_cars, .ref t_hourCrossings, .ref t_hourCycles, .ref t_hourOffsets])), (t_greens, .inl (K 0, 5, .inl v_t_greens)), (t_leasts, .inl (K 0, 5, .inl v_t_leasts)), (t_queues, .inl (K 0, 5, .inl v_t_queues)), (t_seconds, .inl (K 0, 10, .inl v_t_seconds)), (t_weights, .inl (K 0, 10, .inl v_t_weights)), (t_offsets, .inl (K 0, 5, .inl o.2.2.2.2.2.1)), (t_row, .inl (K 0, 5, .inl o.2.2.2.2.2.2.1)), (t_open, .inl (K 3, 600, .inl o.2.2.2.2.2.2.2))]) A) ([.ref t, .int x1, .long x2] : List Value).toArray s 0 0 A) (F0 m 119 ls []) := by
    intro k
    induction k with
    | zero =>
      intro z1 z2 z4 z6 z8 z9 z10 v_t_has v_t_cycle v_t_aim v_t_proved v_t_offsets v_t_row v_t_open H locs q hF hP hD hS ls hl hk
      exact absurd hF (by simp [p_Mo_run_119])
    | succ k jh =>
      intro z1 z2 z4 z6 z8 z9 z10 v_t_has v_t_cycle v_t_aim v_t_proved v_t_offsets v_t_row v_t_open H locs q hF hP hD hS ls hl hk
      have hF := (q_Mo_run_119 n k v_t_crossings v_t_step v_t_greens v_t_queues v_t_seconds v_t_weights z1 z2 z4 z6 z8 z9 z10 v_t_offsets v_t_row v_t_open).symm.trans hF
      refine lv_iload hx hb d_Mo_run_119 (lv_at hl 7 rfl) ?_
      refine lv_if_eq (tgt := 253) hx hb d_Mo_run_121 (by decide) (fun c121_15 => ?_) (fun c121_15 => ?_)
      · have hF := dk_t c121_15 hF
        obtain rfl := Option.some.inj hF
        exact hk H locs ls hP hD hS (lv_sub hl [0, 1, 2, 3, 4, 5, 6] rfl)
      · have hF := dk_f c121_15 hF
        refine lv_lload hx hb d_Mo_run_124 (lv_at hl 3 rfl) ?_
        refine lv_lload_n hx hb d_Mo_run_126 rfl (lv_at hl 2 rfl) ?_
        refine W.lcmp hx hb d_Mo_run_127 ?_
        refine lv_if_ge (tgt := 253) hx hb d_Mo_run_128 (by decide) (fun c128_16 => ?_) (fun c128_16 => ?_)
        · have hF := dk_t c128_16 hF
          obtain rfl := Option.some.inj hF
          exact hk H locs ls hP hD hS (lv_sub hl [0, 1, 2, 3, 4, 5, 6] rfl)
        · have hF := dk_f c128_16 hF
          refine lv_lload hx hb d_Mo_run_131 (lv_at hl 3 rfl) ?_
          refine lv_lconst (v := (1 : Int64)) hx hb d_Mo_run_133 (by decide) ?_
          refine lv_ladd hx hb d_Mo_run_134 ?_
          refine lv_lstore (lv' := [(4, .long (z4 + (1 : Int64))), (0, .ref t), (1, .int z1), (2, .long z2), (6, .long z6), (8, .int z8), (9, .int z9), (10, .int z10)]) hx hb d_Mo_run_135 hl (by decide) rfl (fun ls hl => ?_)
          refine lv_aload_n hx hb d_Mo_run_137 rfl (lv_at hl 1 rfl) ?_
          refine lv_iload hx hb d_Mo_run_138 (lv_at hl 6 rfl) ?_
          refine lv_iload_n hx hb d_Mo_run_140 rfl (lv_at hl 2 rfl) ?_
          obtain ⟨r141_17, hC, hF⟩ := dk_b hF
          refine dk_pure (va_runV (As := [.int z9, .int z1]) (rest := []) hfix (c_Mo_worth l G K n t t_greens t_leasts t_queues t_seconds t_weights t_offsets t_row t_open t_places t_times t_cars t_hourCrossings t_hourCycles t_hourOffsets z9 z1 v_t_crossings v_t_first v_t_last v_t_by v_t_step v_t_has v_t_cycle v_t_aim v_t_proved v_t_arrivals v_t_seconds v_t_weights v_t_open r141_17 hC) (cwV 2 hts (gd_V lk_475 lk_477 lk_478 lk_419 lk_476) rfl rfl rfl (by decide +kernel) ⟨Nat.le_of_ble_eq_true rfl, Nat.le_of_ble_eq_true rfl⟩) (dk_preV hK hN (hP.sub [0, 4, 5, 8] rfl) (va_recv hK hP (ci := 8) (q0 := 0) rfl rfl)) rfl rfl hl.1 rfl (lv_room (Nat.le_of_ble_eq_true rfl)) d_Mo_run_141 ⟨Nat.le_of_ble_eq_true rfl, Nat.le_of_ble_eq_true rfl⟩) ?_
          refine lv_lstore (lv' := [(11, .long r141_17), (4, .long (z4 + (1 : Int64))), (0, .ref t), (1, .int z1), (2, .long z2), (6, .long z6), (8, .int z8), (9, .int z9), (10, .int z10)]) hx hb d_Mo_run_144 hl (by decide) rfl (fun ls hl => ?_)
          refine lv_iload hx hb d_Mo_run_146 (lv_at hl 6 rfl) ?_
          refine lv_if_eq (tgt := 190) hx hb d_Mo_run_148 (by decide) (fun c148_18 => ?_) (fun c148_18 => ?_)
          · have hF := dk_t c148_18 hF
            refine lv_iconst (v := (1 : Int32)) hx hb d_Mo_run_190 (by decide) ?_
            refine lv_goto (tgt := 195) hx hb d_Mo_run_191 (by decide) ?_
            refine lv_istore (lv' := [(13, .int (1 : Int32)), (11, .long r141_17), (4, .long (z4 + (1 : Int64))), (0, .ref t), (1, .int z1), (2, .long z2), (6, .long z6), (8, .int z8), (9, .int z9), (10, .int z10)]) hx hb d_Mo_run_195 hl (by decide) rfl (fun ls hl => ?_)
            refine lv_iload hx hb d_Mo_run_197 (lv_at hl 0 rfl) ?_
            refine lv_if_eq (tgt := 242) hx hb d_Mo_run_199 (by decide) (fun h => absurd h (by decide)) (fun _ => ?_)
            refine lv_lload hx hb d_Mo_run_202 (lv_at hl 1 rfl) ?_
            refine lv_lstore (lv' := [(6, .long r141_17), (13, .int (1 : Int32)), (11, .long r141_17), (4, .long (z4 + (1 : Int64))), (0, .ref t), (1, .int z1), (2, .long z2), (8, .int z8), (9, .int z9), (10, .int z10)]) hx hb d_Mo_run_204 hl (by decide) rfl (fun ls hl => ?_)
            refine lv_iload hx hb d_Mo_run_206 (lv_at hl 8 rfl) ?_
            refine lv_istore (lv' := [(8, .int z9), (6, .long r141_17), (13, .int (1 : Int32)), (11, .long r141_17), (4, .long (z4 + (1 : Int64))), (0, .ref t), (1, .int z1), (2, .long z2), (9, .int z9), (10, .int z10)]) hx hb d_Mo_run_208 hl (by decide) rfl (fun ls hl => ?_)
            refine lv_iconst (v := (0 : Int32)) hx hb d_Mo_run_210 (by decide) ?_
            refine lv_istore (lv' := [(14, .int (0 : Int32)), (8, .int z9), (6, .long r141_17), (13, .int (1 : Int32)), (11, .long r141_17), (4, .long (z4 + (1 : Int64))), (0, .ref t), (1, .int z1), (2, .long z2), (9, .int z9), (10, .int z10)]) hx hb d_Mo_run_211 hl (by decide) rfl (fun ls hl => ?_)
            obtain ⟨q213_21, hC, hF⟩ := dk_b hF
            refine L213 n z1 z2 (z4 + (1 : Int64)) r141_17 z9 z9 (0 : Int32) v_t_has v_t_cycle v_t_aim v_t_proved v_t_offsets v_t_row v_t_open H locs q213_21 hC hP hD hS ls (lv_sub hl [6, 7, 8, 5, 2, 1, 9, 0] rfl) (fun H locs ls hP hD hS hl => ?_)
            refine lv_aload_n hx hb d_Mo_run_242 rfl (lv_at hl 0 rfl) ?_
            refine lv_iload hx hb d_Mo_run_243 (lv_at hl 6 rfl) ?_
            obtain ⟨r245_22, hC, hF⟩ := dk_b hF
            refine dk_mut (wr := [(t_leasts, .inl (K 0, 5, .inl v_t_leasts)), (t_seconds, .inl (K 0, 10, .inl v_t_seconds)), (t_weights, .inl (K 0, 10, .inl v_t_weights)), (t_offsets, .inl (K 0, 5, .inl q213_21))]) (va_runV (As := [.int z9]) (rest := []) hfix (c_Mo_goesOn l G K n H.size t t_greens t_leasts t_queues t_seconds t_weights t_offsets t_row t_open t_places t_times t_cars t_hourCrossings t_hourCycles t_hourOffsets z9 v_t_crossings v_t_first v_t_last v_t_by v_t_step v_t_has v_t_cycle v_t_aim v_t_proved v_t_arrivals v_t_greens v_t_queues v_t_row v_t_open r245_22 hC) (cwV 1 hts (gd_V lk_479 lk_481 lk_482 lk_419 lk_480) rfl rfl rfl (by decide +kernel) ⟨Nat.le_of_ble_eq_true rfl, Nat.le_of_ble_eq_true rfl⟩) (dk_preVm hK hN (hP.sub [0, 1, 3, 7, 8] rfl) (hD.sub [0, 1, 3, 7, 8] (by decide) rfl) (va_recv hK hP (ci := 8) (q0 := 0) rfl rfl)) rfl rfl hl.1 rfl (lv_room (Nat.le_of_ble_eq_true rfl)) d_Mo_run_245 ⟨Nat.le_of_ble_eq_true rfl, Nat.le_of_ble_eq_true rfl⟩) hS hA hP hD [0, 1, 3, 7, 8] [2, 4, 5, 6] rfl rfl (by decide) (by decide) (fun _ H locs hP hD hS => ?_)
            have hP : va_P G classes [(t, .inr (8, [.int v_t_crossings, .ref t_greens, .ref t_leasts, .ref t_queues, .ref t_seconds, .ref t_weights, .int v_t_first, .int v_t_last, .int v_t_by, .int v_t_step, .int v_t_has, .int v_t_cycle, .int v_t_aim, .int v_t_proved, .ref t_offsets, .ref t_row, .ref t_open, .int v_t_arrivals, .ref t_places, .ref t_times, .ref t_cars, .ref t_hourCrossings, .ref t_hourCycles, .ref t_hourOffsets])), (t_greens, .inl (K 0, 5, .inl v_t_greens)), (t_leasts, .inl (K 0, 5, .inl v_t_leasts)), (t_queues, .inl (K 0, 5, .inl v_t_queues)), (t_seconds, .inl (K 0, 10, .inl v_t_seconds)), (t_weights, .inl (K 0, 10, .inl v_t_weights)), (t_offsets, .inl (K 0, 5, .inl q213_21)), (t_row, .inl (K 0, 5, .inl r245_22.2.1)), (t_open, .inl (K 3, 600, .inl r245_22.2.2))] H := hP.sub [4, 5, 0, 6, 1, 2, 3, 7, 8] rfl
            have hD : va_D A [(t, .inr (8, [.int v_t_crossings, .ref t_greens, .ref t_leasts, .ref t_queues, .ref t_seconds, .ref t_weights, .int v_t_first, .int v_t_last, .int v_t_by, .int v_t_step, .int v_t_has, .int v_t_cycle, .int v_t_aim, .int v_t_proved, .ref t_offsets, .ref t_row, .ref t_open, .int v_t_arrivals, .ref t_places, .ref t_times, .ref t_cars, .ref t_hourCrossings, .ref t_hourCycles, .ref t_hourOffsets])), (t_greens, .inl (K 0, 5, .inl v_t_greens)), (t_leasts, .inl (K 0, 5, .inl v_t_leasts)), (t_queues, .inl (K 0, 5, .inl v_t_queues)), (t_seconds, .inl (K 0, 10, .inl v_t_seconds)), (t_weights, .inl (K 0, 10, .inl v_t_weights)), (t_offsets, .inl (K 0, 5, .inl q213_21)), (t_row, .inl (K 0, 5, .inl r245_22.2.1)), (t_open, .inl (K 3, 600, .inl r245_22.2.2))] := hD.sub [4, 5, 0, 6, 1, 2, 3, 7, 8] (by decide) rfl
            refine lv_istore (lv' := [(10, .int r245_22.1), (0, .ref t), (1, .int z1), (2, .long z2), (4, .long (z4 + (1 : Int64))), (6, .long r141_17), (8, .int z9), (9, .int z9)]) hx hb d_Mo_run_248 hl (by decide) rfl (fun ls hl => ?_)
            refine lv_goto (tgt := 119) hx hb d_Mo_run_250 (by decide) ?_
            exact jh z1 z2 (z4 + (1 : Int64)) r141_17 z9 z9 r245_22.1 v_t_has v_t_cycle v_t_aim v_t_proved q213_21 r245_22.2.1 r245_22.2.2 H locs q hF hP hD hS ls (lv_sub hl [1, 2, 3, 4, 5, 6, 7, 0] rfl) hk
          · have hF := dk_f c148_18 hF
            refine lv_iload_n hx hb d_Mo_run_151 rfl (lv_at hl 3 rfl) ?_
            refine lv_if_ne (tgt := 174) hx hb d_Mo_run_152 (by decide) (fun c152_23 => ?_) (fun c152_23 => ?_)
            · have hF := dk_f c152_23 hF
              refine lv_lload hx hb d_Mo_run_174 (lv_at hl 0 rfl) ?_
              refine lv_iload hx hb d_Mo_run_176 (lv_at hl 6 rfl) ?_
              refine lv_i2l hx hb d_Mo_run_178 rfl ?_
              refine lv_lmul hx hb d_Mo_run_179 ?_
              refine lv_lload hx hb d_Mo_run_180 (lv_at hl 5 rfl) ?_
              refine lv_iload hx hb d_Mo_run_182 (lv_at hl 7 rfl) ?_
              refine lv_i2l hx hb d_Mo_run_184 rfl ?_
              refine lv_lmul hx hb d_Mo_run_185 ?_
              refine W.lcmp hx hb d_Mo_run_186 ?_
              refine lv_if_ge (tgt := 194) hx hb d_Mo_run_187 (by decide) (fun c187_24 => ?_) (fun c187_24 => ?_)
              · have hF := dk_t c187_24 hF
                refine lv_iconst (v := (0 : Int32)) hx hb d_Mo_run_194 (by decide) ?_
                refine lv_istore (lv' := [(13, .int (0 : Int32)), (11, .long r141_17), (4, .long (z4 + (1 : Int64))), (0, .ref t), (1, .int z1), (2, .long z2), (6, .long z6), (8, .int z8), (9, .int z9), (10, .int z10)]) hx hb d_Mo_run_195 hl (by decide) rfl (fun ls hl => ?_)
                refine lv_iload hx hb d_Mo_run_197 (lv_at hl 0 rfl) ?_
                refine lv_if_eq (tgt := 242) hx hb d_Mo_run_199 (by decide) (fun _ => ?_) (fun h => absurd h (by decide))
                refine lv_aload_n hx hb d_Mo_run_242 rfl (lv_at hl 3 rfl) ?_
                refine lv_iload hx hb d_Mo_run_243 (lv_at hl 8 rfl) ?_
                obtain ⟨r245_26, hC, hF⟩ := dk_b hF
                refine dk_mut (wr := [(t_leasts, .inl (K 0, 5, .inl v_t_leasts)), (t_seconds, .inl (K 0, 10, .inl v_t_seconds)), (t_weights, .inl (K 0, 10, .inl v_t_weights)), (t_offsets, .inl (K 0, 5, .inl v_t_offsets))]) (va_runV (As := [.int z9]) (rest := []) hfix (c_Mo_goesOn l G K n H.size t t_greens t_leasts t_queues t_seconds t_weights t_offsets t_row t_open t_places t_times t_cars t_hourCrossings t_hourCycles t_hourOffsets z9 v_t_crossings v_t_first v_t_last v_t_by v_t_step v_t_has v_t_cycle v_t_aim v_t_proved v_t_arrivals v_t_greens v_t_queues v_t_row v_t_open r245_26 hC) (cwV 1 hts (gd_V lk_479 lk_481 lk_482 lk_419 lk_480) rfl rfl rfl (by decide +kernel) ⟨Nat.le_of_ble_eq_true rfl, Nat.le_of_ble_eq_true rfl⟩) (dk_preVm hK hN (hP.sub [0, 1, 3, 7, 8] rfl) (hD.sub [0, 1, 3, 7, 8] (by decide) rfl) (va_recv hK hP (ci := 8) (q0 := 0) rfl rfl)) rfl rfl hl.1 rfl (lv_room (Nat.le_of_ble_eq_true rfl)) d_Mo_run_245 ⟨Nat.le_of_ble_eq_true rfl, Nat.le_of_ble_eq_true rfl⟩) hS hA hP hD [0, 1, 3, 7, 8] [2, 4, 5, 6] rfl rfl (by decide) (by decide) (fun _ H locs hP hD hS => ?_)
                have hP : va_P G classes [(t, .inr (8, [.int v_t_crossings, .ref t_greens, .ref t_leasts, .ref t_queues, .ref t_seconds, .ref t_weights, .int v_t_first, .int v_t_last, .int v_t_by, .int v_t_step, .int v_t_has, .int v_t_cycle, .int v_t_aim, .int v_t_proved, .ref t_offsets, .ref t_row, .ref t_open, .int v_t_arrivals, .ref t_places, .ref t_times, .ref t_cars, .ref t_hourCrossings, .ref t_hourCycles, .ref t_hourOffsets])), (t_greens, .inl (K 0, 5, .inl v_t_greens)), (t_leasts, .inl (K 0, 5, .inl v_t_leasts)), (t_queues, .inl (K 0, 5, .inl v_t_queues)), (t_seconds, .inl (K 0, 10, .inl v_t_seconds)), (t_weights, .inl (K 0, 10, .inl v_t_weights)), (t_offsets, .inl (K 0, 5, .inl v_t_offsets)), (t_row, .inl (K 0, 5, .inl r245_26.2.1)), (t_open, .inl (K 3, 600, .inl r245_26.2.2))] H := hP.sub [4, 5, 0, 6, 1, 2, 3, 7, 8] rfl
                have hD : va_D A [(t, .inr (8, [.int v_t_crossings, .ref t_greens, .ref t_leasts, .ref t_queues, .ref t_seconds, .ref t_weights, .int v_t_first, .int v_t_last, .int v_t_by, .int v_t_step, .int v_t_has, .int v_t_cycle, .int v_t_aim, .int v_t_proved, .ref t_offsets, .ref t_row, .ref t_open, .int v_t_arrivals, .ref t_places, .ref t_times, .ref t_cars, .ref t_hourCrossings, .ref t_hourCycles, .ref t_hourOffsets])), (t_greens, .inl (K 0, 5, .inl v_t_greens)), (t_leasts, .inl (K 0, 5, .inl v_t_leasts)), (t_queues, .inl (K 0, 5, .inl v_t_queues)), (t_seconds, .inl (K 0, 10, .inl v_t_seconds)), (t_weights, .inl (K 0, 10, .inl v_t_weights)), (t_offsets, .inl (K 0, 5, .inl v_t_offsets)), (t_row, .inl (K 0, 5, .inl r245_26.2.1)), (t_open, .inl (K 3, 600, .inl r245_26.2.2))] := hD.sub [4, 5, 0, 6, 1, 2, 3, 7, 8] (by decide) rfl
                refine lv_istore (lv' := [(10, .int r245_26.1), (13, .int (0 : Int32)), (11, .long r141_17), (4, .long (z4 + (1 : Int64))), (0, .ref t), (1, .int z1), (2, .long z2), (6, .long z6), (8, .int z8), (9, .int z9)]) hx hb d_Mo_run_248 hl (by decide) rfl (fun ls hl => ?_)
                refine lv_goto (tgt := 119) hx hb d_Mo_run_250 (by decide) ?_
                exact jh z1 z2 (z4 + (1 : Int64)) z6 z8 z9 r245_26.1 v_t_has v_t_cycle v_t_aim v_t_proved v_t_offsets r245_26.2.1 r245_26.2.2 H locs q hF hP hD hS ls (lv_sub hl [4, 5, 6, 3, 7, 8, 9, 0] rfl) hk
              · have hF := dk_f c187_24 hF
                refine lv_iconst (v := (1 : Int32)) hx hb d_Mo_run_190 (by decide) ?_
                refine lv_goto (tgt := 195) hx hb d_Mo_run_191 (by decide) ?_
                refine lv_istore (lv' := [(13, .int (1 : Int32)), (11, .long r141_17), (4, .long (z4 + (1 : Int64))), (0, .ref t), (1, .int z1), (2, .long z2), (6, .long z6), (8, .int z8), (9, .int z9), (10, .int z10)]) hx hb d_Mo_run_195 hl (by decide) rfl (fun ls hl => ?_)
                refine lv_iload hx hb d_Mo_run_197 (lv_at hl 0 rfl) ?_
                refine lv_if_eq (tgt := 242) hx hb d_Mo_run_199 (by decide) (fun h => absurd h (by decide)) (fun _ => ?_)
                refine lv_lload hx hb d_Mo_run_202 (lv_at hl 1 rfl) ?_
                refine lv_lstore (lv' := [(6, .long r141_17), (13, .int (1 : Int32)), (11, .long r141_17), (4, .long (z4 + (1 : Int64))), (0, .ref t), (1, .int z1), (2, .long z2), (8, .int z8), (9, .int z9), (10, .int z10)]) hx hb d_Mo_run_204 hl (by decide) rfl (fun ls hl => ?_)
                refine lv_iload hx hb d_Mo_run_206 (lv_at hl 8 rfl) ?_
                refine lv_istore (lv' := [(8, .int z9), (6, .long r141_17), (13, .int (1 : Int32)), (11, .long r141_17), (4, .long (z4 + (1 : Int64))), (0, .ref t), (1, .int z1), (2, .long z2), (9, .int z9), (10, .int z10)]) hx hb d_Mo_run_208 hl (by decide) rfl (fun ls hl => ?_)
                refine lv_iconst (v := (0 : Int32)) hx hb d_Mo_run_210 (by decide) ?_
                refine lv_istore (lv' := [(14, .int (0 : Int32)), (8, .int z9), (6, .long r141_17), (13, .int (1 : Int32)), (11, .long r141_17), (4, .long (z4 + (1 : Int64))), (0, .ref t), (1, .int z1), (2, .long z2), (9, .int z9), (10, .int z10)]) hx hb d_Mo_run_211 hl (by decide) rfl (fun ls hl => ?_)
                obtain ⟨q213_28, hC, hF⟩ := dk_b hF
                refine L213 n z1 z2 (z4 + (1 : Int64)) r141_17 z9 z9 (0 : Int32) v_t_has v_t_cycle v_t_aim v_t_proved v_t_offsets v_t_row v_t_open H locs q213_28 hC hP hD hS ls (lv_sub hl [6, 7, 8, 5, 2, 1, 9, 0] rfl) (fun H locs ls hP hD hS hl => ?_)
                refine lv_aload_n hx hb d_Mo_run_242 rfl (lv_at hl 0 rfl) ?_
                refine lv_iload hx hb d_Mo_run_243 (lv_at hl 6 rfl) ?_
                obtain ⟨r245_29, hC, hF⟩ := dk_b hF
                refine dk_mut (wr := [(t_leasts, .inl (K 0, 5, .inl v_t_leasts)), (t_seconds, .inl (K 0, 10, .inl v_t_seconds)), (t_weights, .inl (K 0, 10, .inl v_t_weights)), (t_offsets, .inl (K 0, 5, .inl q213_28))]) (va_runV (As := [.int z9]) (rest := []) hfix (c_Mo_goesOn l G K n H.size t t_greens t_leasts t_queues t_seconds t_weights t_offsets t_row t_open t_places t_times t_cars t_hourCrossings t_hourCycles t_hourOffsets z9 v_t_crossings v_t_first v_t_last v_t_by v_t_step v_t_has v_t_cycle v_t_aim v_t_proved v_t_arrivals v_t_greens v_t_queues v_t_row v_t_open r245_29 hC) (cwV 1 hts (gd_V lk_479 lk_481 lk_482 lk_419 lk_480) rfl rfl rfl (by decide +kernel) ⟨Nat.le_of_ble_eq_true rfl, Nat.le_of_ble_eq_true rfl⟩) (dk_preVm hK hN (hP.sub [0, 1, 3, 7, 8] rfl) (hD.sub [0, 1, 3, 7, 8] (by decide) rfl) (va_recv hK hP (ci := 8) (q0 := 0) rfl rfl)) rfl rfl hl.1 rfl (lv_room (Nat.le_of_ble_eq_true rfl)) d_Mo_run_245 ⟨Nat.le_of_ble_eq_true rfl, Nat.le_of_ble_eq_true rfl⟩) hS hA hP hD [0, 1, 3, 7, 8] [2, 4, 5, 6] rfl rfl (by decide) (by decide) (fun _ H locs hP hD hS => ?_)
                have hP : va_P G classes [(t, .inr (8, [.int v_t_crossings, .ref t_greens, .ref t_leasts, .ref t_queues, .ref t_seconds, .ref t_weights, .int v_t_first, .int v_t_last, .int v_t_by, .int v_t_step, .int v_t_has, .int v_t_cycle, .int v_t_aim, .int v_t_proved, .ref t_offsets, .ref t_row, .ref t_open, .int v_t_arrivals, .ref t_places, .ref t_times, .ref t_cars, .ref t_hourCrossings, .ref t_hourCycles, .ref t_hourOffsets])), (t_greens, .inl (K 0, 5, .inl v_t_greens)), (t_leasts, .inl (K 0, 5, .inl v_t_leasts)), (t_queues, .inl (K 0, 5, .inl v_t_queues)), (t_seconds, .inl (K 0, 10, .inl v_t_seconds)), (t_weights, .inl (K 0, 10, .inl v_t_weights)), (t_offsets, .inl (K 0, 5, .inl q213_28)), (t_row, .inl (K 0, 5, .inl r245_29.2.1)), (t_open, .inl (K 3, 600, .inl r245_29.2.2))] H := hP.sub [4, 5, 0, 6, 1, 2, 3, 7, 8] rfl
                have hD : va_D A [(t, .inr (8, [.int v_t_crossings, .ref t_greens, .ref t_leasts, .ref t_queues, .ref t_seconds, .ref t_weights, .int v_t_first, .int v_t_last, .int v_t_by, .int v_t_step, .int v_t_has, .int v_t_cycle, .int v_t_aim, .int v_t_proved, .ref t_offsets, .ref t_row, .ref t_open, .int v_t_arrivals, .ref t_places, .ref t_times, .ref t_cars, .ref t_hourCrossings, .ref t_hourCycles, .ref t_hourOffsets])), (t_greens, .inl (K 0, 5, .inl v_t_greens)), (t_leasts, .inl (K 0, 5, .inl v_t_leasts)), (t_queues, .inl (K 0, 5, .inl v_t_queues)), (t_seconds, .inl (K 0, 10, .inl v_t_seconds)), (t_weights, .inl (K 0, 10, .inl v_t_weights)), (t_offsets, .inl (K 0, 5, .inl q213_28)), (t_row, .inl (K 0, 5, .inl r245_29.2.1)), (t_open, .inl (K 3, 600, .inl r245_29.2.2))] := hD.sub [4, 5, 0, 6, 1, 2, 3, 7, 8] (by decide) rfl
                refine lv_istore (lv' := [(10, .int r245_29.1), (0, .ref t), (1, .int z1), (2, .long z2), (4, .long (z4 + (1 : Int64))), (6, .long r141_17), (8, .int z9), (9, .int z9)]) hx hb d_Mo_run_248 hl (by decide) rfl (fun ls hl => ?_)
                refine lv_goto (tgt := 119) hx hb d_Mo_run_250 (by decide) ?_
                exact jh z1 z2 (z4 + (1 : Int64)) r141_17 z9 z9 r245_29.1 v_t_has v_t_cycle v_t_aim v_t_proved q213_28 r245_29.2.1 r245_29.2.2 H locs q hF hP hD hS ls (lv_sub hl [1, 2, 3, 4, 5, 6, 7, 0] rfl) hk
            · have hF := dk_t c152_23 hF
              refine lv_lload hx hb d_Mo_run_155 (lv_at hl 0 rfl) ?_
              refine lv_iload hx hb d_Mo_run_157 (lv_at hl 6 rfl) ?_
              refine lv_i2l hx hb d_Mo_run_159 rfl ?_
              refine lv_lmul hx hb d_Mo_run_160 ?_
              refine lv_lload hx hb d_Mo_run_161 (lv_at hl 5 rfl) ?_
              refine lv_iload hx hb d_Mo_run_163 (lv_at hl 7 rfl) ?_
              refine lv_i2l hx hb d_Mo_run_165 rfl ?_
              refine lv_lmul hx hb d_Mo_run_166 ?_
              refine W.lcmp hx hb d_Mo_run_167 ?_
              refine lv_if_le (tgt := 194) hx hb d_Mo_run_168 (by decide) (fun c168_30 => ?_) (fun c168_30 => ?_)
              · have hF := dk_t c168_30 hF
                refine lv_iconst (v := (0 : Int32)) hx hb d_Mo_run_194 (by decide) ?_
                refine lv_istore (lv' := [(13, .int (0 : Int32)), (11, .long r141_17), (4, .long (z4 + (1 : Int64))), (0, .ref t), (1, .int z1), (2, .long z2), (6, .long z6), (8, .int z8), (9, .int z9), (10, .int z10)]) hx hb d_Mo_run_195 hl (by decide) rfl (fun ls hl => ?_)
                refine lv_iload hx hb d_Mo_run_197 (lv_at hl 0 rfl) ?_
                refine lv_if_eq (tgt := 242) hx hb d_Mo_run_199 (by decide) (fun _ => ?_) (fun h => absurd h (by decide))
                refine lv_aload_n hx hb d_Mo_run_242 rfl (lv_at hl 3 rfl) ?_
                refine lv_iload hx hb d_Mo_run_243 (lv_at hl 8 rfl) ?_
                obtain ⟨r245_32, hC, hF⟩ := dk_b hF
                refine dk_mut (wr := [(t_leasts, .inl (K 0, 5, .inl v_t_leasts)), (t_seconds, .inl (K 0, 10, .inl v_t_seconds)), (t_weights, .inl (K 0, 10, .inl v_t_weights)), (t_offsets, .inl (K 0, 5, .inl v_t_offsets))]) (va_runV (As := [.int z9]) (rest := []) hfix (c_Mo_goesOn l G K n H.size t t_greens t_leasts t_queues t_seconds t_weights t_offsets t_row t_open t_places t_times t_cars t_hourCrossings t_hourCycles t_hourOffsets z9 v_t_crossings v_t_first v_t_last v_t_by v_t_step v_t_has v_t_cycle v_t_aim v_t_proved v_t_arrivals v_t_greens v_t_queues v_t_row v_t_open r245_32 hC) (cwV 1 hts (gd_V lk_479 lk_481 lk_482 lk_419 lk_480) rfl rfl rfl (by decide +kernel) ⟨Nat.le_of_ble_eq_true rfl, Nat.le_of_ble_eq_true rfl⟩) (dk_preVm hK hN (hP.sub [0, 1, 3, 7, 8] rfl) (hD.sub [0, 1, 3, 7, 8] (by decide) rfl) (va_recv hK hP (ci := 8) (q0 := 0) rfl rfl)) rfl rfl hl.1 rfl (lv_room (Nat.le_of_ble_eq_true rfl)) d_Mo_run_245 ⟨Nat.le_of_ble_eq_true rfl, Nat.le_of_ble_eq_true rfl⟩) hS hA hP hD [0, 1, 3, 7, 8] [2, 4, 5, 6] rfl rfl (by decide) (by decide) (fun _ H locs hP hD hS => ?_)
                have hP : va_P G classes [(t, .inr (8, [.int v_t_crossings, .ref t_greens, .ref t_leasts, .ref t_queues, .ref t_seconds, .ref t_weights, .int v_t_first, .int v_t_last, .int v_t_by, .int v_t_step, .int v_t_has, .int v_t_cycle, .int v_t_aim, .int v_t_proved, .ref t_offsets, .ref t_row, .ref t_open, .int v_t_arrivals, .ref t_places, .ref t_times, .ref t_cars, .ref t_hourCrossings, .ref t_hourCycles, .ref t_hourOffsets])), (t_greens, .inl (K 0, 5, .inl v_t_greens)), (t_leasts, .inl (K 0, 5, .inl v_t_leasts)), (t_queues, .inl (K 0, 5, .inl v_t_queues)), (t_seconds, .inl (K 0, 10, .inl v_t_seconds)), (t_weights, .inl (K 0, 10, .inl v_t_weights)), (t_offsets, .inl (K 0, 5, .inl v_t_offsets)), (t_row, .inl (K 0, 5, .inl r245_32.2.1)), (t_open, .inl (K 3, 600, .inl r245_32.2.2))] H := hP.sub [4, 5, 0, 6, 1, 2, 3, 7, 8] rfl
                have hD : va_D A [(t, .inr (8, [.int v_t_crossings, .ref t_greens, .ref t_leasts, .ref t_queues, .ref t_seconds, .ref t_weights, .int v_t_first, .int v_t_last, .int v_t_by, .int v_t_step, .int v_t_has, .int v_t_cycle, .int v_t_aim, .int v_t_proved, .ref t_offsets, .ref t_row, .ref t_open, .int v_t_arrivals, .ref t_places, .ref t_times, .ref t_cars, .ref t_hourCrossings, .ref t_hourCycles, .ref t_hourOffsets])), (t_greens, .inl (K 0, 5, .inl v_t_greens)), (t_leasts, .inl (K 0, 5, .inl v_t_leasts)), (t_queues, .inl (K 0, 5, .inl v_t_queues)), (t_seconds, .inl (K 0, 10, .inl v_t_seconds)), (t_weights, .inl (K 0, 10, .inl v_t_weights)), (t_offsets, .inl (K 0, 5, .inl v_t_offsets)), (t_row, .inl (K 0, 5, .inl r245_32.2.1)), (t_open, .inl (K 3, 600, .inl r245_32.2.2))] := hD.sub [4, 5, 0, 6, 1, 2, 3, 7, 8] (by decide) rfl
                refine lv_istore (lv' := [(10, .int r245_32.1), (13, .int (0 : Int32)), (11, .long r141_17), (4, .long (z4 + (1 : Int64))), (0, .ref t), (1, .int z1), (2, .long z2), (6, .long z6), (8, .int z8), (9, .int z9)]) hx hb d_Mo_run_248 hl (by decide) rfl (fun ls hl => ?_)
                refine lv_goto (tgt := 119) hx hb d_Mo_run_250 (by decide) ?_
                exact jh z1 z2 (z4 + (1 : Int64)) z6 z8 z9 r245_32.1 v_t_has v_t_cycle v_t_aim v_t_proved v_t_offsets r245_32.2.1 r245_32.2.2 H locs q hF hP hD hS ls (lv_sub hl [4, 5, 6, 3, 7, 8, 9, 0] rfl) hk
              · have hF := dk_f c168_30 hF
                refine lv_goto (tgt := 190) hx hb d_Mo_run_171 (by decide) ?_
                refine lv_iconst (v := (1 : Int32)) hx hb d_Mo_run_190 (by decide) ?_
                refine lv_goto (tgt := 195) hx hb d_Mo_run_191 (by decide) ?_
                refine lv_istore (lv' := [(13, .int (1 : Int32)), (11, .long r141_17), (4, .long (z4 + (1 : Int64))), (0, .ref t), (1, .int z1), (2, .long z2), (6, .long z6), (8, .int z8), (9, .int z9), (10, .int z10)]) hx hb d_Mo_run_195 hl (by decide) rfl (fun ls hl => ?_)
                refine lv_iload hx hb d_Mo_run_197 (lv_at hl 0 rfl) ?_
                refine lv_if_eq (tgt := 242) hx hb d_Mo_run_199 (by decide) (fun h => absurd h (by decide)) (fun _ => ?_)
                refine lv_lload hx hb d_Mo_run_202 (lv_at hl 1 rfl) ?_
                refine lv_lstore (lv' := [(6, .long r141_17), (13, .int (1 : Int32)), (11, .long r141_17), (4, .long (z4 + (1 : Int64))), (0, .ref t), (1, .int z1), (2, .long z2), (8, .int z8), (9, .int z9), (10, .int z10)]) hx hb d_Mo_run_204 hl (by decide) rfl (fun ls hl => ?_)
                refine lv_iload hx hb d_Mo_run_206 (lv_at hl 8 rfl) ?_
                refine lv_istore (lv' := [(8, .int z9), (6, .long r141_17), (13, .int (1 : Int32)), (11, .long r141_17), (4, .long (z4 + (1 : Int64))), (0, .ref t), (1, .int z1), (2, .long z2), (9, .int z9), (10, .int z10)]) hx hb d_Mo_run_208 hl (by decide) rfl (fun ls hl => ?_)
                refine lv_iconst (v := (0 : Int32)) hx hb d_Mo_run_210 (by decide) ?_
                refine lv_istore (lv' := [(14, .int (0 : Int32)), (8, .int z9), (6, .long r141_17), (13, .int (1 : Int32)), (11, .long r141_17), (4, .long (z4 + (1 : Int64))), (0, .ref t), (1, .int z1), (2, .long z2), (9, .int z9), (10, .int z10)]) hx hb d_Mo_run_211 hl (by decide) rfl (fun ls hl => ?_)
                obtain ⟨q213_34, hC, hF⟩ := dk_b hF
                refine L213 n z1 z2 (z4 + (1 : Int64)) r141_17 z9 z9 (0 : Int32) v_t_has v_t_cycle v_t_aim v_t_proved v_t_offsets v_t_row v_t_open H locs q213_34 hC hP hD hS ls (lv_sub hl [6, 7, 8, 5, 2, 1, 9, 0] rfl) (fun H locs ls hP hD hS hl => ?_)
                refine lv_aload_n hx hb d_Mo_run_242 rfl (lv_at hl 0 rfl) ?_
                refine lv_iload hx hb d_Mo_run_243 (lv_at hl 6 rfl) ?_
                obtain ⟨r245_35, hC, hF⟩ := dk_b hF
                refine dk_mut (wr := [(t_leasts, .inl (K 0, 5, .inl v_t_leasts)), (t_seconds, .inl (K 0, 10, .inl v_t_seconds)), (t_weights, .inl (K 0, 10, .inl v_t_weights)), (t_offsets, .inl (K 0, 5, .inl q213_34))]) (va_runV (As := [.int z9]) (rest := []) hfix (c_Mo_goesOn l G K n H.size t t_greens t_leasts t_queues t_seconds t_weights t_offsets t_row t_open t_places t_times t_cars t_hourCrossings t_hourCycles t_hourOffsets z9 v_t_crossings v_t_first v_t_last v_t_by v_t_step v_t_has v_t_cycle v_t_aim v_t_proved v_t_arrivals v_t_greens v_t_queues v_t_row v_t_open r245_35 hC) (cwV 1 hts (gd_V lk_479 lk_481 lk_482 lk_419 lk_480) rfl rfl rfl (by decide +kernel) ⟨Nat.le_of_ble_eq_true rfl, Nat.le_of_ble_eq_true rfl⟩) (dk_preVm hK hN (hP.sub [0, 1, 3, 7, 8] rfl) (hD.sub [0, 1, 3, 7, 8] (by decide) rfl) (va_recv hK hP (ci := 8) (q0 := 0) rfl rfl)) rfl rfl hl.1 rfl (lv_room (Nat.le_of_ble_eq_true rfl)) d_Mo_run_245 ⟨Nat.le_of_ble_eq_true rfl, Nat.le_of_ble_eq_true rfl⟩) hS hA hP hD [0, 1, 3, 7, 8] [2, 4, 5, 6] rfl rfl (by decide) (by decide) (fun _ H locs hP hD hS => ?_)
                have hP : va_P G classes [(t, .inr (8, [.int v_t_crossings, .ref t_greens, .ref t_leasts, .ref t_queues, .ref t_seconds, .ref t_weights, .int v_t_first, .int v_t_last, .int v_t_by, .int v_t_step, .int v_t_has, .int v_t_cycle, .int v_t_aim, .int v_t_proved, .ref t_offsets, .ref t_row, .ref t_open, .int v_t_arrivals, .ref t_places, .ref t_times, .ref t_cars, .ref t_hourCrossings, .ref t_hourCycles, .ref t_hourOffsets])), (t_greens, .inl (K 0, 5, .inl v_t_greens)), (t_leasts, .inl (K 0, 5, .inl v_t_leasts)), (t_queues, .inl (K 0, 5, .inl v_t_queues)), (t_seconds, .inl (K 0, 10, .inl v_t_seconds)), (t_weights, .inl (K 0, 10, .inl v_t_weights)), (t_offsets, .inl (K 0, 5, .inl q213_34)), (t_row, .inl (K 0, 5, .inl r245_35.2.1)), (t_open, .inl (K 3, 600, .inl r245_35.2.2))] H := hP.sub [4, 5, 0, 6, 1, 2, 3, 7, 8] rfl
                have hD : va_D A [(t, .inr (8, [.int v_t_crossings, .ref t_greens, .ref t_leasts, .ref t_queues, .ref t_seconds, .ref t_weights, .int v_t_first, .int v_t_last, .int v_t_by, .int v_t_step, .int v_t_has, .int v_t_cycle, .int v_t_aim, .int v_t_proved, .ref t_offsets, .ref t_row, .ref t_open, .int v_t_arrivals, .ref t_places, .ref t_times, .ref t_cars, .ref t_hourCrossings, .ref t_hourCycles, .ref t_hourOffsets])), (t_greens, .inl (K 0, 5, .inl v_t_greens)), (t_leasts, .inl (K 0, 5, .inl v_t_leasts)), (t_queues, .inl (K 0, 5, .inl v_t_queues)), (t_seconds, .inl (K 0, 10, .inl v_t_seconds)), (t_weights, .inl (K 0, 10, .inl v_t_weights)), (t_offsets, .inl (K 0, 5, .inl q213_34)), (t_row, .inl (K 0, 5, .inl r245_35.2.1)), (t_open, .inl (K 3, 600, .inl r245_35.2.2))] := hD.sub [4, 5, 0, 6, 1, 2, 3, 7, 8] (by decide) rfl
                refine lv_istore (lv' := [(10, .int r245_35.1), (0, .ref t), (1, .int z1), (2, .long z2), (4, .long (z4 + (1 : Int64))), (6, .long r141_17), (8, .int z9), (9, .int z9)]) hx hb d_Mo_run_248 hl (by decide) rfl (fun ls hl => ?_)
                refine lv_goto (tgt := 119) hx hb d_Mo_run_250 (by decide) ?_
                exact jh z1 z2 (z4 + (1 : Int64)) r141_17 z9 z9 r245_35.1 v_t_has v_t_cycle v_t_aim v_t_proved q213_34 r245_35.2.1 r245_35.2.2 H locs q hF hP hD hS ls (lv_sub hl [1, 2, 3, 4, 5, 6, 7, 0] rfl) hk
  have L55 : ∀ (k : Nat) (z1 : Int32) (z2 : Int64) (z4 : Int64) (z6 : Int64) (z8 : Int32) (z9 : Int32) (v_t_has : Int32) (v_t_cycle : Int32) (v_t_aim : Int32) (v_t_proved : Int32) (v_t_offsets : Nat → Int32) (v_t_row : Nat → Int32) (v_t_open : Nat → Int32) (H : Heap) (locs : List Loc) (q : Int64 × Int32 × (Nat → Int32) × (Nat → Int32) × (Nat → Int32)), p_Mo_run_55 n k v_t_crossings v_t_last v_t_leasts v_t_by v_t_step v_t_greens v_t_queues v_t_seconds v_t_weights z1 z2 z4 z6 z8 z9 v_t_offsets v_t_row v_t_open = some q → va_P G classes [(t, .inr (8, [.int v_t_crossings, .ref t_greens, .ref t_leasts, .ref t_queues, .ref t_seconds, .ref t_weights, .int v_t_first, .int v_t_last, .int v_t_by, .int v_t_step, .int v_t_has, .int v_t_cycle, .int v_t_aim, .int v_t_proved, .ref t_offsets, .ref t_row, .ref t_open, .int v_t_arrivals, .ref t_places, .ref t_times, .ref t_cars, .ref t_hourCrossings, .ref t_hourCycles, .ref t_hourOffsets])), (t_greens, .inl (K 0, 5, .inl v_t_greens)), (t_leasts, .inl (K 0, 5, .inl v_t_leasts)), (t_queues, .inl (K 0, 5, .inl v_t_queues)), (t_seconds, .inl (K 0, 10, .inl v_t_seconds)), (t_weights, .inl (K 0, 10, .inl v_t_weights)), (t_offsets, .inl (K 0, 5, .inl v_t_offsets)), (t_row, .inl (K 0, 5, .inl v_t_row)), (t_open, .inl (K 3, 600, .inl v_t_open))] H → va_D A [(t, .inr (8, [.int v_t_crossings, .ref t_greens, .ref t_leasts, .ref t_queues, .ref t_seconds, .ref t_weights, .int v_t_first, .int v_t_last, .int v_t_by, .int v_t_step, .int v_t_has, .int v_t_cycle, .int v_t_aim, .int v_t_proved, .ref t_offsets, .ref t_row, .ref t_open, .int v_t_arrivals, .ref t_places, .ref t_times, .ref t_cars, .ref t_hourCrossings, .ref t_hourCycles, .ref t_hourOffsets])), (t_greens, .inl (K 0, 5, .inl v_t_greens)), (t_leasts, .inl (K 0, 5, .inl v_t_leasts)), (t_queues, .inl (K 0, 5, .inl v_t_queues)), (t_seconds, .inl (K 0, 10, .inl v_t_seconds)), (t_weights, .inl (K 0, 10, .inl v_t_weights)), (t_offsets, .inl (K 0, 5, .inl v_t_offsets)), (t_row, .inl (K 0, 5, .inl v_t_row)), (t_open, .inl (K 3, 600, .inl v_t_open))] → va_S A s.heap H locs → ∀ ls : Array Slot, lv_has ls 15 [(0, .ref t), (1, .int z1), (2, .long z2), (4, .long z4), (6, .long z6), (8, .int z8), (9, .int z9)] → (∀ (H1 : Heap) (locs1 : List Loc) (ls1 : Array Slot), va_P G classes [(t, .inr (8, [.int v_t_crossings, .ref t_greens, .ref t_leasts, .ref t_queues, .ref t_seconds, .ref t_weights, .int v_t_first, .int v_t_last, .int v_t_by, .int v_t_step, .int v_t_has, .int v_t_cycle, .int v_t_aim, .int v_t_proved, .ref t_offsets, .ref t_row, .ref t_open, .int v_t_arrivals, .ref t_places, .ref t_times, .ref t_cars, .ref t_hourCrossings, .ref t_hourCycles, .ref t_hourOffsets])), (t_greens, .inl (K 0, 5, .inl v_t_greens)), (t_leasts, .inl (K 0, 5, .inl v_t_leasts)), (t_queues, .inl (K 0, 5, .inl v_t_queues)), (t_seconds, .inl (K 0, 10, .inl v_t_seconds)), (t_weights, .inl (K 0, 10, .inl v_t_weights)), (t_offsets, .inl (K 0, 5, .inl q.2.2.1)), (t_row, .inl (K 0, 5, .inl q.2.2.2.1)), (t_open, .inl (K 3, 600, .inl q.2.2.2.2))] H1 → va_D A [(t, .inr (8, [.int v_t_crossings, .ref t_greens, .ref t_leasts, .ref t_queues, .ref t_seconds, .ref t_weights, .int v_t_first, .int v_t_last, .int v_t_by, .int v_t_step, .int v_t_has, .int v_t_cycle, .int v_t_aim, .int v_t_proved, .ref t_offsets, .ref t_row, .ref t_open, .int v_t_arrivals, .ref t_places, .ref t_times, .ref t_cars, .ref t_hourCrossings, .ref t_hourCycles, .ref t_hourOffsets])), (t_greens, .inl (K 0, 5, .inl v_t_greens)), (t_leasts, .inl (K 0, 5, .inl v_t_leasts)), (t_queues, .inl (K 0, 5, .inl v_t_queues)), (t_seconds, .inl (K 0, 10, .inl v_t_seconds)), (t_weights, .inl (K 0, 10, .inl v_t_weights)), (t_offsets, .inl (K 0, 5, .inl q.2.2.1)), (t_row, .inl (K 0, 5, .inl q.2.2.2.1)), (t_open, .inl (K 3, 600, .inl q.2.2.2.2))] → va_S A s.heap H1 locs1 → lv_has ls1 15 [(0, .ref t), (1, .int z1), (4, .long q.1), (8, .int q.2.1)] → W p l e m_Mo_run s m ([.ref t, .int x1, .long x2] : List Value).toArray below meth c H1 locs1 0 0 (MQ below (dk_Qm (some (.int o.1)) G (fun _ : Unit => [(t, .inr (8, [.int v_t_crossings, .ref t_greens, .ref t_leasts, .ref t_queues, .ref t_seconds, .ref t_weights, .int v_t_first, .int v_t_last, .int v_t_by, .int v_t_step, .int o.2.1, .int o.2.2.1, .int o.2.2.2.1, .int o.2.2.2.2.1, .ref t_offsets, .ref t_row, .ref t_open, .int v_t_arrivals, .ref t_places, .ref t_times, .ref t_cars, .ref t_hourCrossings, .ref t_hourCycles, .ref t_hourOffsets])), (t_greens, .inl (K 0, 5, .inl v_t_greens)), (t_leasts, .inl (K 0, 5, .inl v_t_leasts)), (t_queues, .inl (K 0, 5, .inl v_t_queues)), (t_seconds, .inl (K 0, 10, .inl v_t_seconds)), (t_weights, .inl (K 0, 10, .inl v_t_weights)), (t_offsets, .inl (K 0, 5, .inl o.2.2.2.2.2.1)), (t_row, .inl (K 0, 5, .inl o.2.2.2.2.2.2.1)), (t_open, .inl (K 3, 600, .inl o.2.2.2.2.2.2.2))]) A) ([.ref t, .int x1, .long x2] : List Value).toArray s 0 0 A) (F0 m 265 ls1 [])) → W p l e m_Mo_run s m ([.ref t, .int x1, .long x2] : List Value).toArray below meth c H locs 0 0 (MQ below (dk_Qm (some (.int o.1)) G (fun _ : Unit => [(t, .inr (8, [.int v_t_crossings, .ref t_greens, .ref t_leasts, .ref t_queues, .ref t_seconds, .ref t_weights, .int v_t_first, .int v_t_last, .int v_t_by, .int v_t_step, .int o.2.1, .int o.2.2.1, .int o.2.2.2.1, .int o.2.2.2.2.1, .ref t_offsets, .ref t_row, .ref t_open, .int v_t_arrivals, .ref t_places, .ref t_times, .ref t_cars, .ref t_hourCrossings, .ref t_hourCycles, .ref t_hourOffsets])), (t_greens, .inl (K 0, 5, .inl v_t_greens)), (t_leasts, .inl (K 0, 5, .inl v_t_leasts)), (t_queues, .inl (K 0, 5, .inl v_t_queues)), (t_seconds, .inl (K 0, 10, .inl v_t_seconds)), (t_weights, .inl (K 0, 10, .inl v_t_weights)), (t_offsets, .inl (K 0, 5, .inl o.2.2.2.2.2.1)), (t_row, .inl (K 0, 5, .inl o.2.2.2.2.2.2.1)), (t_open, .inl (K 3, 600, .inl o.2.2.2.2.2.2.2))]) A) ([.ref t, .int x1, .long x2] : List Value).toArray s 0 0 A) (F0 m 55 ls []) := by
    intro k
    induction k with
    | zero =>
      intro z1 z2 z4 z6 z8 z9 v_t_has v_t_cycle v_t_aim v_t_proved v_t_offsets v_t_row v_t_open H locs q hF hP hD hS ls hl hk
      exact absurd hF (by simp [p_Mo_run_55])
    | succ k jh =>
      intro z1 z2 z4 z6 z8 z9 v_t_has v_t_cycle v_t_aim v_t_proved v_t_offsets v_t_row v_t_open H locs q hF hP hD hS ls hl hk
      have hF := (q_Mo_run_55 n k v_t_crossings v_t_last v_t_leasts v_t_by v_t_step v_t_greens v_t_queues v_t_seconds v_t_weights z1 z2 z4 z6 z8 z9 v_t_offsets v_t_row v_t_open).symm.trans hF
      refine lv_iload hx hb d_Mo_run_55 (lv_at hl 6 rfl) ?_
      refine lv_aload_n hx hb d_Mo_run_57 rfl (lv_at hl 0 rfl) ?_
      refine va_get (D := G) (ci := 8) (v := .int v_t_last) (C := R_Mo) (T := F_Mo) (N := 24) hx hb hts i_Mo hown hK hP 0 rfl rfl 7 (by decide) (hts _ lk_438) (fun _ h9 => h9) rfl d_Mo_run_58 ?_
      refine lv_icmp_gt (tgt := 265) hx hb d_Mo_run_61 (by decide) (fun c61_8 => ?_) (fun c61_8 => ?_)
      · have hF := dk_t c61_8 hF
        obtain rfl := Option.some.inj hF
        exact hk H locs ls hP hD hS (lv_sub hl [0, 1, 3, 5] rfl)
      · have hF := dk_f c61_8 hF
        refine lv_lload hx hb d_Mo_run_64 (lv_at hl 3 rfl) ?_
        refine lv_lload_n hx hb d_Mo_run_66 rfl (lv_at hl 2 rfl) ?_
        refine W.lcmp hx hb d_Mo_run_67 ?_
        refine lv_if_ge (tgt := 265) hx hb d_Mo_run_68 (by decide) (fun c68_9 => ?_) (fun c68_9 => ?_)
        · have hF := dk_t c68_9 hF
          obtain rfl := Option.some.inj hF
          exact hk H locs ls hP hD hS (lv_sub hl [0, 1, 3, 5] rfl)
        · have hF := dk_f c68_9 hF
          refine lv_aload_n hx hb d_Mo_run_71 rfl (lv_at hl 0 rfl) ?_
          refine lv_iload hx hb d_Mo_run_72 (lv_at hl 6 rfl) ?_
          obtain ⟨r74_10, hC, hF⟩ := dk_b hF
          refine dk_pure (va_runV (As := [.int z9]) (rest := []) hfix (c_Mo_mayBe l G K n t t_greens t_leasts t_queues t_seconds t_weights t_offsets t_row t_open t_places t_times t_cars t_hourCrossings t_hourCycles t_hourOffsets z9 v_t_crossings v_t_first v_t_last v_t_by v_t_step v_t_has v_t_cycle v_t_aim v_t_proved v_t_arrivals v_t_leasts r74_10 hC) (cwV 1 hts (gd_V lk_449 lk_451 lk_452 lk_419 lk_450) rfl rfl rfl (by decide +kernel) ⟨Nat.le_of_ble_eq_true rfl, Nat.le_of_ble_eq_true rfl⟩) (dk_preV hK hN (hP.sub [0, 2] rfl) (va_recv hK hP (ci := 8) (q0 := 0) rfl rfl)) rfl rfl hl.1 rfl (lv_room (Nat.le_of_ble_eq_true rfl)) d_Mo_run_74 ⟨Nat.le_of_ble_eq_true rfl, Nat.le_of_ble_eq_true rfl⟩) ?_
          refine lv_istore (lv' := [(10, .int r74_10), (0, .ref t), (1, .int z1), (2, .long z2), (4, .long z4), (6, .long z6), (8, .int z8), (9, .int z9)]) hx hb d_Mo_run_77 hl (by decide) rfl (fun ls hl => ?_)
          refine lv_iconst (v := (0 : Int32)) hx hb d_Mo_run_79 (by decide) ?_
          refine lv_istore (lv' := [(11, .int (0 : Int32)), (10, .int r74_10), (0, .ref t), (1, .int z1), (2, .long z2), (4, .long z4), (6, .long z6), (8, .int z8), (9, .int z9)]) hx hb d_Mo_run_80 hl (by decide) rfl (fun ls hl => ?_)
          obtain ⟨q82_14, hC, hF⟩ := dk_b hF
          refine L82 n z1 z2 z4 z6 z8 z9 r74_10 (0 : Int32) v_t_has v_t_cycle v_t_aim v_t_proved v_t_offsets v_t_row v_t_open H locs q82_14 hC hP hD hS ls (lv_sub hl [2, 3, 4, 5, 6, 7, 8, 1, 0] rfl) (fun H locs ls hP hD hS hl => ?_)
          obtain ⟨q119_36, hC, hF⟩ := dk_b hF
          refine L119 n z1 z2 z4 z6 z8 z9 r74_10 v_t_has v_t_cycle v_t_aim v_t_proved v_t_offsets q82_14.1 q82_14.2 H locs q119_36 hC hP hD hS ls (lv_sub hl [0, 1, 2, 3, 4, 5, 6, 7] rfl) (fun H locs ls hP hD hS hl => ?_)
          refine lv_iload hx hb d_Mo_run_253 (lv_at hl 6 rfl) ?_
          refine lv_aload_n hx hb d_Mo_run_255 rfl (lv_at hl 0 rfl) ?_
          refine va_get (D := G) (ci := 8) (v := .int v_t_by) (C := R_Mo) (T := F_Mo) (N := 24) hx hb hts i_Mo hown hK hP 0 rfl rfl 8 (by decide) (hts _ lk_439) (fun _ h9 => h9) rfl d_Mo_run_256 ?_
          refine lv_iadd hx hb d_Mo_run_259 ?_
          refine lv_istore (lv' := [(9, .int (z9 + v_t_by)), (0, .ref t), (1, .int z1), (2, .long z2), (4, .long q119_36.1), (6, .long q119_36.2.1), (8, .int q119_36.2.2.1)]) hx hb d_Mo_run_260 hl (by decide) rfl (fun ls hl => ?_)
          refine lv_goto (tgt := 55) hx hb d_Mo_run_262 (by decide) ?_
          exact jh z1 z2 q119_36.1 q119_36.2.1 q119_36.2.2.1 (z9 + v_t_by) v_t_has v_t_cycle v_t_aim v_t_proved q119_36.2.2.2.1 q119_36.2.2.2.2.1 q119_36.2.2.2.2.2 H locs q hF hP hD hS ls (lv_sub hl [1, 2, 3, 4, 5, 6, 0] rfl) hk
  unfold p_Mo_run at hF
  refine lv_iload_n hx hb d_Mo_run_0 rfl (lv_at hl 1 rfl) ?_
  refine lv_i2l hx hb d_Mo_run_1 rfl ?_
  refine lv_lconst (v := (0 : Int64)) hx hb d_Mo_run_2 (by decide) ?_
  refine lv_lconst (v := (1 : Int64)) hx hb d_Mo_run_3 (by decide) ?_
  obtain ⟨r4_1, hC, hF⟩ := dk_b hF
  refine dk_pure (va_runS (As := [.long x1.toInt64, .long (0 : Int64), .long (1 : Int64)]) (rest := []) hfix (c_Mo_isIn l G K n x1.toInt64 (0 : Int64) (1 : Int64) r4_1 hC) (va_cwS 3 hts (gd_S lk_416 lk_418 lk_419 lk_417) rfl rfl rfl (by decide +kernel) ⟨Nat.le_of_ble_eq_true rfl, Nat.le_of_ble_eq_true rfl⟩) (dk_preS hK hN (hP.sub [] rfl)) rfl rfl hl.1 rfl (lv_room (Nat.le_of_ble_eq_true rfl)) d_Mo_run_4 ⟨Nat.le_of_ble_eq_true rfl, Nat.le_of_ble_eq_true rfl⟩) ?_
  refine lv_if_eq (tgt := 38) hx hb d_Mo_run_7 (by decide) (fun c7_2 => ?_) (fun c7_2 => ?_)
  · have hF := dk_t c7_2 hF
    refine lv_iconst (v := ((-1) : Int32)) hx hb d_Mo_run_38 (by decide) ?_
    obtain rfl := Option.some.inj hF
    exact W.iret (v := ((-1) : Int32)) hx hb hr (fun t ht hW => ⟨⟨(), rfl, by rw [ht]; exact hP, hD⟩, hS.F ht⟩) hS.2.2 d_Mo_run_39
  · have hF := dk_f c7_2 hF
    refine lv_lload_n hx hb d_Mo_run_10 rfl (lv_at hl 2 rfl) ?_
    refine lv_lconst (v := (1 : Int64)) hx hb d_Mo_run_11 (by decide) ?_
    refine lv_ldc2 (own := R_Mo) (index := 122) (v := (200000 : Int64)) hx hb hown (hts _ lk_470) d_Mo_run_12 ?_
    obtain ⟨r15_3, hC, hF⟩ := dk_b hF
    refine dk_pure (va_runS (As := [.long x2, .long (1 : Int64), .long (200000 : Int64)]) (rest := []) hfix (c_Mo_isIn l G K n x2 (1 : Int64) (200000 : Int64) r15_3 hC) (va_cwS 3 hts (gd_S lk_416 lk_418 lk_419 lk_417) rfl rfl rfl (by decide +kernel) ⟨Nat.le_of_ble_eq_true rfl, Nat.le_of_ble_eq_true rfl⟩) (dk_preS hK hN (hP.sub [] rfl)) rfl rfl hl.1 rfl (lv_room (Nat.le_of_ble_eq_true rfl)) d_Mo_run_15 ⟨Nat.le_of_ble_eq_true rfl, Nat.le_of_ble_eq_true rfl⟩) ?_
    refine lv_if_eq (tgt := 38) hx hb d_Mo_run_18 (by decide) (fun c18_4 => ?_) (fun c18_4 => ?_)
    · have hF := dk_t c18_4 hF
      refine lv_iconst (v := ((-1) : Int32)) hx hb d_Mo_run_38 (by decide) ?_
      obtain rfl := Option.some.inj hF
      exact W.iret (v := ((-1) : Int32)) hx hb hr (fun t ht hW => ⟨⟨(), rfl, by rw [ht]; exact hP, hD⟩, hS.F ht⟩) hS.2.2 d_Mo_run_39
    · have hF := dk_f c18_4 hF
      refine lv_aload_n hx hb d_Mo_run_21 rfl (lv_at hl 0 rfl) ?_
      refine va_get (D := G) (ci := 8) (v := .int v_t_crossings) (C := R_Mo) (T := F_Mo) (N := 24) hx hb hts i_Mo hown hK hP 0 rfl rfl 0 (by decide) (hts _ lk_415) (fun _ h9 => h9) rfl d_Mo_run_22 ?_
      refine lv_iconst (v := (2 : Int32)) hx hb d_Mo_run_25 (by decide) ?_
      refine lv_icmp_lt (tgt := 38) hx hb d_Mo_run_26 (by decide) (fun c26_5 => ?_) (fun c26_5 => ?_)
      · have hF := dk_t c26_5 hF
        refine lv_iconst (v := ((-1) : Int32)) hx hb d_Mo_run_38 (by decide) ?_
        obtain rfl := Option.some.inj hF
        exact W.iret (v := ((-1) : Int32)) hx hb hr (fun t ht hW => ⟨⟨(), rfl, by rw [ht]; exact hP, hD⟩, hS.F ht⟩) hS.2.2 d_Mo_run_39
      · have hF := dk_f c26_5 hF
        refine lv_aload_n hx hb d_Mo_run_29 rfl (lv_at hl 0 rfl) ?_
        obtain ⟨r30_6, hC, hF⟩ := dk_b hF
        refine dk_pure (va_runV (As := []) (rest := []) hfix (c_Mo_allRows l G K n t t_greens t_leasts t_queues t_seconds t_weights t_offsets t_row t_open t_places t_times t_cars t_hourCrossings t_hourCycles t_hourOffsets v_t_crossings v_t_first v_t_last v_t_by v_t_step v_t_has v_t_cycle v_t_aim v_t_proved v_t_arrivals v_t_leasts r30_6 hC) (cwV 0 hts (gd_V lk_471 lk_473 lk_474 lk_419 lk_472) rfl rfl rfl (by decide +kernel) ⟨Nat.le_of_ble_eq_true rfl, Nat.le_of_ble_eq_true rfl⟩) (dk_preV hK hN (hP.sub [0, 2] rfl) (va_recv hK hP (ci := 8) (q0 := 0) rfl rfl)) rfl rfl hl.1 rfl (lv_room (Nat.le_of_ble_eq_true rfl)) d_Mo_run_30 ⟨Nat.le_of_ble_eq_true rfl, Nat.le_of_ble_eq_true rfl⟩) ?_
        refine lv_lconst (v := (0 : Int64)) hx hb d_Mo_run_33 (by decide) ?_
        refine W.lcmp hx hb d_Mo_run_34 ?_
        refine lv_if_ne (tgt := 40) hx hb d_Mo_run_35 (by decide) (fun c35_7 => ?_) (fun c35_7 => ?_)
        · have hF := dk_f c35_7 hF
          refine lv_lconst (v := (0 : Int64)) hx hb d_Mo_run_40 (by decide) ?_
          refine lv_lstore (lv' := [(4, .long (0 : Int64)), (0, .ref t), (1, .int x1), (2, .long x2)]) hx hb d_Mo_run_41 hl (by decide) rfl (fun ls hl => ?_)
          refine lv_lconst (v := (0 : Int64)) hx hb d_Mo_run_43 (by decide) ?_
          refine lv_lstore (lv' := [(6, .long (0 : Int64)), (4, .long (0 : Int64)), (0, .ref t), (1, .int x1), (2, .long x2)]) hx hb d_Mo_run_44 hl (by decide) rfl (fun ls hl => ?_)
          refine lv_iconst (v := (0 : Int32)) hx hb d_Mo_run_46 (by decide) ?_
          refine lv_istore (lv' := [(8, .int (0 : Int32)), (6, .long (0 : Int64)), (4, .long (0 : Int64)), (0, .ref t), (1, .int x1), (2, .long x2)]) hx hb d_Mo_run_47 hl (by decide) rfl (fun ls hl => ?_)
          refine lv_aload_n hx hb d_Mo_run_49 rfl (lv_at hl 3 rfl) ?_
          refine va_get (D := G) (ci := 8) (v := .int v_t_first) (C := R_Mo) (T := F_Mo) (N := 24) hx hb hts i_Mo hown hK hP 0 rfl rfl 6 (by decide) (hts _ lk_437) (fun _ h9 => h9) rfl d_Mo_run_50 ?_
          refine lv_istore (lv' := [(9, .int v_t_first), (8, .int (0 : Int32)), (6, .long (0 : Int64)), (4, .long (0 : Int64)), (0, .ref t), (1, .int x1), (2, .long x2)]) hx hb d_Mo_run_53 hl (by decide) rfl (fun ls hl => ?_)
          obtain ⟨q55_37, hC, hF⟩ := dk_b hF
          refine L55 n x1 x2 (0 : Int64) (0 : Int64) (0 : Int32) v_t_first v_t_has v_t_cycle v_t_aim v_t_proved v_t_offsets v_t_row v_t_open s.heap [] q55_37 hC hP hD hS ls (lv_sub hl [4, 5, 6, 3, 2, 1, 0] rfl) (fun H locs ls hP hD hS hl => ?_)
          refine lv_aload_n hx hb d_Mo_run_265 rfl (lv_at hl 0 rfl) ?_
          refine lv_iconst (v := (1 : Int32)) hx hb d_Mo_run_266 (by decide) ?_
          refine va_put (D := G) (ci := 8) (v := .int (1 : Int32)) (ty := .boolean) (C := R_Mo) (T := F_Mo) (N := 24) hx hb hts i_Mo t_Mo t_Mo_ok n_Mo hown hK hP hD hS 0 rfl rfl 10 (by decide) (hts _ lk_427) (fun _ h9 => h9) rfl (by decide +kernel) rfl rfl (Nat.le_of_ble_eq_true rfl) d_Mo_run_267 (fun H locs hP hD hS => ?_)
          have hP : va_P G classes [(t, .inr (8, [.int v_t_crossings, .ref t_greens, .ref t_leasts, .ref t_queues, .ref t_seconds, .ref t_weights, .int v_t_first, .int v_t_last, .int v_t_by, .int v_t_step, .int (1 : Int32), .int v_t_cycle, .int v_t_aim, .int v_t_proved, .ref t_offsets, .ref t_row, .ref t_open, .int v_t_arrivals, .ref t_places, .ref t_times, .ref t_cars, .ref t_hourCrossings, .ref t_hourCycles, .ref t_hourOffsets])), (t_greens, .inl (K 0, 5, .inl v_t_greens)), (t_leasts, .inl (K 0, 5, .inl v_t_leasts)), (t_queues, .inl (K 0, 5, .inl v_t_queues)), (t_seconds, .inl (K 0, 10, .inl v_t_seconds)), (t_weights, .inl (K 0, 10, .inl v_t_weights)), (t_offsets, .inl (K 0, 5, .inl q55_37.2.2.1)), (t_row, .inl (K 0, 5, .inl q55_37.2.2.2.1)), (t_open, .inl (K 3, 600, .inl q55_37.2.2.2.2))] H := hP
          have hD : va_D A [(t, .inr (8, [.int v_t_crossings, .ref t_greens, .ref t_leasts, .ref t_queues, .ref t_seconds, .ref t_weights, .int v_t_first, .int v_t_last, .int v_t_by, .int v_t_step, .int (1 : Int32), .int v_t_cycle, .int v_t_aim, .int v_t_proved, .ref t_offsets, .ref t_row, .ref t_open, .int v_t_arrivals, .ref t_places, .ref t_times, .ref t_cars, .ref t_hourCrossings, .ref t_hourCycles, .ref t_hourOffsets])), (t_greens, .inl (K 0, 5, .inl v_t_greens)), (t_leasts, .inl (K 0, 5, .inl v_t_leasts)), (t_queues, .inl (K 0, 5, .inl v_t_queues)), (t_seconds, .inl (K 0, 10, .inl v_t_seconds)), (t_weights, .inl (K 0, 10, .inl v_t_weights)), (t_offsets, .inl (K 0, 5, .inl q55_37.2.2.1)), (t_row, .inl (K 0, 5, .inl q55_37.2.2.2.1)), (t_open, .inl (K 3, 600, .inl q55_37.2.2.2.2))] := hD
          refine lv_aload_n hx hb d_Mo_run_270 rfl (lv_at hl 0 rfl) ?_
          refine lv_iload hx hb d_Mo_run_271 (lv_at hl 3 rfl) ?_
          refine va_put (D := G) (ci := 8) (v := .int q55_37.2.1) (ty := .int) (C := R_Mo) (T := F_Mo) (N := 24) hx hb hts i_Mo t_Mo t_Mo_ok n_Mo hown hK hP hD hS 0 rfl rfl 11 (by decide) (hts _ lk_444) (fun _ h9 => h9) rfl (by decide +kernel) rfl rfl (Nat.le_of_ble_eq_true rfl) d_Mo_run_273 (fun H locs hP hD hS => ?_)
          have hP : va_P G classes [(t, .inr (8, [.int v_t_crossings, .ref t_greens, .ref t_leasts, .ref t_queues, .ref t_seconds, .ref t_weights, .int v_t_first, .int v_t_last, .int v_t_by, .int v_t_step, .int (1 : Int32), .int q55_37.2.1, .int v_t_aim, .int v_t_proved, .ref t_offsets, .ref t_row, .ref t_open, .int v_t_arrivals, .ref t_places, .ref t_times, .ref t_cars, .ref t_hourCrossings, .ref t_hourCycles, .ref t_hourOffsets])), (t_greens, .inl (K 0, 5, .inl v_t_greens)), (t_leasts, .inl (K 0, 5, .inl v_t_leasts)), (t_queues, .inl (K 0, 5, .inl v_t_queues)), (t_seconds, .inl (K 0, 10, .inl v_t_seconds)), (t_weights, .inl (K 0, 10, .inl v_t_weights)), (t_offsets, .inl (K 0, 5, .inl q55_37.2.2.1)), (t_row, .inl (K 0, 5, .inl q55_37.2.2.2.1)), (t_open, .inl (K 3, 600, .inl q55_37.2.2.2.2))] H := hP
          have hD : va_D A [(t, .inr (8, [.int v_t_crossings, .ref t_greens, .ref t_leasts, .ref t_queues, .ref t_seconds, .ref t_weights, .int v_t_first, .int v_t_last, .int v_t_by, .int v_t_step, .int (1 : Int32), .int q55_37.2.1, .int v_t_aim, .int v_t_proved, .ref t_offsets, .ref t_row, .ref t_open, .int v_t_arrivals, .ref t_places, .ref t_times, .ref t_cars, .ref t_hourCrossings, .ref t_hourCycles, .ref t_hourOffsets])), (t_greens, .inl (K 0, 5, .inl v_t_greens)), (t_leasts, .inl (K 0, 5, .inl v_t_leasts)), (t_queues, .inl (K 0, 5, .inl v_t_queues)), (t_seconds, .inl (K 0, 10, .inl v_t_seconds)), (t_weights, .inl (K 0, 10, .inl v_t_weights)), (t_offsets, .inl (K 0, 5, .inl q55_37.2.2.1)), (t_row, .inl (K 0, 5, .inl q55_37.2.2.2.1)), (t_open, .inl (K 3, 600, .inl q55_37.2.2.2.2))] := hD
          refine lv_aload_n hx hb d_Mo_run_276 rfl (lv_at hl 0 rfl) ?_
          refine lv_iload_n hx hb d_Mo_run_277 rfl (lv_at hl 1 rfl) ?_
          refine va_put (D := G) (ci := 8) (v := .int x1) (ty := .int) (C := R_Mo) (T := F_Mo) (N := 24) hx hb hts i_Mo t_Mo t_Mo_ok n_Mo hown hK hP hD hS 0 rfl rfl 12 (by decide) (hts _ lk_483) (fun _ h9 => h9) rfl (by decide +kernel) rfl rfl (Nat.le_of_ble_eq_true rfl) d_Mo_run_278 (fun H locs hP hD hS => ?_)
          have hP : va_P G classes [(t, .inr (8, [.int v_t_crossings, .ref t_greens, .ref t_leasts, .ref t_queues, .ref t_seconds, .ref t_weights, .int v_t_first, .int v_t_last, .int v_t_by, .int v_t_step, .int (1 : Int32), .int q55_37.2.1, .int x1, .int v_t_proved, .ref t_offsets, .ref t_row, .ref t_open, .int v_t_arrivals, .ref t_places, .ref t_times, .ref t_cars, .ref t_hourCrossings, .ref t_hourCycles, .ref t_hourOffsets])), (t_greens, .inl (K 0, 5, .inl v_t_greens)), (t_leasts, .inl (K 0, 5, .inl v_t_leasts)), (t_queues, .inl (K 0, 5, .inl v_t_queues)), (t_seconds, .inl (K 0, 10, .inl v_t_seconds)), (t_weights, .inl (K 0, 10, .inl v_t_weights)), (t_offsets, .inl (K 0, 5, .inl q55_37.2.2.1)), (t_row, .inl (K 0, 5, .inl q55_37.2.2.2.1)), (t_open, .inl (K 3, 600, .inl q55_37.2.2.2.2))] H := hP
          have hD : va_D A [(t, .inr (8, [.int v_t_crossings, .ref t_greens, .ref t_leasts, .ref t_queues, .ref t_seconds, .ref t_weights, .int v_t_first, .int v_t_last, .int v_t_by, .int v_t_step, .int (1 : Int32), .int q55_37.2.1, .int x1, .int v_t_proved, .ref t_offsets, .ref t_row, .ref t_open, .int v_t_arrivals, .ref t_places, .ref t_times, .ref t_cars, .ref t_hourCrossings, .ref t_hourCycles, .ref t_hourOffsets])), (t_greens, .inl (K 0, 5, .inl v_t_greens)), (t_leasts, .inl (K 0, 5, .inl v_t_leasts)), (t_queues, .inl (K 0, 5, .inl v_t_queues)), (t_seconds, .inl (K 0, 10, .inl v_t_seconds)), (t_weights, .inl (K 0, 10, .inl v_t_weights)), (t_offsets, .inl (K 0, 5, .inl q55_37.2.2.1)), (t_row, .inl (K 0, 5, .inl q55_37.2.2.2.1)), (t_open, .inl (K 3, 600, .inl q55_37.2.2.2.2))] := hD
          refine lv_aload_n hx hb d_Mo_run_281 rfl (lv_at hl 0 rfl) ?_
          refine lv_lload hx hb d_Mo_run_282 (lv_at hl 2 rfl) ?_
          refine lv_aload_n hx hb d_Mo_run_284 rfl (lv_at hl 0 rfl) ?_
          obtain ⟨r285_38, hC, hF⟩ := dk_b hF
          refine dk_pure (va_runV (As := []) (rest := [.long q55_37.1, .ref t]) hfix (c_Mo_allRows l G K n t t_greens t_leasts t_queues t_seconds t_weights t_offsets t_row t_open t_places t_times t_cars t_hourCrossings t_hourCycles t_hourOffsets v_t_crossings v_t_first v_t_last v_t_by v_t_step (1 : Int32) q55_37.2.1 x1 v_t_proved v_t_arrivals v_t_leasts r285_38 hC) (cwV 0 hts (gd_V lk_471 lk_473 lk_474 lk_419 lk_472) rfl rfl rfl (by decide +kernel) ⟨Nat.le_of_ble_eq_true rfl, Nat.le_of_ble_eq_true rfl⟩) (dk_preV hK hN (hP.sub [0, 2] rfl) (va_recv hK hP (ci := 8) (q0 := 0) rfl rfl)) rfl rfl hl.1 rfl (lv_room (Nat.le_of_ble_eq_true rfl)) d_Mo_run_285 ⟨Nat.le_of_ble_eq_true rfl, Nat.le_of_ble_eq_true rfl⟩) ?_
          refine W.lcmp hx hb d_Mo_run_288 ?_
          refine lv_if_ne (tgt := 296) hx hb d_Mo_run_289 (by decide) (fun c289_39 => ?_) (fun c289_39 => ?_)
          · have hF := dk_f c289_39 hF
            refine lv_iconst (v := (0 : Int32)) hx hb d_Mo_run_296 (by decide) ?_
            refine va_put (D := G) (ci := 8) (v := .int (0 : Int32)) (ty := .boolean) (C := R_Mo) (T := F_Mo) (N := 24) hx hb hts i_Mo t_Mo t_Mo_ok n_Mo hown hK hP hD hS 0 rfl rfl 13 (by decide) (hts _ lk_484) (fun _ h9 => h9) rfl (by decide +kernel) rfl rfl (Nat.le_of_ble_eq_true rfl) d_Mo_run_297 (fun H locs hP hD hS => ?_)
            have hP : va_P G classes [(t, .inr (8, [.int v_t_crossings, .ref t_greens, .ref t_leasts, .ref t_queues, .ref t_seconds, .ref t_weights, .int v_t_first, .int v_t_last, .int v_t_by, .int v_t_step, .int (1 : Int32), .int q55_37.2.1, .int x1, .int (0 : Int32), .ref t_offsets, .ref t_row, .ref t_open, .int v_t_arrivals, .ref t_places, .ref t_times, .ref t_cars, .ref t_hourCrossings, .ref t_hourCycles, .ref t_hourOffsets])), (t_greens, .inl (K 0, 5, .inl v_t_greens)), (t_leasts, .inl (K 0, 5, .inl v_t_leasts)), (t_queues, .inl (K 0, 5, .inl v_t_queues)), (t_seconds, .inl (K 0, 10, .inl v_t_seconds)), (t_weights, .inl (K 0, 10, .inl v_t_weights)), (t_offsets, .inl (K 0, 5, .inl q55_37.2.2.1)), (t_row, .inl (K 0, 5, .inl q55_37.2.2.2.1)), (t_open, .inl (K 3, 600, .inl q55_37.2.2.2.2))] H := hP
            have hD : va_D A [(t, .inr (8, [.int v_t_crossings, .ref t_greens, .ref t_leasts, .ref t_queues, .ref t_seconds, .ref t_weights, .int v_t_first, .int v_t_last, .int v_t_by, .int v_t_step, .int (1 : Int32), .int q55_37.2.1, .int x1, .int (0 : Int32), .ref t_offsets, .ref t_row, .ref t_open, .int v_t_arrivals, .ref t_places, .ref t_times, .ref t_cars, .ref t_hourCrossings, .ref t_hourCycles, .ref t_hourOffsets])), (t_greens, .inl (K 0, 5, .inl v_t_greens)), (t_leasts, .inl (K 0, 5, .inl v_t_leasts)), (t_queues, .inl (K 0, 5, .inl v_t_queues)), (t_seconds, .inl (K 0, 10, .inl v_t_seconds)), (t_weights, .inl (K 0, 10, .inl v_t_weights)), (t_offsets, .inl (K 0, 5, .inl q55_37.2.2.1)), (t_row, .inl (K 0, 5, .inl q55_37.2.2.2.1)), (t_open, .inl (K 3, 600, .inl q55_37.2.2.2.2))] := hD
            refine lv_aload_n hx hb d_Mo_run_300 rfl (lv_at hl 0 rfl) ?_
            refine va_get (D := G) (ci := 8) (v := .int q55_37.2.1) (C := R_Mo) (T := F_Mo) (N := 24) hx hb hts i_Mo hown hK hP 0 rfl rfl 11 (by decide) (hts _ lk_444) (fun _ h9 => h9) rfl d_Mo_run_301 ?_
            obtain rfl := Option.some.inj hF
            exact W.iret (v := q55_37.2.1) hx hb hr (fun t ht hW => ⟨⟨(), rfl, by rw [ht]; exact hP, hD⟩, hS.F ht⟩) hS.2.2 d_Mo_run_304
          · have hF := dk_t c289_39 hF
            refine lv_iconst (v := (1 : Int32)) hx hb d_Mo_run_292 (by decide) ?_
            refine lv_goto (tgt := 297) hx hb d_Mo_run_293 (by decide) ?_
            refine va_put (D := G) (ci := 8) (v := .int (1 : Int32)) (ty := .boolean) (C := R_Mo) (T := F_Mo) (N := 24) hx hb hts i_Mo t_Mo t_Mo_ok n_Mo hown hK hP hD hS 0 rfl rfl 13 (by decide) (hts _ lk_484) (fun _ h9 => h9) rfl (by decide +kernel) rfl rfl (Nat.le_of_ble_eq_true rfl) d_Mo_run_297 (fun H locs hP hD hS => ?_)
            have hP : va_P G classes [(t, .inr (8, [.int v_t_crossings, .ref t_greens, .ref t_leasts, .ref t_queues, .ref t_seconds, .ref t_weights, .int v_t_first, .int v_t_last, .int v_t_by, .int v_t_step, .int (1 : Int32), .int q55_37.2.1, .int x1, .int (1 : Int32), .ref t_offsets, .ref t_row, .ref t_open, .int v_t_arrivals, .ref t_places, .ref t_times, .ref t_cars, .ref t_hourCrossings, .ref t_hourCycles, .ref t_hourOffsets])), (t_greens, .inl (K 0, 5, .inl v_t_greens)), (t_leasts, .inl (K 0, 5, .inl v_t_leasts)), (t_queues, .inl (K 0, 5, .inl v_t_queues)), (t_seconds, .inl (K 0, 10, .inl v_t_seconds)), (t_weights, .inl (K 0, 10, .inl v_t_weights)), (t_offsets, .inl (K 0, 5, .inl q55_37.2.2.1)), (t_row, .inl (K 0, 5, .inl q55_37.2.2.2.1)), (t_open, .inl (K 3, 600, .inl q55_37.2.2.2.2))] H := hP
            have hD : va_D A [(t, .inr (8, [.int v_t_crossings, .ref t_greens, .ref t_leasts, .ref t_queues, .ref t_seconds, .ref t_weights, .int v_t_first, .int v_t_last, .int v_t_by, .int v_t_step, .int (1 : Int32), .int q55_37.2.1, .int x1, .int (1 : Int32), .ref t_offsets, .ref t_row, .ref t_open, .int v_t_arrivals, .ref t_places, .ref t_times, .ref t_cars, .ref t_hourCrossings, .ref t_hourCycles, .ref t_hourOffsets])), (t_greens, .inl (K 0, 5, .inl v_t_greens)), (t_leasts, .inl (K 0, 5, .inl v_t_leasts)), (t_queues, .inl (K 0, 5, .inl v_t_queues)), (t_seconds, .inl (K 0, 10, .inl v_t_seconds)), (t_weights, .inl (K 0, 10, .inl v_t_weights)), (t_offsets, .inl (K 0, 5, .inl q55_37.2.2.1)), (t_row, .inl (K 0, 5, .inl q55_37.2.2.2.1)), (t_open, .inl (K 3, 600, .inl q55_37.2.2.2.2))] := hD
            refine lv_aload_n hx hb d_Mo_run_300 rfl (lv_at hl 0 rfl) ?_
            refine va_get (D := G) (ci := 8) (v := .int q55_37.2.1) (C := R_Mo) (T := F_Mo) (N := 24) hx hb hts i_Mo hown hK hP 0 rfl rfl 11 (by decide) (hts _ lk_444) (fun _ h9 => h9) rfl d_Mo_run_301 ?_
            obtain rfl := Option.some.inj hF
            exact W.iret (v := q55_37.2.1) hx hb hr (fun t ht hW => ⟨⟨(), rfl, by rw [ht]; exact hP, hD⟩, hS.F ht⟩) hS.2.2 d_Mo_run_304
        · have hF := dk_t c35_7 hF
          refine lv_iconst (v := ((-1) : Int32)) hx hb d_Mo_run_38 (by decide) ?_
          obtain rfl := Option.some.inj hF
          exact W.iret (v := ((-1) : Int32)) hx hb hr (fun t ht hW => ⟨⟨(), rfl, by rw [ht]; exact hP, hD⟩, hS.F ht⟩) hS.2.2 d_Mo_run_39
def p_Mo_proved (n : Nat) (v_t_has : Int32) (v_t_proved : Int32) : Option (Int32) :=
  if v_t_has = 0 then
    some (0 : Int32)
  else
    if v_t_proved = 0 then
      some (0 : Int32)
    else
      some (1 : Int32)
abbrev m_Mo_proved : Room := { frames := 0, cells := 0, slots := 0, locals := 0 }
set_option maxHeartbeats 4000000 in
set_option maxRecDepth 100000 in
theorem c_Mo_proved (l : Launch) (G : va_G) (K : Nat → ClassId) (n : Nat) (t : Nat) (t_greens : Nat) (t_leasts : Nat) (t_queues : Nat) (t_seconds : Nat) (t_weights : Nat) (t_offsets : Nat) (t_row : Nat) (t_open : Nat) (t_places : Nat) (t_times : Nat) (t_cars : Nat) (t_hourCrossings : Nat) (t_hourCycles : Nat) (t_hourOffsets : Nat) (v_t_crossings : Int32) (v_t_first : Int32) (v_t_last : Int32) (v_t_by : Int32) (v_t_step : Int32) (v_t_has : Int32) (v_t_cycle : Int32) (v_t_aim : Int32) (v_t_proved : Int32) (v_t_arrivals : Int32) (o : Int32) (hF : p_Mo_proved n v_t_has v_t_proved = some o) :
    Met l y_Mo_proved (wd y_Mo_proved b_Mo_proved 1 (some .boolean)) m_Mo_proved (dk_Pp [.ref t] G K [(t, .inr (8, [.int v_t_crossings, .ref t_greens, .ref t_leasts, .ref t_queues, .ref t_seconds, .ref t_weights, .int v_t_first, .int v_t_last, .int v_t_by, .int v_t_step, .int v_t_has, .int v_t_cycle, .int v_t_aim, .int v_t_proved, .ref t_offsets, .ref t_row, .ref t_open, .int v_t_arrivals, .ref t_places, .ref t_times, .ref t_cars, .ref t_hourCrossings, .ref t_hourCycles, .ref t_hourOffsets]))]) (dk_Qp (some (.int o))) 0 0 (fun _ => False) := by
  refine Met.ofW (cc := b_Mo_proved) (maxL := 1) (ret := (some .boolean)) (by decide) rfl ?_
  intro p e s m args below meth c s₁ B hml hv
  obtain ⟨rfl, hP, hK, hN⟩ := hv
  have hx := B.exec
  have hb := B.bytes
  have hr := B.returns
  have hts : ∀ w ∈ lw_good, w.before _ s = true := fun w h => atoms_spec (ws := wd y_Mo_proved b_Mo_proved 1 (some .boolean)) B.pre w (List.mem_cons_of_mem _ h)
  have hown : s.vm.findClass R_Mo = some m.cls := findClass_of_methodNamed B.named
  have hlocks := B.notSynchronized
  have hfix : CallFix p m c b_Mo_proved 1 s _ lw_good R_Mo := ⟨hx, hb, hml, hown, hts⟩
  have hl := lv_entry ([.ref t]) (n := 1) (Nat.le_of_ble_eq_true rfl)
  rw [lg_entry_eq]
  generalize (lg_sl ([.ref t]) ++ List.replicate (1 - (lg_sl ([.ref t])).length) Slot.unset).toArray = ls at hl ⊢
  have hl : lv_has ls 1 [(0, .ref t)] := hl
  change W p l e m_Mo_proved s m _ below meth c s.heap [] 0 0 _ _
  unfold p_Mo_proved at hF
  refine lv_aload_n hx hb d_Mo_proved_0 rfl (lv_at hl 0 rfl) ?_
  refine va_get (D := G) (ci := 8) (v := .int v_t_has) (C := R_Mo) (T := F_Mo) (N := 24) hx hb hts i_Mo hown hK hP 0 rfl rfl 10 (by decide) (hts _ lk_427) (fun _ h9 => h9) rfl d_Mo_proved_1 ?_
  refine lv_if_eq (tgt := 18) hx hb d_Mo_proved_4 (by decide) (fun c4_1 => ?_) (fun c4_1 => ?_)
  · have hF := dk_t c4_1 hF
    refine lv_iconst (v := (0 : Int32)) hx hb d_Mo_proved_18 (by decide) ?_
    obtain rfl := Option.some.inj hF
    exact W.zret (v := (0 : Int32)) hx hb hr rfl (fun t ht hW => ⟨rfl, ht⟩) (fun _ h => by cases h) d_Mo_proved_19
  · have hF := dk_f c4_1 hF
    refine lv_aload_n hx hb d_Mo_proved_7 rfl (lv_at hl 0 rfl) ?_
    refine va_get (D := G) (ci := 8) (v := .int v_t_proved) (C := R_Mo) (T := F_Mo) (N := 24) hx hb hts i_Mo hown hK hP 0 rfl rfl 13 (by decide) (hts _ lk_484) (fun _ h9 => h9) rfl d_Mo_proved_8 ?_
    refine lv_if_eq (tgt := 18) hx hb d_Mo_proved_11 (by decide) (fun c11_2 => ?_) (fun c11_2 => ?_)
    · have hF := dk_t c11_2 hF
      refine lv_iconst (v := (0 : Int32)) hx hb d_Mo_proved_18 (by decide) ?_
      obtain rfl := Option.some.inj hF
      exact W.zret (v := (0 : Int32)) hx hb hr rfl (fun t ht hW => ⟨rfl, ht⟩) (fun _ h => by cases h) d_Mo_proved_19
    · have hF := dk_f c11_2 hF
      refine lv_iconst (v := (1 : Int32)) hx hb d_Mo_proved_14 (by decide) ?_
      refine lv_goto (tgt := 19) hx hb d_Mo_proved_15 (by decide) ?_
      obtain rfl := Option.some.inj hF
      exact W.zret (v := (1 : Int32)) hx hb hr rfl (fun t ht hW => ⟨rfl, ht⟩) (fun _ h => by cases h) d_Mo_proved_19
def p_Mo_common_6 (n : Nat) : Nat → Int64 → Int64 → Option (Int64)
  | 0, _, _ => none
  | k + 1, z4, z6 =>
    if (lg_cmp z6 (0 : Int64)) ≤ 0 then
      some z4
    else
      if z6 = 0 then none else
      p_Mo_common_6 n k z6 (z4 - z4 / z6 * z6)
theorem q_Mo_common_6 (n k : Nat) (z4 : Int64) (z6 : Int64) : p_Mo_common_6 n (k + 1) z4 z6 =
    if (lg_cmp z6 (0 : Int64)) ≤ 0 then
      some z4
    else
      if z6 = 0 then none else
      p_Mo_common_6 n k z6 (z4 - z4 / z6 * z6) := rfl
def p_Mo_common (n : Nat) (x0 : Int64) (x2 : Int64) : Option (Int64) :=
  (p_Mo_common_6 n n x0 x2).bind fun q6_2 =>
  some q6_2
abbrev m_Mo_common : Room := { frames := 0, cells := 0, slots := 0, locals := 0 }
set_option maxHeartbeats 4000000 in
set_option maxRecDepth 100000 in
theorem c_Mo_common (l : Launch) (G : va_G) (K : Nat → ClassId) (n : Nat) (x0 : Int64) (x2 : Int64) (o : Int64) (hF : p_Mo_common n x0 x2 = some o) :
    Met l y_Mo_common (wd y_Mo_common b_Mo_common 10 (some .long)) m_Mo_common (dk_Pp [.long x0, .long x2] G K []) (dk_Qp (some (.long o))) 0 0 (fun _ => False) := by
  refine Met.ofW (cc := b_Mo_common) (maxL := 10) (ret := (some .long)) (by decide) rfl ?_
  intro p e s m args below meth c s₁ B hml hv
  obtain ⟨rfl, hP, hK, hN⟩ := hv
  have hx := B.exec
  have hb := B.bytes
  have hr := B.returns
  have hts : ∀ w ∈ lw_good, w.before _ s = true := fun w h => atoms_spec (ws := wd y_Mo_common b_Mo_common 10 (some .long)) B.pre w (List.mem_cons_of_mem _ h)
  have hown : s.vm.findClass R_Mo = some m.cls := findClass_of_methodNamed B.named
  have hlocks := B.notSynchronized
  have hfix : CallFix p m c b_Mo_common 10 s _ lw_good R_Mo := ⟨hx, hb, hml, hown, hts⟩
  have hl := lv_entry ([.long x0, .long x2]) (n := 10) (Nat.le_of_ble_eq_true rfl)
  rw [lg_entry_eq]
  generalize (lg_sl ([.long x0, .long x2]) ++ List.replicate (10 - (lg_sl ([.long x0, .long x2])).length) Slot.unset).toArray = ls at hl ⊢
  have hl : lv_has ls 10 [(0, .long x0), (2, .long x2)] := hl
  change W p l e m_Mo_common s m _ below meth c s.heap [] 0 0 _ _
  have L6 : ∀ (k : Nat) (z4 : Int64) (z6 : Int64) (q : Int64), p_Mo_common_6 n k z4 z6 = some q → ∀ ls : Array Slot, lv_has ls 10 [(4, .long z4), (6, .long z6)] → (∀ (ls1 : Array Slot), lv_has ls1 10 [(4, .long q)] → W p l e m_Mo_common s m ([.long x0, .long x2] : List Value).toArray below meth c s.heap [] 0 0 (MQ below (dk_Qp (some (.long o))) ([.long x0, .long x2] : List Value).toArray s 0 0 (fun _ => False)) (F0 m 31 ls1 [])) → W p l e m_Mo_common s m ([.long x0, .long x2] : List Value).toArray below meth c s.heap [] 0 0 (MQ below (dk_Qp (some (.long o))) ([.long x0, .long x2] : List Value).toArray s 0 0 (fun _ => False)) (F0 m 6 ls []) := by
    intro k
    induction k with
    | zero =>
      intro z4 z6 q hF ls hl hk
      exact absurd hF (by simp [p_Mo_common_6])
    | succ k jh =>
      intro z4 z6 q hF ls hl hk
      have hF := (q_Mo_common_6 n k z4 z6).symm.trans hF
      refine lv_lload hx hb d_Mo_common_6 (lv_at hl 1 rfl) ?_
      refine lv_lconst (v := (0 : Int64)) hx hb d_Mo_common_8 (by decide) ?_
      refine W.lcmp hx hb d_Mo_common_9 ?_
      refine lv_if_le (tgt := 31) hx hb d_Mo_common_10 (by decide) (fun c10_1 => ?_) (fun c10_1 => ?_)
      · have hF := dk_t c10_1 hF
        obtain rfl := Option.some.inj hF
        exact hk ls (lv_sub hl [0] rfl)
      · have hF := dk_f c10_1 hF
        refine lv_lload hx hb d_Mo_common_13 (lv_at hl 0 rfl) ?_
        refine lv_lload hx hb d_Mo_common_15 (lv_at hl 1 rfl) ?_
        obtain ⟨hz, hF⟩ := dk_z hF
        refine lv_lrem hx hb d_Mo_common_17 hz ?_
        refine lv_lstore (lv' := [(8, .long (z4 - z4 / z6 * z6)), (4, .long z4), (6, .long z6)]) hx hb d_Mo_common_18 hl (by decide) rfl (fun ls hl => ?_)
        refine lv_lload hx hb d_Mo_common_20 (lv_at hl 2 rfl) ?_
        refine lv_lstore (lv' := [(4, .long z6), (8, .long (z4 - z4 / z6 * z6)), (6, .long z6)]) hx hb d_Mo_common_22 hl (by decide) rfl (fun ls hl => ?_)
        refine lv_lload hx hb d_Mo_common_24 (lv_at hl 1 rfl) ?_
        refine lv_lstore (lv' := [(6, .long (z4 - z4 / z6 * z6)), (4, .long z6), (8, .long (z4 - z4 / z6 * z6))]) hx hb d_Mo_common_26 hl (by decide) rfl (fun ls hl => ?_)
        refine lv_goto (tgt := 6) hx hb d_Mo_common_28 (by decide) ?_
        exact jh z6 (z4 - z4 / z6 * z6) q hF ls (lv_sub hl [1, 0] rfl) hk
  unfold p_Mo_common at hF
  refine lv_lload_n hx hb d_Mo_common_0 rfl (lv_at hl 0 rfl) ?_
  refine lv_lstore (lv' := [(4, .long x0), (0, .long x0), (2, .long x2)]) hx hb d_Mo_common_1 hl (by decide) rfl (fun ls hl => ?_)
  refine lv_lload_n hx hb d_Mo_common_3 rfl (lv_at hl 2 rfl) ?_
  refine lv_lstore (lv' := [(6, .long x2), (4, .long x0), (0, .long x0), (2, .long x2)]) hx hb d_Mo_common_4 hl (by decide) rfl (fun ls hl => ?_)
  obtain ⟨q6_2, hC, hF⟩ := dk_b hF
  refine L6 n x0 x2 q6_2 hC ls (lv_sub hl [1, 0] rfl) (fun ls hl => ?_)
  refine lv_lload hx hb d_Mo_common_31 (lv_at hl 0 rfl) ?_
  obtain rfl := Option.some.inj hF
  exact W.lret (v := q6_2) hx hb hr (fun t ht hW => ⟨rfl, ht⟩) (fun _ h => by cases h) d_Mo_common_33
def p_Mo_share (n : Nat) (x0 : Int64) (x2 : Int64) (x4 : Int32) : Option (Int64) :=
  (p_Mo_common n x2 x0).bind fun r2_1 =>
  if x4 = 0 then
    if r2_1 = 0 then none else
    some (x0 / r2_1)
  else
    if r2_1 = 0 then none else
    some (x2 / r2_1)
abbrev m_Mo_share : Room := { frames := 1, cells := 0, slots := 0, locals := 29 }
set_option maxHeartbeats 4000000 in
set_option maxRecDepth 100000 in
theorem c_Mo_share (l : Launch) (G : va_G) (K : Nat → ClassId) (n : Nat) (x0 : Int64) (x2 : Int64) (x4 : Int32) (o : Int64) (hF : p_Mo_share n x0 x2 x4 = some o) :
    Met l y_Mo_share (wd y_Mo_share b_Mo_share 7 (some .long)) m_Mo_share (dk_Pp [.long x0, .long x2, .int x4] G K []) (dk_Qp (some (.long o))) 0 0 (fun _ => False) := by
  refine Met.ofW (cc := b_Mo_share) (maxL := 7) (ret := (some .long)) (by decide) rfl ?_
  intro p e s m args below meth c s₁ B hml hv
  obtain ⟨rfl, hP, hK, hN⟩ := hv
  have hx := B.exec
  have hb := B.bytes
  have hr := B.returns
  have hts : ∀ w ∈ lw_good, w.before _ s = true := fun w h => atoms_spec (ws := wd y_Mo_share b_Mo_share 7 (some .long)) B.pre w (List.mem_cons_of_mem _ h)
  have hown : s.vm.findClass R_Mo = some m.cls := findClass_of_methodNamed B.named
  have hlocks := B.notSynchronized
  have hfix : CallFix p m c b_Mo_share 7 s _ lw_good R_Mo := ⟨hx, hb, hml, hown, hts⟩
  have hl := lv_entry ([.long x0, .long x2, .int x4]) (n := 7) (Nat.le_of_ble_eq_true rfl)
  rw [lg_entry_eq]
  generalize (lg_sl ([.long x0, .long x2, .int x4]) ++ List.replicate (7 - (lg_sl ([.long x0, .long x2, .int x4])).length) Slot.unset).toArray = ls at hl ⊢
  have hl : lv_has ls 7 [(0, .long x0), (2, .long x2), (4, .int x4)] := hl
  change W p l e m_Mo_share s m _ below meth c s.heap [] 0 0 _ _
  unfold p_Mo_share at hF
  refine lv_lload_n hx hb d_Mo_share_0 rfl (lv_at hl 1 rfl) ?_
  refine lv_lload_n hx hb d_Mo_share_1 rfl (lv_at hl 0 rfl) ?_
  obtain ⟨r2_1, hC, hF⟩ := dk_b hF
  refine dk_pure (va_runS (As := [.long x2, .long x0]) (rest := []) hfix (c_Mo_common l G K n x2 x0 r2_1 hC) (va_cwS 2 hts (gd_S lk_485 lk_487 lk_419 lk_486) rfl rfl rfl (by decide +kernel) ⟨Nat.le_of_ble_eq_true rfl, Nat.le_of_ble_eq_true rfl⟩) (dk_preS hK hN (hP.sub [] rfl)) rfl rfl hl.1 rfl (lv_room (Nat.le_of_ble_eq_true rfl)) d_Mo_share_2 ⟨Nat.le_of_ble_eq_true rfl, Nat.le_of_ble_eq_true rfl⟩) ?_
  refine lv_lstore (lv' := [(5, .long r2_1), (0, .long x0), (2, .long x2), (4, .int x4)]) hx hb d_Mo_share_5 hl (by decide) rfl (fun ls hl => ?_)
  refine lv_iload hx hb d_Mo_share_7 (lv_at hl 3 rfl) ?_
  refine lv_if_ne (tgt := 19) hx hb d_Mo_share_9 (by decide) (fun c9_2 => ?_) (fun c9_2 => ?_)
  · have hF := dk_f c9_2 hF
    refine lv_lload_n hx hb d_Mo_share_19 rfl (lv_at hl 2 rfl) ?_
    refine lv_lload hx hb d_Mo_share_20 (lv_at hl 0 rfl) ?_
    obtain ⟨hz, hF⟩ := dk_z hF
    refine lv_ldiv hx hb d_Mo_share_22 hz ?_
    obtain rfl := Option.some.inj hF
    exact W.lret (v := x2 / r2_1) hx hb hr (fun t ht hW => ⟨rfl, ht⟩) (fun _ h => by cases h) d_Mo_share_23
  · have hF := dk_t c9_2 hF
    refine lv_lload_n hx hb d_Mo_share_12 rfl (lv_at hl 1 rfl) ?_
    refine lv_lload hx hb d_Mo_share_13 (lv_at hl 0 rfl) ?_
    obtain ⟨hz, hF⟩ := dk_z hF
    refine lv_ldiv hx hb d_Mo_share_15 hz ?_
    refine lv_goto (tgt := 23) hx hb d_Mo_share_16 (by decide) ?_
    obtain rfl := Option.some.inj hF
    exact W.lret (v := x0 / r2_1) hx hb hr (fun t ht hW => ⟨rfl, ht⟩) (fun _ h => by cases h) d_Mo_share_23
def p_Mo_bound_27 (n : Nat) : Nat → Int32 → Int32 → (Nat → Int32) → Int32 → Int32 → Int32 → Option (Int32)
  | 0, _, _, _, _, _, _ => none
  | k + 1, v_t_crossings, v_t_last, v_t_leasts, v_t_by, z1, z2 =>
    if v_t_last < z2 then
      some z2
    else
      (p_Mo_mayBe n z2 v_t_crossings v_t_leasts).bind fun r37_5 =>
      if r37_5 = 0 then
        p_Mo_bound_27 n k v_t_crossings v_t_last v_t_leasts v_t_by z1 (z2 + v_t_by)
      else
        some z2
theorem q_Mo_bound_27 (n k : Nat) (v_t_crossings : Int32) (v_t_last : Int32) (v_t_leasts : Nat → Int32) (v_t_by : Int32) (z1 : Int32) (z2 : Int32) : p_Mo_bound_27 n (k + 1) v_t_crossings v_t_last v_t_leasts v_t_by z1 z2 =
    if v_t_last < z2 then
      some z2
    else
      (p_Mo_mayBe n z2 v_t_crossings v_t_leasts).bind fun r37_5 =>
      if r37_5 = 0 then
        p_Mo_bound_27 n k v_t_crossings v_t_last v_t_leasts v_t_by z1 (z2 + v_t_by)
      else
        some z2 := rfl
def p_Mo_bound_70 (n : Nat) : Nat → Int32 → (Nat → Int32) → (Nat → Int32) → Int32 → Int32 → Int32 → Int32 → Option (Int32)
  | 0, _, _, _, _, _, _, _ => none
  | k + 1, v_t_crossings, v_t_greens, v_t_queues, z1, z2, z3, z4 =>
    if v_t_crossings ≤ z4 then
      some z3
    else
      if dk_in z4 5 = true then
        if dk_in z4 5 = true then
          if z3 ≤ ((v_t_greens z4.toNatClampNeg) - (v_t_queues z4.toNatClampNeg)) then
            p_Mo_bound_70 n k v_t_crossings v_t_greens v_t_queues z1 z2 z3 (z4 + (1 : Int32))
          else
            if dk_in z4 5 = true then
              if dk_in z4 5 = true then
                p_Mo_bound_70 n k v_t_crossings v_t_greens v_t_queues z1 z2 ((v_t_greens z4.toNatClampNeg) - (v_t_queues z4.toNatClampNeg)) (z4 + (1 : Int32))
              else none
            else none
        else none
      else none
theorem q_Mo_bound_70 (n k : Nat) (v_t_crossings : Int32) (v_t_greens : Nat → Int32) (v_t_queues : Nat → Int32) (z1 : Int32) (z2 : Int32) (z3 : Int32) (z4 : Int32) : p_Mo_bound_70 n (k + 1) v_t_crossings v_t_greens v_t_queues z1 z2 z3 z4 =
    if v_t_crossings ≤ z4 then
      some z3
    else
      if dk_in z4 5 = true then
        if dk_in z4 5 = true then
          if z3 ≤ ((v_t_greens z4.toNatClampNeg) - (v_t_queues z4.toNatClampNeg)) then
            p_Mo_bound_70 n k v_t_crossings v_t_greens v_t_queues z1 z2 z3 (z4 + (1 : Int32))
          else
            if dk_in z4 5 = true then
              if dk_in z4 5 = true then
                p_Mo_bound_70 n k v_t_crossings v_t_greens v_t_queues z1 z2 ((v_t_greens z4.toNatClampNeg) - (v_t_queues z4.toNatClampNeg)) (z4 + (1 : Int32))
              else none
            else none
        else none
      else none := rfl
def p_Mo_bound (n : Nat) (x1 : Int32) (v_t_crossings : Int32) (v_t_first : Int32) (v_t_last : Int32) (v_t_leasts : Nat → Int32) (v_t_by : Int32) (v_t_greens : Nat → Int32) (v_t_queues : Nat → Int32) (v_t_weights : Nat → Int32) : Option (Int64) :=
  (p_Mo_isIn n x1.toInt64 (0 : Int64) (1 : Int64)).bind fun r4_1 =>
  if r4_1 = 0 then
    some ((-1) : Int64)
  else
    if (2 : Int32) ≤ v_t_crossings then
      (p_Mo_bound_27 n n v_t_crossings v_t_last v_t_leasts v_t_by x1 v_t_first).bind fun q27_7 =>
      if q27_7 ≤ v_t_last then
        (p_Mo_bound_70 n n v_t_crossings v_t_greens v_t_queues x1 q27_7 (120 : Int32) (0 : Int32)).bind fun q70_11 =>
        (p_Mo_weightOf n (0 : Int32) v_t_crossings v_t_weights).bind fun r128_12 =>
        (p_Mo_weightOf n (1 : Int32) v_t_crossings v_t_weights).bind fun r133_13 =>
        (p_Mo_share n (q70_11.toInt64 * ((r128_12 + r133_13).toInt64)) q27_7.toInt64 x1).bind fun r142_14 =>
        some r142_14
      else
        some x1.toInt64
    else
      some ((-1) : Int64)
abbrev m_Mo_bound : Room := { frames := 2, cells := 0, slots := 0, locals := 55 }
set_option maxHeartbeats 4000000 in
set_option maxRecDepth 100000 in
theorem c_Mo_bound (l : Launch) (G : va_G) (K : Nat → ClassId) (n : Nat) (t : Nat) (t_greens : Nat) (t_leasts : Nat) (t_queues : Nat) (t_seconds : Nat) (t_weights : Nat) (t_offsets : Nat) (t_row : Nat) (t_open : Nat) (t_places : Nat) (t_times : Nat) (t_cars : Nat) (t_hourCrossings : Nat) (t_hourCycles : Nat) (t_hourOffsets : Nat) (x1 : Int32) (v_t_crossings : Int32) (v_t_first : Int32) (v_t_last : Int32) (v_t_by : Int32) (v_t_step : Int32) (v_t_has : Int32) (v_t_cycle : Int32) (v_t_aim : Int32) (v_t_proved : Int32) (v_t_arrivals : Int32) (v_t_greens : Nat → Int32) (v_t_leasts : Nat → Int32) (v_t_queues : Nat → Int32) (v_t_weights : Nat → Int32) (o : Int64) (hF : p_Mo_bound n x1 v_t_crossings v_t_first v_t_last v_t_leasts v_t_by v_t_greens v_t_queues v_t_weights = some o) :
    Met l y_Mo_bound (wd y_Mo_bound b_Mo_bound 5 (some .long)) m_Mo_bound (dk_Pp [.ref t, .int x1] G K [(t, .inr (8, [.int v_t_crossings, .ref t_greens, .ref t_leasts, .ref t_queues, .ref t_seconds, .ref t_weights, .int v_t_first, .int v_t_last, .int v_t_by, .int v_t_step, .int v_t_has, .int v_t_cycle, .int v_t_aim, .int v_t_proved, .ref t_offsets, .ref t_row, .ref t_open, .int v_t_arrivals, .ref t_places, .ref t_times, .ref t_cars, .ref t_hourCrossings, .ref t_hourCycles, .ref t_hourOffsets])), (t_greens, .inl (K 0, 5, .inl v_t_greens)), (t_leasts, .inl (K 0, 5, .inl v_t_leasts)), (t_queues, .inl (K 0, 5, .inl v_t_queues)), (t_weights, .inl (K 0, 10, .inl v_t_weights))]) (dk_Qp (some (.long o))) 0 0 (fun _ => False) := by
  refine Met.ofW (cc := b_Mo_bound) (maxL := 5) (ret := (some .long)) (by decide) rfl ?_
  intro p e s m args below meth c s₁ B hml hv
  obtain ⟨rfl, hP, hK, hN⟩ := hv
  have hx := B.exec
  have hb := B.bytes
  have hr := B.returns
  have hts : ∀ w ∈ lw_good, w.before _ s = true := fun w h => atoms_spec (ws := wd y_Mo_bound b_Mo_bound 5 (some .long)) B.pre w (List.mem_cons_of_mem _ h)
  have hown : s.vm.findClass R_Mo = some m.cls := findClass_of_methodNamed B.named
  have hlocks := B.notSynchronized
  have hfix : CallFix p m c b_Mo_bound 5 s _ lw_good R_Mo := ⟨hx, hb, hml, hown, hts⟩
  have hl := lv_entry ([.ref t, .int x1]) (n := 5) (Nat.le_of_ble_eq_true rfl)
  rw [lg_entry_eq]
  generalize (lg_sl ([.ref t, .int x1]) ++ List.replicate (5 - (lg_sl ([.ref t, .int x1])).length) Slot.unset).toArray = ls at hl ⊢
  have hl : lv_has ls 5 [(0, .ref t), (1, .int x1)] := hl
  change W p l e m_Mo_bound s m _ below meth c s.heap [] 0 0 _ _
  have L27 : ∀ (k : Nat) (z1 : Int32) (z2 : Int32) (q : Int32), p_Mo_bound_27 n k v_t_crossings v_t_last v_t_leasts v_t_by z1 z2 = some q → ∀ ls : Array Slot, lv_has ls 5 [(0, .ref t), (1, .int z1), (2, .int z2)] → (∀ (ls1 : Array Slot), lv_has ls1 5 [(0, .ref t), (1, .int z1), (2, .int q)] → W p l e m_Mo_bound s m ([.ref t, .int x1] : List Value).toArray below meth c s.heap [] 0 0 (MQ below (dk_Qp (some (.long o))) ([.ref t, .int x1] : List Value).toArray s 0 0 (fun _ => False)) (F0 m 53 ls1 [])) → W p l e m_Mo_bound s m ([.ref t, .int x1] : List Value).toArray below meth c s.heap [] 0 0 (MQ below (dk_Qp (some (.long o))) ([.ref t, .int x1] : List Value).toArray s 0 0 (fun _ => False)) (F0 m 27 ls []) := by
    intro k
    induction k with
    | zero =>
      intro z1 z2 q hF ls hl hk
      exact absurd hF (by simp [p_Mo_bound_27])
    | succ k jh =>
      intro z1 z2 q hF ls hl hk
      have hF := (q_Mo_bound_27 n k v_t_crossings v_t_last v_t_leasts v_t_by z1 z2).symm.trans hF
      refine lv_iload_n hx hb d_Mo_bound_27 rfl (lv_at hl 2 rfl) ?_
      refine lv_aload_n hx hb d_Mo_bound_28 rfl (lv_at hl 0 rfl) ?_
      refine va_get (D := G) (ci := 8) (v := .int v_t_last) (C := R_Mo) (T := F_Mo) (N := 24) hx hb hts i_Mo hown hK hP 0 rfl rfl 7 (by decide) (hts _ lk_438) (fun _ h9 => h9) rfl d_Mo_bound_29 ?_
      refine lv_icmp_gt (tgt := 53) hx hb d_Mo_bound_32 (by decide) (fun c32_4 => ?_) (fun c32_4 => ?_)
      · have hF := dk_t c32_4 hF
        obtain rfl := Option.some.inj hF
        exact hk ls (lv_sub hl [0, 1, 2] rfl)
      · have hF := dk_f c32_4 hF
        refine lv_aload_n hx hb d_Mo_bound_35 rfl (lv_at hl 0 rfl) ?_
        refine lv_iload_n hx hb d_Mo_bound_36 rfl (lv_at hl 2 rfl) ?_
        obtain ⟨r37_5, hC, hF⟩ := dk_b hF
        refine dk_pure (va_runV (As := [.int z2]) (rest := []) hfix (c_Mo_mayBe l G K n t t_greens t_leasts t_queues t_seconds t_weights t_offsets t_row t_open t_places t_times t_cars t_hourCrossings t_hourCycles t_hourOffsets z2 v_t_crossings v_t_first v_t_last v_t_by v_t_step v_t_has v_t_cycle v_t_aim v_t_proved v_t_arrivals v_t_leasts r37_5 hC) (cwV 1 hts (gd_V lk_449 lk_451 lk_452 lk_419 lk_450) rfl rfl rfl (by decide +kernel) ⟨Nat.le_of_ble_eq_true rfl, Nat.le_of_ble_eq_true rfl⟩) (dk_preV hK hN (hP.sub [0, 2] rfl) (va_recv hK hP (ci := 8) (q0 := 0) rfl rfl)) rfl rfl hl.1 rfl (lv_room (Nat.le_of_ble_eq_true rfl)) d_Mo_bound_37 ⟨Nat.le_of_ble_eq_true rfl, Nat.le_of_ble_eq_true rfl⟩) ?_
        refine lv_if_ne (tgt := 53) hx hb d_Mo_bound_40 (by decide) (fun c40_6 => ?_) (fun c40_6 => ?_)
        · have hF := dk_f c40_6 hF
          obtain rfl := Option.some.inj hF
          exact hk ls (lv_sub hl [0, 1, 2] rfl)
        · have hF := dk_t c40_6 hF
          refine lv_iload_n hx hb d_Mo_bound_43 rfl (lv_at hl 2 rfl) ?_
          refine lv_aload_n hx hb d_Mo_bound_44 rfl (lv_at hl 0 rfl) ?_
          refine va_get (D := G) (ci := 8) (v := .int v_t_by) (C := R_Mo) (T := F_Mo) (N := 24) hx hb hts i_Mo hown hK hP 0 rfl rfl 8 (by decide) (hts _ lk_439) (fun _ h9 => h9) rfl d_Mo_bound_45 ?_
          refine lv_iadd hx hb d_Mo_bound_48 ?_
          refine lv_istore_n (lv' := [(2, .int (z2 + v_t_by)), (0, .ref t), (1, .int z1)]) hx hb d_Mo_bound_49 rfl hl (by decide) rfl (fun ls hl => ?_)
          refine lv_goto (tgt := 27) hx hb d_Mo_bound_50 (by decide) ?_
          exact jh z1 (z2 + v_t_by) q hF ls (lv_sub hl [1, 2, 0] rfl) hk
  have L70 : ∀ (k : Nat) (z1 : Int32) (z2 : Int32) (z3 : Int32) (z4 : Int32) (q : Int32), p_Mo_bound_70 n k v_t_crossings v_t_greens v_t_queues z1 z2 z3 z4 = some q → ∀ ls : Array Slot, lv_has ls 5 [(0, .ref t), (1, .int z1), (2, .int z2), (3, .int z3), (4, .int z4)] → (∀ (ls1 : Array Slot), lv_has ls1 5 [(0, .ref t), (1, .int z1), (2, .int z2), (3, .int q)] → W p l e m_Mo_bound s m ([.ref t, .int x1] : List Value).toArray below meth c s.heap [] 0 0 (MQ below (dk_Qp (some (.long o))) ([.ref t, .int x1] : List Value).toArray s 0 0 (fun _ => False)) (F0 m 124 ls1 [])) → W p l e m_Mo_bound s m ([.ref t, .int x1] : List Value).toArray below meth c s.heap [] 0 0 (MQ below (dk_Qp (some (.long o))) ([.ref t, .int x1] : List Value).toArray s 0 0 (fun _ => False)) (F0 m 70 ls []) := by
    intro k
    induction k with
    | zero =>
      intro z1 z2 z3 z4 q hF ls hl hk
      exact absurd hF (by simp [p_Mo_bound_70])
    | succ k jh =>
      intro z1 z2 z3 z4 q hF ls hl hk
      have hF := (q_Mo_bound_70 n k v_t_crossings v_t_greens v_t_queues z1 z2 z3 z4).symm.trans hF
      refine lv_iload hx hb d_Mo_bound_70 (lv_at hl 4 rfl) ?_
      refine lv_aload_n hx hb d_Mo_bound_72 rfl (lv_at hl 0 rfl) ?_
      refine va_get (D := G) (ci := 8) (v := .int v_t_crossings) (C := R_Mo) (T := F_Mo) (N := 24) hx hb hts i_Mo hown hK hP 0 rfl rfl 0 (by decide) (hts _ lk_415) (fun _ h9 => h9) rfl d_Mo_bound_73 ?_
      refine lv_icmp_ge (tgt := 124) hx hb d_Mo_bound_76 (by decide) (fun c76_9 => ?_) (fun c76_9 => ?_)
      · have hF := dk_t c76_9 hF
        obtain rfl := Option.some.inj hF
        exact hk ls (lv_sub hl [0, 1, 2, 3] rfl)
      · have hF := dk_f c76_9 hF
        refine lv_aload_n hx hb d_Mo_bound_79 rfl (lv_at hl 0 rfl) ?_
        refine va_get (D := G) (ci := 8) (v := .ref t_greens) (C := R_Mo) (T := F_Mo) (N := 24) hx hb hts i_Mo hown hK hP 0 rfl rfl 1 (by decide) (hts _ lk_424) (fun _ h9 => h9) rfl d_Mo_bound_80 ?_
        refine lv_iload hx hb d_Mo_bound_83 (lv_at hl 4 rfl) ?_
        obtain ⟨hi, hF⟩ := dk_a hF
        refine va_iald (D := G) hx hb hK hP 1 0 rfl rfl (dk_vp hi) d_Mo_bound_85 ?_
        refine lv_aload_n hx hb d_Mo_bound_86 rfl (lv_at hl 0 rfl) ?_
        refine va_get (D := G) (ci := 8) (v := .ref t_queues) (C := R_Mo) (T := F_Mo) (N := 24) hx hb hts i_Mo hown hK hP 0 rfl rfl 3 (by decide) (hts _ lk_426) (fun _ h9 => h9) rfl d_Mo_bound_87 ?_
        refine lv_iload hx hb d_Mo_bound_90 (lv_at hl 4 rfl) ?_
        obtain ⟨hi, hF⟩ := dk_a hF
        refine va_iald (D := G) hx hb hK hP 3 0 rfl rfl (dk_vp hi) d_Mo_bound_92 ?_
        refine lv_isub hx hb d_Mo_bound_93 ?_
        refine lv_iload_n hx hb d_Mo_bound_94 rfl (lv_at hl 3 rfl) ?_
        refine lv_icmp_ge (tgt := 116) hx hb d_Mo_bound_95 (by decide) (fun c95_10 => ?_) (fun c95_10 => ?_)
        · have hF := dk_t c95_10 hF
          refine lv_iload_n hx hb d_Mo_bound_116 rfl (lv_at hl 3 rfl) ?_
          refine lv_istore_n (lv' := [(3, .int z3), (0, .ref t), (1, .int z1), (2, .int z2), (4, .int z4)]) hx hb d_Mo_bound_117 rfl hl (by decide) rfl (fun ls hl => ?_)
          refine lv_iinc (v := z4 + (1 : Int32)) (lv' := [(4, .int (z4 + (1 : Int32))), (3, .int z3), (0, .ref t), (1, .int z1), (2, .int z2)]) hx hb d_Mo_bound_118 hl (k := 4) rfl rfl (by decide) rfl (fun ls hl => ?_)
          refine lv_goto (tgt := 70) hx hb d_Mo_bound_121 (by decide) ?_
          exact jh z1 z2 z3 (z4 + (1 : Int32)) q hF ls (lv_sub hl [2, 3, 4, 1, 0] rfl) hk
        · have hF := dk_f c95_10 hF
          refine lv_aload_n hx hb d_Mo_bound_98 rfl (lv_at hl 0 rfl) ?_
          refine va_get (D := G) (ci := 8) (v := .ref t_greens) (C := R_Mo) (T := F_Mo) (N := 24) hx hb hts i_Mo hown hK hP 0 rfl rfl 1 (by decide) (hts _ lk_424) (fun _ h9 => h9) rfl d_Mo_bound_99 ?_
          refine lv_iload hx hb d_Mo_bound_102 (lv_at hl 4 rfl) ?_
          obtain ⟨hi, hF⟩ := dk_a hF
          refine va_iald (D := G) hx hb hK hP 1 0 rfl rfl (dk_vp hi) d_Mo_bound_104 ?_
          refine lv_aload_n hx hb d_Mo_bound_105 rfl (lv_at hl 0 rfl) ?_
          refine va_get (D := G) (ci := 8) (v := .ref t_queues) (C := R_Mo) (T := F_Mo) (N := 24) hx hb hts i_Mo hown hK hP 0 rfl rfl 3 (by decide) (hts _ lk_426) (fun _ h9 => h9) rfl d_Mo_bound_106 ?_
          refine lv_iload hx hb d_Mo_bound_109 (lv_at hl 4 rfl) ?_
          obtain ⟨hi, hF⟩ := dk_a hF
          refine va_iald (D := G) hx hb hK hP 3 0 rfl rfl (dk_vp hi) d_Mo_bound_111 ?_
          refine lv_isub hx hb d_Mo_bound_112 ?_
          refine lv_goto (tgt := 117) hx hb d_Mo_bound_113 (by decide) ?_
          refine lv_istore_n (lv' := [(3, .int ((v_t_greens z4.toNatClampNeg) - (v_t_queues z4.toNatClampNeg))), (0, .ref t), (1, .int z1), (2, .int z2), (4, .int z4)]) hx hb d_Mo_bound_117 rfl hl (by decide) rfl (fun ls hl => ?_)
          refine lv_iinc (v := z4 + (1 : Int32)) (lv' := [(4, .int (z4 + (1 : Int32))), (3, .int ((v_t_greens z4.toNatClampNeg) - (v_t_queues z4.toNatClampNeg))), (0, .ref t), (1, .int z1), (2, .int z2)]) hx hb d_Mo_bound_118 hl (k := 4) rfl rfl (by decide) rfl (fun ls hl => ?_)
          refine lv_goto (tgt := 70) hx hb d_Mo_bound_121 (by decide) ?_
          exact jh z1 z2 ((v_t_greens z4.toNatClampNeg) - (v_t_queues z4.toNatClampNeg)) (z4 + (1 : Int32)) q hF ls (lv_sub hl [2, 3, 4, 1, 0] rfl) hk
  unfold p_Mo_bound at hF
  refine lv_iload_n hx hb d_Mo_bound_0 rfl (lv_at hl 1 rfl) ?_
  refine lv_i2l hx hb d_Mo_bound_1 rfl ?_
  refine lv_lconst (v := (0 : Int64)) hx hb d_Mo_bound_2 (by decide) ?_
  refine lv_lconst (v := (1 : Int64)) hx hb d_Mo_bound_3 (by decide) ?_
  obtain ⟨r4_1, hC, hF⟩ := dk_b hF
  refine dk_pure (va_runS (As := [.long x1.toInt64, .long (0 : Int64), .long (1 : Int64)]) (rest := []) hfix (c_Mo_isIn l G K n x1.toInt64 (0 : Int64) (1 : Int64) r4_1 hC) (va_cwS 3 hts (gd_S lk_416 lk_418 lk_419 lk_417) rfl rfl rfl (by decide +kernel) ⟨Nat.le_of_ble_eq_true rfl, Nat.le_of_ble_eq_true rfl⟩) (dk_preS hK hN (hP.sub [] rfl)) rfl rfl hl.1 rfl (lv_room (Nat.le_of_ble_eq_true rfl)) d_Mo_bound_4 ⟨Nat.le_of_ble_eq_true rfl, Nat.le_of_ble_eq_true rfl⟩) ?_
  refine lv_if_eq (tgt := 18) hx hb d_Mo_bound_7 (by decide) (fun c7_2 => ?_) (fun c7_2 => ?_)
  · have hF := dk_t c7_2 hF
    refine lv_ldc2 (own := R_Mo) (index := 145) (v := ((-1) : Int64)) hx hb hown (hts _ lk_488) d_Mo_bound_18 ?_
    obtain rfl := Option.some.inj hF
    exact W.lret (v := ((-1) : Int64)) hx hb hr (fun t ht hW => ⟨rfl, ht⟩) (fun _ h => by cases h) d_Mo_bound_21
  · have hF := dk_f c7_2 hF
    refine lv_aload_n hx hb d_Mo_bound_10 rfl (lv_at hl 0 rfl) ?_
    refine va_get (D := G) (ci := 8) (v := .int v_t_crossings) (C := R_Mo) (T := F_Mo) (N := 24) hx hb hts i_Mo hown hK hP 0 rfl rfl 0 (by decide) (hts _ lk_415) (fun _ h9 => h9) rfl d_Mo_bound_11 ?_
    refine lv_iconst (v := (2 : Int32)) hx hb d_Mo_bound_14 (by decide) ?_
    refine lv_icmp_ge (tgt := 22) hx hb d_Mo_bound_15 (by decide) (fun c15_3 => ?_) (fun c15_3 => ?_)
    · have hF := dk_t c15_3 hF
      refine lv_aload_n hx hb d_Mo_bound_22 rfl (lv_at hl 0 rfl) ?_
      refine va_get (D := G) (ci := 8) (v := .int v_t_first) (C := R_Mo) (T := F_Mo) (N := 24) hx hb hts i_Mo hown hK hP 0 rfl rfl 6 (by decide) (hts _ lk_437) (fun _ h9 => h9) rfl d_Mo_bound_23 ?_
      refine lv_istore_n (lv' := [(2, .int v_t_first), (0, .ref t), (1, .int x1)]) hx hb d_Mo_bound_26 rfl hl (by decide) rfl (fun ls hl => ?_)
      obtain ⟨q27_7, hC, hF⟩ := dk_b hF
      refine L27 n x1 v_t_first q27_7 hC ls (lv_sub hl [1, 2, 0] rfl) (fun ls hl => ?_)
      refine lv_iload_n hx hb d_Mo_bound_53 rfl (lv_at hl 2 rfl) ?_
      refine lv_aload_n hx hb d_Mo_bound_54 rfl (lv_at hl 0 rfl) ?_
      refine va_get (D := G) (ci := 8) (v := .int v_t_last) (C := R_Mo) (T := F_Mo) (N := 24) hx hb hts i_Mo hown hK hP 0 rfl rfl 7 (by decide) (hts _ lk_438) (fun _ h9 => h9) rfl d_Mo_bound_55 ?_
      refine lv_icmp_le (tgt := 64) hx hb d_Mo_bound_58 (by decide) (fun c58_8 => ?_) (fun c58_8 => ?_)
      · have hF := dk_t c58_8 hF
        refine lv_bipush (v := (120 : Int32)) hx hb d_Mo_bound_64 (by decide) ?_
        refine lv_istore_n (lv' := [(3, .int (120 : Int32)), (0, .ref t), (1, .int x1), (2, .int q27_7)]) hx hb d_Mo_bound_66 rfl hl (by decide) rfl (fun ls hl => ?_)
        refine lv_iconst (v := (0 : Int32)) hx hb d_Mo_bound_67 (by decide) ?_
        refine lv_istore (lv' := [(4, .int (0 : Int32)), (3, .int (120 : Int32)), (0, .ref t), (1, .int x1), (2, .int q27_7)]) hx hb d_Mo_bound_68 hl (by decide) rfl (fun ls hl => ?_)
        obtain ⟨q70_11, hC, hF⟩ := dk_b hF
        refine L70 n x1 q27_7 (120 : Int32) (0 : Int32) q70_11 hC ls (lv_sub hl [2, 3, 4, 1, 0] rfl) (fun ls hl => ?_)
        refine lv_iload_n hx hb d_Mo_bound_124 rfl (lv_at hl 3 rfl) ?_
        refine lv_i2l hx hb d_Mo_bound_125 rfl ?_
        refine lv_aload_n hx hb d_Mo_bound_126 rfl (lv_at hl 0 rfl) ?_
        refine lv_iconst (v := (0 : Int32)) hx hb d_Mo_bound_127 (by decide) ?_
        obtain ⟨r128_12, hC, hF⟩ := dk_b hF
        refine dk_pure (va_runV (As := [.int (0 : Int32)]) (rest := [.long q70_11.toInt64]) hfix (c_Mo_weightOf l G K n t t_greens t_leasts t_queues t_seconds t_weights t_offsets t_row t_open t_places t_times t_cars t_hourCrossings t_hourCycles t_hourOffsets (0 : Int32) v_t_crossings v_t_first v_t_last v_t_by v_t_step v_t_has v_t_cycle v_t_aim v_t_proved v_t_arrivals v_t_weights r128_12 hC) (cwV 1 hts (gd_V lk_466 lk_468 lk_469 lk_419 lk_467) rfl rfl rfl (by decide +kernel) ⟨Nat.le_of_ble_eq_true rfl, Nat.le_of_ble_eq_true rfl⟩) (dk_preV hK hN (hP.sub [0, 4] rfl) (va_recv hK hP (ci := 8) (q0 := 0) rfl rfl)) rfl rfl hl.1 rfl (lv_room (Nat.le_of_ble_eq_true rfl)) d_Mo_bound_128 ⟨Nat.le_of_ble_eq_true rfl, Nat.le_of_ble_eq_true rfl⟩) ?_
        refine lv_aload_n hx hb d_Mo_bound_131 rfl (lv_at hl 0 rfl) ?_
        refine lv_iconst (v := (1 : Int32)) hx hb d_Mo_bound_132 (by decide) ?_
        obtain ⟨r133_13, hC, hF⟩ := dk_b hF
        refine dk_pure (va_runV (As := [.int (1 : Int32)]) (rest := [.int r128_12, .long q70_11.toInt64]) hfix (c_Mo_weightOf l G K n t t_greens t_leasts t_queues t_seconds t_weights t_offsets t_row t_open t_places t_times t_cars t_hourCrossings t_hourCycles t_hourOffsets (1 : Int32) v_t_crossings v_t_first v_t_last v_t_by v_t_step v_t_has v_t_cycle v_t_aim v_t_proved v_t_arrivals v_t_weights r133_13 hC) (cwV 1 hts (gd_V lk_466 lk_468 lk_469 lk_419 lk_467) rfl rfl rfl (by decide +kernel) ⟨Nat.le_of_ble_eq_true rfl, Nat.le_of_ble_eq_true rfl⟩) (dk_preV hK hN (hP.sub [0, 4] rfl) (va_recv hK hP (ci := 8) (q0 := 0) rfl rfl)) rfl rfl hl.1 rfl (lv_room (Nat.le_of_ble_eq_true rfl)) d_Mo_bound_133 ⟨Nat.le_of_ble_eq_true rfl, Nat.le_of_ble_eq_true rfl⟩) ?_
        refine lv_iadd hx hb d_Mo_bound_136 ?_
        refine lv_i2l hx hb d_Mo_bound_137 rfl ?_
        refine lv_lmul hx hb d_Mo_bound_138 ?_
        refine lv_iload_n hx hb d_Mo_bound_139 rfl (lv_at hl 2 rfl) ?_
        refine lv_i2l hx hb d_Mo_bound_140 rfl ?_
        refine lv_iload_n hx hb d_Mo_bound_141 rfl (lv_at hl 1 rfl) ?_
        obtain ⟨r142_14, hC, hF⟩ := dk_b hF
        refine dk_pure (va_runS (As := [.long (q70_11.toInt64 * ((r128_12 + r133_13).toInt64)), .long q27_7.toInt64, .int x1]) (rest := []) hfix (c_Mo_share l G K n (q70_11.toInt64 * ((r128_12 + r133_13).toInt64)) q27_7.toInt64 x1 r142_14 hC) (va_cwS 3 hts (gd_S lk_489 lk_491 lk_419 lk_490) rfl rfl rfl (by decide +kernel) ⟨Nat.le_of_ble_eq_true rfl, Nat.le_of_ble_eq_true rfl⟩) (dk_preS hK hN (hP.sub [] rfl)) rfl rfl hl.1 rfl (lv_room (Nat.le_of_ble_eq_true rfl)) d_Mo_bound_142 ⟨Nat.le_of_ble_eq_true rfl, Nat.le_of_ble_eq_true rfl⟩) ?_
        obtain rfl := Option.some.inj hF
        exact W.lret (v := r142_14) hx hb hr (fun t ht hW => ⟨rfl, ht⟩) (fun _ h => by cases h) d_Mo_bound_145
      · have hF := dk_f c58_8 hF
        refine lv_iload_n hx hb d_Mo_bound_61 rfl (lv_at hl 1 rfl) ?_
        refine lv_i2l hx hb d_Mo_bound_62 rfl ?_
        obtain rfl := Option.some.inj hF
        exact W.lret (v := x1.toInt64) hx hb hr (fun t ht hW => ⟨rfl, ht⟩) (fun _ h => by cases h) d_Mo_bound_63
    · have hF := dk_f c15_3 hF
      refine lv_ldc2 (own := R_Mo) (index := 145) (v := ((-1) : Int64)) hx hb hown (hts _ lk_488) d_Mo_bound_18 ?_
      obtain rfl := Option.some.inj hF
      exact W.lret (v := ((-1) : Int64)) hx hb hr (fun t ht hW => ⟨rfl, ht⟩) (fun _ h => by cases h) d_Mo_bound_21
def p_Mo_offset (n : Nat) (x1 : Int32) (v_t_has : Int32) (v_t_crossings : Int32) (v_t_offsets : Nat → Int32) : Option (Int32) :=
  if v_t_has = 0 then
    some ((-1) : Int32)
  else
    (p_Mo_isCrossing n x1 v_t_crossings).bind fun r9_2 =>
    if r9_2 = 0 then
      some ((-1) : Int32)
    else
      if dk_in x1 5 = true then
        some (v_t_offsets x1.toNatClampNeg)
      else none
abbrev m_Mo_offset : Room := { frames := 2, cells := 0, slots := 0, locals := 46 }
set_option maxHeartbeats 4000000 in
set_option maxRecDepth 100000 in
theorem c_Mo_offset (l : Launch) (G : va_G) (K : Nat → ClassId) (n : Nat) (t : Nat) (t_greens : Nat) (t_leasts : Nat) (t_queues : Nat) (t_seconds : Nat) (t_weights : Nat) (t_offsets : Nat) (t_row : Nat) (t_open : Nat) (t_places : Nat) (t_times : Nat) (t_cars : Nat) (t_hourCrossings : Nat) (t_hourCycles : Nat) (t_hourOffsets : Nat) (x1 : Int32) (v_t_crossings : Int32) (v_t_first : Int32) (v_t_last : Int32) (v_t_by : Int32) (v_t_step : Int32) (v_t_has : Int32) (v_t_cycle : Int32) (v_t_aim : Int32) (v_t_proved : Int32) (v_t_arrivals : Int32) (v_t_offsets : Nat → Int32) (o : Int32) (hF : p_Mo_offset n x1 v_t_has v_t_crossings v_t_offsets = some o) :
    Met l y_Mo_offset (wd y_Mo_offset b_Mo_offset 2 (some .int)) m_Mo_offset (dk_Pp [.ref t, .int x1] G K [(t, .inr (8, [.int v_t_crossings, .ref t_greens, .ref t_leasts, .ref t_queues, .ref t_seconds, .ref t_weights, .int v_t_first, .int v_t_last, .int v_t_by, .int v_t_step, .int v_t_has, .int v_t_cycle, .int v_t_aim, .int v_t_proved, .ref t_offsets, .ref t_row, .ref t_open, .int v_t_arrivals, .ref t_places, .ref t_times, .ref t_cars, .ref t_hourCrossings, .ref t_hourCycles, .ref t_hourOffsets])), (t_offsets, .inl (K 0, 5, .inl v_t_offsets))]) (dk_Qp (some (.int o))) 0 0 (fun _ => False) := by
  refine Met.ofW (cc := b_Mo_offset) (maxL := 2) (ret := (some .int)) (by decide) rfl ?_
  intro p e s m args below meth c s₁ B hml hv
  obtain ⟨rfl, hP, hK, hN⟩ := hv
  have hx := B.exec
  have hb := B.bytes
  have hr := B.returns
  have hts : ∀ w ∈ lw_good, w.before _ s = true := fun w h => atoms_spec (ws := wd y_Mo_offset b_Mo_offset 2 (some .int)) B.pre w (List.mem_cons_of_mem _ h)
  have hown : s.vm.findClass R_Mo = some m.cls := findClass_of_methodNamed B.named
  have hlocks := B.notSynchronized
  have hfix : CallFix p m c b_Mo_offset 2 s _ lw_good R_Mo := ⟨hx, hb, hml, hown, hts⟩
  have hl := lv_entry ([.ref t, .int x1]) (n := 2) (Nat.le_of_ble_eq_true rfl)
  rw [lg_entry_eq]
  generalize (lg_sl ([.ref t, .int x1]) ++ List.replicate (2 - (lg_sl ([.ref t, .int x1])).length) Slot.unset).toArray = ls at hl ⊢
  have hl : lv_has ls 2 [(0, .ref t), (1, .int x1)] := hl
  change W p l e m_Mo_offset s m _ below meth c s.heap [] 0 0 _ _
  unfold p_Mo_offset at hF
  refine lv_aload_n hx hb d_Mo_offset_0 rfl (lv_at hl 0 rfl) ?_
  refine va_get (D := G) (ci := 8) (v := .int v_t_has) (C := R_Mo) (T := F_Mo) (N := 24) hx hb hts i_Mo hown hK hP 0 rfl rfl 10 (by decide) (hts _ lk_427) (fun _ h9 => h9) rfl d_Mo_offset_1 ?_
  refine lv_if_eq (tgt := 24) hx hb d_Mo_offset_4 (by decide) (fun c4_1 => ?_) (fun c4_1 => ?_)
  · have hF := dk_t c4_1 hF
    refine lv_iconst (v := ((-1) : Int32)) hx hb d_Mo_offset_24 (by decide) ?_
    obtain rfl := Option.some.inj hF
    exact W.iret (v := ((-1) : Int32)) hx hb hr (fun t ht hW => ⟨rfl, ht⟩) (fun _ h => by cases h) d_Mo_offset_25
  · have hF := dk_f c4_1 hF
    refine lv_aload_n hx hb d_Mo_offset_7 rfl (lv_at hl 0 rfl) ?_
    refine lv_iload_n hx hb d_Mo_offset_8 rfl (lv_at hl 1 rfl) ?_
    obtain ⟨r9_2, hC, hF⟩ := dk_b hF
    refine dk_pure (va_runV (As := [.int x1]) (rest := []) hfix (c_Mo_isCrossing l G K n t t_greens t_leasts t_queues t_seconds t_weights t_offsets t_row t_open t_places t_times t_cars t_hourCrossings t_hourCycles t_hourOffsets x1 v_t_crossings v_t_first v_t_last v_t_by v_t_step v_t_has v_t_cycle v_t_aim v_t_proved v_t_arrivals r9_2 hC) (cwV 1 hts (gd_V lk_430 lk_432 lk_433 lk_419 lk_431) rfl rfl rfl (by decide +kernel) ⟨Nat.le_of_ble_eq_true rfl, Nat.le_of_ble_eq_true rfl⟩) (dk_preV hK hN (hP.sub [0] rfl) (va_recv hK hP (ci := 8) (q0 := 0) rfl rfl)) rfl rfl hl.1 rfl (lv_room (Nat.le_of_ble_eq_true rfl)) d_Mo_offset_9 ⟨Nat.le_of_ble_eq_true rfl, Nat.le_of_ble_eq_true rfl⟩) ?_
    refine lv_if_eq (tgt := 24) hx hb d_Mo_offset_12 (by decide) (fun c12_3 => ?_) (fun c12_3 => ?_)
    · have hF := dk_t c12_3 hF
      refine lv_iconst (v := ((-1) : Int32)) hx hb d_Mo_offset_24 (by decide) ?_
      obtain rfl := Option.some.inj hF
      exact W.iret (v := ((-1) : Int32)) hx hb hr (fun t ht hW => ⟨rfl, ht⟩) (fun _ h => by cases h) d_Mo_offset_25
    · have hF := dk_f c12_3 hF
      refine lv_aload_n hx hb d_Mo_offset_15 rfl (lv_at hl 0 rfl) ?_
      refine va_get (D := G) (ci := 8) (v := .ref t_offsets) (C := R_Mo) (T := F_Mo) (N := 24) hx hb hts i_Mo hown hK hP 0 rfl rfl 14 (by decide) (hts _ lk_443) (fun _ h9 => h9) rfl d_Mo_offset_16 ?_
      refine lv_iload_n hx hb d_Mo_offset_19 rfl (lv_at hl 1 rfl) ?_
      obtain ⟨hi, hF⟩ := dk_a hF
      refine va_iald (D := G) hx hb hK hP 1 0 rfl rfl (dk_vp hi) d_Mo_offset_20 ?_
      refine lv_goto (tgt := 25) hx hb d_Mo_offset_21 (by decide) ?_
      obtain rfl := Option.some.inj hF
      exact W.iret (v := v_t_offsets x1.toNatClampNeg) hx hb hr (fun t ht hW => ⟨rfl, ht⟩) (fun _ h => by cases h) d_Mo_offset_25
def p_Mo_green (n : Nat) (x1 : Int32) (x2 : Int32) (v_t_has : Int32) (v_t_crossings : Int32) (v_t_queues : Nat → Int32) (v_t_offsets : Nat → Int32) (v_t_cycle : Int32) (v_t_greens : Nat → Int32) : Option (Int32) :=
  if v_t_has = 0 then
    some ((-1) : Int32)
  else
    (p_Mo_isCrossing n x1 v_t_crossings).bind fun r9_2 =>
    if r9_2 = 0 then
      some ((-1) : Int32)
    else
      (p_Mo_isIn n x2.toInt64 (0 : Int64) (2 : Int64)).bind fun r21_4 =>
      if r21_4 = 0 then
        some ((-1) : Int32)
      else
        if x2 = 0 then
          if dk_in x1 5 = true then
            if v_t_cycle = 0 then none else
            some (((v_t_offsets x1.toNatClampNeg) + (0 : Int32)) - ((v_t_offsets x1.toNatClampNeg) + (0 : Int32)) / v_t_cycle * v_t_cycle)
          else none
        else
          if x2 = (1 : Int32) then
            if dk_in x1 5 = true then
              if dk_in x1 5 = true then
                if v_t_cycle = 0 then none else
                some (((v_t_offsets x1.toNatClampNeg) + (v_t_greens x1.toNatClampNeg)) - ((v_t_offsets x1.toNatClampNeg) + (v_t_greens x1.toNatClampNeg)) / v_t_cycle * v_t_cycle)
              else none
            else none
          else
            if dk_in x1 5 = true then
              if dk_in x1 5 = true then
                if v_t_cycle = 0 then none else
                some (((v_t_offsets x1.toNatClampNeg) + (v_t_queues x1.toNatClampNeg)) - ((v_t_offsets x1.toNatClampNeg) + (v_t_queues x1.toNatClampNeg)) / v_t_cycle * v_t_cycle)
              else none
            else none
abbrev m_Mo_green : Room := { frames := 2, cells := 0, slots := 0, locals := 46 }
set_option maxHeartbeats 4000000 in
set_option maxRecDepth 100000 in
theorem c_Mo_green (l : Launch) (G : va_G) (K : Nat → ClassId) (n : Nat) (t : Nat) (t_greens : Nat) (t_leasts : Nat) (t_queues : Nat) (t_seconds : Nat) (t_weights : Nat) (t_offsets : Nat) (t_row : Nat) (t_open : Nat) (t_places : Nat) (t_times : Nat) (t_cars : Nat) (t_hourCrossings : Nat) (t_hourCycles : Nat) (t_hourOffsets : Nat) (x1 : Int32) (x2 : Int32) (v_t_crossings : Int32) (v_t_first : Int32) (v_t_last : Int32) (v_t_by : Int32) (v_t_step : Int32) (v_t_has : Int32) (v_t_cycle : Int32) (v_t_aim : Int32) (v_t_proved : Int32) (v_t_arrivals : Int32) (v_t_greens : Nat → Int32) (v_t_queues : Nat → Int32) (v_t_offsets : Nat → Int32) (o : Int32) (hF : p_Mo_green n x1 x2 v_t_has v_t_crossings v_t_queues v_t_offsets v_t_cycle v_t_greens = some o) :
    Met l y_Mo_green (wd y_Mo_green b_Mo_green 4 (some .int)) m_Mo_green (dk_Pp [.ref t, .int x1, .int x2] G K [(t, .inr (8, [.int v_t_crossings, .ref t_greens, .ref t_leasts, .ref t_queues, .ref t_seconds, .ref t_weights, .int v_t_first, .int v_t_last, .int v_t_by, .int v_t_step, .int v_t_has, .int v_t_cycle, .int v_t_aim, .int v_t_proved, .ref t_offsets, .ref t_row, .ref t_open, .int v_t_arrivals, .ref t_places, .ref t_times, .ref t_cars, .ref t_hourCrossings, .ref t_hourCycles, .ref t_hourOffsets])), (t_greens, .inl (K 0, 5, .inl v_t_greens)), (t_queues, .inl (K 0, 5, .inl v_t_queues)), (t_offsets, .inl (K 0, 5, .inl v_t_offsets))]) (dk_Qp (some (.int o))) 0 0 (fun _ => False) := by
  refine Met.ofW (cc := b_Mo_green) (maxL := 4) (ret := (some .int)) (by decide) rfl ?_
  intro p e s m args below meth c s₁ B hml hv
  obtain ⟨rfl, hP, hK, hN⟩ := hv
  have hx := B.exec
  have hb := B.bytes
  have hr := B.returns
  have hts : ∀ w ∈ lw_good, w.before _ s = true := fun w h => atoms_spec (ws := wd y_Mo_green b_Mo_green 4 (some .int)) B.pre w (List.mem_cons_of_mem _ h)
  have hown : s.vm.findClass R_Mo = some m.cls := findClass_of_methodNamed B.named
  have hlocks := B.notSynchronized
  have hfix : CallFix p m c b_Mo_green 4 s _ lw_good R_Mo := ⟨hx, hb, hml, hown, hts⟩
  have hl := lv_entry ([.ref t, .int x1, .int x2]) (n := 4) (Nat.le_of_ble_eq_true rfl)
  rw [lg_entry_eq]
  generalize (lg_sl ([.ref t, .int x1, .int x2]) ++ List.replicate (4 - (lg_sl ([.ref t, .int x1, .int x2])).length) Slot.unset).toArray = ls at hl ⊢
  have hl : lv_has ls 4 [(0, .ref t), (1, .int x1), (2, .int x2)] := hl
  change W p l e m_Mo_green s m _ below meth c s.heap [] 0 0 _ _
  unfold p_Mo_green at hF
  refine lv_aload_n hx hb d_Mo_green_0 rfl (lv_at hl 0 rfl) ?_
  refine va_get (D := G) (ci := 8) (v := .int v_t_has) (C := R_Mo) (T := F_Mo) (N := 24) hx hb hts i_Mo hown hK hP 0 rfl rfl 10 (by decide) (hts _ lk_427) (fun _ h9 => h9) rfl d_Mo_green_1 ?_
  refine lv_if_eq (tgt := 27) hx hb d_Mo_green_4 (by decide) (fun c4_1 => ?_) (fun c4_1 => ?_)
  · have hF := dk_t c4_1 hF
    refine lv_iconst (v := ((-1) : Int32)) hx hb d_Mo_green_27 (by decide) ?_
    obtain rfl := Option.some.inj hF
    exact W.iret (v := ((-1) : Int32)) hx hb hr (fun t ht hW => ⟨rfl, ht⟩) (fun _ h => by cases h) d_Mo_green_28
  · have hF := dk_f c4_1 hF
    refine lv_aload_n hx hb d_Mo_green_7 rfl (lv_at hl 0 rfl) ?_
    refine lv_iload_n hx hb d_Mo_green_8 rfl (lv_at hl 1 rfl) ?_
    obtain ⟨r9_2, hC, hF⟩ := dk_b hF
    refine dk_pure (va_runV (As := [.int x1]) (rest := []) hfix (c_Mo_isCrossing l G K n t t_greens t_leasts t_queues t_seconds t_weights t_offsets t_row t_open t_places t_times t_cars t_hourCrossings t_hourCycles t_hourOffsets x1 v_t_crossings v_t_first v_t_last v_t_by v_t_step v_t_has v_t_cycle v_t_aim v_t_proved v_t_arrivals r9_2 hC) (cwV 1 hts (gd_V lk_430 lk_432 lk_433 lk_419 lk_431) rfl rfl rfl (by decide +kernel) ⟨Nat.le_of_ble_eq_true rfl, Nat.le_of_ble_eq_true rfl⟩) (dk_preV hK hN (hP.sub [0] rfl) (va_recv hK hP (ci := 8) (q0 := 0) rfl rfl)) rfl rfl hl.1 rfl (lv_room (Nat.le_of_ble_eq_true rfl)) d_Mo_green_9 ⟨Nat.le_of_ble_eq_true rfl, Nat.le_of_ble_eq_true rfl⟩) ?_
    refine lv_if_eq (tgt := 27) hx hb d_Mo_green_12 (by decide) (fun c12_3 => ?_) (fun c12_3 => ?_)
    · have hF := dk_t c12_3 hF
      refine lv_iconst (v := ((-1) : Int32)) hx hb d_Mo_green_27 (by decide) ?_
      obtain rfl := Option.some.inj hF
      exact W.iret (v := ((-1) : Int32)) hx hb hr (fun t ht hW => ⟨rfl, ht⟩) (fun _ h => by cases h) d_Mo_green_28
    · have hF := dk_f c12_3 hF
      refine lv_iload_n hx hb d_Mo_green_15 rfl (lv_at hl 2 rfl) ?_
      refine lv_i2l hx hb d_Mo_green_16 rfl ?_
      refine lv_lconst (v := (0 : Int64)) hx hb d_Mo_green_17 (by decide) ?_
      refine lv_ldc2 (own := R_Mo) (index := 151) (v := (2 : Int64)) hx hb hown (hts _ lk_492) d_Mo_green_18 ?_
      obtain ⟨r21_4, hC, hF⟩ := dk_b hF
      refine dk_pure (va_runS (As := [.long x2.toInt64, .long (0 : Int64), .long (2 : Int64)]) (rest := []) hfix (c_Mo_isIn l G K n x2.toInt64 (0 : Int64) (2 : Int64) r21_4 hC) (va_cwS 3 hts (gd_S lk_416 lk_418 lk_419 lk_417) rfl rfl rfl (by decide +kernel) ⟨Nat.le_of_ble_eq_true rfl, Nat.le_of_ble_eq_true rfl⟩) (dk_preS hK hN (hP.sub [] rfl)) rfl rfl hl.1 rfl (lv_room (Nat.le_of_ble_eq_true rfl)) d_Mo_green_21 ⟨Nat.le_of_ble_eq_true rfl, Nat.le_of_ble_eq_true rfl⟩) ?_
      refine lv_if_ne (tgt := 29) hx hb d_Mo_green_24 (by decide) (fun c24_5 => ?_) (fun c24_5 => ?_)
      · have hF := dk_f c24_5 hF
        refine lv_iload_n hx hb d_Mo_green_29 rfl (lv_at hl 2 rfl) ?_
        refine lv_if_ne (tgt := 37) hx hb d_Mo_green_30 (by decide) (fun c30_6 => ?_) (fun c30_6 => ?_)
        · have hF := dk_f c30_6 hF
          refine lv_iload_n hx hb d_Mo_green_37 rfl (lv_at hl 2 rfl) ?_
          refine lv_iconst (v := (1 : Int32)) hx hb d_Mo_green_38 (by decide) ?_
          refine lv_icmp_ne (tgt := 51) hx hb d_Mo_green_39 (by decide) (fun c39_7 => ?_) (fun c39_7 => ?_)
          · have hF := dk_f c39_7 hF
            refine lv_aload_n hx hb d_Mo_green_51 rfl (lv_at hl 0 rfl) ?_
            refine va_get (D := G) (ci := 8) (v := .ref t_queues) (C := R_Mo) (T := F_Mo) (N := 24) hx hb hts i_Mo hown hK hP 0 rfl rfl 3 (by decide) (hts _ lk_426) (fun _ h9 => h9) rfl d_Mo_green_52 ?_
            refine lv_iload_n hx hb d_Mo_green_55 rfl (lv_at hl 1 rfl) ?_
            obtain ⟨hi, hF⟩ := dk_a hF
            refine va_iald (D := G) hx hb hK hP 2 0 rfl rfl (dk_vp hi) d_Mo_green_56 ?_
            refine lv_istore_n (lv' := [(3, .int (v_t_queues x1.toNatClampNeg)), (0, .ref t), (1, .int x1), (2, .int x2)]) hx hb d_Mo_green_57 rfl hl (by decide) rfl (fun ls hl => ?_)
            refine lv_aload_n hx hb d_Mo_green_58 rfl (lv_at hl 1 rfl) ?_
            refine va_get (D := G) (ci := 8) (v := .ref t_offsets) (C := R_Mo) (T := F_Mo) (N := 24) hx hb hts i_Mo hown hK hP 0 rfl rfl 14 (by decide) (hts _ lk_443) (fun _ h9 => h9) rfl d_Mo_green_59 ?_
            refine lv_iload_n hx hb d_Mo_green_62 rfl (lv_at hl 2 rfl) ?_
            obtain ⟨hi, hF⟩ := dk_a hF
            refine va_iald (D := G) hx hb hK hP 3 0 rfl rfl (dk_vp hi) d_Mo_green_63 ?_
            refine lv_iload_n hx hb d_Mo_green_64 rfl (lv_at hl 0 rfl) ?_
            refine lv_iadd hx hb d_Mo_green_65 ?_
            refine lv_aload_n hx hb d_Mo_green_66 rfl (lv_at hl 1 rfl) ?_
            refine va_get (D := G) (ci := 8) (v := .int v_t_cycle) (C := R_Mo) (T := F_Mo) (N := 24) hx hb hts i_Mo hown hK hP 0 rfl rfl 11 (by decide) (hts _ lk_444) (fun _ h9 => h9) rfl d_Mo_green_67 ?_
            obtain ⟨hz, hF⟩ := dk_z hF
            refine lv_irem hx hb d_Mo_green_70 hz ?_
            obtain rfl := Option.some.inj hF
            exact W.iret (v := ((v_t_offsets x1.toNatClampNeg) + (v_t_queues x1.toNatClampNeg)) - ((v_t_offsets x1.toNatClampNeg) + (v_t_queues x1.toNatClampNeg)) / v_t_cycle * v_t_cycle) hx hb hr (fun t ht hW => ⟨rfl, ht⟩) (fun _ h => by cases h) d_Mo_green_71
          · have hF := dk_t c39_7 hF
            refine lv_aload_n hx hb d_Mo_green_42 rfl (lv_at hl 0 rfl) ?_
            refine va_get (D := G) (ci := 8) (v := .ref t_greens) (C := R_Mo) (T := F_Mo) (N := 24) hx hb hts i_Mo hown hK hP 0 rfl rfl 1 (by decide) (hts _ lk_424) (fun _ h9 => h9) rfl d_Mo_green_43 ?_
            refine lv_iload_n hx hb d_Mo_green_46 rfl (lv_at hl 1 rfl) ?_
            obtain ⟨hi, hF⟩ := dk_a hF
            refine va_iald (D := G) hx hb hK hP 1 0 rfl rfl (dk_vp hi) d_Mo_green_47 ?_
            refine lv_goto (tgt := 57) hx hb d_Mo_green_48 (by decide) ?_
            refine lv_istore_n (lv' := [(3, .int (v_t_greens x1.toNatClampNeg)), (0, .ref t), (1, .int x1), (2, .int x2)]) hx hb d_Mo_green_57 rfl hl (by decide) rfl (fun ls hl => ?_)
            refine lv_aload_n hx hb d_Mo_green_58 rfl (lv_at hl 1 rfl) ?_
            refine va_get (D := G) (ci := 8) (v := .ref t_offsets) (C := R_Mo) (T := F_Mo) (N := 24) hx hb hts i_Mo hown hK hP 0 rfl rfl 14 (by decide) (hts _ lk_443) (fun _ h9 => h9) rfl d_Mo_green_59 ?_
            refine lv_iload_n hx hb d_Mo_green_62 rfl (lv_at hl 2 rfl) ?_
            obtain ⟨hi, hF⟩ := dk_a hF
            refine va_iald (D := G) hx hb hK hP 3 0 rfl rfl (dk_vp hi) d_Mo_green_63 ?_
            refine lv_iload_n hx hb d_Mo_green_64 rfl (lv_at hl 0 rfl) ?_
            refine lv_iadd hx hb d_Mo_green_65 ?_
            refine lv_aload_n hx hb d_Mo_green_66 rfl (lv_at hl 1 rfl) ?_
            refine va_get (D := G) (ci := 8) (v := .int v_t_cycle) (C := R_Mo) (T := F_Mo) (N := 24) hx hb hts i_Mo hown hK hP 0 rfl rfl 11 (by decide) (hts _ lk_444) (fun _ h9 => h9) rfl d_Mo_green_67 ?_
            obtain ⟨hz, hF⟩ := dk_z hF
            refine lv_irem hx hb d_Mo_green_70 hz ?_
            obtain rfl := Option.some.inj hF
            exact W.iret (v := ((v_t_offsets x1.toNatClampNeg) + (v_t_greens x1.toNatClampNeg)) - ((v_t_offsets x1.toNatClampNeg) + (v_t_greens x1.toNatClampNeg)) / v_t_cycle * v_t_cycle) hx hb hr (fun t ht hW => ⟨rfl, ht⟩) (fun _ h => by cases h) d_Mo_green_71
        · have hF := dk_t c30_6 hF
          refine lv_iconst (v := (0 : Int32)) hx hb d_Mo_green_33 (by decide) ?_
          refine lv_goto (tgt := 57) hx hb d_Mo_green_34 (by decide) ?_
          refine lv_istore_n (lv' := [(3, .int (0 : Int32)), (0, .ref t), (1, .int x1), (2, .int x2)]) hx hb d_Mo_green_57 rfl hl (by decide) rfl (fun ls hl => ?_)
          refine lv_aload_n hx hb d_Mo_green_58 rfl (lv_at hl 1 rfl) ?_
          refine va_get (D := G) (ci := 8) (v := .ref t_offsets) (C := R_Mo) (T := F_Mo) (N := 24) hx hb hts i_Mo hown hK hP 0 rfl rfl 14 (by decide) (hts _ lk_443) (fun _ h9 => h9) rfl d_Mo_green_59 ?_
          refine lv_iload_n hx hb d_Mo_green_62 rfl (lv_at hl 2 rfl) ?_
          obtain ⟨hi, hF⟩ := dk_a hF
          refine va_iald (D := G) hx hb hK hP 3 0 rfl rfl (dk_vp hi) d_Mo_green_63 ?_
          refine lv_iload_n hx hb d_Mo_green_64 rfl (lv_at hl 0 rfl) ?_
          refine lv_iadd hx hb d_Mo_green_65 ?_
          refine lv_aload_n hx hb d_Mo_green_66 rfl (lv_at hl 1 rfl) ?_
          refine va_get (D := G) (ci := 8) (v := .int v_t_cycle) (C := R_Mo) (T := F_Mo) (N := 24) hx hb hts i_Mo hown hK hP 0 rfl rfl 11 (by decide) (hts _ lk_444) (fun _ h9 => h9) rfl d_Mo_green_67 ?_
          obtain ⟨hz, hF⟩ := dk_z hF
          refine lv_irem hx hb d_Mo_green_70 hz ?_
          obtain rfl := Option.some.inj hF
          exact W.iret (v := ((v_t_offsets x1.toNatClampNeg) + (0 : Int32)) - ((v_t_offsets x1.toNatClampNeg) + (0 : Int32)) / v_t_cycle * v_t_cycle) hx hb hr (fun t ht hW => ⟨rfl, ht⟩) (fun _ h => by cases h) d_Mo_green_71
      · have hF := dk_t c24_5 hF
        refine lv_iconst (v := ((-1) : Int32)) hx hb d_Mo_green_27 (by decide) ?_
        obtain rfl := Option.some.inj hF
        exact W.iret (v := ((-1) : Int32)) hx hb hr (fun t ht hW => ⟨rfl, ht⟩) (fun _ h => by cases h) d_Mo_green_28
def p_Mo_width (n : Nat) (x1 : Int32) (x2 : Int32) (v_t_has : Int32) (v_t_crossings : Int32) (v_t_offsets : Nat → Int32) (v_t_cycle : Int32) (v_t_greens : Nat → Int32) (v_t_queues : Nat → Int32) (v_t_seconds : Nat → Int32) (v_t_open : Nat → Int32) : Option (Int64 × (Nat → Int32)) :=
  if v_t_has = 0 then
    some (((-1) : Int64), v_t_open)
  else
    (p_Mo_isIn n x1.toInt64 (0 : Int64) (1 : Int64)).bind fun r11_2 =>
    if r11_2 = 0 then
      some (((-1) : Int64), v_t_open)
    else
      (p_Mo_isIn n x2.toInt64 (0 : Int64) (1 : Int64)).bind fun r21_4 =>
      if r21_4 = 0 then
        some (((-1) : Int64), v_t_open)
      else
        (p_Mo_layPlan n v_t_crossings v_t_offsets v_t_cycle v_t_greens v_t_queues v_t_open).bind fun r32_6 =>
        (p_Mo_band n x1 v_t_cycle v_t_crossings r32_6 v_t_seconds).bind fun r41_7 =>
        (p_Mo_share n r41_7.toInt64 v_t_cycle.toInt64 x2).bind fun r51_8 =>
        some (r51_8, r32_6)
abbrev m_Mo_width : Room := { frames := 2, cells := 0, slots := 0, locals := 55 }
set_option maxHeartbeats 4000000 in
set_option maxRecDepth 100000 in
theorem c_Mo_width (l : Launch) (G : va_G) (K : Nat → ClassId) (n : Nat) (sz : Nat) (t : Nat) (t_greens : Nat) (t_leasts : Nat) (t_queues : Nat) (t_seconds : Nat) (t_weights : Nat) (t_offsets : Nat) (t_row : Nat) (t_open : Nat) (t_places : Nat) (t_times : Nat) (t_cars : Nat) (t_hourCrossings : Nat) (t_hourCycles : Nat) (t_hourOffsets : Nat) (x1 : Int32) (x2 : Int32) (v_t_crossings : Int32) (v_t_first : Int32) (v_t_last : Int32) (v_t_by : Int32) (v_t_step : Int32) (v_t_has : Int32) (v_t_cycle : Int32) (v_t_aim : Int32) (v_t_proved : Int32) (v_t_arrivals : Int32) (v_t_greens : Nat → Int32) (v_t_queues : Nat → Int32) (v_t_seconds : Nat → Int32) (v_t_offsets : Nat → Int32) (v_t_open : Nat → Int32) (o : Int64 × (Nat → Int32)) (hF : p_Mo_width n x1 x2 v_t_has v_t_crossings v_t_offsets v_t_cycle v_t_greens v_t_queues v_t_seconds v_t_open = some o) :
    Met l y_Mo_width (wd y_Mo_width b_Mo_width 3 (some .long)) m_Mo_width (dk_Pm [.ref t, .int x1, .int x2] G K [(t, .inr (8, [.int v_t_crossings, .ref t_greens, .ref t_leasts, .ref t_queues, .ref t_seconds, .ref t_weights, .int v_t_first, .int v_t_last, .int v_t_by, .int v_t_step, .int v_t_has, .int v_t_cycle, .int v_t_aim, .int v_t_proved, .ref t_offsets, .ref t_row, .ref t_open, .int v_t_arrivals, .ref t_places, .ref t_times, .ref t_cars, .ref t_hourCrossings, .ref t_hourCycles, .ref t_hourOffsets])), (t_greens, .inl (K 0, 5, .inl v_t_greens)), (t_queues, .inl (K 0, 5, .inl v_t_queues)), (t_seconds, .inl (K 0, 10, .inl v_t_seconds)), (t_offsets, .inl (K 0, 5, .inl v_t_offsets)), (t_open, .inl (K 3, 600, .inl v_t_open))] sz) (dk_Qm (some (.long o.1)) G (fun _ : Unit => [(t, .inr (8, [.int v_t_crossings, .ref t_greens, .ref t_leasts, .ref t_queues, .ref t_seconds, .ref t_weights, .int v_t_first, .int v_t_last, .int v_t_by, .int v_t_step, .int v_t_has, .int v_t_cycle, .int v_t_aim, .int v_t_proved, .ref t_offsets, .ref t_row, .ref t_open, .int v_t_arrivals, .ref t_places, .ref t_times, .ref t_cars, .ref t_hourCrossings, .ref t_hourCycles, .ref t_hourOffsets])), (t_greens, .inl (K 0, 5, .inl v_t_greens)), (t_queues, .inl (K 0, 5, .inl v_t_queues)), (t_seconds, .inl (K 0, 10, .inl v_t_seconds)), (t_offsets, .inl (K 0, 5, .inl v_t_offsets)), (t_open, .inl (K 3, 600, .inl o.2))]) (va_A [(t, .inr (8, [.int v_t_crossings, .ref t_greens, .ref t_leasts, .ref t_queues, .ref t_seconds, .ref t_weights, .int v_t_first, .int v_t_last, .int v_t_by, .int v_t_step, .int v_t_has, .int v_t_cycle, .int v_t_aim, .int v_t_proved, .ref t_offsets, .ref t_row, .ref t_open, .int v_t_arrivals, .ref t_places, .ref t_times, .ref t_cars, .ref t_hourCrossings, .ref t_hourCycles, .ref t_hourOffsets])), (t_greens, .inl (K 0, 5, .inl v_t_greens)), (t_queues, .inl (K 0, 5, .inl v_t_queues)), (t_seconds, .inl (K 0, 10, .inl v_t_seconds)), (t_offsets, .inl (K 0, 5, .inl v_t_offsets)), (t_open, .inl (K 3, 600, .inl v_t_open))] sz)) 0 0 (va_A [(t, .inr (8, [.int v_t_crossings, .ref t_greens, .ref t_leasts, .ref t_queues, .ref t_seconds, .ref t_weights, .int v_t_first, .int v_t_last, .int v_t_by, .int v_t_step, .int v_t_has, .int v_t_cycle, .int v_t_aim, .int v_t_proved, .ref t_offsets, .ref t_row, .ref t_open, .int v_t_arrivals, .ref t_places, .ref t_times, .ref t_cars, .ref t_hourCrossings, .ref t_hourCycles, .ref t_hourOffsets])), (t_greens, .inl (K 0, 5, .inl v_t_greens)), (t_queues, .inl (K 0, 5, .inl v_t_queues)), (t_seconds, .inl (K 0, 10, .inl v_t_seconds)), (t_offsets, .inl (K 0, 5, .inl v_t_offsets)), (t_open, .inl (K 3, 600, .inl v_t_open))] sz) := by
  refine Met.ofW (cc := b_Mo_width) (maxL := 3) (ret := (some .long)) (by decide) rfl ?_
  intro p e s m args below meth c s₁ B hml hv
  obtain ⟨rfl, hsz, hP, hK, hN, hD0⟩ := hv
  have hx := B.exec
  have hb := B.bytes
  have hr := B.returns
  have hts : ∀ w ∈ lw_good, w.before _ s = true := fun w h => atoms_spec (ws := wd y_Mo_width b_Mo_width 3 (some .long)) B.pre w (List.mem_cons_of_mem _ h)
  have hown : s.vm.findClass R_Mo = some m.cls := findClass_of_methodNamed B.named
  have hlocks := B.notSynchronized
  have hfix : CallFix p m c b_Mo_width 3 s _ lw_good R_Mo := ⟨hx, hb, hml, hown, hts⟩
  subst hsz
  have hD := hD0.self (sz := s.heap.size)
  generalize hAe : va_A [(t, .inr (8, [.int v_t_crossings, .ref t_greens, .ref t_leasts, .ref t_queues, .ref t_seconds, .ref t_weights, .int v_t_first, .int v_t_last, .int v_t_by, .int v_t_step, .int v_t_has, .int v_t_cycle, .int v_t_aim, .int v_t_proved, .ref t_offsets, .ref t_row, .ref t_open, .int v_t_arrivals, .ref t_places, .ref t_times, .ref t_cars, .ref t_hourCrossings, .ref t_hourCycles, .ref t_hourOffsets])), (t_greens, .inl (K 0, 5, .inl v_t_greens)), (t_queues, .inl (K 0, 5, .inl v_t_queues)), (t_seconds, .inl (K 0, 10, .inl v_t_seconds)), (t_offsets, .inl (K 0, 5, .inl v_t_offsets)), (t_open, .inl (K 3, 600, .inl v_t_open))] s.heap.size = A at hD ⊢
  have hA : ∀ q : Nat, s.heap.size ≤ q → A q := fun q h => by rw [← hAe]; exact Or.inr h
  have hS : va_S A s.heap s.heap [] := va_S.rf
  have hl := lv_entry ([.ref t, .int x1, .int x2]) (n := 3) (Nat.le_of_ble_eq_true rfl)
  rw [lg_entry_eq]
  generalize (lg_sl ([.ref t, .int x1, .int x2]) ++ List.replicate (3 - (lg_sl ([.ref t, .int x1, .int x2])).length) Slot.unset).toArray = ls at hl ⊢
  have hl : lv_has ls 3 [(0, .ref t), (1, .int x1), (2, .int x2)] := hl
  change W p l e m_Mo_width s m _ below meth c s.heap [] 0 0 _ _
  unfold p_Mo_width at hF
  refine lv_aload_n hx hb d_Mo_width_0 rfl (lv_at hl 0 rfl) ?_
  refine va_get (D := G) (ci := 8) (v := .int v_t_has) (C := R_Mo) (T := F_Mo) (N := 24) hx hb hts i_Mo hown hK hP 0 rfl rfl 10 (by decide) (hts _ lk_427) (fun _ h9 => h9) rfl d_Mo_width_1 ?_
  refine lv_if_eq (tgt := 27) hx hb d_Mo_width_4 (by decide) (fun c4_1 => ?_) (fun c4_1 => ?_)
  · have hF := dk_t c4_1 hF
    refine lv_ldc2 (own := R_Mo) (index := 145) (v := ((-1) : Int64)) hx hb hown (hts _ lk_488) d_Mo_width_27 ?_
    obtain rfl := Option.some.inj hF
    exact W.lret (v := ((-1) : Int64)) hx hb hr (fun t ht hW => ⟨⟨(), rfl, by rw [ht]; exact hP, hD⟩, hS.F ht⟩) hS.2.2 d_Mo_width_30
  · have hF := dk_f c4_1 hF
    refine lv_iload_n hx hb d_Mo_width_7 rfl (lv_at hl 1 rfl) ?_
    refine lv_i2l hx hb d_Mo_width_8 rfl ?_
    refine lv_lconst (v := (0 : Int64)) hx hb d_Mo_width_9 (by decide) ?_
    refine lv_lconst (v := (1 : Int64)) hx hb d_Mo_width_10 (by decide) ?_
    obtain ⟨r11_2, hC, hF⟩ := dk_b hF
    refine dk_pure (va_runS (As := [.long x1.toInt64, .long (0 : Int64), .long (1 : Int64)]) (rest := []) hfix (c_Mo_isIn l G K n x1.toInt64 (0 : Int64) (1 : Int64) r11_2 hC) (va_cwS 3 hts (gd_S lk_416 lk_418 lk_419 lk_417) rfl rfl rfl (by decide +kernel) ⟨Nat.le_of_ble_eq_true rfl, Nat.le_of_ble_eq_true rfl⟩) (dk_preS hK hN (hP.sub [] rfl)) rfl rfl hl.1 rfl (lv_room (Nat.le_of_ble_eq_true rfl)) d_Mo_width_11 ⟨Nat.le_of_ble_eq_true rfl, Nat.le_of_ble_eq_true rfl⟩) ?_
    refine lv_if_eq (tgt := 27) hx hb d_Mo_width_14 (by decide) (fun c14_3 => ?_) (fun c14_3 => ?_)
    · have hF := dk_t c14_3 hF
      refine lv_ldc2 (own := R_Mo) (index := 145) (v := ((-1) : Int64)) hx hb hown (hts _ lk_488) d_Mo_width_27 ?_
      obtain rfl := Option.some.inj hF
      exact W.lret (v := ((-1) : Int64)) hx hb hr (fun t ht hW => ⟨⟨(), rfl, by rw [ht]; exact hP, hD⟩, hS.F ht⟩) hS.2.2 d_Mo_width_30
    · have hF := dk_f c14_3 hF
      refine lv_iload_n hx hb d_Mo_width_17 rfl (lv_at hl 2 rfl) ?_
      refine lv_i2l hx hb d_Mo_width_18 rfl ?_
      refine lv_lconst (v := (0 : Int64)) hx hb d_Mo_width_19 (by decide) ?_
      refine lv_lconst (v := (1 : Int64)) hx hb d_Mo_width_20 (by decide) ?_
      obtain ⟨r21_4, hC, hF⟩ := dk_b hF
      refine dk_pure (va_runS (As := [.long x2.toInt64, .long (0 : Int64), .long (1 : Int64)]) (rest := []) hfix (c_Mo_isIn l G K n x2.toInt64 (0 : Int64) (1 : Int64) r21_4 hC) (va_cwS 3 hts (gd_S lk_416 lk_418 lk_419 lk_417) rfl rfl rfl (by decide +kernel) ⟨Nat.le_of_ble_eq_true rfl, Nat.le_of_ble_eq_true rfl⟩) (dk_preS hK hN (hP.sub [] rfl)) rfl rfl hl.1 rfl (lv_room (Nat.le_of_ble_eq_true rfl)) d_Mo_width_21 ⟨Nat.le_of_ble_eq_true rfl, Nat.le_of_ble_eq_true rfl⟩) ?_
      refine lv_if_ne (tgt := 31) hx hb d_Mo_width_24 (by decide) (fun c24_5 => ?_) (fun c24_5 => ?_)
      · have hF := dk_f c24_5 hF
        refine lv_aload_n hx hb d_Mo_width_31 rfl (lv_at hl 0 rfl) ?_
        obtain ⟨r32_6, hC, hF⟩ := dk_b hF
        refine dk_mutv (wr := [(t_seconds, .inl (K 0, 10, .inl v_t_seconds))]) (va_runV (As := []) (rest := []) hfix (c_Mo_layPlan l G K n s.heap.size t t_greens t_leasts t_queues t_seconds t_weights t_offsets t_row t_open t_places t_times t_cars t_hourCrossings t_hourCycles t_hourOffsets v_t_crossings v_t_first v_t_last v_t_by v_t_step v_t_has v_t_cycle v_t_aim v_t_proved v_t_arrivals v_t_greens v_t_queues v_t_offsets v_t_open r32_6 hC) (cwV 0 hts (gd_V lk_493 lk_495 lk_496 lk_419 lk_494) rfl rfl rfl (by decide +kernel) ⟨Nat.le_of_ble_eq_true rfl, Nat.le_of_ble_eq_true rfl⟩) (dk_preVm hK hN (hP.sub [0, 1, 2, 4, 5] rfl) (hD.sub [0, 1, 2, 4, 5] (by decide) rfl) (va_recv hK hP (ci := 8) (q0 := 0) rfl rfl)) rfl rfl hl.1 rfl (lv_room (Nat.le_of_ble_eq_true rfl)) d_Mo_width_32 ⟨Nat.le_of_ble_eq_true rfl, Nat.le_of_ble_eq_true rfl⟩) hS hA hP hD [0, 1, 2, 4, 5] [3] rfl rfl (by decide) (by decide) (fun _ H locs hP hD hS => ?_)
        have hP : va_P G classes [(t, .inr (8, [.int v_t_crossings, .ref t_greens, .ref t_leasts, .ref t_queues, .ref t_seconds, .ref t_weights, .int v_t_first, .int v_t_last, .int v_t_by, .int v_t_step, .int v_t_has, .int v_t_cycle, .int v_t_aim, .int v_t_proved, .ref t_offsets, .ref t_row, .ref t_open, .int v_t_arrivals, .ref t_places, .ref t_times, .ref t_cars, .ref t_hourCrossings, .ref t_hourCycles, .ref t_hourOffsets])), (t_greens, .inl (K 0, 5, .inl v_t_greens)), (t_queues, .inl (K 0, 5, .inl v_t_queues)), (t_seconds, .inl (K 0, 10, .inl v_t_seconds)), (t_offsets, .inl (K 0, 5, .inl v_t_offsets)), (t_open, .inl (K 3, 600, .inl r32_6))] H := hP.sub [1, 2, 3, 0, 4, 5] rfl
        have hD : va_D A [(t, .inr (8, [.int v_t_crossings, .ref t_greens, .ref t_leasts, .ref t_queues, .ref t_seconds, .ref t_weights, .int v_t_first, .int v_t_last, .int v_t_by, .int v_t_step, .int v_t_has, .int v_t_cycle, .int v_t_aim, .int v_t_proved, .ref t_offsets, .ref t_row, .ref t_open, .int v_t_arrivals, .ref t_places, .ref t_times, .ref t_cars, .ref t_hourCrossings, .ref t_hourCycles, .ref t_hourOffsets])), (t_greens, .inl (K 0, 5, .inl v_t_greens)), (t_queues, .inl (K 0, 5, .inl v_t_queues)), (t_seconds, .inl (K 0, 10, .inl v_t_seconds)), (t_offsets, .inl (K 0, 5, .inl v_t_offsets)), (t_open, .inl (K 3, 600, .inl r32_6))] := hD.sub [1, 2, 3, 0, 4, 5] (by decide) rfl
        refine lv_aload_n hx hb d_Mo_width_35 rfl (lv_at hl 0 rfl) ?_
        refine lv_iload_n hx hb d_Mo_width_36 rfl (lv_at hl 1 rfl) ?_
        refine lv_aload_n hx hb d_Mo_width_37 rfl (lv_at hl 0 rfl) ?_
        refine va_get (D := G) (ci := 8) (v := .int v_t_cycle) (C := R_Mo) (T := F_Mo) (N := 24) hx hb hts i_Mo hown hK hP 0 rfl rfl 11 (by decide) (hts _ lk_444) (fun _ h9 => h9) rfl d_Mo_width_38 ?_
        obtain ⟨r41_7, hC, hF⟩ := dk_b hF
        refine dk_pure (va_runV (As := [.int x1, .int v_t_cycle]) (rest := []) hfix (c_Mo_band l G K n t t_greens t_leasts t_queues t_seconds t_weights t_offsets t_row t_open t_places t_times t_cars t_hourCrossings t_hourCycles t_hourOffsets x1 v_t_cycle v_t_crossings v_t_first v_t_last v_t_by v_t_step v_t_has v_t_cycle v_t_aim v_t_proved v_t_arrivals v_t_seconds r32_6 r41_7 hC) (cwV 2 hts (gd_V lk_462 lk_464 lk_465 lk_419 lk_463) rfl rfl rfl (by decide +kernel) ⟨Nat.le_of_ble_eq_true rfl, Nat.le_of_ble_eq_true rfl⟩) (dk_preV hK hN (hP.sub [0, 3, 5] rfl) (va_recv hK hP (ci := 8) (q0 := 0) rfl rfl)) rfl rfl hl.1 rfl (lv_room (Nat.le_of_ble_eq_true rfl)) d_Mo_width_41 ⟨Nat.le_of_ble_eq_true rfl, Nat.le_of_ble_eq_true rfl⟩) ?_
        refine lv_i2l hx hb d_Mo_width_44 rfl ?_
        refine lv_aload_n hx hb d_Mo_width_45 rfl (lv_at hl 0 rfl) ?_
        refine va_get (D := G) (ci := 8) (v := .int v_t_cycle) (C := R_Mo) (T := F_Mo) (N := 24) hx hb hts i_Mo hown hK hP 0 rfl rfl 11 (by decide) (hts _ lk_444) (fun _ h9 => h9) rfl d_Mo_width_46 ?_
        refine lv_i2l hx hb d_Mo_width_49 rfl ?_
        refine lv_iload_n hx hb d_Mo_width_50 rfl (lv_at hl 2 rfl) ?_
        obtain ⟨r51_8, hC, hF⟩ := dk_b hF
        refine dk_pure (va_runS (As := [.long r41_7.toInt64, .long v_t_cycle.toInt64, .int x2]) (rest := []) hfix (c_Mo_share l G K n r41_7.toInt64 v_t_cycle.toInt64 x2 r51_8 hC) (va_cwS 3 hts (gd_S lk_489 lk_491 lk_419 lk_490) rfl rfl rfl (by decide +kernel) ⟨Nat.le_of_ble_eq_true rfl, Nat.le_of_ble_eq_true rfl⟩) (dk_preS hK hN (hP.sub [] rfl)) rfl rfl hl.1 rfl (lv_room (Nat.le_of_ble_eq_true rfl)) d_Mo_width_51 ⟨Nat.le_of_ble_eq_true rfl, Nat.le_of_ble_eq_true rfl⟩) ?_
        obtain rfl := Option.some.inj hF
        exact W.lret (v := r51_8) hx hb hr (fun t ht hW => ⟨⟨(), rfl, by rw [ht]; exact hP, hD⟩, hS.F ht⟩) hS.2.2 d_Mo_width_54
      · have hF := dk_t c24_5 hF
        refine lv_ldc2 (own := R_Mo) (index := 145) (v := ((-1) : Int64)) hx hb hown (hts _ lk_488) d_Mo_width_27 ?_
        obtain rfl := Option.some.inj hF
        exact W.lret (v := ((-1) : Int64)) hx hb hr (fun t ht hW => ⟨⟨(), rfl, by rw [ht]; exact hP, hD⟩, hS.F ht⟩) hS.2.2 d_Mo_width_30
def p_Mo_stops (n : Nat) (x1 : Int32) (v_t_has : Int32) (v_t_crossings : Int32) (v_t_offsets : Nat → Int32) (v_t_cycle : Int32) (v_t_greens : Nat → Int32) (v_t_queues : Nat → Int32) (v_t_seconds : Nat → Int32) (v_t_weights : Nat → Int32) (v_t_open : Nat → Int32) : Option (Int64 × (Nat → Int32)) :=
  if v_t_has = 0 then
    some (((-1) : Int64), v_t_open)
  else
    (p_Mo_isIn n x1.toInt64 (0 : Int64) (1 : Int64)).bind fun r11_2 =>
    if r11_2 = 0 then
      some (((-1) : Int64), v_t_open)
    else
      (p_Mo_layPlan n v_t_crossings v_t_offsets v_t_cycle v_t_greens v_t_queues v_t_open).bind fun r22_4 =>
      (p_Mo_stopsOf n v_t_cycle v_t_crossings r22_4 v_t_seconds v_t_weights).bind fun r30_5 =>
      (p_Mo_share n r30_5.toInt64 v_t_cycle.toInt64 x1).bind fun r40_6 =>
      some (r40_6, r22_4)
abbrev m_Mo_stops : Room := { frames := 2, cells := 0, slots := 0, locals := 55 }
set_option maxHeartbeats 4000000 in
set_option maxRecDepth 100000 in
theorem c_Mo_stops (l : Launch) (G : va_G) (K : Nat → ClassId) (n : Nat) (sz : Nat) (t : Nat) (t_greens : Nat) (t_leasts : Nat) (t_queues : Nat) (t_seconds : Nat) (t_weights : Nat) (t_offsets : Nat) (t_row : Nat) (t_open : Nat) (t_places : Nat) (t_times : Nat) (t_cars : Nat) (t_hourCrossings : Nat) (t_hourCycles : Nat) (t_hourOffsets : Nat) (x1 : Int32) (v_t_crossings : Int32) (v_t_first : Int32) (v_t_last : Int32) (v_t_by : Int32) (v_t_step : Int32) (v_t_has : Int32) (v_t_cycle : Int32) (v_t_aim : Int32) (v_t_proved : Int32) (v_t_arrivals : Int32) (v_t_greens : Nat → Int32) (v_t_queues : Nat → Int32) (v_t_seconds : Nat → Int32) (v_t_weights : Nat → Int32) (v_t_offsets : Nat → Int32) (v_t_open : Nat → Int32) (o : Int64 × (Nat → Int32)) (hF : p_Mo_stops n x1 v_t_has v_t_crossings v_t_offsets v_t_cycle v_t_greens v_t_queues v_t_seconds v_t_weights v_t_open = some o) :
    Met l y_Mo_stops (wd y_Mo_stops b_Mo_stops 2 (some .long)) m_Mo_stops (dk_Pm [.ref t, .int x1] G K [(t, .inr (8, [.int v_t_crossings, .ref t_greens, .ref t_leasts, .ref t_queues, .ref t_seconds, .ref t_weights, .int v_t_first, .int v_t_last, .int v_t_by, .int v_t_step, .int v_t_has, .int v_t_cycle, .int v_t_aim, .int v_t_proved, .ref t_offsets, .ref t_row, .ref t_open, .int v_t_arrivals, .ref t_places, .ref t_times, .ref t_cars, .ref t_hourCrossings, .ref t_hourCycles, .ref t_hourOffsets])), (t_greens, .inl (K 0, 5, .inl v_t_greens)), (t_queues, .inl (K 0, 5, .inl v_t_queues)), (t_seconds, .inl (K 0, 10, .inl v_t_seconds)), (t_weights, .inl (K 0, 10, .inl v_t_weights)), (t_offsets, .inl (K 0, 5, .inl v_t_offsets)), (t_open, .inl (K 3, 600, .inl v_t_open))] sz) (dk_Qm (some (.long o.1)) G (fun _ : Unit => [(t, .inr (8, [.int v_t_crossings, .ref t_greens, .ref t_leasts, .ref t_queues, .ref t_seconds, .ref t_weights, .int v_t_first, .int v_t_last, .int v_t_by, .int v_t_step, .int v_t_has, .int v_t_cycle, .int v_t_aim, .int v_t_proved, .ref t_offsets, .ref t_row, .ref t_open, .int v_t_arrivals, .ref t_places, .ref t_times, .ref t_cars, .ref t_hourCrossings, .ref t_hourCycles, .ref t_hourOffsets])), (t_greens, .inl (K 0, 5, .inl v_t_greens)), (t_queues, .inl (K 0, 5, .inl v_t_queues)), (t_seconds, .inl (K 0, 10, .inl v_t_seconds)), (t_weights, .inl (K 0, 10, .inl v_t_weights)), (t_offsets, .inl (K 0, 5, .inl v_t_offsets)), (t_open, .inl (K 3, 600, .inl o.2))]) (va_A [(t, .inr (8, [.int v_t_crossings, .ref t_greens, .ref t_leasts, .ref t_queues, .ref t_seconds, .ref t_weights, .int v_t_first, .int v_t_last, .int v_t_by, .int v_t_step, .int v_t_has, .int v_t_cycle, .int v_t_aim, .int v_t_proved, .ref t_offsets, .ref t_row, .ref t_open, .int v_t_arrivals, .ref t_places, .ref t_times, .ref t_cars, .ref t_hourCrossings, .ref t_hourCycles, .ref t_hourOffsets])), (t_greens, .inl (K 0, 5, .inl v_t_greens)), (t_queues, .inl (K 0, 5, .inl v_t_queues)), (t_seconds, .inl (K 0, 10, .inl v_t_seconds)), (t_weights, .inl (K 0, 10, .inl v_t_weights)), (t_offsets, .inl (K 0, 5, .inl v_t_offsets)), (t_open, .inl (K 3, 600, .inl v_t_open))] sz)) 0 0 (va_A [(t, .inr (8, [.int v_t_crossings, .ref t_greens, .ref t_leasts, .ref t_queues, .ref t_seconds, .ref t_weights, .int v_t_first, .int v_t_last, .int v_t_by, .int v_t_step, .int v_t_has, .int v_t_cycle, .int v_t_aim, .int v_t_proved, .ref t_offsets, .ref t_row, .ref t_open, .int v_t_arrivals, .ref t_places, .ref t_times, .ref t_cars, .ref t_hourCrossings, .ref t_hourCycles, .ref t_hourOffsets])), (t_greens, .inl (K 0, 5, .inl v_t_greens)), (t_queues, .inl (K 0, 5, .inl v_t_queues)), (t_seconds, .inl (K 0, 10, .inl v_t_seconds)), (t_weights, .inl (K 0, 10, .inl v_t_weights)), (t_offsets, .inl (K 0, 5, .inl v_t_offsets)), (t_open, .inl (K 3, 600, .inl v_t_open))] sz) := by
  refine Met.ofW (cc := b_Mo_stops) (maxL := 2) (ret := (some .long)) (by decide) rfl ?_
  intro p e s m args below meth c s₁ B hml hv
  obtain ⟨rfl, hsz, hP, hK, hN, hD0⟩ := hv
  have hx := B.exec
  have hb := B.bytes
  have hr := B.returns
  have hts : ∀ w ∈ lw_good, w.before _ s = true := fun w h => atoms_spec (ws := wd y_Mo_stops b_Mo_stops 2 (some .long)) B.pre w (List.mem_cons_of_mem _ h)
  have hown : s.vm.findClass R_Mo = some m.cls := findClass_of_methodNamed B.named
  have hlocks := B.notSynchronized
  have hfix : CallFix p m c b_Mo_stops 2 s _ lw_good R_Mo := ⟨hx, hb, hml, hown, hts⟩
  subst hsz
  have hD := hD0.self (sz := s.heap.size)
  generalize hAe : va_A [(t, .inr (8, [.int v_t_crossings, .ref t_greens, .ref t_leasts, .ref t_queues, .ref t_seconds, .ref t_weights, .int v_t_first, .int v_t_last, .int v_t_by, .int v_t_step, .int v_t_has, .int v_t_cycle, .int v_t_aim, .int v_t_proved, .ref t_offsets, .ref t_row, .ref t_open, .int v_t_arrivals, .ref t_places, .ref t_times, .ref t_cars, .ref t_hourCrossings, .ref t_hourCycles, .ref t_hourOffsets])), (t_greens, .inl (K 0, 5, .inl v_t_greens)), (t_queues, .inl (K 0, 5, .inl v_t_queues)), (t_seconds, .inl (K 0, 10, .inl v_t_seconds)), (t_weights, .inl (K 0, 10, .inl v_t_weights)), (t_offsets, .inl (K 0, 5, .inl v_t_offsets)), (t_open, .inl (K 3, 600, .inl v_t_open))] s.heap.size = A at hD ⊢
  have hA : ∀ q : Nat, s.heap.size ≤ q → A q := fun q h => by rw [← hAe]; exact Or.inr h
  have hS : va_S A s.heap s.heap [] := va_S.rf
  have hl := lv_entry ([.ref t, .int x1]) (n := 2) (Nat.le_of_ble_eq_true rfl)
  rw [lg_entry_eq]
  generalize (lg_sl ([.ref t, .int x1]) ++ List.replicate (2 - (lg_sl ([.ref t, .int x1])).length) Slot.unset).toArray = ls at hl ⊢
  have hl : lv_has ls 2 [(0, .ref t), (1, .int x1)] := hl
  change W p l e m_Mo_stops s m _ below meth c s.heap [] 0 0 _ _
  unfold p_Mo_stops at hF
  refine lv_aload_n hx hb d_Mo_stops_0 rfl (lv_at hl 0 rfl) ?_
  refine va_get (D := G) (ci := 8) (v := .int v_t_has) (C := R_Mo) (T := F_Mo) (N := 24) hx hb hts i_Mo hown hK hP 0 rfl rfl 10 (by decide) (hts _ lk_427) (fun _ h9 => h9) rfl d_Mo_stops_1 ?_
  refine lv_if_eq (tgt := 17) hx hb d_Mo_stops_4 (by decide) (fun c4_1 => ?_) (fun c4_1 => ?_)
  · have hF := dk_t c4_1 hF
    refine lv_ldc2 (own := R_Mo) (index := 145) (v := ((-1) : Int64)) hx hb hown (hts _ lk_488) d_Mo_stops_17 ?_
    obtain rfl := Option.some.inj hF
    exact W.lret (v := ((-1) : Int64)) hx hb hr (fun t ht hW => ⟨⟨(), rfl, by rw [ht]; exact hP, hD⟩, hS.F ht⟩) hS.2.2 d_Mo_stops_20
  · have hF := dk_f c4_1 hF
    refine lv_iload_n hx hb d_Mo_stops_7 rfl (lv_at hl 1 rfl) ?_
    refine lv_i2l hx hb d_Mo_stops_8 rfl ?_
    refine lv_lconst (v := (0 : Int64)) hx hb d_Mo_stops_9 (by decide) ?_
    refine lv_lconst (v := (1 : Int64)) hx hb d_Mo_stops_10 (by decide) ?_
    obtain ⟨r11_2, hC, hF⟩ := dk_b hF
    refine dk_pure (va_runS (As := [.long x1.toInt64, .long (0 : Int64), .long (1 : Int64)]) (rest := []) hfix (c_Mo_isIn l G K n x1.toInt64 (0 : Int64) (1 : Int64) r11_2 hC) (va_cwS 3 hts (gd_S lk_416 lk_418 lk_419 lk_417) rfl rfl rfl (by decide +kernel) ⟨Nat.le_of_ble_eq_true rfl, Nat.le_of_ble_eq_true rfl⟩) (dk_preS hK hN (hP.sub [] rfl)) rfl rfl hl.1 rfl (lv_room (Nat.le_of_ble_eq_true rfl)) d_Mo_stops_11 ⟨Nat.le_of_ble_eq_true rfl, Nat.le_of_ble_eq_true rfl⟩) ?_
    refine lv_if_ne (tgt := 21) hx hb d_Mo_stops_14 (by decide) (fun c14_3 => ?_) (fun c14_3 => ?_)
    · have hF := dk_f c14_3 hF
      refine lv_aload_n hx hb d_Mo_stops_21 rfl (lv_at hl 0 rfl) ?_
      obtain ⟨r22_4, hC, hF⟩ := dk_b hF
      refine dk_mutv (wr := [(t_seconds, .inl (K 0, 10, .inl v_t_seconds)), (t_weights, .inl (K 0, 10, .inl v_t_weights))]) (va_runV (As := []) (rest := []) hfix (c_Mo_layPlan l G K n s.heap.size t t_greens t_leasts t_queues t_seconds t_weights t_offsets t_row t_open t_places t_times t_cars t_hourCrossings t_hourCycles t_hourOffsets v_t_crossings v_t_first v_t_last v_t_by v_t_step v_t_has v_t_cycle v_t_aim v_t_proved v_t_arrivals v_t_greens v_t_queues v_t_offsets v_t_open r22_4 hC) (cwV 0 hts (gd_V lk_493 lk_495 lk_496 lk_419 lk_494) rfl rfl rfl (by decide +kernel) ⟨Nat.le_of_ble_eq_true rfl, Nat.le_of_ble_eq_true rfl⟩) (dk_preVm hK hN (hP.sub [0, 1, 2, 5, 6] rfl) (hD.sub [0, 1, 2, 5, 6] (by decide) rfl) (va_recv hK hP (ci := 8) (q0 := 0) rfl rfl)) rfl rfl hl.1 rfl (lv_room (Nat.le_of_ble_eq_true rfl)) d_Mo_stops_22 ⟨Nat.le_of_ble_eq_true rfl, Nat.le_of_ble_eq_true rfl⟩) hS hA hP hD [0, 1, 2, 5, 6] [3, 4] rfl rfl (by decide) (by decide) (fun _ H locs hP hD hS => ?_)
      have hP : va_P G classes [(t, .inr (8, [.int v_t_crossings, .ref t_greens, .ref t_leasts, .ref t_queues, .ref t_seconds, .ref t_weights, .int v_t_first, .int v_t_last, .int v_t_by, .int v_t_step, .int v_t_has, .int v_t_cycle, .int v_t_aim, .int v_t_proved, .ref t_offsets, .ref t_row, .ref t_open, .int v_t_arrivals, .ref t_places, .ref t_times, .ref t_cars, .ref t_hourCrossings, .ref t_hourCycles, .ref t_hourOffsets])), (t_greens, .inl (K 0, 5, .inl v_t_greens)), (t_queues, .inl (K 0, 5, .inl v_t_queues)), (t_seconds, .inl (K 0, 10, .inl v_t_seconds)), (t_weights, .inl (K 0, 10, .inl v_t_weights)), (t_offsets, .inl (K 0, 5, .inl v_t_offsets)), (t_open, .inl (K 3, 600, .inl r22_4))] H := hP.sub [2, 3, 4, 0, 1, 5, 6] rfl
      have hD : va_D A [(t, .inr (8, [.int v_t_crossings, .ref t_greens, .ref t_leasts, .ref t_queues, .ref t_seconds, .ref t_weights, .int v_t_first, .int v_t_last, .int v_t_by, .int v_t_step, .int v_t_has, .int v_t_cycle, .int v_t_aim, .int v_t_proved, .ref t_offsets, .ref t_row, .ref t_open, .int v_t_arrivals, .ref t_places, .ref t_times, .ref t_cars, .ref t_hourCrossings, .ref t_hourCycles, .ref t_hourOffsets])), (t_greens, .inl (K 0, 5, .inl v_t_greens)), (t_queues, .inl (K 0, 5, .inl v_t_queues)), (t_seconds, .inl (K 0, 10, .inl v_t_seconds)), (t_weights, .inl (K 0, 10, .inl v_t_weights)), (t_offsets, .inl (K 0, 5, .inl v_t_offsets)), (t_open, .inl (K 3, 600, .inl r22_4))] := hD.sub [2, 3, 4, 0, 1, 5, 6] (by decide) rfl
      refine lv_aload_n hx hb d_Mo_stops_25 rfl (lv_at hl 0 rfl) ?_
      refine lv_aload_n hx hb d_Mo_stops_26 rfl (lv_at hl 0 rfl) ?_
      refine va_get (D := G) (ci := 8) (v := .int v_t_cycle) (C := R_Mo) (T := F_Mo) (N := 24) hx hb hts i_Mo hown hK hP 0 rfl rfl 11 (by decide) (hts _ lk_444) (fun _ h9 => h9) rfl d_Mo_stops_27 ?_
      obtain ⟨r30_5, hC, hF⟩ := dk_b hF
      refine dk_pure (va_runV (As := [.int v_t_cycle]) (rest := []) hfix (c_Mo_stopsOf l G K n t t_greens t_leasts t_queues t_seconds t_weights t_offsets t_row t_open t_places t_times t_cars t_hourCrossings t_hourCycles t_hourOffsets v_t_cycle v_t_crossings v_t_first v_t_last v_t_by v_t_step v_t_has v_t_cycle v_t_aim v_t_proved v_t_arrivals v_t_seconds v_t_weights r22_4 r30_5 hC) (cwV 1 hts (gd_V lk_458 lk_460 lk_461 lk_419 lk_459) rfl rfl rfl (by decide +kernel) ⟨Nat.le_of_ble_eq_true rfl, Nat.le_of_ble_eq_true rfl⟩) (dk_preV hK hN (hP.sub [0, 3, 4, 6] rfl) (va_recv hK hP (ci := 8) (q0 := 0) rfl rfl)) rfl rfl hl.1 rfl (lv_room (Nat.le_of_ble_eq_true rfl)) d_Mo_stops_30 ⟨Nat.le_of_ble_eq_true rfl, Nat.le_of_ble_eq_true rfl⟩) ?_
      refine lv_i2l hx hb d_Mo_stops_33 rfl ?_
      refine lv_aload_n hx hb d_Mo_stops_34 rfl (lv_at hl 0 rfl) ?_
      refine va_get (D := G) (ci := 8) (v := .int v_t_cycle) (C := R_Mo) (T := F_Mo) (N := 24) hx hb hts i_Mo hown hK hP 0 rfl rfl 11 (by decide) (hts _ lk_444) (fun _ h9 => h9) rfl d_Mo_stops_35 ?_
      refine lv_i2l hx hb d_Mo_stops_38 rfl ?_
      refine lv_iload_n hx hb d_Mo_stops_39 rfl (lv_at hl 1 rfl) ?_
      obtain ⟨r40_6, hC, hF⟩ := dk_b hF
      refine dk_pure (va_runS (As := [.long r30_5.toInt64, .long v_t_cycle.toInt64, .int x1]) (rest := []) hfix (c_Mo_share l G K n r30_5.toInt64 v_t_cycle.toInt64 x1 r40_6 hC) (va_cwS 3 hts (gd_S lk_489 lk_491 lk_419 lk_490) rfl rfl rfl (by decide +kernel) ⟨Nat.le_of_ble_eq_true rfl, Nat.le_of_ble_eq_true rfl⟩) (dk_preS hK hN (hP.sub [] rfl)) rfl rfl hl.1 rfl (lv_room (Nat.le_of_ble_eq_true rfl)) d_Mo_stops_40 ⟨Nat.le_of_ble_eq_true rfl, Nat.le_of_ble_eq_true rfl⟩) ?_
      obtain rfl := Option.some.inj hF
      exact W.lret (v := r40_6) hx hb hr (fun t ht hW => ⟨⟨(), rfl, by rw [ht]; exact hP, hD⟩, hS.F ht⟩) hS.2.2 d_Mo_stops_43
    · have hF := dk_t c14_3 hF
      refine lv_ldc2 (own := R_Mo) (index := 145) (v := ((-1) : Int64)) hx hb hown (hts _ lk_488) d_Mo_stops_17 ?_
      obtain rfl := Option.some.inj hF
      exact W.lret (v := ((-1) : Int64)) hx hb hr (fun t ht hW => ⟨⟨(), rfl, by rw [ht]; exact hP, hD⟩, hS.F ht⟩) hS.2.2 d_Mo_stops_20
def p_Mo_arrive (n : Nat) (x1 : Int32) (x2 : Int32) (x3 : Int32) (x4 : Int32) (v_t_crossings : Int32) (v_t_arrivals : Int32) (v_t_places : Nat → Int32) (v_t_times : Nat → Int32) (v_t_cars : Nat → Int32) : Option (Int32 × Int32 × (Nat → Int32) × (Nat → Int32) × (Nat → Int32)) :=
  (p_Mo_isIn n x2.toInt64 (0 : Int64) (1 : Int64)).bind fun r4_1 =>
  if r4_1 = 0 then
    some ((0 : Int32), v_t_arrivals, v_t_places, v_t_times, v_t_cars)
  else
    (p_Mo_isCrossing n x1 v_t_crossings).bind fun r12_4 =>
    if r12_4 = 0 then
      some ((0 : Int32), v_t_arrivals, v_t_places, v_t_times, v_t_cars)
    else
      if x2 = 0 then
        (p_Mo_isCrossing n (x1 + (1 : Int32)) v_t_crossings).bind fun r32_21 =>
        if r32_21 = 0 then
          some ((0 : Int32), v_t_arrivals, v_t_places, v_t_times, v_t_cars)
        else
          (p_Mo_isIn n x3.toInt64 (0 : Int64) (10000 : Int64)).bind fun r44_24 =>
          if r44_24 = 0 then
            some ((0 : Int32), v_t_arrivals, v_t_places, v_t_times, v_t_cars)
          else
            (p_Mo_isIn n x4.toInt64 (1 : Int64) (1000 : Int64)).bind fun r57_27 =>
            if r57_27 = 0 then
              some ((0 : Int32), v_t_arrivals, v_t_places, v_t_times, v_t_cars)
            else
              if (40 : Int32) ≤ v_t_arrivals then
                some ((0 : Int32), v_t_arrivals, v_t_places, v_t_times, v_t_cars)
              else
                if x2 = 0 then
                  if dk_in v_t_arrivals 40 = true then
                    if dk_in v_t_arrivals 40 = true then
                      if dk_in v_t_arrivals 40 = true then
                        some ((1 : Int32), v_t_arrivals + (1 : Int32), upd v_t_places v_t_arrivals.toNatClampNeg (x1 + (1 : Int32)), upd v_t_times v_t_arrivals.toNatClampNeg x3, upd v_t_cars v_t_arrivals.toNatClampNeg x4)
                      else none
                    else none
                  else none
                else
                  if dk_in v_t_arrivals 40 = true then
                    if dk_in v_t_arrivals 40 = true then
                      if dk_in v_t_arrivals 40 = true then
                        some ((1 : Int32), v_t_arrivals + (1 : Int32), upd v_t_places v_t_arrivals.toNatClampNeg (x1 - (1 : Int32)), upd v_t_times v_t_arrivals.toNatClampNeg x3, upd v_t_cars v_t_arrivals.toNatClampNeg x4)
                      else none
                    else none
                  else none
      else
        (p_Mo_isCrossing n (x1 - (1 : Int32)) v_t_crossings).bind fun r32_8 =>
        if r32_8 = 0 then
          some ((0 : Int32), v_t_arrivals, v_t_places, v_t_times, v_t_cars)
        else
          (p_Mo_isIn n x3.toInt64 (0 : Int64) (10000 : Int64)).bind fun r44_11 =>
          if r44_11 = 0 then
            some ((0 : Int32), v_t_arrivals, v_t_places, v_t_times, v_t_cars)
          else
            (p_Mo_isIn n x4.toInt64 (1 : Int64) (1000 : Int64)).bind fun r57_14 =>
            if r57_14 = 0 then
              some ((0 : Int32), v_t_arrivals, v_t_places, v_t_times, v_t_cars)
            else
              if (40 : Int32) ≤ v_t_arrivals then
                some ((0 : Int32), v_t_arrivals, v_t_places, v_t_times, v_t_cars)
              else
                if x2 = 0 then
                  if dk_in v_t_arrivals 40 = true then
                    if dk_in v_t_arrivals 40 = true then
                      if dk_in v_t_arrivals 40 = true then
                        some ((1 : Int32), v_t_arrivals + (1 : Int32), upd v_t_places v_t_arrivals.toNatClampNeg (x1 + (1 : Int32)), upd v_t_times v_t_arrivals.toNatClampNeg x3, upd v_t_cars v_t_arrivals.toNatClampNeg x4)
                      else none
                    else none
                  else none
                else
                  if dk_in v_t_arrivals 40 = true then
                    if dk_in v_t_arrivals 40 = true then
                      if dk_in v_t_arrivals 40 = true then
                        some ((1 : Int32), v_t_arrivals + (1 : Int32), upd v_t_places v_t_arrivals.toNatClampNeg (x1 - (1 : Int32)), upd v_t_times v_t_arrivals.toNatClampNeg x3, upd v_t_cars v_t_arrivals.toNatClampNeg x4)
                      else none
                    else none
                  else none
abbrev m_Mo_arrive : Room := { frames := 2, cells := 0, slots := 0, locals := 46 }
set_option maxHeartbeats 4000000 in
set_option maxRecDepth 100000 in
theorem c_Mo_arrive (l : Launch) (G : va_G) (K : Nat → ClassId) (n : Nat) (sz : Nat) (t : Nat) (t_greens : Nat) (t_leasts : Nat) (t_queues : Nat) (t_seconds : Nat) (t_weights : Nat) (t_offsets : Nat) (t_row : Nat) (t_open : Nat) (t_places : Nat) (t_times : Nat) (t_cars : Nat) (t_hourCrossings : Nat) (t_hourCycles : Nat) (t_hourOffsets : Nat) (x1 : Int32) (x2 : Int32) (x3 : Int32) (x4 : Int32) (v_t_crossings : Int32) (v_t_first : Int32) (v_t_last : Int32) (v_t_by : Int32) (v_t_step : Int32) (v_t_has : Int32) (v_t_cycle : Int32) (v_t_aim : Int32) (v_t_proved : Int32) (v_t_arrivals : Int32) (v_t_places : Nat → Int32) (v_t_times : Nat → Int32) (v_t_cars : Nat → Int32) (o : Int32 × Int32 × (Nat → Int32) × (Nat → Int32) × (Nat → Int32)) (hF : p_Mo_arrive n x1 x2 x3 x4 v_t_crossings v_t_arrivals v_t_places v_t_times v_t_cars = some o) :
    Met l y_Mo_arrive (wd y_Mo_arrive b_Mo_arrive 6 (some .boolean)) m_Mo_arrive (dk_Pm [.ref t, .int x1, .int x2, .int x3, .int x4] G K [(t, .inr (8, [.int v_t_crossings, .ref t_greens, .ref t_leasts, .ref t_queues, .ref t_seconds, .ref t_weights, .int v_t_first, .int v_t_last, .int v_t_by, .int v_t_step, .int v_t_has, .int v_t_cycle, .int v_t_aim, .int v_t_proved, .ref t_offsets, .ref t_row, .ref t_open, .int v_t_arrivals, .ref t_places, .ref t_times, .ref t_cars, .ref t_hourCrossings, .ref t_hourCycles, .ref t_hourOffsets])), (t_places, .inl (K 0, 40, .inl v_t_places)), (t_times, .inl (K 0, 40, .inl v_t_times)), (t_cars, .inl (K 0, 40, .inl v_t_cars))] sz) (dk_Qm (some (.int o.1)) G (fun _ : Unit => [(t, .inr (8, [.int v_t_crossings, .ref t_greens, .ref t_leasts, .ref t_queues, .ref t_seconds, .ref t_weights, .int v_t_first, .int v_t_last, .int v_t_by, .int v_t_step, .int v_t_has, .int v_t_cycle, .int v_t_aim, .int v_t_proved, .ref t_offsets, .ref t_row, .ref t_open, .int o.2.1, .ref t_places, .ref t_times, .ref t_cars, .ref t_hourCrossings, .ref t_hourCycles, .ref t_hourOffsets])), (t_places, .inl (K 0, 40, .inl o.2.2.1)), (t_times, .inl (K 0, 40, .inl o.2.2.2.1)), (t_cars, .inl (K 0, 40, .inl o.2.2.2.2))]) (va_A [(t, .inr (8, [.int v_t_crossings, .ref t_greens, .ref t_leasts, .ref t_queues, .ref t_seconds, .ref t_weights, .int v_t_first, .int v_t_last, .int v_t_by, .int v_t_step, .int v_t_has, .int v_t_cycle, .int v_t_aim, .int v_t_proved, .ref t_offsets, .ref t_row, .ref t_open, .int v_t_arrivals, .ref t_places, .ref t_times, .ref t_cars, .ref t_hourCrossings, .ref t_hourCycles, .ref t_hourOffsets])), (t_places, .inl (K 0, 40, .inl v_t_places)), (t_times, .inl (K 0, 40, .inl v_t_times)), (t_cars, .inl (K 0, 40, .inl v_t_cars))] sz)) 0 0 (va_A [(t, .inr (8, [.int v_t_crossings, .ref t_greens, .ref t_leasts, .ref t_queues, .ref t_seconds, .ref t_weights, .int v_t_first, .int v_t_last, .int v_t_by, .int v_t_step, .int v_t_has, .int v_t_cycle, .int v_t_aim, .int v_t_proved, .ref t_offsets, .ref t_row, .ref t_open, .int v_t_arrivals, .ref t_places, .ref t_times, .ref t_cars, .ref t_hourCrossings, .ref t_hourCycles, .ref t_hourOffsets])), (t_places, .inl (K 0, 40, .inl v_t_places)), (t_times, .inl (K 0, 40, .inl v_t_times)), (t_cars, .inl (K 0, 40, .inl v_t_cars))] sz) := by
  refine Met.ofW (cc := b_Mo_arrive) (maxL := 6) (ret := (some .boolean)) (by decide) rfl ?_
  intro p e s m args below meth c s₁ B hml hv
  obtain ⟨rfl, hsz, hP, hK, hN, hD0⟩ := hv
  have hx := B.exec
  have hb := B.bytes
  have hr := B.returns
  have hts : ∀ w ∈ lw_good, w.before _ s = true := fun w h => atoms_spec (ws := wd y_Mo_arrive b_Mo_arrive 6 (some .boolean)) B.pre w (List.mem_cons_of_mem _ h)
  have hown : s.vm.findClass R_Mo = some m.cls := findClass_of_methodNamed B.named
  have hlocks := B.notSynchronized
  have hfix : CallFix p m c b_Mo_arrive 6 s _ lw_good R_Mo := ⟨hx, hb, hml, hown, hts⟩
  subst hsz
  have hD := hD0.self (sz := s.heap.size)
  generalize hAe : va_A [(t, .inr (8, [.int v_t_crossings, .ref t_greens, .ref t_leasts, .ref t_queues, .ref t_seconds, .ref t_weights, .int v_t_first, .int v_t_last, .int v_t_by, .int v_t_step, .int v_t_has, .int v_t_cycle, .int v_t_aim, .int v_t_proved, .ref t_offsets, .ref t_row, .ref t_open, .int v_t_arrivals, .ref t_places, .ref t_times, .ref t_cars, .ref t_hourCrossings, .ref t_hourCycles, .ref t_hourOffsets])), (t_places, .inl (K 0, 40, .inl v_t_places)), (t_times, .inl (K 0, 40, .inl v_t_times)), (t_cars, .inl (K 0, 40, .inl v_t_cars))] s.heap.size = A at hD ⊢
  have hA : ∀ q : Nat, s.heap.size ≤ q → A q := fun q h => by rw [← hAe]; exact Or.inr h
  have hS : va_S A s.heap s.heap [] := va_S.rf
  have hl := lv_entry ([.ref t, .int x1, .int x2, .int x3, .int x4]) (n := 6) (Nat.le_of_ble_eq_true rfl)
  rw [lg_entry_eq]
  generalize (lg_sl ([.ref t, .int x1, .int x2, .int x3, .int x4]) ++ List.replicate (6 - (lg_sl ([.ref t, .int x1, .int x2, .int x3, .int x4])).length) Slot.unset).toArray = ls at hl ⊢
  have hl : lv_has ls 6 [(0, .ref t), (1, .int x1), (2, .int x2), (3, .int x3), (4, .int x4)] := hl
  change W p l e m_Mo_arrive s m _ below meth c s.heap [] 0 0 _ _
  unfold p_Mo_arrive at hF
  refine lv_iload_n hx hb d_Mo_arrive_0 rfl (lv_at hl 2 rfl) ?_
  refine lv_i2l hx hb d_Mo_arrive_1 rfl ?_
  refine lv_lconst (v := (0 : Int64)) hx hb d_Mo_arrive_2 (by decide) ?_
  refine lv_lconst (v := (1 : Int64)) hx hb d_Mo_arrive_3 (by decide) ?_
  obtain ⟨r4_1, hC, hF⟩ := dk_b hF
  refine dk_pure (va_runS (As := [.long x2.toInt64, .long (0 : Int64), .long (1 : Int64)]) (rest := []) hfix (c_Mo_isIn l G K n x2.toInt64 (0 : Int64) (1 : Int64) r4_1 hC) (va_cwS 3 hts (gd_S lk_416 lk_418 lk_419 lk_417) rfl rfl rfl (by decide +kernel) ⟨Nat.le_of_ble_eq_true rfl, Nat.le_of_ble_eq_true rfl⟩) (dk_preS hK hN (hP.sub [] rfl)) rfl rfl hl.1 rfl (lv_room (Nat.le_of_ble_eq_true rfl)) d_Mo_arrive_4 ⟨Nat.le_of_ble_eq_true rfl, Nat.le_of_ble_eq_true rfl⟩) ?_
  refine lv_if_eq (tgt := 76) hx hb d_Mo_arrive_7 (by decide) (fun c7_2 => ?_) (fun c7_2 => ?_)
  · have hF := dk_t c7_2 hF
    refine lv_iconst (v := (0 : Int32)) hx hb d_Mo_arrive_76 (by decide) ?_
    refine lv_istore (lv' := [(5, .int (0 : Int32)), (0, .ref t), (1, .int x1), (2, .int x2), (3, .int x3), (4, .int x4)]) hx hb d_Mo_arrive_77 hl (by decide) rfl (fun ls hl => ?_)
    refine lv_iload hx hb d_Mo_arrive_79 (lv_at hl 0 rfl) ?_
    refine lv_if_eq (tgt := 137) hx hb d_Mo_arrive_81 (by decide) (fun _ => ?_) (fun h => absurd h (by decide))
    refine lv_iload hx hb d_Mo_arrive_137 (lv_at hl 0 rfl) ?_
    obtain rfl := Option.some.inj hF
    exact W.zret (v := (0 : Int32)) hx hb hr rfl (fun t ht hW => ⟨⟨(), rfl, by rw [ht]; exact hP, hD⟩, hS.F ht⟩) hS.2.2 d_Mo_arrive_139
  · have hF := dk_f c7_2 hF
    refine lv_aload_n hx hb d_Mo_arrive_10 rfl (lv_at hl 0 rfl) ?_
    refine lv_iload_n hx hb d_Mo_arrive_11 rfl (lv_at hl 1 rfl) ?_
    obtain ⟨r12_4, hC, hF⟩ := dk_b hF
    refine dk_pure (va_runV (As := [.int x1]) (rest := []) hfix (c_Mo_isCrossing l G K n t t_greens t_leasts t_queues t_seconds t_weights t_offsets t_row t_open t_places t_times t_cars t_hourCrossings t_hourCycles t_hourOffsets x1 v_t_crossings v_t_first v_t_last v_t_by v_t_step v_t_has v_t_cycle v_t_aim v_t_proved v_t_arrivals r12_4 hC) (cwV 1 hts (gd_V lk_430 lk_432 lk_433 lk_419 lk_431) rfl rfl rfl (by decide +kernel) ⟨Nat.le_of_ble_eq_true rfl, Nat.le_of_ble_eq_true rfl⟩) (dk_preV hK hN (hP.sub [0] rfl) (va_recv hK hP (ci := 8) (q0 := 0) rfl rfl)) rfl rfl hl.1 rfl (lv_room (Nat.le_of_ble_eq_true rfl)) d_Mo_arrive_12 ⟨Nat.le_of_ble_eq_true rfl, Nat.le_of_ble_eq_true rfl⟩) ?_
    refine lv_if_eq (tgt := 76) hx hb d_Mo_arrive_15 (by decide) (fun c15_5 => ?_) (fun c15_5 => ?_)
    · have hF := dk_t c15_5 hF
      refine lv_iconst (v := (0 : Int32)) hx hb d_Mo_arrive_76 (by decide) ?_
      refine lv_istore (lv' := [(5, .int (0 : Int32)), (0, .ref t), (1, .int x1), (2, .int x2), (3, .int x3), (4, .int x4)]) hx hb d_Mo_arrive_77 hl (by decide) rfl (fun ls hl => ?_)
      refine lv_iload hx hb d_Mo_arrive_79 (lv_at hl 0 rfl) ?_
      refine lv_if_eq (tgt := 137) hx hb d_Mo_arrive_81 (by decide) (fun _ => ?_) (fun h => absurd h (by decide))
      refine lv_iload hx hb d_Mo_arrive_137 (lv_at hl 0 rfl) ?_
      obtain rfl := Option.some.inj hF
      exact W.zret (v := (0 : Int32)) hx hb hr rfl (fun t ht hW => ⟨⟨(), rfl, by rw [ht]; exact hP, hD⟩, hS.F ht⟩) hS.2.2 d_Mo_arrive_139
    · have hF := dk_f c15_5 hF
      refine lv_aload_n hx hb d_Mo_arrive_18 rfl (lv_at hl 0 rfl) ?_
      refine lv_iload_n hx hb d_Mo_arrive_19 rfl (lv_at hl 2 rfl) ?_
      refine lv_if_ne (tgt := 29) hx hb d_Mo_arrive_20 (by decide) (fun c20_7 => ?_) (fun c20_7 => ?_)
      · have hF := dk_f c20_7 hF
        refine lv_iload_n hx hb d_Mo_arrive_29 rfl (lv_at hl 1 rfl) ?_
        refine lv_iconst (v := (1 : Int32)) hx hb d_Mo_arrive_30 (by decide) ?_
        refine lv_isub hx hb d_Mo_arrive_31 ?_
        obtain ⟨r32_8, hC, hF⟩ := dk_b hF
        refine dk_pure (va_runV (As := [.int (x1 - (1 : Int32))]) (rest := []) hfix (c_Mo_isCrossing l G K n t t_greens t_leasts t_queues t_seconds t_weights t_offsets t_row t_open t_places t_times t_cars t_hourCrossings t_hourCycles t_hourOffsets (x1 - (1 : Int32)) v_t_crossings v_t_first v_t_last v_t_by v_t_step v_t_has v_t_cycle v_t_aim v_t_proved v_t_arrivals r32_8 hC) (cwV 1 hts (gd_V lk_430 lk_432 lk_433 lk_419 lk_431) rfl rfl rfl (by decide +kernel) ⟨Nat.le_of_ble_eq_true rfl, Nat.le_of_ble_eq_true rfl⟩) (dk_preV hK hN (hP.sub [0] rfl) (va_recv hK hP (ci := 8) (q0 := 0) rfl rfl)) rfl rfl hl.1 rfl (lv_room (Nat.le_of_ble_eq_true rfl)) d_Mo_arrive_32 ⟨Nat.le_of_ble_eq_true rfl, Nat.le_of_ble_eq_true rfl⟩) ?_
        refine lv_if_eq (tgt := 76) hx hb d_Mo_arrive_35 (by decide) (fun c35_9 => ?_) (fun c35_9 => ?_)
        · have hF := dk_t c35_9 hF
          refine lv_iconst (v := (0 : Int32)) hx hb d_Mo_arrive_76 (by decide) ?_
          refine lv_istore (lv' := [(5, .int (0 : Int32)), (0, .ref t), (1, .int x1), (2, .int x2), (3, .int x3), (4, .int x4)]) hx hb d_Mo_arrive_77 hl (by decide) rfl (fun ls hl => ?_)
          refine lv_iload hx hb d_Mo_arrive_79 (lv_at hl 0 rfl) ?_
          refine lv_if_eq (tgt := 137) hx hb d_Mo_arrive_81 (by decide) (fun _ => ?_) (fun h => absurd h (by decide))
          refine lv_iload hx hb d_Mo_arrive_137 (lv_at hl 0 rfl) ?_
          obtain rfl := Option.some.inj hF
          exact W.zret (v := (0 : Int32)) hx hb hr rfl (fun t ht hW => ⟨⟨(), rfl, by rw [ht]; exact hP, hD⟩, hS.F ht⟩) hS.2.2 d_Mo_arrive_139
        · have hF := dk_f c35_9 hF
          refine lv_iload_n hx hb d_Mo_arrive_38 rfl (lv_at hl 3 rfl) ?_
          refine lv_i2l hx hb d_Mo_arrive_39 rfl ?_
          refine lv_lconst (v := (0 : Int64)) hx hb d_Mo_arrive_40 (by decide) ?_
          refine lv_ldc2 (own := R_Mo) (index := 156) (v := (10000 : Int64)) hx hb hown (hts _ lk_497) d_Mo_arrive_41 ?_
          obtain ⟨r44_11, hC, hF⟩ := dk_b hF
          refine dk_pure (va_runS (As := [.long x3.toInt64, .long (0 : Int64), .long (10000 : Int64)]) (rest := []) hfix (c_Mo_isIn l G K n x3.toInt64 (0 : Int64) (10000 : Int64) r44_11 hC) (va_cwS 3 hts (gd_S lk_416 lk_418 lk_419 lk_417) rfl rfl rfl (by decide +kernel) ⟨Nat.le_of_ble_eq_true rfl, Nat.le_of_ble_eq_true rfl⟩) (dk_preS hK hN (hP.sub [] rfl)) rfl rfl hl.1 rfl (lv_room (Nat.le_of_ble_eq_true rfl)) d_Mo_arrive_44 ⟨Nat.le_of_ble_eq_true rfl, Nat.le_of_ble_eq_true rfl⟩) ?_
          refine lv_if_eq (tgt := 76) hx hb d_Mo_arrive_47 (by decide) (fun c47_12 => ?_) (fun c47_12 => ?_)
          · have hF := dk_t c47_12 hF
            refine lv_iconst (v := (0 : Int32)) hx hb d_Mo_arrive_76 (by decide) ?_
            refine lv_istore (lv' := [(5, .int (0 : Int32)), (0, .ref t), (1, .int x1), (2, .int x2), (3, .int x3), (4, .int x4)]) hx hb d_Mo_arrive_77 hl (by decide) rfl (fun ls hl => ?_)
            refine lv_iload hx hb d_Mo_arrive_79 (lv_at hl 0 rfl) ?_
            refine lv_if_eq (tgt := 137) hx hb d_Mo_arrive_81 (by decide) (fun _ => ?_) (fun h => absurd h (by decide))
            refine lv_iload hx hb d_Mo_arrive_137 (lv_at hl 0 rfl) ?_
            obtain rfl := Option.some.inj hF
            exact W.zret (v := (0 : Int32)) hx hb hr rfl (fun t ht hW => ⟨⟨(), rfl, by rw [ht]; exact hP, hD⟩, hS.F ht⟩) hS.2.2 d_Mo_arrive_139
          · have hF := dk_f c47_12 hF
            refine lv_iload hx hb d_Mo_arrive_50 (lv_at hl 4 rfl) ?_
            refine lv_i2l hx hb d_Mo_arrive_52 rfl ?_
            refine lv_lconst (v := (1 : Int64)) hx hb d_Mo_arrive_53 (by decide) ?_
            refine lv_ldc2 (own := R_Mo) (index := 158) (v := (1000 : Int64)) hx hb hown (hts _ lk_498) d_Mo_arrive_54 ?_
            obtain ⟨r57_14, hC, hF⟩ := dk_b hF
            refine dk_pure (va_runS (As := [.long x4.toInt64, .long (1 : Int64), .long (1000 : Int64)]) (rest := []) hfix (c_Mo_isIn l G K n x4.toInt64 (1 : Int64) (1000 : Int64) r57_14 hC) (va_cwS 3 hts (gd_S lk_416 lk_418 lk_419 lk_417) rfl rfl rfl (by decide +kernel) ⟨Nat.le_of_ble_eq_true rfl, Nat.le_of_ble_eq_true rfl⟩) (dk_preS hK hN (hP.sub [] rfl)) rfl rfl hl.1 rfl (lv_room (Nat.le_of_ble_eq_true rfl)) d_Mo_arrive_57 ⟨Nat.le_of_ble_eq_true rfl, Nat.le_of_ble_eq_true rfl⟩) ?_
            refine lv_if_eq (tgt := 76) hx hb d_Mo_arrive_60 (by decide) (fun c60_15 => ?_) (fun c60_15 => ?_)
            · have hF := dk_t c60_15 hF
              refine lv_iconst (v := (0 : Int32)) hx hb d_Mo_arrive_76 (by decide) ?_
              refine lv_istore (lv' := [(5, .int (0 : Int32)), (0, .ref t), (1, .int x1), (2, .int x2), (3, .int x3), (4, .int x4)]) hx hb d_Mo_arrive_77 hl (by decide) rfl (fun ls hl => ?_)
              refine lv_iload hx hb d_Mo_arrive_79 (lv_at hl 0 rfl) ?_
              refine lv_if_eq (tgt := 137) hx hb d_Mo_arrive_81 (by decide) (fun _ => ?_) (fun h => absurd h (by decide))
              refine lv_iload hx hb d_Mo_arrive_137 (lv_at hl 0 rfl) ?_
              obtain rfl := Option.some.inj hF
              exact W.zret (v := (0 : Int32)) hx hb hr rfl (fun t ht hW => ⟨⟨(), rfl, by rw [ht]; exact hP, hD⟩, hS.F ht⟩) hS.2.2 d_Mo_arrive_139
            · have hF := dk_f c60_15 hF
              refine lv_aload_n hx hb d_Mo_arrive_63 rfl (lv_at hl 0 rfl) ?_
              refine va_get (D := G) (ci := 8) (v := .int v_t_arrivals) (C := R_Mo) (T := F_Mo) (N := 24) hx hb hts i_Mo hown hK hP 0 rfl rfl 17 (by decide) (hts _ lk_499) (fun _ h9 => h9) rfl d_Mo_arrive_64 ?_
              refine lv_bipush (v := (40 : Int32)) hx hb d_Mo_arrive_67 (by decide) ?_
              refine lv_icmp_ge (tgt := 76) hx hb d_Mo_arrive_69 (by decide) (fun c69_17 => ?_) (fun c69_17 => ?_)
              · have hF := dk_t c69_17 hF
                refine lv_iconst (v := (0 : Int32)) hx hb d_Mo_arrive_76 (by decide) ?_
                refine lv_istore (lv' := [(5, .int (0 : Int32)), (0, .ref t), (1, .int x1), (2, .int x2), (3, .int x3), (4, .int x4)]) hx hb d_Mo_arrive_77 hl (by decide) rfl (fun ls hl => ?_)
                refine lv_iload hx hb d_Mo_arrive_79 (lv_at hl 0 rfl) ?_
                refine lv_if_eq (tgt := 137) hx hb d_Mo_arrive_81 (by decide) (fun _ => ?_) (fun h => absurd h (by decide))
                refine lv_iload hx hb d_Mo_arrive_137 (lv_at hl 0 rfl) ?_
                obtain rfl := Option.some.inj hF
                exact W.zret (v := (0 : Int32)) hx hb hr rfl (fun t ht hW => ⟨⟨(), rfl, by rw [ht]; exact hP, hD⟩, hS.F ht⟩) hS.2.2 d_Mo_arrive_139
              · have hF := dk_f c69_17 hF
                refine lv_iconst (v := (1 : Int32)) hx hb d_Mo_arrive_72 (by decide) ?_
                refine lv_goto (tgt := 77) hx hb d_Mo_arrive_73 (by decide) ?_
                refine lv_istore (lv' := [(5, .int (1 : Int32)), (0, .ref t), (1, .int x1), (2, .int x2), (3, .int x3), (4, .int x4)]) hx hb d_Mo_arrive_77 hl (by decide) rfl (fun ls hl => ?_)
                refine lv_iload hx hb d_Mo_arrive_79 (lv_at hl 0 rfl) ?_
                refine lv_if_eq (tgt := 137) hx hb d_Mo_arrive_81 (by decide) (fun h => absurd h (by decide)) (fun _ => ?_)
                refine lv_aload_n hx hb d_Mo_arrive_84 rfl (lv_at hl 1 rfl) ?_
                refine va_get (D := G) (ci := 8) (v := .ref t_places) (C := R_Mo) (T := F_Mo) (N := 24) hx hb hts i_Mo hown hK hP 0 rfl rfl 18 (by decide) (hts _ lk_500) (fun _ h9 => h9) rfl d_Mo_arrive_85 ?_
                refine lv_aload_n hx hb d_Mo_arrive_88 rfl (lv_at hl 1 rfl) ?_
                refine va_get (D := G) (ci := 8) (v := .int v_t_arrivals) (C := R_Mo) (T := F_Mo) (N := 24) hx hb hts i_Mo hown hK hP 0 rfl rfl 17 (by decide) (hts _ lk_499) (fun _ h9 => h9) rfl d_Mo_arrive_89 ?_
                refine lv_iload_n hx hb d_Mo_arrive_92 rfl (lv_at hl 3 rfl) ?_
                refine lv_if_ne (tgt := 102) hx hb d_Mo_arrive_93 (by decide) (fun c93_20 => ?_) (fun c93_20 => ?_)
                · have hF := dk_f c93_20 hF
                  refine lv_iload_n hx hb d_Mo_arrive_102 rfl (lv_at hl 2 rfl) ?_
                  refine lv_iconst (v := (1 : Int32)) hx hb d_Mo_arrive_103 (by decide) ?_
                  refine lv_isub hx hb d_Mo_arrive_104 ?_
                  obtain ⟨hi, hF⟩ := dk_a hF
                  refine va_iast (D := G) hx hb hK hP hD hS 1 0 rfl rfl (dk_vp hi) d_Mo_arrive_105 (fun H locs hP hD hS => ?_)
                  have hP : va_P G classes [(t, .inr (8, [.int v_t_crossings, .ref t_greens, .ref t_leasts, .ref t_queues, .ref t_seconds, .ref t_weights, .int v_t_first, .int v_t_last, .int v_t_by, .int v_t_step, .int v_t_has, .int v_t_cycle, .int v_t_aim, .int v_t_proved, .ref t_offsets, .ref t_row, .ref t_open, .int v_t_arrivals, .ref t_places, .ref t_times, .ref t_cars, .ref t_hourCrossings, .ref t_hourCycles, .ref t_hourOffsets])), (t_places, .inl (K 0, 40, .inl (upd v_t_places v_t_arrivals.toNatClampNeg (x1 - (1 : Int32))))), (t_times, .inl (K 0, 40, .inl v_t_times)), (t_cars, .inl (K 0, 40, .inl v_t_cars))] H := hP
                  have hD : va_D A [(t, .inr (8, [.int v_t_crossings, .ref t_greens, .ref t_leasts, .ref t_queues, .ref t_seconds, .ref t_weights, .int v_t_first, .int v_t_last, .int v_t_by, .int v_t_step, .int v_t_has, .int v_t_cycle, .int v_t_aim, .int v_t_proved, .ref t_offsets, .ref t_row, .ref t_open, .int v_t_arrivals, .ref t_places, .ref t_times, .ref t_cars, .ref t_hourCrossings, .ref t_hourCycles, .ref t_hourOffsets])), (t_places, .inl (K 0, 40, .inl (upd v_t_places v_t_arrivals.toNatClampNeg (x1 - (1 : Int32))))), (t_times, .inl (K 0, 40, .inl v_t_times)), (t_cars, .inl (K 0, 40, .inl v_t_cars))] := hD
                  refine lv_aload_n hx hb d_Mo_arrive_106 rfl (lv_at hl 1 rfl) ?_
                  refine va_get (D := G) (ci := 8) (v := .ref t_times) (C := R_Mo) (T := F_Mo) (N := 24) hx hb hts i_Mo hown hK hP 0 rfl rfl 19 (by decide) (hts _ lk_501) (fun _ h9 => h9) rfl d_Mo_arrive_107 ?_
                  refine lv_aload_n hx hb d_Mo_arrive_110 rfl (lv_at hl 1 rfl) ?_
                  refine va_get (D := G) (ci := 8) (v := .int v_t_arrivals) (C := R_Mo) (T := F_Mo) (N := 24) hx hb hts i_Mo hown hK hP 0 rfl rfl 17 (by decide) (hts _ lk_499) (fun _ h9 => h9) rfl d_Mo_arrive_111 ?_
                  refine lv_iload_n hx hb d_Mo_arrive_114 rfl (lv_at hl 4 rfl) ?_
                  obtain ⟨hi, hF⟩ := dk_a hF
                  refine va_iast (D := G) hx hb hK hP hD hS 2 0 rfl rfl (dk_vp hi) d_Mo_arrive_115 (fun H locs hP hD hS => ?_)
                  have hP : va_P G classes [(t, .inr (8, [.int v_t_crossings, .ref t_greens, .ref t_leasts, .ref t_queues, .ref t_seconds, .ref t_weights, .int v_t_first, .int v_t_last, .int v_t_by, .int v_t_step, .int v_t_has, .int v_t_cycle, .int v_t_aim, .int v_t_proved, .ref t_offsets, .ref t_row, .ref t_open, .int v_t_arrivals, .ref t_places, .ref t_times, .ref t_cars, .ref t_hourCrossings, .ref t_hourCycles, .ref t_hourOffsets])), (t_places, .inl (K 0, 40, .inl (upd v_t_places v_t_arrivals.toNatClampNeg (x1 - (1 : Int32))))), (t_times, .inl (K 0, 40, .inl (upd v_t_times v_t_arrivals.toNatClampNeg x3))), (t_cars, .inl (K 0, 40, .inl v_t_cars))] H := hP
                  have hD : va_D A [(t, .inr (8, [.int v_t_crossings, .ref t_greens, .ref t_leasts, .ref t_queues, .ref t_seconds, .ref t_weights, .int v_t_first, .int v_t_last, .int v_t_by, .int v_t_step, .int v_t_has, .int v_t_cycle, .int v_t_aim, .int v_t_proved, .ref t_offsets, .ref t_row, .ref t_open, .int v_t_arrivals, .ref t_places, .ref t_times, .ref t_cars, .ref t_hourCrossings, .ref t_hourCycles, .ref t_hourOffsets])), (t_places, .inl (K 0, 40, .inl (upd v_t_places v_t_arrivals.toNatClampNeg (x1 - (1 : Int32))))), (t_times, .inl (K 0, 40, .inl (upd v_t_times v_t_arrivals.toNatClampNeg x3))), (t_cars, .inl (K 0, 40, .inl v_t_cars))] := hD
                  refine lv_aload_n hx hb d_Mo_arrive_116 rfl (lv_at hl 1 rfl) ?_
                  refine va_get (D := G) (ci := 8) (v := .ref t_cars) (C := R_Mo) (T := F_Mo) (N := 24) hx hb hts i_Mo hown hK hP 0 rfl rfl 20 (by decide) (hts _ lk_502) (fun _ h9 => h9) rfl d_Mo_arrive_117 ?_
                  refine lv_aload_n hx hb d_Mo_arrive_120 rfl (lv_at hl 1 rfl) ?_
                  refine va_get (D := G) (ci := 8) (v := .int v_t_arrivals) (C := R_Mo) (T := F_Mo) (N := 24) hx hb hts i_Mo hown hK hP 0 rfl rfl 17 (by decide) (hts _ lk_499) (fun _ h9 => h9) rfl d_Mo_arrive_121 ?_
                  refine lv_iload hx hb d_Mo_arrive_124 (lv_at hl 5 rfl) ?_
                  obtain ⟨hi, hF⟩ := dk_a hF
                  refine va_iast (D := G) hx hb hK hP hD hS 3 0 rfl rfl (dk_vp hi) d_Mo_arrive_126 (fun H locs hP hD hS => ?_)
                  have hP : va_P G classes [(t, .inr (8, [.int v_t_crossings, .ref t_greens, .ref t_leasts, .ref t_queues, .ref t_seconds, .ref t_weights, .int v_t_first, .int v_t_last, .int v_t_by, .int v_t_step, .int v_t_has, .int v_t_cycle, .int v_t_aim, .int v_t_proved, .ref t_offsets, .ref t_row, .ref t_open, .int v_t_arrivals, .ref t_places, .ref t_times, .ref t_cars, .ref t_hourCrossings, .ref t_hourCycles, .ref t_hourOffsets])), (t_places, .inl (K 0, 40, .inl (upd v_t_places v_t_arrivals.toNatClampNeg (x1 - (1 : Int32))))), (t_times, .inl (K 0, 40, .inl (upd v_t_times v_t_arrivals.toNatClampNeg x3))), (t_cars, .inl (K 0, 40, .inl (upd v_t_cars v_t_arrivals.toNatClampNeg x4)))] H := hP
                  have hD : va_D A [(t, .inr (8, [.int v_t_crossings, .ref t_greens, .ref t_leasts, .ref t_queues, .ref t_seconds, .ref t_weights, .int v_t_first, .int v_t_last, .int v_t_by, .int v_t_step, .int v_t_has, .int v_t_cycle, .int v_t_aim, .int v_t_proved, .ref t_offsets, .ref t_row, .ref t_open, .int v_t_arrivals, .ref t_places, .ref t_times, .ref t_cars, .ref t_hourCrossings, .ref t_hourCycles, .ref t_hourOffsets])), (t_places, .inl (K 0, 40, .inl (upd v_t_places v_t_arrivals.toNatClampNeg (x1 - (1 : Int32))))), (t_times, .inl (K 0, 40, .inl (upd v_t_times v_t_arrivals.toNatClampNeg x3))), (t_cars, .inl (K 0, 40, .inl (upd v_t_cars v_t_arrivals.toNatClampNeg x4)))] := hD
                  refine lv_aload_n hx hb d_Mo_arrive_127 rfl (lv_at hl 1 rfl) ?_
                  refine lv_dup hx hb d_Mo_arrive_128 rfl ?_
                  refine va_get (D := G) (ci := 8) (v := .int v_t_arrivals) (C := R_Mo) (T := F_Mo) (N := 24) hx hb hts i_Mo hown hK hP 0 rfl rfl 17 (by decide) (hts _ lk_499) (fun _ h9 => h9) rfl d_Mo_arrive_129 ?_
                  refine lv_iconst (v := (1 : Int32)) hx hb d_Mo_arrive_132 (by decide) ?_
                  refine lv_iadd hx hb d_Mo_arrive_133 ?_
                  refine va_put (D := G) (ci := 8) (v := .int (v_t_arrivals + (1 : Int32))) (ty := .int) (C := R_Mo) (T := F_Mo) (N := 24) hx hb hts i_Mo t_Mo t_Mo_ok n_Mo hown hK hP hD hS 0 rfl rfl 17 (by decide) (hts _ lk_499) (fun _ h9 => h9) rfl (by decide +kernel) rfl rfl (Nat.le_of_ble_eq_true rfl) d_Mo_arrive_134 (fun H locs hP hD hS => ?_)
                  have hP : va_P G classes [(t, .inr (8, [.int v_t_crossings, .ref t_greens, .ref t_leasts, .ref t_queues, .ref t_seconds, .ref t_weights, .int v_t_first, .int v_t_last, .int v_t_by, .int v_t_step, .int v_t_has, .int v_t_cycle, .int v_t_aim, .int v_t_proved, .ref t_offsets, .ref t_row, .ref t_open, .int (v_t_arrivals + (1 : Int32)), .ref t_places, .ref t_times, .ref t_cars, .ref t_hourCrossings, .ref t_hourCycles, .ref t_hourOffsets])), (t_places, .inl (K 0, 40, .inl (upd v_t_places v_t_arrivals.toNatClampNeg (x1 - (1 : Int32))))), (t_times, .inl (K 0, 40, .inl (upd v_t_times v_t_arrivals.toNatClampNeg x3))), (t_cars, .inl (K 0, 40, .inl (upd v_t_cars v_t_arrivals.toNatClampNeg x4)))] H := hP
                  have hD : va_D A [(t, .inr (8, [.int v_t_crossings, .ref t_greens, .ref t_leasts, .ref t_queues, .ref t_seconds, .ref t_weights, .int v_t_first, .int v_t_last, .int v_t_by, .int v_t_step, .int v_t_has, .int v_t_cycle, .int v_t_aim, .int v_t_proved, .ref t_offsets, .ref t_row, .ref t_open, .int (v_t_arrivals + (1 : Int32)), .ref t_places, .ref t_times, .ref t_cars, .ref t_hourCrossings, .ref t_hourCycles, .ref t_hourOffsets])), (t_places, .inl (K 0, 40, .inl (upd v_t_places v_t_arrivals.toNatClampNeg (x1 - (1 : Int32))))), (t_times, .inl (K 0, 40, .inl (upd v_t_times v_t_arrivals.toNatClampNeg x3))), (t_cars, .inl (K 0, 40, .inl (upd v_t_cars v_t_arrivals.toNatClampNeg x4)))] := hD
                  refine lv_iload hx hb d_Mo_arrive_137 (lv_at hl 0 rfl) ?_
                  obtain rfl := Option.some.inj hF
                  exact W.zret (v := (1 : Int32)) hx hb hr rfl (fun t ht hW => ⟨⟨(), rfl, by rw [ht]; exact hP, hD⟩, hS.F ht⟩) hS.2.2 d_Mo_arrive_139
                · have hF := dk_t c93_20 hF
                  refine lv_iload_n hx hb d_Mo_arrive_96 rfl (lv_at hl 2 rfl) ?_
                  refine lv_iconst (v := (1 : Int32)) hx hb d_Mo_arrive_97 (by decide) ?_
                  refine lv_iadd hx hb d_Mo_arrive_98 ?_
                  refine lv_goto (tgt := 105) hx hb d_Mo_arrive_99 (by decide) ?_
                  obtain ⟨hi, hF⟩ := dk_a hF
                  refine va_iast (D := G) hx hb hK hP hD hS 1 0 rfl rfl (dk_vp hi) d_Mo_arrive_105 (fun H locs hP hD hS => ?_)
                  have hP : va_P G classes [(t, .inr (8, [.int v_t_crossings, .ref t_greens, .ref t_leasts, .ref t_queues, .ref t_seconds, .ref t_weights, .int v_t_first, .int v_t_last, .int v_t_by, .int v_t_step, .int v_t_has, .int v_t_cycle, .int v_t_aim, .int v_t_proved, .ref t_offsets, .ref t_row, .ref t_open, .int v_t_arrivals, .ref t_places, .ref t_times, .ref t_cars, .ref t_hourCrossings, .ref t_hourCycles, .ref t_hourOffsets])), (t_places, .inl (K 0, 40, .inl (upd v_t_places v_t_arrivals.toNatClampNeg (x1 + (1 : Int32))))), (t_times, .inl (K 0, 40, .inl v_t_times)), (t_cars, .inl (K 0, 40, .inl v_t_cars))] H := hP
                  have hD : va_D A [(t, .inr (8, [.int v_t_crossings, .ref t_greens, .ref t_leasts, .ref t_queues, .ref t_seconds, .ref t_weights, .int v_t_first, .int v_t_last, .int v_t_by, .int v_t_step, .int v_t_has, .int v_t_cycle, .int v_t_aim, .int v_t_proved, .ref t_offsets, .ref t_row, .ref t_open, .int v_t_arrivals, .ref t_places, .ref t_times, .ref t_cars, .ref t_hourCrossings, .ref t_hourCycles, .ref t_hourOffsets])), (t_places, .inl (K 0, 40, .inl (upd v_t_places v_t_arrivals.toNatClampNeg (x1 + (1 : Int32))))), (t_times, .inl (K 0, 40, .inl v_t_times)), (t_cars, .inl (K 0, 40, .inl v_t_cars))] := hD
                  refine lv_aload_n hx hb d_Mo_arrive_106 rfl (lv_at hl 1 rfl) ?_
                  refine va_get (D := G) (ci := 8) (v := .ref t_times) (C := R_Mo) (T := F_Mo) (N := 24) hx hb hts i_Mo hown hK hP 0 rfl rfl 19 (by decide) (hts _ lk_501) (fun _ h9 => h9) rfl d_Mo_arrive_107 ?_
                  refine lv_aload_n hx hb d_Mo_arrive_110 rfl (lv_at hl 1 rfl) ?_
                  refine va_get (D := G) (ci := 8) (v := .int v_t_arrivals) (C := R_Mo) (T := F_Mo) (N := 24) hx hb hts i_Mo hown hK hP 0 rfl rfl 17 (by decide) (hts _ lk_499) (fun _ h9 => h9) rfl d_Mo_arrive_111 ?_
                  refine lv_iload_n hx hb d_Mo_arrive_114 rfl (lv_at hl 4 rfl) ?_
                  obtain ⟨hi, hF⟩ := dk_a hF
                  refine va_iast (D := G) hx hb hK hP hD hS 2 0 rfl rfl (dk_vp hi) d_Mo_arrive_115 (fun H locs hP hD hS => ?_)
                  have hP : va_P G classes [(t, .inr (8, [.int v_t_crossings, .ref t_greens, .ref t_leasts, .ref t_queues, .ref t_seconds, .ref t_weights, .int v_t_first, .int v_t_last, .int v_t_by, .int v_t_step, .int v_t_has, .int v_t_cycle, .int v_t_aim, .int v_t_proved, .ref t_offsets, .ref t_row, .ref t_open, .int v_t_arrivals, .ref t_places, .ref t_times, .ref t_cars, .ref t_hourCrossings, .ref t_hourCycles, .ref t_hourOffsets])), (t_places, .inl (K 0, 40, .inl (upd v_t_places v_t_arrivals.toNatClampNeg (x1 + (1 : Int32))))), (t_times, .inl (K 0, 40, .inl (upd v_t_times v_t_arrivals.toNatClampNeg x3))), (t_cars, .inl (K 0, 40, .inl v_t_cars))] H := hP
                  have hD : va_D A [(t, .inr (8, [.int v_t_crossings, .ref t_greens, .ref t_leasts, .ref t_queues, .ref t_seconds, .ref t_weights, .int v_t_first, .int v_t_last, .int v_t_by, .int v_t_step, .int v_t_has, .int v_t_cycle, .int v_t_aim, .int v_t_proved, .ref t_offsets, .ref t_row, .ref t_open, .int v_t_arrivals, .ref t_places, .ref t_times, .ref t_cars, .ref t_hourCrossings, .ref t_hourCycles, .ref t_hourOffsets])), (t_places, .inl (K 0, 40, .inl (upd v_t_places v_t_arrivals.toNatClampNeg (x1 + (1 : Int32))))), (t_times, .inl (K 0, 40, .inl (upd v_t_times v_t_arrivals.toNatClampNeg x3))), (t_cars, .inl (K 0, 40, .inl v_t_cars))] := hD
                  refine lv_aload_n hx hb d_Mo_arrive_116 rfl (lv_at hl 1 rfl) ?_
                  refine va_get (D := G) (ci := 8) (v := .ref t_cars) (C := R_Mo) (T := F_Mo) (N := 24) hx hb hts i_Mo hown hK hP 0 rfl rfl 20 (by decide) (hts _ lk_502) (fun _ h9 => h9) rfl d_Mo_arrive_117 ?_
                  refine lv_aload_n hx hb d_Mo_arrive_120 rfl (lv_at hl 1 rfl) ?_
                  refine va_get (D := G) (ci := 8) (v := .int v_t_arrivals) (C := R_Mo) (T := F_Mo) (N := 24) hx hb hts i_Mo hown hK hP 0 rfl rfl 17 (by decide) (hts _ lk_499) (fun _ h9 => h9) rfl d_Mo_arrive_121 ?_
                  refine lv_iload hx hb d_Mo_arrive_124 (lv_at hl 5 rfl) ?_
                  obtain ⟨hi, hF⟩ := dk_a hF
                  refine va_iast (D := G) hx hb hK hP hD hS 3 0 rfl rfl (dk_vp hi) d_Mo_arrive_126 (fun H locs hP hD hS => ?_)
                  have hP : va_P G classes [(t, .inr (8, [.int v_t_crossings, .ref t_greens, .ref t_leasts, .ref t_queues, .ref t_seconds, .ref t_weights, .int v_t_first, .int v_t_last, .int v_t_by, .int v_t_step, .int v_t_has, .int v_t_cycle, .int v_t_aim, .int v_t_proved, .ref t_offsets, .ref t_row, .ref t_open, .int v_t_arrivals, .ref t_places, .ref t_times, .ref t_cars, .ref t_hourCrossings, .ref t_hourCycles, .ref t_hourOffsets])), (t_places, .inl (K 0, 40, .inl (upd v_t_places v_t_arrivals.toNatClampNeg (x1 + (1 : Int32))))), (t_times, .inl (K 0, 40, .inl (upd v_t_times v_t_arrivals.toNatClampNeg x3))), (t_cars, .inl (K 0, 40, .inl (upd v_t_cars v_t_arrivals.toNatClampNeg x4)))] H := hP
                  have hD : va_D A [(t, .inr (8, [.int v_t_crossings, .ref t_greens, .ref t_leasts, .ref t_queues, .ref t_seconds, .ref t_weights, .int v_t_first, .int v_t_last, .int v_t_by, .int v_t_step, .int v_t_has, .int v_t_cycle, .int v_t_aim, .int v_t_proved, .ref t_offsets, .ref t_row, .ref t_open, .int v_t_arrivals, .ref t_places, .ref t_times, .ref t_cars, .ref t_hourCrossings, .ref t_hourCycles, .ref t_hourOffsets])), (t_places, .inl (K 0, 40, .inl (upd v_t_places v_t_arrivals.toNatClampNeg (x1 + (1 : Int32))))), (t_times, .inl (K 0, 40, .inl (upd v_t_times v_t_arrivals.toNatClampNeg x3))), (t_cars, .inl (K 0, 40, .inl (upd v_t_cars v_t_arrivals.toNatClampNeg x4)))] := hD
                  refine lv_aload_n hx hb d_Mo_arrive_127 rfl (lv_at hl 1 rfl) ?_
                  refine lv_dup hx hb d_Mo_arrive_128 rfl ?_
                  refine va_get (D := G) (ci := 8) (v := .int v_t_arrivals) (C := R_Mo) (T := F_Mo) (N := 24) hx hb hts i_Mo hown hK hP 0 rfl rfl 17 (by decide) (hts _ lk_499) (fun _ h9 => h9) rfl d_Mo_arrive_129 ?_
                  refine lv_iconst (v := (1 : Int32)) hx hb d_Mo_arrive_132 (by decide) ?_
                  refine lv_iadd hx hb d_Mo_arrive_133 ?_
                  refine va_put (D := G) (ci := 8) (v := .int (v_t_arrivals + (1 : Int32))) (ty := .int) (C := R_Mo) (T := F_Mo) (N := 24) hx hb hts i_Mo t_Mo t_Mo_ok n_Mo hown hK hP hD hS 0 rfl rfl 17 (by decide) (hts _ lk_499) (fun _ h9 => h9) rfl (by decide +kernel) rfl rfl (Nat.le_of_ble_eq_true rfl) d_Mo_arrive_134 (fun H locs hP hD hS => ?_)
                  have hP : va_P G classes [(t, .inr (8, [.int v_t_crossings, .ref t_greens, .ref t_leasts, .ref t_queues, .ref t_seconds, .ref t_weights, .int v_t_first, .int v_t_last, .int v_t_by, .int v_t_step, .int v_t_has, .int v_t_cycle, .int v_t_aim, .int v_t_proved, .ref t_offsets, .ref t_row, .ref t_open, .int (v_t_arrivals + (1 : Int32)), .ref t_places, .ref t_times, .ref t_cars, .ref t_hourCrossings, .ref t_hourCycles, .ref t_hourOffsets])), (t_places, .inl (K 0, 40, .inl (upd v_t_places v_t_arrivals.toNatClampNeg (x1 + (1 : Int32))))), (t_times, .inl (K 0, 40, .inl (upd v_t_times v_t_arrivals.toNatClampNeg x3))), (t_cars, .inl (K 0, 40, .inl (upd v_t_cars v_t_arrivals.toNatClampNeg x4)))] H := hP
                  have hD : va_D A [(t, .inr (8, [.int v_t_crossings, .ref t_greens, .ref t_leasts, .ref t_queues, .ref t_seconds, .ref t_weights, .int v_t_first, .int v_t_last, .int v_t_by, .int v_t_step, .int v_t_has, .int v_t_cycle, .int v_t_aim, .int v_t_proved, .ref t_offsets, .ref t_row, .ref t_open, .int (v_t_arrivals + (1 : Int32)), .ref t_places, .ref t_times, .ref t_cars, .ref t_hourCrossings, .ref t_hourCycles, .ref t_hourOffsets])), (t_places, .inl (K 0, 40, .inl (upd v_t_places v_t_arrivals.toNatClampNeg (x1 + (1 : Int32))))), (t_times, .inl (K 0, 40, .inl (upd v_t_times v_t_arrivals.toNatClampNeg x3))), (t_cars, .inl (K 0, 40, .inl (upd v_t_cars v_t_arrivals.toNatClampNeg x4)))] := hD
                  refine lv_iload hx hb d_Mo_arrive_137 (lv_at hl 0 rfl) ?_
                  obtain rfl := Option.some.inj hF
                  exact W.zret (v := (1 : Int32)) hx hb hr rfl (fun t ht hW => ⟨⟨(), rfl, by rw [ht]; exact hP, hD⟩, hS.F ht⟩) hS.2.2 d_Mo_arrive_139
      · have hF := dk_t c20_7 hF
        refine lv_iload_n hx hb d_Mo_arrive_23 rfl (lv_at hl 1 rfl) ?_
        refine lv_iconst (v := (1 : Int32)) hx hb d_Mo_arrive_24 (by decide) ?_
        refine lv_iadd hx hb d_Mo_arrive_25 ?_
        refine lv_goto (tgt := 32) hx hb d_Mo_arrive_26 (by decide) ?_
        obtain ⟨r32_21, hC, hF⟩ := dk_b hF
        refine dk_pure (va_runV (As := [.int (x1 + (1 : Int32))]) (rest := []) hfix (c_Mo_isCrossing l G K n t t_greens t_leasts t_queues t_seconds t_weights t_offsets t_row t_open t_places t_times t_cars t_hourCrossings t_hourCycles t_hourOffsets (x1 + (1 : Int32)) v_t_crossings v_t_first v_t_last v_t_by v_t_step v_t_has v_t_cycle v_t_aim v_t_proved v_t_arrivals r32_21 hC) (cwV 1 hts (gd_V lk_430 lk_432 lk_433 lk_419 lk_431) rfl rfl rfl (by decide +kernel) ⟨Nat.le_of_ble_eq_true rfl, Nat.le_of_ble_eq_true rfl⟩) (dk_preV hK hN (hP.sub [0] rfl) (va_recv hK hP (ci := 8) (q0 := 0) rfl rfl)) rfl rfl hl.1 rfl (lv_room (Nat.le_of_ble_eq_true rfl)) d_Mo_arrive_32 ⟨Nat.le_of_ble_eq_true rfl, Nat.le_of_ble_eq_true rfl⟩) ?_
        refine lv_if_eq (tgt := 76) hx hb d_Mo_arrive_35 (by decide) (fun c35_22 => ?_) (fun c35_22 => ?_)
        · have hF := dk_t c35_22 hF
          refine lv_iconst (v := (0 : Int32)) hx hb d_Mo_arrive_76 (by decide) ?_
          refine lv_istore (lv' := [(5, .int (0 : Int32)), (0, .ref t), (1, .int x1), (2, .int x2), (3, .int x3), (4, .int x4)]) hx hb d_Mo_arrive_77 hl (by decide) rfl (fun ls hl => ?_)
          refine lv_iload hx hb d_Mo_arrive_79 (lv_at hl 0 rfl) ?_
          refine lv_if_eq (tgt := 137) hx hb d_Mo_arrive_81 (by decide) (fun _ => ?_) (fun h => absurd h (by decide))
          refine lv_iload hx hb d_Mo_arrive_137 (lv_at hl 0 rfl) ?_
          obtain rfl := Option.some.inj hF
          exact W.zret (v := (0 : Int32)) hx hb hr rfl (fun t ht hW => ⟨⟨(), rfl, by rw [ht]; exact hP, hD⟩, hS.F ht⟩) hS.2.2 d_Mo_arrive_139
        · have hF := dk_f c35_22 hF
          refine lv_iload_n hx hb d_Mo_arrive_38 rfl (lv_at hl 3 rfl) ?_
          refine lv_i2l hx hb d_Mo_arrive_39 rfl ?_
          refine lv_lconst (v := (0 : Int64)) hx hb d_Mo_arrive_40 (by decide) ?_
          refine lv_ldc2 (own := R_Mo) (index := 156) (v := (10000 : Int64)) hx hb hown (hts _ lk_497) d_Mo_arrive_41 ?_
          obtain ⟨r44_24, hC, hF⟩ := dk_b hF
          refine dk_pure (va_runS (As := [.long x3.toInt64, .long (0 : Int64), .long (10000 : Int64)]) (rest := []) hfix (c_Mo_isIn l G K n x3.toInt64 (0 : Int64) (10000 : Int64) r44_24 hC) (va_cwS 3 hts (gd_S lk_416 lk_418 lk_419 lk_417) rfl rfl rfl (by decide +kernel) ⟨Nat.le_of_ble_eq_true rfl, Nat.le_of_ble_eq_true rfl⟩) (dk_preS hK hN (hP.sub [] rfl)) rfl rfl hl.1 rfl (lv_room (Nat.le_of_ble_eq_true rfl)) d_Mo_arrive_44 ⟨Nat.le_of_ble_eq_true rfl, Nat.le_of_ble_eq_true rfl⟩) ?_
          refine lv_if_eq (tgt := 76) hx hb d_Mo_arrive_47 (by decide) (fun c47_25 => ?_) (fun c47_25 => ?_)
          · have hF := dk_t c47_25 hF
            refine lv_iconst (v := (0 : Int32)) hx hb d_Mo_arrive_76 (by decide) ?_
            refine lv_istore (lv' := [(5, .int (0 : Int32)), (0, .ref t), (1, .int x1), (2, .int x2), (3, .int x3), (4, .int x4)]) hx hb d_Mo_arrive_77 hl (by decide) rfl (fun ls hl => ?_)
            refine lv_iload hx hb d_Mo_arrive_79 (lv_at hl 0 rfl) ?_
            refine lv_if_eq (tgt := 137) hx hb d_Mo_arrive_81 (by decide) (fun _ => ?_) (fun h => absurd h (by decide))
            refine lv_iload hx hb d_Mo_arrive_137 (lv_at hl 0 rfl) ?_
            obtain rfl := Option.some.inj hF
            exact W.zret (v := (0 : Int32)) hx hb hr rfl (fun t ht hW => ⟨⟨(), rfl, by rw [ht]; exact hP, hD⟩, hS.F ht⟩) hS.2.2 d_Mo_arrive_139
          · have hF := dk_f c47_25 hF
            refine lv_iload hx hb d_Mo_arrive_50 (lv_at hl 4 rfl) ?_
            refine lv_i2l hx hb d_Mo_arrive_52 rfl ?_
            refine lv_lconst (v := (1 : Int64)) hx hb d_Mo_arrive_53 (by decide) ?_
            refine lv_ldc2 (own := R_Mo) (index := 158) (v := (1000 : Int64)) hx hb hown (hts _ lk_498) d_Mo_arrive_54 ?_
            obtain ⟨r57_27, hC, hF⟩ := dk_b hF
            refine dk_pure (va_runS (As := [.long x4.toInt64, .long (1 : Int64), .long (1000 : Int64)]) (rest := []) hfix (c_Mo_isIn l G K n x4.toInt64 (1 : Int64) (1000 : Int64) r57_27 hC) (va_cwS 3 hts (gd_S lk_416 lk_418 lk_419 lk_417) rfl rfl rfl (by decide +kernel) ⟨Nat.le_of_ble_eq_true rfl, Nat.le_of_ble_eq_true rfl⟩) (dk_preS hK hN (hP.sub [] rfl)) rfl rfl hl.1 rfl (lv_room (Nat.le_of_ble_eq_true rfl)) d_Mo_arrive_57 ⟨Nat.le_of_ble_eq_true rfl, Nat.le_of_ble_eq_true rfl⟩) ?_
            refine lv_if_eq (tgt := 76) hx hb d_Mo_arrive_60 (by decide) (fun c60_28 => ?_) (fun c60_28 => ?_)
            · have hF := dk_t c60_28 hF
              refine lv_iconst (v := (0 : Int32)) hx hb d_Mo_arrive_76 (by decide) ?_
              refine lv_istore (lv' := [(5, .int (0 : Int32)), (0, .ref t), (1, .int x1), (2, .int x2), (3, .int x3), (4, .int x4)]) hx hb d_Mo_arrive_77 hl (by decide) rfl (fun ls hl => ?_)
              refine lv_iload hx hb d_Mo_arrive_79 (lv_at hl 0 rfl) ?_
              refine lv_if_eq (tgt := 137) hx hb d_Mo_arrive_81 (by decide) (fun _ => ?_) (fun h => absurd h (by decide))
              refine lv_iload hx hb d_Mo_arrive_137 (lv_at hl 0 rfl) ?_
              obtain rfl := Option.some.inj hF
              exact W.zret (v := (0 : Int32)) hx hb hr rfl (fun t ht hW => ⟨⟨(), rfl, by rw [ht]; exact hP, hD⟩, hS.F ht⟩) hS.2.2 d_Mo_arrive_139
            · have hF := dk_f c60_28 hF
              refine lv_aload_n hx hb d_Mo_arrive_63 rfl (lv_at hl 0 rfl) ?_
              refine va_get (D := G) (ci := 8) (v := .int v_t_arrivals) (C := R_Mo) (T := F_Mo) (N := 24) hx hb hts i_Mo hown hK hP 0 rfl rfl 17 (by decide) (hts _ lk_499) (fun _ h9 => h9) rfl d_Mo_arrive_64 ?_
              refine lv_bipush (v := (40 : Int32)) hx hb d_Mo_arrive_67 (by decide) ?_
              refine lv_icmp_ge (tgt := 76) hx hb d_Mo_arrive_69 (by decide) (fun c69_30 => ?_) (fun c69_30 => ?_)
              · have hF := dk_t c69_30 hF
                refine lv_iconst (v := (0 : Int32)) hx hb d_Mo_arrive_76 (by decide) ?_
                refine lv_istore (lv' := [(5, .int (0 : Int32)), (0, .ref t), (1, .int x1), (2, .int x2), (3, .int x3), (4, .int x4)]) hx hb d_Mo_arrive_77 hl (by decide) rfl (fun ls hl => ?_)
                refine lv_iload hx hb d_Mo_arrive_79 (lv_at hl 0 rfl) ?_
                refine lv_if_eq (tgt := 137) hx hb d_Mo_arrive_81 (by decide) (fun _ => ?_) (fun h => absurd h (by decide))
                refine lv_iload hx hb d_Mo_arrive_137 (lv_at hl 0 rfl) ?_
                obtain rfl := Option.some.inj hF
                exact W.zret (v := (0 : Int32)) hx hb hr rfl (fun t ht hW => ⟨⟨(), rfl, by rw [ht]; exact hP, hD⟩, hS.F ht⟩) hS.2.2 d_Mo_arrive_139
              · have hF := dk_f c69_30 hF
                refine lv_iconst (v := (1 : Int32)) hx hb d_Mo_arrive_72 (by decide) ?_
                refine lv_goto (tgt := 77) hx hb d_Mo_arrive_73 (by decide) ?_
                refine lv_istore (lv' := [(5, .int (1 : Int32)), (0, .ref t), (1, .int x1), (2, .int x2), (3, .int x3), (4, .int x4)]) hx hb d_Mo_arrive_77 hl (by decide) rfl (fun ls hl => ?_)
                refine lv_iload hx hb d_Mo_arrive_79 (lv_at hl 0 rfl) ?_
                refine lv_if_eq (tgt := 137) hx hb d_Mo_arrive_81 (by decide) (fun h => absurd h (by decide)) (fun _ => ?_)
                refine lv_aload_n hx hb d_Mo_arrive_84 rfl (lv_at hl 1 rfl) ?_
                refine va_get (D := G) (ci := 8) (v := .ref t_places) (C := R_Mo) (T := F_Mo) (N := 24) hx hb hts i_Mo hown hK hP 0 rfl rfl 18 (by decide) (hts _ lk_500) (fun _ h9 => h9) rfl d_Mo_arrive_85 ?_
                refine lv_aload_n hx hb d_Mo_arrive_88 rfl (lv_at hl 1 rfl) ?_
                refine va_get (D := G) (ci := 8) (v := .int v_t_arrivals) (C := R_Mo) (T := F_Mo) (N := 24) hx hb hts i_Mo hown hK hP 0 rfl rfl 17 (by decide) (hts _ lk_499) (fun _ h9 => h9) rfl d_Mo_arrive_89 ?_
                refine lv_iload_n hx hb d_Mo_arrive_92 rfl (lv_at hl 3 rfl) ?_
                refine lv_if_ne (tgt := 102) hx hb d_Mo_arrive_93 (by decide) (fun c93_33 => ?_) (fun c93_33 => ?_)
                · have hF := dk_f c93_33 hF
                  refine lv_iload_n hx hb d_Mo_arrive_102 rfl (lv_at hl 2 rfl) ?_
                  refine lv_iconst (v := (1 : Int32)) hx hb d_Mo_arrive_103 (by decide) ?_
                  refine lv_isub hx hb d_Mo_arrive_104 ?_
                  obtain ⟨hi, hF⟩ := dk_a hF
                  refine va_iast (D := G) hx hb hK hP hD hS 1 0 rfl rfl (dk_vp hi) d_Mo_arrive_105 (fun H locs hP hD hS => ?_)
                  have hP : va_P G classes [(t, .inr (8, [.int v_t_crossings, .ref t_greens, .ref t_leasts, .ref t_queues, .ref t_seconds, .ref t_weights, .int v_t_first, .int v_t_last, .int v_t_by, .int v_t_step, .int v_t_has, .int v_t_cycle, .int v_t_aim, .int v_t_proved, .ref t_offsets, .ref t_row, .ref t_open, .int v_t_arrivals, .ref t_places, .ref t_times, .ref t_cars, .ref t_hourCrossings, .ref t_hourCycles, .ref t_hourOffsets])), (t_places, .inl (K 0, 40, .inl (upd v_t_places v_t_arrivals.toNatClampNeg (x1 - (1 : Int32))))), (t_times, .inl (K 0, 40, .inl v_t_times)), (t_cars, .inl (K 0, 40, .inl v_t_cars))] H := hP
                  have hD : va_D A [(t, .inr (8, [.int v_t_crossings, .ref t_greens, .ref t_leasts, .ref t_queues, .ref t_seconds, .ref t_weights, .int v_t_first, .int v_t_last, .int v_t_by, .int v_t_step, .int v_t_has, .int v_t_cycle, .int v_t_aim, .int v_t_proved, .ref t_offsets, .ref t_row, .ref t_open, .int v_t_arrivals, .ref t_places, .ref t_times, .ref t_cars, .ref t_hourCrossings, .ref t_hourCycles, .ref t_hourOffsets])), (t_places, .inl (K 0, 40, .inl (upd v_t_places v_t_arrivals.toNatClampNeg (x1 - (1 : Int32))))), (t_times, .inl (K 0, 40, .inl v_t_times)), (t_cars, .inl (K 0, 40, .inl v_t_cars))] := hD
                  refine lv_aload_n hx hb d_Mo_arrive_106 rfl (lv_at hl 1 rfl) ?_
                  refine va_get (D := G) (ci := 8) (v := .ref t_times) (C := R_Mo) (T := F_Mo) (N := 24) hx hb hts i_Mo hown hK hP 0 rfl rfl 19 (by decide) (hts _ lk_501) (fun _ h9 => h9) rfl d_Mo_arrive_107 ?_
                  refine lv_aload_n hx hb d_Mo_arrive_110 rfl (lv_at hl 1 rfl) ?_
                  refine va_get (D := G) (ci := 8) (v := .int v_t_arrivals) (C := R_Mo) (T := F_Mo) (N := 24) hx hb hts i_Mo hown hK hP 0 rfl rfl 17 (by decide) (hts _ lk_499) (fun _ h9 => h9) rfl d_Mo_arrive_111 ?_
                  refine lv_iload_n hx hb d_Mo_arrive_114 rfl (lv_at hl 4 rfl) ?_
                  obtain ⟨hi, hF⟩ := dk_a hF
                  refine va_iast (D := G) hx hb hK hP hD hS 2 0 rfl rfl (dk_vp hi) d_Mo_arrive_115 (fun H locs hP hD hS => ?_)
                  have hP : va_P G classes [(t, .inr (8, [.int v_t_crossings, .ref t_greens, .ref t_leasts, .ref t_queues, .ref t_seconds, .ref t_weights, .int v_t_first, .int v_t_last, .int v_t_by, .int v_t_step, .int v_t_has, .int v_t_cycle, .int v_t_aim, .int v_t_proved, .ref t_offsets, .ref t_row, .ref t_open, .int v_t_arrivals, .ref t_places, .ref t_times, .ref t_cars, .ref t_hourCrossings, .ref t_hourCycles, .ref t_hourOffsets])), (t_places, .inl (K 0, 40, .inl (upd v_t_places v_t_arrivals.toNatClampNeg (x1 - (1 : Int32))))), (t_times, .inl (K 0, 40, .inl (upd v_t_times v_t_arrivals.toNatClampNeg x3))), (t_cars, .inl (K 0, 40, .inl v_t_cars))] H := hP
                  have hD : va_D A [(t, .inr (8, [.int v_t_crossings, .ref t_greens, .ref t_leasts, .ref t_queues, .ref t_seconds, .ref t_weights, .int v_t_first, .int v_t_last, .int v_t_by, .int v_t_step, .int v_t_has, .int v_t_cycle, .int v_t_aim, .int v_t_proved, .ref t_offsets, .ref t_row, .ref t_open, .int v_t_arrivals, .ref t_places, .ref t_times, .ref t_cars, .ref t_hourCrossings, .ref t_hourCycles, .ref t_hourOffsets])), (t_places, .inl (K 0, 40, .inl (upd v_t_places v_t_arrivals.toNatClampNeg (x1 - (1 : Int32))))), (t_times, .inl (K 0, 40, .inl (upd v_t_times v_t_arrivals.toNatClampNeg x3))), (t_cars, .inl (K 0, 40, .inl v_t_cars))] := hD
                  refine lv_aload_n hx hb d_Mo_arrive_116 rfl (lv_at hl 1 rfl) ?_
                  refine va_get (D := G) (ci := 8) (v := .ref t_cars) (C := R_Mo) (T := F_Mo) (N := 24) hx hb hts i_Mo hown hK hP 0 rfl rfl 20 (by decide) (hts _ lk_502) (fun _ h9 => h9) rfl d_Mo_arrive_117 ?_
                  refine lv_aload_n hx hb d_Mo_arrive_120 rfl (lv_at hl 1 rfl) ?_
                  refine va_get (D := G) (ci := 8) (v := .int v_t_arrivals) (C := R_Mo) (T := F_Mo) (N := 24) hx hb hts i_Mo hown hK hP 0 rfl rfl 17 (by decide) (hts _ lk_499) (fun _ h9 => h9) rfl d_Mo_arrive_121 ?_
                  refine lv_iload hx hb d_Mo_arrive_124 (lv_at hl 5 rfl) ?_
                  obtain ⟨hi, hF⟩ := dk_a hF
                  refine va_iast (D := G) hx hb hK hP hD hS 3 0 rfl rfl (dk_vp hi) d_Mo_arrive_126 (fun H locs hP hD hS => ?_)
                  have hP : va_P G classes [(t, .inr (8, [.int v_t_crossings, .ref t_greens, .ref t_leasts, .ref t_queues, .ref t_seconds, .ref t_weights, .int v_t_first, .int v_t_last, .int v_t_by, .int v_t_step, .int v_t_has, .int v_t_cycle, .int v_t_aim, .int v_t_proved, .ref t_offsets, .ref t_row, .ref t_open, .int v_t_arrivals, .ref t_places, .ref t_times, .ref t_cars, .ref t_hourCrossings, .ref t_hourCycles, .ref t_hourOffsets])), (t_places, .inl (K 0, 40, .inl (upd v_t_places v_t_arrivals.toNatClampNeg (x1 - (1 : Int32))))), (t_times, .inl (K 0, 40, .inl (upd v_t_times v_t_arrivals.toNatClampNeg x3))), (t_cars, .inl (K 0, 40, .inl (upd v_t_cars v_t_arrivals.toNatClampNeg x4)))] H := hP
                  have hD : va_D A [(t, .inr (8, [.int v_t_crossings, .ref t_greens, .ref t_leasts, .ref t_queues, .ref t_seconds, .ref t_weights, .int v_t_first, .int v_t_last, .int v_t_by, .int v_t_step, .int v_t_has, .int v_t_cycle, .int v_t_aim, .int v_t_proved, .ref t_offsets, .ref t_row, .ref t_open, .int v_t_arrivals, .ref t_places, .ref t_times, .ref t_cars, .ref t_hourCrossings, .ref t_hourCycles, .ref t_hourOffsets])), (t_places, .inl (K 0, 40, .inl (upd v_t_places v_t_arrivals.toNatClampNeg (x1 - (1 : Int32))))), (t_times, .inl (K 0, 40, .inl (upd v_t_times v_t_arrivals.toNatClampNeg x3))), (t_cars, .inl (K 0, 40, .inl (upd v_t_cars v_t_arrivals.toNatClampNeg x4)))] := hD
                  refine lv_aload_n hx hb d_Mo_arrive_127 rfl (lv_at hl 1 rfl) ?_
                  refine lv_dup hx hb d_Mo_arrive_128 rfl ?_
                  refine va_get (D := G) (ci := 8) (v := .int v_t_arrivals) (C := R_Mo) (T := F_Mo) (N := 24) hx hb hts i_Mo hown hK hP 0 rfl rfl 17 (by decide) (hts _ lk_499) (fun _ h9 => h9) rfl d_Mo_arrive_129 ?_
                  refine lv_iconst (v := (1 : Int32)) hx hb d_Mo_arrive_132 (by decide) ?_
                  refine lv_iadd hx hb d_Mo_arrive_133 ?_
                  refine va_put (D := G) (ci := 8) (v := .int (v_t_arrivals + (1 : Int32))) (ty := .int) (C := R_Mo) (T := F_Mo) (N := 24) hx hb hts i_Mo t_Mo t_Mo_ok n_Mo hown hK hP hD hS 0 rfl rfl 17 (by decide) (hts _ lk_499) (fun _ h9 => h9) rfl (by decide +kernel) rfl rfl (Nat.le_of_ble_eq_true rfl) d_Mo_arrive_134 (fun H locs hP hD hS => ?_)
                  have hP : va_P G classes [(t, .inr (8, [.int v_t_crossings, .ref t_greens, .ref t_leasts, .ref t_queues, .ref t_seconds, .ref t_weights, .int v_t_first, .int v_t_last, .int v_t_by, .int v_t_step, .int v_t_has, .int v_t_cycle, .int v_t_aim, .int v_t_proved, .ref t_offsets, .ref t_row, .ref t_open, .int (v_t_arrivals + (1 : Int32)), .ref t_places, .ref t_times, .ref t_cars, .ref t_hourCrossings, .ref t_hourCycles, .ref t_hourOffsets])), (t_places, .inl (K 0, 40, .inl (upd v_t_places v_t_arrivals.toNatClampNeg (x1 - (1 : Int32))))), (t_times, .inl (K 0, 40, .inl (upd v_t_times v_t_arrivals.toNatClampNeg x3))), (t_cars, .inl (K 0, 40, .inl (upd v_t_cars v_t_arrivals.toNatClampNeg x4)))] H := hP
                  have hD : va_D A [(t, .inr (8, [.int v_t_crossings, .ref t_greens, .ref t_leasts, .ref t_queues, .ref t_seconds, .ref t_weights, .int v_t_first, .int v_t_last, .int v_t_by, .int v_t_step, .int v_t_has, .int v_t_cycle, .int v_t_aim, .int v_t_proved, .ref t_offsets, .ref t_row, .ref t_open, .int (v_t_arrivals + (1 : Int32)), .ref t_places, .ref t_times, .ref t_cars, .ref t_hourCrossings, .ref t_hourCycles, .ref t_hourOffsets])), (t_places, .inl (K 0, 40, .inl (upd v_t_places v_t_arrivals.toNatClampNeg (x1 - (1 : Int32))))), (t_times, .inl (K 0, 40, .inl (upd v_t_times v_t_arrivals.toNatClampNeg x3))), (t_cars, .inl (K 0, 40, .inl (upd v_t_cars v_t_arrivals.toNatClampNeg x4)))] := hD
                  refine lv_iload hx hb d_Mo_arrive_137 (lv_at hl 0 rfl) ?_
                  obtain rfl := Option.some.inj hF
                  exact W.zret (v := (1 : Int32)) hx hb hr rfl (fun t ht hW => ⟨⟨(), rfl, by rw [ht]; exact hP, hD⟩, hS.F ht⟩) hS.2.2 d_Mo_arrive_139
                · have hF := dk_t c93_33 hF
                  refine lv_iload_n hx hb d_Mo_arrive_96 rfl (lv_at hl 2 rfl) ?_
                  refine lv_iconst (v := (1 : Int32)) hx hb d_Mo_arrive_97 (by decide) ?_
                  refine lv_iadd hx hb d_Mo_arrive_98 ?_
                  refine lv_goto (tgt := 105) hx hb d_Mo_arrive_99 (by decide) ?_
                  obtain ⟨hi, hF⟩ := dk_a hF
                  refine va_iast (D := G) hx hb hK hP hD hS 1 0 rfl rfl (dk_vp hi) d_Mo_arrive_105 (fun H locs hP hD hS => ?_)
                  have hP : va_P G classes [(t, .inr (8, [.int v_t_crossings, .ref t_greens, .ref t_leasts, .ref t_queues, .ref t_seconds, .ref t_weights, .int v_t_first, .int v_t_last, .int v_t_by, .int v_t_step, .int v_t_has, .int v_t_cycle, .int v_t_aim, .int v_t_proved, .ref t_offsets, .ref t_row, .ref t_open, .int v_t_arrivals, .ref t_places, .ref t_times, .ref t_cars, .ref t_hourCrossings, .ref t_hourCycles, .ref t_hourOffsets])), (t_places, .inl (K 0, 40, .inl (upd v_t_places v_t_arrivals.toNatClampNeg (x1 + (1 : Int32))))), (t_times, .inl (K 0, 40, .inl v_t_times)), (t_cars, .inl (K 0, 40, .inl v_t_cars))] H := hP
                  have hD : va_D A [(t, .inr (8, [.int v_t_crossings, .ref t_greens, .ref t_leasts, .ref t_queues, .ref t_seconds, .ref t_weights, .int v_t_first, .int v_t_last, .int v_t_by, .int v_t_step, .int v_t_has, .int v_t_cycle, .int v_t_aim, .int v_t_proved, .ref t_offsets, .ref t_row, .ref t_open, .int v_t_arrivals, .ref t_places, .ref t_times, .ref t_cars, .ref t_hourCrossings, .ref t_hourCycles, .ref t_hourOffsets])), (t_places, .inl (K 0, 40, .inl (upd v_t_places v_t_arrivals.toNatClampNeg (x1 + (1 : Int32))))), (t_times, .inl (K 0, 40, .inl v_t_times)), (t_cars, .inl (K 0, 40, .inl v_t_cars))] := hD
                  refine lv_aload_n hx hb d_Mo_arrive_106 rfl (lv_at hl 1 rfl) ?_
                  refine va_get (D := G) (ci := 8) (v := .ref t_times) (C := R_Mo) (T := F_Mo) (N := 24) hx hb hts i_Mo hown hK hP 0 rfl rfl 19 (by decide) (hts _ lk_501) (fun _ h9 => h9) rfl d_Mo_arrive_107 ?_
                  refine lv_aload_n hx hb d_Mo_arrive_110 rfl (lv_at hl 1 rfl) ?_
                  refine va_get (D := G) (ci := 8) (v := .int v_t_arrivals) (C := R_Mo) (T := F_Mo) (N := 24) hx hb hts i_Mo hown hK hP 0 rfl rfl 17 (by decide) (hts _ lk_499) (fun _ h9 => h9) rfl d_Mo_arrive_111 ?_
                  refine lv_iload_n hx hb d_Mo_arrive_114 rfl (lv_at hl 4 rfl) ?_
                  obtain ⟨hi, hF⟩ := dk_a hF
                  refine va_iast (D := G) hx hb hK hP hD hS 2 0 rfl rfl (dk_vp hi) d_Mo_arrive_115 (fun H locs hP hD hS => ?_)
                  have hP : va_P G classes [(t, .inr (8, [.int v_t_crossings, .ref t_greens, .ref t_leasts, .ref t_queues, .ref t_seconds, .ref t_weights, .int v_t_first, .int v_t_last, .int v_t_by, .int v_t_step, .int v_t_has, .int v_t_cycle, .int v_t_aim, .int v_t_proved, .ref t_offsets, .ref t_row, .ref t_open, .int v_t_arrivals, .ref t_places, .ref t_times, .ref t_cars, .ref t_hourCrossings, .ref t_hourCycles, .ref t_hourOffsets])), (t_places, .inl (K 0, 40, .inl (upd v_t_places v_t_arrivals.toNatClampNeg (x1 + (1 : Int32))))), (t_times, .inl (K 0, 40, .inl (upd v_t_times v_t_arrivals.toNatClampNeg x3))), (t_cars, .inl (K 0, 40, .inl v_t_cars))] H := hP
                  have hD : va_D A [(t, .inr (8, [.int v_t_crossings, .ref t_greens, .ref t_leasts, .ref t_queues, .ref t_seconds, .ref t_weights, .int v_t_first, .int v_t_last, .int v_t_by, .int v_t_step, .int v_t_has, .int v_t_cycle, .int v_t_aim, .int v_t_proved, .ref t_offsets, .ref t_row, .ref t_open, .int v_t_arrivals, .ref t_places, .ref t_times, .ref t_cars, .ref t_hourCrossings, .ref t_hourCycles, .ref t_hourOffsets])), (t_places, .inl (K 0, 40, .inl (upd v_t_places v_t_arrivals.toNatClampNeg (x1 + (1 : Int32))))), (t_times, .inl (K 0, 40, .inl (upd v_t_times v_t_arrivals.toNatClampNeg x3))), (t_cars, .inl (K 0, 40, .inl v_t_cars))] := hD
                  refine lv_aload_n hx hb d_Mo_arrive_116 rfl (lv_at hl 1 rfl) ?_
                  refine va_get (D := G) (ci := 8) (v := .ref t_cars) (C := R_Mo) (T := F_Mo) (N := 24) hx hb hts i_Mo hown hK hP 0 rfl rfl 20 (by decide) (hts _ lk_502) (fun _ h9 => h9) rfl d_Mo_arrive_117 ?_
                  refine lv_aload_n hx hb d_Mo_arrive_120 rfl (lv_at hl 1 rfl) ?_
                  refine va_get (D := G) (ci := 8) (v := .int v_t_arrivals) (C := R_Mo) (T := F_Mo) (N := 24) hx hb hts i_Mo hown hK hP 0 rfl rfl 17 (by decide) (hts _ lk_499) (fun _ h9 => h9) rfl d_Mo_arrive_121 ?_
                  refine lv_iload hx hb d_Mo_arrive_124 (lv_at hl 5 rfl) ?_
                  obtain ⟨hi, hF⟩ := dk_a hF
                  refine va_iast (D := G) hx hb hK hP hD hS 3 0 rfl rfl (dk_vp hi) d_Mo_arrive_126 (fun H locs hP hD hS => ?_)
                  have hP : va_P G classes [(t, .inr (8, [.int v_t_crossings, .ref t_greens, .ref t_leasts, .ref t_queues, .ref t_seconds, .ref t_weights, .int v_t_first, .int v_t_last, .int v_t_by, .int v_t_step, .int v_t_has, .int v_t_cycle, .int v_t_aim, .int v_t_proved, .ref t_offsets, .ref t_row, .ref t_open, .int v_t_arrivals, .ref t_places, .ref t_times, .ref t_cars, .ref t_hourCrossings, .ref t_hourCycles, .ref t_hourOffsets])), (t_places, .inl (K 0, 40, .inl (upd v_t_places v_t_arrivals.toNatClampNeg (x1 + (1 : Int32))))), (t_times, .inl (K 0, 40, .inl (upd v_t_times v_t_arrivals.toNatClampNeg x3))), (t_cars, .inl (K 0, 40, .inl (upd v_t_cars v_t_arrivals.toNatClampNeg x4)))] H := hP
                  have hD : va_D A [(t, .inr (8, [.int v_t_crossings, .ref t_greens, .ref t_leasts, .ref t_queues, .ref t_seconds, .ref t_weights, .int v_t_first, .int v_t_last, .int v_t_by, .int v_t_step, .int v_t_has, .int v_t_cycle, .int v_t_aim, .int v_t_proved, .ref t_offsets, .ref t_row, .ref t_open, .int v_t_arrivals, .ref t_places, .ref t_times, .ref t_cars, .ref t_hourCrossings, .ref t_hourCycles, .ref t_hourOffsets])), (t_places, .inl (K 0, 40, .inl (upd v_t_places v_t_arrivals.toNatClampNeg (x1 + (1 : Int32))))), (t_times, .inl (K 0, 40, .inl (upd v_t_times v_t_arrivals.toNatClampNeg x3))), (t_cars, .inl (K 0, 40, .inl (upd v_t_cars v_t_arrivals.toNatClampNeg x4)))] := hD
                  refine lv_aload_n hx hb d_Mo_arrive_127 rfl (lv_at hl 1 rfl) ?_
                  refine lv_dup hx hb d_Mo_arrive_128 rfl ?_
                  refine va_get (D := G) (ci := 8) (v := .int v_t_arrivals) (C := R_Mo) (T := F_Mo) (N := 24) hx hb hts i_Mo hown hK hP 0 rfl rfl 17 (by decide) (hts _ lk_499) (fun _ h9 => h9) rfl d_Mo_arrive_129 ?_
                  refine lv_iconst (v := (1 : Int32)) hx hb d_Mo_arrive_132 (by decide) ?_
                  refine lv_iadd hx hb d_Mo_arrive_133 ?_
                  refine va_put (D := G) (ci := 8) (v := .int (v_t_arrivals + (1 : Int32))) (ty := .int) (C := R_Mo) (T := F_Mo) (N := 24) hx hb hts i_Mo t_Mo t_Mo_ok n_Mo hown hK hP hD hS 0 rfl rfl 17 (by decide) (hts _ lk_499) (fun _ h9 => h9) rfl (by decide +kernel) rfl rfl (Nat.le_of_ble_eq_true rfl) d_Mo_arrive_134 (fun H locs hP hD hS => ?_)
                  have hP : va_P G classes [(t, .inr (8, [.int v_t_crossings, .ref t_greens, .ref t_leasts, .ref t_queues, .ref t_seconds, .ref t_weights, .int v_t_first, .int v_t_last, .int v_t_by, .int v_t_step, .int v_t_has, .int v_t_cycle, .int v_t_aim, .int v_t_proved, .ref t_offsets, .ref t_row, .ref t_open, .int (v_t_arrivals + (1 : Int32)), .ref t_places, .ref t_times, .ref t_cars, .ref t_hourCrossings, .ref t_hourCycles, .ref t_hourOffsets])), (t_places, .inl (K 0, 40, .inl (upd v_t_places v_t_arrivals.toNatClampNeg (x1 + (1 : Int32))))), (t_times, .inl (K 0, 40, .inl (upd v_t_times v_t_arrivals.toNatClampNeg x3))), (t_cars, .inl (K 0, 40, .inl (upd v_t_cars v_t_arrivals.toNatClampNeg x4)))] H := hP
                  have hD : va_D A [(t, .inr (8, [.int v_t_crossings, .ref t_greens, .ref t_leasts, .ref t_queues, .ref t_seconds, .ref t_weights, .int v_t_first, .int v_t_last, .int v_t_by, .int v_t_step, .int v_t_has, .int v_t_cycle, .int v_t_aim, .int v_t_proved, .ref t_offsets, .ref t_row, .ref t_open, .int (v_t_arrivals + (1 : Int32)), .ref t_places, .ref t_times, .ref t_cars, .ref t_hourCrossings, .ref t_hourCycles, .ref t_hourOffsets])), (t_places, .inl (K 0, 40, .inl (upd v_t_places v_t_arrivals.toNatClampNeg (x1 + (1 : Int32))))), (t_times, .inl (K 0, 40, .inl (upd v_t_times v_t_arrivals.toNatClampNeg x3))), (t_cars, .inl (K 0, 40, .inl (upd v_t_cars v_t_arrivals.toNatClampNeg x4)))] := hD
                  refine lv_iload hx hb d_Mo_arrive_137 (lv_at hl 0 rfl) ?_
                  obtain rfl := Option.some.inj hF
                  exact W.zret (v := (1 : Int32)) hx hb hr rfl (fun t ht hW => ⟨⟨(), rfl, by rw [ht]; exact hP, hD⟩, hS.F ht⟩) hS.2.2 d_Mo_arrive_139
def p_Mo_delay_45 (n : Nat) : Nat → Int32 → (Nat → Int32) → (Nat → Int32) → Int32 → Int64 → Int64 → Int32 → Int32 → (Nat → Int32) → Option (Int32)
  | 0, _, _, _, _, _, _, _, _, _ => none
  | k + 1, v_t_cycle, v_t_places, v_t_times, z1, z2, z4, z6, z7, v_t_open =>
    if dk_in z6 40 = true then
      if dk_in z6 40 = true then
        if v_t_cycle = 0 then none else
        if dk_in (((120 : Int32) * (v_t_places z6.toNatClampNeg)) + (((v_t_times z6.toNatClampNeg) + z7) - ((v_t_times z6.toNatClampNeg) + z7) / v_t_cycle * v_t_cycle)) 600 = true then
          if (v_t_open (((120 : Int32) * (v_t_places z6.toNatClampNeg)) + (((v_t_times z6.toNatClampNeg) + z7) - ((v_t_times z6.toNatClampNeg) + z7) / v_t_cycle * v_t_cycle)).toNatClampNeg) = 0 then
            p_Mo_delay_45 n k v_t_cycle v_t_places v_t_times z1 z2 z4 z6 (z7 + (1 : Int32)) v_t_open
          else
            some z7
        else none
      else none
    else none
theorem q_Mo_delay_45 (n k : Nat) (v_t_cycle : Int32) (v_t_places : Nat → Int32) (v_t_times : Nat → Int32) (z1 : Int32) (z2 : Int64) (z4 : Int64) (z6 : Int32) (z7 : Int32) (v_t_open : Nat → Int32) : p_Mo_delay_45 n (k + 1) v_t_cycle v_t_places v_t_times z1 z2 z4 z6 z7 v_t_open =
    if dk_in z6 40 = true then
      if dk_in z6 40 = true then
        if v_t_cycle = 0 then none else
        if dk_in (((120 : Int32) * (v_t_places z6.toNatClampNeg)) + (((v_t_times z6.toNatClampNeg) + z7) - ((v_t_times z6.toNatClampNeg) + z7) / v_t_cycle * v_t_cycle)) 600 = true then
          if (v_t_open (((120 : Int32) * (v_t_places z6.toNatClampNeg)) + (((v_t_times z6.toNatClampNeg) + z7) - ((v_t_times z6.toNatClampNeg) + z7) / v_t_cycle * v_t_cycle)).toNatClampNeg) = 0 then
            p_Mo_delay_45 n k v_t_cycle v_t_places v_t_times z1 z2 z4 z6 (z7 + (1 : Int32)) v_t_open
          else
            some z7
        else none
      else none
    else none := rfl
def p_Mo_delay_33 (n : Nat) : Nat → Int32 → Int32 → (Nat → Int32) → (Nat → Int32) → (Nat → Int32) → Int32 → Int64 → Int64 → Int32 → (Nat → Int32) → Option (Int64 × Int64)
  | 0, _, _, _, _, _, _, _, _, _, _ => none
  | k + 1, v_t_cycle, v_t_arrivals, v_t_places, v_t_times, v_t_cars, z1, z2, z4, z6, v_t_open =>
    if v_t_arrivals ≤ z6 then
      some (z2, z4)
    else
      (p_Mo_delay_45 n n v_t_cycle v_t_places v_t_times z1 z2 z4 z6 (0 : Int32) v_t_open).bind fun q45_7 =>
      if dk_in z6 40 = true then
        if q45_7 = 0 then
          if dk_in z6 40 = true then
            p_Mo_delay_33 n k v_t_cycle v_t_arrivals v_t_places v_t_times v_t_cars z1 (z2 + (q45_7.toInt64 * ((v_t_cars z6.toNatClampNeg).toInt64))) (z4 + ((v_t_cars z6.toNatClampNeg).toInt64)) (z6 + (1 : Int32)) v_t_open
          else none
        else
          p_Mo_delay_33 n k v_t_cycle v_t_arrivals v_t_places v_t_times v_t_cars z1 (z2 + (q45_7.toInt64 * ((v_t_cars z6.toNatClampNeg).toInt64))) (z4 + (0 : Int64)) (z6 + (1 : Int32)) v_t_open
      else none
theorem q_Mo_delay_33 (n k : Nat) (v_t_cycle : Int32) (v_t_arrivals : Int32) (v_t_places : Nat → Int32) (v_t_times : Nat → Int32) (v_t_cars : Nat → Int32) (z1 : Int32) (z2 : Int64) (z4 : Int64) (z6 : Int32) (v_t_open : Nat → Int32) : p_Mo_delay_33 n (k + 1) v_t_cycle v_t_arrivals v_t_places v_t_times v_t_cars z1 z2 z4 z6 v_t_open =
    if v_t_arrivals ≤ z6 then
      some (z2, z4)
    else
      (p_Mo_delay_45 n n v_t_cycle v_t_places v_t_times z1 z2 z4 z6 (0 : Int32) v_t_open).bind fun q45_7 =>
      if dk_in z6 40 = true then
        if q45_7 = 0 then
          if dk_in z6 40 = true then
            p_Mo_delay_33 n k v_t_cycle v_t_arrivals v_t_places v_t_times v_t_cars z1 (z2 + (q45_7.toInt64 * ((v_t_cars z6.toNatClampNeg).toInt64))) (z4 + ((v_t_cars z6.toNatClampNeg).toInt64)) (z6 + (1 : Int32)) v_t_open
          else none
        else
          p_Mo_delay_33 n k v_t_cycle v_t_arrivals v_t_places v_t_times v_t_cars z1 (z2 + (q45_7.toInt64 * ((v_t_cars z6.toNatClampNeg).toInt64))) (z4 + (0 : Int64)) (z6 + (1 : Int32)) v_t_open
      else none := rfl
def p_Mo_delay (n : Nat) (x1 : Int32) (v_t_has : Int32) (v_t_crossings : Int32) (v_t_offsets : Nat → Int32) (v_t_cycle : Int32) (v_t_greens : Nat → Int32) (v_t_queues : Nat → Int32) (v_t_arrivals : Int32) (v_t_places : Nat → Int32) (v_t_times : Nat → Int32) (v_t_cars : Nat → Int32) (v_t_open : Nat → Int32) : Option (Int64 × (Nat → Int32)) :=
  if v_t_has = 0 then
    some (((-1) : Int64), v_t_open)
  else
    (p_Mo_isIn n x1.toInt64 (0 : Int64) (1 : Int64)).bind fun r11_2 =>
    if r11_2 = 0 then
      some (((-1) : Int64), v_t_open)
    else
      (p_Mo_layPlan n v_t_crossings v_t_offsets v_t_cycle v_t_greens v_t_queues v_t_open).bind fun r22_4 =>
      (p_Mo_delay_33 n n v_t_cycle v_t_arrivals v_t_places v_t_times v_t_cars x1 (0 : Int64) (0 : Int64) (0 : Int32) r22_4).bind fun q33_9 =>
      if x1 = 0 then
        some (q33_9.1, r22_4)
      else
        some (q33_9.2, r22_4)
abbrev m_Mo_delay : Room := { frames := 2, cells := 0, slots := 0, locals := 46 }
set_option maxHeartbeats 4000000 in
set_option maxRecDepth 100000 in
theorem c_Mo_delay (l : Launch) (G : va_G) (K : Nat → ClassId) (n : Nat) (sz : Nat) (t : Nat) (t_greens : Nat) (t_leasts : Nat) (t_queues : Nat) (t_seconds : Nat) (t_weights : Nat) (t_offsets : Nat) (t_row : Nat) (t_open : Nat) (t_places : Nat) (t_times : Nat) (t_cars : Nat) (t_hourCrossings : Nat) (t_hourCycles : Nat) (t_hourOffsets : Nat) (x1 : Int32) (v_t_crossings : Int32) (v_t_first : Int32) (v_t_last : Int32) (v_t_by : Int32) (v_t_step : Int32) (v_t_has : Int32) (v_t_cycle : Int32) (v_t_aim : Int32) (v_t_proved : Int32) (v_t_arrivals : Int32) (v_t_greens : Nat → Int32) (v_t_queues : Nat → Int32) (v_t_offsets : Nat → Int32) (v_t_open : Nat → Int32) (v_t_places : Nat → Int32) (v_t_times : Nat → Int32) (v_t_cars : Nat → Int32) (o : Int64 × (Nat → Int32)) (hF : p_Mo_delay n x1 v_t_has v_t_crossings v_t_offsets v_t_cycle v_t_greens v_t_queues v_t_arrivals v_t_places v_t_times v_t_cars v_t_open = some o) :
    Met l y_Mo_delay (wd y_Mo_delay b_Mo_delay 8 (some .long)) m_Mo_delay (dk_Pm [.ref t, .int x1] G K [(t, .inr (8, [.int v_t_crossings, .ref t_greens, .ref t_leasts, .ref t_queues, .ref t_seconds, .ref t_weights, .int v_t_first, .int v_t_last, .int v_t_by, .int v_t_step, .int v_t_has, .int v_t_cycle, .int v_t_aim, .int v_t_proved, .ref t_offsets, .ref t_row, .ref t_open, .int v_t_arrivals, .ref t_places, .ref t_times, .ref t_cars, .ref t_hourCrossings, .ref t_hourCycles, .ref t_hourOffsets])), (t_greens, .inl (K 0, 5, .inl v_t_greens)), (t_queues, .inl (K 0, 5, .inl v_t_queues)), (t_offsets, .inl (K 0, 5, .inl v_t_offsets)), (t_open, .inl (K 3, 600, .inl v_t_open)), (t_places, .inl (K 0, 40, .inl v_t_places)), (t_times, .inl (K 0, 40, .inl v_t_times)), (t_cars, .inl (K 0, 40, .inl v_t_cars))] sz) (dk_Qm (some (.long o.1)) G (fun _ : Unit => [(t, .inr (8, [.int v_t_crossings, .ref t_greens, .ref t_leasts, .ref t_queues, .ref t_seconds, .ref t_weights, .int v_t_first, .int v_t_last, .int v_t_by, .int v_t_step, .int v_t_has, .int v_t_cycle, .int v_t_aim, .int v_t_proved, .ref t_offsets, .ref t_row, .ref t_open, .int v_t_arrivals, .ref t_places, .ref t_times, .ref t_cars, .ref t_hourCrossings, .ref t_hourCycles, .ref t_hourOffsets])), (t_greens, .inl (K 0, 5, .inl v_t_greens)), (t_queues, .inl (K 0, 5, .inl v_t_queues)), (t_offsets, .inl (K 0, 5, .inl v_t_offsets)), (t_open, .inl (K 3, 600, .inl o.2)), (t_places, .inl (K 0, 40, .inl v_t_places)), (t_times, .inl (K 0, 40, .inl v_t_times)), (t_cars, .inl (K 0, 40, .inl v_t_cars))]) (va_A [(t, .inr (8, [.int v_t_crossings, .ref t_greens, .ref t_leasts, .ref t_queues, .ref t_seconds, .ref t_weights, .int v_t_first, .int v_t_last, .int v_t_by, .int v_t_step, .int v_t_has, .int v_t_cycle, .int v_t_aim, .int v_t_proved, .ref t_offsets, .ref t_row, .ref t_open, .int v_t_arrivals, .ref t_places, .ref t_times, .ref t_cars, .ref t_hourCrossings, .ref t_hourCycles, .ref t_hourOffsets])), (t_greens, .inl (K 0, 5, .inl v_t_greens)), (t_queues, .inl (K 0, 5, .inl v_t_queues)), (t_offsets, .inl (K 0, 5, .inl v_t_offsets)), (t_open, .inl (K 3, 600, .inl v_t_open)), (t_places, .inl (K 0, 40, .inl v_t_places)), (t_times, .inl (K 0, 40, .inl v_t_times)), (t_cars, .inl (K 0, 40, .inl v_t_cars))] sz)) 0 0 (va_A [(t, .inr (8, [.int v_t_crossings, .ref t_greens, .ref t_leasts, .ref t_queues, .ref t_seconds, .ref t_weights, .int v_t_first, .int v_t_last, .int v_t_by, .int v_t_step, .int v_t_has, .int v_t_cycle, .int v_t_aim, .int v_t_proved, .ref t_offsets, .ref t_row, .ref t_open, .int v_t_arrivals, .ref t_places, .ref t_times, .ref t_cars, .ref t_hourCrossings, .ref t_hourCycles, .ref t_hourOffsets])), (t_greens, .inl (K 0, 5, .inl v_t_greens)), (t_queues, .inl (K 0, 5, .inl v_t_queues)), (t_offsets, .inl (K 0, 5, .inl v_t_offsets)), (t_open, .inl (K 3, 600, .inl v_t_open)), (t_places, .inl (K 0, 40, .inl v_t_places)), (t_times, .inl (K 0, 40, .inl v_t_times)), (t_cars, .inl (K 0, 40, .inl v_t_cars))] sz) := by
  refine Met.ofW (cc := b_Mo_delay) (maxL := 8) (ret := (some .long)) (by decide) rfl ?_
  intro p e s m args below meth c s₁ B hml hv
  obtain ⟨rfl, hsz, hP, hK, hN, hD0⟩ := hv
  have hx := B.exec
  have hb := B.bytes
  have hr := B.returns
  have hts : ∀ w ∈ lw_good, w.before _ s = true := fun w h => atoms_spec (ws := wd y_Mo_delay b_Mo_delay 8 (some .long)) B.pre w (List.mem_cons_of_mem _ h)
  have hown : s.vm.findClass R_Mo = some m.cls := findClass_of_methodNamed B.named
  have hlocks := B.notSynchronized
  have hfix : CallFix p m c b_Mo_delay 8 s _ lw_good R_Mo := ⟨hx, hb, hml, hown, hts⟩
  subst hsz
  have hD := hD0.self (sz := s.heap.size)
  generalize hAe : va_A [(t, .inr (8, [.int v_t_crossings, .ref t_greens, .ref t_leasts, .ref t_queues, .ref t_seconds, .ref t_weights, .int v_t_first, .int v_t_last, .int v_t_by, .int v_t_step, .int v_t_has, .int v_t_cycle, .int v_t_aim, .int v_t_proved, .ref t_offsets, .ref t_row, .ref t_open, .int v_t_arrivals, .ref t_places, .ref t_times, .ref t_cars, .ref t_hourCrossings, .ref t_hourCycles, .ref t_hourOffsets])), (t_greens, .inl (K 0, 5, .inl v_t_greens)), (t_queues, .inl (K 0, 5, .inl v_t_queues)), (t_offsets, .inl (K 0, 5, .inl v_t_offsets)), (t_open, .inl (K 3, 600, .inl v_t_open)), (t_places, .inl (K 0, 40, .inl v_t_places)), (t_times, .inl (K 0, 40, .inl v_t_times)), (t_cars, .inl (K 0, 40, .inl v_t_cars))] s.heap.size = A at hD ⊢
  have hA : ∀ q : Nat, s.heap.size ≤ q → A q := fun q h => by rw [← hAe]; exact Or.inr h
  have hS : va_S A s.heap s.heap [] := va_S.rf
  have hl := lv_entry ([.ref t, .int x1]) (n := 8) (Nat.le_of_ble_eq_true rfl)
  rw [lg_entry_eq]
  generalize (lg_sl ([.ref t, .int x1]) ++ List.replicate (8 - (lg_sl ([.ref t, .int x1])).length) Slot.unset).toArray = ls at hl ⊢
  have hl : lv_has ls 8 [(0, .ref t), (1, .int x1)] := hl
  change W p l e m_Mo_delay s m _ below meth c s.heap [] 0 0 _ _
  have L45 : ∀ (k : Nat) (z1 : Int32) (z2 : Int64) (z4 : Int64) (z6 : Int32) (z7 : Int32) (v_t_open : Nat → Int32) (H : Heap) (locs : List Loc) (q : Int32), p_Mo_delay_45 n k v_t_cycle v_t_places v_t_times z1 z2 z4 z6 z7 v_t_open = some q → va_P G classes [(t, .inr (8, [.int v_t_crossings, .ref t_greens, .ref t_leasts, .ref t_queues, .ref t_seconds, .ref t_weights, .int v_t_first, .int v_t_last, .int v_t_by, .int v_t_step, .int v_t_has, .int v_t_cycle, .int v_t_aim, .int v_t_proved, .ref t_offsets, .ref t_row, .ref t_open, .int v_t_arrivals, .ref t_places, .ref t_times, .ref t_cars, .ref t_hourCrossings, .ref t_hourCycles, .ref t_hourOffsets])), (t_greens, .inl (K 0, 5, .inl v_t_greens)), (t_queues, .inl (K 0, 5, .inl v_t_queues)), (t_offsets, .inl (K 0, 5, .inl v_t_offsets)), (t_open, .inl (K 3, 600, .inl v_t_open)), (t_places, .inl (K 0, 40, .inl v_t_places)), (t_times, .inl (K 0, 40, .inl v_t_times)), (t_cars, .inl (K 0, 40, .inl v_t_cars))] H → va_D A [(t, .inr (8, [.int v_t_crossings, .ref t_greens, .ref t_leasts, .ref t_queues, .ref t_seconds, .ref t_weights, .int v_t_first, .int v_t_last, .int v_t_by, .int v_t_step, .int v_t_has, .int v_t_cycle, .int v_t_aim, .int v_t_proved, .ref t_offsets, .ref t_row, .ref t_open, .int v_t_arrivals, .ref t_places, .ref t_times, .ref t_cars, .ref t_hourCrossings, .ref t_hourCycles, .ref t_hourOffsets])), (t_greens, .inl (K 0, 5, .inl v_t_greens)), (t_queues, .inl (K 0, 5, .inl v_t_queues)), (t_offsets, .inl (K 0, 5, .inl v_t_offsets)), (t_open, .inl (K 3, 600, .inl v_t_open)), (t_places, .inl (K 0, 40, .inl v_t_places)), (t_times, .inl (K 0, 40, .inl v_t_times)), (t_cars, .inl (K 0, 40, .inl v_t_cars))] → va_S A s.heap H locs → ∀ ls : Array Slot, lv_has ls 8 [(0, .ref t), (1, .int z1), (2, .long z2), (4, .long z4), (6, .int z6), (7, .int z7)] → (∀ (H1 : Heap) (locs1 : List Loc) (ls1 : Array Slot), va_P G classes [(t, .inr (8, [.int v_t_crossings, .ref t_greens, .ref t_leasts, .ref t_queues, .ref t_seconds, .ref t_weights, .int v_t_first, .int v_t_last, .int v_t_by, .int v_t_step, .int v_t_has, .int v_t_cycle, .int v_t_aim, .int v_t_proved, .ref t_offsets, .ref t_row, .ref t_open, .int v_t_arrivals, .ref t_places, .ref t_times, .ref t_cars, .ref t_hourCrossings, .ref t_hourCycles, .ref t_hourOffsets])), (t_greens, .inl (K 0, 5, .inl v_t_greens)), (t_queues, .inl (K 0, 5, .inl v_t_queues)), (t_offsets, .inl (K 0, 5, .inl v_t_offsets)), (t_open, .inl (K 3, 600, .inl v_t_open)), (t_places, .inl (K 0, 40, .inl v_t_places)), (t_times, .inl (K 0, 40, .inl v_t_times)), (t_cars, .inl (K 0, 40, .inl v_t_cars))] H1 → va_D A [(t, .inr (8, [.int v_t_crossings, .ref t_greens, .ref t_leasts, .ref t_queues, .ref t_seconds, .ref t_weights, .int v_t_first, .int v_t_last, .int v_t_by, .int v_t_step, .int v_t_has, .int v_t_cycle, .int v_t_aim, .int v_t_proved, .ref t_offsets, .ref t_row, .ref t_open, .int v_t_arrivals, .ref t_places, .ref t_times, .ref t_cars, .ref t_hourCrossings, .ref t_hourCycles, .ref t_hourOffsets])), (t_greens, .inl (K 0, 5, .inl v_t_greens)), (t_queues, .inl (K 0, 5, .inl v_t_queues)), (t_offsets, .inl (K 0, 5, .inl v_t_offsets)), (t_open, .inl (K 3, 600, .inl v_t_open)), (t_places, .inl (K 0, 40, .inl v_t_places)), (t_times, .inl (K 0, 40, .inl v_t_times)), (t_cars, .inl (K 0, 40, .inl v_t_cars))] → va_S A s.heap H1 locs1 → lv_has ls1 8 [(0, .ref t), (1, .int z1), (2, .long z2), (4, .long z4), (6, .int z6), (7, .int q)] → W p l e m_Mo_delay s m ([.ref t, .int x1] : List Value).toArray below meth c H1 locs1 0 0 (MQ below (dk_Qm (some (.long o.1)) G (fun _ : Unit => [(t, .inr (8, [.int v_t_crossings, .ref t_greens, .ref t_leasts, .ref t_queues, .ref t_seconds, .ref t_weights, .int v_t_first, .int v_t_last, .int v_t_by, .int v_t_step, .int v_t_has, .int v_t_cycle, .int v_t_aim, .int v_t_proved, .ref t_offsets, .ref t_row, .ref t_open, .int v_t_arrivals, .ref t_places, .ref t_times, .ref t_cars, .ref t_hourCrossings, .ref t_hourCycles, .ref t_hourOffsets])), (t_greens, .inl (K 0, 5, .inl v_t_greens)), (t_queues, .inl (K 0, 5, .inl v_t_queues)), (t_offsets, .inl (K 0, 5, .inl v_t_offsets)), (t_open, .inl (K 3, 600, .inl o.2)), (t_places, .inl (K 0, 40, .inl v_t_places)), (t_times, .inl (K 0, 40, .inl v_t_times)), (t_cars, .inl (K 0, 40, .inl v_t_cars))]) A) ([.ref t, .int x1] : List Value).toArray s 0 0 A) (F0 m 85 ls1 [])) → W p l e m_Mo_delay s m ([.ref t, .int x1] : List Value).toArray below meth c H locs 0 0 (MQ below (dk_Qm (some (.long o.1)) G (fun _ : Unit => [(t, .inr (8, [.int v_t_crossings, .ref t_greens, .ref t_leasts, .ref t_queues, .ref t_seconds, .ref t_weights, .int v_t_first, .int v_t_last, .int v_t_by, .int v_t_step, .int v_t_has, .int v_t_cycle, .int v_t_aim, .int v_t_proved, .ref t_offsets, .ref t_row, .ref t_open, .int v_t_arrivals, .ref t_places, .ref t_times, .ref t_cars, .ref t_hourCrossings, .ref t_hourCycles, .ref t_hourOffsets])), (t_greens, .inl (K 0, 5, .inl v_t_greens)), (t_queues, .inl (K 0, 5, .inl v_t_queues)), (t_offsets, .inl (K 0, 5, .inl v_t_offsets)), (t_open, .inl (K 3, 600, .inl o.2)), (t_places, .inl (K 0, 40, .inl v_t_places)), (t_times, .inl (K 0, 40, .inl v_t_times)), (t_cars, .inl (K 0, 40, .inl v_t_cars))]) A) ([.ref t, .int x1] : List Value).toArray s 0 0 A) (F0 m 45 ls []) := by
    intro k
    induction k with
    | zero =>
      intro z1 z2 z4 z6 z7 v_t_open H locs q hF hP hD hS ls hl hk
      exact absurd hF (by simp [p_Mo_delay_45])
    | succ k jh =>
      intro z1 z2 z4 z6 z7 v_t_open H locs q hF hP hD hS ls hl hk
      have hF := (q_Mo_delay_45 n k v_t_cycle v_t_places v_t_times z1 z2 z4 z6 z7 v_t_open).symm.trans hF
      refine lv_aload_n hx hb d_Mo_delay_45 rfl (lv_at hl 0 rfl) ?_
      refine va_get (D := G) (ci := 8) (v := .ref t_open) (C := R_Mo) (T := F_Mo) (N := 24) hx hb hts i_Mo hown hK hP 0 rfl rfl 16 (by decide) (hts _ lk_442) (fun _ h9 => h9) rfl d_Mo_delay_46 ?_
      refine lv_bipush (v := (120 : Int32)) hx hb d_Mo_delay_49 (by decide) ?_
      refine lv_aload_n hx hb d_Mo_delay_51 rfl (lv_at hl 0 rfl) ?_
      refine va_get (D := G) (ci := 8) (v := .ref t_places) (C := R_Mo) (T := F_Mo) (N := 24) hx hb hts i_Mo hown hK hP 0 rfl rfl 18 (by decide) (hts _ lk_500) (fun _ h9 => h9) rfl d_Mo_delay_52 ?_
      refine lv_iload hx hb d_Mo_delay_55 (lv_at hl 4 rfl) ?_
      obtain ⟨hi, hF⟩ := dk_a hF
      refine va_iald (D := G) hx hb hK hP 5 0 rfl rfl (dk_vp hi) d_Mo_delay_57 ?_
      refine lv_imul hx hb d_Mo_delay_58 ?_
      refine lv_aload_n hx hb d_Mo_delay_59 rfl (lv_at hl 0 rfl) ?_
      refine va_get (D := G) (ci := 8) (v := .ref t_times) (C := R_Mo) (T := F_Mo) (N := 24) hx hb hts i_Mo hown hK hP 0 rfl rfl 19 (by decide) (hts _ lk_501) (fun _ h9 => h9) rfl d_Mo_delay_60 ?_
      refine lv_iload hx hb d_Mo_delay_63 (lv_at hl 4 rfl) ?_
      obtain ⟨hi, hF⟩ := dk_a hF
      refine va_iald (D := G) hx hb hK hP 6 0 rfl rfl (dk_vp hi) d_Mo_delay_65 ?_
      refine lv_iload hx hb d_Mo_delay_66 (lv_at hl 5 rfl) ?_
      refine lv_iadd hx hb d_Mo_delay_68 ?_
      refine lv_aload_n hx hb d_Mo_delay_69 rfl (lv_at hl 0 rfl) ?_
      refine va_get (D := G) (ci := 8) (v := .int v_t_cycle) (C := R_Mo) (T := F_Mo) (N := 24) hx hb hts i_Mo hown hK hP 0 rfl rfl 11 (by decide) (hts _ lk_444) (fun _ h9 => h9) rfl d_Mo_delay_70 ?_
      obtain ⟨hz, hF⟩ := dk_z hF
      refine lv_irem hx hb d_Mo_delay_73 hz ?_
      refine lv_iadd hx hb d_Mo_delay_74 ?_
      obtain ⟨hi, hF⟩ := dk_a hF
      refine va_zald (D := G) hx hb hK hP 4 3 rfl rfl (dk_vp hi) d_Mo_delay_75 ?_
      refine lv_if_ne (tgt := 85) hx hb d_Mo_delay_76 (by decide) (fun c76_6 => ?_) (fun c76_6 => ?_)
      · have hF := dk_f c76_6 hF
        obtain rfl := Option.some.inj hF
        exact hk H locs ls hP hD hS (lv_sub hl [0, 1, 2, 3, 4, 5] rfl)
      · have hF := dk_t c76_6 hF
        refine lv_iinc (v := z7 + (1 : Int32)) (lv' := [(7, .int (z7 + (1 : Int32))), (0, .ref t), (1, .int z1), (2, .long z2), (4, .long z4), (6, .int z6)]) hx hb d_Mo_delay_79 hl (k := 5) rfl rfl (by decide) rfl (fun ls hl => ?_)
        refine lv_goto (tgt := 45) hx hb d_Mo_delay_82 (by decide) ?_
        exact jh z1 z2 z4 z6 (z7 + (1 : Int32)) v_t_open H locs q hF hP hD hS ls (lv_sub hl [1, 2, 3, 4, 5, 0] rfl) hk
  have L33 : ∀ (k : Nat) (z1 : Int32) (z2 : Int64) (z4 : Int64) (z6 : Int32) (v_t_open : Nat → Int32) (H : Heap) (locs : List Loc) (q : Int64 × Int64), p_Mo_delay_33 n k v_t_cycle v_t_arrivals v_t_places v_t_times v_t_cars z1 z2 z4 z6 v_t_open = some q → va_P G classes [(t, .inr (8, [.int v_t_crossings, .ref t_greens, .ref t_leasts, .ref t_queues, .ref t_seconds, .ref t_weights, .int v_t_first, .int v_t_last, .int v_t_by, .int v_t_step, .int v_t_has, .int v_t_cycle, .int v_t_aim, .int v_t_proved, .ref t_offsets, .ref t_row, .ref t_open, .int v_t_arrivals, .ref t_places, .ref t_times, .ref t_cars, .ref t_hourCrossings, .ref t_hourCycles, .ref t_hourOffsets])), (t_greens, .inl (K 0, 5, .inl v_t_greens)), (t_queues, .inl (K 0, 5, .inl v_t_queues)), (t_offsets, .inl (K 0, 5, .inl v_t_offsets)), (t_open, .inl (K 3, 600, .inl v_t_open)), (t_places, .inl (K 0, 40, .inl v_t_places)), (t_times, .inl (K 0, 40, .inl v_t_times)), (t_cars, .inl (K 0, 40, .inl v_t_cars))] H → va_D A [(t, .inr (8, [.int v_t_crossings, .ref t_greens, .ref t_leasts, .ref t_queues, .ref t_seconds, .ref t_weights, .int v_t_first, .int v_t_last, .int v_t_by, .int v_t_step, .int v_t_has, .int v_t_cycle, .int v_t_aim, .int v_t_proved, .ref t_offsets, .ref t_row, .ref t_open, .int v_t_arrivals, .ref t_places, .ref t_times, .ref t_cars, .ref t_hourCrossings, .ref t_hourCycles, .ref t_hourOffsets])), (t_greens, .inl (K 0, 5, .inl v_t_greens)), (t_queues, .inl (K 0, 5, .inl v_t_queues)), (t_offsets, .inl (K 0, 5, .inl v_t_offsets)), (t_open, .inl (K 3, 600, .inl v_t_open)), (t_places, .inl (K 0, 40, .inl v_t_places)), (t_times, .inl (K 0, 40, .inl v_t_times)), (t_cars, .inl (K 0, 40, .inl v_t_cars))] → va_S A s.heap H locs → ∀ ls : Array Slot, lv_has ls 8 [(0, .ref t), (1, .int z1), (2, .long z2), (4, .long z4), (6, .int z6)] → (∀ (H1 : Heap) (locs1 : List Loc) (ls1 : Array Slot), va_P G classes [(t, .inr (8, [.int v_t_crossings, .ref t_greens, .ref t_leasts, .ref t_queues, .ref t_seconds, .ref t_weights, .int v_t_first, .int v_t_last, .int v_t_by, .int v_t_step, .int v_t_has, .int v_t_cycle, .int v_t_aim, .int v_t_proved, .ref t_offsets, .ref t_row, .ref t_open, .int v_t_arrivals, .ref t_places, .ref t_times, .ref t_cars, .ref t_hourCrossings, .ref t_hourCycles, .ref t_hourOffsets])), (t_greens, .inl (K 0, 5, .inl v_t_greens)), (t_queues, .inl (K 0, 5, .inl v_t_queues)), (t_offsets, .inl (K 0, 5, .inl v_t_offsets)), (t_open, .inl (K 3, 600, .inl v_t_open)), (t_places, .inl (K 0, 40, .inl v_t_places)), (t_times, .inl (K 0, 40, .inl v_t_times)), (t_cars, .inl (K 0, 40, .inl v_t_cars))] H1 → va_D A [(t, .inr (8, [.int v_t_crossings, .ref t_greens, .ref t_leasts, .ref t_queues, .ref t_seconds, .ref t_weights, .int v_t_first, .int v_t_last, .int v_t_by, .int v_t_step, .int v_t_has, .int v_t_cycle, .int v_t_aim, .int v_t_proved, .ref t_offsets, .ref t_row, .ref t_open, .int v_t_arrivals, .ref t_places, .ref t_times, .ref t_cars, .ref t_hourCrossings, .ref t_hourCycles, .ref t_hourOffsets])), (t_greens, .inl (K 0, 5, .inl v_t_greens)), (t_queues, .inl (K 0, 5, .inl v_t_queues)), (t_offsets, .inl (K 0, 5, .inl v_t_offsets)), (t_open, .inl (K 3, 600, .inl v_t_open)), (t_places, .inl (K 0, 40, .inl v_t_places)), (t_times, .inl (K 0, 40, .inl v_t_times)), (t_cars, .inl (K 0, 40, .inl v_t_cars))] → va_S A s.heap H1 locs1 → lv_has ls1 8 [(1, .int z1), (2, .long q.1), (4, .long q.2)] → W p l e m_Mo_delay s m ([.ref t, .int x1] : List Value).toArray below meth c H1 locs1 0 0 (MQ below (dk_Qm (some (.long o.1)) G (fun _ : Unit => [(t, .inr (8, [.int v_t_crossings, .ref t_greens, .ref t_leasts, .ref t_queues, .ref t_seconds, .ref t_weights, .int v_t_first, .int v_t_last, .int v_t_by, .int v_t_step, .int v_t_has, .int v_t_cycle, .int v_t_aim, .int v_t_proved, .ref t_offsets, .ref t_row, .ref t_open, .int v_t_arrivals, .ref t_places, .ref t_times, .ref t_cars, .ref t_hourCrossings, .ref t_hourCycles, .ref t_hourOffsets])), (t_greens, .inl (K 0, 5, .inl v_t_greens)), (t_queues, .inl (K 0, 5, .inl v_t_queues)), (t_offsets, .inl (K 0, 5, .inl v_t_offsets)), (t_open, .inl (K 3, 600, .inl o.2)), (t_places, .inl (K 0, 40, .inl v_t_places)), (t_times, .inl (K 0, 40, .inl v_t_times)), (t_cars, .inl (K 0, 40, .inl v_t_cars))]) A) ([.ref t, .int x1] : List Value).toArray s 0 0 A) (F0 m 128 ls1 [])) → W p l e m_Mo_delay s m ([.ref t, .int x1] : List Value).toArray below meth c H locs 0 0 (MQ below (dk_Qm (some (.long o.1)) G (fun _ : Unit => [(t, .inr (8, [.int v_t_crossings, .ref t_greens, .ref t_leasts, .ref t_queues, .ref t_seconds, .ref t_weights, .int v_t_first, .int v_t_last, .int v_t_by, .int v_t_step, .int v_t_has, .int v_t_cycle, .int v_t_aim, .int v_t_proved, .ref t_offsets, .ref t_row, .ref t_open, .int v_t_arrivals, .ref t_places, .ref t_times, .ref t_cars, .ref t_hourCrossings, .ref t_hourCycles, .ref t_hourOffsets])), (t_greens, .inl (K 0, 5, .inl v_t_greens)), (t_queues, .inl (K 0, 5, .inl v_t_queues)), (t_offsets, .inl (K 0, 5, .inl v_t_offsets)), (t_open, .inl (K 3, 600, .inl o.2)), (t_places, .inl (K 0, 40, .inl v_t_places)), (t_times, .inl (K 0, 40, .inl v_t_times)), (t_cars, .inl (K 0, 40, .inl v_t_cars))]) A) ([.ref t, .int x1] : List Value).toArray s 0 0 A) (F0 m 33 ls []) := by
    intro k
    induction k with
    | zero =>
      intro z1 z2 z4 z6 v_t_open H locs q hF hP hD hS ls hl hk
      exact absurd hF (by simp [p_Mo_delay_33])
    | succ k jh =>
      intro z1 z2 z4 z6 v_t_open H locs q hF hP hD hS ls hl hk
      have hF := (q_Mo_delay_33 n k v_t_cycle v_t_arrivals v_t_places v_t_times v_t_cars z1 z2 z4 z6 v_t_open).symm.trans hF
      refine lv_iload hx hb d_Mo_delay_33 (lv_at hl 4 rfl) ?_
      refine lv_aload_n hx hb d_Mo_delay_35 rfl (lv_at hl 0 rfl) ?_
      refine va_get (D := G) (ci := 8) (v := .int v_t_arrivals) (C := R_Mo) (T := F_Mo) (N := 24) hx hb hts i_Mo hown hK hP 0 rfl rfl 17 (by decide) (hts _ lk_499) (fun _ h9 => h9) rfl d_Mo_delay_36 ?_
      refine lv_icmp_ge (tgt := 128) hx hb d_Mo_delay_39 (by decide) (fun c39_5 => ?_) (fun c39_5 => ?_)
      · have hF := dk_t c39_5 hF
        obtain rfl := Option.some.inj hF
        exact hk H locs ls hP hD hS (lv_sub hl [1, 2, 3] rfl)
      · have hF := dk_f c39_5 hF
        refine lv_iconst (v := (0 : Int32)) hx hb d_Mo_delay_42 (by decide) ?_
        refine lv_istore (lv' := [(7, .int (0 : Int32)), (0, .ref t), (1, .int z1), (2, .long z2), (4, .long z4), (6, .int z6)]) hx hb d_Mo_delay_43 hl (by decide) rfl (fun ls hl => ?_)
        obtain ⟨q45_7, hC, hF⟩ := dk_b hF
        refine L45 n z1 z2 z4 z6 (0 : Int32) v_t_open H locs q45_7 hC hP hD hS ls (lv_sub hl [1, 2, 3, 4, 5, 0] rfl) (fun H locs ls hP hD hS hl => ?_)
        refine lv_lload_n hx hb d_Mo_delay_85 rfl (lv_at hl 2 rfl) ?_
        refine lv_iload hx hb d_Mo_delay_86 (lv_at hl 5 rfl) ?_
        refine lv_i2l hx hb d_Mo_delay_88 rfl ?_
        refine lv_aload_n hx hb d_Mo_delay_89 rfl (lv_at hl 0 rfl) ?_
        refine va_get (D := G) (ci := 8) (v := .ref t_cars) (C := R_Mo) (T := F_Mo) (N := 24) hx hb hts i_Mo hown hK hP 0 rfl rfl 20 (by decide) (hts _ lk_502) (fun _ h9 => h9) rfl d_Mo_delay_90 ?_
        refine lv_iload hx hb d_Mo_delay_93 (lv_at hl 4 rfl) ?_
        obtain ⟨hi, hF⟩ := dk_a hF
        refine va_iald (D := G) hx hb hK hP 7 0 rfl rfl (dk_vp hi) d_Mo_delay_95 ?_
        refine lv_i2l hx hb d_Mo_delay_96 rfl ?_
        refine lv_lmul hx hb d_Mo_delay_97 ?_
        refine lv_ladd hx hb d_Mo_delay_98 ?_
        refine lv_lstore_n (lv' := [(2, .long (z2 + (q45_7.toInt64 * ((v_t_cars z6.toNatClampNeg).toInt64)))), (0, .ref t), (1, .int z1), (4, .long z4), (6, .int z6), (7, .int q45_7)]) hx hb d_Mo_delay_99 rfl hl (by decide) rfl (fun ls hl => ?_)
        refine lv_lload hx hb d_Mo_delay_100 (lv_at hl 3 rfl) ?_
        refine lv_iload hx hb d_Mo_delay_102 (lv_at hl 5 rfl) ?_
        refine lv_if_ne (tgt := 118) hx hb d_Mo_delay_104 (by decide) (fun c104_8 => ?_) (fun c104_8 => ?_)
        · have hF := dk_f c104_8 hF
          refine lv_lconst (v := (0 : Int64)) hx hb d_Mo_delay_118 (by decide) ?_
          refine lv_ladd hx hb d_Mo_delay_119 ?_
          refine lv_lstore (lv' := [(4, .long (z4 + (0 : Int64))), (2, .long (z2 + (q45_7.toInt64 * ((v_t_cars z6.toNatClampNeg).toInt64)))), (0, .ref t), (1, .int z1), (6, .int z6), (7, .int q45_7)]) hx hb d_Mo_delay_120 hl (by decide) rfl (fun ls hl => ?_)
          refine lv_iinc (v := z6 + (1 : Int32)) (lv' := [(6, .int (z6 + (1 : Int32))), (4, .long (z4 + (0 : Int64))), (2, .long (z2 + (q45_7.toInt64 * ((v_t_cars z6.toNatClampNeg).toInt64)))), (0, .ref t), (1, .int z1), (7, .int q45_7)]) hx hb d_Mo_delay_122 hl (k := 4) rfl rfl (by decide) rfl (fun ls hl => ?_)
          refine lv_goto (tgt := 33) hx hb d_Mo_delay_125 (by decide) ?_
          exact jh z1 (z2 + (q45_7.toInt64 * ((v_t_cars z6.toNatClampNeg).toInt64))) (z4 + (0 : Int64)) (z6 + (1 : Int32)) v_t_open H locs q hF hP hD hS ls (lv_sub hl [3, 4, 2, 1, 0] rfl) hk
        · have hF := dk_t c104_8 hF
          refine lv_aload_n hx hb d_Mo_delay_107 rfl (lv_at hl 1 rfl) ?_
          refine va_get (D := G) (ci := 8) (v := .ref t_cars) (C := R_Mo) (T := F_Mo) (N := 24) hx hb hts i_Mo hown hK hP 0 rfl rfl 20 (by decide) (hts _ lk_502) (fun _ h9 => h9) rfl d_Mo_delay_108 ?_
          refine lv_iload hx hb d_Mo_delay_111 (lv_at hl 4 rfl) ?_
          obtain ⟨hi, hF⟩ := dk_a hF
          refine va_iald (D := G) hx hb hK hP 7 0 rfl rfl (dk_vp hi) d_Mo_delay_113 ?_
          refine lv_i2l hx hb d_Mo_delay_114 rfl ?_
          refine lv_goto (tgt := 119) hx hb d_Mo_delay_115 (by decide) ?_
          refine lv_ladd hx hb d_Mo_delay_119 ?_
          refine lv_lstore (lv' := [(4, .long (z4 + ((v_t_cars z6.toNatClampNeg).toInt64))), (2, .long (z2 + (q45_7.toInt64 * ((v_t_cars z6.toNatClampNeg).toInt64)))), (0, .ref t), (1, .int z1), (6, .int z6), (7, .int q45_7)]) hx hb d_Mo_delay_120 hl (by decide) rfl (fun ls hl => ?_)
          refine lv_iinc (v := z6 + (1 : Int32)) (lv' := [(6, .int (z6 + (1 : Int32))), (4, .long (z4 + ((v_t_cars z6.toNatClampNeg).toInt64))), (2, .long (z2 + (q45_7.toInt64 * ((v_t_cars z6.toNatClampNeg).toInt64)))), (0, .ref t), (1, .int z1), (7, .int q45_7)]) hx hb d_Mo_delay_122 hl (k := 4) rfl rfl (by decide) rfl (fun ls hl => ?_)
          refine lv_goto (tgt := 33) hx hb d_Mo_delay_125 (by decide) ?_
          exact jh z1 (z2 + (q45_7.toInt64 * ((v_t_cars z6.toNatClampNeg).toInt64))) (z4 + ((v_t_cars z6.toNatClampNeg).toInt64)) (z6 + (1 : Int32)) v_t_open H locs q hF hP hD hS ls (lv_sub hl [3, 4, 2, 1, 0] rfl) hk
  unfold p_Mo_delay at hF
  refine lv_aload_n hx hb d_Mo_delay_0 rfl (lv_at hl 0 rfl) ?_
  refine va_get (D := G) (ci := 8) (v := .int v_t_has) (C := R_Mo) (T := F_Mo) (N := 24) hx hb hts i_Mo hown hK hP 0 rfl rfl 10 (by decide) (hts _ lk_427) (fun _ h9 => h9) rfl d_Mo_delay_1 ?_
  refine lv_if_eq (tgt := 17) hx hb d_Mo_delay_4 (by decide) (fun c4_1 => ?_) (fun c4_1 => ?_)
  · have hF := dk_t c4_1 hF
    refine lv_ldc2 (own := R_Mo) (index := 145) (v := ((-1) : Int64)) hx hb hown (hts _ lk_488) d_Mo_delay_17 ?_
    obtain rfl := Option.some.inj hF
    exact W.lret (v := ((-1) : Int64)) hx hb hr (fun t ht hW => ⟨⟨(), rfl, by rw [ht]; exact hP, hD⟩, hS.F ht⟩) hS.2.2 d_Mo_delay_20
  · have hF := dk_f c4_1 hF
    refine lv_iload_n hx hb d_Mo_delay_7 rfl (lv_at hl 1 rfl) ?_
    refine lv_i2l hx hb d_Mo_delay_8 rfl ?_
    refine lv_lconst (v := (0 : Int64)) hx hb d_Mo_delay_9 (by decide) ?_
    refine lv_lconst (v := (1 : Int64)) hx hb d_Mo_delay_10 (by decide) ?_
    obtain ⟨r11_2, hC, hF⟩ := dk_b hF
    refine dk_pure (va_runS (As := [.long x1.toInt64, .long (0 : Int64), .long (1 : Int64)]) (rest := []) hfix (c_Mo_isIn l G K n x1.toInt64 (0 : Int64) (1 : Int64) r11_2 hC) (va_cwS 3 hts (gd_S lk_416 lk_418 lk_419 lk_417) rfl rfl rfl (by decide +kernel) ⟨Nat.le_of_ble_eq_true rfl, Nat.le_of_ble_eq_true rfl⟩) (dk_preS hK hN (hP.sub [] rfl)) rfl rfl hl.1 rfl (lv_room (Nat.le_of_ble_eq_true rfl)) d_Mo_delay_11 ⟨Nat.le_of_ble_eq_true rfl, Nat.le_of_ble_eq_true rfl⟩) ?_
    refine lv_if_ne (tgt := 21) hx hb d_Mo_delay_14 (by decide) (fun c14_3 => ?_) (fun c14_3 => ?_)
    · have hF := dk_f c14_3 hF
      refine lv_aload_n hx hb d_Mo_delay_21 rfl (lv_at hl 0 rfl) ?_
      obtain ⟨r22_4, hC, hF⟩ := dk_b hF
      refine dk_mutv (wr := [(t_places, .inl (K 0, 40, .inl v_t_places)), (t_times, .inl (K 0, 40, .inl v_t_times)), (t_cars, .inl (K 0, 40, .inl v_t_cars))]) (va_runV (As := []) (rest := []) hfix (c_Mo_layPlan l G K n s.heap.size t t_greens t_leasts t_queues t_seconds t_weights t_offsets t_row t_open t_places t_times t_cars t_hourCrossings t_hourCycles t_hourOffsets v_t_crossings v_t_first v_t_last v_t_by v_t_step v_t_has v_t_cycle v_t_aim v_t_proved v_t_arrivals v_t_greens v_t_queues v_t_offsets v_t_open r22_4 hC) (cwV 0 hts (gd_V lk_493 lk_495 lk_496 lk_419 lk_494) rfl rfl rfl (by decide +kernel) ⟨Nat.le_of_ble_eq_true rfl, Nat.le_of_ble_eq_true rfl⟩) (dk_preVm hK hN (hP.sub [0, 1, 2, 3, 4] rfl) (hD.sub [0, 1, 2, 3, 4] (by decide) rfl) (va_recv hK hP (ci := 8) (q0 := 0) rfl rfl)) rfl rfl hl.1 rfl (lv_room (Nat.le_of_ble_eq_true rfl)) d_Mo_delay_22 ⟨Nat.le_of_ble_eq_true rfl, Nat.le_of_ble_eq_true rfl⟩) hS hA hP hD [0, 1, 2, 3, 4] [5, 6, 7] rfl rfl (by decide) (by decide) (fun _ H locs hP hD hS => ?_)
      have hP : va_P G classes [(t, .inr (8, [.int v_t_crossings, .ref t_greens, .ref t_leasts, .ref t_queues, .ref t_seconds, .ref t_weights, .int v_t_first, .int v_t_last, .int v_t_by, .int v_t_step, .int v_t_has, .int v_t_cycle, .int v_t_aim, .int v_t_proved, .ref t_offsets, .ref t_row, .ref t_open, .int v_t_arrivals, .ref t_places, .ref t_times, .ref t_cars, .ref t_hourCrossings, .ref t_hourCycles, .ref t_hourOffsets])), (t_greens, .inl (K 0, 5, .inl v_t_greens)), (t_queues, .inl (K 0, 5, .inl v_t_queues)), (t_offsets, .inl (K 0, 5, .inl v_t_offsets)), (t_open, .inl (K 3, 600, .inl r22_4)), (t_places, .inl (K 0, 40, .inl v_t_places)), (t_times, .inl (K 0, 40, .inl v_t_times)), (t_cars, .inl (K 0, 40, .inl v_t_cars))] H := hP.sub [3, 4, 5, 6, 7, 0, 1, 2] rfl
      have hD : va_D A [(t, .inr (8, [.int v_t_crossings, .ref t_greens, .ref t_leasts, .ref t_queues, .ref t_seconds, .ref t_weights, .int v_t_first, .int v_t_last, .int v_t_by, .int v_t_step, .int v_t_has, .int v_t_cycle, .int v_t_aim, .int v_t_proved, .ref t_offsets, .ref t_row, .ref t_open, .int v_t_arrivals, .ref t_places, .ref t_times, .ref t_cars, .ref t_hourCrossings, .ref t_hourCycles, .ref t_hourOffsets])), (t_greens, .inl (K 0, 5, .inl v_t_greens)), (t_queues, .inl (K 0, 5, .inl v_t_queues)), (t_offsets, .inl (K 0, 5, .inl v_t_offsets)), (t_open, .inl (K 3, 600, .inl r22_4)), (t_places, .inl (K 0, 40, .inl v_t_places)), (t_times, .inl (K 0, 40, .inl v_t_times)), (t_cars, .inl (K 0, 40, .inl v_t_cars))] := hD.sub [3, 4, 5, 6, 7, 0, 1, 2] (by decide) rfl
      refine lv_lconst (v := (0 : Int64)) hx hb d_Mo_delay_25 (by decide) ?_
      refine lv_lstore_n (lv' := [(2, .long (0 : Int64)), (0, .ref t), (1, .int x1)]) hx hb d_Mo_delay_26 rfl hl (by decide) rfl (fun ls hl => ?_)
      refine lv_lconst (v := (0 : Int64)) hx hb d_Mo_delay_27 (by decide) ?_
      refine lv_lstore (lv' := [(4, .long (0 : Int64)), (2, .long (0 : Int64)), (0, .ref t), (1, .int x1)]) hx hb d_Mo_delay_28 hl (by decide) rfl (fun ls hl => ?_)
      refine lv_iconst (v := (0 : Int32)) hx hb d_Mo_delay_30 (by decide) ?_
      refine lv_istore (lv' := [(6, .int (0 : Int32)), (4, .long (0 : Int64)), (2, .long (0 : Int64)), (0, .ref t), (1, .int x1)]) hx hb d_Mo_delay_31 hl (by decide) rfl (fun ls hl => ?_)
      obtain ⟨q33_9, hC, hF⟩ := dk_b hF
      refine L33 n x1 (0 : Int64) (0 : Int64) (0 : Int32) r22_4 H locs q33_9 hC hP hD hS ls (lv_sub hl [3, 4, 2, 1, 0] rfl) (fun H locs ls hP hD hS hl => ?_)
      refine lv_iload_n hx hb d_Mo_delay_128 rfl (lv_at hl 0 rfl) ?_
      refine lv_if_ne (tgt := 136) hx hb d_Mo_delay_129 (by decide) (fun c129_10 => ?_) (fun c129_10 => ?_)
      · have hF := dk_f c129_10 hF
        refine lv_lload hx hb d_Mo_delay_136 (lv_at hl 2 rfl) ?_
        obtain rfl := Option.some.inj hF
        exact W.lret (v := q33_9.2) hx hb hr (fun t ht hW => ⟨⟨(), rfl, by rw [ht]; exact hP, hD⟩, hS.F ht⟩) hS.2.2 d_Mo_delay_138
      · have hF := dk_t c129_10 hF
        refine lv_lload_n hx hb d_Mo_delay_132 rfl (lv_at hl 1 rfl) ?_
        refine lv_goto (tgt := 138) hx hb d_Mo_delay_133 (by decide) ?_
        obtain rfl := Option.some.inj hF
        exact W.lret (v := q33_9.1) hx hb hr (fun t ht hW => ⟨⟨(), rfl, by rw [ht]; exact hP, hD⟩, hS.F ht⟩) hS.2.2 d_Mo_delay_138
    · have hF := dk_t c14_3 hF
      refine lv_ldc2 (own := R_Mo) (index := 145) (v := ((-1) : Int64)) hx hb hown (hts _ lk_488) d_Mo_delay_17 ?_
      obtain rfl := Option.some.inj hF
      exact W.lret (v := ((-1) : Int64)) hx hb hr (fun t ht hW => ⟨⟨(), rfl, by rw [ht]; exact hP, hD⟩, hS.F ht⟩) hS.2.2 d_Mo_delay_20
