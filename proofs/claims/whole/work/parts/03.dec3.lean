theorem dX13_makes_93 : decode cX13_makes 93 = .ok (.istore 7, 2) := by decide +kernel
theorem dX13_makes_95 : decode cX13_makes 95 = .ok (.iload 6, 2) := by decide +kernel
theorem dX13_makes_97 : decode cX13_makes 97 = .ok (.ifCond .eq 7, 3) := by decide +kernel
theorem dX13_makes_100 : decode cX13_makes 100 = .ok (.iload_n 3, 1) := by decide +kernel
theorem dX13_makes_101 : decode cX13_makes 101 = .ok (.ifCond .ne 24, 3) := by decide +kernel
theorem dX13_makes_104 : decode cX13_makes 104 = .ok (.iload 7, 2) := by decide +kernel
theorem dX13_makes_106 : decode cX13_makes 106 = .ok (.ifCond .ne 8, 3) := by decide +kernel
theorem dX13_makes_109 : decode cX13_makes 109 = .ok (.iload 4, 2) := by decide +kernel
theorem dX13_makes_111 : decode cX13_makes 111 = .ok (.ifCond .ne 14, 3) := by decide +kernel
theorem dX13_makes_114 : decode cX13_makes 114 = .ok (.iload 6, 2) := by decide +kernel
theorem dX13_makes_116 : decode cX13_makes 116 = .ok (.ifCond .ne 11, 3) := by decide +kernel
theorem dX13_makes_119 : decode cX13_makes 119 = .ok (.iload_n 3, 1) := by decide +kernel
theorem dX13_makes_120 : decode cX13_makes 120 = .ok (.iload 5, 2) := by decide +kernel
theorem dX13_makes_122 : decode cX13_makes 122 = .ok (.if_icmp .lt 5, 3) := by decide +kernel
theorem dX13_makes_125 : decode cX13_makes 125 = .ok (.iconst 0, 1) := by decide +kernel
theorem dX13_makes_126 : decode cX13_makes 126 = .ok (.ireturn, 1) := by decide +kernel
theorem dX13_makes_127 : decode cX13_makes 127 = .ok (.iload_n 2, 1) := by decide +kernel
theorem dX13_makes_128 : decode cX13_makes 128 = .ok (.tableswitch 172 1 13 #[68, 75, 83, 93, 101, 111, 119, 126, 134, 141, 147, 157, 165], 68) := by decide +kernel
theorem dX13_makes_196 : decode cX13_makes 196 = .ok (.aload_n 0, 1) := by decide +kernel
theorem dX13_makes_197 : decode cX13_makes 197 = .ok (.iload 5, 2) := by decide +kernel
theorem dX13_makes_199 : decode cX13_makes 199 = .ok (.invokevirtual 132, 3) := by decide +kernel
theorem dX13_makes_202 : decode cX13_makes 202 = .ok (.ireturn, 1) := by decide +kernel
theorem dX13_makes_203 : decode cX13_makes 203 = .ok (.aload_n 0, 1) := by decide +kernel
theorem dX13_makes_204 : decode cX13_makes 204 = .ok (.iload 5, 2) := by decide +kernel
theorem dX13_makes_206 : decode cX13_makes 206 = .ok (.iload_n 3, 1) := by decide +kernel
theorem dX13_makes_207 : decode cX13_makes 207 = .ok (.invokevirtual 135, 3) := by decide +kernel
theorem dX13_makes_210 : decode cX13_makes 210 = .ok (.ireturn, 1) := by decide +kernel
theorem dX13_makes_211 : decode cX13_makes 211 = .ok (.aload_n 0, 1) := by decide +kernel
theorem dX13_makes_212 : decode cX13_makes 212 = .ok (.iload 5, 2) := by decide +kernel
theorem dX13_makes_214 : decode cX13_makes 214 = .ok (.iload_n 3, 1) := by decide +kernel
theorem dX13_makes_215 : decode cX13_makes 215 = .ok (.iload 4, 2) := by decide +kernel
theorem dX13_makes_217 : decode cX13_makes 217 = .ok (.invokevirtual 139, 3) := by decide +kernel
theorem dX13_makes_220 : decode cX13_makes 220 = .ok (.ireturn, 1) := by decide +kernel
theorem dX13_makes_221 : decode cX13_makes 221 = .ok (.aload_n 0, 1) := by decide +kernel
theorem dX13_makes_222 : decode cX13_makes 222 = .ok (.iload 5, 2) := by decide +kernel
theorem dX13_makes_224 : decode cX13_makes 224 = .ok (.iload_n 3, 1) := by decide +kernel
theorem dX13_makes_225 : decode cX13_makes 225 = .ok (.invokevirtual 143, 3) := by decide +kernel
theorem dX13_makes_228 : decode cX13_makes 228 = .ok (.ireturn, 1) := by decide +kernel
theorem dX13_makes_229 : decode cX13_makes 229 = .ok (.aload_n 0, 1) := by decide +kernel
theorem dX13_makes_230 : decode cX13_makes 230 = .ok (.iload 5, 2) := by decide +kernel
theorem dX13_makes_232 : decode cX13_makes 232 = .ok (.iload_n 3, 1) := by decide +kernel
theorem dX13_makes_233 : decode cX13_makes 233 = .ok (.iload 4, 2) := by decide +kernel
theorem dX13_makes_235 : decode cX13_makes 235 = .ok (.invokevirtual 146, 3) := by decide +kernel
theorem dX13_makes_238 : decode cX13_makes 238 = .ok (.ireturn, 1) := by decide +kernel
theorem dX13_makes_239 : decode cX13_makes 239 = .ok (.aload_n 0, 1) := by decide +kernel
theorem dX13_makes_240 : decode cX13_makes 240 = .ok (.iload 5, 2) := by decide +kernel
theorem dX13_makes_242 : decode cX13_makes 242 = .ok (.iload_n 3, 1) := by decide +kernel
theorem dX13_makes_243 : decode cX13_makes 243 = .ok (.invokevirtual 149, 3) := by decide +kernel
theorem dX13_makes_246 : decode cX13_makes 246 = .ok (.ireturn, 1) := by decide +kernel
theorem dX13_makes_247 : decode cX13_makes 247 = .ok (.aload_n 0, 1) := by decide +kernel
theorem dX13_makes_248 : decode cX13_makes 248 = .ok (.iload 5, 2) := by decide +kernel
theorem dX13_makes_250 : decode cX13_makes 250 = .ok (.invokevirtual 152, 3) := by decide +kernel
theorem dX13_makes_253 : decode cX13_makes 253 = .ok (.ireturn, 1) := by decide +kernel
theorem dX13_makes_254 : decode cX13_makes 254 = .ok (.aload_n 0, 1) := by decide +kernel
theorem dX13_makes_255 : decode cX13_makes 255 = .ok (.iload 5, 2) := by decide +kernel
theorem dX13_makes_257 : decode cX13_makes 257 = .ok (.iload_n 3, 1) := by decide +kernel
theorem dX13_makes_258 : decode cX13_makes 258 = .ok (.invokevirtual 155, 3) := by decide +kernel
theorem dX13_makes_261 : decode cX13_makes 261 = .ok (.ireturn, 1) := by decide +kernel
theorem dX13_makes_262 : decode cX13_makes 262 = .ok (.aload_n 0, 1) := by decide +kernel
theorem dX13_makes_263 : decode cX13_makes 263 = .ok (.iload 5, 2) := by decide +kernel
theorem dX13_makes_265 : decode cX13_makes 265 = .ok (.invokevirtual 158, 3) := by decide +kernel
theorem dX13_makes_268 : decode cX13_makes 268 = .ok (.ireturn, 1) := by decide +kernel
theorem dX13_makes_269 : decode cX13_makes 269 = .ok (.aload_n 0, 1) := by decide +kernel
theorem dX13_makes_270 : decode cX13_makes 270 = .ok (.iload_n 3, 1) := by decide +kernel
theorem dX13_makes_271 : decode cX13_makes 271 = .ok (.invokevirtual 161, 3) := by decide +kernel
theorem dX13_makes_274 : decode cX13_makes 274 = .ok (.ireturn, 1) := by decide +kernel
theorem dX13_makes_275 : decode cX13_makes 275 = .ok (.aload_n 0, 1) := by decide +kernel
theorem dX13_makes_276 : decode cX13_makes 276 = .ok (.iload 5, 2) := by decide +kernel
theorem dX13_makes_278 : decode cX13_makes 278 = .ok (.iload_n 3, 1) := by decide +kernel
theorem dX13_makes_279 : decode cX13_makes 279 = .ok (.iload 4, 2) := by decide +kernel
theorem dX13_makes_281 : decode cX13_makes 281 = .ok (.invokevirtual 164, 3) := by decide +kernel
theorem dX13_makes_284 : decode cX13_makes 284 = .ok (.ireturn, 1) := by decide +kernel
theorem dX13_makes_285 : decode cX13_makes 285 = .ok (.aload_n 0, 1) := by decide +kernel
theorem dX13_makes_286 : decode cX13_makes 286 = .ok (.iload 5, 2) := by decide +kernel
theorem dX13_makes_288 : decode cX13_makes 288 = .ok (.iload_n 3, 1) := by decide +kernel
theorem dX13_makes_289 : decode cX13_makes 289 = .ok (.invokevirtual 167, 3) := by decide +kernel
theorem dX13_makes_292 : decode cX13_makes 292 = .ok (.ireturn, 1) := by decide +kernel
theorem dX13_makes_293 : decode cX13_makes 293 = .ok (.aload_n 0, 1) := by decide +kernel
theorem dX13_makes_294 : decode cX13_makes 294 = .ok (.iload 5, 2) := by decide +kernel
theorem dX13_makes_296 : decode cX13_makes 296 = .ok (.invokevirtual 170, 3) := by decide +kernel
theorem dX13_makes_299 : decode cX13_makes 299 = .ok (.ireturn, 1) := by decide +kernel
theorem dX13_makes_300 : decode cX13_makes 300 = .ok (.aload_n 0, 1) := by decide +kernel
theorem dX13_makes_301 : decode cX13_makes 301 = .ok (.iload 5, 2) := by decide +kernel
theorem dX13_makes_303 : decode cX13_makes 303 = .ok (.iload_n 3, 1) := by decide +kernel
theorem dX13_makes_304 : decode cX13_makes 304 = .ok (.invokevirtual 173, 3) := by decide +kernel
theorem dX13_makes_307 : decode cX13_makes 307 = .ok (.ireturn, 1) := by decide +kernel
theorem dX13_turns_0 : decode cX13_turns 0 = .ok (.aload_n 0, 1) := by decide +kernel
theorem dX13_turns_1 : decode cX13_turns 1 = .ok (.getfield 126, 3) := by decide +kernel
theorem dX13_turns_4 : decode cX13_turns 4 = .ok (.bipush 6, 2) := by decide +kernel
theorem dX13_turns_6 : decode cX13_turns 6 = .ok (.if_icmp .le 5, 3) := by decide +kernel
theorem dX13_turns_9 : decode cX13_turns 9 = .ok (.iconst 0, 1) := by decide +kernel
theorem dX13_turns_10 : decode cX13_turns 10 = .ok (.ireturn, 1) := by decide +kernel
theorem dX13_turns_11 : decode cX13_turns 11 = .ok (.aload_n 0, 1) := by decide +kernel
theorem dX13_turns_12 : decode cX13_turns 12 = .ok (.bipush 10, 2) := by decide +kernel
theorem dX13_turns_14 : decode cX13_turns 14 = .ok (.iload_n 1, 1) := by decide +kernel
theorem dX13_turns_15 : decode cX13_turns 15 = .ok (.aload_n 0, 1) := by decide +kernel
theorem dX13_turns_16 : decode cX13_turns 16 = .ok (.getfield 126, 3) := by decide +kernel
theorem dX13_turns_19 : decode cX13_turns 19 = .ok (.invokevirtual 176, 3) := by decide +kernel
theorem dX13_turns_22 : decode cX13_turns 22 = .ok (.iconst 0, 1) := by decide +kernel
theorem dX13_turns_23 : decode cX13_turns 23 = .ok (.istore_n 2, 1) := by decide +kernel
theorem dX13_turns_24 : decode cX13_turns 24 = .ok (.iload_n 2, 1) := by decide +kernel
theorem dX13_turns_25 : decode cX13_turns 25 = .ok (.aload_n 0, 1) := by decide +kernel
theorem dX13_turns_26 : decode cX13_turns 26 = .ok (.getfield 126, 3) := by decide +kernel
theorem dX13_turns_29 : decode cX13_turns 29 = .ok (.if_icmp .ge 34, 3) := by decide +kernel
theorem dX13_turns_32 : decode cX13_turns 32 = .ok (.iconst 0, 1) := by decide +kernel
theorem dX13_turns_33 : decode cX13_turns 33 = .ok (.istore_n 3, 1) := by decide +kernel
theorem dX13_turns_34 : decode cX13_turns 34 = .ok (.iload_n 3, 1) := by decide +kernel
theorem dX13_turns_35 : decode cX13_turns 35 = .ok (.iload_n 1, 1) := by decide +kernel
theorem dX13_turns_36 : decode cX13_turns 36 = .ok (.if_icmp .ge 21, 3) := by decide +kernel
theorem dX13_turns_39 : decode cX13_turns 39 = .ok (.aload_n 0, 1) := by decide +kernel
theorem dX13_turns_40 : decode cX13_turns 40 = .ok (.iload_n 3, 1) := by decide +kernel
theorem dX13_turns_41 : decode cX13_turns 41 = .ok (.iload_n 2, 1) := by decide +kernel
theorem dX13_turns_42 : decode cX13_turns 42 = .ok (.aload_n 0, 1) := by decide +kernel
theorem dX13_turns_43 : decode cX13_turns 43 = .ok (.iload_n 2, 1) := by decide +kernel
theorem dX13_turns_44 : decode cX13_turns 44 = .ok (.iload_n 3, 1) := by decide +kernel
theorem dX13_turns_45 : decode cX13_turns 45 = .ok (.invokevirtual 180, 3) := by decide +kernel
theorem dX13_turns_48 : decode cX13_turns 48 = .ok (.invokevirtual 184, 3) := by decide +kernel
theorem dX13_turns_51 : decode cX13_turns 51 = .ok (.iinc 3 1, 3) := by decide +kernel
theorem dX13_turns_54 : decode cX13_turns 54 = .ok (.goto (-20), 3) := by decide +kernel
theorem dX13_turns_57 : decode cX13_turns 57 = .ok (.iinc 2 1, 3) := by decide +kernel
theorem dX13_turns_60 : decode cX13_turns 60 = .ok (.goto (-36), 3) := by decide +kernel
theorem dX13_turns_63 : decode cX13_turns 63 = .ok (.iconst 1, 1) := by decide +kernel
theorem dX13_turns_64 : decode cX13_turns 64 = .ok (.ireturn, 1) := by decide +kernel
theorem dX13_drops_0 : decode cX13_drops 0 = .ok (.iload_n 1, 1) := by decide +kernel
theorem dX13_drops_1 : decode cX13_drops 1 = .ok (.iconst 2, 1) := by decide +kernel
theorem dX13_drops_2 : decode cX13_drops 2 = .ok (.if_icmp .ge 5, 3) := by decide +kernel
theorem dX13_drops_5 : decode cX13_drops 5 = .ok (.iconst 0, 1) := by decide +kernel
theorem dX13_drops_6 : decode cX13_drops 6 = .ok (.ireturn, 1) := by decide +kernel
theorem dX13_drops_7 : decode cX13_drops 7 = .ok (.aload_n 0, 1) := by decide +kernel
theorem dX13_drops_8 : decode cX13_drops 8 = .ok (.bipush 10, 2) := by decide +kernel
theorem dX13_drops_10 : decode cX13_drops 10 = .ok (.aload_n 0, 1) := by decide +kernel
theorem dX13_drops_11 : decode cX13_drops 11 = .ok (.getfield 126, 3) := by decide +kernel
theorem dX13_drops_14 : decode cX13_drops 14 = .ok (.iload_n 1, 1) := by decide +kernel
theorem dX13_drops_15 : decode cX13_drops 15 = .ok (.iconst 1, 1) := by decide +kernel
theorem dX13_drops_16 : decode cX13_drops 16 = .ok (.isub, 1) := by decide +kernel
theorem dX13_drops_17 : decode cX13_drops 17 = .ok (.invokevirtual 176, 3) := by decide +kernel
theorem dX13_drops_20 : decode cX13_drops 20 = .ok (.iconst 0, 1) := by decide +kernel
theorem dX13_drops_21 : decode cX13_drops 21 = .ok (.istore_n 3, 1) := by decide +kernel
theorem dX13_drops_22 : decode cX13_drops 22 = .ok (.iload_n 3, 1) := by decide +kernel
theorem dX13_drops_23 : decode cX13_drops 23 = .ok (.aload_n 0, 1) := by decide +kernel
theorem dX13_drops_24 : decode cX13_drops 24 = .ok (.getfield 126, 3) := by decide +kernel
theorem dX13_drops_27 : decode cX13_drops 27 = .ok (.if_icmp .ge 57, 3) := by decide +kernel
theorem dX13_drops_30 : decode cX13_drops 30 = .ok (.iconst 0, 1) := by decide +kernel
theorem dX13_drops_31 : decode cX13_drops 31 = .ok (.istore 4, 2) := by decide +kernel
theorem dX13_drops_33 : decode cX13_drops 33 = .ok (.iload 4, 2) := by decide +kernel
theorem dX13_drops_35 : decode cX13_drops 35 = .ok (.iload_n 1, 1) := by decide +kernel
theorem dX13_drops_36 : decode cX13_drops 36 = .ok (.if_icmp .ge 42, 3) := by decide +kernel
theorem dX13_drops_39 : decode cX13_drops 39 = .ok (.iload 4, 2) := by decide +kernel
theorem dX13_drops_41 : decode cX13_drops 41 = .ok (.iload_n 2, 1) := by decide +kernel
theorem dX13_drops_42 : decode cX13_drops 42 = .ok (.if_icmp .eq 30, 3) := by decide +kernel
theorem dX13_drops_45 : decode cX13_drops 45 = .ok (.aload_n 0, 1) := by decide +kernel
theorem dX13_drops_46 : decode cX13_drops 46 = .ok (.iload_n 3, 1) := by decide +kernel
theorem dX13_drops_47 : decode cX13_drops 47 = .ok (.iload 4, 2) := by decide +kernel
theorem dX13_drops_49 : decode cX13_drops 49 = .ok (.iload_n 2, 1) := by decide +kernel
theorem dX13_drops_50 : decode cX13_drops 50 = .ok (.if_icmp .ge 8, 3) := by decide +kernel
theorem dX13_drops_53 : decode cX13_drops 53 = .ok (.iload 4, 2) := by decide +kernel
theorem dX13_drops_55 : decode cX13_drops 55 = .ok (.goto 7, 3) := by decide +kernel
theorem dX13_drops_58 : decode cX13_drops 58 = .ok (.iload 4, 2) := by decide +kernel
theorem dX13_drops_60 : decode cX13_drops 60 = .ok (.iconst 1, 1) := by decide +kernel
theorem dX13_drops_61 : decode cX13_drops 61 = .ok (.isub, 1) := by decide +kernel
theorem dX13_drops_62 : decode cX13_drops 62 = .ok (.aload_n 0, 1) := by decide +kernel
theorem dX13_drops_63 : decode cX13_drops 63 = .ok (.iload_n 3, 1) := by decide +kernel
theorem dX13_drops_64 : decode cX13_drops 64 = .ok (.iload 4, 2) := by decide +kernel
theorem dX13_drops_66 : decode cX13_drops 66 = .ok (.invokevirtual 180, 3) := by decide +kernel
theorem dX13_drops_69 : decode cX13_drops 69 = .ok (.invokevirtual 184, 3) := by decide +kernel
theorem dX13_drops_72 : decode cX13_drops 72 = .ok (.iinc 4 1, 3) := by decide +kernel
theorem dX13_drops_75 : decode cX13_drops 75 = .ok (.goto (-42), 3) := by decide +kernel
theorem dX13_drops_78 : decode cX13_drops 78 = .ok (.iinc 3 1, 3) := by decide +kernel
theorem dX13_drops_81 : decode cX13_drops 81 = .ok (.goto (-59), 3) := by decide +kernel
theorem dX13_drops_84 : decode cX13_drops 84 = .ok (.iconst 1, 1) := by decide +kernel
theorem dX13_drops_85 : decode cX13_drops 85 = .ok (.ireturn, 1) := by decide +kernel
theorem dX13_markAt_0 : decode cX13_markAt 0 = .ok (.lload_n 0, 1) := by decide +kernel
theorem dX13_markAt_1 : decode cX13_markAt 1 = .ok (.invokestatic 99, 3) := by decide +kernel
theorem dX13_markAt_4 : decode cX13_markAt 4 = .ok (.istore_n 3, 1) := by decide +kernel
theorem dX13_markAt_5 : decode cX13_markAt 5 = .ok (.iconst 0, 1) := by decide +kernel
theorem dX13_markAt_6 : decode cX13_markAt 6 = .ok (.istore 4, 2) := by decide +kernel
theorem dX13_markAt_8 : decode cX13_markAt 8 = .ok (.iload 4, 2) := by decide +kernel
theorem dX13_markAt_10 : decode cX13_markAt 10 = .ok (.iload_n 3, 1) := by decide +kernel
theorem dX13_markAt_11 : decode cX13_markAt 11 = .ok (.if_icmp .ge 23, 3) := by decide +kernel
theorem dX13_markAt_14 : decode cX13_markAt 14 = .ok (.lload_n 0, 1) := by decide +kernel
theorem dX13_markAt_15 : decode cX13_markAt 15 = .ok (.iload_n 3, 1) := by decide +kernel
theorem dX13_markAt_16 : decode cX13_markAt 16 = .ok (.iload 4, 2) := by decide +kernel
theorem dX13_markAt_18 : decode cX13_markAt 18 = .ok (.invokestatic 103, 3) := by decide +kernel
theorem dX13_markAt_21 : decode cX13_markAt 21 = .ok (.iload_n 2, 1) := by decide +kernel
theorem dX13_markAt_22 : decode cX13_markAt 22 = .ok (.if_icmp .ne 6, 3) := by decide +kernel
theorem dX13_markAt_25 : decode cX13_markAt 25 = .ok (.iload 4, 2) := by decide +kernel
theorem dX13_markAt_27 : decode cX13_markAt 27 = .ok (.ireturn, 1) := by decide +kernel
theorem dX13_markAt_28 : decode cX13_markAt 28 = .ok (.iinc 4 1, 3) := by decide +kernel
theorem dX13_markAt_31 : decode cX13_markAt 31 = .ok (.goto (-23), 3) := by decide +kernel
theorem dX13_markAt_34 : decode cX13_markAt 34 = .ok (.iconst (-1), 1) := by decide +kernel
theorem dX13_markAt_35 : decode cX13_markAt 35 = .ok (.ireturn, 1) := by decide +kernel
theorem dX13_splits_0 : decode cX13_splits 0 = .ok (.iload_n 3, 1) := by decide +kernel
theorem dX13_splits_1 : decode cX13_splits 1 = .ok (.iconst 3, 1) := by decide +kernel
theorem dX13_splits_2 : decode cX13_splits 2 = .ok (.if_icmp .gt 9, 3) := by decide +kernel
theorem dX13_splits_5 : decode cX13_splits 5 = .ok (.iload_n 1, 1) := by decide +kernel
theorem dX13_splits_6 : decode cX13_splits 6 = .ok (.bipush 6, 2) := by decide +kernel
theorem dX13_splits_8 : decode cX13_splits 8 = .ok (.if_icmp .ne 5, 3) := by decide +kernel
theorem dX13_splits_11 : decode cX13_splits 11 = .ok (.iconst 0, 1) := by decide +kernel
theorem dX13_splits_12 : decode cX13_splits 12 = .ok (.ireturn, 1) := by decide +kernel
theorem dX13_splits_13 : decode cX13_splits 13 = .ok (.iconst 0, 1) := by decide +kernel
theorem dX13_splits_14 : decode cX13_splits 14 = .ok (.istore 4, 2) := by decide +kernel
theorem dX13_splits_16 : decode cX13_splits 16 = .ok (.aload_n 0, 1) := by decide +kernel
theorem dX13_splits_17 : decode cX13_splits 17 = .ok (.bipush 10, 2) := by decide +kernel
theorem dX13_splits_19 : decode cX13_splits 19 = .ok (.aload_n 0, 1) := by decide +kernel
theorem dX13_splits_20 : decode cX13_splits 20 = .ok (.getfield 126, 3) := by decide +kernel
theorem dX13_splits_23 : decode cX13_splits 23 = .ok (.iload_n 1, 1) := by decide +kernel
theorem dX13_splits_24 : decode cX13_splits 24 = .ok (.iconst 1, 1) := by decide +kernel
theorem dX13_splits_25 : decode cX13_splits 25 = .ok (.iadd, 1) := by decide +kernel
theorem dX13_splits_26 : decode cX13_splits 26 = .ok (.invokevirtual 176, 3) := by decide +kernel
theorem dX13_splits_29 : decode cX13_splits 29 = .ok (.iconst 0, 1) := by decide +kernel
theorem dX13_splits_30 : decode cX13_splits 30 = .ok (.istore 5, 2) := by decide +kernel
theorem dX13_splits_32 : decode cX13_splits 32 = .ok (.iload 5, 2) := by decide +kernel
theorem dX13_splits_34 : decode cX13_splits 34 = .ok (.aload_n 0, 1) := by decide +kernel
theorem dX13_splits_35 : decode cX13_splits 35 = .ok (.getfield 126, 3) := by decide +kernel
theorem dX13_splits_38 : decode cX13_splits 38 = .ok (.if_icmp .ge 169, 3) := by decide +kernel
theorem dX13_splits_41 : decode cX13_splits 41 = .ok (.iconst 0, 1) := by decide +kernel
theorem dX13_splits_42 : decode cX13_splits 42 = .ok (.istore 6, 2) := by decide +kernel
theorem dX13_splits_44 : decode cX13_splits 44 = .ok (.iload 6, 2) := by decide +kernel
theorem dX13_splits_46 : decode cX13_splits 46 = .ok (.iload_n 1, 1) := by decide +kernel
theorem dX13_splits_47 : decode cX13_splits 47 = .ok (.if_icmp .ge 44, 3) := by decide +kernel
theorem dX13_splits_50 : decode cX13_splits 50 = .ok (.iload 6, 2) := by decide +kernel
theorem dX13_splits_52 : decode cX13_splits 52 = .ok (.iload_n 2, 1) := by decide +kernel
theorem dX13_splits_53 : decode cX13_splits 53 = .ok (.if_icmp .eq 32, 3) := by decide +kernel
theorem dX13_splits_56 : decode cX13_splits 56 = .ok (.aload_n 0, 1) := by decide +kernel
theorem dX13_splits_57 : decode cX13_splits 57 = .ok (.iload 5, 2) := by decide +kernel
theorem dX13_splits_59 : decode cX13_splits 59 = .ok (.iload 6, 2) := by decide +kernel
theorem dX13_splits_61 : decode cX13_splits 61 = .ok (.iload_n 2, 1) := by decide +kernel
theorem dX13_splits_62 : decode cX13_splits 62 = .ok (.if_icmp .ge 8, 3) := by decide +kernel
theorem dX13_splits_65 : decode cX13_splits 65 = .ok (.iload 6, 2) := by decide +kernel
theorem dX13_splits_67 : decode cX13_splits 67 = .ok (.goto 7, 3) := by decide +kernel
theorem dX13_splits_70 : decode cX13_splits 70 = .ok (.iload 6, 2) := by decide +kernel
theorem dX13_splits_72 : decode cX13_splits 72 = .ok (.iconst 1, 1) := by decide +kernel
theorem dX13_splits_73 : decode cX13_splits 73 = .ok (.iadd, 1) := by decide +kernel
theorem dX13_splits_74 : decode cX13_splits 74 = .ok (.aload_n 0, 1) := by decide +kernel
theorem dX13_splits_75 : decode cX13_splits 75 = .ok (.iload 5, 2) := by decide +kernel
theorem dX13_splits_77 : decode cX13_splits 77 = .ok (.iload 6, 2) := by decide +kernel
theorem dX13_splits_79 : decode cX13_splits 79 = .ok (.invokevirtual 180, 3) := by decide +kernel
theorem dX13_splits_82 : decode cX13_splits 82 = .ok (.invokevirtual 184, 3) := by decide +kernel
theorem dX13_splits_85 : decode cX13_splits 85 = .ok (.iinc 6 1, 3) := by decide +kernel
theorem dX13_splits_88 : decode cX13_splits 88 = .ok (.goto (-44), 3) := by decide +kernel
theorem dX13_splits_91 : decode cX13_splits 91 = .ok (.aload_n 0, 1) := by decide +kernel
theorem dX13_splits_92 : decode cX13_splits 92 = .ok (.iload 5, 2) := by decide +kernel
theorem dX13_splits_94 : decode cX13_splits 94 = .ok (.iload_n 2, 1) := by decide +kernel
theorem dX13_splits_95 : decode cX13_splits 95 = .ok (.invokevirtual 180, 3) := by decide +kernel
theorem dX13_splits_98 : decode cX13_splits 98 = .ok (.lstore 6, 2) := by decide +kernel
theorem dX13_splits_100 : decode cX13_splits 100 = .ok (.lload 6, 2) := by decide +kernel
theorem dX13_splits_102 : decode cX13_splits 102 = .ok (.invokestatic 99, 3) := by decide +kernel
theorem dX13_splits_105 : decode cX13_splits 105 = .ok (.istore 8, 2) := by decide +kernel
theorem dX13_splits_107 : decode cX13_splits 107 = .ok (.lload 6, 2) := by decide +kernel
theorem dX13_splits_109 : decode cX13_splits 109 = .ok (.iload_n 3, 1) := by decide +kernel
theorem dX13_splits_110 : decode cX13_splits 110 = .ok (.invokestatic 188, 3) := by decide +kernel
theorem dX13_splits_113 : decode cX13_splits 113 = .ok (.invokestatic 192, 3) := by decide +kernel
theorem dX13_splits_116 : decode cX13_splits 116 = .ok (.istore 9, 2) := by decide +kernel
theorem dX13_splits_118 : decode cX13_splits 118 = .ok (.iload 4, 2) := by decide +kernel
theorem dX13_splits_120 : decode cX13_splits 120 = .ok (.ifCond .ne 9, 3) := by decide +kernel
theorem dX13_splits_123 : decode cX13_splits 123 = .ok (.iload 9, 2) := by decide +kernel
theorem dX13_splits_125 : decode cX13_splits 125 = .ok (.iconst (-1), 1) := by decide +kernel
theorem dX13_splits_126 : decode cX13_splits 126 = .ok (.if_icmp .eq 7, 3) := by decide +kernel
theorem dX13_splits_129 : decode cX13_splits 129 = .ok (.iconst 1, 1) := by decide +kernel
theorem dX13_splits_130 : decode cX13_splits 130 = .ok (.goto 4, 3) := by decide +kernel
theorem dX13_splits_133 : decode cX13_splits 133 = .ok (.iconst 0, 1) := by decide +kernel
theorem dX13_splits_134 : decode cX13_splits 134 = .ok (.istore 4, 2) := by decide +kernel
theorem dX13_splits_136 : decode cX13_splits 136 = .ok (.aload_n 0, 1) := by decide +kernel
theorem dX13_splits_137 : decode cX13_splits 137 = .ok (.iload 5, 2) := by decide +kernel
theorem dX13_splits_139 : decode cX13_splits 139 = .ok (.iload_n 2, 1) := by decide +kernel
theorem dX13_splits_140 : decode cX13_splits 140 = .ok (.iload 9, 2) := by decide +kernel
theorem dX13_splits_142 : decode cX13_splits 142 = .ok (.iconst (-1), 1) := by decide +kernel
theorem dX13_splits_143 : decode cX13_splits 143 = .ok (.if_icmp .ne 8, 3) := by decide +kernel
theorem dX13_splits_146 : decode cX13_splits 146 = .ok (.lload 6, 2) := by decide +kernel
theorem dX13_splits_148 : decode cX13_splits 148 = .ok (.goto 14, 3) := by decide +kernel
theorem dX13_splits_151 : decode cX13_splits 151 = .ok (.lload 6, 2) := by decide +kernel
theorem dX13_splits_153 : decode cX13_splits 153 = .ok (.bipush 8, 2) := by decide +kernel
theorem dX13_splits_155 : decode cX13_splits 155 = .ok (.iload 8, 2) := by decide +kernel
theorem dX13_splits_157 : decode cX13_splits 157 = .ok (.iload 9, 2) := by decide +kernel
theorem dX13_splits_159 : decode cX13_splits 159 = .ok (.isub, 1) := by decide +kernel
theorem dX13_splits_160 : decode cX13_splits 160 = .ok (.imul, 1) := by decide +kernel
theorem dX13_splits_161 : decode cX13_splits 161 = .ok (.lshr, 1) := by decide +kernel
theorem dX13_splits_162 : decode cX13_splits 162 = .ok (.invokevirtual 184, 3) := by decide +kernel
theorem dX13_splits_165 : decode cX13_splits 165 = .ok (.aload_n 0, 1) := by decide +kernel
theorem dX13_splits_166 : decode cX13_splits 166 = .ok (.iload 5, 2) := by decide +kernel
theorem dX13_splits_168 : decode cX13_splits 168 = .ok (.iload_n 2, 1) := by decide +kernel
theorem dX13_splits_169 : decode cX13_splits 169 = .ok (.iconst 1, 1) := by decide +kernel
theorem dX13_splits_170 : decode cX13_splits 170 = .ok (.iadd, 1) := by decide +kernel
theorem dX13_splits_171 : decode cX13_splits 171 = .ok (.iload 9, 2) := by decide +kernel
theorem dX13_splits_173 : decode cX13_splits 173 = .ok (.iconst (-1), 1) := by decide +kernel
theorem dX13_splits_174 : decode cX13_splits 174 = .ok (.if_icmp .ne 7, 3) := by decide +kernel
theorem dX13_splits_177 : decode cX13_splits 177 = .ok (.lconst 0, 1) := by decide +kernel
theorem dX13_splits_178 : decode cX13_splits 178 = .ok (.goto 20, 3) := by decide +kernel
theorem dX13_splits_181 : decode cX13_splits 181 = .ok (.lload 6, 2) := by decide +kernel
theorem dX13_splits_183 : decode cX13_splits 183 = .ok (.lconst 1, 1) := by decide +kernel
theorem dX13_splits_184 : decode cX13_splits 184 = .ok (.bipush 8, 2) := by decide +kernel
theorem dX13_splits_186 : decode cX13_splits 186 = .ok (.iload 8, 2) := by decide +kernel
theorem dX13_splits_188 : decode cX13_splits 188 = .ok (.iconst 1, 1) := by decide +kernel
theorem dX13_splits_189 : decode cX13_splits 189 = .ok (.isub, 1) := by decide +kernel
theorem dX13_splits_190 : decode cX13_splits 190 = .ok (.iload 9, 2) := by decide +kernel
theorem dX13_splits_192 : decode cX13_splits 192 = .ok (.isub, 1) := by decide +kernel
theorem dX13_splits_193 : decode cX13_splits 193 = .ok (.imul, 1) := by decide +kernel
theorem dX13_splits_194 : decode cX13_splits 194 = .ok (.lshl, 1) := by decide +kernel
theorem dX13_splits_195 : decode cX13_splits 195 = .ok (.lconst 1, 1) := by decide +kernel
theorem dX13_splits_196 : decode cX13_splits 196 = .ok (.lsub, 1) := by decide +kernel
theorem dX13_splits_197 : decode cX13_splits 197 = .ok (.land, 1) := by decide +kernel
theorem dX13_splits_198 : decode cX13_splits 198 = .ok (.invokevirtual 184, 3) := by decide +kernel
theorem dX13_splits_201 : decode cX13_splits 201 = .ok (.iinc 5 1, 3) := by decide +kernel
theorem dX13_splits_204 : decode cX13_splits 204 = .ok (.goto (-172), 3) := by decide +kernel
theorem dX13_splits_207 : decode cX13_splits 207 = .ok (.iload 4, 2) := by decide +kernel
theorem dX13_splits_209 : decode cX13_splits 209 = .ok (.ireturn, 1) := by decide +kernel
theorem dX13_fills_0 : decode cX13_fills 0 = .ok (.iconst 0, 1) := by decide +kernel
theorem dX13_fills_1 : decode cX13_fills 1 = .ok (.istore_n 3, 1) := by decide +kernel
theorem dX13_fills_2 : decode cX13_fills 2 = .ok (.aload_n 0, 1) := by decide +kernel
theorem dX13_fills_3 : decode cX13_fills 3 = .ok (.bipush 10, 2) := by decide +kernel
theorem dX13_fills_5 : decode cX13_fills 5 = .ok (.aload_n 0, 1) := by decide +kernel
theorem dX13_fills_6 : decode cX13_fills 6 = .ok (.getfield 117, 3) := by decide +kernel
theorem dX13_fills_9 : decode cX13_fills 9 = .ok (.invokevirtual 196, 3) := by decide +kernel
theorem dX13_fills_12 : decode cX13_fills 12 = .ok (.iconst 1, 1) := by decide +kernel
theorem dX13_fills_13 : decode cX13_fills 13 = .ok (.istore 4, 2) := by decide +kernel
theorem dX13_fills_15 : decode cX13_fills 15 = .ok (.iload 4, 2) := by decide +kernel
theorem dX13_fills_17 : decode cX13_fills 17 = .ok (.aload_n 0, 1) := by decide +kernel
theorem dX13_fills_18 : decode cX13_fills 18 = .ok (.getfield 126, 3) := by decide +kernel
theorem dX13_fills_21 : decode cX13_fills 21 = .ok (.if_icmp .ge 67, 3) := by decide +kernel
theorem dX13_fills_24 : decode cX13_fills 24 = .ok (.aload_n 0, 1) := by decide +kernel
theorem dX13_fills_25 : decode cX13_fills 25 = .ok (.iload 4, 2) := by decide +kernel
theorem dX13_fills_27 : decode cX13_fills 27 = .ok (.iload_n 2, 1) := by decide +kernel
theorem dX13_fills_28 : decode cX13_fills 28 = .ok (.invokevirtual 180, 3) := by decide +kernel
theorem dX13_fills_31 : decode cX13_fills 31 = .ok (.lconst 0, 1) := by decide +kernel
theorem dX13_fills_32 : decode cX13_fills 32 = .ok (.lcmp, 1) := by decide +kernel
theorem dX13_fills_33 : decode cX13_fills 33 = .ok (.ifCond .eq 6, 3) := by decide +kernel
theorem dX13_fills_36 : decode cX13_fills 36 = .ok (.goto 46, 3) := by decide +kernel
theorem dX13_fills_39 : decode cX13_fills 39 = .ok (.aload_n 0, 1) := by decide +kernel
theorem dX13_fills_40 : decode cX13_fills 40 = .ok (.getfield 16, 3) := by decide +kernel
theorem dX13_fills_43 : decode cX13_fills 43 = .ok (.bipush 10, 2) := by decide +kernel
theorem dX13_fills_45 : decode cX13_fills 45 = .ok (.iload 4, 2) := by decide +kernel
theorem dX13_fills_47 : decode cX13_fills 47 = .ok (.iconst 1, 1) := by decide +kernel
theorem dX13_fills_48 : decode cX13_fills 48 = .ok (.isub, 1) := by decide +kernel
theorem dX13_fills_49 : decode cX13_fills 49 = .ok (.iload_n 2, 1) := by decide +kernel
theorem dX13_fills_50 : decode cX13_fills 50 = .ok (.invokestatic 120, 3) := by decide +kernel
theorem dX13_fills_53 : decode cX13_fills 53 = .ok (.laload, 1) := by decide +kernel
theorem dX13_fills_54 : decode cX13_fills 54 = .ok (.lstore 5, 2) := by decide +kernel
theorem dX13_fills_56 : decode cX13_fills 56 = .ok (.iload_n 3, 1) := by decide +kernel
theorem dX13_fills_57 : decode cX13_fills 57 = .ok (.ifCond .ne 10, 3) := by decide +kernel
theorem dX13_fills_60 : decode cX13_fills 60 = .ok (.lload 5, 2) := by decide +kernel
theorem dX13_fills_62 : decode cX13_fills 62 = .ok (.lconst 0, 1) := by decide +kernel
theorem dX13_fills_63 : decode cX13_fills 63 = .ok (.lcmp, 1) := by decide +kernel
theorem dX13_fills_64 : decode cX13_fills 64 = .ok (.ifCond .eq 7, 3) := by decide +kernel
theorem dX13_fills_67 : decode cX13_fills 67 = .ok (.iconst 1, 1) := by decide +kernel
theorem dX13_fills_68 : decode cX13_fills 68 = .ok (.goto 4, 3) := by decide +kernel
theorem dX13_fills_71 : decode cX13_fills 71 = .ok (.iconst 0, 1) := by decide +kernel
theorem dX13_fills_72 : decode cX13_fills 72 = .ok (.istore_n 3, 1) := by decide +kernel
theorem dX13_fills_73 : decode cX13_fills 73 = .ok (.aload_n 0, 1) := by decide +kernel
theorem dX13_fills_74 : decode cX13_fills 74 = .ok (.iload 4, 2) := by decide +kernel
theorem dX13_fills_76 : decode cX13_fills 76 = .ok (.iload_n 2, 1) := by decide +kernel
theorem dX13_fills_77 : decode cX13_fills 77 = .ok (.lload 5, 2) := by decide +kernel
theorem dX13_fills_79 : decode cX13_fills 79 = .ok (.invokevirtual 184, 3) := by decide +kernel
theorem dX13_fills_82 : decode cX13_fills 82 = .ok (.iinc 4 1, 3) := by decide +kernel
theorem dX13_fills_85 : decode cX13_fills 85 = .ok (.goto (-70), 3) := by decide +kernel
theorem dX13_fills_88 : decode cX13_fills 88 = .ok (.iload_n 3, 1) := by decide +kernel
theorem dX13_fills_89 : decode cX13_fills 89 = .ok (.ifCond .eq 11, 3) := by decide +kernel
theorem dX13_fills_92 : decode cX13_fills 92 = .ok (.iload_n 1, 1) := by decide +kernel
theorem dX13_fills_93 : decode cX13_fills 93 = .ok (.ifCond .le 7, 3) := by decide +kernel
theorem dX13_fills_96 : decode cX13_fills 96 = .ok (.iconst 1, 1) := by decide +kernel
theorem dX13_fills_97 : decode cX13_fills 97 = .ok (.goto 4, 3) := by decide +kernel
theorem dX13_fills_100 : decode cX13_fills 100 = .ok (.iconst 0, 1) := by decide +kernel
theorem dX13_fills_101 : decode cX13_fills 101 = .ok (.ireturn, 1) := by decide +kernel
theorem dX13_joins_0 : decode cX13_joins 0 = .ok (.iload_n 3, 1) := by decide +kernel
theorem dX13_joins_1 : decode cX13_joins 1 = .ok (.iconst 3, 1) := by decide +kernel
theorem dX13_joins_2 : decode cX13_joins 2 = .ok (.if_icmp .gt 10, 3) := by decide +kernel
theorem dX13_joins_5 : decode cX13_joins 5 = .ok (.iload_n 2, 1) := by decide +kernel
theorem dX13_joins_6 : decode cX13_joins 6 = .ok (.iconst 1, 1) := by decide +kernel
theorem dX13_joins_7 : decode cX13_joins 7 = .ok (.iadd, 1) := by decide +kernel
theorem dX13_joins_8 : decode cX13_joins 8 = .ok (.iload_n 1, 1) := by decide +kernel
theorem dX13_joins_9 : decode cX13_joins 9 = .ok (.if_icmp .lt 5, 3) := by decide +kernel
theorem dX13_joins_12 : decode cX13_joins 12 = .ok (.iconst 0, 1) := by decide +kernel
theorem dX13_joins_13 : decode cX13_joins 13 = .ok (.ireturn, 1) := by decide +kernel
theorem dX13_joins_14 : decode cX13_joins 14 = .ok (.aload_n 0, 1) := by decide +kernel
theorem dX13_joins_15 : decode cX13_joins 15 = .ok (.bipush 10, 2) := by decide +kernel
theorem dX13_joins_17 : decode cX13_joins 17 = .ok (.aload_n 0, 1) := by decide +kernel
theorem dX13_joins_18 : decode cX13_joins 18 = .ok (.getfield 126, 3) := by decide +kernel
theorem dX13_joins_21 : decode cX13_joins 21 = .ok (.iload_n 1, 1) := by decide +kernel
theorem dX13_joins_22 : decode cX13_joins 22 = .ok (.iconst 1, 1) := by decide +kernel
theorem dX13_joins_23 : decode cX13_joins 23 = .ok (.isub, 1) := by decide +kernel
theorem dX13_joins_24 : decode cX13_joins 24 = .ok (.invokevirtual 176, 3) := by decide +kernel
theorem dX13_joins_27 : decode cX13_joins 27 = .ok (.iconst 0, 1) := by decide +kernel
theorem dX13_joins_28 : decode cX13_joins 28 = .ok (.istore 4, 2) := by decide +kernel
theorem dX13_joins_30 : decode cX13_joins 30 = .ok (.iload 4, 2) := by decide +kernel
theorem dX13_joins_32 : decode cX13_joins 32 = .ok (.aload_n 0, 1) := by decide +kernel
theorem dX13_joins_33 : decode cX13_joins 33 = .ok (.getfield 126, 3) := by decide +kernel
theorem dX13_joins_36 : decode cX13_joins 36 = .ok (.if_icmp .ge 138, 3) := by decide +kernel
theorem dX13_joins_39 : decode cX13_joins 39 = .ok (.aload_n 0, 1) := by decide +kernel
theorem dX13_joins_40 : decode cX13_joins 40 = .ok (.iload 4, 2) := by decide +kernel
theorem dX13_joins_42 : decode cX13_joins 42 = .ok (.iload_n 2, 1) := by decide +kernel
theorem dX13_joins_43 : decode cX13_joins 43 = .ok (.invokevirtual 180, 3) := by decide +kernel
theorem dX13_joins_46 : decode cX13_joins 46 = .ok (.lstore 5, 2) := by decide +kernel
theorem dX13_joins_48 : decode cX13_joins 48 = .ok (.aload_n 0, 1) := by decide +kernel
theorem dX13_joins_49 : decode cX13_joins 49 = .ok (.iload 4, 2) := by decide +kernel
theorem dX13_joins_51 : decode cX13_joins 51 = .ok (.iload_n 2, 1) := by decide +kernel
theorem dX13_joins_52 : decode cX13_joins 52 = .ok (.iconst 1, 1) := by decide +kernel
theorem dX13_joins_53 : decode cX13_joins 53 = .ok (.iadd, 1) := by decide +kernel
theorem dX13_joins_54 : decode cX13_joins 54 = .ok (.invokevirtual 180, 3) := by decide +kernel
theorem dX13_joins_57 : decode cX13_joins 57 = .ok (.lstore 7, 2) := by decide +kernel
theorem dX13_joins_59 : decode cX13_joins 59 = .ok (.lload 7, 2) := by decide +kernel
theorem dX13_joins_61 : decode cX13_joins 61 = .ok (.invokestatic 99, 3) := by decide +kernel
theorem dX13_joins_64 : decode cX13_joins 64 = .ok (.istore 9, 2) := by decide +kernel
theorem dX13_joins_66 : decode cX13_joins 66 = .ok (.lload 5, 2) := by decide +kernel
theorem dX13_joins_68 : decode cX13_joins 68 = .ok (.invokestatic 99, 3) := by decide +kernel
theorem dX13_joins_71 : decode cX13_joins 71 = .ok (.iconst 1, 1) := by decide +kernel
theorem dX13_joins_72 : decode cX13_joins 72 = .ok (.iadd, 1) := by decide +kernel
theorem dX13_joins_73 : decode cX13_joins 73 = .ok (.iload 9, 2) := by decide +kernel
theorem dX13_joins_75 : decode cX13_joins 75 = .ok (.iadd, 1) := by decide +kernel
theorem dX13_joins_76 : decode cX13_joins 76 = .ok (.bipush 7, 2) := by decide +kernel
theorem dX13_joins_78 : decode cX13_joins 78 = .ok (.if_icmp .le 5, 3) := by decide +kernel
theorem dX13_joins_81 : decode cX13_joins 81 = .ok (.iconst 0, 1) := by decide +kernel
theorem dX13_joins_82 : decode cX13_joins 82 = .ok (.ireturn, 1) := by decide +kernel
theorem dX13_joins_83 : decode cX13_joins 83 = .ok (.iconst 0, 1) := by decide +kernel
theorem dX13_joins_84 : decode cX13_joins 84 = .ok (.istore 10, 2) := by decide +kernel
theorem dX13_joins_86 : decode cX13_joins 86 = .ok (.iload 10, 2) := by decide +kernel
theorem dX13_joins_88 : decode cX13_joins 88 = .ok (.iload_n 1, 1) := by decide +kernel
theorem dX13_joins_89 : decode cX13_joins 89 = .ok (.if_icmp .ge 52, 3) := by decide +kernel
theorem dX13_joins_92 : decode cX13_joins 92 = .ok (.iload 10, 2) := by decide +kernel
theorem dX13_joins_94 : decode cX13_joins 94 = .ok (.iload_n 2, 1) := by decide +kernel
theorem dX13_joins_95 : decode cX13_joins 95 = .ok (.if_icmp .lt 11, 3) := by decide +kernel
theorem dX13_joins_98 : decode cX13_joins 98 = .ok (.iload 10, 2) := by decide +kernel
theorem dX13_joins_100 : decode cX13_joins 100 = .ok (.iload_n 2, 1) := by decide +kernel
theorem dX13_joins_101 : decode cX13_joins 101 = .ok (.iconst 1, 1) := by decide +kernel
theorem dX13_joins_102 : decode cX13_joins 102 = .ok (.iadd, 1) := by decide +kernel
theorem dX13_joins_103 : decode cX13_joins 103 = .ok (.if_icmp .le 32, 3) := by decide +kernel
theorem dX13_joins_106 : decode cX13_joins 106 = .ok (.aload_n 0, 1) := by decide +kernel
theorem dX13_joins_107 : decode cX13_joins 107 = .ok (.iload 4, 2) := by decide +kernel
theorem dX13_joins_109 : decode cX13_joins 109 = .ok (.iload 10, 2) := by decide +kernel
theorem dX13_joins_111 : decode cX13_joins 111 = .ok (.iload_n 2, 1) := by decide +kernel
theorem dX13_joins_112 : decode cX13_joins 112 = .ok (.if_icmp .ge 8, 3) := by decide +kernel
theorem dX13_joins_115 : decode cX13_joins 115 = .ok (.iload 10, 2) := by decide +kernel
theorem dX13_joins_117 : decode cX13_joins 117 = .ok (.goto 7, 3) := by decide +kernel
theorem dX13_joins_120 : decode cX13_joins 120 = .ok (.iload 10, 2) := by decide +kernel
theorem dX13_joins_122 : decode cX13_joins 122 = .ok (.iconst 1, 1) := by decide +kernel
theorem dX13_joins_123 : decode cX13_joins 123 = .ok (.isub, 1) := by decide +kernel
theorem dX13_joins_124 : decode cX13_joins 124 = .ok (.aload_n 0, 1) := by decide +kernel
theorem dX13_joins_125 : decode cX13_joins 125 = .ok (.iload 4, 2) := by decide +kernel
theorem dX13_joins_127 : decode cX13_joins 127 = .ok (.iload 10, 2) := by decide +kernel
theorem dX13_joins_129 : decode cX13_joins 129 = .ok (.invokevirtual 180, 3) := by decide +kernel
theorem dX13_joins_132 : decode cX13_joins 132 = .ok (.invokevirtual 184, 3) := by decide +kernel
theorem dX13_joins_135 : decode cX13_joins 135 = .ok (.iinc 10 1, 3) := by decide +kernel
theorem dX13_joins_138 : decode cX13_joins 138 = .ok (.goto (-52), 3) := by decide +kernel
theorem dX13_joins_141 : decode cX13_joins 141 = .ok (.aload_n 0, 1) := by decide +kernel
theorem dX13_joins_142 : decode cX13_joins 142 = .ok (.iload 4, 2) := by decide +kernel
theorem dX13_joins_144 : decode cX13_joins 144 = .ok (.iload_n 2, 1) := by decide +kernel
theorem dX13_joins_145 : decode cX13_joins 145 = .ok (.lload 5, 2) := by decide +kernel
theorem dX13_joins_147 : decode cX13_joins 147 = .ok (.bipush 8, 2) := by decide +kernel
theorem dX13_joins_149 : decode cX13_joins 149 = .ok (.lshl, 1) := by decide +kernel
theorem dX13_joins_150 : decode cX13_joins 150 = .ok (.iload_n 3, 1) := by decide +kernel
theorem dX13_joins_151 : decode cX13_joins 151 = .ok (.invokestatic 188, 3) := by decide +kernel
theorem dX13_joins_154 : decode cX13_joins 154 = .ok (.i2l, 1) := by decide +kernel
theorem dX13_joins_155 : decode cX13_joins 155 = .ok (.lor, 1) := by decide +kernel
theorem dX13_joins_156 : decode cX13_joins 156 = .ok (.bipush 8, 2) := by decide +kernel
theorem dX13_joins_158 : decode cX13_joins 158 = .ok (.iload 9, 2) := by decide +kernel
theorem dX13_joins_160 : decode cX13_joins 160 = .ok (.imul, 1) := by decide +kernel
theorem dX13_joins_161 : decode cX13_joins 161 = .ok (.lshl, 1) := by decide +kernel
theorem dX13_joins_162 : decode cX13_joins 162 = .ok (.lload 7, 2) := by decide +kernel
theorem dX13_joins_164 : decode cX13_joins 164 = .ok (.lor, 1) := by decide +kernel
theorem dX13_joins_165 : decode cX13_joins 165 = .ok (.invokevirtual 184, 3) := by decide +kernel
theorem dX13_joins_168 : decode cX13_joins 168 = .ok (.iinc 4 1, 3) := by decide +kernel
theorem dX13_joins_171 : decode cX13_joins 171 = .ok (.goto (-141), 3) := by decide +kernel
theorem dX13_joins_174 : decode cX13_joins 174 = .ok (.iconst 1, 1) := by decide +kernel
theorem dX13_joins_175 : decode cX13_joins 175 = .ok (.ireturn, 1) := by decide +kernel
theorem dX13_folds_0 : decode cX13_folds 0 = .ok (.iload_n 2, 1) := by decide +kernel
theorem dX13_folds_1 : decode cX13_folds 1 = .ok (.iconst 1, 1) := by decide +kernel
theorem dX13_folds_2 : decode cX13_folds 2 = .ok (.if_icmp .lt 34, 3) := by decide +kernel
theorem dX13_folds_5 : decode cX13_folds 5 = .ok (.aload_n 0, 1) := by decide +kernel
theorem dX13_folds_6 : decode cX13_folds 6 = .ok (.getfield 126, 3) := by decide +kernel
theorem dX13_folds_9 : decode cX13_folds 9 = .ok (.iconst 2, 1) := by decide +kernel
theorem dX13_folds_10 : decode cX13_folds 10 = .ok (.if_icmp .lt 26, 3) := by decide +kernel
theorem dX13_folds_13 : decode cX13_folds 13 = .ok (.aload_n 0, 1) := by decide +kernel
theorem dX13_folds_14 : decode cX13_folds 14 = .ok (.getfield 126, 3) := by decide +kernel
theorem dX13_folds_17 : decode cX13_folds 17 = .ok (.iconst 1, 1) := by decide +kernel
theorem dX13_folds_18 : decode cX13_folds 18 = .ok (.isub, 1) := by decide +kernel
theorem dX13_folds_19 : decode cX13_folds 19 = .ok (.iload_n 1, 1) := by decide +kernel
theorem dX13_folds_20 : decode cX13_folds 20 = .ok (.iload_n 2, 1) := by decide +kernel
theorem dX13_folds_21 : decode cX13_folds 21 = .ok (.isub, 1) := by decide +kernel
theorem dX13_folds_22 : decode cX13_folds 22 = .ok (.imul, 1) := by decide +kernel
theorem dX13_folds_23 : decode cX13_folds 23 = .ok (.bipush 12, 2) := by decide +kernel
theorem dX13_folds_25 : decode cX13_folds 25 = .ok (.if_icmp .gt 11, 3) := by decide +kernel
theorem dX13_folds_28 : decode cX13_folds 28 = .ok (.iload_n 2, 1) := by decide +kernel
theorem dX13_folds_29 : decode cX13_folds 29 = .ok (.iconst 2, 1) := by decide +kernel
theorem dX13_folds_30 : decode cX13_folds 30 = .ok (.iadd, 1) := by decide +kernel
theorem dX13_folds_31 : decode cX13_folds 31 = .ok (.bipush 6, 2) := by decide +kernel
theorem dX13_folds_33 : decode cX13_folds 33 = .ok (.if_icmp .le 5, 3) := by decide +kernel
theorem dX13_folds_36 : decode cX13_folds 36 = .ok (.iconst 0, 1) := by decide +kernel
theorem dX13_folds_37 : decode cX13_folds 37 = .ok (.ireturn, 1) := by decide +kernel
theorem dX13_folds_38 : decode cX13_folds 38 = .ok (.aload_n 0, 1) := by decide +kernel
theorem dX13_folds_39 : decode cX13_folds 39 = .ok (.bipush 10, 2) := by decide +kernel
theorem dX13_folds_41 : decode cX13_folds 41 = .ok (.aload_n 0, 1) := by decide +kernel
theorem dX13_folds_42 : decode cX13_folds 42 = .ok (.getfield 126, 3) := by decide +kernel
theorem dX13_folds_45 : decode cX13_folds 45 = .ok (.iconst 1, 1) := by decide +kernel
theorem dX13_folds_46 : decode cX13_folds 46 = .ok (.isub, 1) := by decide +kernel
theorem dX13_folds_47 : decode cX13_folds 47 = .ok (.iload_n 1, 1) := by decide +kernel
theorem dX13_folds_48 : decode cX13_folds 48 = .ok (.iload_n 2, 1) := by decide +kernel
theorem dX13_folds_49 : decode cX13_folds 49 = .ok (.isub, 1) := by decide +kernel
theorem dX13_folds_50 : decode cX13_folds 50 = .ok (.imul, 1) := by decide +kernel
theorem dX13_folds_51 : decode cX13_folds 51 = .ok (.iload_n 2, 1) := by decide +kernel
theorem dX13_folds_52 : decode cX13_folds 52 = .ok (.iconst 2, 1) := by decide +kernel
theorem dX13_folds_53 : decode cX13_folds 53 = .ok (.iadd, 1) := by decide +kernel
theorem dX13_folds_54 : decode cX13_folds 54 = .ok (.invokevirtual 176, 3) := by decide +kernel
theorem dX13_folds_57 : decode cX13_folds 57 = .ok (.iconst 0, 1) := by decide +kernel
theorem dX13_folds_58 : decode cX13_folds 58 = .ok (.istore_n 3, 1) := by decide +kernel
theorem dX13_folds_59 : decode cX13_folds 59 = .ok (.iconst 1, 1) := by decide +kernel
theorem dX13_folds_60 : decode cX13_folds 60 = .ok (.istore 4, 2) := by decide +kernel
theorem dX13_folds_62 : decode cX13_folds 62 = .ok (.iload 4, 2) := by decide +kernel
theorem dX13_folds_64 : decode cX13_folds 64 = .ok (.aload_n 0, 1) := by decide +kernel
theorem dX13_folds_65 : decode cX13_folds 65 = .ok (.getfield 126, 3) := by decide +kernel
theorem dX13_folds_68 : decode cX13_folds 68 = .ok (.if_icmp .ge 86, 3) := by decide +kernel
theorem dX13_folds_71 : decode cX13_folds 71 = .ok (.iload_n 2, 1) := by decide +kernel
theorem dX13_folds_72 : decode cX13_folds 72 = .ok (.istore 5, 2) := by decide +kernel
theorem dX13_folds_74 : decode cX13_folds 74 = .ok (.iload 5, 2) := by decide +kernel
theorem dX13_folds_76 : decode cX13_folds 76 = .ok (.iload_n 1, 1) := by decide +kernel
theorem dX13_folds_77 : decode cX13_folds 77 = .ok (.if_icmp .ge 71, 3) := by decide +kernel
theorem dX13_folds_80 : decode cX13_folds 80 = .ok (.iconst 0, 1) := by decide +kernel
theorem dX13_folds_81 : decode cX13_folds 81 = .ok (.istore 6, 2) := by decide +kernel
theorem dX13_folds_83 : decode cX13_folds 83 = .ok (.iload 6, 2) := by decide +kernel
theorem dX13_folds_85 : decode cX13_folds 85 = .ok (.iload_n 2, 1) := by decide +kernel
theorem dX13_folds_86 : decode cX13_folds 86 = .ok (.if_icmp .ge 24, 3) := by decide +kernel
theorem dX13_folds_89 : decode cX13_folds 89 = .ok (.aload_n 0, 1) := by decide +kernel
theorem dX13_folds_90 : decode cX13_folds 90 = .ok (.iload_n 3, 1) := by decide +kernel
theorem dX13_folds_91 : decode cX13_folds 91 = .ok (.iload 6, 2) := by decide +kernel
theorem dX13_folds_93 : decode cX13_folds 93 = .ok (.aload_n 0, 1) := by decide +kernel
theorem dX13_folds_94 : decode cX13_folds 94 = .ok (.iload 4, 2) := by decide +kernel
theorem dX13_folds_96 : decode cX13_folds 96 = .ok (.iload 6, 2) := by decide +kernel
theorem dX13_folds_98 : decode cX13_folds 98 = .ok (.invokevirtual 180, 3) := by decide +kernel
theorem dX13_folds_101 : decode cX13_folds 101 = .ok (.invokevirtual 184, 3) := by decide +kernel
theorem dX13_folds_104 : decode cX13_folds 104 = .ok (.iinc 6 1, 3) := by decide +kernel
theorem dX13_folds_107 : decode cX13_folds 107 = .ok (.goto (-24), 3) := by decide +kernel
theorem dX13_folds_110 : decode cX13_folds 110 = .ok (.aload_n 0, 1) := by decide +kernel
theorem dX13_folds_111 : decode cX13_folds 111 = .ok (.iload_n 3, 1) := by decide +kernel
theorem dX13_folds_112 : decode cX13_folds 112 = .ok (.iload_n 2, 1) := by decide +kernel
theorem dX13_folds_113 : decode cX13_folds 113 = .ok (.aload_n 0, 1) := by decide +kernel
theorem dX13_folds_114 : decode cX13_folds 114 = .ok (.iconst 0, 1) := by decide +kernel
theorem dX13_folds_115 : decode cX13_folds 115 = .ok (.iload 5, 2) := by decide +kernel
theorem dX13_folds_117 : decode cX13_folds 117 = .ok (.invokevirtual 180, 3) := by decide +kernel
theorem dX13_folds_120 : decode cX13_folds 120 = .ok (.invokevirtual 184, 3) := by decide +kernel
theorem dX13_folds_123 : decode cX13_folds 123 = .ok (.aload_n 0, 1) := by decide +kernel
theorem dX13_folds_124 : decode cX13_folds 124 = .ok (.iload_n 3, 1) := by decide +kernel
theorem dX13_folds_125 : decode cX13_folds 125 = .ok (.iload_n 2, 1) := by decide +kernel
theorem dX13_folds_126 : decode cX13_folds 126 = .ok (.iconst 1, 1) := by decide +kernel
theorem dX13_folds_127 : decode cX13_folds 127 = .ok (.iadd, 1) := by decide +kernel
theorem dX13_folds_128 : decode cX13_folds 128 = .ok (.aload_n 0, 1) := by decide +kernel
theorem dX13_folds_129 : decode cX13_folds 129 = .ok (.iload 4, 2) := by decide +kernel
theorem dX13_folds_131 : decode cX13_folds 131 = .ok (.iload 5, 2) := by decide +kernel
theorem dX13_folds_133 : decode cX13_folds 133 = .ok (.invokevirtual 180, 3) := by decide +kernel
theorem dX13_folds_136 : decode cX13_folds 136 = .ok (.invokevirtual 184, 3) := by decide +kernel
theorem dX13_folds_139 : decode cX13_folds 139 = .ok (.iinc 3 1, 3) := by decide +kernel
theorem dX13_folds_142 : decode cX13_folds 142 = .ok (.iinc 5 1, 3) := by decide +kernel
theorem dX13_folds_145 : decode cX13_folds 145 = .ok (.goto (-71), 3) := by decide +kernel
theorem dX13_folds_148 : decode cX13_folds 148 = .ok (.iinc 4 1, 3) := by decide +kernel
theorem dX13_folds_151 : decode cX13_folds 151 = .ok (.goto (-89), 3) := by decide +kernel
theorem dX13_folds_154 : decode cX13_folds 154 = .ok (.iconst 1, 1) := by decide +kernel
theorem dX13_folds_155 : decode cX13_folds 155 = .ok (.ireturn, 1) := by decide +kernel
theorem dX13_areLike_0 : decode cX13_areLike 0 = .ok (.iconst 1, 1) := by decide +kernel
theorem dX13_areLike_1 : decode cX13_areLike 1 = .ok (.istore 4, 2) := by decide +kernel
theorem dX13_areLike_3 : decode cX13_areLike 3 = .ok (.iconst 0, 1) := by decide +kernel
theorem dX13_areLike_4 : decode cX13_areLike 4 = .ok (.istore 5, 2) := by decide +kernel
theorem dX13_areLike_6 : decode cX13_areLike 6 = .ok (.iload 5, 2) := by decide +kernel
theorem dX13_areLike_8 : decode cX13_areLike 8 = .ok (.iload_n 3, 1) := by decide +kernel
theorem dX13_areLike_9 : decode cX13_areLike 9 = .ok (.if_icmp .ge 39, 3) := by decide +kernel
theorem dX13_areLike_12 : decode cX13_areLike 12 = .ok (.iload 4, 2) := by decide +kernel
theorem dX13_areLike_14 : decode cX13_areLike 14 = .ok (.ifCond .eq 25, 3) := by decide +kernel
theorem dX13_areLike_17 : decode cX13_areLike 17 = .ok (.aload_n 0, 1) := by decide +kernel
theorem dX13_areLike_18 : decode cX13_areLike 18 = .ok (.iload_n 1, 1) := by decide +kernel
theorem dX13_areLike_19 : decode cX13_areLike 19 = .ok (.iload 5, 2) := by decide +kernel
theorem dX13_areLike_21 : decode cX13_areLike 21 = .ok (.invokevirtual 180, 3) := by decide +kernel
theorem dX13_areLike_24 : decode cX13_areLike 24 = .ok (.aload_n 0, 1) := by decide +kernel
theorem dX13_areLike_25 : decode cX13_areLike 25 = .ok (.iload_n 2, 1) := by decide +kernel
theorem dX13_areLike_26 : decode cX13_areLike 26 = .ok (.iload 5, 2) := by decide +kernel
theorem dX13_areLike_28 : decode cX13_areLike 28 = .ok (.invokevirtual 180, 3) := by decide +kernel
theorem dX13_areLike_31 : decode cX13_areLike 31 = .ok (.lcmp, 1) := by decide +kernel
theorem dX13_areLike_32 : decode cX13_areLike 32 = .ok (.ifCond .ne 7, 3) := by decide +kernel
theorem dX13_areLike_35 : decode cX13_areLike 35 = .ok (.iconst 1, 1) := by decide +kernel
theorem dX13_areLike_36 : decode cX13_areLike 36 = .ok (.goto 4, 3) := by decide +kernel
theorem dX13_areLike_39 : decode cX13_areLike 39 = .ok (.iconst 0, 1) := by decide +kernel
theorem dX13_areLike_40 : decode cX13_areLike 40 = .ok (.istore 4, 2) := by decide +kernel
theorem dX13_areLike_42 : decode cX13_areLike 42 = .ok (.iinc 5 1, 3) := by decide +kernel
theorem dX13_areLike_45 : decode cX13_areLike 45 = .ok (.goto (-39), 3) := by decide +kernel
theorem dX13_areLike_48 : decode cX13_areLike 48 = .ok (.iload 4, 2) := by decide +kernel
theorem dX13_areLike_50 : decode cX13_areLike 50 = .ok (.ireturn, 1) := by decide +kernel
theorem dX13_firstLike_0 : decode cX13_firstLike 0 = .ok (.iconst 0, 1) := by decide +kernel
theorem dX13_firstLike_1 : decode cX13_firstLike 1 = .ok (.istore_n 3, 1) := by decide +kernel
theorem dX13_firstLike_2 : decode cX13_firstLike 2 = .ok (.aload_n 0, 1) := by decide +kernel
theorem dX13_firstLike_3 : decode cX13_firstLike 3 = .ok (.iload_n 3, 1) := by decide +kernel
theorem dX13_firstLike_4 : decode cX13_firstLike 4 = .ok (.iload_n 1, 1) := by decide +kernel
theorem dX13_firstLike_5 : decode cX13_firstLike 5 = .ok (.iload_n 2, 1) := by decide +kernel
theorem dX13_firstLike_6 : decode cX13_firstLike 6 = .ok (.invokevirtual 200, 3) := by decide +kernel
theorem dX13_firstLike_9 : decode cX13_firstLike 9 = .ok (.ifCond .ne 9, 3) := by decide +kernel
theorem dX13_firstLike_12 : decode cX13_firstLike 12 = .ok (.iinc 3 1, 3) := by decide +kernel
theorem dX13_firstLike_15 : decode cX13_firstLike 15 = .ok (.goto (-13), 3) := by decide +kernel
theorem dX13_firstLike_18 : decode cX13_firstLike 18 = .ok (.iload_n 3, 1) := by decide +kernel
theorem dX13_firstLike_19 : decode cX13_firstLike 19 = .ok (.ireturn, 1) := by decide +kernel
theorem dX13_firstName_0 : decode cX13_firstName 0 = .ok (.iconst 0, 1) := by decide +kernel
theorem dX13_firstName_1 : decode cX13_firstName 1 = .ok (.istore_n 3, 1) := by decide +kernel
theorem dX13_firstName_2 : decode cX13_firstName 2 = .ok (.aload_n 0, 1) := by decide +kernel
theorem dX13_firstName_3 : decode cX13_firstName 3 = .ok (.iload_n 3, 1) := by decide +kernel
theorem dX13_firstName_4 : decode cX13_firstName 4 = .ok (.iload_n 2, 1) := by decide +kernel
theorem dX13_firstName_5 : decode cX13_firstName 5 = .ok (.invokevirtual 180, 3) := by decide +kernel
theorem dX13_firstName_8 : decode cX13_firstName 8 = .ok (.aload_n 0, 1) := by decide +kernel
theorem dX13_firstName_9 : decode cX13_firstName 9 = .ok (.iload_n 1, 1) := by decide +kernel
theorem dX13_firstName_10 : decode cX13_firstName 10 = .ok (.iload_n 2, 1) := by decide +kernel
theorem dX13_firstName_11 : decode cX13_firstName 11 = .ok (.invokevirtual 180, 3) := by decide +kernel
theorem dX13_firstName_14 : decode cX13_firstName 14 = .ok (.lcmp, 1) := by decide +kernel
theorem dX13_firstName_15 : decode cX13_firstName 15 = .ok (.ifCond .eq 9, 3) := by decide +kernel
theorem dX13_firstName_18 : decode cX13_firstName 18 = .ok (.iinc 3 1, 3) := by decide +kernel
theorem dX13_firstName_21 : decode cX13_firstName 21 = .ok (.goto (-19), 3) := by decide +kernel
theorem dX13_firstName_24 : decode cX13_firstName 24 = .ok (.iload_n 3, 1) := by decide +kernel
theorem dX13_firstName_25 : decode cX13_firstName 25 = .ok (.ireturn, 1) := by decide +kernel
theorem dX13_unfolds_0 : decode cX13_unfolds 0 = .ok (.iload_n 1, 1) := by decide +kernel
theorem dX13_unfolds_1 : decode cX13_unfolds 1 = .ok (.iconst 3, 1) := by decide +kernel
theorem dX13_unfolds_2 : decode cX13_unfolds 2 = .ok (.if_icmp .ge 5, 3) := by decide +kernel
theorem dX13_unfolds_5 : decode cX13_unfolds 5 = .ok (.iconst 0, 1) := by decide +kernel
theorem dX13_unfolds_6 : decode cX13_unfolds 6 = .ok (.ireturn, 1) := by decide +kernel
theorem dX13_unfolds_7 : decode cX13_unfolds 7 = .ok (.iload_n 1, 1) := by decide +kernel
theorem dX13_unfolds_8 : decode cX13_unfolds 8 = .ok (.iconst 2, 1) := by decide +kernel
theorem dX13_unfolds_9 : decode cX13_unfolds 9 = .ok (.isub, 1) := by decide +kernel
theorem dX13_unfolds_10 : decode cX13_unfolds 10 = .ok (.istore_n 2, 1) := by decide +kernel
theorem dX13_unfolds_11 : decode cX13_unfolds 11 = .ok (.iconst 0, 1) := by decide +kernel
theorem dX13_unfolds_12 : decode cX13_unfolds 12 = .ok (.istore_n 3, 1) := by decide +kernel
theorem dX13_unfolds_13 : decode cX13_unfolds 13 = .ok (.iconst 0, 1) := by decide +kernel
theorem dX13_unfolds_14 : decode cX13_unfolds 14 = .ok (.istore 4, 2) := by decide +kernel
theorem dX13_unfolds_16 : decode cX13_unfolds 16 = .ok (.iconst 0, 1) := by decide +kernel
theorem dX13_unfolds_17 : decode cX13_unfolds 17 = .ok (.istore 5, 2) := by decide +kernel
theorem dX13_unfolds_19 : decode cX13_unfolds 19 = .ok (.iload 5, 2) := by decide +kernel
theorem dX13_unfolds_21 : decode cX13_unfolds 21 = .ok (.aload_n 0, 1) := by decide +kernel
theorem dX13_unfolds_22 : decode cX13_unfolds 22 = .ok (.getfield 126, 3) := by decide +kernel
theorem dX13_unfolds_25 : decode cX13_unfolds 25 = .ok (.if_icmp .ge 162, 3) := by decide +kernel
theorem dX13_unfolds_28 : decode cX13_unfolds 28 = .ok (.aload_n 0, 1) := by decide +kernel
theorem dX13_unfolds_29 : decode cX13_unfolds 29 = .ok (.iload 5, 2) := by decide +kernel
theorem dX13_unfolds_31 : decode cX13_unfolds 31 = .ok (.iload_n 2, 1) := by decide +kernel
theorem dX13_unfolds_32 : decode cX13_unfolds 32 = .ok (.invokevirtual 203, 3) := by decide +kernel
theorem dX13_unfolds_35 : decode cX13_unfolds 35 = .ok (.istore 6, 2) := by decide +kernel
theorem dX13_unfolds_37 : decode cX13_unfolds 37 = .ok (.aload_n 0, 1) := by decide +kernel
theorem dX13_unfolds_38 : decode cX13_unfolds 38 = .ok (.getfield 20, 3) := by decide +kernel
theorem dX13_unfolds_41 : decode cX13_unfolds 41 = .ok (.iload 5, 2) := by decide +kernel
theorem dX13_unfolds_43 : decode cX13_unfolds 43 = .ok (.iload 6, 2) := by decide +kernel
theorem dX13_unfolds_45 : decode cX13_unfolds 45 = .ok (.iload 5, 2) := by decide +kernel
theorem dX13_unfolds_47 : decode cX13_unfolds 47 = .ok (.if_icmp .ne 7, 3) := by decide +kernel
theorem dX13_unfolds_50 : decode cX13_unfolds 50 = .ok (.iload_n 3, 1) := by decide +kernel
theorem dX13_unfolds_51 : decode cX13_unfolds 51 = .ok (.goto 10, 3) := by decide +kernel
theorem dX13_unfolds_54 : decode cX13_unfolds 54 = .ok (.aload_n 0, 1) := by decide +kernel
theorem dX13_unfolds_55 : decode cX13_unfolds 55 = .ok (.getfield 20, 3) := by decide +kernel
theorem dX13_unfolds_58 : decode cX13_unfolds 58 = .ok (.iload 6, 2) := by decide +kernel
theorem dX13_unfolds_60 : decode cX13_unfolds 60 = .ok (.iaload, 1) := by decide +kernel
theorem dX13_unfolds_61 : decode cX13_unfolds 61 = .ok (.iastore, 1) := by decide +kernel
theorem dX13_unfolds_62 : decode cX13_unfolds 62 = .ok (.iload_n 3, 1) := by decide +kernel
theorem dX13_unfolds_63 : decode cX13_unfolds 63 = .ok (.iload 6, 2) := by decide +kernel
theorem dX13_unfolds_65 : decode cX13_unfolds 65 = .ok (.iload 5, 2) := by decide +kernel
theorem dX13_unfolds_67 : decode cX13_unfolds 67 = .ok (.if_icmp .ne 7, 3) := by decide +kernel
theorem dX13_unfolds_70 : decode cX13_unfolds 70 = .ok (.iconst 1, 1) := by decide +kernel
theorem dX13_unfolds_71 : decode cX13_unfolds 71 = .ok (.goto 4, 3) := by decide +kernel
theorem dX13_unfolds_74 : decode cX13_unfolds 74 = .ok (.iconst 0, 1) := by decide +kernel
theorem dX13_unfolds_75 : decode cX13_unfolds 75 = .ok (.iadd, 1) := by decide +kernel
theorem dX13_unfolds_76 : decode cX13_unfolds 76 = .ok (.istore_n 3, 1) := by decide +kernel
theorem dX13_unfolds_77 : decode cX13_unfolds 77 = .ok (.aload_n 0, 1) := by decide +kernel
theorem dX13_unfolds_78 : decode cX13_unfolds 78 = .ok (.iload 5, 2) := by decide +kernel
theorem dX13_unfolds_80 : decode cX13_unfolds 80 = .ok (.iload_n 2, 1) := by decide +kernel
theorem dX13_unfolds_81 : decode cX13_unfolds 81 = .ok (.invokevirtual 207, 3) := by decide +kernel
theorem dX13_unfolds_84 : decode cX13_unfolds 84 = .ok (.istore 7, 2) := by decide +kernel
theorem dX13_unfolds_86 : decode cX13_unfolds 86 = .ok (.aload_n 0, 1) := by decide +kernel
theorem dX13_unfolds_87 : decode cX13_unfolds 87 = .ok (.getfield 23, 3) := by decide +kernel
theorem dX13_unfolds_90 : decode cX13_unfolds 90 = .ok (.iload 5, 2) := by decide +kernel
theorem dX13_unfolds_92 : decode cX13_unfolds 92 = .ok (.iload 7, 2) := by decide +kernel
theorem dX13_unfolds_94 : decode cX13_unfolds 94 = .ok (.iload 5, 2) := by decide +kernel
theorem dX13_unfolds_96 : decode cX13_unfolds 96 = .ok (.if_icmp .ne 8, 3) := by decide +kernel
theorem dX13_unfolds_99 : decode cX13_unfolds 99 = .ok (.iload 4, 2) := by decide +kernel
theorem dX13_unfolds_101 : decode cX13_unfolds 101 = .ok (.goto 10, 3) := by decide +kernel
theorem dX13_unfolds_104 : decode cX13_unfolds 104 = .ok (.aload_n 0, 1) := by decide +kernel
theorem dX13_unfolds_105 : decode cX13_unfolds 105 = .ok (.getfield 23, 3) := by decide +kernel
theorem dX13_unfolds_108 : decode cX13_unfolds 108 = .ok (.iload 7, 2) := by decide +kernel
theorem dX13_unfolds_110 : decode cX13_unfolds 110 = .ok (.iaload, 1) := by decide +kernel
theorem dX13_unfolds_111 : decode cX13_unfolds 111 = .ok (.iastore, 1) := by decide +kernel
theorem dX13_unfolds_112 : decode cX13_unfolds 112 = .ok (.iload 4, 2) := by decide +kernel
theorem dX13_unfolds_114 : decode cX13_unfolds 114 = .ok (.iload 7, 2) := by decide +kernel
theorem dX13_unfolds_116 : decode cX13_unfolds 116 = .ok (.iload 5, 2) := by decide +kernel
theorem dX13_unfolds_118 : decode cX13_unfolds 118 = .ok (.if_icmp .ne 7, 3) := by decide +kernel
theorem dX13_unfolds_121 : decode cX13_unfolds 121 = .ok (.iconst 1, 1) := by decide +kernel
theorem dX13_unfolds_122 : decode cX13_unfolds 122 = .ok (.goto 4, 3) := by decide +kernel
theorem dX13_unfolds_125 : decode cX13_unfolds 125 = .ok (.iconst 0, 1) := by decide +kernel
theorem dX13_unfolds_126 : decode cX13_unfolds 126 = .ok (.iadd, 1) := by decide +kernel
theorem dX13_unfolds_127 : decode cX13_unfolds 127 = .ok (.istore 4, 2) := by decide +kernel
theorem dX13_unfolds_129 : decode cX13_unfolds 129 = .ok (.iconst 0, 1) := by decide +kernel
theorem dX13_unfolds_130 : decode cX13_unfolds 130 = .ok (.istore 8, 2) := by decide +kernel
theorem dX13_unfolds_132 : decode cX13_unfolds 132 = .ok (.iload 8, 2) := by decide +kernel
theorem dX13_unfolds_134 : decode cX13_unfolds 134 = .ok (.iload 5, 2) := by decide +kernel
theorem dX13_unfolds_136 : decode cX13_unfolds 136 = .ok (.if_icmp .ge 45, 3) := by decide +kernel
theorem dX13_unfolds_139 : decode cX13_unfolds 139 = .ok (.aload_n 0, 1) := by decide +kernel
theorem dX13_unfolds_140 : decode cX13_unfolds 140 = .ok (.getfield 20, 3) := by decide +kernel
theorem dX13_unfolds_143 : decode cX13_unfolds 143 = .ok (.iload 8, 2) := by decide +kernel
theorem dX13_unfolds_145 : decode cX13_unfolds 145 = .ok (.iaload, 1) := by decide +kernel
theorem dX13_unfolds_146 : decode cX13_unfolds 146 = .ok (.aload_n 0, 1) := by decide +kernel
theorem dX13_unfolds_147 : decode cX13_unfolds 147 = .ok (.getfield 20, 3) := by decide +kernel
theorem dX13_unfolds_150 : decode cX13_unfolds 150 = .ok (.iload 5, 2) := by decide +kernel
theorem dX13_unfolds_152 : decode cX13_unfolds 152 = .ok (.iaload, 1) := by decide +kernel
theorem dX13_unfolds_153 : decode cX13_unfolds 153 = .ok (.if_icmp .ne 22, 3) := by decide +kernel
theorem dX13_unfolds_156 : decode cX13_unfolds 156 = .ok (.aload_n 0, 1) := by decide +kernel
theorem dX13_unfolds_157 : decode cX13_unfolds 157 = .ok (.getfield 23, 3) := by decide +kernel
theorem dX13_unfolds_160 : decode cX13_unfolds 160 = .ok (.iload 8, 2) := by decide +kernel
theorem dX13_unfolds_162 : decode cX13_unfolds 162 = .ok (.iaload, 1) := by decide +kernel
theorem dX13_unfolds_163 : decode cX13_unfolds 163 = .ok (.aload_n 0, 1) := by decide +kernel
theorem dX13_unfolds_164 : decode cX13_unfolds 164 = .ok (.getfield 23, 3) := by decide +kernel
theorem dX13_unfolds_167 : decode cX13_unfolds 167 = .ok (.iload 5, 2) := by decide +kernel
theorem dX13_unfolds_169 : decode cX13_unfolds 169 = .ok (.iaload, 1) := by decide +kernel
theorem dX13_unfolds_170 : decode cX13_unfolds 170 = .ok (.if_icmp .ne 5, 3) := by decide +kernel
theorem dX13_unfolds_173 : decode cX13_unfolds 173 = .ok (.iconst 0, 1) := by decide +kernel
theorem dX13_unfolds_174 : decode cX13_unfolds 174 = .ok (.ireturn, 1) := by decide +kernel
theorem dX13_unfolds_175 : decode cX13_unfolds 175 = .ok (.iinc 8 1, 3) := by decide +kernel
theorem dX13_unfolds_178 : decode cX13_unfolds 178 = .ok (.goto (-46), 3) := by decide +kernel
theorem dX13_unfolds_181 : decode cX13_unfolds 181 = .ok (.iinc 5 1, 3) := by decide +kernel
theorem dX13_unfolds_184 : decode cX13_unfolds 184 = .ok (.goto (-165), 3) := by decide +kernel
theorem dX13_unfolds_187 : decode cX13_unfolds 187 = .ok (.iload_n 3, 1) := by decide +kernel
theorem dX13_unfolds_188 : decode cX13_unfolds 188 = .ok (.iconst 1, 1) := by decide +kernel
theorem dX13_unfolds_189 : decode cX13_unfolds 189 = .ok (.iadd, 1) := by decide +kernel
theorem dX13_unfolds_190 : decode cX13_unfolds 190 = .ok (.bipush 12, 2) := by decide +kernel
theorem dX13_unfolds_192 : decode cX13_unfolds 192 = .ok (.if_icmp .gt 12, 3) := by decide +kernel
theorem dX13_unfolds_195 : decode cX13_unfolds 195 = .ok (.iload_n 2, 1) := by decide +kernel
theorem dX13_unfolds_196 : decode cX13_unfolds 196 = .ok (.iload 4, 2) := by decide +kernel
theorem dX13_unfolds_198 : decode cX13_unfolds 198 = .ok (.iadd, 1) := by decide +kernel
theorem dX13_unfolds_199 : decode cX13_unfolds 199 = .ok (.bipush 6, 2) := by decide +kernel
theorem dX13_unfolds_201 : decode cX13_unfolds 201 = .ok (.if_icmp .le 5, 3) := by decide +kernel
theorem dX13_unfolds_204 : decode cX13_unfolds 204 = .ok (.iconst 0, 1) := by decide +kernel
theorem dX13_unfolds_205 : decode cX13_unfolds 205 = .ok (.ireturn, 1) := by decide +kernel
theorem dX13_unfolds_206 : decode cX13_unfolds 206 = .ok (.aload_n 0, 1) := by decide +kernel
theorem dX13_unfolds_207 : decode cX13_unfolds 207 = .ok (.bipush 10, 2) := by decide +kernel
theorem dX13_unfolds_209 : decode cX13_unfolds 209 = .ok (.iload_n 3, 1) := by decide +kernel
theorem dX13_unfolds_210 : decode cX13_unfolds 210 = .ok (.iconst 1, 1) := by decide +kernel
theorem dX13_unfolds_211 : decode cX13_unfolds 211 = .ok (.iadd, 1) := by decide +kernel
theorem dX13_unfolds_212 : decode cX13_unfolds 212 = .ok (.iload_n 2, 1) := by decide +kernel
theorem dX13_unfolds_213 : decode cX13_unfolds 213 = .ok (.iload 4, 2) := by decide +kernel
theorem dX13_unfolds_215 : decode cX13_unfolds 215 = .ok (.iadd, 1) := by decide +kernel
theorem dX13_unfolds_216 : decode cX13_unfolds 216 = .ok (.invokevirtual 176, 3) := by decide +kernel
theorem dX13_unfolds_219 : decode cX13_unfolds 219 = .ok (.iconst 0, 1) := by decide +kernel
theorem dX13_unfolds_220 : decode cX13_unfolds 220 = .ok (.istore 5, 2) := by decide +kernel
theorem dX13_unfolds_222 : decode cX13_unfolds 222 = .ok (.iload 5, 2) := by decide +kernel
theorem dX13_unfolds_224 : decode cX13_unfolds 224 = .ok (.aload_n 0, 1) := by decide +kernel
theorem dX13_unfolds_225 : decode cX13_unfolds 225 = .ok (.getfield 126, 3) := by decide +kernel
theorem dX13_unfolds_228 : decode cX13_unfolds 228 = .ok (.if_icmp .ge 99, 3) := by decide +kernel
theorem dX13_unfolds_231 : decode cX13_unfolds 231 = .ok (.aload_n 0, 1) := by decide +kernel
theorem dX13_unfolds_232 : decode cX13_unfolds 232 = .ok (.iconst 0, 1) := by decide +kernel
theorem dX13_unfolds_233 : decode cX13_unfolds 233 = .ok (.iload_n 2, 1) := by decide +kernel
theorem dX13_unfolds_234 : decode cX13_unfolds 234 = .ok (.aload_n 0, 1) := by decide +kernel
theorem dX13_unfolds_235 : decode cX13_unfolds 235 = .ok (.getfield 23, 3) := by decide +kernel
theorem dX13_unfolds_238 : decode cX13_unfolds 238 = .ok (.iload 5, 2) := by decide +kernel
theorem dX13_unfolds_240 : decode cX13_unfolds 240 = .ok (.iaload, 1) := by decide +kernel
theorem dX13_unfolds_241 : decode cX13_unfolds 241 = .ok (.iadd, 1) := by decide +kernel
theorem dX13_unfolds_242 : decode cX13_unfolds 242 = .ok (.aload_n 0, 1) := by decide +kernel
theorem dX13_unfolds_243 : decode cX13_unfolds 243 = .ok (.iload 5, 2) := by decide +kernel
theorem dX13_unfolds_245 : decode cX13_unfolds 245 = .ok (.iload_n 2, 1) := by decide +kernel
theorem dX13_unfolds_246 : decode cX13_unfolds 246 = .ok (.invokevirtual 180, 3) := by decide +kernel
theorem dX13_unfolds_249 : decode cX13_unfolds 249 = .ok (.invokevirtual 184, 3) := by decide +kernel
theorem dX13_unfolds_252 : decode cX13_unfolds 252 = .ok (.iconst 0, 1) := by decide +kernel
theorem dX13_unfolds_253 : decode cX13_unfolds 253 = .ok (.istore 6, 2) := by decide +kernel
theorem dX13_unfolds_255 : decode cX13_unfolds 255 = .ok (.iload 6, 2) := by decide +kernel
theorem dX13_unfolds_257 : decode cX13_unfolds 257 = .ok (.iload_n 2, 1) := by decide +kernel
theorem dX13_unfolds_258 : decode cX13_unfolds 258 = .ok (.if_icmp .ge 32, 3) := by decide +kernel
theorem dX13_unfolds_261 : decode cX13_unfolds 261 = .ok (.aload_n 0, 1) := by decide +kernel
theorem dX13_unfolds_262 : decode cX13_unfolds 262 = .ok (.aload_n 0, 1) := by decide +kernel
theorem dX13_unfolds_263 : decode cX13_unfolds 263 = .ok (.getfield 20, 3) := by decide +kernel
theorem dX13_unfolds_266 : decode cX13_unfolds 266 = .ok (.iload 5, 2) := by decide +kernel
theorem dX13_unfolds_268 : decode cX13_unfolds 268 = .ok (.iaload, 1) := by decide +kernel
theorem dX13_unfolds_269 : decode cX13_unfolds 269 = .ok (.iconst 1, 1) := by decide +kernel
theorem dX13_unfolds_270 : decode cX13_unfolds 270 = .ok (.iadd, 1) := by decide +kernel
theorem dX13_unfolds_271 : decode cX13_unfolds 271 = .ok (.iload 6, 2) := by decide +kernel
theorem dX13_unfolds_273 : decode cX13_unfolds 273 = .ok (.aload_n 0, 1) := by decide +kernel
theorem dX13_unfolds_274 : decode cX13_unfolds 274 = .ok (.iload 5, 2) := by decide +kernel
theorem dX13_unfolds_276 : decode cX13_unfolds 276 = .ok (.iload 6, 2) := by decide +kernel
theorem dX13_unfolds_278 : decode cX13_unfolds 278 = .ok (.invokevirtual 180, 3) := by decide +kernel
theorem dX13_unfolds_281 : decode cX13_unfolds 281 = .ok (.invokevirtual 184, 3) := by decide +kernel
theorem dX13_unfolds_284 : decode cX13_unfolds 284 = .ok (.iinc 6 1, 3) := by decide +kernel
theorem dX13_unfolds_287 : decode cX13_unfolds 287 = .ok (.goto (-32), 3) := by decide +kernel
theorem dX13_unfolds_290 : decode cX13_unfolds 290 = .ok (.aload_n 0, 1) := by decide +kernel
theorem dX13_unfolds_291 : decode cX13_unfolds 291 = .ok (.aload_n 0, 1) := by decide +kernel
theorem dX13_unfolds_292 : decode cX13_unfolds 292 = .ok (.getfield 20, 3) := by decide +kernel
theorem dX13_unfolds_295 : decode cX13_unfolds 295 = .ok (.iload 5, 2) := by decide +kernel
theorem dX13_unfolds_297 : decode cX13_unfolds 297 = .ok (.iaload, 1) := by decide +kernel
theorem dX13_unfolds_298 : decode cX13_unfolds 298 = .ok (.iconst 1, 1) := by decide +kernel
theorem dX13_unfolds_299 : decode cX13_unfolds 299 = .ok (.iadd, 1) := by decide +kernel
theorem dX13_unfolds_300 : decode cX13_unfolds 300 = .ok (.iload_n 2, 1) := by decide +kernel
theorem dX13_unfolds_301 : decode cX13_unfolds 301 = .ok (.aload_n 0, 1) := by decide +kernel
theorem dX13_unfolds_302 : decode cX13_unfolds 302 = .ok (.getfield 23, 3) := by decide +kernel
theorem dX13_unfolds_305 : decode cX13_unfolds 305 = .ok (.iload 5, 2) := by decide +kernel
theorem dX13_unfolds_307 : decode cX13_unfolds 307 = .ok (.iaload, 1) := by decide +kernel
theorem dX13_unfolds_308 : decode cX13_unfolds 308 = .ok (.iadd, 1) := by decide +kernel
theorem dX13_unfolds_309 : decode cX13_unfolds 309 = .ok (.aload_n 0, 1) := by decide +kernel
theorem dX13_unfolds_310 : decode cX13_unfolds 310 = .ok (.iload 5, 2) := by decide +kernel
theorem dX13_unfolds_312 : decode cX13_unfolds 312 = .ok (.iload_n 2, 1) := by decide +kernel
theorem dX13_unfolds_313 : decode cX13_unfolds 313 = .ok (.iconst 1, 1) := by decide +kernel
theorem dX13_unfolds_314 : decode cX13_unfolds 314 = .ok (.iadd, 1) := by decide +kernel
theorem dX13_unfolds_315 : decode cX13_unfolds 315 = .ok (.invokevirtual 180, 3) := by decide +kernel
theorem dX13_unfolds_318 : decode cX13_unfolds 318 = .ok (.invokevirtual 184, 3) := by decide +kernel
theorem dX13_unfolds_321 : decode cX13_unfolds 321 = .ok (.iinc 5 1, 3) := by decide +kernel
theorem dX13_unfolds_324 : decode cX13_unfolds 324 = .ok (.goto (-102), 3) := by decide +kernel
theorem dX13_unfolds_327 : decode cX13_unfolds 327 = .ok (.iconst 1, 1) := by decide +kernel
theorem dX13_unfolds_328 : decode cX13_unfolds 328 = .ok (.ireturn, 1) := by decide +kernel
theorem dX13_rowsBy_0 : decode cX13_rowsBy 0 = .ok (.aload_n 0, 1) := by decide +kernel
theorem dX13_rowsBy_1 : decode cX13_rowsBy 1 = .ok (.bipush 10, 2) := by decide +kernel
theorem dX13_rowsBy_3 : decode cX13_rowsBy 3 = .ok (.iload_n 1, 1) := by decide +kernel
theorem dX13_rowsBy_4 : decode cX13_rowsBy 4 = .ok (.iload_n 2, 1) := by decide +kernel
theorem dX13_rowsBy_5 : decode cX13_rowsBy 5 = .ok (.invokevirtual 176, 3) := by decide +kernel
theorem dX13_rowsBy_8 : decode cX13_rowsBy 8 = .ok (.iconst 0, 1) := by decide +kernel
theorem dX13_rowsBy_9 : decode cX13_rowsBy 9 = .ok (.istore_n 3, 1) := by decide +kernel
theorem dX13_rowsBy_10 : decode cX13_rowsBy 10 = .ok (.iload_n 3, 1) := by decide +kernel
theorem dX13_rowsBy_11 : decode cX13_rowsBy 11 = .ok (.iload_n 1, 1) := by decide +kernel
theorem dX13_rowsBy_12 : decode cX13_rowsBy 12 = .ok (.if_icmp .ge 43, 3) := by decide +kernel
theorem dX13_rowsBy_15 : decode cX13_rowsBy 15 = .ok (.iconst 0, 1) := by decide +kernel
theorem dX13_rowsBy_16 : decode cX13_rowsBy 16 = .ok (.istore 4, 2) := by decide +kernel
theorem dX13_rowsBy_18 : decode cX13_rowsBy 18 = .ok (.iload 4, 2) := by decide +kernel
theorem dX13_rowsBy_20 : decode cX13_rowsBy 20 = .ok (.iload_n 2, 1) := by decide +kernel
theorem dX13_rowsBy_21 : decode cX13_rowsBy 21 = .ok (.if_icmp .ge 28, 3) := by decide +kernel
theorem dX13_rowsBy_24 : decode cX13_rowsBy 24 = .ok (.aload_n 0, 1) := by decide +kernel
theorem dX13_rowsBy_25 : decode cX13_rowsBy 25 = .ok (.iload_n 3, 1) := by decide +kernel
theorem dX13_rowsBy_26 : decode cX13_rowsBy 26 = .ok (.iload 4, 2) := by decide +kernel
theorem dX13_rowsBy_28 : decode cX13_rowsBy 28 = .ok (.aload_n 0, 1) := by decide +kernel
theorem dX13_rowsBy_29 : decode cX13_rowsBy 29 = .ok (.aload_n 0, 1) := by decide +kernel
theorem dX13_rowsBy_30 : decode cX13_rowsBy 30 = .ok (.getfield 26, 3) := by decide +kernel
theorem dX13_rowsBy_33 : decode cX13_rowsBy 33 = .ok (.iload_n 3, 1) := by decide +kernel
theorem dX13_rowsBy_34 : decode cX13_rowsBy 34 = .ok (.iaload, 1) := by decide +kernel
theorem dX13_rowsBy_35 : decode cX13_rowsBy 35 = .ok (.iload 4, 2) := by decide +kernel
theorem dX13_rowsBy_37 : decode cX13_rowsBy 37 = .ok (.invokevirtual 180, 3) := by decide +kernel
theorem dX13_rowsBy_40 : decode cX13_rowsBy 40 = .ok (.invokevirtual 184, 3) := by decide +kernel
theorem dX13_rowsBy_43 : decode cX13_rowsBy 43 = .ok (.iinc 4 1, 3) := by decide +kernel
theorem dX13_rowsBy_46 : decode cX13_rowsBy 46 = .ok (.goto (-28), 3) := by decide +kernel
theorem dX13_rowsBy_49 : decode cX13_rowsBy 49 = .ok (.iinc 3 1, 3) := by decide +kernel
theorem dX13_rowsBy_52 : decode cX13_rowsBy 52 = .ok (.goto (-42), 3) := by decide +kernel
theorem dX13_rowsBy_55 : decode cX13_rowsBy 55 = .ok (.return_, 1) := by decide +kernel
theorem dX13_sorts_0 : decode cX13_sorts 0 = .ok (.iconst 0, 1) := by decide +kernel
theorem dX13_sorts_1 : decode cX13_sorts 1 = .ok (.istore_n 3, 1) := by decide +kernel
theorem dX13_sorts_2 : decode cX13_sorts 2 = .ok (.iconst 0, 1) := by decide +kernel
theorem dX13_sorts_3 : decode cX13_sorts 3 = .ok (.istore 4, 2) := by decide +kernel
theorem dX13_sorts_5 : decode cX13_sorts 5 = .ok (.iload 4, 2) := by decide +kernel
theorem dX13_sorts_7 : decode cX13_sorts 7 = .ok (.aload_n 0, 1) := by decide +kernel
theorem dX13_sorts_8 : decode cX13_sorts 8 = .ok (.getfield 126, 3) := by decide +kernel
theorem dX13_sorts_11 : decode cX13_sorts 11 = .ok (.if_icmp .ge 82, 3) := by decide +kernel
theorem dX13_sorts_14 : decode cX13_sorts 14 = .ok (.iload 4, 2) := by decide +kernel
theorem dX13_sorts_16 : decode cX13_sorts 16 = .ok (.istore 5, 2) := by decide +kernel
theorem dX13_sorts_18 : decode cX13_sorts 18 = .ok (.iload 5, 2) := by decide +kernel
theorem dX13_sorts_20 : decode cX13_sorts 20 = .ok (.ifCond .le 58, 3) := by decide +kernel
theorem dX13_sorts_23 : decode cX13_sorts 23 = .ok (.aload_n 0, 1) := by decide +kernel
theorem dX13_sorts_24 : decode cX13_sorts 24 = .ok (.aload_n 0, 1) := by decide +kernel
theorem dX13_sorts_25 : decode cX13_sorts 25 = .ok (.getfield 26, 3) := by decide +kernel
theorem dX13_sorts_28 : decode cX13_sorts 28 = .ok (.iload 5, 2) := by decide +kernel
theorem dX13_sorts_30 : decode cX13_sorts 30 = .ok (.iconst 1, 1) := by decide +kernel
theorem dX13_sorts_31 : decode cX13_sorts 31 = .ok (.isub, 1) := by decide +kernel
theorem dX13_sorts_32 : decode cX13_sorts 32 = .ok (.iaload, 1) := by decide +kernel
theorem dX13_sorts_33 : decode cX13_sorts 33 = .ok (.iload_n 2, 1) := by decide +kernel
theorem dX13_sorts_34 : decode cX13_sorts 34 = .ok (.invokevirtual 180, 3) := by decide +kernel
theorem dX13_sorts_37 : decode cX13_sorts 37 = .ok (.invokestatic 210, 3) := by decide +kernel
theorem dX13_sorts_40 : decode cX13_sorts 40 = .ok (.aload_n 0, 1) := by decide +kernel
theorem dX13_sorts_41 : decode cX13_sorts 41 = .ok (.iload 4, 2) := by decide +kernel
theorem dX13_sorts_43 : decode cX13_sorts 43 = .ok (.iload_n 2, 1) := by decide +kernel
theorem dX13_sorts_44 : decode cX13_sorts 44 = .ok (.invokevirtual 180, 3) := by decide +kernel
theorem dX13_sorts_47 : decode cX13_sorts 47 = .ok (.invokestatic 210, 3) := by decide +kernel
theorem dX13_sorts_50 : decode cX13_sorts 50 = .ok (.lcmp, 1) := by decide +kernel
theorem dX13_sorts_51 : decode cX13_sorts 51 = .ok (.ifCond .le 27, 3) := by decide +kernel
theorem dX13_sorts_54 : decode cX13_sorts 54 = .ok (.aload_n 0, 1) := by decide +kernel
theorem dX13_sorts_55 : decode cX13_sorts 55 = .ok (.getfield 26, 3) := by decide +kernel
theorem dX13_sorts_58 : decode cX13_sorts 58 = .ok (.iload 5, 2) := by decide +kernel
theorem dX13_sorts_60 : decode cX13_sorts 60 = .ok (.aload_n 0, 1) := by decide +kernel
theorem dX13_sorts_61 : decode cX13_sorts 61 = .ok (.getfield 26, 3) := by decide +kernel
theorem dX13_sorts_64 : decode cX13_sorts 64 = .ok (.iload 5, 2) := by decide +kernel
theorem dX13_sorts_66 : decode cX13_sorts 66 = .ok (.iconst 1, 1) := by decide +kernel
theorem dX13_sorts_67 : decode cX13_sorts 67 = .ok (.isub, 1) := by decide +kernel
theorem dX13_sorts_68 : decode cX13_sorts 68 = .ok (.iaload, 1) := by decide +kernel
theorem dX13_sorts_69 : decode cX13_sorts 69 = .ok (.iastore, 1) := by decide +kernel
theorem dX13_sorts_70 : decode cX13_sorts 70 = .ok (.iinc 5 (-1), 3) := by decide +kernel
theorem dX13_sorts_73 : decode cX13_sorts 73 = .ok (.iconst 1, 1) := by decide +kernel
theorem dX13_sorts_74 : decode cX13_sorts 74 = .ok (.istore_n 3, 1) := by decide +kernel
theorem dX13_sorts_75 : decode cX13_sorts 75 = .ok (.goto (-57), 3) := by decide +kernel
theorem dX13_sorts_78 : decode cX13_sorts 78 = .ok (.aload_n 0, 1) := by decide +kernel
theorem dX13_sorts_79 : decode cX13_sorts 79 = .ok (.getfield 26, 3) := by decide +kernel
theorem dX13_sorts_82 : decode cX13_sorts 82 = .ok (.iload 5, 2) := by decide +kernel
theorem dX13_sorts_84 : decode cX13_sorts 84 = .ok (.iload 4, 2) := by decide +kernel
theorem dX13_sorts_86 : decode cX13_sorts 86 = .ok (.iastore, 1) := by decide +kernel
theorem dX13_sorts_87 : decode cX13_sorts 87 = .ok (.iinc 4 1, 3) := by decide +kernel
theorem dX13_sorts_90 : decode cX13_sorts 90 = .ok (.goto (-85), 3) := by decide +kernel
theorem dX13_sorts_93 : decode cX13_sorts 93 = .ok (.aload_n 0, 1) := by decide +kernel
theorem dX13_sorts_94 : decode cX13_sorts 94 = .ok (.aload_n 0, 1) := by decide +kernel
theorem dX13_sorts_95 : decode cX13_sorts 95 = .ok (.getfield 126, 3) := by decide +kernel
theorem dX13_sorts_98 : decode cX13_sorts 98 = .ok (.iload_n 1, 1) := by decide +kernel
theorem dX13_sorts_99 : decode cX13_sorts 99 = .ok (.invokevirtual 214, 3) := by decide +kernel
theorem dX13_sorts_102 : decode cX13_sorts 102 = .ok (.iload_n 3, 1) := by decide +kernel
theorem dX13_sorts_103 : decode cX13_sorts 103 = .ok (.ireturn, 1) := by decide +kernel
theorem dX13_singles_0 : decode cX13_singles 0 = .ok (.iconst 0, 1) := by decide +kernel
theorem dX13_singles_1 : decode cX13_singles 1 = .ok (.istore_n 2, 1) := by decide +kernel
theorem dX13_singles_2 : decode cX13_singles 2 = .ok (.iconst 0, 1) := by decide +kernel
theorem dX13_singles_3 : decode cX13_singles 3 = .ok (.istore_n 3, 1) := by decide +kernel
theorem dX13_singles_4 : decode cX13_singles 4 = .ok (.iload_n 3, 1) := by decide +kernel
theorem dX13_singles_5 : decode cX13_singles 5 = .ok (.aload_n 0, 1) := by decide +kernel
theorem dX13_singles_6 : decode cX13_singles 6 = .ok (.getfield 126, 3) := by decide +kernel
theorem dX13_singles_9 : decode cX13_singles 9 = .ok (.if_icmp .ge 32, 3) := by decide +kernel
theorem dX13_singles_12 : decode cX13_singles 12 = .ok (.aload_n 0, 1) := by decide +kernel
theorem dX13_singles_13 : decode cX13_singles 13 = .ok (.iload_n 3, 1) := by decide +kernel
theorem dX13_singles_14 : decode cX13_singles 14 = .ok (.iload_n 1, 1) := by decide +kernel
theorem dX13_singles_15 : decode cX13_singles 15 = .ok (.invokevirtual 203, 3) := by decide +kernel
theorem dX13_singles_18 : decode cX13_singles 18 = .ok (.iload_n 3, 1) := by decide +kernel
theorem dX13_singles_19 : decode cX13_singles 19 = .ok (.if_icmp .eq 6, 3) := by decide +kernel
theorem dX13_singles_22 : decode cX13_singles 22 = .ok (.goto 13, 3) := by decide +kernel
theorem dX13_singles_25 : decode cX13_singles 25 = .ok (.aload_n 0, 1) := by decide +kernel
theorem dX13_singles_26 : decode cX13_singles 26 = .ok (.getfield 26, 3) := by decide +kernel
theorem dX13_singles_29 : decode cX13_singles 29 = .ok (.iload_n 2, 1) := by decide +kernel
theorem dX13_singles_30 : decode cX13_singles 30 = .ok (.iload_n 3, 1) := by decide +kernel
theorem dX13_singles_31 : decode cX13_singles 31 = .ok (.iastore, 1) := by decide +kernel
theorem dX13_singles_32 : decode cX13_singles 32 = .ok (.iinc 2 1, 3) := by decide +kernel
theorem dX13_singles_35 : decode cX13_singles 35 = .ok (.iinc 3 1, 3) := by decide +kernel
theorem dX13_singles_38 : decode cX13_singles 38 = .ok (.goto (-34), 3) := by decide +kernel
theorem dX13_singles_41 : decode cX13_singles 41 = .ok (.aload_n 0, 1) := by decide +kernel
theorem dX13_singles_42 : decode cX13_singles 42 = .ok (.iload_n 2, 1) := by decide +kernel
theorem dX13_singles_43 : decode cX13_singles 43 = .ok (.iload_n 1, 1) := by decide +kernel
theorem dX13_singles_44 : decode cX13_singles 44 = .ok (.invokevirtual 214, 3) := by decide +kernel
theorem dX13_singles_47 : decode cX13_singles 47 = .ok (.iload_n 2, 1) := by decide +kernel
theorem dX13_singles_48 : decode cX13_singles 48 = .ok (.aload_n 0, 1) := by decide +kernel
theorem dX13_singles_49 : decode cX13_singles 49 = .ok (.getfield 126, 3) := by decide +kernel
theorem dX13_singles_52 : decode cX13_singles 52 = .ok (.if_icmp .ge 7, 3) := by decide +kernel
theorem dX13_singles_55 : decode cX13_singles 55 = .ok (.iconst 1, 1) := by decide +kernel
theorem dX13_singles_56 : decode cX13_singles 56 = .ok (.goto 4, 3) := by decide +kernel
theorem dX13_singles_59 : decode cX13_singles 59 = .ok (.iconst 0, 1) := by decide +kernel
theorem dX13_singles_60 : decode cX13_singles 60 = .ok (.ireturn, 1) := by decide +kernel
theorem dX13_counts_0 : decode cX13_counts 0 = .ok (.iconst 0, 1) := by decide +kernel
theorem dX13_counts_1 : decode cX13_counts 1 = .ok (.istore_n 2, 1) := by decide +kernel
theorem dX13_counts_2 : decode cX13_counts 2 = .ok (.iconst 0, 1) := by decide +kernel
theorem dX13_counts_3 : decode cX13_counts 3 = .ok (.istore_n 3, 1) := by decide +kernel
theorem dX13_counts_4 : decode cX13_counts 4 = .ok (.iload_n 3, 1) := by decide +kernel
theorem dX13_counts_5 : decode cX13_counts 5 = .ok (.aload_n 0, 1) := by decide +kernel
theorem dX13_counts_6 : decode cX13_counts 6 = .ok (.getfield 126, 3) := by decide +kernel
theorem dX13_counts_9 : decode cX13_counts 9 = .ok (.if_icmp .ge 27, 3) := by decide +kernel
theorem dX13_counts_12 : decode cX13_counts 12 = .ok (.iload_n 2, 1) := by decide +kernel
theorem dX13_counts_13 : decode cX13_counts 13 = .ok (.aload_n 0, 1) := by decide +kernel
theorem dX13_counts_14 : decode cX13_counts 14 = .ok (.iload_n 3, 1) := by decide +kernel
theorem dX13_counts_15 : decode cX13_counts 15 = .ok (.iload_n 1, 1) := by decide +kernel
theorem dX13_counts_16 : decode cX13_counts 16 = .ok (.invokevirtual 207, 3) := by decide +kernel
theorem dX13_counts_19 : decode cX13_counts 19 = .ok (.iload_n 3, 1) := by decide +kernel
theorem dX13_counts_20 : decode cX13_counts 20 = .ok (.if_icmp .ne 7, 3) := by decide +kernel
theorem dX13_counts_23 : decode cX13_counts 23 = .ok (.iconst 1, 1) := by decide +kernel
theorem dX13_counts_24 : decode cX13_counts 24 = .ok (.goto 4, 3) := by decide +kernel
theorem dX13_counts_27 : decode cX13_counts 27 = .ok (.iconst 0, 1) := by decide +kernel
theorem dX13_counts_28 : decode cX13_counts 28 = .ok (.iadd, 1) := by decide +kernel
theorem dX13_counts_29 : decode cX13_counts 29 = .ok (.istore_n 2, 1) := by decide +kernel
theorem dX13_counts_30 : decode cX13_counts 30 = .ok (.iinc 3 1, 3) := by decide +kernel
theorem dX13_counts_33 : decode cX13_counts 33 = .ok (.goto (-29), 3) := by decide +kernel
theorem dX13_counts_36 : decode cX13_counts 36 = .ok (.aload_n 0, 1) := by decide +kernel
theorem dX13_counts_37 : decode cX13_counts 37 = .ok (.bipush 10, 2) := by decide +kernel
theorem dX13_counts_39 : decode cX13_counts 39 = .ok (.iload_n 2, 1) := by decide +kernel
theorem dX13_counts_40 : decode cX13_counts 40 = .ok (.iconst 2, 1) := by decide +kernel
theorem dX13_counts_41 : decode cX13_counts 41 = .ok (.invokevirtual 176, 3) := by decide +kernel
theorem dX13_counts_44 : decode cX13_counts 44 = .ok (.iconst 0, 1) := by decide +kernel
theorem dX13_counts_45 : decode cX13_counts 45 = .ok (.istore_n 3, 1) := by decide +kernel
theorem dX13_counts_46 : decode cX13_counts 46 = .ok (.iconst 0, 1) := by decide +kernel
theorem dX13_counts_47 : decode cX13_counts 47 = .ok (.istore 4, 2) := by decide +kernel
theorem dX13_counts_49 : decode cX13_counts 49 = .ok (.iload 4, 2) := by decide +kernel
theorem dX13_counts_51 : decode cX13_counts 51 = .ok (.aload_n 0, 1) := by decide +kernel
theorem dX13_counts_52 : decode cX13_counts 52 = .ok (.getfield 126, 3) := by decide +kernel
theorem dX13_counts_55 : decode cX13_counts 55 = .ok (.if_icmp .ge 100, 3) := by decide +kernel
theorem dX13_counts_58 : decode cX13_counts 58 = .ok (.aload_n 0, 1) := by decide +kernel
theorem dX13_counts_59 : decode cX13_counts 59 = .ok (.iload 4, 2) := by decide +kernel
theorem dX13_counts_61 : decode cX13_counts 61 = .ok (.iload_n 1, 1) := by decide +kernel
theorem dX13_counts_62 : decode cX13_counts 62 = .ok (.invokevirtual 207, 3) := by decide +kernel
theorem dX13_counts_65 : decode cX13_counts 65 = .ok (.iload 4, 2) := by decide +kernel
theorem dX13_counts_67 : decode cX13_counts 67 = .ok (.if_icmp .eq 6, 3) := by decide +kernel
theorem dX13_counts_70 : decode cX13_counts 70 = .ok (.goto 79, 3) := by decide +kernel
theorem dX13_counts_73 : decode cX13_counts 73 = .ok (.iconst 0, 1) := by decide +kernel
theorem dX13_counts_74 : decode cX13_counts 74 = .ok (.istore 5, 2) := by decide +kernel
theorem dX13_counts_76 : decode cX13_counts 76 = .ok (.iconst 0, 1) := by decide +kernel
theorem dX13_counts_77 : decode cX13_counts 77 = .ok (.istore 6, 2) := by decide +kernel
theorem dX13_counts_79 : decode cX13_counts 79 = .ok (.iload 6, 2) := by decide +kernel
theorem dX13_counts_81 : decode cX13_counts 81 = .ok (.aload_n 0, 1) := by decide +kernel
theorem dX13_counts_82 : decode cX13_counts 82 = .ok (.getfield 126, 3) := by decide +kernel
theorem dX13_counts_85 : decode cX13_counts 85 = .ok (.if_icmp .ge 37, 3) := by decide +kernel
theorem dX13_counts_88 : decode cX13_counts 88 = .ok (.iload 5, 2) := by decide +kernel
theorem dX13_counts_90 : decode cX13_counts 90 = .ok (.aload_n 0, 1) := by decide +kernel
theorem dX13_counts_91 : decode cX13_counts 91 = .ok (.iload 6, 2) := by decide +kernel
theorem dX13_counts_93 : decode cX13_counts 93 = .ok (.iload_n 1, 1) := by decide +kernel
theorem dX13_counts_94 : decode cX13_counts 94 = .ok (.invokevirtual 180, 3) := by decide +kernel
theorem dX13_counts_97 : decode cX13_counts 97 = .ok (.aload_n 0, 1) := by decide +kernel
theorem dX13_counts_98 : decode cX13_counts 98 = .ok (.iload 4, 2) := by decide +kernel
theorem dX13_counts_100 : decode cX13_counts 100 = .ok (.iload_n 1, 1) := by decide +kernel
theorem dX13_counts_101 : decode cX13_counts 101 = .ok (.invokevirtual 180, 3) := by decide +kernel
theorem dX13_counts_104 : decode cX13_counts 104 = .ok (.lcmp, 1) := by decide +kernel
theorem dX13_counts_105 : decode cX13_counts 105 = .ok (.ifCond .ne 7, 3) := by decide +kernel
theorem dX13_counts_108 : decode cX13_counts 108 = .ok (.iconst 1, 1) := by decide +kernel
theorem dX13_counts_109 : decode cX13_counts 109 = .ok (.goto 4, 3) := by decide +kernel
theorem dX13_counts_112 : decode cX13_counts 112 = .ok (.iconst 0, 1) := by decide +kernel
theorem dX13_counts_113 : decode cX13_counts 113 = .ok (.iadd, 1) := by decide +kernel
theorem dX13_counts_114 : decode cX13_counts 114 = .ok (.istore 5, 2) := by decide +kernel
theorem dX13_counts_116 : decode cX13_counts 116 = .ok (.iinc 6 1, 3) := by decide +kernel
theorem dX13_counts_119 : decode cX13_counts 119 = .ok (.goto (-40), 3) := by decide +kernel
theorem dX13_counts_122 : decode cX13_counts 122 = .ok (.aload_n 0, 1) := by decide +kernel
theorem dX13_counts_123 : decode cX13_counts 123 = .ok (.iload_n 3, 1) := by decide +kernel
theorem dX13_counts_124 : decode cX13_counts 124 = .ok (.iconst 0, 1) := by decide +kernel
theorem dX13_counts_125 : decode cX13_counts 125 = .ok (.aload_n 0, 1) := by decide +kernel
theorem dX13_counts_126 : decode cX13_counts 126 = .ok (.iload 4, 2) := by decide +kernel
theorem dX13_counts_128 : decode cX13_counts 128 = .ok (.iload_n 1, 1) := by decide +kernel
theorem dX13_counts_129 : decode cX13_counts 129 = .ok (.invokevirtual 180, 3) := by decide +kernel
theorem dX13_counts_132 : decode cX13_counts 132 = .ok (.invokevirtual 184, 3) := by decide +kernel
theorem dX13_counts_135 : decode cX13_counts 135 = .ok (.aload_n 0, 1) := by decide +kernel
theorem dX13_counts_136 : decode cX13_counts 136 = .ok (.iload_n 3, 1) := by decide +kernel
theorem dX13_counts_137 : decode cX13_counts 137 = .ok (.iconst 1, 1) := by decide +kernel
theorem dX13_counts_138 : decode cX13_counts 138 = .ok (.iload 5, 2) := by decide +kernel
theorem dX13_counts_140 : decode cX13_counts 140 = .ok (.invokestatic 217, 3) := by decide +kernel
theorem dX13_counts_143 : decode cX13_counts 143 = .ok (.invokevirtual 184, 3) := by decide +kernel
theorem dX13_counts_146 : decode cX13_counts 146 = .ok (.iinc 3 1, 3) := by decide +kernel
theorem dX13_counts_149 : decode cX13_counts 149 = .ok (.iinc 4 1, 3) := by decide +kernel
theorem dX13_counts_152 : decode cX13_counts 152 = .ok (.goto (-103), 3) := by decide +kernel
theorem dX13_counts_155 : decode cX13_counts 155 = .ok (.iconst 1, 1) := by decide +kernel
theorem dX13_counts_156 : decode cX13_counts 156 = .ok (.ireturn, 1) := by decide +kernel
theorem dX13_sums_0 : decode cX13_sums 0 = .ok (.iload_n 3, 1) := by decide +kernel
theorem dX13_sums_1 : decode cX13_sums 1 = .ok (.iload_n 1, 1) := by decide +kernel
theorem dX13_sums_2 : decode cX13_sums 2 = .ok (.if_icmp .ge 8, 3) := by decide +kernel
theorem dX13_sums_5 : decode cX13_sums 5 = .ok (.iload_n 2, 1) := by decide +kernel
theorem dX13_sums_6 : decode cX13_sums 6 = .ok (.iload_n 3, 1) := by decide +kernel
theorem dX13_sums_7 : decode cX13_sums 7 = .ok (.if_icmp .ne 5, 3) := by decide +kernel
theorem dX13_sums_10 : decode cX13_sums 10 = .ok (.iconst 0, 1) := by decide +kernel
theorem dX13_sums_11 : decode cX13_sums 11 = .ok (.ireturn, 1) := by decide +kernel
theorem dX13_sums_12 : decode cX13_sums 12 = .ok (.iconst 0, 1) := by decide +kernel
theorem dX13_sums_13 : decode cX13_sums 13 = .ok (.istore 4, 2) := by decide +kernel
theorem dX13_sums_15 : decode cX13_sums 15 = .ok (.iconst 0, 1) := by decide +kernel
theorem dX13_sums_16 : decode cX13_sums 16 = .ok (.istore 5, 2) := by decide +kernel
theorem dX13_sums_18 : decode cX13_sums 18 = .ok (.iload 5, 2) := by decide +kernel
theorem dX13_sums_20 : decode cX13_sums 20 = .ok (.aload_n 0, 1) := by decide +kernel
theorem dX13_sums_21 : decode cX13_sums 21 = .ok (.getfield 126, 3) := by decide +kernel
theorem dX13_sums_24 : decode cX13_sums 24 = .ok (.if_icmp .ge 46, 3) := by decide +kernel
theorem dX13_sums_27 : decode cX13_sums 27 = .ok (.iload 4, 2) := by decide +kernel
theorem dX13_sums_29 : decode cX13_sums 29 = .ok (.aload_n 0, 1) := by decide +kernel
theorem dX13_sums_30 : decode cX13_sums 30 = .ok (.iload 5, 2) := by decide +kernel
theorem dX13_sums_32 : decode cX13_sums 32 = .ok (.iload_n 2, 1) := by decide +kernel
theorem dX13_sums_33 : decode cX13_sums 33 = .ok (.invokevirtual 207, 3) := by decide +kernel
theorem dX13_sums_36 : decode cX13_sums 36 = .ok (.iload 5, 2) := by decide +kernel
theorem dX13_sums_38 : decode cX13_sums 38 = .ok (.if_icmp .ne 7, 3) := by decide +kernel
theorem dX13_sums_41 : decode cX13_sums 41 = .ok (.iconst 1, 1) := by decide +kernel
theorem dX13_sums_42 : decode cX13_sums 42 = .ok (.goto 4, 3) := by decide +kernel
theorem dX13_sums_45 : decode cX13_sums 45 = .ok (.iconst 0, 1) := by decide +kernel
theorem dX13_sums_46 : decode cX13_sums 46 = .ok (.iadd, 1) := by decide +kernel
theorem dX13_sums_47 : decode cX13_sums 47 = .ok (.istore 4, 2) := by decide +kernel
theorem dX13_sums_49 : decode cX13_sums 49 = .ok (.aload_n 0, 1) := by decide +kernel
theorem dX13_sums_50 : decode cX13_sums 50 = .ok (.iload 5, 2) := by decide +kernel
theorem dX13_sums_52 : decode cX13_sums 52 = .ok (.iload_n 3, 1) := by decide +kernel
theorem dX13_sums_53 : decode cX13_sums 53 = .ok (.invokevirtual 180, 3) := by decide +kernel
theorem dX13_sums_56 : decode cX13_sums 56 = .ok (.invokestatic 221, 3) := by decide +kernel
theorem dX13_sums_59 : decode cX13_sums 59 = .ok (.ifCond .ne 5, 3) := by decide +kernel
theorem dX13_sums_62 : decode cX13_sums 62 = .ok (.iconst 0, 1) := by decide +kernel
theorem dX13_sums_63 : decode cX13_sums 63 = .ok (.ireturn, 1) := by decide +kernel
theorem dX13_sums_64 : decode cX13_sums 64 = .ok (.iinc 5 1, 3) := by decide +kernel
theorem dX13_sums_67 : decode cX13_sums 67 = .ok (.goto (-49), 3) := by decide +kernel
theorem dX13_sums_70 : decode cX13_sums 70 = .ok (.aload_n 0, 1) := by decide +kernel
theorem dX13_sums_71 : decode cX13_sums 71 = .ok (.bipush 10, 2) := by decide +kernel
theorem dX13_sums_73 : decode cX13_sums 73 = .ok (.iload 4, 2) := by decide +kernel
theorem dX13_sums_75 : decode cX13_sums 75 = .ok (.iconst 2, 1) := by decide +kernel
theorem dX13_sums_76 : decode cX13_sums 76 = .ok (.invokevirtual 176, 3) := by decide +kernel
theorem dX13_sums_79 : decode cX13_sums 79 = .ok (.iconst 0, 1) := by decide +kernel
theorem dX13_sums_80 : decode cX13_sums 80 = .ok (.istore 5, 2) := by decide +kernel
theorem dX13_sums_82 : decode cX13_sums 82 = .ok (.iconst 0, 1) := by decide +kernel
theorem dX13_sums_83 : decode cX13_sums 83 = .ok (.istore 6, 2) := by decide +kernel
theorem dX13_sums_85 : decode cX13_sums 85 = .ok (.iload 6, 2) := by decide +kernel
theorem dX13_sums_87 : decode cX13_sums 87 = .ok (.aload_n 0, 1) := by decide +kernel
theorem dX13_sums_88 : decode cX13_sums 88 = .ok (.getfield 126, 3) := by decide +kernel
theorem dX13_sums_91 : decode cX13_sums 91 = .ok (.if_icmp .ge 120, 3) := by decide +kernel
theorem dX13_sums_94 : decode cX13_sums 94 = .ok (.aload_n 0, 1) := by decide +kernel
theorem dX13_sums_95 : decode cX13_sums 95 = .ok (.iload 6, 2) := by decide +kernel
theorem dX13_sums_97 : decode cX13_sums 97 = .ok (.iload_n 2, 1) := by decide +kernel
theorem dX13_sums_98 : decode cX13_sums 98 = .ok (.invokevirtual 207, 3) := by decide +kernel
theorem dX13_sums_101 : decode cX13_sums 101 = .ok (.iload 6, 2) := by decide +kernel
theorem dX13_sums_103 : decode cX13_sums 103 = .ok (.if_icmp .eq 6, 3) := by decide +kernel
theorem dX13_sums_106 : decode cX13_sums 106 = .ok (.goto 99, 3) := by decide +kernel
theorem dX13_sums_109 : decode cX13_sums 109 = .ok (.iconst 0, 1) := by decide +kernel
theorem dX13_sums_110 : decode cX13_sums 110 = .ok (.istore 7, 2) := by decide +kernel
theorem dX13_sums_112 : decode cX13_sums 112 = .ok (.iconst 0, 1) := by decide +kernel
theorem dX13_sums_113 : decode cX13_sums 113 = .ok (.istore 8, 2) := by decide +kernel
theorem dX13_sums_115 : decode cX13_sums 115 = .ok (.iload 8, 2) := by decide +kernel
theorem dX13_sums_117 : decode cX13_sums 117 = .ok (.aload_n 0, 1) := by decide +kernel
theorem dX13_sums_118 : decode cX13_sums 118 = .ok (.getfield 126, 3) := by decide +kernel
theorem dX13_sums_121 : decode cX13_sums 121 = .ok (.if_icmp .ge 46, 3) := by decide +kernel
theorem dX13_sums_124 : decode cX13_sums 124 = .ok (.iload 7, 2) := by decide +kernel
theorem dX13_sums_126 : decode cX13_sums 126 = .ok (.aload_n 0, 1) := by decide +kernel
theorem dX13_sums_127 : decode cX13_sums 127 = .ok (.iload 8, 2) := by decide +kernel
theorem dX13_sums_129 : decode cX13_sums 129 = .ok (.iload_n 2, 1) := by decide +kernel
theorem dX13_sums_130 : decode cX13_sums 130 = .ok (.invokevirtual 180, 3) := by decide +kernel
theorem dX13_sums_133 : decode cX13_sums 133 = .ok (.aload_n 0, 1) := by decide +kernel
theorem dX13_sums_134 : decode cX13_sums 134 = .ok (.iload 6, 2) := by decide +kernel
theorem dX13_sums_136 : decode cX13_sums 136 = .ok (.iload_n 2, 1) := by decide +kernel
theorem dX13_sums_137 : decode cX13_sums 137 = .ok (.invokevirtual 180, 3) := by decide +kernel
theorem dX13_sums_140 : decode cX13_sums 140 = .ok (.lcmp, 1) := by decide +kernel
theorem dX13_sums_141 : decode cX13_sums 141 = .ok (.ifCond .ne 16, 3) := by decide +kernel
theorem dX13_sums_144 : decode cX13_sums 144 = .ok (.aload_n 0, 1) := by decide +kernel
theorem dX13_sums_145 : decode cX13_sums 145 = .ok (.iload 8, 2) := by decide +kernel
theorem dX13_sums_147 : decode cX13_sums 147 = .ok (.iload_n 3, 1) := by decide +kernel
theorem dX13_sums_148 : decode cX13_sums 148 = .ok (.invokevirtual 180, 3) := by decide +kernel
theorem dX13_sums_151 : decode cX13_sums 151 = .ok (.invokestatic 225, 3) := by decide +kernel
theorem dX13_sums_154 : decode cX13_sums 154 = .ok (.goto 4, 3) := by decide +kernel
theorem dX13_sums_157 : decode cX13_sums 157 = .ok (.iconst 0, 1) := by decide +kernel
theorem dX13_sums_158 : decode cX13_sums 158 = .ok (.iadd, 1) := by decide +kernel
theorem dX13_sums_159 : decode cX13_sums 159 = .ok (.istore 7, 2) := by decide +kernel
theorem dX13_sums_161 : decode cX13_sums 161 = .ok (.iinc 8 1, 3) := by decide +kernel
theorem dX13_sums_164 : decode cX13_sums 164 = .ok (.goto (-49), 3) := by decide +kernel
theorem dX13_sums_167 : decode cX13_sums 167 = .ok (.iload 7, 2) := by decide +kernel
theorem dX13_sums_169 : decode cX13_sums 169 = .ok (.ldc 228, 2) := by decide +kernel
theorem dX13_sums_171 : decode cX13_sums 171 = .ok (.if_icmp .lt 5, 3) := by decide +kernel
theorem dX13_sums_174 : decode cX13_sums 174 = .ok (.iconst 0, 1) := by decide +kernel
theorem dX13_sums_175 : decode cX13_sums 175 = .ok (.ireturn, 1) := by decide +kernel
theorem dX13_sums_176 : decode cX13_sums 176 = .ok (.aload_n 0, 1) := by decide +kernel
theorem dX13_sums_177 : decode cX13_sums 177 = .ok (.iload 5, 2) := by decide +kernel
theorem dX13_sums_179 : decode cX13_sums 179 = .ok (.iconst 0, 1) := by decide +kernel
theorem dX13_sums_180 : decode cX13_sums 180 = .ok (.aload_n 0, 1) := by decide +kernel
theorem dX13_sums_181 : decode cX13_sums 181 = .ok (.iload 6, 2) := by decide +kernel
theorem dX13_sums_183 : decode cX13_sums 183 = .ok (.iload_n 2, 1) := by decide +kernel
theorem dX13_sums_184 : decode cX13_sums 184 = .ok (.invokevirtual 180, 3) := by decide +kernel
theorem dX13_sums_187 : decode cX13_sums 187 = .ok (.invokevirtual 184, 3) := by decide +kernel
theorem dX13_sums_190 : decode cX13_sums 190 = .ok (.aload_n 0, 1) := by decide +kernel
theorem dX13_sums_191 : decode cX13_sums 191 = .ok (.iload 5, 2) := by decide +kernel
theorem dX13_sums_193 : decode cX13_sums 193 = .ok (.iconst 1, 1) := by decide +kernel
theorem dX13_sums_194 : decode cX13_sums 194 = .ok (.iload 7, 2) := by decide +kernel
theorem dX13_sums_196 : decode cX13_sums 196 = .ok (.invokestatic 217, 3) := by decide +kernel
theorem dX13_sums_199 : decode cX13_sums 199 = .ok (.invokevirtual 184, 3) := by decide +kernel
theorem dX13_sums_202 : decode cX13_sums 202 = .ok (.iinc 5 1, 3) := by decide +kernel
theorem dX13_sums_205 : decode cX13_sums 205 = .ok (.iinc 6 1, 3) := by decide +kernel
theorem dX13_sums_208 : decode cX13_sums 208 = .ok (.goto (-123), 3) := by decide +kernel
theorem dX13_sums_211 : decode cX13_sums 211 = .ok (.iconst 1, 1) := by decide +kernel
theorem dX13_sums_212 : decode cX13_sums 212 = .ok (.ireturn, 1) := by decide +kernel
theorem dX13_keeps_0 : decode cX13_keeps 0 = .ok (.iconst 0, 1) := by decide +kernel
theorem dX13_keeps_1 : decode cX13_keeps 1 = .ok (.istore_n 3, 1) := by decide +kernel
theorem dX13_keeps_2 : decode cX13_keeps 2 = .ok (.iconst 0, 1) := by decide +kernel
theorem dX13_keeps_3 : decode cX13_keeps 3 = .ok (.istore 4, 2) := by decide +kernel
theorem dX13_keeps_5 : decode cX13_keeps 5 = .ok (.iload 4, 2) := by decide +kernel
theorem dX13_keeps_7 : decode cX13_keeps 7 = .ok (.aload_n 0, 1) := by decide +kernel
theorem dX13_keeps_8 : decode cX13_keeps 8 = .ok (.getfield 126, 3) := by decide +kernel
theorem dX13_keeps_11 : decode cX13_keeps 11 = .ok (.if_icmp .ge 35, 3) := by decide +kernel
theorem dX13_keeps_14 : decode cX13_keeps 14 = .ok (.aload_n 0, 1) := by decide +kernel
theorem dX13_keeps_15 : decode cX13_keeps 15 = .ok (.iload 4, 2) := by decide +kernel
theorem dX13_keeps_17 : decode cX13_keeps 17 = .ok (.iload_n 2, 1) := by decide +kernel
theorem dX13_keeps_18 : decode cX13_keeps 18 = .ok (.invokevirtual 180, 3) := by decide +kernel
theorem dX13_keeps_21 : decode cX13_keeps 21 = .ok (.lconst 0, 1) := by decide +kernel
theorem dX13_keeps_22 : decode cX13_keeps 22 = .ok (.lcmp, 1) := by decide +kernel
theorem dX13_keeps_23 : decode cX13_keeps 23 = .ok (.ifCond .ne 6, 3) := by decide +kernel
theorem dX13_keeps_26 : decode cX13_keeps 26 = .ok (.goto 14, 3) := by decide +kernel
theorem dX13_keeps_29 : decode cX13_keeps 29 = .ok (.aload_n 0, 1) := by decide +kernel
theorem dX13_keeps_30 : decode cX13_keeps 30 = .ok (.getfield 26, 3) := by decide +kernel
theorem dX13_keeps_33 : decode cX13_keeps 33 = .ok (.iload_n 3, 1) := by decide +kernel
theorem dX13_keeps_34 : decode cX13_keeps 34 = .ok (.iload 4, 2) := by decide +kernel
theorem dX13_keeps_36 : decode cX13_keeps 36 = .ok (.iastore, 1) := by decide +kernel
theorem dX13_keeps_37 : decode cX13_keeps 37 = .ok (.iinc 3 1, 3) := by decide +kernel
theorem dX13_keeps_40 : decode cX13_keeps 40 = .ok (.iinc 4 1, 3) := by decide +kernel
theorem dX13_keeps_43 : decode cX13_keeps 43 = .ok (.goto (-38), 3) := by decide +kernel
theorem dX13_keeps_46 : decode cX13_keeps 46 = .ok (.iload_n 3, 1) := by decide +kernel
theorem dX13_keeps_47 : decode cX13_keeps 47 = .ok (.ifCond .eq 11, 3) := by decide +kernel
theorem dX13_keeps_50 : decode cX13_keeps 50 = .ok (.iload_n 3, 1) := by decide +kernel
theorem dX13_keeps_51 : decode cX13_keeps 51 = .ok (.aload_n 0, 1) := by decide +kernel
theorem dX13_keeps_52 : decode cX13_keeps 52 = .ok (.getfield 126, 3) := by decide +kernel
theorem dX13_keeps_55 : decode cX13_keeps 55 = .ok (.if_icmp .ne 5, 3) := by decide +kernel
theorem dX13_keeps_58 : decode cX13_keeps 58 = .ok (.iconst 0, 1) := by decide +kernel
theorem dX13_keeps_59 : decode cX13_keeps 59 = .ok (.ireturn, 1) := by decide +kernel
theorem dX13_keeps_60 : decode cX13_keeps 60 = .ok (.aload_n 0, 1) := by decide +kernel
theorem dX13_keeps_61 : decode cX13_keeps 61 = .ok (.iload_n 3, 1) := by decide +kernel
theorem dX13_keeps_62 : decode cX13_keeps 62 = .ok (.iload_n 1, 1) := by decide +kernel
theorem dX13_keeps_63 : decode cX13_keeps 63 = .ok (.invokevirtual 214, 3) := by decide +kernel
theorem dX13_keeps_66 : decode cX13_keeps 66 = .ok (.iconst 1, 1) := by decide +kernel
theorem dX13_keeps_67 : decode cX13_keeps 67 = .ok (.ireturn, 1) := by decide +kernel
theorem dX13_loses_0 : decode cX13_loses 0 = .ok (.aload_n 0, 1) := by decide +kernel
theorem dX13_loses_1 : decode cX13_loses 1 = .ok (.getfield 126, 3) := by decide +kernel
theorem dX13_loses_4 : decode cX13_loses 4 = .ok (.iconst 2, 1) := by decide +kernel
theorem dX13_loses_5 : decode cX13_loses 5 = .ok (.if_icmp .ge 5, 3) := by decide +kernel
theorem dX13_loses_8 : decode cX13_loses 8 = .ok (.iconst 0, 1) := by decide +kernel
theorem dX13_loses_9 : decode cX13_loses 9 = .ok (.ireturn, 1) := by decide +kernel
theorem dX13_loses_10 : decode cX13_loses 10 = .ok (.iconst 0, 1) := by decide +kernel
theorem dX13_loses_11 : decode cX13_loses 11 = .ok (.istore_n 2, 1) := by decide +kernel
theorem dX13_loses_12 : decode cX13_loses 12 = .ok (.iload_n 2, 1) := by decide +kernel
theorem dX13_loses_13 : decode cX13_loses 13 = .ok (.aload_n 0, 1) := by decide +kernel
theorem dX13_loses_14 : decode cX13_loses 14 = .ok (.getfield 126, 3) := by decide +kernel
theorem dX13_loses_17 : decode cX13_loses 17 = .ok (.iconst 1, 1) := by decide +kernel
theorem dX13_loses_18 : decode cX13_loses 18 = .ok (.isub, 1) := by decide +kernel
theorem dX13_loses_19 : decode cX13_loses 19 = .ok (.if_icmp .ge 18, 3) := by decide +kernel
theorem dX13_loses_22 : decode cX13_loses 22 = .ok (.aload_n 0, 1) := by decide +kernel
theorem dX13_loses_23 : decode cX13_loses 23 = .ok (.getfield 26, 3) := by decide +kernel
theorem dX13_loses_26 : decode cX13_loses 26 = .ok (.iload_n 2, 1) := by decide +kernel
theorem dX13_loses_27 : decode cX13_loses 27 = .ok (.iload_n 2, 1) := by decide +kernel
theorem dX13_loses_28 : decode cX13_loses 28 = .ok (.iconst 1, 1) := by decide +kernel
theorem dX13_loses_29 : decode cX13_loses 29 = .ok (.iadd, 1) := by decide +kernel
theorem dX13_loses_30 : decode cX13_loses 30 = .ok (.iastore, 1) := by decide +kernel
theorem dX13_loses_31 : decode cX13_loses 31 = .ok (.iinc 2 1, 3) := by decide +kernel
theorem dX13_loses_34 : decode cX13_loses 34 = .ok (.goto (-22), 3) := by decide +kernel
theorem dX13_loses_37 : decode cX13_loses 37 = .ok (.aload_n 0, 1) := by decide +kernel
theorem dX13_loses_38 : decode cX13_loses 38 = .ok (.aload_n 0, 1) := by decide +kernel
theorem dX13_loses_39 : decode cX13_loses 39 = .ok (.getfield 126, 3) := by decide +kernel
theorem dX13_loses_42 : decode cX13_loses 42 = .ok (.iconst 1, 1) := by decide +kernel
theorem dX13_loses_43 : decode cX13_loses 43 = .ok (.isub, 1) := by decide +kernel
theorem dX13_loses_44 : decode cX13_loses 44 = .ok (.iload_n 1, 1) := by decide +kernel
theorem dX13_loses_45 : decode cX13_loses 45 = .ok (.invokevirtual 214, 3) := by decide +kernel
theorem dX13_loses_48 : decode cX13_loses 48 = .ok (.iconst 1, 1) := by decide +kernel
theorem dX13_loses_49 : decode cX13_loses 49 = .ok (.ireturn, 1) := by decide +kernel
theorem dX13_swaps_0 : decode cX13_swaps 0 = .ok (.iload_n 2, 1) := by decide +kernel
theorem dX13_swaps_1 : decode cX13_swaps 1 = .ok (.iconst 1, 1) := by decide +kernel
theorem dX13_swaps_2 : decode cX13_swaps 2 = .ok (.iadd, 1) := by decide +kernel
theorem dX13_swaps_3 : decode cX13_swaps 3 = .ok (.iload_n 1, 1) := by decide +kernel
theorem dX13_swaps_4 : decode cX13_swaps 4 = .ok (.if_icmp .lt 5, 3) := by decide +kernel
theorem dX13_swaps_7 : decode cX13_swaps 7 = .ok (.iconst 0, 1) := by decide +kernel
theorem dX13_swaps_8 : decode cX13_swaps 8 = .ok (.ireturn, 1) := by decide +kernel
theorem dX13_swaps_9 : decode cX13_swaps 9 = .ok (.aload_n 0, 1) := by decide +kernel
theorem dX13_swaps_10 : decode cX13_swaps 10 = .ok (.bipush 10, 2) := by decide +kernel
theorem dX13_swaps_12 : decode cX13_swaps 12 = .ok (.aload_n 0, 1) := by decide +kernel
theorem dX13_swaps_13 : decode cX13_swaps 13 = .ok (.getfield 117, 3) := by decide +kernel
theorem dX13_swaps_16 : decode cX13_swaps 16 = .ok (.invokevirtual 196, 3) := by decide +kernel
theorem dX13_swaps_19 : decode cX13_swaps 19 = .ok (.iconst 0, 1) := by decide +kernel
theorem dX13_swaps_20 : decode cX13_swaps 20 = .ok (.istore_n 3, 1) := by decide +kernel
theorem dX13_swaps_21 : decode cX13_swaps 21 = .ok (.iload_n 3, 1) := by decide +kernel
theorem dX13_swaps_22 : decode cX13_swaps 22 = .ok (.aload_n 0, 1) := by decide +kernel
theorem dX13_swaps_23 : decode cX13_swaps 23 = .ok (.getfield 126, 3) := by decide +kernel
theorem dX13_swaps_26 : decode cX13_swaps 26 = .ok (.if_icmp .ge 37, 3) := by decide +kernel
theorem dX13_swaps_29 : decode cX13_swaps 29 = .ok (.aload_n 0, 1) := by decide +kernel
theorem dX13_swaps_30 : decode cX13_swaps 30 = .ok (.iload_n 3, 1) := by decide +kernel
theorem dX13_swaps_31 : decode cX13_swaps 31 = .ok (.iload_n 2, 1) := by decide +kernel
theorem dX13_swaps_32 : decode cX13_swaps 32 = .ok (.aload_n 0, 1) := by decide +kernel
theorem dX13_swaps_33 : decode cX13_swaps 33 = .ok (.iload_n 3, 1) := by decide +kernel
theorem dX13_swaps_34 : decode cX13_swaps 34 = .ok (.iload_n 2, 1) := by decide +kernel
theorem dX13_swaps_35 : decode cX13_swaps 35 = .ok (.iconst 1, 1) := by decide +kernel
theorem dX13_swaps_36 : decode cX13_swaps 36 = .ok (.iadd, 1) := by decide +kernel
theorem dX13_swaps_37 : decode cX13_swaps 37 = .ok (.invokevirtual 180, 3) := by decide +kernel
theorem dX13_swaps_40 : decode cX13_swaps 40 = .ok (.invokevirtual 184, 3) := by decide +kernel
theorem dX13_swaps_43 : decode cX13_swaps 43 = .ok (.aload_n 0, 1) := by decide +kernel
theorem dX13_swaps_44 : decode cX13_swaps 44 = .ok (.iload_n 3, 1) := by decide +kernel
theorem dX13_swaps_45 : decode cX13_swaps 45 = .ok (.iload_n 2, 1) := by decide +kernel
theorem dX13_swaps_46 : decode cX13_swaps 46 = .ok (.iconst 1, 1) := by decide +kernel
theorem dX13_swaps_47 : decode cX13_swaps 47 = .ok (.iadd, 1) := by decide +kernel
theorem dX13_swaps_48 : decode cX13_swaps 48 = .ok (.aload_n 0, 1) := by decide +kernel
theorem dX13_swaps_49 : decode cX13_swaps 49 = .ok (.iload_n 3, 1) := by decide +kernel
theorem dX13_swaps_50 : decode cX13_swaps 50 = .ok (.iload_n 2, 1) := by decide +kernel
theorem dX13_swaps_51 : decode cX13_swaps 51 = .ok (.invokevirtual 180, 3) := by decide +kernel
theorem dX13_swaps_54 : decode cX13_swaps 54 = .ok (.invokevirtual 184, 3) := by decide +kernel
theorem dX13_swaps_57 : decode cX13_swaps 57 = .ok (.iinc 3 1, 3) := by decide +kernel
theorem dX13_swaps_60 : decode cX13_swaps 60 = .ok (.goto (-39), 3) := by decide +kernel
theorem dX13_swaps_63 : decode cX13_swaps 63 = .ok (.iconst 1, 1) := by decide +kernel
theorem dX13_swaps_64 : decode cX13_swaps 64 = .ok (.ireturn, 1) := by decide +kernel
theorem dX13_isWay_0 : decode cX13_isWay 0 = .ok (.iload_n 0, 1) := by decide +kernel
theorem dX13_isWay_1 : decode cX13_isWay 1 = .ok (.i2l, 1) := by decide +kernel
theorem dX13_isWay_2 : decode cX13_isWay 2 = .ok (.lconst 0, 1) := by decide +kernel
theorem dX13_isWay_3 : decode cX13_isWay 3 = .ok (.ldc2_w 111, 3) := by decide +kernel
theorem dX13_isWay_6 : decode cX13_isWay 6 = .ok (.invokestatic 113, 3) := by decide +kernel
theorem dX13_isWay_9 : decode cX13_isWay 9 = .ok (.ireturn, 1) := by decide +kernel
theorem dX13_takeWay_0 : decode cX13_takeWay 0 = .ok (.aload_n 0, 1) := by decide +kernel
theorem dX13_takeWay_1 : decode cX13_takeWay 1 = .ok (.getfield 29, 3) := by decide +kernel
theorem dX13_takeWay_4 : decode cX13_takeWay 4 = .ok (.iload_n 1, 1) := by decide +kernel
theorem dX13_takeWay_5 : decode cX13_takeWay 5 = .ok (.aload_n 0, 1) := by decide +kernel
theorem dX13_takeWay_6 : decode cX13_takeWay 6 = .ok (.getfield 29, 3) := by decide +kernel
theorem dX13_takeWay_9 : decode cX13_takeWay 9 = .ok (.iload_n 2, 1) := by decide +kernel
theorem dX13_takeWay_10 : decode cX13_takeWay 10 = .ok (.iaload, 1) := by decide +kernel
theorem dX13_takeWay_11 : decode cX13_takeWay 11 = .ok (.iastore, 1) := by decide +kernel
theorem dX13_takeWay_12 : decode cX13_takeWay 12 = .ok (.iconst 0, 1) := by decide +kernel
theorem dX13_takeWay_13 : decode cX13_takeWay 13 = .ok (.istore_n 3, 1) := by decide +kernel
theorem dX13_takeWay_14 : decode cX13_takeWay 14 = .ok (.iload_n 3, 1) := by decide +kernel
theorem dX13_takeWay_15 : decode cX13_takeWay 15 = .ok (.bipush 12, 2) := by decide +kernel
theorem dX13_takeWay_17 : decode cX13_takeWay 17 = .ok (.if_icmp .ge 75, 3) := by decide +kernel
theorem dX13_takeWay_20 : decode cX13_takeWay 20 = .ok (.aload_n 0, 1) := by decide +kernel
theorem dX13_takeWay_21 : decode cX13_takeWay 21 = .ok (.getfield 32, 3) := by decide +kernel
theorem dX13_takeWay_24 : decode cX13_takeWay 24 = .ok (.bipush 12, 2) := by decide +kernel
theorem dX13_takeWay_26 : decode cX13_takeWay 26 = .ok (.iload_n 1, 1) := by decide +kernel
theorem dX13_takeWay_27 : decode cX13_takeWay 27 = .ok (.imul, 1) := by decide +kernel
theorem dX13_takeWay_28 : decode cX13_takeWay 28 = .ok (.iload_n 3, 1) := by decide +kernel
theorem dX13_takeWay_29 : decode cX13_takeWay 29 = .ok (.iadd, 1) := by decide +kernel
theorem dX13_takeWay_30 : decode cX13_takeWay 30 = .ok (.aload_n 0, 1) := by decide +kernel
theorem dX13_takeWay_31 : decode cX13_takeWay 31 = .ok (.getfield 32, 3) := by decide +kernel
theorem dX13_takeWay_34 : decode cX13_takeWay 34 = .ok (.bipush 12, 2) := by decide +kernel
theorem dX13_takeWay_36 : decode cX13_takeWay 36 = .ok (.iload_n 2, 1) := by decide +kernel
theorem dX13_takeWay_37 : decode cX13_takeWay 37 = .ok (.imul, 1) := by decide +kernel
theorem dX13_takeWay_38 : decode cX13_takeWay 38 = .ok (.iload_n 3, 1) := by decide +kernel
theorem dX13_takeWay_39 : decode cX13_takeWay 39 = .ok (.iadd, 1) := by decide +kernel
theorem dX13_takeWay_40 : decode cX13_takeWay 40 = .ok (.iaload, 1) := by decide +kernel
theorem dX13_takeWay_41 : decode cX13_takeWay 41 = .ok (.iastore, 1) := by decide +kernel
theorem dX13_takeWay_42 : decode cX13_takeWay 42 = .ok (.aload_n 0, 1) := by decide +kernel
theorem dX13_takeWay_43 : decode cX13_takeWay 43 = .ok (.getfield 35, 3) := by decide +kernel
theorem dX13_takeWay_46 : decode cX13_takeWay 46 = .ok (.bipush 12, 2) := by decide +kernel
theorem dX13_takeWay_48 : decode cX13_takeWay 48 = .ok (.iload_n 1, 1) := by decide +kernel
theorem dX13_takeWay_49 : decode cX13_takeWay 49 = .ok (.imul, 1) := by decide +kernel
theorem dX13_takeWay_50 : decode cX13_takeWay 50 = .ok (.iload_n 3, 1) := by decide +kernel
theorem dX13_takeWay_51 : decode cX13_takeWay 51 = .ok (.iadd, 1) := by decide +kernel
theorem dX13_takeWay_52 : decode cX13_takeWay 52 = .ok (.aload_n 0, 1) := by decide +kernel
theorem dX13_takeWay_53 : decode cX13_takeWay 53 = .ok (.getfield 35, 3) := by decide +kernel
theorem dX13_takeWay_56 : decode cX13_takeWay 56 = .ok (.bipush 12, 2) := by decide +kernel
theorem dX13_takeWay_58 : decode cX13_takeWay 58 = .ok (.iload_n 2, 1) := by decide +kernel
theorem dX13_takeWay_59 : decode cX13_takeWay 59 = .ok (.imul, 1) := by decide +kernel
theorem dX13_takeWay_60 : decode cX13_takeWay 60 = .ok (.iload_n 3, 1) := by decide +kernel
theorem dX13_takeWay_61 : decode cX13_takeWay 61 = .ok (.iadd, 1) := by decide +kernel
theorem dX13_takeWay_62 : decode cX13_takeWay 62 = .ok (.iaload, 1) := by decide +kernel
theorem dX13_takeWay_63 : decode cX13_takeWay 63 = .ok (.iastore, 1) := by decide +kernel
theorem dX13_takeWay_64 : decode cX13_takeWay 64 = .ok (.aload_n 0, 1) := by decide +kernel
theorem dX13_takeWay_65 : decode cX13_takeWay 65 = .ok (.getfield 38, 3) := by decide +kernel
theorem dX13_takeWay_68 : decode cX13_takeWay 68 = .ok (.bipush 12, 2) := by decide +kernel
theorem dX13_takeWay_70 : decode cX13_takeWay 70 = .ok (.iload_n 1, 1) := by decide +kernel
theorem dX13_takeWay_71 : decode cX13_takeWay 71 = .ok (.imul, 1) := by decide +kernel
theorem dX13_takeWay_72 : decode cX13_takeWay 72 = .ok (.iload_n 3, 1) := by decide +kernel
theorem dX13_takeWay_73 : decode cX13_takeWay 73 = .ok (.iadd, 1) := by decide +kernel
theorem dX13_takeWay_74 : decode cX13_takeWay 74 = .ok (.aload_n 0, 1) := by decide +kernel
theorem dX13_takeWay_75 : decode cX13_takeWay 75 = .ok (.getfield 38, 3) := by decide +kernel
theorem dX13_takeWay_78 : decode cX13_takeWay 78 = .ok (.bipush 12, 2) := by decide +kernel
theorem dX13_takeWay_80 : decode cX13_takeWay 80 = .ok (.iload_n 2, 1) := by decide +kernel
theorem dX13_takeWay_81 : decode cX13_takeWay 81 = .ok (.imul, 1) := by decide +kernel
theorem dX13_takeWay_82 : decode cX13_takeWay 82 = .ok (.iload_n 3, 1) := by decide +kernel
theorem dX13_takeWay_83 : decode cX13_takeWay 83 = .ok (.iadd, 1) := by decide +kernel
theorem dX13_takeWay_84 : decode cX13_takeWay 84 = .ok (.iaload, 1) := by decide +kernel
theorem dX13_takeWay_85 : decode cX13_takeWay 85 = .ok (.iastore, 1) := by decide +kernel
theorem dX13_takeWay_86 : decode cX13_takeWay 86 = .ok (.iinc 3 1, 3) := by decide +kernel
theorem dX13_takeWay_89 : decode cX13_takeWay 89 = .ok (.goto (-75), 3) := by decide +kernel
theorem dX13_takeWay_92 : decode cX13_takeWay 92 = .ok (.return_, 1) := by decide +kernel
theorem dX13_walks_0 : decode cX13_walks 0 = .ok (.iconst 0, 1) := by decide +kernel
theorem dX13_walks_1 : decode cX13_walks 1 = .ok (.istore_n 3, 1) := by decide +kernel
theorem dX13_walks_2 : decode cX13_walks 2 = .ok (.iload_n 3, 1) := by decide +kernel
theorem dX13_walks_3 : decode cX13_walks 3 = .ok (.aload_n 0, 1) := by decide +kernel
theorem dX13_walks_4 : decode cX13_walks 4 = .ok (.getfield 29, 3) := by decide +kernel
theorem dX13_walks_7 : decode cX13_walks 7 = .ok (.iload_n 1, 1) := by decide +kernel
theorem dX13_walks_8 : decode cX13_walks 8 = .ok (.iaload, 1) := by decide +kernel
theorem dX13_walks_9 : decode cX13_walks 9 = .ok (.if_icmp .ge 59, 3) := by decide +kernel
theorem dX13_walks_12 : decode cX13_walks 12 = .ok (.aload_n 0, 1) := by decide +kernel
theorem dX13_walks_13 : decode cX13_walks 13 = .ok (.iload_n 2, 1) := by decide +kernel
theorem dX13_walks_14 : decode cX13_walks 14 = .ok (.aload_n 0, 1) := by decide +kernel
theorem dX13_walks_15 : decode cX13_walks 15 = .ok (.getfield 32, 3) := by decide +kernel
theorem dX13_walks_18 : decode cX13_walks 18 = .ok (.bipush 12, 2) := by decide +kernel
theorem dX13_walks_20 : decode cX13_walks 20 = .ok (.iload_n 1, 1) := by decide +kernel
theorem dX13_walks_21 : decode cX13_walks 21 = .ok (.imul, 1) := by decide +kernel
theorem dX13_walks_22 : decode cX13_walks 22 = .ok (.iload_n 3, 1) := by decide +kernel
theorem dX13_walks_23 : decode cX13_walks 23 = .ok (.iadd, 1) := by decide +kernel
theorem dX13_walks_24 : decode cX13_walks 24 = .ok (.iaload, 1) := by decide +kernel
theorem dX13_walks_25 : decode cX13_walks 25 = .ok (.aload_n 0, 1) := by decide +kernel
theorem dX13_walks_26 : decode cX13_walks 26 = .ok (.getfield 35, 3) := by decide +kernel
theorem dX13_walks_29 : decode cX13_walks 29 = .ok (.bipush 12, 2) := by decide +kernel
theorem dX13_walks_31 : decode cX13_walks 31 = .ok (.iload_n 1, 1) := by decide +kernel
theorem dX13_walks_32 : decode cX13_walks 32 = .ok (.imul, 1) := by decide +kernel
theorem dX13_walks_33 : decode cX13_walks 33 = .ok (.iload_n 3, 1) := by decide +kernel
theorem dX13_walks_34 : decode cX13_walks 34 = .ok (.iadd, 1) := by decide +kernel
theorem dX13_walks_35 : decode cX13_walks 35 = .ok (.iaload, 1) := by decide +kernel
theorem dX13_walks_36 : decode cX13_walks 36 = .ok (.aload_n 0, 1) := by decide +kernel
theorem dX13_walks_37 : decode cX13_walks 37 = .ok (.getfield 38, 3) := by decide +kernel
theorem dX13_walks_40 : decode cX13_walks 40 = .ok (.bipush 12, 2) := by decide +kernel
theorem dX13_walks_42 : decode cX13_walks 42 = .ok (.iload_n 1, 1) := by decide +kernel
theorem dX13_walks_43 : decode cX13_walks 43 = .ok (.imul, 1) := by decide +kernel
theorem dX13_walks_44 : decode cX13_walks 44 = .ok (.iload_n 3, 1) := by decide +kernel
theorem dX13_walks_45 : decode cX13_walks 45 = .ok (.iadd, 1) := by decide +kernel
theorem dX13_walks_46 : decode cX13_walks 46 = .ok (.iaload, 1) := by decide +kernel
theorem dX13_walks_47 : decode cX13_walks 47 = .ok (.invokevirtual 229, 3) := by decide +kernel
theorem dX13_walks_50 : decode cX13_walks 50 = .ok (.ifCond .ne 5, 3) := by decide +kernel
theorem dX13_walks_53 : decode cX13_walks 53 = .ok (.iload_n 3, 1) := by decide +kernel
theorem dX13_walks_54 : decode cX13_walks 54 = .ok (.ireturn, 1) := by decide +kernel
theorem dX13_walks_55 : decode cX13_walks 55 = .ok (.aload_n 0, 1) := by decide +kernel
theorem dX13_walks_56 : decode cX13_walks 56 = .ok (.iload_n 2, 1) := by decide +kernel
theorem dX13_walks_57 : decode cX13_walks 57 = .ok (.bipush 10, 2) := by decide +kernel
theorem dX13_walks_59 : decode cX13_walks 59 = .ok (.invokevirtual 196, 3) := by decide +kernel
theorem dX13_walks_62 : decode cX13_walks 62 = .ok (.iinc 3 1, 3) := by decide +kernel
theorem dX13_walks_65 : decode cX13_walks 65 = .ok (.goto (-63), 3) := by decide +kernel
theorem dX13_walks_68 : decode cX13_walks 68 = .ok (.iconst (-1), 1) := by decide +kernel
theorem dX13_walks_69 : decode cX13_walks 69 = .ok (.ireturn, 1) := by decide +kernel
theorem dX13_wrong_0 : decode cX13_wrong 0 = .ok (.aload_n 0, 1) := by decide +kernel
theorem dX13_wrong_1 : decode cX13_wrong 1 = .ok (.iload_n 1, 1) := by decide +kernel
theorem dX13_wrong_2 : decode cX13_wrong 2 = .ok (.putfield 233, 3) := by decide +kernel
theorem dX13_wrong_5 : decode cX13_wrong 5 = .ok (.aload_n 0, 1) := by decide +kernel
theorem dX13_wrong_6 : decode cX13_wrong 6 = .ok (.iload_n 2, 1) := by decide +kernel
theorem dX13_wrong_7 : decode cX13_wrong 7 = .ok (.putfield 52, 3) := by decide +kernel
theorem dX13_wrong_10 : decode cX13_wrong 10 = .ok (.aload_n 0, 1) := by decide +kernel
theorem dX13_wrong_11 : decode cX13_wrong 11 = .ok (.getfield 44, 3) := by decide +kernel
theorem dX13_wrong_14 : decode cX13_wrong 14 = .ok (.areturn, 1) := by decide +kernel
theorem dX13_byteAt_0 : decode cX13_byteAt 0 = .ok (.iload_n 1, 1) := by decide +kernel
theorem dX13_byteAt_1 : decode cX13_byteAt 1 = .ok (.aload_n 0, 1) := by decide +kernel
theorem dX13_byteAt_2 : decode cX13_byteAt 2 = .ok (.getfield 236, 3) := by decide +kernel
theorem dX13_byteAt_5 : decode cX13_byteAt 5 = .ok (.if_icmp .ge 16, 3) := by decide +kernel
theorem dX13_byteAt_8 : decode cX13_byteAt 8 = .ok (.aload_n 0, 1) := by decide +kernel
theorem dX13_byteAt_9 : decode cX13_byteAt 9 = .ok (.getfield 48, 3) := by decide +kernel
theorem dX13_byteAt_12 : decode cX13_byteAt 12 = .ok (.iload_n 1, 1) := by decide +kernel
theorem dX13_byteAt_13 : decode cX13_byteAt 13 = .ok (.baload, 1) := by decide +kernel
theorem dX13_byteAt_14 : decode cX13_byteAt 14 = .ok (.sipush 255, 3) := by decide +kernel
theorem dX13_byteAt_17 : decode cX13_byteAt 17 = .ok (.iand, 1) := by decide +kernel
theorem dX13_byteAt_18 : decode cX13_byteAt 18 = .ok (.goto 4, 3) := by decide +kernel
theorem dX13_byteAt_21 : decode cX13_byteAt 21 = .ok (.iconst 0, 1) := by decide +kernel
theorem dX13_byteAt_22 : decode cX13_byteAt 22 = .ok (.ireturn, 1) := by decide +kernel
theorem dX13_isLetter_0 : decode cX13_isLetter 0 = .ok (.iload_n 0, 1) := by decide +kernel
theorem dX13_isLetter_1 : decode cX13_isLetter 1 = .ok (.bipush 97, 2) := by decide +kernel
theorem dX13_isLetter_3 : decode cX13_isLetter 3 = .ok (.if_icmp .lt 13, 3) := by decide +kernel
theorem dX13_isLetter_6 : decode cX13_isLetter 6 = .ok (.iload_n 0, 1) := by decide +kernel
theorem dX13_isLetter_7 : decode cX13_isLetter 7 = .ok (.bipush 122, 2) := by decide +kernel
theorem dX13_isLetter_9 : decode cX13_isLetter 9 = .ok (.if_icmp .gt 7, 3) := by decide +kernel
theorem dX13_isLetter_12 : decode cX13_isLetter 12 = .ok (.iconst 1, 1) := by decide +kernel
theorem dX13_isLetter_13 : decode cX13_isLetter 13 = .ok (.goto 4, 3) := by decide +kernel
theorem dX13_isLetter_16 : decode cX13_isLetter 16 = .ok (.iconst 0, 1) := by decide +kernel
theorem dX13_isLetter_17 : decode cX13_isLetter 17 = .ok (.ireturn, 1) := by decide +kernel
theorem dX13_isMark_0 : decode cX13_isMark 0 = .ok (.iload_n 0, 1) := by decide +kernel
theorem dX13_isMark_1 : decode cX13_isMark 1 = .ok (.bipush 45, 2) := by decide +kernel
theorem dX13_isMark_3 : decode cX13_isMark 3 = .ok (.if_icmp .eq 21, 3) := by decide +kernel
theorem dX13_isMark_6 : decode cX13_isMark 6 = .ok (.iload_n 0, 1) := by decide +kernel
theorem dX13_isMark_7 : decode cX13_isMark 7 = .ok (.bipush 58, 2) := by decide +kernel
theorem dX13_isMark_9 : decode cX13_isMark 9 = .ok (.if_icmp .eq 15, 3) := by decide +kernel
theorem dX13_isMark_12 : decode cX13_isMark 12 = .ok (.iload_n 0, 1) := by decide +kernel
theorem dX13_isMark_13 : decode cX13_isMark 13 = .ok (.bipush 47, 2) := by decide +kernel
theorem dX13_isMark_15 : decode cX13_isMark 15 = .ok (.if_icmp .eq 9, 3) := by decide +kernel
theorem dX13_isMark_18 : decode cX13_isMark 18 = .ok (.iload_n 0, 1) := by decide +kernel
theorem dX13_isMark_19 : decode cX13_isMark 19 = .ok (.bipush 46, 2) := by decide +kernel
theorem dX13_isMark_21 : decode cX13_isMark 21 = .ok (.if_icmp .ne 7, 3) := by decide +kernel
theorem dX13_isMark_24 : decode cX13_isMark 24 = .ok (.iconst 1, 1) := by decide +kernel
theorem dX13_isMark_25 : decode cX13_isMark 25 = .ok (.goto 4, 3) := by decide +kernel
theorem dX13_isMark_28 : decode cX13_isMark 28 = .ok (.iconst 0, 1) := by decide +kernel
theorem dX13_isMark_29 : decode cX13_isMark 29 = .ok (.ireturn, 1) := by decide +kernel
theorem dX13_begin_0 : decode cX13_begin 0 = .ok (.aload_n 0, 1) := by decide +kernel
theorem dX13_begin_1 : decode cX13_begin 1 = .ok (.aload_n 0, 1) := by decide +kernel
theorem dX13_begin_2 : decode cX13_begin 2 = .ok (.getfield 239, 3) := by decide +kernel
theorem dX13_begin_5 : decode cX13_begin 5 = .ok (.putfield 236, 3) := by decide +kernel
theorem dX13_begin_8 : decode cX13_begin 8 = .ok (.aload_n 0, 1) := by decide +kernel
theorem dX13_begin_9 : decode cX13_begin 9 = .ok (.iconst 0, 1) := by decide +kernel
theorem dX13_begin_10 : decode cX13_begin 10 = .ok (.putfield 239, 3) := by decide +kernel
theorem dX13_begin_13 : decode cX13_begin 13 = .ok (.aload_n 0, 1) := by decide +kernel
theorem dX13_begin_14 : decode cX13_begin 14 = .ok (.iconst 0, 1) := by decide +kernel
theorem dX13_begin_15 : decode cX13_begin 15 = .ok (.putfield 242, 3) := by decide +kernel
theorem dX13_begin_18 : decode cX13_begin 18 = .ok (.aload_n 0, 1) := by decide +kernel
theorem dX13_begin_19 : decode cX13_begin 19 = .ok (.iconst 0, 1) := by decide +kernel
theorem dX13_begin_20 : decode cX13_begin 20 = .ok (.putfield 233, 3) := by decide +kernel
theorem dX13_begin_23 : decode cX13_begin 23 = .ok (.aload_n 0, 1) := by decide +kernel
theorem dX13_begin_24 : decode cX13_begin 24 = .ok (.iconst (-1), 1) := by decide +kernel
theorem dX13_begin_25 : decode cX13_begin 25 = .ok (.putfield 52, 3) := by decide +kernel
theorem dX13_begin_28 : decode cX13_begin 28 = .ok (.return_, 1) := by decide +kernel
theorem dX13_readTable_0 : decode cX13_readTable 0 = .ok (.iconst 0, 1) := by decide +kernel
theorem dX13_readTable_1 : decode cX13_readTable 1 = .ok (.istore_n 1, 1) := by decide +kernel
theorem dX13_readTable_2 : decode cX13_readTable 2 = .ok (.iconst 0, 1) := by decide +kernel
theorem dX13_readTable_3 : decode cX13_readTable 3 = .ok (.istore_n 2, 1) := by decide +kernel
theorem dX13_readTable_4 : decode cX13_readTable 4 = .ok (.iconst 0, 1) := by decide +kernel
theorem dX13_readTable_5 : decode cX13_readTable 5 = .ok (.istore_n 3, 1) := by decide +kernel
theorem dX13_readTable_6 : decode cX13_readTable 6 = .ok (.aload_n 0, 1) := by decide +kernel
theorem dX13_readTable_7 : decode cX13_readTable 7 = .ok (.bipush 10, 2) := by decide +kernel
theorem dX13_readTable_9 : decode cX13_readTable 9 = .ok (.iconst 1, 1) := by decide +kernel
theorem dX13_readTable_10 : decode cX13_readTable 10 = .ok (.iconst 1, 1) := by decide +kernel
theorem dX13_readTable_11 : decode cX13_readTable 11 = .ok (.invokevirtual 176, 3) := by decide +kernel
theorem dX13_readTable_14 : decode cX13_readTable 14 = .ok (.lconst 0, 1) := by decide +kernel
theorem dX13_readTable_15 : decode cX13_readTable 15 = .ok (.lstore 4, 2) := by decide +kernel
theorem dX13_readTable_17 : decode cX13_readTable 17 = .ok (.iconst 0, 1) := by decide +kernel
theorem dX13_readTable_18 : decode cX13_readTable 18 = .ok (.istore 6, 2) := by decide +kernel
theorem dX13_readTable_20 : decode cX13_readTable 20 = .ok (.iconst 0, 1) := by decide +kernel
theorem dX13_readTable_21 : decode cX13_readTable 21 = .ok (.istore 7, 2) := by decide +kernel
theorem dX13_readTable_23 : decode cX13_readTable 23 = .ok (.iload 7, 2) := by decide +kernel
theorem dX13_readTable_25 : decode cX13_readTable 25 = .ok (.aload_n 0, 1) := by decide +kernel
theorem dX13_readTable_26 : decode cX13_readTable 26 = .ok (.getfield 236, 3) := by decide +kernel
theorem dX13_readTable_29 : decode cX13_readTable 29 = .ok (.if_icmp .gt 304, 3) := by decide +kernel
theorem dX13_readTable_32 : decode cX13_readTable 32 = .ok (.aload_n 0, 1) := by decide +kernel
theorem dX13_readTable_33 : decode cX13_readTable 33 = .ok (.iload 7, 2) := by decide +kernel
theorem dX13_readTable_35 : decode cX13_readTable 35 = .ok (.invokevirtual 245, 3) := by decide +kernel
theorem dX13_readTable_38 : decode cX13_readTable 38 = .ok (.istore 8, 2) := by decide +kernel
theorem dX13_readTable_40 : decode cX13_readTable 40 = .ok (.iload 7, 2) := by decide +kernel
theorem dX13_readTable_42 : decode cX13_readTable 42 = .ok (.aload_n 0, 1) := by decide +kernel
theorem dX13_readTable_43 : decode cX13_readTable 43 = .ok (.getfield 236, 3) := by decide +kernel
theorem dX13_readTable_46 : decode cX13_readTable 46 = .ok (.if_icmp .ne 7, 3) := by decide +kernel
theorem dX13_readTable_49 : decode cX13_readTable 49 = .ok (.iconst 1, 1) := by decide +kernel
theorem dX13_readTable_50 : decode cX13_readTable 50 = .ok (.goto 4, 3) := by decide +kernel
theorem dX13_readTable_53 : decode cX13_readTable 53 = .ok (.iconst 0, 1) := by decide +kernel
theorem dX13_readTable_54 : decode cX13_readTable 54 = .ok (.istore 9, 2) := by decide +kernel
theorem dX13_readTable_56 : decode cX13_readTable 56 = .ok (.iload 9, 2) := by decide +kernel
theorem dX13_readTable_58 : decode cX13_readTable 58 = .ok (.ifCond .ne 137, 3) := by decide +kernel
theorem dX13_readTable_61 : decode cX13_readTable 61 = .ok (.iload 8, 2) := by decide +kernel
theorem dX13_readTable_63 : decode cX13_readTable 63 = .ok (.bipush 44, 2) := by decide +kernel
theorem dX13_readTable_65 : decode cX13_readTable 65 = .ok (.if_icmp .eq 130, 3) := by decide +kernel
theorem dX13_readTable_68 : decode cX13_readTable 68 = .ok (.iload 8, 2) := by decide +kernel
theorem dX13_readTable_70 : decode cX13_readTable 70 = .ok (.bipush 59, 2) := by decide +kernel
theorem dX13_readTable_72 : decode cX13_readTable 72 = .ok (.if_icmp .eq 123, 3) := by decide +kernel
theorem dX13_readTable_75 : decode cX13_readTable 75 = .ok (.iload 8, 2) := by decide +kernel
theorem dX13_readTable_77 : decode cX13_readTable 77 = .ok (.bipush 63, 2) := by decide +kernel
theorem dX13_readTable_79 : decode cX13_readTable 79 = .ok (.if_icmp .ne 7, 3) := by decide +kernel
theorem dX13_readTable_82 : decode cX13_readTable 82 = .ok (.iconst 1, 1) := by decide +kernel
theorem dX13_readTable_83 : decode cX13_readTable 83 = .ok (.goto 4, 3) := by decide +kernel
theorem dX13_readTable_86 : decode cX13_readTable 86 = .ok (.iconst 0, 1) := by decide +kernel
theorem dX13_readTable_87 : decode cX13_readTable 87 = .ok (.istore 10, 2) := by decide +kernel
theorem dX13_readTable_89 : decode cX13_readTable 89 = .ok (.lload 4, 2) := by decide +kernel
theorem dX13_readTable_91 : decode cX13_readTable 91 = .ok (.ldc2_w 124, 3) := by decide +kernel
theorem dX13_readTable_94 : decode cX13_readTable 94 = .ok (.lcmp, 1) := by decide +kernel
theorem dX13_readTable_95 : decode cX13_readTable 95 = .ok (.ifCond .eq 41, 3) := by decide +kernel
theorem dX13_readTable_98 : decode cX13_readTable 98 = .ok (.iload 8, 2) := by decide +kernel
theorem dX13_readTable_100 : decode cX13_readTable 100 = .ok (.invokestatic 248, 3) := by decide +kernel
theorem dX13_readTable_103 : decode cX13_readTable 103 = .ok (.ifCond .ne 29, 3) := by decide +kernel
theorem dX13_readTable_106 : decode cX13_readTable 106 = .ok (.iload 8, 2) := by decide +kernel
theorem dX13_readTable_108 : decode cX13_readTable 108 = .ok (.invokestatic 107, 3) := by decide +kernel
theorem dX13_readTable_111 : decode cX13_readTable 111 = .ok (.ifCond .ne 21, 3) := by decide +kernel
theorem dX13_readTable_114 : decode cX13_readTable 114 = .ok (.iload 8, 2) := by decide +kernel
theorem dX13_readTable_116 : decode cX13_readTable 116 = .ok (.invokestatic 251, 3) := by decide +kernel
theorem dX13_readTable_119 : decode cX13_readTable 119 = .ok (.ifCond .ne 13, 3) := by decide +kernel
theorem dX13_readTable_122 : decode cX13_readTable 122 = .ok (.iload 10, 2) := by decide +kernel
theorem dX13_readTable_124 : decode cX13_readTable 124 = .ok (.ifCond .eq 12, 3) := by decide +kernel
theorem dX13_readTable_127 : decode cX13_readTable 127 = .ok (.iload 6, 2) := by decide +kernel
theorem dX13_readTable_129 : decode cX13_readTable 129 = .ok (.ifCond .ne 7, 3) := by decide +kernel
theorem dX13_readTable_132 : decode cX13_readTable 132 = .ok (.iconst 1, 1) := by decide +kernel
theorem dX13_readTable_133 : decode cX13_readTable 133 = .ok (.goto 4, 3) := by decide +kernel
theorem dX13_readTable_136 : decode cX13_readTable 136 = .ok (.iconst 0, 1) := by decide +kernel
theorem dX13_readTable_137 : decode cX13_readTable 137 = .ok (.istore 11, 2) := by decide +kernel
theorem dX13_readTable_139 : decode cX13_readTable 139 = .ok (.iload 11, 2) := by decide +kernel
theorem dX13_readTable_141 : decode cX13_readTable 141 = .ok (.ifCond .ne 11, 3) := by decide +kernel
theorem dX13_readTable_144 : decode cX13_readTable 144 = .ok (.aload_n 0, 1) := by decide +kernel
theorem dX13_readTable_145 : decode cX13_readTable 145 = .ok (.iconst 1, 1) := by decide +kernel
theorem dX13_readTable_146 : decode cX13_readTable 146 = .ok (.iload 7, 2) := by decide +kernel
theorem dX13_readTable_148 : decode cX13_readTable 148 = .ok (.invokevirtual 254, 3) := by decide +kernel
theorem dX13_readTable_151 : decode cX13_readTable 151 = .ok (.athrow, 1) := by decide +kernel
theorem dX13_readTable_152 : decode cX13_readTable 152 = .ok (.iload 6, 2) := by decide +kernel
theorem dX13_readTable_154 : decode cX13_readTable 154 = .ok (.bipush 7, 2) := by decide +kernel
theorem dX13_readTable_156 : decode cX13_readTable 156 = .ok (.if_icmp .ne 11, 3) := by decide +kernel
theorem dX13_readTable_159 : decode cX13_readTable 159 = .ok (.aload_n 0, 1) := by decide +kernel
theorem dX13_readTable_160 : decode cX13_readTable 160 = .ok (.iconst 2, 1) := by decide +kernel
theorem dX13_readTable_161 : decode cX13_readTable 161 = .ok (.iload 7, 2) := by decide +kernel
theorem dX13_readTable_163 : decode cX13_readTable 163 = .ok (.invokevirtual 254, 3) := by decide +kernel
theorem dX13_readTable_166 : decode cX13_readTable 166 = .ok (.athrow, 1) := by decide +kernel
theorem dX13_readTable_167 : decode cX13_readTable 167 = .ok (.iload 10, 2) := by decide +kernel
theorem dX13_readTable_169 : decode cX13_readTable 169 = .ok (.ifCond .eq 9, 3) := by decide +kernel
theorem dX13_readTable_172 : decode cX13_readTable 172 = .ok (.ldc2_w 124, 3) := by decide +kernel
theorem dX13_readTable_175 : decode cX13_readTable 175 = .ok (.goto 12, 3) := by decide +kernel
theorem dX13_readTable_178 : decode cX13_readTable 178 = .ok (.lload 4, 2) := by decide +kernel
theorem dX13_readTable_180 : decode cX13_readTable 180 = .ok (.bipush 8, 2) := by decide +kernel
theorem dX13_readTable_182 : decode cX13_readTable 182 = .ok (.lshl, 1) := by decide +kernel
theorem dX13_readTable_183 : decode cX13_readTable 183 = .ok (.iload 8, 2) := by decide +kernel
theorem dX13_readTable_185 : decode cX13_readTable 185 = .ok (.i2l, 1) := by decide +kernel
theorem dX13_readTable_186 : decode cX13_readTable 186 = .ok (.lor, 1) := by decide +kernel
theorem dX13_readTable_187 : decode cX13_readTable 187 = .ok (.lstore 4, 2) := by decide +kernel
theorem dX13_readTable_189 : decode cX13_readTable 189 = .ok (.iinc 6 1, 3) := by decide +kernel
theorem dX13_readTable_192 : decode cX13_readTable 192 = .ok (.goto 135, 3) := by decide +kernel
theorem dX13_readTable_195 : decode cX13_readTable 195 = .ok (.iload 9, 2) := by decide +kernel
theorem dX13_readTable_197 : decode cX13_readTable 197 = .ok (.ifCond .ne 10, 3) := by decide +kernel
theorem dX13_readTable_200 : decode cX13_readTable 200 = .ok (.iload 8, 2) := by decide +kernel
theorem dX13_readTable_202 : decode cX13_readTable 202 = .ok (.bipush 59, 2) := by decide +kernel
theorem dX13_readTable_204 : decode cX13_readTable 204 = .ok (.if_icmp .ne 43, 3) := by decide +kernel
theorem dX13_readTable_207 : decode cX13_readTable 207 = .ok (.iload_n 1, 1) := by decide +kernel
theorem dX13_readTable_208 : decode cX13_readTable 208 = .ok (.ifCond .le 18, 3) := by decide +kernel
theorem dX13_readTable_211 : decode cX13_readTable 211 = .ok (.iload_n 2, 1) := by decide +kernel
theorem dX13_readTable_212 : decode cX13_readTable 212 = .ok (.iconst 1, 1) := by decide +kernel
theorem dX13_readTable_213 : decode cX13_readTable 213 = .ok (.iadd, 1) := by decide +kernel
theorem dX13_readTable_214 : decode cX13_readTable 214 = .ok (.iload_n 3, 1) := by decide +kernel
theorem dX13_readTable_215 : decode cX13_readTable 215 = .ok (.if_icmp .ge 11, 3) := by decide +kernel
theorem dX13_readTable_218 : decode cX13_readTable 218 = .ok (.aload_n 0, 1) := by decide +kernel
theorem dX13_readTable_219 : decode cX13_readTable 219 = .ok (.iconst 3, 1) := by decide +kernel
theorem dX13_readTable_220 : decode cX13_readTable 220 = .ok (.iload 7, 2) := by decide +kernel
theorem dX13_readTable_222 : decode cX13_readTable 222 = .ok (.invokevirtual 254, 3) := by decide +kernel
theorem dX13_readTable_225 : decode cX13_readTable 225 = .ok (.athrow, 1) := by decide +kernel
theorem dX13_readTable_226 : decode cX13_readTable 226 = .ok (.iload 9, 2) := by decide +kernel
theorem dX13_readTable_228 : decode cX13_readTable 228 = .ok (.ifCond .ne 54, 3) := by decide +kernel
theorem dX13_readTable_231 : decode cX13_readTable 231 = .ok (.iload_n 1, 1) := by decide +kernel
theorem dX13_readTable_232 : decode cX13_readTable 232 = .ok (.iconst 1, 1) := by decide +kernel
theorem dX13_readTable_233 : decode cX13_readTable 233 = .ok (.iadd, 1) := by decide +kernel
theorem dX13_readTable_234 : decode cX13_readTable 234 = .ok (.bipush 12, 2) := by decide +kernel
theorem dX13_readTable_236 : decode cX13_readTable 236 = .ok (.if_icmp .ne 46, 3) := by decide +kernel
theorem dX13_readTable_239 : decode cX13_readTable 239 = .ok (.aload_n 0, 1) := by decide +kernel
theorem dX13_readTable_240 : decode cX13_readTable 240 = .ok (.iconst 4, 1) := by decide +kernel
theorem dX13_readTable_241 : decode cX13_readTable 241 = .ok (.iload 7, 2) := by decide +kernel
theorem dX13_readTable_243 : decode cX13_readTable 243 = .ok (.invokevirtual 254, 3) := by decide +kernel
theorem dX13_readTable_246 : decode cX13_readTable 246 = .ok (.athrow, 1) := by decide +kernel
theorem dX13_readTable_247 : decode cX13_readTable 247 = .ok (.iload_n 1, 1) := by decide +kernel
theorem dX13_readTable_248 : decode cX13_readTable 248 = .ok (.ifCond .le 18, 3) := by decide +kernel
theorem dX13_readTable_251 : decode cX13_readTable 251 = .ok (.iload_n 2, 1) := by decide +kernel
theorem dX13_readTable_252 : decode cX13_readTable 252 = .ok (.iconst 1, 1) := by decide +kernel
theorem dX13_readTable_253 : decode cX13_readTable 253 = .ok (.iadd, 1) := by decide +kernel
theorem dX13_readTable_254 : decode cX13_readTable 254 = .ok (.iload_n 3, 1) := by decide +kernel
theorem dX13_readTable_255 : decode cX13_readTable 255 = .ok (.if_icmp .ne 11, 3) := by decide +kernel
theorem dX13_readTable_258 : decode cX13_readTable 258 = .ok (.aload_n 0, 1) := by decide +kernel
theorem dX13_readTable_259 : decode cX13_readTable 259 = .ok (.iconst 3, 1) := by decide +kernel
theorem dX13_readTable_260 : decode cX13_readTable 260 = .ok (.iload 7, 2) := by decide +kernel
theorem dX13_readTable_262 : decode cX13_readTable 262 = .ok (.invokevirtual 254, 3) := by decide +kernel
theorem dX13_readTable_265 : decode cX13_readTable 265 = .ok (.athrow, 1) := by decide +kernel
theorem dX13_readTable_266 : decode cX13_readTable 266 = .ok (.iload_n 2, 1) := by decide +kernel
theorem dX13_readTable_267 : decode cX13_readTable 267 = .ok (.iconst 1, 1) := by decide +kernel
theorem dX13_readTable_268 : decode cX13_readTable 268 = .ok (.iadd, 1) := by decide +kernel
theorem dX13_readTable_269 : decode cX13_readTable 269 = .ok (.bipush 6, 2) := by decide +kernel
theorem dX13_readTable_271 : decode cX13_readTable 271 = .ok (.if_icmp .ne 11, 3) := by decide +kernel
theorem dX13_readTable_274 : decode cX13_readTable 274 = .ok (.aload_n 0, 1) := by decide +kernel
theorem dX13_readTable_275 : decode cX13_readTable 275 = .ok (.iconst 4, 1) := by decide +kernel
theorem dX13_readTable_276 : decode cX13_readTable 276 = .ok (.iload 7, 2) := by decide +kernel
theorem dX13_readTable_278 : decode cX13_readTable 278 = .ok (.invokevirtual 254, 3) := by decide +kernel
theorem dX13_readTable_281 : decode cX13_readTable 281 = .ok (.athrow, 1) := by decide +kernel
theorem dX13_readTable_282 : decode cX13_readTable 282 = .ok (.aload_n 0, 1) := by decide +kernel
theorem dX13_readTable_283 : decode cX13_readTable 283 = .ok (.iload_n 1, 1) := by decide +kernel
theorem dX13_readTable_284 : decode cX13_readTable 284 = .ok (.iload_n 2, 1) := by decide +kernel
theorem dX13_readTable_285 : decode cX13_readTable 285 = .ok (.lload 4, 2) := by decide +kernel
theorem dX13_readTable_287 : decode cX13_readTable 287 = .ok (.invokevirtual 184, 3) := by decide +kernel
theorem dX13_readTable_290 : decode cX13_readTable 290 = .ok (.lconst 0, 1) := by decide +kernel
theorem dX13_readTable_291 : decode cX13_readTable 291 = .ok (.lstore 4, 2) := by decide +kernel
theorem dX13_readTable_293 : decode cX13_readTable 293 = .ok (.iconst 0, 1) := by decide +kernel
theorem dX13_readTable_294 : decode cX13_readTable 294 = .ok (.istore 6, 2) := by decide +kernel
theorem dX13_readTable_296 : decode cX13_readTable 296 = .ok (.iload 9, 2) := by decide +kernel
theorem dX13_readTable_298 : decode cX13_readTable 298 = .ok (.ifCond .ne 10, 3) := by decide +kernel
theorem dX13_readTable_301 : decode cX13_readTable 301 = .ok (.iload 8, 2) := by decide +kernel
theorem dX13_readTable_303 : decode cX13_readTable 303 = .ok (.bipush 59, 2) := by decide +kernel
theorem dX13_readTable_305 : decode cX13_readTable 305 = .ok (.if_icmp .ne 19, 3) := by decide +kernel
theorem dX13_readTable_308 : decode cX13_readTable 308 = .ok (.iload_n 1, 1) := by decide +kernel
theorem dX13_readTable_309 : decode cX13_readTable 309 = .ok (.ifCond .ne 7, 3) := by decide +kernel
theorem dX13_readTable_312 : decode cX13_readTable 312 = .ok (.iload_n 2, 1) := by decide +kernel
theorem dX13_readTable_313 : decode cX13_readTable 313 = .ok (.iconst 1, 1) := by decide +kernel
theorem dX13_readTable_314 : decode cX13_readTable 314 = .ok (.iadd, 1) := by decide +kernel
theorem dX13_readTable_315 : decode cX13_readTable 315 = .ok (.istore_n 3, 1) := by decide +kernel
theorem dX13_readTable_316 : decode cX13_readTable 316 = .ok (.iconst 0, 1) := by decide +kernel
theorem dX13_readTable_317 : decode cX13_readTable 317 = .ok (.istore_n 2, 1) := by decide +kernel
theorem dX13_readTable_318 : decode cX13_readTable 318 = .ok (.iinc 1 1, 3) := by decide +kernel
theorem dX13_readTable_321 : decode cX13_readTable 321 = .ok (.goto 6, 3) := by decide +kernel
theorem dX13_readTable_324 : decode cX13_readTable 324 = .ok (.iinc 2 1, 3) := by decide +kernel
theorem dX13_readTable_327 : decode cX13_readTable 327 = .ok (.iinc 7 1, 3) := by decide +kernel
theorem dX13_readTable_330 : decode cX13_readTable 330 = .ok (.goto (-307), 3) := by decide +kernel
theorem dX13_readTable_333 : decode cX13_readTable 333 = .ok (.aload_n 0, 1) := by decide +kernel
theorem dX13_readTable_334 : decode cX13_readTable 334 = .ok (.getfield 9, 3) := by decide +kernel
theorem dX13_readTable_337 : decode cX13_readTable 337 = .ok (.bipush 10, 2) := by decide +kernel
theorem dX13_readTable_339 : decode cX13_readTable 339 = .ok (.iload_n 1, 1) := by decide +kernel
theorem dX13_readTable_340 : decode cX13_readTable 340 = .ok (.iastore, 1) := by decide +kernel
theorem dX13_readTable_341 : decode cX13_readTable 341 = .ok (.aload_n 0, 1) := by decide +kernel
theorem dX13_readTable_342 : decode cX13_readTable 342 = .ok (.getfield 13, 3) := by decide +kernel
theorem dX13_readTable_345 : decode cX13_readTable 345 = .ok (.bipush 10, 2) := by decide +kernel
theorem dX13_readTable_347 : decode cX13_readTable 347 = .ok (.iload_n 3, 1) := by decide +kernel
theorem dX13_readTable_348 : decode cX13_readTable 348 = .ok (.iastore, 1) := by decide +kernel
theorem dX13_readTable_349 : decode cX13_readTable 349 = .ok (.return_, 1) := by decide +kernel
theorem dX13_scan_0 : decode cX13_scan 0 = .ok (.aload_n 0, 1) := by decide +kernel
theorem dX13_scan_1 : decode cX13_scan 1 = .ok (.getfield 242, 3) := by decide +kernel
theorem dX13_scan_4 : decode cX13_scan 4 = .ok (.aload_n 0, 1) := by decide +kernel
theorem dX13_scan_5 : decode cX13_scan 5 = .ok (.getfield 236, 3) := by decide +kernel
theorem dX13_scan_8 : decode cX13_scan 8 = .ok (.if_icmp .ge 44, 3) := by decide +kernel
theorem dX13_scan_11 : decode cX13_scan 11 = .ok (.aload_n 0, 1) := by decide +kernel
theorem dX13_scan_12 : decode cX13_scan 12 = .ok (.getfield 48, 3) := by decide +kernel
theorem dX13_scan_15 : decode cX13_scan 15 = .ok (.aload_n 0, 1) := by decide +kernel
theorem dX13_scan_16 : decode cX13_scan 16 = .ok (.getfield 242, 3) := by decide +kernel
theorem dX13_scan_19 : decode cX13_scan 19 = .ok (.baload, 1) := by decide +kernel
theorem dX13_scan_20 : decode cX13_scan 20 = .ok (.bipush 32, 2) := by decide +kernel
theorem dX13_scan_22 : decode cX13_scan 22 = .ok (.if_icmp .eq 17, 3) := by decide +kernel
theorem dX13_scan_25 : decode cX13_scan 25 = .ok (.aload_n 0, 1) := by decide +kernel
theorem dX13_scan_26 : decode cX13_scan 26 = .ok (.getfield 48, 3) := by decide +kernel
theorem dX13_scan_29 : decode cX13_scan 29 = .ok (.aload_n 0, 1) := by decide +kernel
theorem dX13_scan_30 : decode cX13_scan 30 = .ok (.getfield 242, 3) := by decide +kernel
theorem dX13_scan_33 : decode cX13_scan 33 = .ok (.baload, 1) := by decide +kernel
theorem dX13_scan_34 : decode cX13_scan 34 = .ok (.bipush 10, 2) := by decide +kernel
theorem dX13_scan_36 : decode cX13_scan 36 = .ok (.if_icmp .ne 16, 3) := by decide +kernel
theorem dX13_scan_39 : decode cX13_scan 39 = .ok (.aload_n 0, 1) := by decide +kernel
theorem dX13_scan_40 : decode cX13_scan 40 = .ok (.dup, 1) := by decide +kernel
theorem dX13_scan_41 : decode cX13_scan 41 = .ok (.getfield 242, 3) := by decide +kernel
theorem dX13_scan_44 : decode cX13_scan 44 = .ok (.iconst 1, 1) := by decide +kernel
theorem dX13_scan_45 : decode cX13_scan 45 = .ok (.iadd, 1) := by decide +kernel
theorem dX13_scan_46 : decode cX13_scan 46 = .ok (.putfield 242, 3) := by decide +kernel
theorem dX13_scan_49 : decode cX13_scan 49 = .ok (.goto (-49), 3) := by decide +kernel
theorem dX13_scan_52 : decode cX13_scan 52 = .ok (.aload_n 0, 1) := by decide +kernel
theorem dX13_scan_53 : decode cX13_scan 53 = .ok (.aload_n 0, 1) := by decide +kernel
theorem dX13_scan_54 : decode cX13_scan 54 = .ok (.getfield 242, 3) := by decide +kernel
theorem dX13_scan_57 : decode cX13_scan 57 = .ok (.putfield 258, 3) := by decide +kernel
theorem dX13_scan_60 : decode cX13_scan 60 = .ok (.aload_n 0, 1) := by decide +kernel
theorem dX13_scan_61 : decode cX13_scan 61 = .ok (.aload_n 0, 1) := by decide +kernel
theorem dX13_scan_62 : decode cX13_scan 62 = .ok (.getfield 258, 3) := by decide +kernel
theorem dX13_scan_65 : decode cX13_scan 65 = .ok (.invokevirtual 245, 3) := by decide +kernel
theorem dX13_scan_68 : decode cX13_scan 68 = .ok (.istore_n 1, 1) := by decide +kernel
theorem dX13_scan_69 : decode cX13_scan 69 = .ok (.aload_n 0, 1) := by decide +kernel
theorem dX13_scan_70 : decode cX13_scan 70 = .ok (.getfield 258, 3) := by decide +kernel
theorem dX13_scan_73 : decode cX13_scan 73 = .ok (.aload_n 0, 1) := by decide +kernel
theorem dX13_scan_74 : decode cX13_scan 74 = .ok (.getfield 236, 3) := by decide +kernel
theorem dX13_scan_77 : decode cX13_scan 77 = .ok (.if_icmp .ne 9, 3) := by decide +kernel
theorem dX13_scan_80 : decode cX13_scan 80 = .ok (.aload_n 0, 1) := by decide +kernel
theorem dX13_scan_81 : decode cX13_scan 81 = .ok (.iconst 0, 1) := by decide +kernel
theorem dX13_scan_82 : decode cX13_scan 82 = .ok (.putfield 261, 3) := by decide +kernel
theorem dX13_scan_85 : decode cX13_scan 85 = .ok (.return_, 1) := by decide +kernel
theorem dX13_scan_86 : decode cX13_scan 86 = .ok (.aload_n 0, 1) := by decide +kernel
theorem dX13_scan_87 : decode cX13_scan 87 = .ok (.dup, 1) := by decide +kernel
theorem dX13_scan_88 : decode cX13_scan 88 = .ok (.getfield 242, 3) := by decide +kernel
theorem dX13_scan_91 : decode cX13_scan 91 = .ok (.iconst 1, 1) := by decide +kernel
theorem dX13_scan_92 : decode cX13_scan 92 = .ok (.iadd, 1) := by decide +kernel
theorem dX13_scan_93 : decode cX13_scan 93 = .ok (.putfield 242, 3) := by decide +kernel
theorem dX13_scan_96 : decode cX13_scan 96 = .ok (.iload_n 1, 1) := by decide +kernel
theorem dX13_scan_97 : decode cX13_scan 97 = .ok (.invokestatic 248, 3) := by decide +kernel
theorem dX13_scan_100 : decode cX13_scan 100 = .ok (.ifCond .eq 38, 3) := by decide +kernel
theorem dX13_scan_103 : decode cX13_scan 103 = .ok (.aload_n 0, 1) := by decide +kernel
theorem dX13_scan_104 : decode cX13_scan 104 = .ok (.aload_n 0, 1) := by decide +kernel
theorem dX13_scan_105 : decode cX13_scan 105 = .ok (.getfield 242, 3) := by decide +kernel
theorem dX13_scan_108 : decode cX13_scan 108 = .ok (.invokevirtual 245, 3) := by decide +kernel
theorem dX13_scan_111 : decode cX13_scan 111 = .ok (.invokestatic 248, 3) := by decide +kernel
theorem dX13_scan_114 : decode cX13_scan 114 = .ok (.ifCond .eq 16, 3) := by decide +kernel
theorem dX13_scan_117 : decode cX13_scan 117 = .ok (.aload_n 0, 1) := by decide +kernel
theorem dX13_scan_118 : decode cX13_scan 118 = .ok (.dup, 1) := by decide +kernel
theorem dX13_scan_119 : decode cX13_scan 119 = .ok (.getfield 242, 3) := by decide +kernel
theorem dX13_scan_122 : decode cX13_scan 122 = .ok (.iconst 1, 1) := by decide +kernel
theorem dX13_scan_123 : decode cX13_scan 123 = .ok (.iadd, 1) := by decide +kernel
theorem dX13_scan_124 : decode cX13_scan 124 = .ok (.putfield 242, 3) := by decide +kernel
theorem dX13_scan_127 : decode cX13_scan 127 = .ok (.goto (-24), 3) := by decide +kernel
theorem dX13_scan_130 : decode cX13_scan 130 = .ok (.aload_n 0, 1) := by decide +kernel
theorem dX13_scan_131 : decode cX13_scan 131 = .ok (.iconst 1, 1) := by decide +kernel
theorem dX13_scan_132 : decode cX13_scan 132 = .ok (.putfield 261, 3) := by decide +kernel
theorem dX13_scan_135 : decode cX13_scan 135 = .ok (.goto 52, 3) := by decide +kernel
theorem dX13_scan_138 : decode cX13_scan 138 = .ok (.aload_n 0, 1) := by decide +kernel
theorem dX13_scan_139 : decode cX13_scan 139 = .ok (.iload_n 1, 1) := by decide +kernel
theorem dX13_scan_140 : decode cX13_scan 140 = .ok (.invokestatic 107, 3) := by decide +kernel
theorem dX13_scan_143 : decode cX13_scan 143 = .ok (.ifCond .eq 7, 3) := by decide +kernel
theorem dX13_scan_146 : decode cX13_scan 146 = .ok (.iconst 2, 1) := by decide +kernel
theorem dX13_scan_147 : decode cX13_scan 147 = .ok (.goto 37, 3) := by decide +kernel
theorem dX13_scan_150 : decode cX13_scan 150 = .ok (.iload_n 1, 1) := by decide +kernel
theorem dX13_scan_151 : decode cX13_scan 151 = .ok (.invokestatic 251, 3) := by decide +kernel
theorem dX13_scan_154 : decode cX13_scan 154 = .ok (.ifCond .eq 7, 3) := by decide +kernel
theorem dX13_scan_157 : decode cX13_scan 157 = .ok (.iconst 4, 1) := by decide +kernel
theorem dX13_scan_158 : decode cX13_scan 158 = .ok (.goto 26, 3) := by decide +kernel
theorem dX13_scan_161 : decode cX13_scan 161 = .ok (.iload_n 1, 1) := by decide +kernel
theorem dX13_scan_162 : decode cX13_scan 162 = .ok (.bipush 123, 2) := by decide +kernel
theorem dX13_scan_164 : decode cX13_scan 164 = .ok (.if_icmp .eq 15, 3) := by decide +kernel
theorem dX13_scan_167 : decode cX13_scan 167 = .ok (.iload_n 1, 1) := by decide +kernel
theorem dX13_scan_168 : decode cX13_scan 168 = .ok (.bipush 125, 2) := by decide +kernel
theorem dX13_scan_170 : decode cX13_scan 170 = .ok (.if_icmp .eq 9, 3) := by decide +kernel
theorem dX13_scan_173 : decode cX13_scan 173 = .ok (.iload_n 1, 1) := by decide +kernel
theorem dX13_scan_174 : decode cX13_scan 174 = .ok (.bipush 59, 2) := by decide +kernel
theorem dX13_scan_176 : decode cX13_scan 176 = .ok (.if_icmp .ne 7, 3) := by decide +kernel
theorem dX13_scan_179 : decode cX13_scan 179 = .ok (.iconst 3, 1) := by decide +kernel
theorem dX13_scan_180 : decode cX13_scan 180 = .ok (.goto 4, 3) := by decide +kernel
theorem dX13_scan_183 : decode cX13_scan 183 = .ok (.iconst 5, 1) := by decide +kernel
theorem dX13_scan_184 : decode cX13_scan 184 = .ok (.putfield 261, 3) := by decide +kernel
theorem dX13_scan_187 : decode cX13_scan 187 = .ok (.return_, 1) := by decide +kernel
theorem dX13_isSign_0 : decode cX13_isSign 0 = .ok (.aload_n 0, 1) := by decide +kernel
theorem dX13_isSign_1 : decode cX13_isSign 1 = .ok (.getfield 261, 3) := by decide +kernel
theorem dX13_isSign_4 : decode cX13_isSign 4 = .ok (.iconst 3, 1) := by decide +kernel
theorem dX13_isSign_5 : decode cX13_isSign 5 = .ok (.if_icmp .ne 20, 3) := by decide +kernel
theorem dX13_isSign_8 : decode cX13_isSign 8 = .ok (.aload_n 0, 1) := by decide +kernel
theorem dX13_isSign_9 : decode cX13_isSign 9 = .ok (.getfield 48, 3) := by decide +kernel
theorem dX13_isSign_12 : decode cX13_isSign 12 = .ok (.aload_n 0, 1) := by decide +kernel
theorem dX13_isSign_13 : decode cX13_isSign 13 = .ok (.getfield 258, 3) := by decide +kernel
theorem dX13_isSign_16 : decode cX13_isSign 16 = .ok (.baload, 1) := by decide +kernel
theorem dX13_isSign_17 : decode cX13_isSign 17 = .ok (.iload_n 1, 1) := by decide +kernel
theorem dX13_isSign_18 : decode cX13_isSign 18 = .ok (.if_icmp .ne 7, 3) := by decide +kernel
theorem dX13_isSign_21 : decode cX13_isSign 21 = .ok (.iconst 1, 1) := by decide +kernel
theorem dX13_isSign_22 : decode cX13_isSign 22 = .ok (.goto 4, 3) := by decide +kernel
theorem dX13_isSign_25 : decode cX13_isSign 25 = .ok (.iconst 0, 1) := by decide +kernel
theorem dX13_isSign_26 : decode cX13_isSign 26 = .ok (.ireturn, 1) := by decide +kernel
theorem dX13_stepAtHand_0 : decode cX13_stepAtHand 0 = .ok (.aload_n 0, 1) := by decide +kernel
theorem dX13_stepAtHand_1 : decode cX13_stepAtHand 1 = .ok (.getfield 261, 3) := by decide +kernel
theorem dX13_stepAtHand_4 : decode cX13_stepAtHand 4 = .ok (.iconst 1, 1) := by decide +kernel
theorem dX13_stepAtHand_5 : decode cX13_stepAtHand 5 = .ok (.if_icmp .eq 5, 3) := by decide +kernel
theorem dX13_stepAtHand_8 : decode cX13_stepAtHand 8 = .ok (.iconst 0, 1) := by decide +kernel
theorem dX13_stepAtHand_9 : decode cX13_stepAtHand 9 = .ok (.ireturn, 1) := by decide +kernel
theorem dX13_stepAtHand_10 : decode cX13_stepAtHand 10 = .ok (.iconst 1, 1) := by decide +kernel
theorem dX13_stepAtHand_11 : decode cX13_stepAtHand 11 = .ok (.istore_n 1, 1) := by decide +kernel
theorem dX13_stepAtHand_12 : decode cX13_stepAtHand 12 = .ok (.iconst 1, 1) := by decide +kernel
theorem dX13_stepAtHand_13 : decode cX13_stepAtHand 13 = .ok (.istore_n 2, 1) := by decide +kernel
theorem dX13_stepAtHand_14 : decode cX13_stepAtHand 14 = .ok (.iload_n 2, 1) := by decide +kernel
theorem dX13_stepAtHand_15 : decode cX13_stepAtHand 15 = .ok (.ldc_w 264, 3) := by decide +kernel
theorem dX13_stepAtHand_18 : decode cX13_stepAtHand 18 = .ok (.invokevirtual 266, 3) := by decide +kernel
theorem dX13_stepAtHand_21 : decode cX13_stepAtHand 21 = .ok (.if_icmp .ge 106, 3) := by decide +kernel
theorem dX13_stepAtHand_24 : decode cX13_stepAtHand 24 = .ok (.ldc_w 264, 3) := by decide +kernel
theorem dX13_stepAtHand_27 : decode cX13_stepAtHand 27 = .ok (.bipush 32, 2) := by decide +kernel
theorem dX13_stepAtHand_29 : decode cX13_stepAtHand 29 = .ok (.iload_n 2, 1) := by decide +kernel
theorem dX13_stepAtHand_30 : decode cX13_stepAtHand 30 = .ok (.invokevirtual 271, 3) := by decide +kernel
theorem dX13_stepAtHand_33 : decode cX13_stepAtHand 33 = .ok (.istore_n 3, 1) := by decide +kernel
theorem dX13_stepAtHand_34 : decode cX13_stepAtHand 34 = .ok (.iload_n 3, 1) := by decide +kernel
theorem dX13_stepAtHand_35 : decode cX13_stepAtHand 35 = .ok (.iload_n 2, 1) := by decide +kernel
theorem dX13_stepAtHand_36 : decode cX13_stepAtHand 36 = .ok (.isub, 1) := by decide +kernel
theorem dX13_stepAtHand_37 : decode cX13_stepAtHand 37 = .ok (.aload_n 0, 1) := by decide +kernel
theorem dX13_stepAtHand_38 : decode cX13_stepAtHand 38 = .ok (.getfield 242, 3) := by decide +kernel
theorem dX13_stepAtHand_41 : decode cX13_stepAtHand 41 = .ok (.aload_n 0, 1) := by decide +kernel
theorem dX13_stepAtHand_42 : decode cX13_stepAtHand 42 = .ok (.getfield 258, 3) := by decide +kernel
theorem dX13_stepAtHand_45 : decode cX13_stepAtHand 45 = .ok (.isub, 1) := by decide +kernel
theorem dX13_stepAtHand_46 : decode cX13_stepAtHand 46 = .ok (.if_icmp .ne 7, 3) := by decide +kernel
theorem dX13_stepAtHand_49 : decode cX13_stepAtHand 49 = .ok (.iconst 1, 1) := by decide +kernel
theorem dX13_stepAtHand_50 : decode cX13_stepAtHand 50 = .ok (.goto 4, 3) := by decide +kernel
theorem dX13_stepAtHand_53 : decode cX13_stepAtHand 53 = .ok (.iconst 0, 1) := by decide +kernel
theorem dX13_stepAtHand_54 : decode cX13_stepAtHand 54 = .ok (.istore 4, 2) := by decide +kernel
theorem dX13_stepAtHand_56 : decode cX13_stepAtHand 56 = .ok (.iconst 0, 1) := by decide +kernel
theorem dX13_stepAtHand_57 : decode cX13_stepAtHand 57 = .ok (.istore 5, 2) := by decide +kernel
theorem dX13_stepAtHand_59 : decode cX13_stepAtHand 59 = .ok (.iload 5, 2) := by decide +kernel
theorem dX13_stepAtHand_61 : decode cX13_stepAtHand 61 = .ok (.iload_n 3, 1) := by decide +kernel
theorem dX13_stepAtHand_62 : decode cX13_stepAtHand 62 = .ok (.iload_n 2, 1) := by decide +kernel
theorem dX13_stepAtHand_63 : decode cX13_stepAtHand 63 = .ok (.isub, 1) := by decide +kernel
theorem dX13_stepAtHand_64 : decode cX13_stepAtHand 64 = .ok (.if_icmp .ge 46, 3) := by decide +kernel
theorem dX13_stepAtHand_67 : decode cX13_stepAtHand 67 = .ok (.iload 4, 2) := by decide +kernel
theorem dX13_stepAtHand_69 : decode cX13_stepAtHand 69 = .ok (.ifCond .eq 41, 3) := by decide +kernel
theorem dX13_stepAtHand_72 : decode cX13_stepAtHand 72 = .ok (.ldc_w 264, 3) := by decide +kernel
theorem dX13_stepAtHand_75 : decode cX13_stepAtHand 75 = .ok (.iload_n 2, 1) := by decide +kernel
theorem dX13_stepAtHand_76 : decode cX13_stepAtHand 76 = .ok (.iload 5, 2) := by decide +kernel
theorem dX13_stepAtHand_78 : decode cX13_stepAtHand 78 = .ok (.iadd, 1) := by decide +kernel
theorem dX13_stepAtHand_79 : decode cX13_stepAtHand 79 = .ok (.invokevirtual 274, 3) := by decide +kernel
theorem dX13_stepAtHand_82 : decode cX13_stepAtHand 82 = .ok (.aload_n 0, 1) := by decide +kernel
theorem dX13_stepAtHand_83 : decode cX13_stepAtHand 83 = .ok (.getfield 48, 3) := by decide +kernel
theorem dX13_stepAtHand_86 : decode cX13_stepAtHand 86 = .ok (.aload_n 0, 1) := by decide +kernel
theorem dX13_stepAtHand_87 : decode cX13_stepAtHand 87 = .ok (.getfield 258, 3) := by decide +kernel
theorem dX13_stepAtHand_90 : decode cX13_stepAtHand 90 = .ok (.iload 5, 2) := by decide +kernel
theorem dX13_stepAtHand_92 : decode cX13_stepAtHand 92 = .ok (.iadd, 1) := by decide +kernel
theorem dX13_stepAtHand_93 : decode cX13_stepAtHand 93 = .ok (.baload, 1) := by decide +kernel
theorem dX13_stepAtHand_94 : decode cX13_stepAtHand 94 = .ok (.if_icmp .ne 7, 3) := by decide +kernel
theorem dX13_stepAtHand_97 : decode cX13_stepAtHand 97 = .ok (.iconst 1, 1) := by decide +kernel
theorem dX13_stepAtHand_98 : decode cX13_stepAtHand 98 = .ok (.goto 4, 3) := by decide +kernel
theorem dX13_stepAtHand_101 : decode cX13_stepAtHand 101 = .ok (.iconst 0, 1) := by decide +kernel
theorem dX13_stepAtHand_102 : decode cX13_stepAtHand 102 = .ok (.istore 4, 2) := by decide +kernel
theorem dX13_stepAtHand_104 : decode cX13_stepAtHand 104 = .ok (.iinc 5 1, 3) := by decide +kernel
theorem dX13_stepAtHand_107 : decode cX13_stepAtHand 107 = .ok (.goto (-48), 3) := by decide +kernel
theorem dX13_stepAtHand_110 : decode cX13_stepAtHand 110 = .ok (.iload 4, 2) := by decide +kernel
theorem dX13_stepAtHand_112 : decode cX13_stepAtHand 112 = .ok (.ifCond .eq 5, 3) := by decide +kernel
theorem dX13_stepAtHand_115 : decode cX13_stepAtHand 115 = .ok (.iload_n 1, 1) := by decide +kernel
theorem dX13_stepAtHand_116 : decode cX13_stepAtHand 116 = .ok (.ireturn, 1) := by decide +kernel
theorem dX13_stepAtHand_117 : decode cX13_stepAtHand 117 = .ok (.iinc 1 1, 3) := by decide +kernel
theorem dX13_stepAtHand_120 : decode cX13_stepAtHand 120 = .ok (.iload_n 3, 1) := by decide +kernel
theorem dX13_stepAtHand_121 : decode cX13_stepAtHand 121 = .ok (.iconst 1, 1) := by decide +kernel
theorem dX13_stepAtHand_122 : decode cX13_stepAtHand 122 = .ok (.iadd, 1) := by decide +kernel
theorem dX13_stepAtHand_123 : decode cX13_stepAtHand 123 = .ok (.istore_n 2, 1) := by decide +kernel
theorem dX13_stepAtHand_124 : decode cX13_stepAtHand 124 = .ok (.goto (-110), 3) := by decide +kernel
theorem dX13_stepAtHand_127 : decode cX13_stepAtHand 127 = .ok (.iconst 0, 1) := by decide +kernel
theorem dX13_stepAtHand_128 : decode cX13_stepAtHand 128 = .ok (.ireturn, 1) := by decide +kernel
theorem dX13_needSign_0 : decode cX13_needSign 0 = .ok (.aload_n 0, 1) := by decide +kernel
theorem dX13_needSign_1 : decode cX13_needSign 1 = .ok (.iload_n 1, 1) := by decide +kernel
theorem dX13_needSign_2 : decode cX13_needSign 2 = .ok (.invokevirtual 278, 3) := by decide +kernel
theorem dX13_needSign_5 : decode cX13_needSign 5 = .ok (.ifCond .ne 13, 3) := by decide +kernel
theorem dX13_needSign_8 : decode cX13_needSign 8 = .ok (.aload_n 0, 1) := by decide +kernel
theorem dX13_needSign_9 : decode cX13_needSign 9 = .ok (.iconst 1, 1) := by decide +kernel
theorem dX13_needSign_10 : decode cX13_needSign 10 = .ok (.aload_n 0, 1) := by decide +kernel
theorem dX13_needSign_11 : decode cX13_needSign 11 = .ok (.getfield 258, 3) := by decide +kernel
theorem dX13_needSign_14 : decode cX13_needSign 14 = .ok (.invokevirtual 254, 3) := by decide +kernel
theorem dX13_needSign_17 : decode cX13_needSign 17 = .ok (.athrow, 1) := by decide +kernel
theorem dX13_needSign_18 : decode cX13_needSign 18 = .ok (.aload_n 0, 1) := by decide +kernel
theorem dX13_needSign_19 : decode cX13_needSign 19 = .ok (.invokevirtual 281, 3) := by decide +kernel
theorem dX13_needSign_22 : decode cX13_needSign 22 = .ok (.return_, 1) := by decide +kernel
theorem dX13_digit_0 : decode cX13_digit 0 = .ok (.aload_n 0, 1) := by decide +kernel
theorem dX13_digit_1 : decode cX13_digit 1 = .ok (.getfield 261, 3) := by decide +kernel
theorem dX13_digit_4 : decode cX13_digit 4 = .ok (.iconst 2, 1) := by decide +kernel
theorem dX13_digit_5 : decode cX13_digit 5 = .ok (.if_icmp .eq 13, 3) := by decide +kernel
theorem dX13_digit_8 : decode cX13_digit 8 = .ok (.aload_n 0, 1) := by decide +kernel
theorem dX13_digit_9 : decode cX13_digit 9 = .ok (.iconst 1, 1) := by decide +kernel
theorem dX13_digit_10 : decode cX13_digit 10 = .ok (.aload_n 0, 1) := by decide +kernel
theorem dX13_digit_11 : decode cX13_digit 11 = .ok (.getfield 258, 3) := by decide +kernel
theorem dX13_digit_14 : decode cX13_digit 14 = .ok (.invokevirtual 254, 3) := by decide +kernel
theorem dX13_digit_17 : decode cX13_digit 17 = .ok (.athrow, 1) := by decide +kernel
theorem dX13_digit_18 : decode cX13_digit 18 = .ok (.aload_n 0, 1) := by decide +kernel
theorem dX13_digit_19 : decode cX13_digit 19 = .ok (.getfield 48, 3) := by decide +kernel
theorem dX13_digit_22 : decode cX13_digit 22 = .ok (.aload_n 0, 1) := by decide +kernel
theorem dX13_digit_23 : decode cX13_digit 23 = .ok (.getfield 258, 3) := by decide +kernel
theorem dX13_digit_26 : decode cX13_digit 26 = .ok (.baload, 1) := by decide +kernel
theorem dX13_digit_27 : decode cX13_digit 27 = .ok (.bipush 48, 2) := by decide +kernel
theorem dX13_digit_29 : decode cX13_digit 29 = .ok (.isub, 1) := by decide +kernel
theorem dX13_digit_30 : decode cX13_digit 30 = .ok (.istore_n 3, 1) := by decide +kernel
theorem dX13_digit_31 : decode cX13_digit 31 = .ok (.iload_n 3, 1) := by decide +kernel
theorem dX13_digit_32 : decode cX13_digit 32 = .ok (.i2l, 1) := by decide +kernel
theorem dX13_digit_33 : decode cX13_digit 33 = .ok (.iload_n 1, 1) := by decide +kernel
theorem dX13_digit_34 : decode cX13_digit 34 = .ok (.i2l, 1) := by decide +kernel
theorem dX13_digit_35 : decode cX13_digit 35 = .ok (.iload_n 2, 1) := by decide +kernel
theorem dX13_digit_36 : decode cX13_digit 36 = .ok (.i2l, 1) := by decide +kernel
theorem dX13_digit_37 : decode cX13_digit 37 = .ok (.invokestatic 113, 3) := by decide +kernel
theorem dX13_digit_40 : decode cX13_digit 40 = .ok (.ifCond .ne 13, 3) := by decide +kernel
theorem dX13_digit_43 : decode cX13_digit 43 = .ok (.aload_n 0, 1) := by decide +kernel
theorem dX13_digit_44 : decode cX13_digit 44 = .ok (.iconst 2, 1) := by decide +kernel
theorem dX13_digit_45 : decode cX13_digit 45 = .ok (.aload_n 0, 1) := by decide +kernel
theorem dX13_digit_46 : decode cX13_digit 46 = .ok (.getfield 258, 3) := by decide +kernel
theorem dX13_digit_49 : decode cX13_digit 49 = .ok (.invokevirtual 254, 3) := by decide +kernel
theorem dX13_digit_52 : decode cX13_digit 52 = .ok (.athrow, 1) := by decide +kernel
theorem dX13_digit_53 : decode cX13_digit 53 = .ok (.aload_n 0, 1) := by decide +kernel
theorem dX13_digit_54 : decode cX13_digit 54 = .ok (.invokevirtual 281, 3) := by decide +kernel
theorem dX13_digit_57 : decode cX13_digit 57 = .ok (.iload_n 3, 1) := by decide +kernel
theorem dX13_digit_58 : decode cX13_digit 58 = .ok (.ireturn, 1) := by decide +kernel
theorem dX13_mark_0 : decode cX13_mark 0 = .ok (.aload_n 0, 1) := by decide +kernel
theorem dX13_mark_1 : decode cX13_mark 1 = .ok (.getfield 261, 3) := by decide +kernel
theorem dX13_mark_4 : decode cX13_mark 4 = .ok (.iconst 4, 1) := by decide +kernel
theorem dX13_mark_5 : decode cX13_mark 5 = .ok (.if_icmp .eq 13, 3) := by decide +kernel
theorem dX13_mark_8 : decode cX13_mark 8 = .ok (.aload_n 0, 1) := by decide +kernel
theorem dX13_mark_9 : decode cX13_mark 9 = .ok (.iconst 1, 1) := by decide +kernel
theorem dX13_mark_10 : decode cX13_mark 10 = .ok (.aload_n 0, 1) := by decide +kernel
theorem dX13_mark_11 : decode cX13_mark 11 = .ok (.getfield 258, 3) := by decide +kernel
theorem dX13_mark_14 : decode cX13_mark 14 = .ok (.invokevirtual 254, 3) := by decide +kernel
theorem dX13_mark_17 : decode cX13_mark 17 = .ok (.athrow, 1) := by decide +kernel
theorem dX13_mark_18 : decode cX13_mark 18 = .ok (.aload_n 0, 1) := by decide +kernel
theorem dX13_mark_19 : decode cX13_mark 19 = .ok (.getfield 48, 3) := by decide +kernel
theorem dX13_mark_22 : decode cX13_mark 22 = .ok (.aload_n 0, 1) := by decide +kernel
theorem dX13_mark_23 : decode cX13_mark 23 = .ok (.getfield 258, 3) := by decide +kernel
theorem dX13_mark_26 : decode cX13_mark 26 = .ok (.baload, 1) := by decide +kernel
theorem dX13_mark_27 : decode cX13_mark 27 = .ok (.istore_n 1, 1) := by decide +kernel
theorem dX13_mark_28 : decode cX13_mark 28 = .ok (.aload_n 0, 1) := by decide +kernel
theorem dX13_mark_29 : decode cX13_mark 29 = .ok (.invokevirtual 281, 3) := by decide +kernel
theorem dX13_mark_32 : decode cX13_mark 32 = .ok (.iload_n 1, 1) := by decide +kernel
theorem dX13_mark_33 : decode cX13_mark 33 = .ok (.bipush 45, 2) := by decide +kernel
theorem dX13_mark_35 : decode cX13_mark 35 = .ok (.if_icmp .ne 7, 3) := by decide +kernel
theorem dX13_mark_38 : decode cX13_mark 38 = .ok (.iconst 0, 1) := by decide +kernel
theorem dX13_mark_39 : decode cX13_mark 39 = .ok (.goto 24, 3) := by decide +kernel
theorem dX13_mark_42 : decode cX13_mark 42 = .ok (.iload_n 1, 1) := by decide +kernel
theorem dX13_mark_43 : decode cX13_mark 43 = .ok (.bipush 58, 2) := by decide +kernel
theorem dX13_mark_45 : decode cX13_mark 45 = .ok (.if_icmp .ne 7, 3) := by decide +kernel
theorem dX13_mark_48 : decode cX13_mark 48 = .ok (.iconst 1, 1) := by decide +kernel
theorem dX13_mark_49 : decode cX13_mark 49 = .ok (.goto 14, 3) := by decide +kernel
theorem dX13_mark_52 : decode cX13_mark 52 = .ok (.iload_n 1, 1) := by decide +kernel
theorem dX13_mark_53 : decode cX13_mark 53 = .ok (.bipush 47, 2) := by decide +kernel
theorem dX13_mark_55 : decode cX13_mark 55 = .ok (.if_icmp .ne 7, 3) := by decide +kernel
theorem dX13_mark_58 : decode cX13_mark 58 = .ok (.iconst 2, 1) := by decide +kernel
theorem dX13_mark_59 : decode cX13_mark 59 = .ok (.goto 4, 3) := by decide +kernel
theorem dX13_mark_62 : decode cX13_mark 62 = .ok (.iconst 3, 1) := by decide +kernel
theorem dX13_mark_63 : decode cX13_mark 63 = .ok (.ireturn, 1) := by decide +kernel
theorem dX13_readWay_0 : decode cX13_readWay 0 = .ok (.aload_n 0, 1) := by decide +kernel
theorem dX13_readWay_1 : decode cX13_readWay 1 = .ok (.getfield 261, 3) := by decide +kernel
theorem dX13_readWay_4 : decode cX13_readWay 4 = .ok (.ifCond .eq 52, 3) := by decide +kernel
theorem dX13_readWay_7 : decode cX13_readWay 7 = .ok (.aload_n 0, 1) := by decide +kernel
theorem dX13_readWay_8 : decode cX13_readWay 8 = .ok (.bipush 125, 2) := by decide +kernel
theorem dX13_readWay_10 : decode cX13_readWay 10 = .ok (.invokevirtual 278, 3) := by decide +kernel
theorem dX13_readWay_13 : decode cX13_readWay 13 = .ok (.ifCond .ne 43, 3) := by decide +kernel
theorem dX13_readWay_16 : decode cX13_readWay 16 = .ok (.aload_n 0, 1) := by decide +kernel
theorem dX13_readWay_17 : decode cX13_readWay 17 = .ok (.invokevirtual 284, 3) := by decide +kernel
theorem dX13_readWay_20 : decode cX13_readWay 20 = .ok (.istore_n 1, 1) := by decide +kernel
theorem dX13_readWay_21 : decode cX13_readWay 21 = .ok (.iload_n 1, 1) := by decide +kernel
theorem dX13_readWay_22 : decode cX13_readWay 22 = .ok (.ifCond .ne 13, 3) := by decide +kernel
theorem dX13_readWay_25 : decode cX13_readWay 25 = .ok (.aload_n 0, 1) := by decide +kernel
theorem dX13_readWay_26 : decode cX13_readWay 26 = .ok (.iconst 1, 1) := by decide +kernel
theorem dX13_readWay_27 : decode cX13_readWay 27 = .ok (.aload_n 0, 1) := by decide +kernel
theorem dX13_readWay_28 : decode cX13_readWay 28 = .ok (.getfield 258, 3) := by decide +kernel
theorem dX13_readWay_31 : decode cX13_readWay 31 = .ok (.invokevirtual 254, 3) := by decide +kernel
theorem dX13_readWay_34 : decode cX13_readWay 34 = .ok (.athrow, 1) := by decide +kernel
theorem dX13_readWay_35 : decode cX13_readWay 35 = .ok (.iload_n 1, 1) := by decide +kernel
theorem dX13_readWay_36 : decode cX13_readWay 36 = .ok (.bipush 15, 2) := by decide +kernel
theorem dX13_readWay_38 : decode cX13_readWay 38 = .ok (.if_icmp .ne 10, 3) := by decide +kernel
theorem dX13_readWay_41 : decode cX13_readWay 41 = .ok (.aload_n 0, 1) := by decide +kernel
theorem dX13_readWay_42 : decode cX13_readWay 42 = .ok (.invokevirtual 287, 3) := by decide +kernel
theorem dX13_readWay_45 : decode cX13_readWay 45 = .ok (.goto 8, 3) := by decide +kernel
theorem dX13_readWay_48 : decode cX13_readWay 48 = .ok (.aload_n 0, 1) := by decide +kernel
theorem dX13_readWay_49 : decode cX13_readWay 49 = .ok (.iload_n 1, 1) := by decide +kernel
theorem dX13_readWay_50 : decode cX13_readWay 50 = .ok (.invokevirtual 290, 3) := by decide +kernel
theorem dX13_readWay_53 : decode cX13_readWay 53 = .ok (.goto (-53), 3) := by decide +kernel
theorem dX13_readWay_56 : decode cX13_readWay 56 = .ok (.return_, 1) := by decide +kernel
theorem dX13_readRepeat_0 : decode cX13_readRepeat 0 = .ok (.aload_n 0, 1) := by decide +kernel
theorem dX13_readRepeat_1 : decode cX13_readRepeat 1 = .ok (.invokevirtual 281, 3) := by decide +kernel
theorem dX13_readRepeat_4 : decode cX13_readRepeat 4 = .ok (.aload_n 0, 1) := by decide +kernel
theorem dX13_readRepeat_5 : decode cX13_readRepeat 5 = .ok (.iconst 1, 1) := by decide +kernel
theorem dX13_readRepeat_6 : decode cX13_readRepeat 6 = .ok (.bipush 6, 2) := by decide +kernel
theorem dX13_readRepeat_8 : decode cX13_readRepeat 8 = .ok (.invokevirtual 294, 3) := by decide +kernel
theorem dX13_readRepeat_11 : decode cX13_readRepeat 11 = .ok (.istore_n 1, 1) := by decide +kernel
theorem dX13_readRepeat_12 : decode cX13_readRepeat 12 = .ok (.aload_n 0, 1) := by decide +kernel
theorem dX13_readRepeat_13 : decode cX13_readRepeat 13 = .ok (.bipush 123, 2) := by decide +kernel
theorem dX13_readRepeat_15 : decode cX13_readRepeat 15 = .ok (.invokevirtual 278, 3) := by decide +kernel
theorem dX13_readRepeat_18 : decode cX13_readRepeat 18 = .ok (.ifCond .ne 13, 3) := by decide +kernel
theorem dX13_readRepeat_21 : decode cX13_readRepeat 21 = .ok (.aload_n 0, 1) := by decide +kernel
theorem dX13_readRepeat_22 : decode cX13_readRepeat 22 = .ok (.iconst 1, 1) := by decide +kernel
theorem dX13_readRepeat_23 : decode cX13_readRepeat 23 = .ok (.aload_n 0, 1) := by decide +kernel
theorem dX13_readRepeat_24 : decode cX13_readRepeat 24 = .ok (.getfield 258, 3) := by decide +kernel
theorem dX13_readRepeat_27 : decode cX13_readRepeat 27 = .ok (.invokevirtual 254, 3) := by decide +kernel
theorem dX13_readRepeat_30 : decode cX13_readRepeat 30 = .ok (.athrow, 1) := by decide +kernel
theorem dX13_readRepeat_31 : decode cX13_readRepeat 31 = .ok (.aload_n 0, 1) := by decide +kernel
theorem dX13_readRepeat_32 : decode cX13_readRepeat 32 = .ok (.getfield 297, 3) := by decide +kernel
theorem dX13_readRepeat_35 : decode cX13_readRepeat 35 = .ok (.iconst 3, 1) := by decide +kernel
theorem dX13_readRepeat_36 : decode cX13_readRepeat 36 = .ok (.if_icmp .ne 13, 3) := by decide +kernel
theorem dX13_readRepeat_39 : decode cX13_readRepeat 39 = .ok (.aload_n 0, 1) := by decide +kernel
theorem dX13_readRepeat_40 : decode cX13_readRepeat 40 = .ok (.iconst 3, 1) := by decide +kernel
theorem dX13_readRepeat_41 : decode cX13_readRepeat 41 = .ok (.aload_n 0, 1) := by decide +kernel
theorem dX13_readRepeat_42 : decode cX13_readRepeat 42 = .ok (.getfield 258, 3) := by decide +kernel
theorem dX13_readRepeat_45 : decode cX13_readRepeat 45 = .ok (.invokevirtual 254, 3) := by decide +kernel
theorem dX13_readRepeat_48 : decode cX13_readRepeat 48 = .ok (.athrow, 1) := by decide +kernel
theorem dX13_readRepeat_49 : decode cX13_readRepeat 49 = .ok (.aload_n 0, 1) := by decide +kernel
theorem dX13_readRepeat_50 : decode cX13_readRepeat 50 = .ok (.dup, 1) := by decide +kernel
theorem dX13_readRepeat_51 : decode cX13_readRepeat 51 = .ok (.getfield 297, 3) := by decide +kernel
theorem dX13_readRepeat_54 : decode cX13_readRepeat 54 = .ok (.iconst 1, 1) := by decide +kernel
theorem dX13_readRepeat_55 : decode cX13_readRepeat 55 = .ok (.iadd, 1) := by decide +kernel
theorem dX13_readRepeat_56 : decode cX13_readRepeat 56 = .ok (.putfield 297, 3) := by decide +kernel
theorem dX13_readRepeat_59 : decode cX13_readRepeat 59 = .ok (.aload_n 0, 1) := by decide +kernel
theorem dX13_readRepeat_60 : decode cX13_readRepeat 60 = .ok (.invokevirtual 281, 3) := by decide +kernel
theorem dX13_readRepeat_63 : decode cX13_readRepeat 63 = .ok (.aload_n 0, 1) := by decide +kernel
theorem dX13_readRepeat_64 : decode cX13_readRepeat 64 = .ok (.getfield 29, 3) := by decide +kernel
theorem dX13_readRepeat_67 : decode cX13_readRepeat 67 = .ok (.bipush 8, 2) := by decide +kernel
theorem dX13_readRepeat_69 : decode cX13_readRepeat 69 = .ok (.iaload, 1) := by decide +kernel
theorem dX13_readRepeat_70 : decode cX13_readRepeat 70 = .ok (.istore_n 2, 1) := by decide +kernel
theorem dX13_readRepeat_71 : decode cX13_readRepeat 71 = .ok (.aload_n 0, 1) := by decide +kernel
theorem dX13_readRepeat_72 : decode cX13_readRepeat 72 = .ok (.invokevirtual 300, 3) := by decide +kernel
theorem dX13_readRepeat_75 : decode cX13_readRepeat 75 = .ok (.aload_n 0, 1) := by decide +kernel
theorem dX13_readRepeat_76 : decode cX13_readRepeat 76 = .ok (.bipush 125, 2) := by decide +kernel
theorem dX13_readRepeat_78 : decode cX13_readRepeat 78 = .ok (.invokevirtual 278, 3) := by decide +kernel
theorem dX13_readRepeat_81 : decode cX13_readRepeat 81 = .ok (.ifCond .ne 13, 3) := by decide +kernel
theorem dX13_readRepeat_84 : decode cX13_readRepeat 84 = .ok (.aload_n 0, 1) := by decide +kernel
theorem dX13_readRepeat_85 : decode cX13_readRepeat 85 = .ok (.iconst 1, 1) := by decide +kernel
theorem dX13_readRepeat_86 : decode cX13_readRepeat 86 = .ok (.aload_n 0, 1) := by decide +kernel
theorem dX13_readRepeat_87 : decode cX13_readRepeat 87 = .ok (.getfield 258, 3) := by decide +kernel
theorem dX13_readRepeat_90 : decode cX13_readRepeat 90 = .ok (.invokevirtual 254, 3) := by decide +kernel
theorem dX13_readRepeat_93 : decode cX13_readRepeat 93 = .ok (.athrow, 1) := by decide +kernel
theorem dX13_readRepeat_94 : decode cX13_readRepeat 94 = .ok (.aload_n 0, 1) := by decide +kernel
theorem dX13_readRepeat_95 : decode cX13_readRepeat 95 = .ok (.getfield 29, 3) := by decide +kernel
theorem dX13_readRepeat_98 : decode cX13_readRepeat 98 = .ok (.bipush 8, 2) := by decide +kernel
theorem dX13_readRepeat_100 : decode cX13_readRepeat 100 = .ok (.iaload, 1) := by decide +kernel
theorem dX13_readRepeat_101 : decode cX13_readRepeat 101 = .ok (.iload_n 2, 1) := by decide +kernel
theorem dX13_readRepeat_102 : decode cX13_readRepeat 102 = .ok (.isub, 1) := by decide +kernel
theorem dX13_readRepeat_103 : decode cX13_readRepeat 103 = .ok (.istore_n 3, 1) := by decide +kernel
theorem dX13_readRepeat_104 : decode cX13_readRepeat 104 = .ok (.iload_n 2, 1) := by decide +kernel
theorem dX13_readRepeat_105 : decode cX13_readRepeat 105 = .ok (.iload_n 1, 1) := by decide +kernel
theorem dX13_readRepeat_106 : decode cX13_readRepeat 106 = .ok (.iload_n 3, 1) := by decide +kernel
theorem dX13_readRepeat_107 : decode cX13_readRepeat 107 = .ok (.imul, 1) := by decide +kernel
theorem dX13_readRepeat_108 : decode cX13_readRepeat 108 = .ok (.iadd, 1) := by decide +kernel
theorem dX13_readRepeat_109 : decode cX13_readRepeat 109 = .ok (.bipush 12, 2) := by decide +kernel
theorem dX13_readRepeat_111 : decode cX13_readRepeat 111 = .ok (.if_icmp .le 13, 3) := by decide +kernel
theorem dX13_readRepeat_114 : decode cX13_readRepeat 114 = .ok (.aload_n 0, 1) := by decide +kernel
theorem dX13_readRepeat_115 : decode cX13_readRepeat 115 = .ok (.iconst 3, 1) := by decide +kernel
theorem dX13_readRepeat_116 : decode cX13_readRepeat 116 = .ok (.aload_n 0, 1) := by decide +kernel
theorem dX13_readRepeat_117 : decode cX13_readRepeat 117 = .ok (.getfield 258, 3) := by decide +kernel
theorem dX13_readRepeat_120 : decode cX13_readRepeat 120 = .ok (.invokevirtual 254, 3) := by decide +kernel
theorem dX13_readRepeat_123 : decode cX13_readRepeat 123 = .ok (.athrow, 1) := by decide +kernel
theorem dX13_readRepeat_124 : decode cX13_readRepeat 124 = .ok (.iload_n 3, 1) := by decide +kernel
theorem dX13_readRepeat_125 : decode cX13_readRepeat 125 = .ok (.istore 4, 2) := by decide +kernel
theorem dX13_readRepeat_127 : decode cX13_readRepeat 127 = .ok (.iload 4, 2) := by decide +kernel
theorem dX13_readRepeat_129 : decode cX13_readRepeat 129 = .ok (.iload_n 1, 1) := by decide +kernel
theorem dX13_readRepeat_130 : decode cX13_readRepeat 130 = .ok (.iload_n 3, 1) := by decide +kernel
theorem dX13_readRepeat_131 : decode cX13_readRepeat 131 = .ok (.imul, 1) := by decide +kernel
theorem dX13_readRepeat_132 : decode cX13_readRepeat 132 = .ok (.if_icmp .ge 87, 3) := by decide +kernel
theorem dX13_readRepeat_135 : decode cX13_readRepeat 135 = .ok (.aload_n 0, 1) := by decide +kernel
theorem dX13_readRepeat_136 : decode cX13_readRepeat 136 = .ok (.getfield 32, 3) := by decide +kernel
theorem dX13_readRepeat_139 : decode cX13_readRepeat 139 = .ok (.bipush 96, 2) := by decide +kernel
theorem dX13_readRepeat_141 : decode cX13_readRepeat 141 = .ok (.iload_n 2, 1) := by decide +kernel
theorem dX13_readRepeat_142 : decode cX13_readRepeat 142 = .ok (.iadd, 1) := by decide +kernel
theorem dX13_readRepeat_143 : decode cX13_readRepeat 143 = .ok (.iload 4, 2) := by decide +kernel
theorem dX13_readRepeat_145 : decode cX13_readRepeat 145 = .ok (.iadd, 1) := by decide +kernel
theorem dX13_readRepeat_146 : decode cX13_readRepeat 146 = .ok (.aload_n 0, 1) := by decide +kernel
theorem dX13_readRepeat_147 : decode cX13_readRepeat 147 = .ok (.getfield 32, 3) := by decide +kernel
theorem dX13_readRepeat_150 : decode cX13_readRepeat 150 = .ok (.bipush 96, 2) := by decide +kernel
theorem dX13_readRepeat_152 : decode cX13_readRepeat 152 = .ok (.iload_n 2, 1) := by decide +kernel
theorem dX13_readRepeat_153 : decode cX13_readRepeat 153 = .ok (.iadd, 1) := by decide +kernel
theorem dX13_readRepeat_154 : decode cX13_readRepeat 154 = .ok (.iload 4, 2) := by decide +kernel
theorem dX13_readRepeat_156 : decode cX13_readRepeat 156 = .ok (.iadd, 1) := by decide +kernel
theorem dX13_readRepeat_157 : decode cX13_readRepeat 157 = .ok (.iload_n 3, 1) := by decide +kernel
theorem dX13_readRepeat_158 : decode cX13_readRepeat 158 = .ok (.isub, 1) := by decide +kernel
theorem dX13_readRepeat_159 : decode cX13_readRepeat 159 = .ok (.iaload, 1) := by decide +kernel
theorem dX13_readRepeat_160 : decode cX13_readRepeat 160 = .ok (.iastore, 1) := by decide +kernel
theorem dX13_readRepeat_161 : decode cX13_readRepeat 161 = .ok (.aload_n 0, 1) := by decide +kernel
theorem dX13_readRepeat_162 : decode cX13_readRepeat 162 = .ok (.getfield 35, 3) := by decide +kernel
theorem dX13_readRepeat_165 : decode cX13_readRepeat 165 = .ok (.bipush 96, 2) := by decide +kernel
theorem dX13_readRepeat_167 : decode cX13_readRepeat 167 = .ok (.iload_n 2, 1) := by decide +kernel
theorem dX13_readRepeat_168 : decode cX13_readRepeat 168 = .ok (.iadd, 1) := by decide +kernel
theorem dX13_readRepeat_169 : decode cX13_readRepeat 169 = .ok (.iload 4, 2) := by decide +kernel
theorem dX13_readRepeat_171 : decode cX13_readRepeat 171 = .ok (.iadd, 1) := by decide +kernel
theorem dX13_readRepeat_172 : decode cX13_readRepeat 172 = .ok (.aload_n 0, 1) := by decide +kernel
theorem dX13_readRepeat_173 : decode cX13_readRepeat 173 = .ok (.getfield 35, 3) := by decide +kernel
theorem dX13_readRepeat_176 : decode cX13_readRepeat 176 = .ok (.bipush 96, 2) := by decide +kernel
theorem dX13_readRepeat_178 : decode cX13_readRepeat 178 = .ok (.iload_n 2, 1) := by decide +kernel
theorem dX13_readRepeat_179 : decode cX13_readRepeat 179 = .ok (.iadd, 1) := by decide +kernel
theorem dX13_readRepeat_180 : decode cX13_readRepeat 180 = .ok (.iload 4, 2) := by decide +kernel
theorem dX13_readRepeat_182 : decode cX13_readRepeat 182 = .ok (.iadd, 1) := by decide +kernel
theorem dX13_readRepeat_183 : decode cX13_readRepeat 183 = .ok (.iload_n 3, 1) := by decide +kernel
theorem dX13_readRepeat_184 : decode cX13_readRepeat 184 = .ok (.isub, 1) := by decide +kernel
theorem dX13_readRepeat_185 : decode cX13_readRepeat 185 = .ok (.iaload, 1) := by decide +kernel
theorem dX13_readRepeat_186 : decode cX13_readRepeat 186 = .ok (.iastore, 1) := by decide +kernel
theorem dX13_readRepeat_187 : decode cX13_readRepeat 187 = .ok (.aload_n 0, 1) := by decide +kernel
theorem dX13_readRepeat_188 : decode cX13_readRepeat 188 = .ok (.getfield 38, 3) := by decide +kernel
theorem dX13_readRepeat_191 : decode cX13_readRepeat 191 = .ok (.bipush 96, 2) := by decide +kernel
theorem dX13_readRepeat_193 : decode cX13_readRepeat 193 = .ok (.iload_n 2, 1) := by decide +kernel
theorem dX13_readRepeat_194 : decode cX13_readRepeat 194 = .ok (.iadd, 1) := by decide +kernel
theorem dX13_readRepeat_195 : decode cX13_readRepeat 195 = .ok (.iload 4, 2) := by decide +kernel
theorem dX13_readRepeat_197 : decode cX13_readRepeat 197 = .ok (.iadd, 1) := by decide +kernel
theorem dX13_readRepeat_198 : decode cX13_readRepeat 198 = .ok (.aload_n 0, 1) := by decide +kernel
theorem dX13_readRepeat_199 : decode cX13_readRepeat 199 = .ok (.getfield 38, 3) := by decide +kernel
theorem dX13_readRepeat_202 : decode cX13_readRepeat 202 = .ok (.bipush 96, 2) := by decide +kernel
theorem dX13_readRepeat_204 : decode cX13_readRepeat 204 = .ok (.iload_n 2, 1) := by decide +kernel
theorem dX13_readRepeat_205 : decode cX13_readRepeat 205 = .ok (.iadd, 1) := by decide +kernel
theorem dX13_readRepeat_206 : decode cX13_readRepeat 206 = .ok (.iload 4, 2) := by decide +kernel
theorem dX13_readRepeat_208 : decode cX13_readRepeat 208 = .ok (.iadd, 1) := by decide +kernel
theorem dX13_readRepeat_209 : decode cX13_readRepeat 209 = .ok (.iload_n 3, 1) := by decide +kernel
theorem dX13_readRepeat_210 : decode cX13_readRepeat 210 = .ok (.isub, 1) := by decide +kernel
theorem dX13_readRepeat_211 : decode cX13_readRepeat 211 = .ok (.iaload, 1) := by decide +kernel
theorem dX13_readRepeat_212 : decode cX13_readRepeat 212 = .ok (.iastore, 1) := by decide +kernel
theorem dX13_readRepeat_213 : decode cX13_readRepeat 213 = .ok (.iinc 4 1, 3) := by decide +kernel
theorem dX13_readRepeat_216 : decode cX13_readRepeat 216 = .ok (.goto (-89), 3) := by decide +kernel
theorem dX13_readRepeat_219 : decode cX13_readRepeat 219 = .ok (.aload_n 0, 1) := by decide +kernel
theorem dX13_readRepeat_220 : decode cX13_readRepeat 220 = .ok (.getfield 29, 3) := by decide +kernel
theorem dX13_readRepeat_223 : decode cX13_readRepeat 223 = .ok (.bipush 8, 2) := by decide +kernel
theorem dX13_readRepeat_225 : decode cX13_readRepeat 225 = .ok (.iload_n 2, 1) := by decide +kernel
theorem dX13_readRepeat_226 : decode cX13_readRepeat 226 = .ok (.iload_n 1, 1) := by decide +kernel
theorem dX13_readRepeat_227 : decode cX13_readRepeat 227 = .ok (.iload_n 3, 1) := by decide +kernel
theorem dX13_readRepeat_228 : decode cX13_readRepeat 228 = .ok (.imul, 1) := by decide +kernel
theorem dX13_readRepeat_229 : decode cX13_readRepeat 229 = .ok (.iadd, 1) := by decide +kernel
theorem dX13_readRepeat_230 : decode cX13_readRepeat 230 = .ok (.iastore, 1) := by decide +kernel
theorem dX13_readRepeat_231 : decode cX13_readRepeat 231 = .ok (.aload_n 0, 1) := by decide +kernel
theorem dX13_readRepeat_232 : decode cX13_readRepeat 232 = .ok (.dup, 1) := by decide +kernel
theorem dX13_readRepeat_233 : decode cX13_readRepeat 233 = .ok (.getfield 297, 3) := by decide +kernel
theorem dX13_readRepeat_236 : decode cX13_readRepeat 236 = .ok (.iconst 1, 1) := by decide +kernel
theorem dX13_readRepeat_237 : decode cX13_readRepeat 237 = .ok (.isub, 1) := by decide +kernel
theorem dX13_readRepeat_238 : decode cX13_readRepeat 238 = .ok (.putfield 297, 3) := by decide +kernel
theorem dX13_readRepeat_241 : decode cX13_readRepeat 241 = .ok (.aload_n 0, 1) := by decide +kernel
theorem dX13_readRepeat_242 : decode cX13_readRepeat 242 = .ok (.invokevirtual 281, 3) := by decide +kernel
theorem dX13_readRepeat_245 : decode cX13_readRepeat 245 = .ok (.return_, 1) := by decide +kernel
theorem dX13_readStep_0 : decode cX13_readStep 0 = .ok (.aload_n 0, 1) := by decide +kernel
theorem dX13_readStep_1 : decode cX13_readStep 1 = .ok (.getfield 29, 3) := by decide +kernel
theorem dX13_readStep_4 : decode cX13_readStep 4 = .ok (.bipush 8, 2) := by decide +kernel
theorem dX13_readStep_6 : decode cX13_readStep 6 = .ok (.iaload, 1) := by decide +kernel
theorem dX13_readStep_7 : decode cX13_readStep 7 = .ok (.bipush 12, 2) := by decide +kernel
theorem dX13_readStep_9 : decode cX13_readStep 9 = .ok (.if_icmp .ne 13, 3) := by decide +kernel
theorem dX13_readStep_12 : decode cX13_readStep 12 = .ok (.aload_n 0, 1) := by decide +kernel
theorem dX13_readStep_13 : decode cX13_readStep 13 = .ok (.iconst 3, 1) := by decide +kernel
theorem dX13_readStep_14 : decode cX13_readStep 14 = .ok (.aload_n 0, 1) := by decide +kernel
theorem dX13_readStep_15 : decode cX13_readStep 15 = .ok (.getfield 258, 3) := by decide +kernel
theorem dX13_readStep_18 : decode cX13_readStep 18 = .ok (.invokevirtual 254, 3) := by decide +kernel
theorem dX13_readStep_21 : decode cX13_readStep 21 = .ok (.athrow, 1) := by decide +kernel
theorem dX13_readStep_22 : decode cX13_readStep 22 = .ok (.bipush 96, 2) := by decide +kernel
theorem dX13_readStep_24 : decode cX13_readStep 24 = .ok (.aload_n 0, 1) := by decide +kernel
theorem dX13_readStep_25 : decode cX13_readStep 25 = .ok (.getfield 29, 3) := by decide +kernel
theorem dX13_readStep_28 : decode cX13_readStep 28 = .ok (.bipush 8, 2) := by decide +kernel
theorem dX13_readStep_30 : decode cX13_readStep 30 = .ok (.iaload, 1) := by decide +kernel
theorem dX13_readStep_31 : decode cX13_readStep 31 = .ok (.iadd, 1) := by decide +kernel
theorem dX13_readStep_32 : decode cX13_readStep 32 = .ok (.istore_n 2, 1) := by decide +kernel
theorem dX13_readStep_33 : decode cX13_readStep 33 = .ok (.aload_n 0, 1) := by decide +kernel
theorem dX13_readStep_34 : decode cX13_readStep 34 = .ok (.getfield 29, 3) := by decide +kernel
theorem dX13_readStep_37 : decode cX13_readStep 37 = .ok (.bipush 8, 2) := by decide +kernel
theorem dX13_readStep_39 : decode cX13_readStep 39 = .ok (.dup2, 1) := by decide +kernel
theorem dX13_readStep_40 : decode cX13_readStep 40 = .ok (.iaload, 1) := by decide +kernel
theorem dX13_readStep_41 : decode cX13_readStep 41 = .ok (.iconst 1, 1) := by decide +kernel
theorem dX13_readStep_42 : decode cX13_readStep 42 = .ok (.iadd, 1) := by decide +kernel
theorem dX13_readStep_43 : decode cX13_readStep 43 = .ok (.iastore, 1) := by decide +kernel
theorem dX13_readStep_44 : decode cX13_readStep 44 = .ok (.aload_n 0, 1) := by decide +kernel
theorem dX13_readStep_45 : decode cX13_readStep 45 = .ok (.getfield 32, 3) := by decide +kernel
theorem dX13_readStep_48 : decode cX13_readStep 48 = .ok (.iload_n 2, 1) := by decide +kernel
theorem dX13_readStep_49 : decode cX13_readStep 49 = .ok (.iload_n 1, 1) := by decide +kernel
theorem dX13_readStep_50 : decode cX13_readStep 50 = .ok (.iastore, 1) := by decide +kernel
theorem dX13_readStep_51 : decode cX13_readStep 51 = .ok (.aload_n 0, 1) := by decide +kernel
theorem dX13_readStep_52 : decode cX13_readStep 52 = .ok (.getfield 35, 3) := by decide +kernel
theorem dX13_readStep_55 : decode cX13_readStep 55 = .ok (.iload_n 2, 1) := by decide +kernel
theorem dX13_readStep_56 : decode cX13_readStep 56 = .ok (.iconst 0, 1) := by decide +kernel
theorem dX13_readStep_57 : decode cX13_readStep 57 = .ok (.iastore, 1) := by decide +kernel
theorem dX13_readStep_58 : decode cX13_readStep 58 = .ok (.aload_n 0, 1) := by decide +kernel
theorem dX13_readStep_59 : decode cX13_readStep 59 = .ok (.getfield 38, 3) := by decide +kernel
theorem dX13_readStep_62 : decode cX13_readStep 62 = .ok (.iload_n 2, 1) := by decide +kernel
theorem dX13_readStep_63 : decode cX13_readStep 63 = .ok (.iconst 0, 1) := by decide +kernel
theorem dX13_readStep_64 : decode cX13_readStep 64 = .ok (.iastore, 1) := by decide +kernel
theorem dX13_readStep_65 : decode cX13_readStep 65 = .ok (.aload_n 0, 1) := by decide +kernel
theorem dX13_readStep_66 : decode cX13_readStep 66 = .ok (.invokevirtual 281, 3) := by decide +kernel
theorem dX13_readStep_69 : decode cX13_readStep 69 = .ok (.iload_n 1, 1) := by decide +kernel
theorem dX13_readStep_70 : decode cX13_readStep 70 = .ok (.iconst 1, 1) := by decide +kernel
theorem dX13_readStep_71 : decode cX13_readStep 71 = .ok (.if_icmp .eq 33, 3) := by decide +kernel
theorem dX13_readStep_74 : decode cX13_readStep 74 = .ok (.iload_n 1, 1) := by decide +kernel
theorem dX13_readStep_75 : decode cX13_readStep 75 = .ok (.bipush 7, 2) := by decide +kernel
theorem dX13_readStep_77 : decode cX13_readStep 77 = .ok (.if_icmp .eq 27, 3) := by decide +kernel
theorem dX13_readStep_80 : decode cX13_readStep 80 = .ok (.iload_n 1, 1) := by decide +kernel
theorem dX13_readStep_81 : decode cX13_readStep 81 = .ok (.bipush 9, 2) := by decide +kernel
theorem dX13_readStep_83 : decode cX13_readStep 83 = .ok (.if_icmp .eq 21, 3) := by decide +kernel
theorem dX13_readStep_86 : decode cX13_readStep 86 = .ok (.iload_n 1, 1) := by decide +kernel
theorem dX13_readStep_87 : decode cX13_readStep 87 = .ok (.bipush 13, 2) := by decide +kernel
theorem dX13_readStep_89 : decode cX13_readStep 89 = .ok (.if_icmp .eq 15, 3) := by decide +kernel
theorem dX13_readStep_92 : decode cX13_readStep 92 = .ok (.aload_n 0, 1) := by decide +kernel
theorem dX13_readStep_93 : decode cX13_readStep 93 = .ok (.getfield 35, 3) := by decide +kernel
theorem dX13_readStep_96 : decode cX13_readStep 96 = .ok (.iload_n 2, 1) := by decide +kernel
theorem dX13_readStep_97 : decode cX13_readStep 97 = .ok (.aload_n 0, 1) := by decide +kernel
theorem dX13_readStep_98 : decode cX13_readStep 98 = .ok (.iconst 0, 1) := by decide +kernel
theorem dX13_readStep_99 : decode cX13_readStep 99 = .ok (.iconst 5, 1) := by decide +kernel
theorem dX13_readStep_100 : decode cX13_readStep 100 = .ok (.invokevirtual 294, 3) := by decide +kernel
theorem dX13_readStep_103 : decode cX13_readStep 103 = .ok (.iastore, 1) := by decide +kernel
theorem dX13_readStep_104 : decode cX13_readStep 104 = .ok (.iload_n 1, 1) := by decide +kernel
theorem dX13_readStep_105 : decode cX13_readStep 105 = .ok (.iconst 3, 1) := by decide +kernel
theorem dX13_readStep_106 : decode cX13_readStep 106 = .ok (.if_icmp .eq 8, 3) := by decide +kernel
theorem dX13_readStep_109 : decode cX13_readStep 109 = .ok (.iload_n 1, 1) := by decide +kernel
theorem dX13_readStep_110 : decode cX13_readStep 110 = .ok (.iconst 5, 1) := by decide +kernel
theorem dX13_readStep_111 : decode cX13_readStep 111 = .ok (.if_icmp .ne 13, 3) := by decide +kernel
theorem dX13_readStep_114 : decode cX13_readStep 114 = .ok (.aload_n 0, 1) := by decide +kernel
theorem dX13_readStep_115 : decode cX13_readStep 115 = .ok (.getfield 38, 3) := by decide +kernel
theorem dX13_readStep_118 : decode cX13_readStep 118 = .ok (.iload_n 2, 1) := by decide +kernel
theorem dX13_readStep_119 : decode cX13_readStep 119 = .ok (.aload_n 0, 1) := by decide +kernel
theorem dX13_readStep_120 : decode cX13_readStep 120 = .ok (.invokevirtual 303, 3) := by decide +kernel
theorem dX13_readStep_123 : decode cX13_readStep 123 = .ok (.iastore, 1) := by decide +kernel
theorem dX13_readStep_124 : decode cX13_readStep 124 = .ok (.iload_n 1, 1) := by decide +kernel
theorem dX13_readStep_125 : decode cX13_readStep 125 = .ok (.bipush 11, 2) := by decide +kernel
theorem dX13_readStep_127 : decode cX13_readStep 127 = .ok (.if_icmp .ne 15, 3) := by decide +kernel
theorem dX13_readStep_130 : decode cX13_readStep 130 = .ok (.aload_n 0, 1) := by decide +kernel
theorem dX13_readStep_131 : decode cX13_readStep 131 = .ok (.getfield 38, 3) := by decide +kernel
theorem dX13_readStep_134 : decode cX13_readStep 134 = .ok (.iload_n 2, 1) := by decide +kernel
theorem dX13_readStep_135 : decode cX13_readStep 135 = .ok (.aload_n 0, 1) := by decide +kernel
theorem dX13_readStep_136 : decode cX13_readStep 136 = .ok (.iconst 0, 1) := by decide +kernel
theorem dX13_readStep_137 : decode cX13_readStep 137 = .ok (.iconst 5, 1) := by decide +kernel
theorem dX13_readStep_138 : decode cX13_readStep 138 = .ok (.invokevirtual 294, 3) := by decide +kernel
theorem dX13_readStep_141 : decode cX13_readStep 141 = .ok (.iastore, 1) := by decide +kernel
theorem dX13_readStep_142 : decode cX13_readStep 142 = .ok (.aload_n 0, 1) := by decide +kernel
theorem dX13_readStep_143 : decode cX13_readStep 143 = .ok (.bipush 59, 2) := by decide +kernel
theorem dX13_readStep_145 : decode cX13_readStep 145 = .ok (.invokevirtual 306, 3) := by decide +kernel
theorem dX13_readStep_148 : decode cX13_readStep 148 = .ok (.return_, 1) := by decide +kernel
theorem dX13_feed_0 : decode cX13_feed 0 = .ok (.aload_n 0, 1) := by decide +kernel
theorem dX13_feed_1 : decode cX13_feed 1 = .ok (.getfield 239, 3) := by decide +kernel
theorem dX13_feed_4 : decode cX13_feed 4 = .ok (.bipush 20, 2) := by decide +kernel
theorem dX13_feed_6 : decode cX13_feed 6 = .ok (.iadd, 1) := by decide +kernel
theorem dX13_feed_7 : decode cX13_feed 7 = .ok (.sipush 1000, 3) := by decide +kernel
theorem dX13_feed_10 : decode cX13_feed 10 = .ok (.if_icmp .le 6, 3) := by decide +kernel
theorem dX13_feed_13 : decode cX13_feed 13 = .ok (.bipush (-3), 2) := by decide +kernel
theorem dX13_feed_15 : decode cX13_feed 15 = .ok (.ireturn, 1) := by decide +kernel
theorem dX13_feed_16 : decode cX13_feed 16 = .ok (.aload_n 0, 1) := by decide +kernel
theorem dX13_feed_17 : decode cX13_feed 17 = .ok (.iload_n 1, 1) := by decide +kernel
theorem dX13_feed_18 : decode cX13_feed 18 = .ok (.invokevirtual 309, 3) := by decide +kernel
theorem dX13_feed_21 : decode cX13_feed 21 = .ok (.aload_n 0, 1) := by decide +kernel
theorem dX13_feed_22 : decode cX13_feed 22 = .ok (.iload_n 2, 1) := by decide +kernel
theorem dX13_feed_23 : decode cX13_feed 23 = .ok (.invokevirtual 309, 3) := by decide +kernel
theorem dX13_feed_26 : decode cX13_feed 26 = .ok (.aload_n 0, 1) := by decide +kernel
theorem dX13_feed_27 : decode cX13_feed 27 = .ok (.iload_n 3, 1) := by decide +kernel
theorem dX13_feed_28 : decode cX13_feed 28 = .ok (.invokevirtual 309, 3) := by decide +kernel
theorem dX13_feed_31 : decode cX13_feed 31 = .ok (.aload_n 0, 1) := by decide +kernel
theorem dX13_feed_32 : decode cX13_feed 32 = .ok (.iload 4, 2) := by decide +kernel
theorem dX13_feed_34 : decode cX13_feed 34 = .ok (.invokevirtual 309, 3) := by decide +kernel
theorem dX13_feed_37 : decode cX13_feed 37 = .ok (.aload_n 0, 1) := by decide +kernel
theorem dX13_feed_38 : decode cX13_feed 38 = .ok (.iload 5, 2) := by decide +kernel
theorem dX13_feed_40 : decode cX13_feed 40 = .ok (.invokevirtual 309, 3) := by decide +kernel
theorem dX13_feed_43 : decode cX13_feed 43 = .ok (.aload_n 0, 1) := by decide +kernel
theorem dX13_feed_44 : decode cX13_feed 44 = .ok (.getfield 239, 3) := by decide +kernel
theorem dX13_feed_47 : decode cX13_feed 47 = .ok (.ireturn, 1) := by decide +kernel
theorem dX13_lay_0 : decode cX13_lay 0 = .ok (.bipush 24, 2) := by decide +kernel
theorem dX13_lay_2 : decode cX13_lay 2 = .ok (.istore_n 2, 1) := by decide +kernel
theorem dX13_lay_3 : decode cX13_lay 3 = .ok (.iload_n 2, 1) := by decide +kernel
theorem dX13_lay_4 : decode cX13_lay 4 = .ok (.ifCond .lt 32, 3) := by decide +kernel
theorem dX13_lay_7 : decode cX13_lay 7 = .ok (.aload_n 0, 1) := by decide +kernel
theorem dX13_lay_8 : decode cX13_lay 8 = .ok (.getfield 48, 3) := by decide +kernel
theorem dX13_lay_11 : decode cX13_lay 11 = .ok (.aload_n 0, 1) := by decide +kernel
theorem dX13_lay_12 : decode cX13_lay 12 = .ok (.getfield 239, 3) := by decide +kernel
theorem dX13_lay_15 : decode cX13_lay 15 = .ok (.iload_n 1, 1) := by decide +kernel
theorem dX13_lay_16 : decode cX13_lay 16 = .ok (.iload_n 2, 1) := by decide +kernel
theorem dX13_lay_17 : decode cX13_lay 17 = .ok (.ishr, 1) := by decide +kernel
theorem dX13_lay_18 : decode cX13_lay 18 = .ok (.i2b, 1) := by decide +kernel
theorem dX13_lay_19 : decode cX13_lay 19 = .ok (.bastore, 1) := by decide +kernel
theorem dX13_lay_20 : decode cX13_lay 20 = .ok (.aload_n 0, 1) := by decide +kernel
theorem dX13_lay_21 : decode cX13_lay 21 = .ok (.dup, 1) := by decide +kernel
theorem dX13_lay_22 : decode cX13_lay 22 = .ok (.getfield 239, 3) := by decide +kernel
theorem dX13_lay_25 : decode cX13_lay 25 = .ok (.iconst 1, 1) := by decide +kernel
theorem dX13_lay_26 : decode cX13_lay 26 = .ok (.iadd, 1) := by decide +kernel
theorem dX13_lay_27 : decode cX13_lay 27 = .ok (.putfield 239, 3) := by decide +kernel
theorem dX13_lay_30 : decode cX13_lay 30 = .ok (.iinc 2 (-8), 3) := by decide +kernel
theorem dX13_lay_33 : decode cX13_lay 33 = .ok (.goto (-30), 3) := by decide +kernel
theorem dX13_lay_36 : decode cX13_lay 36 = .ok (.return_, 1) := by decide +kernel
theorem dX13_end_0 : decode cX13_end 0 = .ok (.iload_n 1, 1) := by decide +kernel
theorem dX13_end_1 : decode cX13_end 1 = .ok (.i2l, 1) := by decide +kernel
theorem dX13_end_2 : decode cX13_end 2 = .ok (.lconst 0, 1) := by decide +kernel
theorem dX13_end_3 : decode cX13_end 3 = .ok (.aload_n 0, 1) := by decide +kernel
theorem dX13_end_4 : decode cX13_end 4 = .ok (.getfield 239, 3) := by decide +kernel
theorem dX13_end_7 : decode cX13_end 7 = .ok (.i2l, 1) := by decide +kernel
theorem dX13_end_8 : decode cX13_end 8 = .ok (.invokestatic 113, 3) := by decide +kernel
theorem dX13_end_11 : decode cX13_end 11 = .ok (.ifCond .ne 5, 3) := by decide +kernel
theorem dX13_end_14 : decode cX13_end 14 = .ok (.iconst (-1), 1) := by decide +kernel
theorem dX13_end_15 : decode cX13_end 15 = .ok (.ireturn, 1) := by decide +kernel
theorem dX13_end_16 : decode cX13_end 16 = .ok (.aload_n 0, 1) := by decide +kernel
theorem dX13_end_17 : decode cX13_end 17 = .ok (.iload_n 1, 1) := by decide +kernel
theorem dX13_end_18 : decode cX13_end 18 = .ok (.putfield 239, 3) := by decide +kernel
theorem dX13_end_21 : decode cX13_end 21 = .ok (.iload_n 1, 1) := by decide +kernel
theorem dX13_end_22 : decode cX13_end 22 = .ok (.ireturn, 1) := by decide +kernel
theorem dX13_table_0 : decode cX13_table 0 = .ok (.aload_n 0, 1) := by decide +kernel
theorem dX13_table_1 : decode cX13_table 1 = .ok (.getfield 233, 3) := by decide +kernel
theorem dX13_table_4 : decode cX13_table 4 = .ok (.istore_n 2, 1) := by decide +kernel
theorem dX13_table_5 : decode cX13_table 5 = .ok (.aload_n 0, 1) := by decide +kernel
theorem dX13_table_6 : decode cX13_table 6 = .ok (.getfield 52, 3) := by decide +kernel
theorem dX13_table_9 : decode cX13_table 9 = .ok (.istore_n 3, 1) := by decide +kernel
theorem dX13_table_10 : decode cX13_table 10 = .ok (.aload_n 0, 1) := by decide +kernel
theorem dX13_table_11 : decode cX13_table 11 = .ok (.invokevirtual 312, 3) := by decide +kernel
theorem dX13_table_14 : decode cX13_table 14 = .ok (.iload_n 1, 1) := by decide +kernel
theorem dX13_table_15 : decode cX13_table 15 = .ok (.invokestatic 315, 3) := by decide +kernel
theorem dX13_table_18 : decode cX13_table 18 = .ok (.ifCond .ne 16, 3) := by decide +kernel
theorem dX13_table_21 : decode cX13_table 21 = .ok (.aload_n 0, 1) := by decide +kernel
theorem dX13_table_22 : decode cX13_table 22 = .ok (.iload_n 2, 1) := by decide +kernel
theorem dX13_table_23 : decode cX13_table 23 = .ok (.putfield 233, 3) := by decide +kernel
theorem dX13_table_26 : decode cX13_table 26 = .ok (.aload_n 0, 1) := by decide +kernel
theorem dX13_table_27 : decode cX13_table 27 = .ok (.iload_n 3, 1) := by decide +kernel
theorem dX13_table_28 : decode cX13_table 28 = .ok (.putfield 52, 3) := by decide +kernel
theorem dX13_table_31 : decode cX13_table 31 = .ok (.bipush (-2), 2) := by decide +kernel
theorem dX13_table_33 : decode cX13_table 33 = .ok (.ireturn, 1) := by decide +kernel
theorem dX13_table_34 : decode cX13_table 34 = .ok (.aload_n 0, 1) := by decide +kernel
theorem dX13_table_35 : decode cX13_table 35 = .ok (.invokevirtual 318, 3) := by decide +kernel
theorem dX13_table_38 : decode cX13_table 38 = .ok (.goto 7, 3) := by decide +kernel
theorem dX13_table_41 : decode cX13_table 41 = .ok (.astore 4, 2) := by decide +kernel
theorem dX13_table_43 : decode cX13_table 43 = .ok (.iconst (-1), 1) := by decide +kernel
theorem dX13_table_44 : decode cX13_table 44 = .ok (.ireturn, 1) := by decide +kernel
theorem dX13_table_45 : decode cX13_table 45 = .ok (.aload_n 0, 1) := by decide +kernel
theorem dX13_table_46 : decode cX13_table 46 = .ok (.iload_n 1, 1) := by decide +kernel
theorem dX13_table_47 : decode cX13_table 47 = .ok (.bipush 10, 2) := by decide +kernel
theorem dX13_table_49 : decode cX13_table 49 = .ok (.invokevirtual 196, 3) := by decide +kernel
theorem dX13_table_52 : decode cX13_table 52 = .ok (.aload_n 0, 1) := by decide +kernel
theorem dX13_table_53 : decode cX13_table 53 = .ok (.getfield 9, 3) := by decide +kernel
theorem dX13_table_56 : decode cX13_table 56 = .ok (.iload_n 1, 1) := by decide +kernel
theorem dX13_table_57 : decode cX13_table 57 = .ok (.iaload, 1) := by decide +kernel
theorem dX13_table_58 : decode cX13_table 58 = .ok (.ireturn, 1) := by decide +kernel
theorem dX13_way_0 : decode cX13_way 0 = .ok (.aload_n 0, 1) := by decide +kernel
theorem dX13_way_1 : decode cX13_way 1 = .ok (.getfield 233, 3) := by decide +kernel
theorem dX13_way_4 : decode cX13_way 4 = .ok (.istore_n 2, 1) := by decide +kernel
theorem dX13_way_5 : decode cX13_way 5 = .ok (.aload_n 0, 1) := by decide +kernel
theorem dX13_way_6 : decode cX13_way 6 = .ok (.getfield 52, 3) := by decide +kernel
theorem dX13_way_9 : decode cX13_way 9 = .ok (.istore_n 3, 1) := by decide +kernel
theorem dX13_way_10 : decode cX13_way 10 = .ok (.aload_n 0, 1) := by decide +kernel
theorem dX13_way_11 : decode cX13_way 11 = .ok (.invokevirtual 312, 3) := by decide +kernel
theorem dX13_way_14 : decode cX13_way 14 = .ok (.iload_n 1, 1) := by decide +kernel
theorem dX13_way_15 : decode cX13_way 15 = .ok (.invokestatic 321, 3) := by decide +kernel
theorem dX13_way_18 : decode cX13_way 18 = .ok (.ifCond .ne 16, 3) := by decide +kernel
theorem dX13_way_21 : decode cX13_way 21 = .ok (.aload_n 0, 1) := by decide +kernel
theorem dX13_way_22 : decode cX13_way 22 = .ok (.iload_n 2, 1) := by decide +kernel
theorem dX13_way_23 : decode cX13_way 23 = .ok (.putfield 233, 3) := by decide +kernel
theorem dX13_way_26 : decode cX13_way 26 = .ok (.aload_n 0, 1) := by decide +kernel
theorem dX13_way_27 : decode cX13_way 27 = .ok (.iload_n 3, 1) := by decide +kernel
theorem dX13_way_28 : decode cX13_way 28 = .ok (.putfield 52, 3) := by decide +kernel
theorem dX13_way_31 : decode cX13_way 31 = .ok (.bipush (-2), 2) := by decide +kernel
theorem dX13_way_33 : decode cX13_way 33 = .ok (.ireturn, 1) := by decide +kernel
theorem dX13_way_34 : decode cX13_way 34 = .ok (.aload_n 0, 1) := by decide +kernel
theorem dX13_way_35 : decode cX13_way 35 = .ok (.getfield 29, 3) := by decide +kernel
theorem dX13_way_38 : decode cX13_way 38 = .ok (.bipush 8, 2) := by decide +kernel
theorem dX13_way_40 : decode cX13_way 40 = .ok (.iconst 0, 1) := by decide +kernel
theorem dX13_way_41 : decode cX13_way 41 = .ok (.iastore, 1) := by decide +kernel
theorem dX13_way_42 : decode cX13_way 42 = .ok (.aload_n 0, 1) := by decide +kernel
theorem dX13_way_43 : decode cX13_way 43 = .ok (.iconst 0, 1) := by decide +kernel
theorem dX13_way_44 : decode cX13_way 44 = .ok (.putfield 297, 3) := by decide +kernel
theorem dX13_way_47 : decode cX13_way 47 = .ok (.aload_n 0, 1) := by decide +kernel
theorem dX13_way_48 : decode cX13_way 48 = .ok (.invokevirtual 281, 3) := by decide +kernel
theorem dX13_way_51 : decode cX13_way 51 = .ok (.aload_n 0, 1) := by decide +kernel
theorem dX13_way_52 : decode cX13_way 52 = .ok (.invokevirtual 300, 3) := by decide +kernel
theorem dX13_way_55 : decode cX13_way 55 = .ok (.aload_n 0, 1) := by decide +kernel
theorem dX13_way_56 : decode cX13_way 56 = .ok (.getfield 261, 3) := by decide +kernel
theorem dX13_way_59 : decode cX13_way 59 = .ok (.ifCond .eq 13, 3) := by decide +kernel
theorem dX13_way_62 : decode cX13_way 62 = .ok (.aload_n 0, 1) := by decide +kernel
theorem dX13_way_63 : decode cX13_way 63 = .ok (.iconst 1, 1) := by decide +kernel
theorem dX13_way_64 : decode cX13_way 64 = .ok (.aload_n 0, 1) := by decide +kernel
theorem dX13_way_65 : decode cX13_way 65 = .ok (.getfield 258, 3) := by decide +kernel
theorem dX13_way_68 : decode cX13_way 68 = .ok (.invokevirtual 254, 3) := by decide +kernel
theorem dX13_way_71 : decode cX13_way 71 = .ok (.athrow, 1) := by decide +kernel
theorem dX13_way_72 : decode cX13_way 72 = .ok (.goto 7, 3) := by decide +kernel
theorem dX13_way_75 : decode cX13_way 75 = .ok (.astore 4, 2) := by decide +kernel
theorem dX13_way_77 : decode cX13_way 77 = .ok (.iconst (-1), 1) := by decide +kernel
theorem dX13_way_78 : decode cX13_way 78 = .ok (.ireturn, 1) := by decide +kernel
theorem dX13_way_79 : decode cX13_way 79 = .ok (.aload_n 0, 1) := by decide +kernel
theorem dX13_way_80 : decode cX13_way 80 = .ok (.iload_n 1, 1) := by decide +kernel
theorem dX13_way_81 : decode cX13_way 81 = .ok (.bipush 8, 2) := by decide +kernel
theorem dX13_way_83 : decode cX13_way 83 = .ok (.invokevirtual 324, 3) := by decide +kernel
theorem dX13_way_86 : decode cX13_way 86 = .ok (.aload_n 0, 1) := by decide +kernel
theorem dX13_way_87 : decode cX13_way 87 = .ok (.getfield 29, 3) := by decide +kernel
theorem dX13_way_90 : decode cX13_way 90 = .ok (.iload_n 1, 1) := by decide +kernel
theorem dX13_way_91 : decode cX13_way 91 = .ok (.iaload, 1) := by decide +kernel
theorem dX13_way_92 : decode cX13_way 92 = .ok (.ireturn, 1) := by decide +kernel
theorem dX13_fault_0 : decode cX13_fault 0 = .ok (.iload_n 1, 1) := by decide +kernel
theorem dX13_fault_1 : decode cX13_fault 1 = .ok (.ifCond .ne 10, 3) := by decide +kernel
theorem dX13_fault_4 : decode cX13_fault 4 = .ok (.aload_n 0, 1) := by decide +kernel
theorem dX13_fault_5 : decode cX13_fault 5 = .ok (.getfield 233, 3) := by decide +kernel
theorem dX13_fault_8 : decode cX13_fault 8 = .ok (.goto 16, 3) := by decide +kernel
theorem dX13_fault_11 : decode cX13_fault 11 = .ok (.iload_n 1, 1) := by decide +kernel
theorem dX13_fault_12 : decode cX13_fault 12 = .ok (.iconst 1, 1) := by decide +kernel
theorem dX13_fault_13 : decode cX13_fault 13 = .ok (.if_icmp .ne 10, 3) := by decide +kernel
theorem dX13_fault_16 : decode cX13_fault 16 = .ok (.aload_n 0, 1) := by decide +kernel
theorem dX13_fault_17 : decode cX13_fault 17 = .ok (.getfield 52, 3) := by decide +kernel
theorem dX13_fault_20 : decode cX13_fault 20 = .ok (.goto 4, 3) := by decide +kernel
theorem dX13_fault_23 : decode cX13_fault 23 = .ok (.iconst (-1), 1) := by decide +kernel
theorem dX13_fault_24 : decode cX13_fault 24 = .ok (.ireturn, 1) := by decide +kernel
theorem dX13_size_0 : decode cX13_size 0 = .ok (.iload_n 1, 1) := by decide +kernel
theorem dX13_size_1 : decode cX13_size 1 = .ok (.invokestatic 315, 3) := by decide +kernel
theorem dX13_size_4 : decode cX13_size 4 = .ok (.ifCond .ne 5, 3) := by decide +kernel
theorem dX13_size_7 : decode cX13_size 7 = .ok (.iconst (-1), 1) := by decide +kernel
theorem dX13_size_8 : decode cX13_size 8 = .ok (.ireturn, 1) := by decide +kernel
theorem dX13_size_9 : decode cX13_size 9 = .ok (.iload_n 2, 1) := by decide +kernel
theorem dX13_size_10 : decode cX13_size 10 = .ok (.ifCond .ne 10, 3) := by decide +kernel
theorem dX13_size_13 : decode cX13_size 13 = .ok (.aload_n 0, 1) := by decide +kernel
theorem dX13_size_14 : decode cX13_size 14 = .ok (.getfield 9, 3) := by decide +kernel
theorem dX13_size_17 : decode cX13_size 17 = .ok (.iload_n 1, 1) := by decide +kernel
theorem dX13_size_18 : decode cX13_size 18 = .ok (.iaload, 1) := by decide +kernel
theorem dX13_size_19 : decode cX13_size 19 = .ok (.ireturn, 1) := by decide +kernel
theorem dX13_size_20 : decode cX13_size 20 = .ok (.iload_n 2, 1) := by decide +kernel
theorem dX13_size_21 : decode cX13_size 21 = .ok (.iconst 1, 1) := by decide +kernel
theorem dX13_size_22 : decode cX13_size 22 = .ok (.if_icmp .ne 10, 3) := by decide +kernel
theorem dX13_size_25 : decode cX13_size 25 = .ok (.aload_n 0, 1) := by decide +kernel
theorem dX13_size_26 : decode cX13_size 26 = .ok (.getfield 13, 3) := by decide +kernel
theorem dX13_size_29 : decode cX13_size 29 = .ok (.iload_n 1, 1) := by decide +kernel
theorem dX13_size_30 : decode cX13_size 30 = .ok (.iaload, 1) := by decide +kernel
theorem dX13_size_31 : decode cX13_size 31 = .ok (.ireturn, 1) := by decide +kernel
theorem dX13_size_32 : decode cX13_size 32 = .ok (.iload_n 2, 1) := by decide +kernel
theorem dX13_size_33 : decode cX13_size 33 = .ok (.i2l, 1) := by decide +kernel
theorem dX13_size_34 : decode cX13_size 34 = .ok (.ldc2_w 327, 3) := by decide +kernel
theorem dX13_size_37 : decode cX13_size 37 = .ok (.ldc2_w 329, 3) := by decide +kernel
theorem dX13_size_40 : decode cX13_size 40 = .ok (.invokestatic 113, 3) := by decide +kernel
theorem dX13_size_43 : decode cX13_size 43 = .ok (.ifCond .ne 5, 3) := by decide +kernel
theorem dX13_size_46 : decode cX13_size 46 = .ok (.iconst (-1), 1) := by decide +kernel
theorem dX13_size_47 : decode cX13_size 47 = .ok (.ireturn, 1) := by decide +kernel
theorem dX13_size_48 : decode cX13_size 48 = .ok (.iconst 0, 1) := by decide +kernel
theorem dX13_size_49 : decode cX13_size 49 = .ok (.istore_n 3, 1) := by decide +kernel
theorem dX13_size_50 : decode cX13_size 50 = .ok (.iconst 0, 1) := by decide +kernel
theorem dX13_size_51 : decode cX13_size 51 = .ok (.istore 4, 2) := by decide +kernel
theorem dX13_size_53 : decode cX13_size 53 = .ok (.iload 4, 2) := by decide +kernel
theorem dX13_size_55 : decode cX13_size 55 = .ok (.aload_n 0, 1) := by decide +kernel
theorem dX13_size_56 : decode cX13_size 56 = .ok (.getfield 9, 3) := by decide +kernel
theorem dX13_size_59 : decode cX13_size 59 = .ok (.iload_n 1, 1) := by decide +kernel
theorem dX13_size_60 : decode cX13_size 60 = .ok (.iaload, 1) := by decide +kernel
theorem dX13_size_61 : decode cX13_size 61 = .ok (.if_icmp .ge 91, 3) := by decide +kernel
theorem dX13_size_64 : decode cX13_size 64 = .ok (.iconst 0, 1) := by decide +kernel
theorem dX13_size_65 : decode cX13_size 65 = .ok (.istore 5, 2) := by decide +kernel
theorem dX13_size_67 : decode cX13_size 67 = .ok (.iload 5, 2) := by decide +kernel
theorem dX13_size_69 : decode cX13_size 69 = .ok (.aload_n 0, 1) := by decide +kernel
theorem dX13_size_70 : decode cX13_size 70 = .ok (.getfield 13, 3) := by decide +kernel
theorem dX13_size_73 : decode cX13_size 73 = .ok (.iload_n 1, 1) := by decide +kernel
theorem dX13_size_74 : decode cX13_size 74 = .ok (.iaload, 1) := by decide +kernel
theorem dX13_size_75 : decode cX13_size 75 = .ok (.if_icmp .ge 71, 3) := by decide +kernel
theorem dX13_size_78 : decode cX13_size 78 = .ok (.aload_n 0, 1) := by decide +kernel
theorem dX13_size_79 : decode cX13_size 79 = .ok (.getfield 16, 3) := by decide +kernel
theorem dX13_size_82 : decode cX13_size 82 = .ok (.iload_n 1, 1) := by decide +kernel
theorem dX13_size_83 : decode cX13_size 83 = .ok (.iload 4, 2) := by decide +kernel
theorem dX13_size_85 : decode cX13_size 85 = .ok (.iload 5, 2) := by decide +kernel
theorem dX13_size_87 : decode cX13_size 87 = .ok (.invokestatic 120, 3) := by decide +kernel
theorem dX13_size_90 : decode cX13_size 90 = .ok (.laload, 1) := by decide +kernel
theorem dX13_size_91 : decode cX13_size 91 = .ok (.lstore 6, 2) := by decide +kernel
theorem dX13_size_93 : decode cX13_size 93 = .ok (.iload_n 3, 1) := by decide +kernel
theorem dX13_size_94 : decode cX13_size 94 = .ok (.iload_n 2, 1) := by decide +kernel
theorem dX13_size_95 : decode cX13_size 95 = .ok (.iconst 2, 1) := by decide +kernel
theorem dX13_size_96 : decode cX13_size 96 = .ok (.if_icmp .ne 10, 3) := by decide +kernel
theorem dX13_size_99 : decode cX13_size 99 = .ok (.lload 6, 2) := by decide +kernel
theorem dX13_size_101 : decode cX13_size 101 = .ok (.lconst 0, 1) := by decide +kernel
theorem dX13_size_102 : decode cX13_size 102 = .ok (.lcmp, 1) := by decide +kernel
theorem dX13_size_103 : decode cX13_size 103 = .ok (.ifCond .eq 30, 3) := by decide +kernel
theorem dX13_size_106 : decode cX13_size 106 = .ok (.iload_n 2, 1) := by decide +kernel
theorem dX13_size_107 : decode cX13_size 107 = .ok (.iconst 3, 1) := by decide +kernel
theorem dX13_size_108 : decode cX13_size 108 = .ok (.if_icmp .ne 11, 3) := by decide +kernel
theorem dX13_size_111 : decode cX13_size 111 = .ok (.lload 6, 2) := by decide +kernel
theorem dX13_size_113 : decode cX13_size 113 = .ok (.invokestatic 221, 3) := by decide +kernel
theorem dX13_size_116 : decode cX13_size 116 = .ok (.ifCond .ne 17, 3) := by decide +kernel
theorem dX13_size_119 : decode cX13_size 119 = .ok (.iload_n 2, 1) := by decide +kernel
theorem dX13_size_120 : decode cX13_size 120 = .ok (.iconst 4, 1) := by decide +kernel
theorem dX13_size_121 : decode cX13_size 121 = .ok (.if_icmp .ne 16, 3) := by decide +kernel
theorem dX13_size_124 : decode cX13_size 124 = .ok (.lload 6, 2) := by decide +kernel
theorem dX13_size_126 : decode cX13_size 126 = .ok (.ldc2_w 124, 3) := by decide +kernel
theorem dX13_size_129 : decode cX13_size 129 = .ok (.lcmp, 1) := by decide +kernel
theorem dX13_size_130 : decode cX13_size 130 = .ok (.ifCond .ne 7, 3) := by decide +kernel
theorem dX13_size_133 : decode cX13_size 133 = .ok (.iconst 1, 1) := by decide +kernel
theorem dX13_size_134 : decode cX13_size 134 = .ok (.goto 4, 3) := by decide +kernel
theorem dX13_size_137 : decode cX13_size 137 = .ok (.iconst 0, 1) := by decide +kernel
theorem dX13_size_138 : decode cX13_size 138 = .ok (.iadd, 1) := by decide +kernel
theorem dX13_size_139 : decode cX13_size 139 = .ok (.istore_n 3, 1) := by decide +kernel
theorem dX13_size_140 : decode cX13_size 140 = .ok (.iinc 5 1, 3) := by decide +kernel
theorem dX13_size_143 : decode cX13_size 143 = .ok (.goto (-76), 3) := by decide +kernel
theorem dX13_size_146 : decode cX13_size 146 = .ok (.iinc 4 1, 3) := by decide +kernel
theorem dX13_size_149 : decode cX13_size 149 = .ok (.goto (-96), 3) := by decide +kernel
theorem dX13_size_152 : decode cX13_size 152 = .ok (.iload_n 3, 1) := by decide +kernel
theorem dX13_size_153 : decode cX13_size 153 = .ok (.ireturn, 1) := by decide +kernel
theorem dX13_cell_0 : decode cX13_cell 0 = .ok (.iload_n 1, 1) := by decide +kernel
theorem dX13_cell_1 : decode cX13_cell 1 = .ok (.invokestatic 315, 3) := by decide +kernel
theorem dX13_cell_4 : decode cX13_cell 4 = .ok (.ifCond .eq 53, 3) := by decide +kernel
theorem dX13_cell_7 : decode cX13_cell 7 = .ok (.iload_n 2, 1) := by decide +kernel
theorem dX13_cell_8 : decode cX13_cell 8 = .ok (.i2l, 1) := by decide +kernel
theorem dX13_cell_9 : decode cX13_cell 9 = .ok (.lconst 0, 1) := by decide +kernel
theorem dX13_cell_10 : decode cX13_cell 10 = .ok (.aload_n 0, 1) := by decide +kernel
theorem dX13_cell_11 : decode cX13_cell 11 = .ok (.getfield 9, 3) := by decide +kernel
theorem dX13_cell_14 : decode cX13_cell 14 = .ok (.iload_n 1, 1) := by decide +kernel
theorem dX13_cell_15 : decode cX13_cell 15 = .ok (.iaload, 1) := by decide +kernel
theorem dX13_cell_16 : decode cX13_cell 16 = .ok (.i2l, 1) := by decide +kernel
theorem dX13_cell_17 : decode cX13_cell 17 = .ok (.lconst 1, 1) := by decide +kernel
theorem dX13_cell_18 : decode cX13_cell 18 = .ok (.lsub, 1) := by decide +kernel
theorem dX13_cell_19 : decode cX13_cell 19 = .ok (.invokestatic 113, 3) := by decide +kernel
theorem dX13_cell_22 : decode cX13_cell 22 = .ok (.ifCond .eq 35, 3) := by decide +kernel
theorem dX13_cell_25 : decode cX13_cell 25 = .ok (.iload_n 3, 1) := by decide +kernel
theorem dX13_cell_26 : decode cX13_cell 26 = .ok (.i2l, 1) := by decide +kernel
theorem dX13_cell_27 : decode cX13_cell 27 = .ok (.lconst 0, 1) := by decide +kernel
theorem dX13_cell_28 : decode cX13_cell 28 = .ok (.aload_n 0, 1) := by decide +kernel
theorem dX13_cell_29 : decode cX13_cell 29 = .ok (.getfield 13, 3) := by decide +kernel
theorem dX13_cell_32 : decode cX13_cell 32 = .ok (.iload_n 1, 1) := by decide +kernel
theorem dX13_cell_33 : decode cX13_cell 33 = .ok (.iaload, 1) := by decide +kernel
theorem dX13_cell_34 : decode cX13_cell 34 = .ok (.i2l, 1) := by decide +kernel
theorem dX13_cell_35 : decode cX13_cell 35 = .ok (.lconst 1, 1) := by decide +kernel
theorem dX13_cell_36 : decode cX13_cell 36 = .ok (.lsub, 1) := by decide +kernel
theorem dX13_cell_37 : decode cX13_cell 37 = .ok (.invokestatic 113, 3) := by decide +kernel
theorem dX13_cell_40 : decode cX13_cell 40 = .ok (.ifCond .eq 17, 3) := by decide +kernel
theorem dX13_cell_43 : decode cX13_cell 43 = .ok (.aload_n 0, 1) := by decide +kernel
theorem dX13_cell_44 : decode cX13_cell 44 = .ok (.getfield 16, 3) := by decide +kernel
theorem dX13_cell_47 : decode cX13_cell 47 = .ok (.iload_n 1, 1) := by decide +kernel
theorem dX13_cell_48 : decode cX13_cell 48 = .ok (.iload_n 2, 1) := by decide +kernel
theorem dX13_cell_49 : decode cX13_cell 49 = .ok (.iload_n 3, 1) := by decide +kernel
theorem dX13_cell_50 : decode cX13_cell 50 = .ok (.invokestatic 120, 3) := by decide +kernel
theorem dX13_cell_53 : decode cX13_cell 53 = .ok (.laload, 1) := by decide +kernel
theorem dX13_cell_54 : decode cX13_cell 54 = .ok (.goto 6, 3) := by decide +kernel
theorem dX13_cell_57 : decode cX13_cell 57 = .ok (.ldc2_w 331, 3) := by decide +kernel
theorem dX13_cell_60 : decode cX13_cell 60 = .ok (.lreturn, 1) := by decide +kernel
theorem dX13_copy_0 : decode cX13_copy 0 = .ok (.iload_n 1, 1) := by decide +kernel
theorem dX13_copy_1 : decode cX13_copy 1 = .ok (.invokestatic 315, 3) := by decide +kernel
theorem dX13_copy_4 : decode cX13_copy 4 = .ok (.ifCond .eq 10, 3) := by decide +kernel
theorem dX13_copy_7 : decode cX13_copy 7 = .ok (.iload_n 2, 1) := by decide +kernel
theorem dX13_copy_8 : decode cX13_copy 8 = .ok (.invokestatic 315, 3) := by decide +kernel
theorem dX13_copy_11 : decode cX13_copy 11 = .ok (.ifCond .ne 6, 3) := by decide +kernel
theorem dX13_copy_14 : decode cX13_copy 14 = .ok (.bipush (-2), 2) := by decide +kernel
theorem dX13_copy_16 : decode cX13_copy 16 = .ok (.ireturn, 1) := by decide +kernel
theorem dX13_copy_17 : decode cX13_copy 17 = .ok (.aload_n 0, 1) := by decide +kernel
theorem dX13_copy_18 : decode cX13_copy 18 = .ok (.iload_n 2, 1) := by decide +kernel
theorem dX13_copy_19 : decode cX13_copy 19 = .ok (.iload_n 1, 1) := by decide +kernel
theorem dX13_copy_20 : decode cX13_copy 20 = .ok (.invokevirtual 196, 3) := by decide +kernel
theorem dX13_copy_23 : decode cX13_copy 23 = .ok (.aload_n 0, 1) := by decide +kernel
theorem dX13_copy_24 : decode cX13_copy 24 = .ok (.getfield 9, 3) := by decide +kernel
theorem dX13_copy_27 : decode cX13_copy 27 = .ok (.iload_n 2, 1) := by decide +kernel
theorem dX13_copy_28 : decode cX13_copy 28 = .ok (.iaload, 1) := by decide +kernel
theorem dX13_copy_29 : decode cX13_copy 29 = .ok (.ireturn, 1) := by decide +kernel
theorem dX13_fit_0 : decode cX13_fit 0 = .ok (.aload_n 0, 1) := by decide +kernel
theorem dX13_fit_1 : decode cX13_fit 1 = .ok (.getfield 9, 3) := by decide +kernel
theorem dX13_fit_4 : decode cX13_fit 4 = .ok (.iload_n 1, 1) := by decide +kernel
theorem dX13_fit_5 : decode cX13_fit 5 = .ok (.iaload, 1) := by decide +kernel
theorem dX13_fit_6 : decode cX13_fit 6 = .ok (.aload_n 0, 1) := by decide +kernel
theorem dX13_fit_7 : decode cX13_fit 7 = .ok (.getfield 9, 3) := by decide +kernel
theorem dX13_fit_10 : decode cX13_fit 10 = .ok (.iload_n 2, 1) := by decide +kernel
theorem dX13_fit_11 : decode cX13_fit 11 = .ok (.iaload, 1) := by decide +kernel
theorem dX13_fit_12 : decode cX13_fit 12 = .ok (.if_icmp .ne 18, 3) := by decide +kernel
theorem dX13_fit_15 : decode cX13_fit 15 = .ok (.aload_n 0, 1) := by decide +kernel
theorem dX13_fit_16 : decode cX13_fit 16 = .ok (.getfield 13, 3) := by decide +kernel
theorem dX13_fit_19 : decode cX13_fit 19 = .ok (.iload_n 1, 1) := by decide +kernel
theorem dX13_fit_20 : decode cX13_fit 20 = .ok (.iaload, 1) := by decide +kernel
theorem dX13_fit_21 : decode cX13_fit 21 = .ok (.aload_n 0, 1) := by decide +kernel
theorem dX13_fit_22 : decode cX13_fit 22 = .ok (.getfield 13, 3) := by decide +kernel
theorem dX13_fit_25 : decode cX13_fit 25 = .ok (.iload_n 2, 1) := by decide +kernel
theorem dX13_fit_26 : decode cX13_fit 26 = .ok (.iaload, 1) := by decide +kernel
theorem dX13_fit_27 : decode cX13_fit 27 = .ok (.if_icmp .eq 5, 3) := by decide +kernel
theorem dX13_fit_30 : decode cX13_fit 30 = .ok (.iconst 0, 1) := by decide +kernel
theorem dX13_fit_31 : decode cX13_fit 31 = .ok (.ireturn, 1) := by decide +kernel
theorem dX13_fit_32 : decode cX13_fit 32 = .ok (.iconst 0, 1) := by decide +kernel
theorem dX13_fit_33 : decode cX13_fit 33 = .ok (.istore 4, 2) := by decide +kernel
theorem dX13_fit_35 : decode cX13_fit 35 = .ok (.iload 4, 2) := by decide +kernel
theorem dX13_fit_37 : decode cX13_fit 37 = .ok (.aload_n 0, 1) := by decide +kernel
theorem dX13_fit_38 : decode cX13_fit 38 = .ok (.getfield 9, 3) := by decide +kernel
theorem dX13_fit_41 : decode cX13_fit 41 = .ok (.iload_n 1, 1) := by decide +kernel
theorem dX13_fit_42 : decode cX13_fit 42 = .ok (.iaload, 1) := by decide +kernel
theorem dX13_fit_43 : decode cX13_fit 43 = .ok (.if_icmp .ge 91, 3) := by decide +kernel
theorem dX13_fit_46 : decode cX13_fit 46 = .ok (.iconst 0, 1) := by decide +kernel
theorem dX13_fit_47 : decode cX13_fit 47 = .ok (.istore 5, 2) := by decide +kernel
theorem dX13_fit_49 : decode cX13_fit 49 = .ok (.iload 5, 2) := by decide +kernel
theorem dX13_fit_51 : decode cX13_fit 51 = .ok (.aload_n 0, 1) := by decide +kernel
theorem dX13_fit_52 : decode cX13_fit 52 = .ok (.getfield 13, 3) := by decide +kernel
theorem dX13_fit_55 : decode cX13_fit 55 = .ok (.iload_n 1, 1) := by decide +kernel
theorem dX13_fit_56 : decode cX13_fit 56 = .ok (.iaload, 1) := by decide +kernel
theorem dX13_fit_57 : decode cX13_fit 57 = .ok (.if_icmp .ge 71, 3) := by decide +kernel
theorem dX13_fit_60 : decode cX13_fit 60 = .ok (.aload_n 0, 1) := by decide +kernel
theorem dX13_fit_61 : decode cX13_fit 61 = .ok (.getfield 16, 3) := by decide +kernel
theorem dX13_fit_64 : decode cX13_fit 64 = .ok (.iload_n 1, 1) := by decide +kernel
theorem dX13_fit_65 : decode cX13_fit 65 = .ok (.iload 4, 2) := by decide +kernel
theorem dX13_fit_67 : decode cX13_fit 67 = .ok (.iload 5, 2) := by decide +kernel
theorem dX13_fit_69 : decode cX13_fit 69 = .ok (.invokestatic 120, 3) := by decide +kernel
theorem dX13_fit_72 : decode cX13_fit 72 = .ok (.laload, 1) := by decide +kernel
theorem dX13_fit_73 : decode cX13_fit 73 = .ok (.lstore 6, 2) := by decide +kernel
theorem dX13_fit_75 : decode cX13_fit 75 = .ok (.aload_n 0, 1) := by decide +kernel
theorem dX13_fit_76 : decode cX13_fit 76 = .ok (.getfield 16, 3) := by decide +kernel
theorem dX13_fit_79 : decode cX13_fit 79 = .ok (.iload_n 2, 1) := by decide +kernel
theorem dX13_fit_80 : decode cX13_fit 80 = .ok (.iload 4, 2) := by decide +kernel
theorem dX13_fit_82 : decode cX13_fit 82 = .ok (.iload 5, 2) := by decide +kernel
theorem dX13_fit_84 : decode cX13_fit 84 = .ok (.invokestatic 120, 3) := by decide +kernel
theorem dX13_fit_87 : decode cX13_fit 87 = .ok (.laload, 1) := by decide +kernel
theorem dX13_fit_88 : decode cX13_fit 88 = .ok (.lstore 8, 2) := by decide +kernel
theorem dX13_fit_90 : decode cX13_fit 90 = .ok (.lload 6, 2) := by decide +kernel
theorem dX13_fit_92 : decode cX13_fit 92 = .ok (.lload 8, 2) := by decide +kernel
theorem dX13_fit_94 : decode cX13_fit 94 = .ok (.lcmp, 1) := by decide +kernel
theorem dX13_fit_95 : decode cX13_fit 95 = .ok (.ifCond .eq 27, 3) := by decide +kernel
theorem dX13_fit_98 : decode cX13_fit 98 = .ok (.iload_n 3, 1) := by decide +kernel
theorem dX13_fit_99 : decode cX13_fit 99 = .ok (.ifCond .eq 21, 3) := by decide +kernel
theorem dX13_fit_102 : decode cX13_fit 102 = .ok (.lload 6, 2) := by decide +kernel
theorem dX13_fit_104 : decode cX13_fit 104 = .ok (.ldc2_w 124, 3) := by decide +kernel
theorem dX13_fit_107 : decode cX13_fit 107 = .ok (.lcmp, 1) := by decide +kernel
theorem dX13_fit_108 : decode cX13_fit 108 = .ok (.ifCond .eq 14, 3) := by decide +kernel
theorem dX13_fit_111 : decode cX13_fit 111 = .ok (.lload 8, 2) := by decide +kernel
theorem dX13_fit_113 : decode cX13_fit 113 = .ok (.ldc2_w 124, 3) := by decide +kernel
theorem dX13_fit_116 : decode cX13_fit 116 = .ok (.lcmp, 1) := by decide +kernel
theorem dX13_fit_117 : decode cX13_fit 117 = .ok (.ifCond .eq 5, 3) := by decide +kernel
theorem dX13_fit_120 : decode cX13_fit 120 = .ok (.iconst 0, 1) := by decide +kernel
theorem dX13_fit_121 : decode cX13_fit 121 = .ok (.ireturn, 1) := by decide +kernel
theorem dX13_fit_122 : decode cX13_fit 122 = .ok (.iinc 5 1, 3) := by decide +kernel
