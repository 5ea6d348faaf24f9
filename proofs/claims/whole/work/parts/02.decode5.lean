theorem dX7_layLeast_172 : decode cX7_layLeast 172 = .ok (.idiv, 1) := by decide +kernel
theorem dX7_layLeast_173 : decode cX7_layLeast 173 = .ok (.iload 11, 2) := by decide +kernel
theorem dX7_layLeast_175 : decode cX7_layLeast 175 = .ok (.iconst 2, 1) := by decide +kernel
theorem dX7_layLeast_176 : decode cX7_layLeast 176 = .ok (.idiv, 1) := by decide +kernel
theorem dX7_layLeast_177 : decode cX7_layLeast 177 = .ok (.iconst 2, 1) := by decide +kernel
theorem dX7_layLeast_178 : decode cX7_layLeast 178 = .ok (.irem, 1) := by decide +kernel
theorem dX7_layLeast_179 : decode cX7_layLeast 179 = .ok (.iload_n 1, 1) := by decide +kernel
theorem dX7_layLeast_180 : decode cX7_layLeast 180 = .ok (.iload_n 2, 1) := by decide +kernel
theorem dX7_layLeast_181 : decode cX7_layLeast 181 = .ok (.invokevirtual 193, 3) := by decide +kernel
theorem dX7_layLeast_184 : decode cX7_layLeast 184 = .ok (.iload 4, 2) := by decide +kernel
theorem dX7_layLeast_186 : decode cX7_layLeast 186 = .ok (.if_icmp .ne 15, 3) := by decide +kernel
theorem dX7_layLeast_189 : decode cX7_layLeast 189 = .ok (.iconst 1, 1) := by decide +kernel
theorem dX7_layLeast_190 : decode cX7_layLeast 190 = .ok (.istore 10, 2) := by decide +kernel
theorem dX7_layLeast_192 : decode cX7_layLeast 192 = .ok (.aload_n 0, 1) := by decide +kernel
theorem dX7_layLeast_193 : decode cX7_layLeast 193 = .ok (.getfield 44, 3) := by decide +kernel
theorem dX7_layLeast_196 : decode cX7_layLeast 196 = .ok (.iload 9, 2) := by decide +kernel
theorem dX7_layLeast_198 : decode cX7_layLeast 198 = .ok (.iload 11, 2) := by decide +kernel
theorem dX7_layLeast_200 : decode cX7_layLeast 200 = .ok (.iastore, 1) := by decide +kernel
theorem dX7_layLeast_201 : decode cX7_layLeast 201 = .ok (.iinc 11 1, 3) := by decide +kernel
theorem dX7_layLeast_204 : decode cX7_layLeast 204 = .ok (.goto (-121), 3) := by decide +kernel
theorem dX7_layLeast_207 : decode cX7_layLeast 207 = .ok (.iload 5, 2) := by decide +kernel
theorem dX7_layLeast_209 : decode cX7_layLeast 209 = .ok (.istore 8, 2) := by decide +kernel
theorem dX7_layLeast_211 : decode cX7_layLeast 211 = .ok (.aload_n 0, 1) := by decide +kernel
theorem dX7_layLeast_212 : decode cX7_layLeast 212 = .ok (.getfield 44, 3) := by decide +kernel
theorem dX7_layLeast_215 : decode cX7_layLeast 215 = .ok (.iload 9, 2) := by decide +kernel
theorem dX7_layLeast_217 : decode cX7_layLeast 217 = .ok (.iaload, 1) := by decide +kernel
theorem dX7_layLeast_218 : decode cX7_layLeast 218 = .ok (.iconst 2, 1) := by decide +kernel
theorem dX7_layLeast_219 : decode cX7_layLeast 219 = .ok (.irem, 1) := by decide +kernel
theorem dX7_layLeast_220 : decode cX7_layLeast 220 = .ok (.istore 5, 2) := by decide +kernel
theorem dX7_layLeast_222 : decode cX7_layLeast 222 = .ok (.aload_n 0, 1) := by decide +kernel
theorem dX7_layLeast_223 : decode cX7_layLeast 223 = .ok (.getfield 44, 3) := by decide +kernel
theorem dX7_layLeast_226 : decode cX7_layLeast 226 = .ok (.iload 9, 2) := by decide +kernel
theorem dX7_layLeast_228 : decode cX7_layLeast 228 = .ok (.iaload, 1) := by decide +kernel
theorem dX7_layLeast_229 : decode cX7_layLeast 229 = .ok (.iconst 4, 1) := by decide +kernel
theorem dX7_layLeast_230 : decode cX7_layLeast 230 = .ok (.idiv, 1) := by decide +kernel
theorem dX7_layLeast_231 : decode cX7_layLeast 231 = .ok (.istore 6, 2) := by decide +kernel
theorem dX7_layLeast_233 : decode cX7_layLeast 233 = .ok (.aload_n 0, 1) := by decide +kernel
theorem dX7_layLeast_234 : decode cX7_layLeast 234 = .ok (.getfield 44, 3) := by decide +kernel
theorem dX7_layLeast_237 : decode cX7_layLeast 237 = .ok (.iload 9, 2) := by decide +kernel
theorem dX7_layLeast_239 : decode cX7_layLeast 239 = .ok (.iaload, 1) := by decide +kernel
theorem dX7_layLeast_240 : decode cX7_layLeast 240 = .ok (.iconst 2, 1) := by decide +kernel
theorem dX7_layLeast_241 : decode cX7_layLeast 241 = .ok (.idiv, 1) := by decide +kernel
theorem dX7_layLeast_242 : decode cX7_layLeast 242 = .ok (.iconst 2, 1) := by decide +kernel
theorem dX7_layLeast_243 : decode cX7_layLeast 243 = .ok (.irem, 1) := by decide +kernel
theorem dX7_layLeast_244 : decode cX7_layLeast 244 = .ok (.istore 7, 2) := by decide +kernel
theorem dX7_layLeast_246 : decode cX7_layLeast 246 = .ok (.iload 4, 2) := by decide +kernel
theorem dX7_layLeast_248 : decode cX7_layLeast 248 = .ok (.iload 6, 2) := by decide +kernel
theorem dX7_layLeast_250 : decode cX7_layLeast 250 = .ok (.iload 7, 2) := by decide +kernel
theorem dX7_layLeast_252 : decode cX7_layLeast 252 = .ok (.iadd, 1) := by decide +kernel
theorem dX7_layLeast_253 : decode cX7_layLeast 253 = .ok (.iload 5, 2) := by decide +kernel
theorem dX7_layLeast_255 : decode cX7_layLeast 255 = .ok (.iadd, 1) := by decide +kernel
theorem dX7_layLeast_256 : decode cX7_layLeast 256 = .ok (.isub, 1) := by decide +kernel
theorem dX7_layLeast_257 : decode cX7_layLeast 257 = .ok (.istore 4, 2) := by decide +kernel
theorem dX7_layLeast_259 : decode cX7_layLeast 259 = .ok (.iinc 9 1, 3) := by decide +kernel
theorem dX7_layLeast_262 : decode cX7_layLeast 262 = .ok (.goto (-196), 3) := by decide +kernel
theorem dX7_layLeast_265 : decode cX7_layLeast 265 = .ok (.iload_n 3, 1) := by decide +kernel
theorem dX7_layLeast_266 : decode cX7_layLeast 266 = .ok (.ireturn, 1) := by decide +kernel
theorem dX7_areSets_0 : decode cX7_areSets 0 = .ok (.iconst 1, 1) := by decide +kernel
theorem dX7_areSets_1 : decode cX7_areSets 1 = .ok (.aload_n 0, 1) := by decide +kernel
theorem dX7_areSets_2 : decode cX7_areSets 2 = .ok (.getfield 22, 3) := by decide +kernel
theorem dX7_areSets_5 : decode cX7_areSets 5 = .ok (.iconst 3, 1) := by decide +kernel
theorem dX7_areSets_6 : decode cX7_areSets 6 = .ok (.iaload, 1) := by decide +kernel
theorem dX7_areSets_7 : decode cX7_areSets 7 = .ok (.ishl, 1) := by decide +kernel
theorem dX7_areSets_8 : decode cX7_areSets 8 = .ok (.iconst 1, 1) := by decide +kernel
theorem dX7_areSets_9 : decode cX7_areSets 9 = .ok (.isub, 1) := by decide +kernel
theorem dX7_areSets_10 : decode cX7_areSets 10 = .ok (.istore_n 3, 1) := by decide +kernel
theorem dX7_areSets_11 : decode cX7_areSets 11 = .ok (.iload_n 1, 1) := by decide +kernel
theorem dX7_areSets_12 : decode cX7_areSets 12 = .ok (.iconst 0, 1) := by decide +kernel
theorem dX7_areSets_13 : decode cX7_areSets 13 = .ok (.iload_n 3, 1) := by decide +kernel
theorem dX7_areSets_14 : decode cX7_areSets 14 = .ok (.invokestatic 55, 3) := by decide +kernel
theorem dX7_areSets_17 : decode cX7_areSets 17 = .ok (.ifCond .eq 22, 3) := by decide +kernel
theorem dX7_areSets_20 : decode cX7_areSets 20 = .ok (.iload_n 2, 1) := by decide +kernel
theorem dX7_areSets_21 : decode cX7_areSets 21 = .ok (.iconst 0, 1) := by decide +kernel
theorem dX7_areSets_22 : decode cX7_areSets 22 = .ok (.iload_n 3, 1) := by decide +kernel
theorem dX7_areSets_23 : decode cX7_areSets 23 = .ok (.invokestatic 55, 3) := by decide +kernel
theorem dX7_areSets_26 : decode cX7_areSets 26 = .ok (.ifCond .eq 13, 3) := by decide +kernel
theorem dX7_areSets_29 : decode cX7_areSets 29 = .ok (.iload_n 1, 1) := by decide +kernel
theorem dX7_areSets_30 : decode cX7_areSets 30 = .ok (.iload_n 2, 1) := by decide +kernel
theorem dX7_areSets_31 : decode cX7_areSets 31 = .ok (.iand, 1) := by decide +kernel
theorem dX7_areSets_32 : decode cX7_areSets 32 = .ok (.ifCond .ne 7, 3) := by decide +kernel
theorem dX7_areSets_35 : decode cX7_areSets 35 = .ok (.iconst 1, 1) := by decide +kernel
theorem dX7_areSets_36 : decode cX7_areSets 36 = .ok (.goto 4, 3) := by decide +kernel
theorem dX7_areSets_39 : decode cX7_areSets 39 = .ok (.iconst 0, 1) := by decide +kernel
theorem dX7_areSets_40 : decode cX7_areSets 40 = .ok (.ireturn, 1) := by decide +kernel
theorem dX7_least_0 : decode cX7_least 0 = .ok (.aload_n 0, 1) := by decide +kernel
theorem dX7_least_1 : decode cX7_least 1 = .ok (.invokevirtual 176, 3) := by decide +kernel
theorem dX7_least_4 : decode cX7_least 4 = .ok (.ifCond .ne 6, 3) := by decide +kernel
theorem dX7_least_7 : decode cX7_least 7 = .ok (.ldc 162, 2) := by decide +kernel
theorem dX7_least_9 : decode cX7_least 9 = .ok (.ireturn, 1) := by decide +kernel
theorem dX7_least_10 : decode cX7_least 10 = .ok (.aload_n 0, 1) := by decide +kernel
theorem dX7_least_11 : decode cX7_least 11 = .ok (.iload_n 1, 1) := by decide +kernel
theorem dX7_least_12 : decode cX7_least 12 = .ok (.iload_n 2, 1) := by decide +kernel
theorem dX7_least_13 : decode cX7_least 13 = .ok (.invokevirtual 201, 3) := by decide +kernel
theorem dX7_least_16 : decode cX7_least 16 = .ok (.ifCond .eq 16, 3) := by decide +kernel
theorem dX7_least_19 : decode cX7_least 19 = .ok (.iload_n 3, 1) := by decide +kernel
theorem dX7_least_20 : decode cX7_least 20 = .ok (.iconst (-1), 1) := by decide +kernel
theorem dX7_least_21 : decode cX7_least 21 = .ok (.if_icmp .eq 14, 3) := by decide +kernel
theorem dX7_least_24 : decode cX7_least 24 = .ok (.aload_n 0, 1) := by decide +kernel
theorem dX7_least_25 : decode cX7_least 25 = .ok (.iload_n 3, 1) := by decide +kernel
theorem dX7_least_26 : decode cX7_least 26 = .ok (.invokevirtual 163, 3) := by decide +kernel
theorem dX7_least_29 : decode cX7_least 29 = .ok (.ifCond .ne 6, 3) := by decide +kernel
theorem dX7_least_32 : decode cX7_least 32 = .ok (.ldc 63, 2) := by decide +kernel
theorem dX7_least_34 : decode cX7_least 34 = .ok (.ireturn, 1) := by decide +kernel
theorem dX7_least_35 : decode cX7_least 35 = .ok (.aload_n 0, 1) := by decide +kernel
theorem dX7_least_36 : decode cX7_least 36 = .ok (.iload_n 1, 1) := by decide +kernel
theorem dX7_least_37 : decode cX7_least 37 = .ok (.iload_n 2, 1) := by decide +kernel
theorem dX7_least_38 : decode cX7_least 38 = .ok (.invokevirtual 204, 3) := by decide +kernel
theorem dX7_least_41 : decode cX7_least 41 = .ok (.istore 4, 2) := by decide +kernel
theorem dX7_least_43 : decode cX7_least 43 = .ok (.iload 4, 2) := by decide +kernel
theorem dX7_least_45 : decode cX7_least 45 = .ok (.sipush 9999, 3) := by decide +kernel
theorem dX7_least_48 : decode cX7_least 48 = .ok (.if_icmp .lt 8, 3) := by decide +kernel
theorem dX7_least_51 : decode cX7_least 51 = .ok (.ldc 188, 2) := by decide +kernel
theorem dX7_least_53 : decode cX7_least 53 = .ok (.goto 18, 3) := by decide +kernel
theorem dX7_least_56 : decode cX7_least 56 = .ok (.iload_n 3, 1) := by decide +kernel
theorem dX7_least_57 : decode cX7_least 57 = .ok (.ifCond .ge 8, 3) := by decide +kernel
theorem dX7_least_60 : decode cX7_least 60 = .ok (.iload 4, 2) := by decide +kernel
theorem dX7_least_62 : decode cX7_least 62 = .ok (.goto 9, 3) := by decide +kernel
theorem dX7_least_65 : decode cX7_least 65 = .ok (.aload_n 0, 1) := by decide +kernel
theorem dX7_least_66 : decode cX7_least 66 = .ok (.getfield 44, 3) := by decide +kernel
theorem dX7_least_69 : decode cX7_least 69 = .ok (.iload_n 3, 1) := by decide +kernel
theorem dX7_least_70 : decode cX7_least 70 = .ok (.iaload, 1) := by decide +kernel
theorem dX7_least_71 : decode cX7_least 71 = .ok (.ireturn, 1) := by decide +kernel
theorem dX7_whichDoor_0 : decode cX7_whichDoor 0 = .ok (.aload_n 0, 1) := by decide +kernel
theorem dX7_whichDoor_1 : decode cX7_whichDoor 1 = .ok (.invokevirtual 176, 3) := by decide +kernel
theorem dX7_whichDoor_4 : decode cX7_whichDoor 4 = .ok (.ifCond .ne 6, 3) := by decide +kernel
theorem dX7_whichDoor_7 : decode cX7_whichDoor 7 = .ok (.ldc 162, 2) := by decide +kernel
theorem dX7_whichDoor_9 : decode cX7_whichDoor 9 = .ok (.ireturn, 1) := by decide +kernel
theorem dX7_whichDoor_10 : decode cX7_whichDoor 10 = .ok (.aload_n 0, 1) := by decide +kernel
theorem dX7_whichDoor_11 : decode cX7_whichDoor 11 = .ok (.iload_n 1, 1) := by decide +kernel
theorem dX7_whichDoor_12 : decode cX7_whichDoor 12 = .ok (.iload_n 2, 1) := by decide +kernel
theorem dX7_whichDoor_13 : decode cX7_whichDoor 13 = .ok (.invokevirtual 201, 3) := by decide +kernel
theorem dX7_whichDoor_16 : decode cX7_whichDoor 16 = .ok (.ifCond .ne 6, 3) := by decide +kernel
theorem dX7_whichDoor_19 : decode cX7_whichDoor 19 = .ok (.ldc 63, 2) := by decide +kernel
theorem dX7_whichDoor_21 : decode cX7_whichDoor 21 = .ok (.ireturn, 1) := by decide +kernel
theorem dX7_whichDoor_22 : decode cX7_whichDoor 22 = .ok (.iconst 0, 1) := by decide +kernel
theorem dX7_whichDoor_23 : decode cX7_whichDoor 23 = .ok (.istore_n 3, 1) := by decide +kernel
theorem dX7_whichDoor_24 : decode cX7_whichDoor 24 = .ok (.iload_n 3, 1) := by decide +kernel
theorem dX7_whichDoor_25 : decode cX7_whichDoor 25 = .ok (.aload_n 0, 1) := by decide +kernel
theorem dX7_whichDoor_26 : decode cX7_whichDoor 26 = .ok (.getfield 22, 3) := by decide +kernel
theorem dX7_whichDoor_29 : decode cX7_whichDoor 29 = .ok (.iconst 2, 1) := by decide +kernel
theorem dX7_whichDoor_30 : decode cX7_whichDoor 30 = .ok (.iaload, 1) := by decide +kernel
theorem dX7_whichDoor_31 : decode cX7_whichDoor 31 = .ok (.if_icmp .ge 80, 3) := by decide +kernel
theorem dX7_whichDoor_34 : decode cX7_whichDoor 34 = .ok (.iconst 0, 1) := by decide +kernel
theorem dX7_whichDoor_35 : decode cX7_whichDoor 35 = .ok (.istore 4, 2) := by decide +kernel
theorem dX7_whichDoor_37 : decode cX7_whichDoor 37 = .ok (.iconst 0, 1) := by decide +kernel
theorem dX7_whichDoor_38 : decode cX7_whichDoor 38 = .ok (.istore 5, 2) := by decide +kernel
theorem dX7_whichDoor_40 : decode cX7_whichDoor 40 = .ok (.iload 5, 2) := by decide +kernel
theorem dX7_whichDoor_42 : decode cX7_whichDoor 42 = .ok (.bipush 24, 2) := by decide +kernel
theorem dX7_whichDoor_44 : decode cX7_whichDoor 44 = .ok (.if_icmp .ge 54, 3) := by decide +kernel
theorem dX7_whichDoor_47 : decode cX7_whichDoor 47 = .ok (.iload 4, 2) := by decide +kernel
theorem dX7_whichDoor_49 : decode cX7_whichDoor 49 = .ok (.ifCond .ne 36, 3) := by decide +kernel
theorem dX7_whichDoor_52 : decode cX7_whichDoor 52 = .ok (.aload_n 0, 1) := by decide +kernel
theorem dX7_whichDoor_53 : decode cX7_whichDoor 53 = .ok (.iload_n 3, 1) := by decide +kernel
theorem dX7_whichDoor_54 : decode cX7_whichDoor 54 = .ok (.iload 5, 2) := by decide +kernel
theorem dX7_whichDoor_56 : decode cX7_whichDoor 56 = .ok (.iconst 4, 1) := by decide +kernel
theorem dX7_whichDoor_57 : decode cX7_whichDoor 57 = .ok (.idiv, 1) := by decide +kernel
theorem dX7_whichDoor_58 : decode cX7_whichDoor 58 = .ok (.iload 5, 2) := by decide +kernel
theorem dX7_whichDoor_60 : decode cX7_whichDoor 60 = .ok (.iconst 2, 1) := by decide +kernel
theorem dX7_whichDoor_61 : decode cX7_whichDoor 61 = .ok (.idiv, 1) := by decide +kernel
theorem dX7_whichDoor_62 : decode cX7_whichDoor 62 = .ok (.iconst 2, 1) := by decide +kernel
theorem dX7_whichDoor_63 : decode cX7_whichDoor 63 = .ok (.irem, 1) := by decide +kernel
theorem dX7_whichDoor_64 : decode cX7_whichDoor 64 = .ok (.iload 5, 2) := by decide +kernel
theorem dX7_whichDoor_66 : decode cX7_whichDoor 66 = .ok (.iconst 2, 1) := by decide +kernel
theorem dX7_whichDoor_67 : decode cX7_whichDoor 67 = .ok (.irem, 1) := by decide +kernel
theorem dX7_whichDoor_68 : decode cX7_whichDoor 68 = .ok (.iconst 1, 1) := by decide +kernel
theorem dX7_whichDoor_69 : decode cX7_whichDoor 69 = .ok (.if_icmp .ne 7, 3) := by decide +kernel
theorem dX7_whichDoor_72 : decode cX7_whichDoor 72 = .ok (.iconst 1, 1) := by decide +kernel
theorem dX7_whichDoor_73 : decode cX7_whichDoor 73 = .ok (.goto 4, 3) := by decide +kernel
theorem dX7_whichDoor_76 : decode cX7_whichDoor 76 = .ok (.iconst 0, 1) := by decide +kernel
theorem dX7_whichDoor_77 : decode cX7_whichDoor 77 = .ok (.iload_n 1, 1) := by decide +kernel
theorem dX7_whichDoor_78 : decode cX7_whichDoor 78 = .ok (.iload_n 2, 1) := by decide +kernel
theorem dX7_whichDoor_79 : decode cX7_whichDoor 79 = .ok (.invokevirtual 189, 3) := by decide +kernel
theorem dX7_whichDoor_82 : decode cX7_whichDoor 82 = .ok (.ifCond .eq 7, 3) := by decide +kernel
theorem dX7_whichDoor_85 : decode cX7_whichDoor 85 = .ok (.iconst 1, 1) := by decide +kernel
theorem dX7_whichDoor_86 : decode cX7_whichDoor 86 = .ok (.goto 4, 3) := by decide +kernel
theorem dX7_whichDoor_89 : decode cX7_whichDoor 89 = .ok (.iconst 0, 1) := by decide +kernel
theorem dX7_whichDoor_90 : decode cX7_whichDoor 90 = .ok (.istore 4, 2) := by decide +kernel
theorem dX7_whichDoor_92 : decode cX7_whichDoor 92 = .ok (.iinc 5 1, 3) := by decide +kernel
theorem dX7_whichDoor_95 : decode cX7_whichDoor 95 = .ok (.goto (-55), 3) := by decide +kernel
theorem dX7_whichDoor_98 : decode cX7_whichDoor 98 = .ok (.iload 4, 2) := by decide +kernel
theorem dX7_whichDoor_100 : decode cX7_whichDoor 100 = .ok (.ifCond .ne 5, 3) := by decide +kernel
theorem dX7_whichDoor_103 : decode cX7_whichDoor 103 = .ok (.iload_n 3, 1) := by decide +kernel
theorem dX7_whichDoor_104 : decode cX7_whichDoor 104 = .ok (.ireturn, 1) := by decide +kernel
theorem dX7_whichDoor_105 : decode cX7_whichDoor 105 = .ok (.iinc 3 1, 3) := by decide +kernel
theorem dX7_whichDoor_108 : decode cX7_whichDoor 108 = .ok (.goto (-84), 3) := by decide +kernel
theorem dX7_whichDoor_111 : decode cX7_whichDoor 111 = .ok (.ldc 188, 2) := by decide +kernel
theorem dX7_whichDoor_113 : decode cX7_whichDoor 113 = .ok (.ireturn, 1) := by decide +kernel
theorem dX7_who_0 : decode cX7_who 0 = .ok (.aload_n 0, 1) := by decide +kernel
theorem dX7_who_1 : decode cX7_who 1 = .ok (.iload_n 1, 1) := by decide +kernel
theorem dX7_who_2 : decode cX7_who 2 = .ok (.invokevirtual 185, 3) := by decide +kernel
theorem dX7_who_5 : decode cX7_who 5 = .ok (.ifCond .eq 21, 3) := by decide +kernel
theorem dX7_who_8 : decode cX7_who 8 = .ok (.iload_n 2, 1) := by decide +kernel
theorem dX7_who_9 : decode cX7_who 9 = .ok (.invokestatic 59, 3) := by decide +kernel
theorem dX7_who_12 : decode cX7_who 12 = .ok (.ifCond .eq 14, 3) := by decide +kernel
theorem dX7_who_15 : decode cX7_who 15 = .ok (.iload 4, 2) := by decide +kernel
theorem dX7_who_17 : decode cX7_who 17 = .ok (.iconst 1, 1) := by decide +kernel
theorem dX7_who_18 : decode cX7_who 18 = .ok (.bipush 12, 2) := by decide +kernel
theorem dX7_who_20 : decode cX7_who 20 = .ok (.invokestatic 55, 3) := by decide +kernel
theorem dX7_who_23 : decode cX7_who 23 = .ok (.ifCond .ne 6, 3) := by decide +kernel
theorem dX7_who_26 : decode cX7_who 26 = .ok (.ldc 63, 2) := by decide +kernel
theorem dX7_who_28 : decode cX7_who 28 = .ok (.ireturn, 1) := by decide +kernel
theorem dX7_who_29 : decode cX7_who 29 = .ok (.aload_n 0, 1) := by decide +kernel
theorem dX7_who_30 : decode cX7_who 30 = .ok (.getfield 7, 3) := by decide +kernel
theorem dX7_who_33 : decode cX7_who 33 = .ok (.iload_n 2, 1) := by decide +kernel
theorem dX7_who_34 : decode cX7_who 34 = .ok (.iaload, 1) := by decide +kernel
theorem dX7_who_35 : decode cX7_who 35 = .ok (.ifCond .ge 9, 3) := by decide +kernel
theorem dX7_who_38 : decode cX7_who 38 = .ok (.aload_n 0, 1) := by decide +kernel
theorem dX7_who_39 : decode cX7_who 39 = .ok (.iconst 1, 1) := by decide +kernel
theorem dX7_who_40 : decode cX7_who 40 = .ok (.invokevirtual 64, 3) := by decide +kernel
theorem dX7_who_43 : decode cX7_who 43 = .ok (.ireturn, 1) := by decide +kernel
theorem dX7_who_44 : decode cX7_who 44 = .ok (.iload_n 3, 1) := by decide +kernel
theorem dX7_who_45 : decode cX7_who 45 = .ok (.iload 4, 2) := by decide +kernel
theorem dX7_who_47 : decode cX7_who 47 = .ok (.aload_n 0, 1) := by decide +kernel
theorem dX7_who_48 : decode cX7_who 48 = .ok (.getfield 13, 3) := by decide +kernel
theorem dX7_who_51 : decode cX7_who 51 = .ok (.iload_n 2, 1) := by decide +kernel
theorem dX7_who_52 : decode cX7_who 52 = .ok (.iaload, 1) := by decide +kernel
theorem dX7_who_53 : decode cX7_who 53 = .ok (.invokestatic 71, 3) := by decide +kernel
theorem dX7_who_56 : decode cX7_who 56 = .ok (.ifCond .ne 9, 3) := by decide +kernel
theorem dX7_who_59 : decode cX7_who 59 = .ok (.aload_n 0, 1) := by decide +kernel
theorem dX7_who_60 : decode cX7_who 60 = .ok (.iconst 2, 1) := by decide +kernel
theorem dX7_who_61 : decode cX7_who 61 = .ok (.invokevirtual 64, 3) := by decide +kernel
theorem dX7_who_64 : decode cX7_who 64 = .ok (.ireturn, 1) := by decide +kernel
theorem dX7_who_65 : decode cX7_who 65 = .ok (.iconst 0, 1) := by decide +kernel
theorem dX7_who_66 : decode cX7_who 66 = .ok (.istore 5, 2) := by decide +kernel
theorem dX7_who_68 : decode cX7_who 68 = .ok (.iconst 1, 1) := by decide +kernel
theorem dX7_who_69 : decode cX7_who 69 = .ok (.istore 6, 2) := by decide +kernel
theorem dX7_who_71 : decode cX7_who 71 = .ok (.iload 6, 2) := by decide +kernel
theorem dX7_who_73 : decode cX7_who 73 = .ok (.bipush 6, 2) := by decide +kernel
theorem dX7_who_75 : decode cX7_who 75 = .ok (.if_icmp .ge 114, 3) := by decide +kernel
theorem dX7_who_78 : decode cX7_who 78 = .ok (.aload_n 0, 1) := by decide +kernel
theorem dX7_who_79 : decode cX7_who 79 = .ok (.getfield 22, 3) := by decide +kernel
theorem dX7_who_82 : decode cX7_who 82 = .ok (.iconst 0, 1) := by decide +kernel
theorem dX7_who_83 : decode cX7_who 83 = .ok (.aload_n 0, 1) := by decide +kernel
theorem dX7_who_84 : decode cX7_who 84 = .ok (.getfield 28, 3) := by decide +kernel
theorem dX7_who_87 : decode cX7_who 87 = .ok (.iconst 0, 1) := by decide +kernel
theorem dX7_who_88 : decode cX7_who 88 = .ok (.invokestatic 126, 3) := by decide +kernel
theorem dX7_who_91 : decode cX7_who 91 = .ok (.aload_n 0, 1) := by decide +kernel
theorem dX7_who_92 : decode cX7_who 92 = .ok (.getfield 28, 3) := by decide +kernel
theorem dX7_who_95 : decode cX7_who 95 = .ok (.bipush 29, 2) := by decide +kernel
theorem dX7_who_97 : decode cX7_who 97 = .ok (.iload_n 1, 1) := by decide +kernel
theorem dX7_who_98 : decode cX7_who 98 = .ok (.iadd, 1) := by decide +kernel
theorem dX7_who_99 : decode cX7_who 99 = .ok (.iload 6, 2) := by decide +kernel
theorem dX7_who_101 : decode cX7_who 101 = .ok (.iastore, 1) := by decide +kernel
theorem dX7_who_102 : decode cX7_who 102 = .ok (.iconst 1, 1) := by decide +kernel
theorem dX7_who_103 : decode cX7_who 103 = .ok (.istore 7, 2) := by decide +kernel
theorem dX7_who_105 : decode cX7_who 105 = .ok (.iconst 0, 1) := by decide +kernel
theorem dX7_who_106 : decode cX7_who 106 = .ok (.istore 8, 2) := by decide +kernel
theorem dX7_who_108 : decode cX7_who 108 = .ok (.iload 8, 2) := by decide +kernel
theorem dX7_who_110 : decode cX7_who 110 = .ok (.iload 4, 2) := by decide +kernel
theorem dX7_who_112 : decode cX7_who 112 = .ok (.if_icmp .ge 53, 3) := by decide +kernel
theorem dX7_who_115 : decode cX7_who 115 = .ok (.aload_n 0, 1) := by decide +kernel
theorem dX7_who_116 : decode cX7_who 116 = .ok (.getfield 28, 3) := by decide +kernel
theorem dX7_who_119 : decode cX7_who 119 = .ok (.invokestatic 179, 3) := by decide +kernel
theorem dX7_who_122 : decode cX7_who 122 = .ok (.iload_n 1, 1) := by decide +kernel
theorem dX7_who_123 : decode cX7_who 123 = .ok (.ishr, 1) := by decide +kernel
theorem dX7_who_124 : decode cX7_who 124 = .ok (.iconst 1, 1) := by decide +kernel
theorem dX7_who_125 : decode cX7_who 125 = .ok (.iand, 1) := by decide +kernel
theorem dX7_who_126 : decode cX7_who 126 = .ok (.istore 9, 2) := by decide +kernel
theorem dX7_who_128 : decode cX7_who 128 = .ok (.iload 7, 2) := by decide +kernel
theorem dX7_who_130 : decode cX7_who 130 = .ok (.ifCond .eq 26, 3) := by decide +kernel
theorem dX7_who_133 : decode cX7_who 133 = .ok (.aload_n 0, 1) := by decide +kernel
theorem dX7_who_134 : decode cX7_who 134 = .ok (.getfield 16, 3) := by decide +kernel
theorem dX7_who_137 : decode cX7_who 137 = .ok (.bipush 40, 2) := by decide +kernel
theorem dX7_who_139 : decode cX7_who 139 = .ok (.iload_n 2, 1) := by decide +kernel
theorem dX7_who_140 : decode cX7_who 140 = .ok (.imul, 1) := by decide +kernel
theorem dX7_who_141 : decode cX7_who 141 = .ok (.iload_n 3, 1) := by decide +kernel
theorem dX7_who_142 : decode cX7_who 142 = .ok (.iadd, 1) := by decide +kernel
theorem dX7_who_143 : decode cX7_who 143 = .ok (.iload 8, 2) := by decide +kernel
theorem dX7_who_145 : decode cX7_who 145 = .ok (.iadd, 1) := by decide +kernel
theorem dX7_who_146 : decode cX7_who 146 = .ok (.iaload, 1) := by decide +kernel
theorem dX7_who_147 : decode cX7_who 147 = .ok (.iload 9, 2) := by decide +kernel
theorem dX7_who_149 : decode cX7_who 149 = .ok (.if_icmp .ne 7, 3) := by decide +kernel
theorem dX7_who_152 : decode cX7_who 152 = .ok (.iconst 1, 1) := by decide +kernel
theorem dX7_who_153 : decode cX7_who 153 = .ok (.goto 4, 3) := by decide +kernel
theorem dX7_who_156 : decode cX7_who 156 = .ok (.iconst 0, 1) := by decide +kernel
theorem dX7_who_157 : decode cX7_who 157 = .ok (.istore 7, 2) := by decide +kernel
theorem dX7_who_159 : decode cX7_who 159 = .ok (.iinc 8 1, 3) := by decide +kernel
theorem dX7_who_162 : decode cX7_who 162 = .ok (.goto (-54), 3) := by decide +kernel
theorem dX7_who_165 : decode cX7_who 165 = .ok (.iload 5, 2) := by decide +kernel
theorem dX7_who_167 : decode cX7_who 167 = .ok (.iload 7, 2) := by decide +kernel
theorem dX7_who_169 : decode cX7_who 169 = .ok (.ifCond .eq 10, 3) := by decide +kernel
theorem dX7_who_172 : decode cX7_who 172 = .ok (.iconst 1, 1) := by decide +kernel
theorem dX7_who_173 : decode cX7_who 173 = .ok (.iload 6, 2) := by decide +kernel
theorem dX7_who_175 : decode cX7_who 175 = .ok (.ishl, 1) := by decide +kernel
theorem dX7_who_176 : decode cX7_who 176 = .ok (.goto 4, 3) := by decide +kernel
theorem dX7_who_179 : decode cX7_who 179 = .ok (.iconst 0, 1) := by decide +kernel
theorem dX7_who_180 : decode cX7_who 180 = .ok (.ior, 1) := by decide +kernel
theorem dX7_who_181 : decode cX7_who 181 = .ok (.istore 5, 2) := by decide +kernel
theorem dX7_who_183 : decode cX7_who 183 = .ok (.iinc 6 1, 3) := by decide +kernel
theorem dX7_who_186 : decode cX7_who 186 = .ok (.goto (-115), 3) := by decide +kernel
theorem dX7_who_189 : decode cX7_who 189 = .ok (.aload_n 0, 1) := by decide +kernel
theorem dX7_who_190 : decode cX7_who 190 = .ok (.iload 5, 2) := by decide +kernel
theorem dX7_who_192 : decode cX7_who 192 = .ok (.invokevirtual 68, 3) := by decide +kernel
theorem dX7_who_195 : decode cX7_who 195 = .ok (.ireturn, 1) := by decide +kernel
theorem dX7_sleeps_0 : decode cX7_sleeps 0 = .ok (.aload_n 0, 1) := by decide +kernel
theorem dX7_sleeps_1 : decode cX7_sleeps 1 = .ok (.iload_n 1, 1) := by decide +kernel
theorem dX7_sleeps_2 : decode cX7_sleeps 2 = .ok (.invokevirtual 185, 3) := by decide +kernel
theorem dX7_sleeps_5 : decode cX7_sleeps 5 = .ok (.ifCond .eq 22, 3) := by decide +kernel
theorem dX7_sleeps_8 : decode cX7_sleeps 8 = .ok (.iload_n 2, 1) := by decide +kernel
theorem dX7_sleeps_9 : decode cX7_sleeps 9 = .ok (.iconst 0, 1) := by decide +kernel
theorem dX7_sleeps_10 : decode cX7_sleeps 10 = .ok (.bipush 10, 2) := by decide +kernel
theorem dX7_sleeps_12 : decode cX7_sleeps 12 = .ok (.invokestatic 55, 3) := by decide +kernel
theorem dX7_sleeps_15 : decode cX7_sleeps 15 = .ok (.ifCond .eq 12, 3) := by decide +kernel
theorem dX7_sleeps_18 : decode cX7_sleeps 18 = .ok (.iload_n 3, 1) := by decide +kernel
theorem dX7_sleeps_19 : decode cX7_sleeps 19 = .ok (.iconst 0, 1) := by decide +kernel
theorem dX7_sleeps_20 : decode cX7_sleeps 20 = .ok (.iconst 1, 1) := by decide +kernel
theorem dX7_sleeps_21 : decode cX7_sleeps 21 = .ok (.invokestatic 55, 3) := by decide +kernel
theorem dX7_sleeps_24 : decode cX7_sleeps 24 = .ok (.ifCond .ne 7, 3) := by decide +kernel
theorem dX7_sleeps_27 : decode cX7_sleeps 27 = .ok (.ldc2_w 208, 3) := by decide +kernel
theorem dX7_sleeps_30 : decode cX7_sleeps 30 = .ok (.lreturn, 1) := by decide +kernel
theorem dX7_sleeps_31 : decode cX7_sleeps 31 = .ok (.lconst 0, 1) := by decide +kernel
theorem dX7_sleeps_32 : decode cX7_sleeps 32 = .ok (.lstore 4, 2) := by decide +kernel
theorem dX7_sleeps_34 : decode cX7_sleeps 34 = .ok (.iconst 0, 1) := by decide +kernel
theorem dX7_sleeps_35 : decode cX7_sleeps 35 = .ok (.istore 6, 2) := by decide +kernel
theorem dX7_sleeps_37 : decode cX7_sleeps 37 = .ok (.iload 6, 2) := by decide +kernel
theorem dX7_sleeps_39 : decode cX7_sleeps 39 = .ok (.iconst 1, 1) := by decide +kernel
theorem dX7_sleeps_40 : decode cX7_sleeps 40 = .ok (.aload_n 0, 1) := by decide +kernel
theorem dX7_sleeps_41 : decode cX7_sleeps 41 = .ok (.getfield 22, 3) := by decide +kernel
theorem dX7_sleeps_44 : decode cX7_sleeps 44 = .ok (.iconst 2, 1) := by decide +kernel
theorem dX7_sleeps_45 : decode cX7_sleeps 45 = .ok (.iaload, 1) := by decide +kernel
theorem dX7_sleeps_46 : decode cX7_sleeps 46 = .ok (.ishl, 1) := by decide +kernel
theorem dX7_sleeps_47 : decode cX7_sleeps 47 = .ok (.if_icmp .ge 183, 3) := by decide +kernel
theorem dX7_sleeps_50 : decode cX7_sleeps 50 = .ok (.aload_n 0, 1) := by decide +kernel
theorem dX7_sleeps_51 : decode cX7_sleeps 51 = .ok (.getfield 22, 3) := by decide +kernel
theorem dX7_sleeps_54 : decode cX7_sleeps 54 = .ok (.iconst 0, 1) := by decide +kernel
theorem dX7_sleeps_55 : decode cX7_sleeps 55 = .ok (.aload_n 0, 1) := by decide +kernel
theorem dX7_sleeps_56 : decode cX7_sleeps 56 = .ok (.getfield 28, 3) := by decide +kernel
theorem dX7_sleeps_59 : decode cX7_sleeps 59 = .ok (.iconst 0, 1) := by decide +kernel
theorem dX7_sleeps_60 : decode cX7_sleeps 60 = .ok (.invokestatic 126, 3) := by decide +kernel
theorem dX7_sleeps_63 : decode cX7_sleeps 63 = .ok (.lconst 1, 1) := by decide +kernel
theorem dX7_sleeps_64 : decode cX7_sleeps 64 = .ok (.lstore 7, 2) := by decide +kernel
theorem dX7_sleeps_66 : decode cX7_sleeps 66 = .ok (.iconst 0, 1) := by decide +kernel
theorem dX7_sleeps_67 : decode cX7_sleeps 67 = .ok (.istore 9, 2) := by decide +kernel
theorem dX7_sleeps_69 : decode cX7_sleeps 69 = .ok (.iload 9, 2) := by decide +kernel
theorem dX7_sleeps_71 : decode cX7_sleeps 71 = .ok (.aload_n 0, 1) := by decide +kernel
theorem dX7_sleeps_72 : decode cX7_sleeps 72 = .ok (.getfield 22, 3) := by decide +kernel
theorem dX7_sleeps_75 : decode cX7_sleeps 75 = .ok (.iconst 2, 1) := by decide +kernel
theorem dX7_sleeps_76 : decode cX7_sleeps 76 = .ok (.iaload, 1) := by decide +kernel
theorem dX7_sleeps_77 : decode cX7_sleeps 77 = .ok (.if_icmp .ge 125, 3) := by decide +kernel
theorem dX7_sleeps_80 : decode cX7_sleeps 80 = .ok (.iload 6, 2) := by decide +kernel
theorem dX7_sleeps_82 : decode cX7_sleeps 82 = .ok (.iload 9, 2) := by decide +kernel
theorem dX7_sleeps_84 : decode cX7_sleeps 84 = .ok (.invokestatic 159, 3) := by decide +kernel
theorem dX7_sleeps_87 : decode cX7_sleeps 87 = .ok (.istore 10, 2) := by decide +kernel
theorem dX7_sleeps_89 : decode cX7_sleeps 89 = .ok (.lload 7, 2) := by decide +kernel
theorem dX7_sleeps_91 : decode cX7_sleeps 91 = .ok (.iload 10, 2) := by decide +kernel
theorem dX7_sleeps_93 : decode cX7_sleeps 93 = .ok (.ifCond .eq 8, 3) := by decide +kernel
theorem dX7_sleeps_96 : decode cX7_sleeps 96 = .ok (.iload_n 2, 1) := by decide +kernel
theorem dX7_sleeps_97 : decode cX7_sleeps 97 = .ok (.i2l, 1) := by decide +kernel
theorem dX7_sleeps_98 : decode cX7_sleeps 98 = .ok (.goto 8, 3) := by decide +kernel
theorem dX7_sleeps_101 : decode cX7_sleeps 101 = .ok (.bipush 10, 2) := by decide +kernel
theorem dX7_sleeps_103 : decode cX7_sleeps 103 = .ok (.iload_n 2, 1) := by decide +kernel
theorem dX7_sleeps_104 : decode cX7_sleeps 104 = .ok (.isub, 1) := by decide +kernel
theorem dX7_sleeps_105 : decode cX7_sleeps 105 = .ok (.i2l, 1) := by decide +kernel
theorem dX7_sleeps_106 : decode cX7_sleeps 106 = .ok (.lmul, 1) := by decide +kernel
theorem dX7_sleeps_107 : decode cX7_sleeps 107 = .ok (.lstore 7, 2) := by decide +kernel
theorem dX7_sleeps_109 : decode cX7_sleeps 109 = .ok (.aload_n 0, 1) := by decide +kernel
theorem dX7_sleeps_110 : decode cX7_sleeps 110 = .ok (.getfield 28, 3) := by decide +kernel
theorem dX7_sleeps_113 : decode cX7_sleeps 113 = .ok (.bipush 11, 2) := by decide +kernel
theorem dX7_sleeps_115 : decode cX7_sleeps 115 = .ok (.iload 9, 2) := by decide +kernel
theorem dX7_sleeps_117 : decode cX7_sleeps 117 = .ok (.iadd, 1) := by decide +kernel
theorem dX7_sleeps_118 : decode cX7_sleeps 118 = .ok (.iload 10, 2) := by decide +kernel
theorem dX7_sleeps_120 : decode cX7_sleeps 120 = .ok (.ifCond .eq 7, 3) := by decide +kernel
theorem dX7_sleeps_123 : decode cX7_sleeps 123 = .ok (.iconst 0, 1) := by decide +kernel
theorem dX7_sleeps_124 : decode cX7_sleeps 124 = .ok (.goto 13, 3) := by decide +kernel
theorem dX7_sleeps_127 : decode cX7_sleeps 127 = .ok (.aload_n 0, 1) := by decide +kernel
theorem dX7_sleeps_128 : decode cX7_sleeps 128 = .ok (.getfield 22, 3) := by decide +kernel
theorem dX7_sleeps_131 : decode cX7_sleeps 131 = .ok (.bipush 11, 2) := by decide +kernel
theorem dX7_sleeps_133 : decode cX7_sleeps 133 = .ok (.iload 9, 2) := by decide +kernel
theorem dX7_sleeps_135 : decode cX7_sleeps 135 = .ok (.iadd, 1) := by decide +kernel
theorem dX7_sleeps_136 : decode cX7_sleeps 136 = .ok (.iaload, 1) := by decide +kernel
theorem dX7_sleeps_137 : decode cX7_sleeps 137 = .ok (.iastore, 1) := by decide +kernel
theorem dX7_sleeps_138 : decode cX7_sleeps 138 = .ok (.aload_n 0, 1) := by decide +kernel
theorem dX7_sleeps_139 : decode cX7_sleeps 139 = .ok (.getfield 28, 3) := by decide +kernel
theorem dX7_sleeps_142 : decode cX7_sleeps 142 = .ok (.bipush 17, 2) := by decide +kernel
theorem dX7_sleeps_144 : decode cX7_sleeps 144 = .ok (.iload 9, 2) := by decide +kernel
theorem dX7_sleeps_146 : decode cX7_sleeps 146 = .ok (.iadd, 1) := by decide +kernel
theorem dX7_sleeps_147 : decode cX7_sleeps 147 = .ok (.iload 10, 2) := by decide +kernel
theorem dX7_sleeps_149 : decode cX7_sleeps 149 = .ok (.ifCond .eq 7, 3) := by decide +kernel
theorem dX7_sleeps_152 : decode cX7_sleeps 152 = .ok (.iconst 0, 1) := by decide +kernel
theorem dX7_sleeps_153 : decode cX7_sleeps 153 = .ok (.goto 13, 3) := by decide +kernel
theorem dX7_sleeps_156 : decode cX7_sleeps 156 = .ok (.aload_n 0, 1) := by decide +kernel
theorem dX7_sleeps_157 : decode cX7_sleeps 157 = .ok (.getfield 22, 3) := by decide +kernel
theorem dX7_sleeps_160 : decode cX7_sleeps 160 = .ok (.bipush 17, 2) := by decide +kernel
theorem dX7_sleeps_162 : decode cX7_sleeps 162 = .ok (.iload 9, 2) := by decide +kernel
theorem dX7_sleeps_164 : decode cX7_sleeps 164 = .ok (.iadd, 1) := by decide +kernel
theorem dX7_sleeps_165 : decode cX7_sleeps 165 = .ok (.iaload, 1) := by decide +kernel
theorem dX7_sleeps_166 : decode cX7_sleeps 166 = .ok (.iastore, 1) := by decide +kernel
theorem dX7_sleeps_167 : decode cX7_sleeps 167 = .ok (.aload_n 0, 1) := by decide +kernel
theorem dX7_sleeps_168 : decode cX7_sleeps 168 = .ok (.getfield 28, 3) := by decide +kernel
theorem dX7_sleeps_171 : decode cX7_sleeps 171 = .ok (.bipush 23, 2) := by decide +kernel
theorem dX7_sleeps_173 : decode cX7_sleeps 173 = .ok (.iload 9, 2) := by decide +kernel
theorem dX7_sleeps_175 : decode cX7_sleeps 175 = .ok (.iadd, 1) := by decide +kernel
theorem dX7_sleeps_176 : decode cX7_sleeps 176 = .ok (.iload 10, 2) := by decide +kernel
theorem dX7_sleeps_178 : decode cX7_sleeps 178 = .ok (.ifCond .eq 7, 3) := by decide +kernel
theorem dX7_sleeps_181 : decode cX7_sleeps 181 = .ok (.iconst 0, 1) := by decide +kernel
theorem dX7_sleeps_182 : decode cX7_sleeps 182 = .ok (.goto 13, 3) := by decide +kernel
theorem dX7_sleeps_185 : decode cX7_sleeps 185 = .ok (.aload_n 0, 1) := by decide +kernel
theorem dX7_sleeps_186 : decode cX7_sleeps 186 = .ok (.getfield 22, 3) := by decide +kernel
theorem dX7_sleeps_189 : decode cX7_sleeps 189 = .ok (.bipush 23, 2) := by decide +kernel
theorem dX7_sleeps_191 : decode cX7_sleeps 191 = .ok (.iload 9, 2) := by decide +kernel
theorem dX7_sleeps_193 : decode cX7_sleeps 193 = .ok (.iadd, 1) := by decide +kernel
theorem dX7_sleeps_194 : decode cX7_sleeps 194 = .ok (.iaload, 1) := by decide +kernel
theorem dX7_sleeps_195 : decode cX7_sleeps 195 = .ok (.iastore, 1) := by decide +kernel
theorem dX7_sleeps_196 : decode cX7_sleeps 196 = .ok (.iinc 9 1, 3) := by decide +kernel
theorem dX7_sleeps_199 : decode cX7_sleeps 199 = .ok (.goto (-130), 3) := by decide +kernel
theorem dX7_sleeps_202 : decode cX7_sleeps 202 = .ok (.lload 4, 2) := by decide +kernel
theorem dX7_sleeps_204 : decode cX7_sleeps 204 = .ok (.aload_n 0, 1) := by decide +kernel
theorem dX7_sleeps_205 : decode cX7_sleeps 205 = .ok (.getfield 28, 3) := by decide +kernel
theorem dX7_sleeps_208 : decode cX7_sleeps 208 = .ok (.iload_n 1, 1) := by decide +kernel
theorem dX7_sleeps_209 : decode cX7_sleeps 209 = .ok (.invokestatic 152, 3) := by decide +kernel
theorem dX7_sleeps_212 : decode cX7_sleeps 212 = .ok (.ifCond .eq 8, 3) := by decide +kernel
theorem dX7_sleeps_215 : decode cX7_sleeps 215 = .ok (.lload 7, 2) := by decide +kernel
theorem dX7_sleeps_217 : decode cX7_sleeps 217 = .ok (.goto 4, 3) := by decide +kernel
theorem dX7_sleeps_220 : decode cX7_sleeps 220 = .ok (.lconst 0, 1) := by decide +kernel
theorem dX7_sleeps_221 : decode cX7_sleeps 221 = .ok (.ladd, 1) := by decide +kernel
theorem dX7_sleeps_222 : decode cX7_sleeps 222 = .ok (.lstore 4, 2) := by decide +kernel
theorem dX7_sleeps_224 : decode cX7_sleeps 224 = .ok (.iinc 6 1, 3) := by decide +kernel
theorem dX7_sleeps_227 : decode cX7_sleeps 227 = .ok (.goto (-190), 3) := by decide +kernel
theorem dX7_sleeps_230 : decode cX7_sleeps 230 = .ok (.lconst 1, 1) := by decide +kernel
theorem dX7_sleeps_231 : decode cX7_sleeps 231 = .ok (.lstore 6, 2) := by decide +kernel
theorem dX7_sleeps_233 : decode cX7_sleeps 233 = .ok (.iconst 0, 1) := by decide +kernel
theorem dX7_sleeps_234 : decode cX7_sleeps 234 = .ok (.istore 8, 2) := by decide +kernel
theorem dX7_sleeps_236 : decode cX7_sleeps 236 = .ok (.iload 8, 2) := by decide +kernel
theorem dX7_sleeps_238 : decode cX7_sleeps 238 = .ok (.aload_n 0, 1) := by decide +kernel
theorem dX7_sleeps_239 : decode cX7_sleeps 239 = .ok (.getfield 22, 3) := by decide +kernel
theorem dX7_sleeps_242 : decode cX7_sleeps 242 = .ok (.iconst 2, 1) := by decide +kernel
theorem dX7_sleeps_243 : decode cX7_sleeps 243 = .ok (.iaload, 1) := by decide +kernel
theorem dX7_sleeps_244 : decode cX7_sleeps 244 = .ok (.if_icmp .ge 17, 3) := by decide +kernel
theorem dX7_sleeps_247 : decode cX7_sleeps 247 = .ok (.lload 6, 2) := by decide +kernel
theorem dX7_sleeps_249 : decode cX7_sleeps 249 = .ok (.ldc2_w 210, 3) := by decide +kernel
theorem dX7_sleeps_252 : decode cX7_sleeps 252 = .ok (.lmul, 1) := by decide +kernel
theorem dX7_sleeps_253 : decode cX7_sleeps 253 = .ok (.lstore 6, 2) := by decide +kernel
theorem dX7_sleeps_255 : decode cX7_sleeps 255 = .ok (.iinc 8 1, 3) := by decide +kernel
theorem dX7_sleeps_258 : decode cX7_sleeps 258 = .ok (.goto (-22), 3) := by decide +kernel
theorem dX7_sleeps_261 : decode cX7_sleeps 261 = .ok (.lload 4, 2) := by decide +kernel
theorem dX7_sleeps_263 : decode cX7_sleeps 263 = .ok (.lstore 8, 2) := by decide +kernel
theorem dX7_sleeps_265 : decode cX7_sleeps 265 = .ok (.lload 6, 2) := by decide +kernel
theorem dX7_sleeps_267 : decode cX7_sleeps 267 = .ok (.lstore 10, 2) := by decide +kernel
theorem dX7_sleeps_269 : decode cX7_sleeps 269 = .ok (.lload 10, 2) := by decide +kernel
theorem dX7_sleeps_271 : decode cX7_sleeps 271 = .ok (.lconst 0, 1) := by decide +kernel
theorem dX7_sleeps_272 : decode cX7_sleeps 272 = .ok (.lcmp, 1) := by decide +kernel
theorem dX7_sleeps_273 : decode cX7_sleeps 273 = .ok (.ifCond .le 21, 3) := by decide +kernel
theorem dX7_sleeps_276 : decode cX7_sleeps 276 = .ok (.lload 8, 2) := by decide +kernel
theorem dX7_sleeps_278 : decode cX7_sleeps 278 = .ok (.lload 10, 2) := by decide +kernel
theorem dX7_sleeps_280 : decode cX7_sleeps 280 = .ok (.lrem, 1) := by decide +kernel
theorem dX7_sleeps_281 : decode cX7_sleeps 281 = .ok (.lstore 12, 2) := by decide +kernel
theorem dX7_sleeps_283 : decode cX7_sleeps 283 = .ok (.lload 10, 2) := by decide +kernel
theorem dX7_sleeps_285 : decode cX7_sleeps 285 = .ok (.lstore 8, 2) := by decide +kernel
theorem dX7_sleeps_287 : decode cX7_sleeps 287 = .ok (.lload 12, 2) := by decide +kernel
theorem dX7_sleeps_289 : decode cX7_sleeps 289 = .ok (.lstore 10, 2) := by decide +kernel
theorem dX7_sleeps_291 : decode cX7_sleeps 291 = .ok (.goto (-22), 3) := by decide +kernel
theorem dX7_sleeps_294 : decode cX7_sleeps 294 = .ok (.iload_n 3, 1) := by decide +kernel
theorem dX7_sleeps_295 : decode cX7_sleeps 295 = .ok (.ifCond .ne 8, 3) := by decide +kernel
theorem dX7_sleeps_298 : decode cX7_sleeps 298 = .ok (.lload 4, 2) := by decide +kernel
theorem dX7_sleeps_300 : decode cX7_sleeps 300 = .ok (.goto 5, 3) := by decide +kernel
theorem dX7_sleeps_303 : decode cX7_sleeps 303 = .ok (.lload 6, 2) := by decide +kernel
theorem dX7_sleeps_305 : decode cX7_sleeps 305 = .ok (.lload 8, 2) := by decide +kernel
theorem dX7_sleeps_307 : decode cX7_sleeps 307 = .ok (.ldiv, 1) := by decide +kernel
theorem dX7_sleeps_308 : decode cX7_sleeps 308 = .ok (.lreturn, 1) := by decide +kernel
theorem dX7_reaches_0 : decode cX7_reaches 0 = .ok (.aload_n 0, 1) := by decide +kernel
theorem dX7_reaches_1 : decode cX7_reaches 1 = .ok (.iload_n 1, 1) := by decide +kernel
theorem dX7_reaches_2 : decode cX7_reaches 2 = .ok (.invokevirtual 163, 3) := by decide +kernel
theorem dX7_reaches_5 : decode cX7_reaches 5 = .ok (.ifCond .eq 12, 3) := by decide +kernel
theorem dX7_reaches_8 : decode cX7_reaches 8 = .ok (.iload_n 2, 1) := by decide +kernel
theorem dX7_reaches_9 : decode cX7_reaches 9 = .ok (.iconst 0, 1) := by decide +kernel
theorem dX7_reaches_10 : decode cX7_reaches 10 = .ok (.iconst 1, 1) := by decide +kernel
theorem dX7_reaches_11 : decode cX7_reaches 11 = .ok (.invokestatic 55, 3) := by decide +kernel
theorem dX7_reaches_14 : decode cX7_reaches 14 = .ok (.ifCond .ne 6, 3) := by decide +kernel
theorem dX7_reaches_17 : decode cX7_reaches 17 = .ok (.ldc 63, 2) := by decide +kernel
theorem dX7_reaches_19 : decode cX7_reaches 19 = .ok (.ireturn, 1) := by decide +kernel
theorem dX7_reaches_20 : decode cX7_reaches 20 = .ok (.aload_n 0, 1) := by decide +kernel
theorem dX7_reaches_21 : decode cX7_reaches 21 = .ok (.getfield 22, 3) := by decide +kernel
theorem dX7_reaches_24 : decode cX7_reaches 24 = .ok (.iconst 0, 1) := by decide +kernel
theorem dX7_reaches_25 : decode cX7_reaches 25 = .ok (.aload_n 0, 1) := by decide +kernel
theorem dX7_reaches_26 : decode cX7_reaches 26 = .ok (.getfield 28, 3) := by decide +kernel
theorem dX7_reaches_29 : decode cX7_reaches 29 = .ok (.iconst 0, 1) := by decide +kernel
theorem dX7_reaches_30 : decode cX7_reaches 30 = .ok (.invokestatic 126, 3) := by decide +kernel
theorem dX7_reaches_33 : decode cX7_reaches 33 = .ok (.aload_n 0, 1) := by decide +kernel
theorem dX7_reaches_34 : decode cX7_reaches 34 = .ok (.getfield 28, 3) := by decide +kernel
theorem dX7_reaches_37 : decode cX7_reaches 37 = .ok (.bipush 17, 2) := by decide +kernel
theorem dX7_reaches_39 : decode cX7_reaches 39 = .ok (.iload_n 1, 1) := by decide +kernel
theorem dX7_reaches_40 : decode cX7_reaches 40 = .ok (.iadd, 1) := by decide +kernel
theorem dX7_reaches_41 : decode cX7_reaches 41 = .ok (.iconst 0, 1) := by decide +kernel
theorem dX7_reaches_42 : decode cX7_reaches 42 = .ok (.iastore, 1) := by decide +kernel
theorem dX7_reaches_43 : decode cX7_reaches 43 = .ok (.aload_n 0, 1) := by decide +kernel
theorem dX7_reaches_44 : decode cX7_reaches 44 = .ok (.getfield 28, 3) := by decide +kernel
theorem dX7_reaches_47 : decode cX7_reaches 47 = .ok (.bipush 23, 2) := by decide +kernel
theorem dX7_reaches_49 : decode cX7_reaches 49 = .ok (.iload_n 1, 1) := by decide +kernel
theorem dX7_reaches_50 : decode cX7_reaches 50 = .ok (.iadd, 1) := by decide +kernel
theorem dX7_reaches_51 : decode cX7_reaches 51 = .ok (.iconst 0, 1) := by decide +kernel
theorem dX7_reaches_52 : decode cX7_reaches 52 = .ok (.iastore, 1) := by decide +kernel
theorem dX7_reaches_53 : decode cX7_reaches 53 = .ok (.iconst 0, 1) := by decide +kernel
theorem dX7_reaches_54 : decode cX7_reaches 54 = .ok (.istore_n 3, 1) := by decide +kernel
theorem dX7_reaches_55 : decode cX7_reaches 55 = .ok (.iconst 0, 1) := by decide +kernel
theorem dX7_reaches_56 : decode cX7_reaches 56 = .ok (.istore 4, 2) := by decide +kernel
theorem dX7_reaches_58 : decode cX7_reaches 58 = .ok (.iload 4, 2) := by decide +kernel
theorem dX7_reaches_60 : decode cX7_reaches 60 = .ok (.aload_n 0, 1) := by decide +kernel
theorem dX7_reaches_61 : decode cX7_reaches 61 = .ok (.getfield 22, 3) := by decide +kernel
theorem dX7_reaches_64 : decode cX7_reaches 64 = .ok (.iconst 2, 1) := by decide +kernel
theorem dX7_reaches_65 : decode cX7_reaches 65 = .ok (.iaload, 1) := by decide +kernel
theorem dX7_reaches_66 : decode cX7_reaches 66 = .ok (.if_icmp .ge 34, 3) := by decide +kernel
theorem dX7_reaches_69 : decode cX7_reaches 69 = .ok (.iload_n 3, 1) := by decide +kernel
theorem dX7_reaches_70 : decode cX7_reaches 70 = .ok (.iload 4, 2) := by decide +kernel
theorem dX7_reaches_72 : decode cX7_reaches 72 = .ok (.iload_n 1, 1) := by decide +kernel
theorem dX7_reaches_73 : decode cX7_reaches 73 = .ok (.iconst 1, 1) := by decide +kernel
theorem dX7_reaches_74 : decode cX7_reaches 74 = .ok (.isub, 1) := by decide +kernel
theorem dX7_reaches_75 : decode cX7_reaches 75 = .ok (.iload_n 1, 1) := by decide +kernel
theorem dX7_reaches_76 : decode cX7_reaches 76 = .ok (.iconst 1, 1) := by decide +kernel
theorem dX7_reaches_77 : decode cX7_reaches 77 = .ok (.iadd, 1) := by decide +kernel
theorem dX7_reaches_78 : decode cX7_reaches 78 = .ok (.invokestatic 55, 3) := by decide +kernel
theorem dX7_reaches_81 : decode cX7_reaches 81 = .ok (.ifCond .eq 10, 3) := by decide +kernel
theorem dX7_reaches_84 : decode cX7_reaches 84 = .ok (.iconst 1, 1) := by decide +kernel
theorem dX7_reaches_85 : decode cX7_reaches 85 = .ok (.iload 4, 2) := by decide +kernel
theorem dX7_reaches_87 : decode cX7_reaches 87 = .ok (.ishl, 1) := by decide +kernel
theorem dX7_reaches_88 : decode cX7_reaches 88 = .ok (.goto 4, 3) := by decide +kernel
theorem dX7_reaches_91 : decode cX7_reaches 91 = .ok (.iconst 0, 1) := by decide +kernel
theorem dX7_reaches_92 : decode cX7_reaches 92 = .ok (.ior, 1) := by decide +kernel
theorem dX7_reaches_93 : decode cX7_reaches 93 = .ok (.istore_n 3, 1) := by decide +kernel
theorem dX7_reaches_94 : decode cX7_reaches 94 = .ok (.iinc 4 1, 3) := by decide +kernel
theorem dX7_reaches_97 : decode cX7_reaches 97 = .ok (.goto (-39), 3) := by decide +kernel
theorem dX7_reaches_100 : decode cX7_reaches 100 = .ok (.iload_n 2, 1) := by decide +kernel
theorem dX7_reaches_101 : decode cX7_reaches 101 = .ok (.ifCond .ne 7, 3) := by decide +kernel
theorem dX7_reaches_104 : decode cX7_reaches 104 = .ok (.iload_n 3, 1) := by decide +kernel
theorem dX7_reaches_105 : decode cX7_reaches 105 = .ok (.goto 18, 3) := by decide +kernel
theorem dX7_reaches_108 : decode cX7_reaches 108 = .ok (.aload_n 0, 1) := by decide +kernel
theorem dX7_reaches_109 : decode cX7_reaches 109 = .ok (.getfield 22, 3) := by decide +kernel
theorem dX7_reaches_112 : decode cX7_reaches 112 = .ok (.invokestatic 155, 3) := by decide +kernel
theorem dX7_reaches_115 : decode cX7_reaches 115 = .ok (.aload_n 0, 1) := by decide +kernel
theorem dX7_reaches_116 : decode cX7_reaches 116 = .ok (.getfield 28, 3) := by decide +kernel
theorem dX7_reaches_119 : decode cX7_reaches 119 = .ok (.invokestatic 155, 3) := by decide +kernel
theorem dX7_reaches_122 : decode cX7_reaches 122 = .ok (.ixor, 1) := by decide +kernel
theorem dX7_reaches_123 : decode cX7_reaches 123 = .ok (.ireturn, 1) := by decide +kernel
theorem dX7_rather_0 : decode cX7_rather 0 = .ok (.iload_n 1, 1) := by decide +kernel
theorem dX7_rather_1 : decode cX7_rather 1 = .ok (.invokestatic 59, 3) := by decide +kernel
theorem dX7_rather_4 : decode cX7_rather 4 = .ok (.ifCond .eq 12, 3) := by decide +kernel
theorem dX7_rather_7 : decode cX7_rather 7 = .ok (.iload_n 3, 1) := by decide +kernel
theorem dX7_rather_8 : decode cX7_rather 8 = .ok (.iconst 0, 1) := by decide +kernel
theorem dX7_rather_9 : decode cX7_rather 9 = .ok (.iconst 1, 1) := by decide +kernel
theorem dX7_rather_10 : decode cX7_rather 10 = .ok (.invokestatic 55, 3) := by decide +kernel
theorem dX7_rather_13 : decode cX7_rather 13 = .ok (.ifCond .ne 6, 3) := by decide +kernel
theorem dX7_rather_16 : decode cX7_rather 16 = .ok (.ldc 63, 2) := by decide +kernel
theorem dX7_rather_18 : decode cX7_rather 18 = .ok (.ireturn, 1) := by decide +kernel
theorem dX7_rather_19 : decode cX7_rather 19 = .ok (.aload_n 0, 1) := by decide +kernel
theorem dX7_rather_20 : decode cX7_rather 20 = .ok (.getfield 7, 3) := by decide +kernel
theorem dX7_rather_23 : decode cX7_rather 23 = .ok (.iload_n 1, 1) := by decide +kernel
theorem dX7_rather_24 : decode cX7_rather 24 = .ok (.iaload, 1) := by decide +kernel
theorem dX7_rather_25 : decode cX7_rather 25 = .ok (.ifCond .ge 9, 3) := by decide +kernel
theorem dX7_rather_28 : decode cX7_rather 28 = .ok (.aload_n 0, 1) := by decide +kernel
theorem dX7_rather_29 : decode cX7_rather 29 = .ok (.iconst 1, 1) := by decide +kernel
theorem dX7_rather_30 : decode cX7_rather 30 = .ok (.invokevirtual 64, 3) := by decide +kernel
theorem dX7_rather_33 : decode cX7_rather 33 = .ok (.ireturn, 1) := by decide +kernel
theorem dX7_rather_34 : decode cX7_rather 34 = .ok (.iload_n 2, 1) := by decide +kernel
theorem dX7_rather_35 : decode cX7_rather 35 = .ok (.bipush 8, 2) := by decide +kernel
theorem dX7_rather_37 : decode cX7_rather 37 = .ok (.aload_n 0, 1) := by decide +kernel
theorem dX7_rather_38 : decode cX7_rather 38 = .ok (.getfield 13, 3) := by decide +kernel
theorem dX7_rather_41 : decode cX7_rather 41 = .ok (.iload_n 1, 1) := by decide +kernel
theorem dX7_rather_42 : decode cX7_rather 42 = .ok (.iaload, 1) := by decide +kernel
theorem dX7_rather_43 : decode cX7_rather 43 = .ok (.invokestatic 71, 3) := by decide +kernel
theorem dX7_rather_46 : decode cX7_rather 46 = .ok (.ifCond .ne 9, 3) := by decide +kernel
theorem dX7_rather_49 : decode cX7_rather 49 = .ok (.aload_n 0, 1) := by decide +kernel
theorem dX7_rather_50 : decode cX7_rather 50 = .ok (.iconst 2, 1) := by decide +kernel
theorem dX7_rather_51 : decode cX7_rather 51 = .ok (.invokevirtual 64, 3) := by decide +kernel
theorem dX7_rather_54 : decode cX7_rather 54 = .ok (.ireturn, 1) := by decide +kernel
theorem dX7_rather_55 : decode cX7_rather 55 = .ok (.bipush 40, 2) := by decide +kernel
theorem dX7_rather_57 : decode cX7_rather 57 = .ok (.iload_n 1, 1) := by decide +kernel
theorem dX7_rather_58 : decode cX7_rather 58 = .ok (.imul, 1) := by decide +kernel
theorem dX7_rather_59 : decode cX7_rather 59 = .ok (.iload_n 2, 1) := by decide +kernel
theorem dX7_rather_60 : decode cX7_rather 60 = .ok (.iadd, 1) := by decide +kernel
theorem dX7_rather_61 : decode cX7_rather 61 = .ok (.istore 4, 2) := by decide +kernel
theorem dX7_rather_63 : decode cX7_rather 63 = .ok (.iconst 0, 1) := by decide +kernel
theorem dX7_rather_64 : decode cX7_rather 64 = .ok (.istore 5, 2) := by decide +kernel
theorem dX7_rather_66 : decode cX7_rather 66 = .ok (.iload 5, 2) := by decide +kernel
theorem dX7_rather_68 : decode cX7_rather 68 = .ok (.bipush 8, 2) := by decide +kernel
theorem dX7_rather_70 : decode cX7_rather 70 = .ok (.if_icmp .ge 32, 3) := by decide +kernel
theorem dX7_rather_73 : decode cX7_rather 73 = .ok (.aload_n 0, 1) := by decide +kernel
theorem dX7_rather_74 : decode cX7_rather 74 = .ok (.getfield 16, 3) := by decide +kernel
theorem dX7_rather_77 : decode cX7_rather 77 = .ok (.iload 4, 2) := by decide +kernel
theorem dX7_rather_79 : decode cX7_rather 79 = .ok (.iload 5, 2) := by decide +kernel
theorem dX7_rather_81 : decode cX7_rather 81 = .ok (.iadd, 1) := by decide +kernel
theorem dX7_rather_82 : decode cX7_rather 82 = .ok (.iaload, 1) := by decide +kernel
theorem dX7_rather_83 : decode cX7_rather 83 = .ok (.bipush (-20), 2) := by decide +kernel
theorem dX7_rather_85 : decode cX7_rather 85 = .ok (.bipush 20, 2) := by decide +kernel
theorem dX7_rather_87 : decode cX7_rather 87 = .ok (.invokestatic 55, 3) := by decide +kernel
theorem dX7_rather_90 : decode cX7_rather 90 = .ok (.ifCond .ne 6, 3) := by decide +kernel
theorem dX7_rather_93 : decode cX7_rather 93 = .ok (.ldc 63, 2) := by decide +kernel
theorem dX7_rather_95 : decode cX7_rather 95 = .ok (.ireturn, 1) := by decide +kernel
theorem dX7_rather_96 : decode cX7_rather 96 = .ok (.iinc 5 1, 3) := by decide +kernel
theorem dX7_rather_99 : decode cX7_rather 99 = .ok (.goto (-33), 3) := by decide +kernel
theorem dX7_rather_102 : decode cX7_rather 102 = .ok (.iconst 0, 1) := by decide +kernel
theorem dX7_rather_103 : decode cX7_rather 103 = .ok (.istore 5, 2) := by decide +kernel
theorem dX7_rather_105 : decode cX7_rather 105 = .ok (.iconst 0, 1) := by decide +kernel
theorem dX7_rather_106 : decode cX7_rather 106 = .ok (.istore 6, 2) := by decide +kernel
theorem dX7_rather_108 : decode cX7_rather 108 = .ok (.iconst 0, 1) := by decide +kernel
theorem dX7_rather_109 : decode cX7_rather 109 = .ok (.istore 7, 2) := by decide +kernel
theorem dX7_rather_111 : decode cX7_rather 111 = .ok (.iload 7, 2) := by decide +kernel
theorem dX7_rather_113 : decode cX7_rather 113 = .ok (.iconst 4, 1) := by decide +kernel
theorem dX7_rather_114 : decode cX7_rather 114 = .ok (.if_icmp .ge 138, 3) := by decide +kernel
theorem dX7_rather_117 : decode cX7_rather 117 = .ok (.iload 7, 2) := by decide +kernel
theorem dX7_rather_119 : decode cX7_rather 119 = .ok (.iconst 2, 1) := by decide +kernel
theorem dX7_rather_120 : decode cX7_rather 120 = .ok (.if_icmp .ge 10, 3) := by decide +kernel
theorem dX7_rather_123 : decode cX7_rather 123 = .ok (.iload 7, 2) := by decide +kernel
theorem dX7_rather_125 : decode cX7_rather 125 = .ok (.iconst 2, 1) := by decide +kernel
theorem dX7_rather_126 : decode cX7_rather 126 = .ok (.iadd, 1) := by decide +kernel
theorem dX7_rather_127 : decode cX7_rather 127 = .ok (.goto 7, 3) := by decide +kernel
theorem dX7_rather_130 : decode cX7_rather 130 = .ok (.iload 7, 2) := by decide +kernel
theorem dX7_rather_132 : decode cX7_rather 132 = .ok (.iconst 2, 1) := by decide +kernel
theorem dX7_rather_133 : decode cX7_rather 133 = .ok (.isub, 1) := by decide +kernel
theorem dX7_rather_134 : decode cX7_rather 134 = .ok (.istore 8, 2) := by decide +kernel
theorem dX7_rather_136 : decode cX7_rather 136 = .ok (.iload 7, 2) := by decide +kernel
theorem dX7_rather_138 : decode cX7_rather 138 = .ok (.iconst 2, 1) := by decide +kernel
theorem dX7_rather_139 : decode cX7_rather 139 = .ok (.irem, 1) := by decide +kernel
theorem dX7_rather_140 : decode cX7_rather 140 = .ok (.ifCond .ne 10, 3) := by decide +kernel
theorem dX7_rather_143 : decode cX7_rather 143 = .ok (.iload 7, 2) := by decide +kernel
theorem dX7_rather_145 : decode cX7_rather 145 = .ok (.iconst 1, 1) := by decide +kernel
theorem dX7_rather_146 : decode cX7_rather 146 = .ok (.iadd, 1) := by decide +kernel
theorem dX7_rather_147 : decode cX7_rather 147 = .ok (.goto 7, 3) := by decide +kernel
theorem dX7_rather_150 : decode cX7_rather 150 = .ok (.iload 7, 2) := by decide +kernel
theorem dX7_rather_152 : decode cX7_rather 152 = .ok (.iconst 1, 1) := by decide +kernel
theorem dX7_rather_153 : decode cX7_rather 153 = .ok (.isub, 1) := by decide +kernel
theorem dX7_rather_154 : decode cX7_rather 154 = .ok (.istore 9, 2) := by decide +kernel
theorem dX7_rather_156 : decode cX7_rather 156 = .ok (.aload_n 0, 1) := by decide +kernel
theorem dX7_rather_157 : decode cX7_rather 157 = .ok (.getfield 16, 3) := by decide +kernel
theorem dX7_rather_160 : decode cX7_rather 160 = .ok (.iload 4, 2) := by decide +kernel
theorem dX7_rather_162 : decode cX7_rather 162 = .ok (.iload 7, 2) := by decide +kernel
theorem dX7_rather_164 : decode cX7_rather 164 = .ok (.iadd, 1) := by decide +kernel
theorem dX7_rather_165 : decode cX7_rather 165 = .ok (.iaload, 1) := by decide +kernel
theorem dX7_rather_166 : decode cX7_rather 166 = .ok (.aload_n 0, 1) := by decide +kernel
theorem dX7_rather_167 : decode cX7_rather 167 = .ok (.getfield 16, 3) := by decide +kernel
theorem dX7_rather_170 : decode cX7_rather 170 = .ok (.iload 4, 2) := by decide +kernel
theorem dX7_rather_172 : decode cX7_rather 172 = .ok (.iload 8, 2) := by decide +kernel
theorem dX7_rather_174 : decode cX7_rather 174 = .ok (.iadd, 1) := by decide +kernel
theorem dX7_rather_175 : decode cX7_rather 175 = .ok (.iaload, 1) := by decide +kernel
theorem dX7_rather_176 : decode cX7_rather 176 = .ok (.if_icmp .lt 34, 3) := by decide +kernel
theorem dX7_rather_179 : decode cX7_rather 179 = .ok (.aload_n 0, 1) := by decide +kernel
theorem dX7_rather_180 : decode cX7_rather 180 = .ok (.getfield 16, 3) := by decide +kernel
theorem dX7_rather_183 : decode cX7_rather 183 = .ok (.iload 4, 2) := by decide +kernel
theorem dX7_rather_185 : decode cX7_rather 185 = .ok (.iconst 4, 1) := by decide +kernel
theorem dX7_rather_186 : decode cX7_rather 186 = .ok (.iadd, 1) := by decide +kernel
theorem dX7_rather_187 : decode cX7_rather 187 = .ok (.iload 7, 2) := by decide +kernel
theorem dX7_rather_189 : decode cX7_rather 189 = .ok (.iadd, 1) := by decide +kernel
theorem dX7_rather_190 : decode cX7_rather 190 = .ok (.iaload, 1) := by decide +kernel
theorem dX7_rather_191 : decode cX7_rather 191 = .ok (.aload_n 0, 1) := by decide +kernel
theorem dX7_rather_192 : decode cX7_rather 192 = .ok (.getfield 16, 3) := by decide +kernel
theorem dX7_rather_195 : decode cX7_rather 195 = .ok (.iload 4, 2) := by decide +kernel
theorem dX7_rather_197 : decode cX7_rather 197 = .ok (.iconst 4, 1) := by decide +kernel
theorem dX7_rather_198 : decode cX7_rather 198 = .ok (.iadd, 1) := by decide +kernel
theorem dX7_rather_199 : decode cX7_rather 199 = .ok (.iload 9, 2) := by decide +kernel
theorem dX7_rather_201 : decode cX7_rather 201 = .ok (.iadd, 1) := by decide +kernel
theorem dX7_rather_202 : decode cX7_rather 202 = .ok (.iaload, 1) := by decide +kernel
theorem dX7_rather_203 : decode cX7_rather 203 = .ok (.if_icmp .lt 7, 3) := by decide +kernel
theorem dX7_rather_206 : decode cX7_rather 206 = .ok (.iconst 1, 1) := by decide +kernel
theorem dX7_rather_207 : decode cX7_rather 207 = .ok (.goto 4, 3) := by decide +kernel
theorem dX7_rather_210 : decode cX7_rather 210 = .ok (.iconst 0, 1) := by decide +kernel
theorem dX7_rather_211 : decode cX7_rather 211 = .ok (.istore 10, 2) := by decide +kernel
theorem dX7_rather_213 : decode cX7_rather 213 = .ok (.iload 5, 2) := by decide +kernel
theorem dX7_rather_215 : decode cX7_rather 215 = .ok (.iload 10, 2) := by decide +kernel
theorem dX7_rather_217 : decode cX7_rather 217 = .ok (.ifCond .eq 10, 3) := by decide +kernel
theorem dX7_rather_220 : decode cX7_rather 220 = .ok (.iconst 1, 1) := by decide +kernel
theorem dX7_rather_221 : decode cX7_rather 221 = .ok (.iload 7, 2) := by decide +kernel
theorem dX7_rather_223 : decode cX7_rather 223 = .ok (.ishl, 1) := by decide +kernel
theorem dX7_rather_224 : decode cX7_rather 224 = .ok (.goto 4, 3) := by decide +kernel
theorem dX7_rather_227 : decode cX7_rather 227 = .ok (.iconst 0, 1) := by decide +kernel
theorem dX7_rather_228 : decode cX7_rather 228 = .ok (.ior, 1) := by decide +kernel
theorem dX7_rather_229 : decode cX7_rather 229 = .ok (.istore 5, 2) := by decide +kernel
theorem dX7_rather_231 : decode cX7_rather 231 = .ok (.iload 6, 2) := by decide +kernel
theorem dX7_rather_233 : decode cX7_rather 233 = .ok (.iload 10, 2) := by decide +kernel
theorem dX7_rather_235 : decode cX7_rather 235 = .ok (.ifCond .eq 7, 3) := by decide +kernel
theorem dX7_rather_238 : decode cX7_rather 238 = .ok (.iconst 1, 1) := by decide +kernel
theorem dX7_rather_239 : decode cX7_rather 239 = .ok (.goto 4, 3) := by decide +kernel
theorem dX7_rather_242 : decode cX7_rather 242 = .ok (.iconst 0, 1) := by decide +kernel
theorem dX7_rather_243 : decode cX7_rather 243 = .ok (.iadd, 1) := by decide +kernel
theorem dX7_rather_244 : decode cX7_rather 244 = .ok (.istore 6, 2) := by decide +kernel
theorem dX7_rather_246 : decode cX7_rather 246 = .ok (.iinc 7 1, 3) := by decide +kernel
theorem dX7_rather_249 : decode cX7_rather 249 = .ok (.goto (-138), 3) := by decide +kernel
theorem dX7_rather_252 : decode cX7_rather 252 = .ok (.aload_n 0, 1) := by decide +kernel
theorem dX7_rather_253 : decode cX7_rather 253 = .ok (.iload_n 3, 1) := by decide +kernel
theorem dX7_rather_254 : decode cX7_rather 254 = .ok (.ifCond .ne 8, 3) := by decide +kernel
theorem dX7_rather_257 : decode cX7_rather 257 = .ok (.iload 6, 2) := by decide +kernel
theorem dX7_rather_259 : decode cX7_rather 259 = .ok (.goto 5, 3) := by decide +kernel
theorem dX7_rather_262 : decode cX7_rather 262 = .ok (.iload 5, 2) := by decide +kernel
theorem dX7_rather_264 : decode cX7_rather 264 = .ok (.invokevirtual 68, 3) := by decide +kernel
theorem dX7_rather_267 : decode cX7_rather 267 = .ok (.ireturn, 1) := by decide +kernel
theorem dX7_drawn_0 : decode cX7_drawn 0 = .ok (.aload_n 0, 1) := by decide +kernel
theorem dX7_drawn_1 : decode cX7_drawn 1 = .ok (.invokevirtual 176, 3) := by decide +kernel
theorem dX7_drawn_4 : decode cX7_drawn 4 = .ok (.ifCond .ne 6, 3) := by decide +kernel
theorem dX7_drawn_7 : decode cX7_drawn 7 = .ok (.ldc 162, 2) := by decide +kernel
theorem dX7_drawn_9 : decode cX7_drawn 9 = .ok (.ireturn, 1) := by decide +kernel
theorem dX7_drawn_10 : decode cX7_drawn 10 = .ok (.iload_n 1, 1) := by decide +kernel
theorem dX7_drawn_11 : decode cX7_drawn 11 = .ok (.iconst 0, 1) := by decide +kernel
theorem dX7_drawn_12 : decode cX7_drawn 12 = .ok (.bipush 60, 2) := by decide +kernel
theorem dX7_drawn_14 : decode cX7_drawn 14 = .ok (.invokestatic 55, 3) := by decide +kernel
theorem dX7_drawn_17 : decode cX7_drawn 17 = .ok (.ifCond .eq 22, 3) := by decide +kernel
theorem dX7_drawn_20 : decode cX7_drawn 20 = .ok (.iload_n 2, 1) := by decide +kernel
theorem dX7_drawn_21 : decode cX7_drawn 21 = .ok (.iconst 1, 1) := by decide +kernel
theorem dX7_drawn_22 : decode cX7_drawn 22 = .ok (.ldc 212, 2) := by decide +kernel
theorem dX7_drawn_24 : decode cX7_drawn 24 = .ok (.invokestatic 55, 3) := by decide +kernel
theorem dX7_drawn_27 : decode cX7_drawn 27 = .ok (.ifCond .eq 12, 3) := by decide +kernel
theorem dX7_drawn_30 : decode cX7_drawn 30 = .ok (.iload_n 3, 1) := by decide +kernel
theorem dX7_drawn_31 : decode cX7_drawn 31 = .ok (.iconst 0, 1) := by decide +kernel
theorem dX7_drawn_32 : decode cX7_drawn 32 = .ok (.iconst 1, 1) := by decide +kernel
theorem dX7_drawn_33 : decode cX7_drawn 33 = .ok (.invokestatic 55, 3) := by decide +kernel
theorem dX7_drawn_36 : decode cX7_drawn 36 = .ok (.ifCond .ne 6, 3) := by decide +kernel
theorem dX7_drawn_39 : decode cX7_drawn 39 = .ok (.ldc 63, 2) := by decide +kernel
theorem dX7_drawn_41 : decode cX7_drawn 41 = .ok (.ireturn, 1) := by decide +kernel
theorem dX7_drawn_42 : decode cX7_drawn 42 = .ok (.aload_n 0, 1) := by decide +kernel
theorem dX7_drawn_43 : decode cX7_drawn 43 = .ok (.getfield 22, 3) := by decide +kernel
theorem dX7_drawn_46 : decode cX7_drawn 46 = .ok (.iconst 0, 1) := by decide +kernel
theorem dX7_drawn_47 : decode cX7_drawn 47 = .ok (.aload_n 0, 1) := by decide +kernel
theorem dX7_drawn_48 : decode cX7_drawn 48 = .ok (.getfield 28, 3) := by decide +kernel
theorem dX7_drawn_51 : decode cX7_drawn 51 = .ok (.iconst 0, 1) := by decide +kernel
theorem dX7_drawn_52 : decode cX7_drawn 52 = .ok (.invokestatic 126, 3) := by decide +kernel
theorem dX7_drawn_55 : decode cX7_drawn 55 = .ok (.iload_n 2, 1) := by decide +kernel
theorem dX7_drawn_56 : decode cX7_drawn 56 = .ok (.i2l, 1) := by decide +kernel
theorem dX7_drawn_57 : decode cX7_drawn 57 = .ok (.lstore 4, 2) := by decide +kernel
theorem dX7_drawn_59 : decode cX7_drawn 59 = .ok (.iconst 0, 1) := by decide +kernel
theorem dX7_drawn_60 : decode cX7_drawn 60 = .ok (.istore 6, 2) := by decide +kernel
theorem dX7_drawn_62 : decode cX7_drawn 62 = .ok (.iconst 0, 1) := by decide +kernel
theorem dX7_drawn_63 : decode cX7_drawn 63 = .ok (.istore 7, 2) := by decide +kernel
theorem dX7_drawn_65 : decode cX7_drawn 65 = .ok (.iload 7, 2) := by decide +kernel
theorem dX7_drawn_67 : decode cX7_drawn 67 = .ok (.iload_n 1, 1) := by decide +kernel
theorem dX7_drawn_68 : decode cX7_drawn 68 = .ok (.if_icmp .ge 144, 3) := by decide +kernel
theorem dX7_drawn_71 : decode cX7_drawn 71 = .ok (.lload 4, 2) := by decide +kernel
theorem dX7_drawn_73 : decode cX7_drawn 73 = .ok (.ldc2_w 213, 3) := by decide +kernel
theorem dX7_drawn_76 : decode cX7_drawn 76 = .ok (.lmul, 1) := by decide +kernel
theorem dX7_drawn_77 : decode cX7_drawn 77 = .ok (.ldc2_w 215, 3) := by decide +kernel
theorem dX7_drawn_80 : decode cX7_drawn 80 = .ok (.lrem, 1) := by decide +kernel
theorem dX7_drawn_81 : decode cX7_drawn 81 = .ok (.lstore 4, 2) := by decide +kernel
theorem dX7_drawn_83 : decode cX7_drawn 83 = .ok (.lload 4, 2) := by decide +kernel
theorem dX7_drawn_85 : decode cX7_drawn 85 = .ok (.aload_n 0, 1) := by decide +kernel
theorem dX7_drawn_86 : decode cX7_drawn 86 = .ok (.getfield 22, 3) := by decide +kernel
theorem dX7_drawn_89 : decode cX7_drawn 89 = .ok (.iconst 2, 1) := by decide +kernel
theorem dX7_drawn_90 : decode cX7_drawn 90 = .ok (.iaload, 1) := by decide +kernel
theorem dX7_drawn_91 : decode cX7_drawn 91 = .ok (.i2l, 1) := by decide +kernel
theorem dX7_drawn_92 : decode cX7_drawn 92 = .ok (.lrem, 1) := by decide +kernel
theorem dX7_drawn_93 : decode cX7_drawn 93 = .ok (.l2i, 1) := by decide +kernel
theorem dX7_drawn_94 : decode cX7_drawn 94 = .ok (.istore 8, 2) := by decide +kernel
theorem dX7_drawn_96 : decode cX7_drawn 96 = .ok (.aload_n 0, 1) := by decide +kernel
theorem dX7_drawn_97 : decode cX7_drawn 97 = .ok (.getfield 28, 3) := by decide +kernel
theorem dX7_drawn_100 : decode cX7_drawn 100 = .ok (.bipush 11, 2) := by decide +kernel
theorem dX7_drawn_102 : decode cX7_drawn 102 = .ok (.iload 8, 2) := by decide +kernel
theorem dX7_drawn_104 : decode cX7_drawn 104 = .ok (.iadd, 1) := by decide +kernel
theorem dX7_drawn_105 : decode cX7_drawn 105 = .ok (.lload 4, 2) := by decide +kernel
theorem dX7_drawn_107 : decode cX7_drawn 107 = .ok (.ldc2_w 217, 3) := by decide +kernel
theorem dX7_drawn_110 : decode cX7_drawn 110 = .ok (.lrem, 1) := by decide +kernel
theorem dX7_drawn_111 : decode cX7_drawn 111 = .ok (.l2i, 1) := by decide +kernel
theorem dX7_drawn_112 : decode cX7_drawn 112 = .ok (.iastore, 1) := by decide +kernel
theorem dX7_drawn_113 : decode cX7_drawn 113 = .ok (.aload_n 0, 1) := by decide +kernel
theorem dX7_drawn_114 : decode cX7_drawn 114 = .ok (.getfield 28, 3) := by decide +kernel
theorem dX7_drawn_117 : decode cX7_drawn 117 = .ok (.bipush 17, 2) := by decide +kernel
theorem dX7_drawn_119 : decode cX7_drawn 119 = .ok (.iload 8, 2) := by decide +kernel
theorem dX7_drawn_121 : decode cX7_drawn 121 = .ok (.iadd, 1) := by decide +kernel
theorem dX7_drawn_122 : decode cX7_drawn 122 = .ok (.lload 4, 2) := by decide +kernel
theorem dX7_drawn_124 : decode cX7_drawn 124 = .ok (.ldc2_w 219, 3) := by decide +kernel
theorem dX7_drawn_127 : decode cX7_drawn 127 = .ok (.lrem, 1) := by decide +kernel
theorem dX7_drawn_128 : decode cX7_drawn 128 = .ok (.lconst 0, 1) := by decide +kernel
theorem dX7_drawn_129 : decode cX7_drawn 129 = .ok (.lcmp, 1) := by decide +kernel
theorem dX7_drawn_130 : decode cX7_drawn 130 = .ok (.ifCond .ne 7, 3) := by decide +kernel
theorem dX7_drawn_133 : decode cX7_drawn 133 = .ok (.iconst 1, 1) := by decide +kernel
theorem dX7_drawn_134 : decode cX7_drawn 134 = .ok (.goto 4, 3) := by decide +kernel
theorem dX7_drawn_137 : decode cX7_drawn 137 = .ok (.iconst 0, 1) := by decide +kernel
theorem dX7_drawn_138 : decode cX7_drawn 138 = .ok (.iastore, 1) := by decide +kernel
theorem dX7_drawn_139 : decode cX7_drawn 139 = .ok (.aload_n 0, 1) := by decide +kernel
theorem dX7_drawn_140 : decode cX7_drawn 140 = .ok (.getfield 28, 3) := by decide +kernel
theorem dX7_drawn_143 : decode cX7_drawn 143 = .ok (.bipush 23, 2) := by decide +kernel
theorem dX7_drawn_145 : decode cX7_drawn 145 = .ok (.iload 8, 2) := by decide +kernel
theorem dX7_drawn_147 : decode cX7_drawn 147 = .ok (.iadd, 1) := by decide +kernel
theorem dX7_drawn_148 : decode cX7_drawn 148 = .ok (.lload 4, 2) := by decide +kernel
theorem dX7_drawn_150 : decode cX7_drawn 150 = .ok (.ldc2_w 221, 3) := by decide +kernel
theorem dX7_drawn_153 : decode cX7_drawn 153 = .ok (.lrem, 1) := by decide +kernel
theorem dX7_drawn_154 : decode cX7_drawn 154 = .ok (.lconst 0, 1) := by decide +kernel
theorem dX7_drawn_155 : decode cX7_drawn 155 = .ok (.lcmp, 1) := by decide +kernel
theorem dX7_drawn_156 : decode cX7_drawn 156 = .ok (.ifCond .ne 7, 3) := by decide +kernel
theorem dX7_drawn_159 : decode cX7_drawn 159 = .ok (.iconst 1, 1) := by decide +kernel
theorem dX7_drawn_160 : decode cX7_drawn 160 = .ok (.goto 4, 3) := by decide +kernel
theorem dX7_drawn_163 : decode cX7_drawn 163 = .ok (.iconst 0, 1) := by decide +kernel
theorem dX7_drawn_164 : decode cX7_drawn 164 = .ok (.iastore, 1) := by decide +kernel
theorem dX7_drawn_165 : decode cX7_drawn 165 = .ok (.aload_n 0, 1) := by decide +kernel
theorem dX7_drawn_166 : decode cX7_drawn 166 = .ok (.getfield 28, 3) := by decide +kernel
theorem dX7_drawn_169 : decode cX7_drawn 169 = .ok (.invokestatic 179, 3) := by decide +kernel
theorem dX7_drawn_172 : decode cX7_drawn 172 = .ok (.istore 9, 2) := by decide +kernel
theorem dX7_drawn_174 : decode cX7_drawn 174 = .ok (.iconst 0, 1) := by decide +kernel
theorem dX7_drawn_175 : decode cX7_drawn 175 = .ok (.istore 10, 2) := by decide +kernel
theorem dX7_drawn_177 : decode cX7_drawn 177 = .ok (.iload 10, 2) := by decide +kernel
theorem dX7_drawn_179 : decode cX7_drawn 179 = .ok (.aload_n 0, 1) := by decide +kernel
theorem dX7_drawn_180 : decode cX7_drawn 180 = .ok (.getfield 22, 3) := by decide +kernel
theorem dX7_drawn_183 : decode cX7_drawn 183 = .ok (.iconst 3, 1) := by decide +kernel
theorem dX7_drawn_184 : decode cX7_drawn 184 = .ok (.iaload, 1) := by decide +kernel
theorem dX7_drawn_185 : decode cX7_drawn 185 = .ok (.if_icmp .ge 21, 3) := by decide +kernel
theorem dX7_drawn_188 : decode cX7_drawn 188 = .ok (.iload 6, 2) := by decide +kernel
theorem dX7_drawn_190 : decode cX7_drawn 190 = .ok (.iload 9, 2) := by decide +kernel
theorem dX7_drawn_192 : decode cX7_drawn 192 = .ok (.iload 10, 2) := by decide +kernel
theorem dX7_drawn_194 : decode cX7_drawn 194 = .ok (.ishr, 1) := by decide +kernel
theorem dX7_drawn_195 : decode cX7_drawn 195 = .ok (.iconst 1, 1) := by decide +kernel
theorem dX7_drawn_196 : decode cX7_drawn 196 = .ok (.iand, 1) := by decide +kernel
theorem dX7_drawn_197 : decode cX7_drawn 197 = .ok (.iadd, 1) := by decide +kernel
theorem dX7_drawn_198 : decode cX7_drawn 198 = .ok (.istore 6, 2) := by decide +kernel
theorem dX7_drawn_200 : decode cX7_drawn 200 = .ok (.iinc 10 1, 3) := by decide +kernel
theorem dX7_drawn_203 : decode cX7_drawn 203 = .ok (.goto (-26), 3) := by decide +kernel
theorem dX7_drawn_206 : decode cX7_drawn 206 = .ok (.iinc 7 1, 3) := by decide +kernel
theorem dX7_drawn_209 : decode cX7_drawn 209 = .ok (.goto (-144), 3) := by decide +kernel
theorem dX7_drawn_212 : decode cX7_drawn 212 = .ok (.iconst 0, 1) := by decide +kernel
theorem dX7_drawn_213 : decode cX7_drawn 213 = .ok (.istore 7, 2) := by decide +kernel
theorem dX7_drawn_215 : decode cX7_drawn 215 = .ok (.iconst 0, 1) := by decide +kernel
theorem dX7_drawn_216 : decode cX7_drawn 216 = .ok (.istore 8, 2) := by decide +kernel
theorem dX7_drawn_218 : decode cX7_drawn 218 = .ok (.iload 8, 2) := by decide +kernel
theorem dX7_drawn_220 : decode cX7_drawn 220 = .ok (.aload_n 0, 1) := by decide +kernel
theorem dX7_drawn_221 : decode cX7_drawn 221 = .ok (.getfield 22, 3) := by decide +kernel
theorem dX7_drawn_224 : decode cX7_drawn 224 = .ok (.iconst 3, 1) := by decide +kernel
theorem dX7_drawn_225 : decode cX7_drawn 225 = .ok (.iaload, 1) := by decide +kernel
theorem dX7_drawn_226 : decode cX7_drawn 226 = .ok (.if_icmp .ge 24, 3) := by decide +kernel
theorem dX7_drawn_229 : decode cX7_drawn 229 = .ok (.iload 7, 2) := by decide +kernel
theorem dX7_drawn_231 : decode cX7_drawn 231 = .ok (.aload_n 0, 1) := by decide +kernel
theorem dX7_drawn_232 : decode cX7_drawn 232 = .ok (.getfield 28, 3) := by decide +kernel
theorem dX7_drawn_235 : decode cX7_drawn 235 = .ok (.bipush 41, 2) := by decide +kernel
theorem dX7_drawn_237 : decode cX7_drawn 237 = .ok (.iload 8, 2) := by decide +kernel
theorem dX7_drawn_239 : decode cX7_drawn 239 = .ok (.iadd, 1) := by decide +kernel
theorem dX7_drawn_240 : decode cX7_drawn 240 = .ok (.iaload, 1) := by decide +kernel
theorem dX7_drawn_241 : decode cX7_drawn 241 = .ok (.iadd, 1) := by decide +kernel
theorem dX7_drawn_242 : decode cX7_drawn 242 = .ok (.istore 7, 2) := by decide +kernel
theorem dX7_drawn_244 : decode cX7_drawn 244 = .ok (.iinc 8 1, 3) := by decide +kernel
theorem dX7_drawn_247 : decode cX7_drawn 247 = .ok (.goto (-29), 3) := by decide +kernel
theorem dX7_drawn_250 : decode cX7_drawn 250 = .ok (.iload_n 3, 1) := by decide +kernel
theorem dX7_drawn_251 : decode cX7_drawn 251 = .ok (.ifCond .ne 8, 3) := by decide +kernel
theorem dX7_drawn_254 : decode cX7_drawn 254 = .ok (.iload 6, 2) := by decide +kernel
theorem dX7_drawn_256 : decode cX7_drawn 256 = .ok (.goto 5, 3) := by decide +kernel
theorem dX7_drawn_259 : decode cX7_drawn 259 = .ok (.iload 7, 2) := by decide +kernel
theorem dX7_drawn_261 : decode cX7_drawn 261 = .ok (.ireturn, 1) := by decide +kernel
theorem dX7_image_0 : decode cX7_image 0 = .ok (.iload_n 1, 1) := by decide +kernel
theorem dX7_image_1 : decode cX7_image 1 = .ok (.iconst 0, 1) := by decide +kernel
theorem dX7_image_2 : decode cX7_image 2 = .ok (.iconst 1, 1) := by decide +kernel
theorem dX7_image_3 : decode cX7_image 3 = .ok (.invokestatic 55, 3) := by decide +kernel
theorem dX7_image_6 : decode cX7_image 6 = .ok (.ifCond .ne 6, 3) := by decide +kernel
theorem dX7_image_9 : decode cX7_image 9 = .ok (.ldc 63, 2) := by decide +kernel
theorem dX7_image_11 : decode cX7_image 11 = .ok (.ireturn, 1) := by decide +kernel
theorem dX7_image_12 : decode cX7_image 12 = .ok (.aload_n 0, 1) := by decide +kernel
theorem dX7_image_13 : decode cX7_image 13 = .ok (.invokevirtual 176, 3) := by decide +kernel
theorem dX7_image_16 : decode cX7_image 16 = .ok (.ifCond .ne 6, 3) := by decide +kernel
theorem dX7_image_19 : decode cX7_image 19 = .ok (.ldc 162, 2) := by decide +kernel
theorem dX7_image_21 : decode cX7_image 21 = .ok (.ireturn, 1) := by decide +kernel
theorem dX7_image_22 : decode cX7_image 22 = .ok (.aload_n 0, 1) := by decide +kernel
theorem dX7_image_23 : decode cX7_image 23 = .ok (.getfield 22, 3) := by decide +kernel
theorem dX7_image_26 : decode cX7_image 26 = .ok (.iconst 0, 1) := by decide +kernel
theorem dX7_image_27 : decode cX7_image 27 = .ok (.aload_n 0, 1) := by decide +kernel
theorem dX7_image_28 : decode cX7_image 28 = .ok (.getfield 31, 3) := by decide +kernel
theorem dX7_image_31 : decode cX7_image 31 = .ok (.bipush 53, 2) := by decide +kernel
theorem dX7_image_33 : decode cX7_image 33 = .ok (.iload_n 1, 1) := by decide +kernel
theorem dX7_image_34 : decode cX7_image 34 = .ok (.imul, 1) := by decide +kernel
theorem dX7_image_35 : decode cX7_image 35 = .ok (.invokestatic 126, 3) := by decide +kernel
theorem dX7_image_38 : decode cX7_image 38 = .ok (.aload_n 0, 1) := by decide +kernel
theorem dX7_image_39 : decode cX7_image 39 = .ok (.getfield 34, 3) := by decide +kernel
theorem dX7_image_42 : decode cX7_image 42 = .ok (.iload_n 1, 1) := by decide +kernel
theorem dX7_image_43 : decode cX7_image 43 = .ok (.iconst 1, 1) := by decide +kernel
theorem dX7_image_44 : decode cX7_image 44 = .ok (.bastore, 1) := by decide +kernel
theorem dX7_image_45 : decode cX7_image 45 = .ok (.iconst 1, 1) := by decide +kernel
theorem dX7_image_46 : decode cX7_image 46 = .ok (.ireturn, 1) := by decide +kernel
theorem dX7_restore_0 : decode cX7_restore 0 = .ok (.iload_n 1, 1) := by decide +kernel
theorem dX7_restore_1 : decode cX7_restore 1 = .ok (.iconst 0, 1) := by decide +kernel
theorem dX7_restore_2 : decode cX7_restore 2 = .ok (.iconst 1, 1) := by decide +kernel
theorem dX7_restore_3 : decode cX7_restore 3 = .ok (.invokestatic 55, 3) := by decide +kernel
theorem dX7_restore_6 : decode cX7_restore 6 = .ok (.ifCond .ne 6, 3) := by decide +kernel
theorem dX7_restore_9 : decode cX7_restore 9 = .ok (.ldc 63, 2) := by decide +kernel
theorem dX7_restore_11 : decode cX7_restore 11 = .ok (.ireturn, 1) := by decide +kernel
theorem dX7_restore_12 : decode cX7_restore 12 = .ok (.aload_n 0, 1) := by decide +kernel
theorem dX7_restore_13 : decode cX7_restore 13 = .ok (.getfield 34, 3) := by decide +kernel
theorem dX7_restore_16 : decode cX7_restore 16 = .ok (.iload_n 1, 1) := by decide +kernel
theorem dX7_restore_17 : decode cX7_restore 17 = .ok (.baload, 1) := by decide +kernel
theorem dX7_restore_18 : decode cX7_restore 18 = .ok (.ifCond .ne 6, 3) := by decide +kernel
theorem dX7_restore_21 : decode cX7_restore 21 = .ok (.ldc 162, 2) := by decide +kernel
theorem dX7_restore_23 : decode cX7_restore 23 = .ok (.ireturn, 1) := by decide +kernel
theorem dX7_restore_24 : decode cX7_restore 24 = .ok (.aload_n 0, 1) := by decide +kernel
theorem dX7_restore_25 : decode cX7_restore 25 = .ok (.getfield 31, 3) := by decide +kernel
theorem dX7_restore_28 : decode cX7_restore 28 = .ok (.bipush 53, 2) := by decide +kernel
theorem dX7_restore_30 : decode cX7_restore 30 = .ok (.iload_n 1, 1) := by decide +kernel
theorem dX7_restore_31 : decode cX7_restore 31 = .ok (.imul, 1) := by decide +kernel
theorem dX7_restore_32 : decode cX7_restore 32 = .ok (.aload_n 0, 1) := by decide +kernel
theorem dX7_restore_33 : decode cX7_restore 33 = .ok (.getfield 22, 3) := by decide +kernel
theorem dX7_restore_36 : decode cX7_restore 36 = .ok (.iconst 0, 1) := by decide +kernel
theorem dX7_restore_37 : decode cX7_restore 37 = .ok (.invokestatic 126, 3) := by decide +kernel
theorem dX7_restore_40 : decode cX7_restore 40 = .ok (.aload_n 0, 1) := by decide +kernel
theorem dX7_restore_41 : decode cX7_restore 41 = .ok (.iconst 0, 1) := by decide +kernel
theorem dX7_restore_42 : decode cX7_restore 42 = .ok (.putfield 130, 3) := by decide +kernel
theorem dX7_restore_45 : decode cX7_restore 45 = .ok (.iconst 1, 1) := by decide +kernel
theorem dX7_restore_46 : decode cX7_restore 46 = .ok (.ireturn, 1) := by decide +kernel
theorem dX7_kindOf_0 : decode cX7_kindOf 0 = .ok (.aload_n 0, 1) := by decide +kernel
theorem dX7_kindOf_1 : decode cX7_kindOf 1 = .ok (.getfield 22, 3) := by decide +kernel
theorem dX7_kindOf_4 : decode cX7_kindOf 4 = .ok (.bipush 29, 2) := by decide +kernel
theorem dX7_kindOf_6 : decode cX7_kindOf 6 = .ok (.iload_n 1, 1) := by decide +kernel
theorem dX7_kindOf_7 : decode cX7_kindOf 7 = .ok (.iadd, 1) := by decide +kernel
theorem dX7_kindOf_8 : decode cX7_kindOf 8 = .ok (.iaload, 1) := by decide +kernel
theorem dX7_kindOf_9 : decode cX7_kindOf 9 = .ok (.ireturn, 1) := by decide +kernel
theorem dX7_kind_0 : decode cX7_kind 0 = .ok (.aload_n 0, 1) := by decide +kernel
theorem dX7_kind_1 : decode cX7_kind 1 = .ok (.iload_n 1, 1) := by decide +kernel
theorem dX7_kind_2 : decode cX7_kind 2 = .ok (.invokevirtual 185, 3) := by decide +kernel
theorem dX7_kind_5 : decode cX7_kind 5 = .ok (.ifCond .eq 11, 3) := by decide +kernel
theorem dX7_kind_8 : decode cX7_kind 8 = .ok (.aload_n 0, 1) := by decide +kernel
theorem dX7_kind_9 : decode cX7_kind 9 = .ok (.iload_n 1, 1) := by decide +kernel
theorem dX7_kind_10 : decode cX7_kind 10 = .ok (.invokevirtual 223, 3) := by decide +kernel
theorem dX7_kind_13 : decode cX7_kind 13 = .ok (.goto 5, 3) := by decide +kernel
theorem dX7_kind_16 : decode cX7_kind 16 = .ok (.ldc 63, 2) := by decide +kernel
theorem dX7_kind_18 : decode cX7_kind 18 = .ok (.ireturn, 1) := by decide +kernel
theorem dX7_parentOf_0 : decode cX7_parentOf 0 = .ok (.iload_n 0, 1) := by decide +kernel
theorem dX7_parentOf_1 : decode cX7_parentOf 1 = .ok (.iconst 1, 1) := by decide +kernel
theorem dX7_parentOf_2 : decode cX7_parentOf 2 = .ok (.if_icmp .eq 8, 3) := by decide +kernel
theorem dX7_parentOf_5 : decode cX7_parentOf 5 = .ok (.iload_n 0, 1) := by decide +kernel
theorem dX7_parentOf_6 : decode cX7_parentOf 6 = .ok (.iconst 4, 1) := by decide +kernel
theorem dX7_parentOf_7 : decode cX7_parentOf 7 = .ok (.if_icmp .ne 7, 3) := by decide +kernel
theorem dX7_parentOf_10 : decode cX7_parentOf 10 = .ok (.iconst 0, 1) := by decide +kernel
theorem dX7_parentOf_11 : decode cX7_parentOf 11 = .ok (.goto 13, 3) := by decide +kernel
theorem dX7_parentOf_14 : decode cX7_parentOf 14 = .ok (.iload_n 0, 1) := by decide +kernel
theorem dX7_parentOf_15 : decode cX7_parentOf 15 = .ok (.iconst 5, 1) := by decide +kernel
theorem dX7_parentOf_16 : decode cX7_parentOf 16 = .ok (.if_icmp .ne 7, 3) := by decide +kernel
theorem dX7_parentOf_19 : decode cX7_parentOf 19 = .ok (.iconst 4, 1) := by decide +kernel
theorem dX7_parentOf_20 : decode cX7_parentOf 20 = .ok (.goto 4, 3) := by decide +kernel
theorem dX7_parentOf_23 : decode cX7_parentOf 23 = .ok (.iconst 1, 1) := by decide +kernel
theorem dX7_parentOf_24 : decode cX7_parentOf 24 = .ok (.ireturn, 1) := by decide +kernel
theorem dX7_as_0 : decode cX7_as 0 = .ok (.aload_n 0, 1) := by decide +kernel
theorem dX7_as_1 : decode cX7_as 1 = .ok (.iload_n 1, 1) := by decide +kernel
theorem dX7_as_2 : decode cX7_as 2 = .ok (.invokevirtual 185, 3) := by decide +kernel
theorem dX7_as_5 : decode cX7_as 5 = .ok (.ifCond .eq 12, 3) := by decide +kernel
theorem dX7_as_8 : decode cX7_as 8 = .ok (.iload_n 2, 1) := by decide +kernel
theorem dX7_as_9 : decode cX7_as 9 = .ok (.iconst 0, 1) := by decide +kernel
theorem dX7_as_10 : decode cX7_as 10 = .ok (.iconst 5, 1) := by decide +kernel
theorem dX7_as_11 : decode cX7_as 11 = .ok (.invokestatic 55, 3) := by decide +kernel
theorem dX7_as_14 : decode cX7_as 14 = .ok (.ifCond .ne 6, 3) := by decide +kernel
theorem dX7_as_17 : decode cX7_as 17 = .ok (.ldc 63, 2) := by decide +kernel
theorem dX7_as_19 : decode cX7_as 19 = .ok (.ireturn, 1) := by decide +kernel
theorem dX7_as_20 : decode cX7_as 20 = .ok (.aload_n 0, 1) := by decide +kernel
theorem dX7_as_21 : decode cX7_as 21 = .ok (.iload_n 1, 1) := by decide +kernel
theorem dX7_as_22 : decode cX7_as 22 = .ok (.invokevirtual 223, 3) := by decide +kernel
theorem dX7_as_25 : decode cX7_as 25 = .ok (.istore_n 3, 1) := by decide +kernel
theorem dX7_as_26 : decode cX7_as 26 = .ok (.iload_n 2, 1) := by decide +kernel
theorem dX7_as_27 : decode cX7_as 27 = .ok (.ifCond .eq 16, 3) := by decide +kernel
theorem dX7_as_30 : decode cX7_as 30 = .ok (.iload_n 3, 1) := by decide +kernel
theorem dX7_as_31 : decode cX7_as 31 = .ok (.iload_n 2, 1) := by decide +kernel
theorem dX7_as_32 : decode cX7_as 32 = .ok (.if_icmp .eq 11, 3) := by decide +kernel
theorem dX7_as_35 : decode cX7_as 35 = .ok (.iload_n 3, 1) := by decide +kernel
theorem dX7_as_36 : decode cX7_as 36 = .ok (.invokestatic 226, 3) := by decide +kernel
theorem dX7_as_39 : decode cX7_as 39 = .ok (.iload_n 2, 1) := by decide +kernel
theorem dX7_as_40 : decode cX7_as 40 = .ok (.if_icmp .ne 7, 3) := by decide +kernel
theorem dX7_as_43 : decode cX7_as 43 = .ok (.iconst 1, 1) := by decide +kernel
theorem dX7_as_44 : decode cX7_as 44 = .ok (.goto 4, 3) := by decide +kernel
theorem dX7_as_47 : decode cX7_as 47 = .ok (.iconst 0, 1) := by decide +kernel
theorem dX7_as_48 : decode cX7_as 48 = .ok (.istore 4, 2) := by decide +kernel
theorem dX7_as_50 : decode cX7_as 50 = .ok (.iload 4, 2) := by decide +kernel
theorem dX7_as_52 : decode cX7_as 52 = .ok (.ifCond .eq 11, 3) := by decide +kernel
theorem dX7_as_55 : decode cX7_as 55 = .ok (.aload_n 0, 1) := by decide +kernel
theorem dX7_as_56 : decode cX7_as 56 = .ok (.iload_n 1, 1) := by decide +kernel
theorem dX7_as_57 : decode cX7_as 57 = .ok (.invokevirtual 68, 3) := by decide +kernel
theorem dX7_as_60 : decode cX7_as 60 = .ok (.goto 8, 3) := by decide +kernel
theorem dX7_as_63 : decode cX7_as 63 = .ok (.aload_n 0, 1) := by decide +kernel
theorem dX7_as_64 : decode cX7_as 64 = .ok (.iconst 3, 1) := by decide +kernel
theorem dX7_as_65 : decode cX7_as 65 = .ok (.invokevirtual 64, 3) := by decide +kernel
theorem dX7_as_68 : decode cX7_as 68 = .ok (.ireturn, 1) := by decide +kernel
theorem dX7_begins_0 : decode cX7_begins 0 = .ok (.aload_n 0, 1) := by decide +kernel
theorem dX7_begins_1 : decode cX7_begins 1 = .ok (.getfield 229, 3) := by decide +kernel
theorem dX7_begins_4 : decode cX7_begins 4 = .ok (.bipush 16, 2) := by decide +kernel
theorem dX7_begins_6 : decode cX7_begins 6 = .ok (.if_icmp .ge 23, 3) := by decide +kernel
theorem dX7_begins_9 : decode cX7_begins 9 = .ok (.aload_n 0, 1) := by decide +kernel
theorem dX7_begins_10 : decode cX7_begins 10 = .ok (.getfield 41, 3) := by decide +kernel
theorem dX7_begins_13 : decode cX7_begins 13 = .ok (.aload_n 0, 1) := by decide +kernel
theorem dX7_begins_14 : decode cX7_begins 14 = .ok (.getfield 229, 3) := by decide +kernel
theorem dX7_begins_17 : decode cX7_begins 17 = .ok (.iload_n 1, 1) := by decide +kernel
theorem dX7_begins_18 : decode cX7_begins 18 = .ok (.iastore, 1) := by decide +kernel
theorem dX7_begins_19 : decode cX7_begins 19 = .ok (.aload_n 0, 1) := by decide +kernel
theorem dX7_begins_20 : decode cX7_begins 20 = .ok (.dup, 1) := by decide +kernel
theorem dX7_begins_21 : decode cX7_begins 21 = .ok (.getfield 229, 3) := by decide +kernel
theorem dX7_begins_24 : decode cX7_begins 24 = .ok (.iconst 1, 1) := by decide +kernel
theorem dX7_begins_25 : decode cX7_begins 25 = .ok (.iadd, 1) := by decide +kernel
theorem dX7_begins_26 : decode cX7_begins 26 = .ok (.putfield 229, 3) := by decide +kernel
theorem dX7_begins_29 : decode cX7_begins 29 = .ok (.return_, 1) := by decide +kernel
theorem dX7_markGuest_0 : decode cX7_markGuest 0 = .ok (.aload_n 0, 1) := by decide +kernel
theorem dX7_markGuest_1 : decode cX7_markGuest 1 = .ok (.bipush 21, 2) := by decide +kernel
theorem dX7_markGuest_3 : decode cX7_markGuest 3 = .ok (.invokevirtual 232, 3) := by decide +kernel
theorem dX7_markGuest_6 : decode cX7_markGuest 6 = .ok (.aload_n 0, 1) := by decide +kernel
theorem dX7_markGuest_7 : decode cX7_markGuest 7 = .ok (.bipush 20, 2) := by decide +kernel
theorem dX7_markGuest_9 : decode cX7_markGuest 9 = .ok (.invokevirtual 232, 3) := by decide +kernel
theorem dX7_markGuest_12 : decode cX7_markGuest 12 = .ok (.iload_n 1, 1) := by decide +kernel
theorem dX7_markGuest_13 : decode cX7_markGuest 13 = .ok (.aload_n 0, 1) := by decide +kernel
theorem dX7_markGuest_14 : decode cX7_markGuest 14 = .ok (.getfield 22, 3) := by decide +kernel
theorem dX7_markGuest_17 : decode cX7_markGuest 17 = .ok (.bipush 41, 2) := by decide +kernel
theorem dX7_markGuest_19 : decode cX7_markGuest 19 = .ok (.iload_n 1, 1) := by decide +kernel
theorem dX7_markGuest_20 : decode cX7_markGuest 20 = .ok (.iadd, 1) := by decide +kernel
theorem dX7_markGuest_21 : decode cX7_markGuest 21 = .ok (.iaload, 1) := by decide +kernel
theorem dX7_markGuest_22 : decode cX7_markGuest 22 = .ok (.iadd, 1) := by decide +kernel
theorem dX7_markGuest_23 : decode cX7_markGuest 23 = .ok (.ireturn, 1) := by decide +kernel
theorem dX7_markPlain_0 : decode cX7_markPlain 0 = .ok (.aload_n 0, 1) := by decide +kernel
theorem dX7_markPlain_1 : decode cX7_markPlain 1 = .ok (.iload_n 1, 1) := by decide +kernel
theorem dX7_markPlain_2 : decode cX7_markPlain 2 = .ok (.invokevirtual 223, 3) := by decide +kernel
theorem dX7_markPlain_5 : decode cX7_markPlain 5 = .ok (.istore_n 2, 1) := by decide +kernel
theorem dX7_markPlain_6 : decode cX7_markPlain 6 = .ok (.iload_n 2, 1) := by decide +kernel
theorem dX7_markPlain_7 : decode cX7_markPlain 7 = .ok (.iconst 2, 1) := by decide +kernel
theorem dX7_markPlain_8 : decode cX7_markPlain 8 = .ok (.if_icmp .ne 17, 3) := by decide +kernel
theorem dX7_markPlain_11 : decode cX7_markPlain 11 = .ok (.aload_n 0, 1) := by decide +kernel
theorem dX7_markPlain_12 : decode cX7_markPlain 12 = .ok (.bipush 24, 2) := by decide +kernel
theorem dX7_markPlain_14 : decode cX7_markPlain 14 = .ok (.invokevirtual 232, 3) := by decide +kernel
theorem dX7_markPlain_17 : decode cX7_markPlain 17 = .ok (.iconst 2, 1) := by decide +kernel
theorem dX7_markPlain_18 : decode cX7_markPlain 18 = .ok (.aload_n 0, 1) := by decide +kernel
theorem dX7_markPlain_19 : decode cX7_markPlain 19 = .ok (.iload_n 1, 1) := by decide +kernel
theorem dX7_markPlain_20 : decode cX7_markPlain 20 = .ok (.invokevirtual 236, 3) := by decide +kernel
theorem dX7_markPlain_23 : decode cX7_markPlain 23 = .ok (.imul, 1) := by decide +kernel
theorem dX7_markPlain_24 : decode cX7_markPlain 24 = .ok (.ireturn, 1) := by decide +kernel
theorem dX7_markPlain_25 : decode cX7_markPlain 25 = .ok (.iload_n 2, 1) := by decide +kernel
theorem dX7_markPlain_26 : decode cX7_markPlain 26 = .ok (.iconst 3, 1) := by decide +kernel
theorem dX7_markPlain_27 : decode cX7_markPlain 27 = .ok (.if_icmp .ne 19, 3) := by decide +kernel
theorem dX7_markPlain_30 : decode cX7_markPlain 30 = .ok (.aload_n 0, 1) := by decide +kernel
theorem dX7_markPlain_31 : decode cX7_markPlain 31 = .ok (.bipush 22, 2) := by decide +kernel
theorem dX7_markPlain_33 : decode cX7_markPlain 33 = .ok (.invokevirtual 232, 3) := by decide +kernel
theorem dX7_markPlain_36 : decode cX7_markPlain 36 = .ok (.aload_n 0, 1) := by decide +kernel
theorem dX7_markPlain_37 : decode cX7_markPlain 37 = .ok (.iload_n 1, 1) := by decide +kernel
theorem dX7_markPlain_38 : decode cX7_markPlain 38 = .ok (.invokevirtual 236, 3) := by decide +kernel
theorem dX7_markPlain_41 : decode cX7_markPlain 41 = .ok (.sipush 1000, 3) := by decide +kernel
theorem dX7_markPlain_44 : decode cX7_markPlain 44 = .ok (.isub, 1) := by decide +kernel
theorem dX7_markPlain_45 : decode cX7_markPlain 45 = .ok (.ireturn, 1) := by decide +kernel
theorem dX7_markPlain_46 : decode cX7_markPlain 46 = .ok (.aload_n 0, 1) := by decide +kernel
theorem dX7_markPlain_47 : decode cX7_markPlain 47 = .ok (.iload_n 1, 1) := by decide +kernel
theorem dX7_markPlain_48 : decode cX7_markPlain 48 = .ok (.invokevirtual 236, 3) := by decide +kernel
theorem dX7_markPlain_51 : decode cX7_markPlain 51 = .ok (.ireturn, 1) := by decide +kernel
theorem dX7_sizePost_0 : decode cX7_sizePost 0 = .ok (.aload_n 0, 1) := by decide +kernel
theorem dX7_sizePost_1 : decode cX7_sizePost 1 = .ok (.bipush 13, 2) := by decide +kernel
theorem dX7_sizePost_3 : decode cX7_sizePost 3 = .ok (.invokevirtual 232, 3) := by decide +kernel
theorem dX7_sizePost_6 : decode cX7_sizePost 6 = .ok (.aload_n 0, 1) := by decide +kernel
theorem dX7_sizePost_7 : decode cX7_sizePost 7 = .ok (.bipush 10, 2) := by decide +kernel
theorem dX7_sizePost_9 : decode cX7_sizePost 9 = .ok (.invokevirtual 232, 3) := by decide +kernel
theorem dX7_sizePost_12 : decode cX7_sizePost 12 = .ok (.aload_n 0, 1) := by decide +kernel
theorem dX7_sizePost_13 : decode cX7_sizePost 13 = .ok (.getfield 22, 3) := by decide +kernel
theorem dX7_sizePost_16 : decode cX7_sizePost 16 = .ok (.bipush 35, 2) := by decide +kernel
theorem dX7_sizePost_18 : decode cX7_sizePost 18 = .ok (.iload_n 1, 1) := by decide +kernel
theorem dX7_sizePost_19 : decode cX7_sizePost 19 = .ok (.iadd, 1) := by decide +kernel
theorem dX7_sizePost_20 : decode cX7_sizePost 20 = .ok (.iaload, 1) := by decide +kernel
theorem dX7_sizePost_21 : decode cX7_sizePost 21 = .ok (.bipush 100, 2) := by decide +kernel
theorem dX7_sizePost_23 : decode cX7_sizePost 23 = .ok (.isub, 1) := by decide +kernel
theorem dX7_sizePost_24 : decode cX7_sizePost 24 = .ok (.ireturn, 1) := by decide +kernel
theorem dX7_sizeOf_0 : decode cX7_sizeOf 0 = .ok (.aload_n 0, 1) := by decide +kernel
theorem dX7_sizeOf_1 : decode cX7_sizeOf 1 = .ok (.iload_n 1, 1) := by decide +kernel
theorem dX7_sizeOf_2 : decode cX7_sizeOf 2 = .ok (.invokevirtual 223, 3) := by decide +kernel
theorem dX7_sizeOf_5 : decode cX7_sizeOf 5 = .ok (.istore_n 2, 1) := by decide +kernel
theorem dX7_sizeOf_6 : decode cX7_sizeOf 6 = .ok (.iload_n 2, 1) := by decide +kernel
theorem dX7_sizeOf_7 : decode cX7_sizeOf 7 = .ok (.iconst 5, 1) := by decide +kernel
theorem dX7_sizeOf_8 : decode cX7_sizeOf 8 = .ok (.if_icmp .ne 17, 3) := by decide +kernel
theorem dX7_sizeOf_11 : decode cX7_sizeOf 11 = .ok (.aload_n 0, 1) := by decide +kernel
theorem dX7_sizeOf_12 : decode cX7_sizeOf 12 = .ok (.bipush 14, 2) := by decide +kernel
theorem dX7_sizeOf_14 : decode cX7_sizeOf 14 = .ok (.invokevirtual 232, 3) := by decide +kernel
theorem dX7_sizeOf_17 : decode cX7_sizeOf 17 = .ok (.iconst 2, 1) := by decide +kernel
theorem dX7_sizeOf_18 : decode cX7_sizeOf 18 = .ok (.aload_n 0, 1) := by decide +kernel
theorem dX7_sizeOf_19 : decode cX7_sizeOf 19 = .ok (.iload_n 1, 1) := by decide +kernel
theorem dX7_sizeOf_20 : decode cX7_sizeOf 20 = .ok (.invokevirtual 239, 3) := by decide +kernel
theorem dX7_sizeOf_23 : decode cX7_sizeOf 23 = .ok (.imul, 1) := by decide +kernel
theorem dX7_sizeOf_24 : decode cX7_sizeOf 24 = .ok (.ireturn, 1) := by decide +kernel
theorem dX7_sizeOf_25 : decode cX7_sizeOf 25 = .ok (.iload_n 2, 1) := by decide +kernel
theorem dX7_sizeOf_26 : decode cX7_sizeOf 26 = .ok (.iconst 4, 1) := by decide +kernel
theorem dX7_sizeOf_27 : decode cX7_sizeOf 27 = .ok (.if_icmp .ne 9, 3) := by decide +kernel
theorem dX7_sizeOf_30 : decode cX7_sizeOf 30 = .ok (.aload_n 0, 1) := by decide +kernel
theorem dX7_sizeOf_31 : decode cX7_sizeOf 31 = .ok (.iload_n 1, 1) := by decide +kernel
theorem dX7_sizeOf_32 : decode cX7_sizeOf 32 = .ok (.invokevirtual 239, 3) := by decide +kernel
theorem dX7_sizeOf_35 : decode cX7_sizeOf 35 = .ok (.ireturn, 1) := by decide +kernel
theorem dX7_sizeOf_36 : decode cX7_sizeOf 36 = .ok (.iload_n 2, 1) := by decide +kernel
theorem dX7_sizeOf_37 : decode cX7_sizeOf 37 = .ok (.iconst 2, 1) := by decide +kernel
theorem dX7_sizeOf_38 : decode cX7_sizeOf 38 = .ok (.if_icmp .ne 9, 3) := by decide +kernel
theorem dX7_sizeOf_41 : decode cX7_sizeOf 41 = .ok (.aload_n 0, 1) := by decide +kernel
theorem dX7_sizeOf_42 : decode cX7_sizeOf 42 = .ok (.bipush 12, 2) := by decide +kernel
theorem dX7_sizeOf_44 : decode cX7_sizeOf 44 = .ok (.invokevirtual 232, 3) := by decide +kernel
theorem dX7_sizeOf_47 : decode cX7_sizeOf 47 = .ok (.aload_n 0, 1) := by decide +kernel
theorem dX7_sizeOf_48 : decode cX7_sizeOf 48 = .ok (.bipush 11, 2) := by decide +kernel
theorem dX7_sizeOf_50 : decode cX7_sizeOf 50 = .ok (.invokevirtual 232, 3) := by decide +kernel
theorem dX7_sizeOf_53 : decode cX7_sizeOf 53 = .ok (.aload_n 0, 1) := by decide +kernel
theorem dX7_sizeOf_54 : decode cX7_sizeOf 54 = .ok (.bipush 10, 2) := by decide +kernel
theorem dX7_sizeOf_56 : decode cX7_sizeOf 56 = .ok (.invokevirtual 232, 3) := by decide +kernel
theorem dX7_sizeOf_59 : decode cX7_sizeOf 59 = .ok (.aload_n 0, 1) := by decide +kernel
theorem dX7_sizeOf_60 : decode cX7_sizeOf 60 = .ok (.getfield 22, 3) := by decide +kernel
theorem dX7_sizeOf_63 : decode cX7_sizeOf 63 = .ok (.bipush 35, 2) := by decide +kernel
theorem dX7_sizeOf_65 : decode cX7_sizeOf 65 = .ok (.iload_n 1, 1) := by decide +kernel
theorem dX7_sizeOf_66 : decode cX7_sizeOf 66 = .ok (.iadd, 1) := by decide +kernel
theorem dX7_sizeOf_67 : decode cX7_sizeOf 67 = .ok (.iaload, 1) := by decide +kernel
theorem dX7_sizeOf_68 : decode cX7_sizeOf 68 = .ok (.aload_n 0, 1) := by decide +kernel
theorem dX7_sizeOf_69 : decode cX7_sizeOf 69 = .ok (.iload_n 1, 1) := by decide +kernel
theorem dX7_sizeOf_70 : decode cX7_sizeOf 70 = .ok (.invokevirtual 242, 3) := by decide +kernel
theorem dX7_sizeOf_73 : decode cX7_sizeOf 73 = .ok (.iadd, 1) := by decide +kernel
theorem dX7_sizeOf_74 : decode cX7_sizeOf 74 = .ok (.istore_n 3, 1) := by decide +kernel
theorem dX7_sizeOf_75 : decode cX7_sizeOf 75 = .ok (.iload_n 2, 1) := by decide +kernel
theorem dX7_sizeOf_76 : decode cX7_sizeOf 76 = .ok (.iconst 2, 1) := by decide +kernel
theorem dX7_sizeOf_77 : decode cX7_sizeOf 77 = .ok (.if_icmp .ne 8, 3) := by decide +kernel
theorem dX7_sizeOf_80 : decode cX7_sizeOf 80 = .ok (.iload_n 3, 1) := by decide +kernel
theorem dX7_sizeOf_81 : decode cX7_sizeOf 81 = .ok (.ineg, 1) := by decide +kernel
theorem dX7_sizeOf_82 : decode cX7_sizeOf 82 = .ok (.goto 4, 3) := by decide +kernel
theorem dX7_sizeOf_85 : decode cX7_sizeOf 85 = .ok (.iload_n 3, 1) := by decide +kernel
theorem dX7_sizeOf_86 : decode cX7_sizeOf 86 = .ok (.ireturn, 1) := by decide +kernel
theorem dX7_markOf_0 : decode cX7_markOf 0 = .ok (.aload_n 0, 1) := by decide +kernel
theorem dX7_markOf_1 : decode cX7_markOf 1 = .ok (.iload_n 1, 1) := by decide +kernel
theorem dX7_markOf_2 : decode cX7_markOf 2 = .ok (.invokevirtual 223, 3) := by decide +kernel
theorem dX7_markOf_5 : decode cX7_markOf 5 = .ok (.iconst 4, 1) := by decide +kernel
theorem dX7_markOf_6 : decode cX7_markOf 6 = .ok (.if_icmp .ge 9, 3) := by decide +kernel
theorem dX7_markOf_9 : decode cX7_markOf 9 = .ok (.aload_n 0, 1) := by decide +kernel
theorem dX7_markOf_10 : decode cX7_markOf 10 = .ok (.iload_n 1, 1) := by decide +kernel
theorem dX7_markOf_11 : decode cX7_markOf 11 = .ok (.invokevirtual 242, 3) := by decide +kernel
theorem dX7_markOf_14 : decode cX7_markOf 14 = .ok (.ireturn, 1) := by decide +kernel
theorem dX7_markOf_15 : decode cX7_markOf 15 = .ok (.aload_n 0, 1) := by decide +kernel
theorem dX7_markOf_16 : decode cX7_markOf 16 = .ok (.bipush 23, 2) := by decide +kernel
theorem dX7_markOf_18 : decode cX7_markOf 18 = .ok (.invokevirtual 232, 3) := by decide +kernel
theorem dX7_markOf_21 : decode cX7_markOf 21 = .ok (.aload_n 0, 1) := by decide +kernel
theorem dX7_markOf_22 : decode cX7_markOf 22 = .ok (.bipush 20, 2) := by decide +kernel
theorem dX7_markOf_24 : decode cX7_markOf 24 = .ok (.invokevirtual 232, 3) := by decide +kernel
theorem dX7_markOf_27 : decode cX7_markOf 27 = .ok (.iload_n 1, 1) := by decide +kernel
theorem dX7_markOf_28 : decode cX7_markOf 28 = .ok (.aload_n 0, 1) := by decide +kernel
theorem dX7_markOf_29 : decode cX7_markOf 29 = .ok (.iload_n 1, 1) := by decide +kernel
theorem dX7_markOf_30 : decode cX7_markOf 30 = .ok (.invokevirtual 245, 3) := by decide +kernel
theorem dX7_markOf_33 : decode cX7_markOf 33 = .ok (.isub, 1) := by decide +kernel
theorem dX7_markOf_34 : decode cX7_markOf 34 = .ok (.ireturn, 1) := by decide +kernel
theorem dX7_ask_0 : decode cX7_ask 0 = .ok (.aload_n 0, 1) := by decide +kernel
theorem dX7_ask_1 : decode cX7_ask 1 = .ok (.iload_n 1, 1) := by decide +kernel
theorem dX7_ask_2 : decode cX7_ask 2 = .ok (.invokevirtual 185, 3) := by decide +kernel
theorem dX7_ask_5 : decode cX7_ask 5 = .ok (.ifCond .eq 12, 3) := by decide +kernel
theorem dX7_ask_8 : decode cX7_ask 8 = .ok (.iload_n 2, 1) := by decide +kernel
theorem dX7_ask_9 : decode cX7_ask 9 = .ok (.iconst 0, 1) := by decide +kernel
theorem dX7_ask_10 : decode cX7_ask 10 = .ok (.iconst 1, 1) := by decide +kernel
theorem dX7_ask_11 : decode cX7_ask 11 = .ok (.invokestatic 55, 3) := by decide +kernel
theorem dX7_ask_14 : decode cX7_ask 14 = .ok (.ifCond .ne 6, 3) := by decide +kernel
theorem dX7_ask_17 : decode cX7_ask 17 = .ok (.ldc 63, 2) := by decide +kernel
theorem dX7_ask_19 : decode cX7_ask 19 = .ok (.ireturn, 1) := by decide +kernel
theorem dX7_ask_20 : decode cX7_ask 20 = .ok (.aload_n 0, 1) := by decide +kernel
theorem dX7_ask_21 : decode cX7_ask 21 = .ok (.iconst 0, 1) := by decide +kernel
theorem dX7_ask_22 : decode cX7_ask 22 = .ok (.putfield 229, 3) := by decide +kernel
theorem dX7_ask_25 : decode cX7_ask 25 = .ok (.iload_n 2, 1) := by decide +kernel
theorem dX7_ask_26 : decode cX7_ask 26 = .ok (.ifCond .ne 11, 3) := by decide +kernel
theorem dX7_ask_29 : decode cX7_ask 29 = .ok (.aload_n 0, 1) := by decide +kernel
theorem dX7_ask_30 : decode cX7_ask 30 = .ok (.iload_n 1, 1) := by decide +kernel
theorem dX7_ask_31 : decode cX7_ask 31 = .ok (.invokevirtual 245, 3) := by decide +kernel
theorem dX7_ask_34 : decode cX7_ask 34 = .ok (.goto 8, 3) := by decide +kernel
theorem dX7_ask_37 : decode cX7_ask 37 = .ok (.aload_n 0, 1) := by decide +kernel
theorem dX7_ask_38 : decode cX7_ask 38 = .ok (.iload_n 1, 1) := by decide +kernel
theorem dX7_ask_39 : decode cX7_ask 39 = .ok (.invokevirtual 248, 3) := by decide +kernel
theorem dX7_ask_42 : decode cX7_ask 42 = .ok (.ireturn, 1) := by decide +kernel
theorem dX7_trace_0 : decode cX7_trace 0 = .ok (.iload_n 1, 1) := by decide +kernel
theorem dX7_trace_1 : decode cX7_trace 1 = .ok (.iconst 0, 1) := by decide +kernel
theorem dX7_trace_2 : decode cX7_trace 2 = .ok (.aload_n 0, 1) := by decide +kernel
theorem dX7_trace_3 : decode cX7_trace 3 = .ok (.getfield 229, 3) := by decide +kernel
theorem dX7_trace_6 : decode cX7_trace 6 = .ok (.iconst 1, 1) := by decide +kernel
theorem dX7_trace_7 : decode cX7_trace 7 = .ok (.isub, 1) := by decide +kernel
theorem dX7_trace_8 : decode cX7_trace 8 = .ok (.invokestatic 55, 3) := by decide +kernel
theorem dX7_trace_11 : decode cX7_trace 11 = .ok (.ifCond .eq 12, 3) := by decide +kernel
theorem dX7_trace_14 : decode cX7_trace 14 = .ok (.aload_n 0, 1) := by decide +kernel
theorem dX7_trace_15 : decode cX7_trace 15 = .ok (.getfield 41, 3) := by decide +kernel
theorem dX7_trace_18 : decode cX7_trace 18 = .ok (.iload_n 1, 1) := by decide +kernel
theorem dX7_trace_19 : decode cX7_trace 19 = .ok (.iaload, 1) := by decide +kernel
theorem dX7_trace_20 : decode cX7_trace 20 = .ok (.goto 5, 3) := by decide +kernel
theorem dX7_trace_23 : decode cX7_trace 23 = .ok (.ldc 188, 2) := by decide +kernel
theorem dX7_trace_25 : decode cX7_trace 25 = .ok (.ireturn, 1) := by decide +kernel
theorem dX7_count_0 : decode cX7_count 0 = .ok (.iconst 0, 1) := by decide +kernel
theorem dX7_count_1 : decode cX7_count 1 = .ok (.istore_n 2, 1) := by decide +kernel
theorem dX7_count_2 : decode cX7_count 2 = .ok (.iconst 0, 1) := by decide +kernel
theorem dX7_count_3 : decode cX7_count 3 = .ok (.istore_n 3, 1) := by decide +kernel
theorem dX7_count_4 : decode cX7_count 4 = .ok (.iload_n 3, 1) := by decide +kernel
theorem dX7_count_5 : decode cX7_count 5 = .ok (.bipush 8, 2) := by decide +kernel
theorem dX7_count_7 : decode cX7_count 7 = .ok (.if_icmp .ge 26, 3) := by decide +kernel
theorem dX7_count_10 : decode cX7_count 10 = .ok (.iload_n 2, 1) := by decide +kernel
theorem dX7_count_11 : decode cX7_count 11 = .ok (.aload_n 0, 1) := by decide +kernel
theorem dX7_count_12 : decode cX7_count 12 = .ok (.getfield 7, 3) := by decide +kernel
theorem dX7_count_15 : decode cX7_count 15 = .ok (.iload_n 3, 1) := by decide +kernel
theorem dX7_count_16 : decode cX7_count 16 = .ok (.iaload, 1) := by decide +kernel
theorem dX7_count_17 : decode cX7_count 17 = .ok (.ifCond .ge 7, 3) := by decide +kernel
theorem dX7_count_20 : decode cX7_count 20 = .ok (.iconst 0, 1) := by decide +kernel
theorem dX7_count_21 : decode cX7_count 21 = .ok (.goto 4, 3) := by decide +kernel
theorem dX7_count_24 : decode cX7_count 24 = .ok (.iconst 1, 1) := by decide +kernel
theorem dX7_count_25 : decode cX7_count 25 = .ok (.iadd, 1) := by decide +kernel
theorem dX7_count_26 : decode cX7_count 26 = .ok (.istore_n 2, 1) := by decide +kernel
theorem dX7_count_27 : decode cX7_count 27 = .ok (.iinc 3 1, 3) := by decide +kernel
theorem dX7_count_30 : decode cX7_count 30 = .ok (.goto (-26), 3) := by decide +kernel
theorem dX7_count_33 : decode cX7_count 33 = .ok (.iconst 0, 1) := by decide +kernel
theorem dX7_count_34 : decode cX7_count 34 = .ok (.istore_n 3, 1) := by decide +kernel
theorem dX7_count_35 : decode cX7_count 35 = .ok (.iconst 0, 1) := by decide +kernel
theorem dX7_count_36 : decode cX7_count 36 = .ok (.istore 4, 2) := by decide +kernel
theorem dX7_count_38 : decode cX7_count 38 = .ok (.iload 4, 2) := by decide +kernel
theorem dX7_count_40 : decode cX7_count 40 = .ok (.bipush 6, 2) := by decide +kernel
theorem dX7_count_42 : decode cX7_count 42 = .ok (.if_icmp .ge 22, 3) := by decide +kernel
theorem dX7_count_45 : decode cX7_count 45 = .ok (.iload_n 3, 1) := by decide +kernel
theorem dX7_count_46 : decode cX7_count 46 = .ok (.aload_n 0, 1) := by decide +kernel
theorem dX7_count_47 : decode cX7_count 47 = .ok (.getfield 22, 3) := by decide +kernel
theorem dX7_count_50 : decode cX7_count 50 = .ok (.bipush 47, 2) := by decide +kernel
theorem dX7_count_52 : decode cX7_count 52 = .ok (.iload 4, 2) := by decide +kernel
theorem dX7_count_54 : decode cX7_count 54 = .ok (.iadd, 1) := by decide +kernel
theorem dX7_count_55 : decode cX7_count 55 = .ok (.iaload, 1) := by decide +kernel
theorem dX7_count_56 : decode cX7_count 56 = .ok (.iadd, 1) := by decide +kernel
theorem dX7_count_57 : decode cX7_count 57 = .ok (.istore_n 3, 1) := by decide +kernel
theorem dX7_count_58 : decode cX7_count 58 = .ok (.iinc 4 1, 3) := by decide +kernel
theorem dX7_count_61 : decode cX7_count 61 = .ok (.goto (-23), 3) := by decide +kernel
theorem dX7_count_64 : decode cX7_count 64 = .ok (.iload_n 1, 1) := by decide +kernel
theorem dX7_count_65 : decode cX7_count 65 = .ok (.tableswitch 100 0 8 #[51, 53, 60, 67, 74, 81, 88, 90, 95], 51) := by decide +kernel
theorem dX7_count_116 : decode cX7_count 116 = .ok (.iload_n 2, 1) := by decide +kernel
theorem dX7_count_117 : decode cX7_count 117 = .ok (.ireturn, 1) := by decide +kernel
theorem dX7_count_118 : decode cX7_count 118 = .ok (.aload_n 0, 1) := by decide +kernel
theorem dX7_count_119 : decode cX7_count 119 = .ok (.getfield 22, 3) := by decide +kernel
theorem dX7_count_122 : decode cX7_count 122 = .ok (.iconst 2, 1) := by decide +kernel
theorem dX7_count_123 : decode cX7_count 123 = .ok (.iaload, 1) := by decide +kernel
theorem dX7_count_124 : decode cX7_count 124 = .ok (.ireturn, 1) := by decide +kernel
theorem dX7_count_125 : decode cX7_count 125 = .ok (.aload_n 0, 1) := by decide +kernel
theorem dX7_count_126 : decode cX7_count 126 = .ok (.getfield 22, 3) := by decide +kernel
theorem dX7_count_129 : decode cX7_count 129 = .ok (.iconst 3, 1) := by decide +kernel
theorem dX7_count_130 : decode cX7_count 130 = .ok (.iaload, 1) := by decide +kernel
theorem dX7_count_131 : decode cX7_count 131 = .ok (.ireturn, 1) := by decide +kernel
theorem dX7_count_132 : decode cX7_count 132 = .ok (.aload_n 0, 1) := by decide +kernel
theorem dX7_count_133 : decode cX7_count 133 = .ok (.getfield 22, 3) := by decide +kernel
theorem dX7_count_136 : decode cX7_count 136 = .ok (.iconst 0, 1) := by decide +kernel
theorem dX7_count_137 : decode cX7_count 137 = .ok (.iaload, 1) := by decide +kernel
theorem dX7_count_138 : decode cX7_count 138 = .ok (.ireturn, 1) := by decide +kernel
theorem dX7_count_139 : decode cX7_count 139 = .ok (.aload_n 0, 1) := by decide +kernel
theorem dX7_count_140 : decode cX7_count 140 = .ok (.getfield 22, 3) := by decide +kernel
theorem dX7_count_143 : decode cX7_count 143 = .ok (.iconst 1, 1) := by decide +kernel
theorem dX7_count_144 : decode cX7_count 144 = .ok (.iaload, 1) := by decide +kernel
theorem dX7_count_145 : decode cX7_count 145 = .ok (.ireturn, 1) := by decide +kernel
theorem dX7_count_146 : decode cX7_count 146 = .ok (.aload_n 0, 1) := by decide +kernel
theorem dX7_count_147 : decode cX7_count 147 = .ok (.getfield 22, 3) := by decide +kernel
theorem dX7_count_150 : decode cX7_count 150 = .ok (.iconst 4, 1) := by decide +kernel
theorem dX7_count_151 : decode cX7_count 151 = .ok (.iaload, 1) := by decide +kernel
theorem dX7_count_152 : decode cX7_count 152 = .ok (.ireturn, 1) := by decide +kernel
theorem dX7_count_153 : decode cX7_count 153 = .ok (.iload_n 3, 1) := by decide +kernel
theorem dX7_count_154 : decode cX7_count 154 = .ok (.ireturn, 1) := by decide +kernel
theorem dX7_count_155 : decode cX7_count 155 = .ok (.aload_n 0, 1) := by decide +kernel
theorem dX7_count_156 : decode cX7_count 156 = .ok (.getfield 130, 3) := by decide +kernel
theorem dX7_count_159 : decode cX7_count 159 = .ok (.ireturn, 1) := by decide +kernel
theorem dX7_count_160 : decode cX7_count 160 = .ok (.aload_n 0, 1) := by decide +kernel
theorem dX7_count_161 : decode cX7_count 161 = .ok (.getfield 74, 3) := by decide +kernel
theorem dX7_count_164 : decode cX7_count 164 = .ok (.ireturn, 1) := by decide +kernel
theorem dX7_count_165 : decode cX7_count 165 = .ok (.ldc 63, 2) := by decide +kernel
theorem dX7_count_167 : decode cX7_count 167 = .ok (.ireturn, 1) := by decide +kernel
theorem dX7_status_0 : decode cX7_status 0 = .ok (.aload_n 0, 1) := by decide +kernel
theorem dX7_status_1 : decode cX7_status 1 = .ok (.getfield 50, 3) := by decide +kernel
theorem dX7_status_4 : decode cX7_status 4 = .ok (.ireturn, 1) := by decide +kernel
theorem dJ6_bitCount_0f7a4_0 : decode cJ6_bitCount_0f7a4 0 = .ok (.iload_n 0, 1) := by decide +kernel
theorem dJ6_bitCount_0f7a4_1 : decode cJ6_bitCount_0f7a4 1 = .ok (.iload_n 0, 1) := by decide +kernel
theorem dJ6_bitCount_0f7a4_2 : decode cJ6_bitCount_0f7a4 2 = .ok (.iconst 1, 1) := by decide +kernel
theorem dJ6_bitCount_0f7a4_3 : decode cJ6_bitCount_0f7a4 3 = .ok (.iushr, 1) := by decide +kernel
theorem dJ6_bitCount_0f7a4_4 : decode cJ6_bitCount_0f7a4 4 = .ok (.ldc_w 265, 3) := by decide +kernel
theorem dJ6_bitCount_0f7a4_7 : decode cJ6_bitCount_0f7a4 7 = .ok (.iand, 1) := by decide +kernel
theorem dJ6_bitCount_0f7a4_8 : decode cJ6_bitCount_0f7a4 8 = .ok (.isub, 1) := by decide +kernel
theorem dJ6_bitCount_0f7a4_9 : decode cJ6_bitCount_0f7a4 9 = .ok (.istore_n 0, 1) := by decide +kernel
theorem dJ6_bitCount_0f7a4_10 : decode cJ6_bitCount_0f7a4 10 = .ok (.iload_n 0, 1) := by decide +kernel
theorem dJ6_bitCount_0f7a4_11 : decode cJ6_bitCount_0f7a4 11 = .ok (.ldc_w 266, 3) := by decide +kernel
theorem dJ6_bitCount_0f7a4_14 : decode cJ6_bitCount_0f7a4 14 = .ok (.iand, 1) := by decide +kernel
theorem dJ6_bitCount_0f7a4_15 : decode cJ6_bitCount_0f7a4 15 = .ok (.iload_n 0, 1) := by decide +kernel
theorem dJ6_bitCount_0f7a4_16 : decode cJ6_bitCount_0f7a4 16 = .ok (.iconst 2, 1) := by decide +kernel
theorem dJ6_bitCount_0f7a4_17 : decode cJ6_bitCount_0f7a4 17 = .ok (.iushr, 1) := by decide +kernel
theorem dJ6_bitCount_0f7a4_18 : decode cJ6_bitCount_0f7a4 18 = .ok (.ldc_w 266, 3) := by decide +kernel
theorem dJ6_bitCount_0f7a4_21 : decode cJ6_bitCount_0f7a4 21 = .ok (.iand, 1) := by decide +kernel
theorem dJ6_bitCount_0f7a4_22 : decode cJ6_bitCount_0f7a4 22 = .ok (.iadd, 1) := by decide +kernel
theorem dJ6_bitCount_0f7a4_23 : decode cJ6_bitCount_0f7a4 23 = .ok (.istore_n 0, 1) := by decide +kernel
theorem dJ6_bitCount_0f7a4_24 : decode cJ6_bitCount_0f7a4 24 = .ok (.iload_n 0, 1) := by decide +kernel
theorem dJ6_bitCount_0f7a4_25 : decode cJ6_bitCount_0f7a4 25 = .ok (.iload_n 0, 1) := by decide +kernel
theorem dJ6_bitCount_0f7a4_26 : decode cJ6_bitCount_0f7a4 26 = .ok (.iconst 4, 1) := by decide +kernel
theorem dJ6_bitCount_0f7a4_27 : decode cJ6_bitCount_0f7a4 27 = .ok (.iushr, 1) := by decide +kernel
theorem dJ6_bitCount_0f7a4_28 : decode cJ6_bitCount_0f7a4 28 = .ok (.iadd, 1) := by decide +kernel
theorem dJ6_bitCount_0f7a4_29 : decode cJ6_bitCount_0f7a4 29 = .ok (.ldc_w 267, 3) := by decide +kernel
theorem dJ6_bitCount_0f7a4_32 : decode cJ6_bitCount_0f7a4 32 = .ok (.iand, 1) := by decide +kernel
theorem dJ6_bitCount_0f7a4_33 : decode cJ6_bitCount_0f7a4 33 = .ok (.istore_n 0, 1) := by decide +kernel
theorem dJ6_bitCount_0f7a4_34 : decode cJ6_bitCount_0f7a4 34 = .ok (.iload_n 0, 1) := by decide +kernel
theorem dJ6_bitCount_0f7a4_35 : decode cJ6_bitCount_0f7a4 35 = .ok (.iload_n 0, 1) := by decide +kernel
theorem dJ6_bitCount_0f7a4_36 : decode cJ6_bitCount_0f7a4 36 = .ok (.bipush 8, 2) := by decide +kernel
theorem dJ6_bitCount_0f7a4_38 : decode cJ6_bitCount_0f7a4 38 = .ok (.iushr, 1) := by decide +kernel
theorem dJ6_bitCount_0f7a4_39 : decode cJ6_bitCount_0f7a4 39 = .ok (.iadd, 1) := by decide +kernel
theorem dJ6_bitCount_0f7a4_40 : decode cJ6_bitCount_0f7a4 40 = .ok (.istore_n 0, 1) := by decide +kernel
theorem dJ6_bitCount_0f7a4_41 : decode cJ6_bitCount_0f7a4 41 = .ok (.iload_n 0, 1) := by decide +kernel
theorem dJ6_bitCount_0f7a4_42 : decode cJ6_bitCount_0f7a4 42 = .ok (.iload_n 0, 1) := by decide +kernel
theorem dJ6_bitCount_0f7a4_43 : decode cJ6_bitCount_0f7a4 43 = .ok (.bipush 16, 2) := by decide +kernel
theorem dJ6_bitCount_0f7a4_45 : decode cJ6_bitCount_0f7a4 45 = .ok (.iushr, 1) := by decide +kernel
theorem dJ6_bitCount_0f7a4_46 : decode cJ6_bitCount_0f7a4 46 = .ok (.iadd, 1) := by decide +kernel
theorem dJ6_bitCount_0f7a4_47 : decode cJ6_bitCount_0f7a4 47 = .ok (.istore_n 0, 1) := by decide +kernel
theorem dJ6_bitCount_0f7a4_48 : decode cJ6_bitCount_0f7a4 48 = .ok (.iload_n 0, 1) := by decide +kernel
theorem dJ6_bitCount_0f7a4_49 : decode cJ6_bitCount_0f7a4 49 = .ok (.bipush 63, 2) := by decide +kernel
theorem dJ6_bitCount_0f7a4_51 : decode cJ6_bitCount_0f7a4 51 = .ok (.iand, 1) := by decide +kernel
theorem dJ6_bitCount_0f7a4_52 : decode cJ6_bitCount_0f7a4 52 = .ok (.ireturn, 1) := by decide +kernel
theorem dJ9_max_7cf53_0 : decode cJ9_max_7cf53 0 = .ok (.iload_n 0, 1) := by decide +kernel
theorem dJ9_max_7cf53_1 : decode cJ9_max_7cf53 1 = .ok (.iload_n 1, 1) := by decide +kernel
theorem dJ9_max_7cf53_2 : decode cJ9_max_7cf53 2 = .ok (.if_icmp .lt 7, 3) := by decide +kernel
theorem dJ9_max_7cf53_5 : decode cJ9_max_7cf53 5 = .ok (.iload_n 0, 1) := by decide +kernel
theorem dJ9_max_7cf53_6 : decode cJ9_max_7cf53 6 = .ok (.goto 4, 3) := by decide +kernel
theorem dJ9_max_7cf53_9 : decode cJ9_max_7cf53 9 = .ok (.iload_n 1, 1) := by decide +kernel
theorem dJ9_max_7cf53_10 : decode cJ9_max_7cf53 10 = .ok (.ireturn, 1) := by decide +kernel
theorem dJ9_min_7cf53_0 : decode cJ9_min_7cf53 0 = .ok (.iload_n 0, 1) := by decide +kernel
theorem dJ9_min_7cf53_1 : decode cJ9_min_7cf53 1 = .ok (.iload_n 1, 1) := by decide +kernel
theorem dJ9_min_7cf53_2 : decode cJ9_min_7cf53 2 = .ok (.if_icmp .gt 7, 3) := by decide +kernel
theorem dJ9_min_7cf53_5 : decode cJ9_min_7cf53 5 = .ok (.iload_n 0, 1) := by decide +kernel
theorem dJ9_min_7cf53_6 : decode cJ9_min_7cf53 6 = .ok (.goto 4, 3) := by decide +kernel
theorem dJ9_min_7cf53_9 : decode cJ9_min_7cf53 9 = .ok (.iload_n 1, 1) := by decide +kernel
theorem dJ9_min_7cf53_10 : decode cJ9_min_7cf53 10 = .ok (.ireturn, 1) := by decide +kernel
theorem dL_law_0 : decode cL_law 0 = .ok (.new 7, 3) := by decide +kernel
theorem dL_law_3 : decode cL_law 3 = .ok (.dup, 1) := by decide +kernel
theorem dL_law_4 : decode cL_law 4 = .ok (.invokespecial 9, 3) := by decide +kernel
theorem dL_law_7 : decode cL_law 7 = .ok (.astore_n 1, 1) := by decide +kernel
theorem dL_law_8 : decode cL_law 8 = .ok (.new 10, 3) := by decide +kernel
theorem dL_law_11 : decode cL_law 11 = .ok (.dup, 1) := by decide +kernel
theorem dL_law_12 : decode cL_law 12 = .ok (.invokespecial 12, 3) := by decide +kernel
theorem dL_law_15 : decode cL_law 15 = .ok (.astore_n 2, 1) := by decide +kernel
theorem dL_law_16 : decode cL_law 16 = .ok (.iconst 0, 1) := by decide +kernel
theorem dL_law_17 : decode cL_law 17 = .ok (.istore_n 3, 1) := by decide +kernel
theorem dL_law_18 : decode cL_law 18 = .ok (.iload_n 3, 1) := by decide +kernel
theorem dL_law_19 : decode cL_law 19 = .ok (.aload_n 0, 1) := by decide +kernel
theorem dL_law_20 : decode cL_law 20 = .ok (.arraylength, 1) := by decide +kernel
theorem dL_law_21 : decode cL_law 21 = .ok (.bipush 6, 2) := by decide +kernel
theorem dL_law_23 : decode cL_law 23 = .ok (.isub, 1) := by decide +kernel
theorem dL_law_24 : decode cL_law 24 = .ok (.if_icmp .gt 1162, 3) := by decide +kernel
theorem dL_law_27 : decode cL_law 27 = .ok (.aload_n 0, 1) := by decide +kernel
theorem dL_law_28 : decode cL_law 28 = .ok (.iload_n 3, 1) := by decide +kernel
