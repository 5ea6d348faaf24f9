theorem dX0_init_0 : decode cX0_init 0 = .ok (.aload_n 0, 1) := by decide +kernel
theorem dX0_init_1 : decode cX0_init 1 = .ok (.invokespecial 3, 3) := by decide +kernel
theorem dX0_init_4 : decode cX0_init 4 = .ok (.aload_n 0, 1) := by decide +kernel
theorem dX0_init_5 : decode cX0_init 5 = .ok (.bipush 24, 2) := by decide +kernel
theorem dX0_init_7 : decode cX0_init 7 = .ok (.newarray .int, 2) := by decide +kernel
theorem dX0_init_9 : decode cX0_init 9 = .ok (.putfield 9, 3) := by decide +kernel
theorem dX0_init_12 : decode cX0_init 12 = .ok (.aload_n 0, 1) := by decide +kernel
theorem dX0_init_13 : decode cX0_init 13 = .ok (.bipush 24, 2) := by decide +kernel
theorem dX0_init_15 : decode cX0_init 15 = .ok (.newarray .int, 2) := by decide +kernel
theorem dX0_init_17 : decode cX0_init 17 = .ok (.putfield 15, 3) := by decide +kernel
theorem dX0_init_20 : decode cX0_init 20 = .ok (.aload_n 0, 1) := by decide +kernel
theorem dX0_init_21 : decode cX0_init 21 = .ok (.bipush 24, 2) := by decide +kernel
theorem dX0_init_23 : decode cX0_init 23 = .ok (.newarray .int, 2) := by decide +kernel
theorem dX0_init_25 : decode cX0_init 25 = .ok (.putfield 18, 3) := by decide +kernel
theorem dX0_init_28 : decode cX0_init 28 = .ok (.aload_n 0, 1) := by decide +kernel
theorem dX0_init_29 : decode cX0_init 29 = .ok (.iconst 0, 1) := by decide +kernel
theorem dX0_init_30 : decode cX0_init 30 = .ok (.putfield 21, 3) := by decide +kernel
theorem dX0_init_33 : decode cX0_init 33 = .ok (.aload_n 0, 1) := by decide +kernel
theorem dX0_init_34 : decode cX0_init 34 = .ok (.iconst 0, 1) := by decide +kernel
theorem dX0_init_35 : decode cX0_init 35 = .ok (.putfield 25, 3) := by decide +kernel
theorem dX0_init_38 : decode cX0_init 38 = .ok (.return_, 1) := by decide +kernel
theorem dX0_forgetAll_0 : decode cX0_forgetAll 0 = .ok (.aload_n 0, 1) := by decide +kernel
theorem dX0_forgetAll_1 : decode cX0_forgetAll 1 = .ok (.iconst 0, 1) := by decide +kernel
theorem dX0_forgetAll_2 : decode cX0_forgetAll 2 = .ok (.putfield 21, 3) := by decide +kernel
theorem dX0_forgetAll_5 : decode cX0_forgetAll 5 = .ok (.aload_n 0, 1) := by decide +kernel
theorem dX0_forgetAll_6 : decode cX0_forgetAll 6 = .ok (.iconst 0, 1) := by decide +kernel
theorem dX0_forgetAll_7 : decode cX0_forgetAll 7 = .ok (.putfield 25, 3) := by decide +kernel
theorem dX0_forgetAll_10 : decode cX0_forgetAll 10 = .ok (.return_, 1) := by decide +kernel
theorem dX0_keep_0 : decode cX0_keep 0 = .ok (.aload_n 0, 1) := by decide +kernel
theorem dX0_keep_1 : decode cX0_keep 1 = .ok (.getfield 9, 3) := by decide +kernel
theorem dX0_keep_4 : decode cX0_keep 4 = .ok (.aload_n 0, 1) := by decide +kernel
theorem dX0_keep_5 : decode cX0_keep 5 = .ok (.getfield 21, 3) := by decide +kernel
theorem dX0_keep_8 : decode cX0_keep 8 = .ok (.iload_n 1, 1) := by decide +kernel
theorem dX0_keep_9 : decode cX0_keep 9 = .ok (.iastore, 1) := by decide +kernel
theorem dX0_keep_10 : decode cX0_keep 10 = .ok (.aload_n 0, 1) := by decide +kernel
theorem dX0_keep_11 : decode cX0_keep 11 = .ok (.getfield 15, 3) := by decide +kernel
theorem dX0_keep_14 : decode cX0_keep 14 = .ok (.aload_n 0, 1) := by decide +kernel
theorem dX0_keep_15 : decode cX0_keep 15 = .ok (.getfield 21, 3) := by decide +kernel
theorem dX0_keep_18 : decode cX0_keep 18 = .ok (.iload_n 2, 1) := by decide +kernel
theorem dX0_keep_19 : decode cX0_keep 19 = .ok (.iastore, 1) := by decide +kernel
theorem dX0_keep_20 : decode cX0_keep 20 = .ok (.aload_n 0, 1) := by decide +kernel
theorem dX0_keep_21 : decode cX0_keep 21 = .ok (.getfield 18, 3) := by decide +kernel
theorem dX0_keep_24 : decode cX0_keep 24 = .ok (.aload_n 0, 1) := by decide +kernel
theorem dX0_keep_25 : decode cX0_keep 25 = .ok (.getfield 21, 3) := by decide +kernel
theorem dX0_keep_28 : decode cX0_keep 28 = .ok (.iload_n 3, 1) := by decide +kernel
theorem dX0_keep_29 : decode cX0_keep 29 = .ok (.iastore, 1) := by decide +kernel
theorem dX0_keep_30 : decode cX0_keep 30 = .ok (.aload_n 0, 1) := by decide +kernel
theorem dX0_keep_31 : decode cX0_keep 31 = .ok (.aload_n 0, 1) := by decide +kernel
theorem dX0_keep_32 : decode cX0_keep 32 = .ok (.getfield 21, 3) := by decide +kernel
theorem dX0_keep_35 : decode cX0_keep 35 = .ok (.iconst 1, 1) := by decide +kernel
theorem dX0_keep_36 : decode cX0_keep 36 = .ok (.iadd, 1) := by decide +kernel
theorem dX0_keep_37 : decode cX0_keep 37 = .ok (.bipush 24, 2) := by decide +kernel
theorem dX0_keep_39 : decode cX0_keep 39 = .ok (.irem, 1) := by decide +kernel
theorem dX0_keep_40 : decode cX0_keep 40 = .ok (.putfield 21, 3) := by decide +kernel
theorem dX0_keep_43 : decode cX0_keep 43 = .ok (.aload_n 0, 1) := by decide +kernel
theorem dX0_keep_44 : decode cX0_keep 44 = .ok (.aload_n 0, 1) := by decide +kernel
theorem dX0_keep_45 : decode cX0_keep 45 = .ok (.getfield 25, 3) := by decide +kernel
theorem dX0_keep_48 : decode cX0_keep 48 = .ok (.iconst 1, 1) := by decide +kernel
theorem dX0_keep_49 : decode cX0_keep 49 = .ok (.iadd, 1) := by decide +kernel
theorem dX0_keep_50 : decode cX0_keep 50 = .ok (.bipush 24, 2) := by decide +kernel
theorem dX0_keep_52 : decode cX0_keep 52 = .ok (.invokestatic 28, 3) := by decide +kernel
theorem dX0_keep_55 : decode cX0_keep 55 = .ok (.putfield 25, 3) := by decide +kernel
theorem dX0_keep_58 : decode cX0_keep 58 = .ok (.return_, 1) := by decide +kernel
theorem dX0_takeBackLatest_0 : decode cX0_takeBackLatest 0 = .ok (.aload_n 0, 1) := by decide +kernel
theorem dX0_takeBackLatest_1 : decode cX0_takeBackLatest 1 = .ok (.aload_n 0, 1) := by decide +kernel
theorem dX0_takeBackLatest_2 : decode cX0_takeBackLatest 2 = .ok (.getfield 21, 3) := by decide +kernel
theorem dX0_takeBackLatest_5 : decode cX0_takeBackLatest 5 = .ok (.bipush 24, 2) := by decide +kernel
theorem dX0_takeBackLatest_7 : decode cX0_takeBackLatest 7 = .ok (.iadd, 1) := by decide +kernel
theorem dX0_takeBackLatest_8 : decode cX0_takeBackLatest 8 = .ok (.iconst 1, 1) := by decide +kernel
theorem dX0_takeBackLatest_9 : decode cX0_takeBackLatest 9 = .ok (.isub, 1) := by decide +kernel
theorem dX0_takeBackLatest_10 : decode cX0_takeBackLatest 10 = .ok (.bipush 24, 2) := by decide +kernel
theorem dX0_takeBackLatest_12 : decode cX0_takeBackLatest 12 = .ok (.irem, 1) := by decide +kernel
theorem dX0_takeBackLatest_13 : decode cX0_takeBackLatest 13 = .ok (.putfield 21, 3) := by decide +kernel
theorem dX0_takeBackLatest_16 : decode cX0_takeBackLatest 16 = .ok (.aload_n 0, 1) := by decide +kernel
theorem dX0_takeBackLatest_17 : decode cX0_takeBackLatest 17 = .ok (.aload_n 0, 1) := by decide +kernel
theorem dX0_takeBackLatest_18 : decode cX0_takeBackLatest 18 = .ok (.getfield 25, 3) := by decide +kernel
theorem dX0_takeBackLatest_21 : decode cX0_takeBackLatest 21 = .ok (.iconst 1, 1) := by decide +kernel
theorem dX0_takeBackLatest_22 : decode cX0_takeBackLatest 22 = .ok (.isub, 1) := by decide +kernel
theorem dX0_takeBackLatest_23 : decode cX0_takeBackLatest 23 = .ok (.iconst 0, 1) := by decide +kernel
theorem dX0_takeBackLatest_24 : decode cX0_takeBackLatest 24 = .ok (.invokestatic 34, 3) := by decide +kernel
theorem dX0_takeBackLatest_27 : decode cX0_takeBackLatest 27 = .ok (.putfield 25, 3) := by decide +kernel
theorem dX0_takeBackLatest_30 : decode cX0_takeBackLatest 30 = .ok (.aload_n 0, 1) := by decide +kernel
theorem dX0_takeBackLatest_31 : decode cX0_takeBackLatest 31 = .ok (.getfield 15, 3) := by decide +kernel
theorem dX0_takeBackLatest_34 : decode cX0_takeBackLatest 34 = .ok (.aload_n 0, 1) := by decide +kernel
theorem dX0_takeBackLatest_35 : decode cX0_takeBackLatest 35 = .ok (.getfield 21, 3) := by decide +kernel
theorem dX0_takeBackLatest_38 : decode cX0_takeBackLatest 38 = .ok (.iaload, 1) := by decide +kernel
theorem dX0_takeBackLatest_39 : decode cX0_takeBackLatest 39 = .ok (.istore_n 2, 1) := by decide +kernel
theorem dX0_takeBackLatest_40 : decode cX0_takeBackLatest 40 = .ok (.aload_n 0, 1) := by decide +kernel
theorem dX0_takeBackLatest_41 : decode cX0_takeBackLatest 41 = .ok (.getfield 18, 3) := by decide +kernel
theorem dX0_takeBackLatest_44 : decode cX0_takeBackLatest 44 = .ok (.aload_n 0, 1) := by decide +kernel
theorem dX0_takeBackLatest_45 : decode cX0_takeBackLatest 45 = .ok (.getfield 21, 3) := by decide +kernel
theorem dX0_takeBackLatest_48 : decode cX0_takeBackLatest 48 = .ok (.iaload, 1) := by decide +kernel
theorem dX0_takeBackLatest_49 : decode cX0_takeBackLatest 49 = .ok (.istore_n 3, 1) := by decide +kernel
theorem dX0_takeBackLatest_50 : decode cX0_takeBackLatest 50 = .ok (.aload_n 0, 1) := by decide +kernel
theorem dX0_takeBackLatest_51 : decode cX0_takeBackLatest 51 = .ok (.getfield 9, 3) := by decide +kernel
theorem dX0_takeBackLatest_54 : decode cX0_takeBackLatest 54 = .ok (.aload_n 0, 1) := by decide +kernel
theorem dX0_takeBackLatest_55 : decode cX0_takeBackLatest 55 = .ok (.getfield 21, 3) := by decide +kernel
theorem dX0_takeBackLatest_58 : decode cX0_takeBackLatest 58 = .ok (.iaload, 1) := by decide +kernel
theorem dX0_takeBackLatest_59 : decode cX0_takeBackLatest 59 = .ok (.tableswitch 55 0 2 #[25, 35, 45], 25) := by decide +kernel
theorem dX0_takeBackLatest_84 : decode cX0_takeBackLatest 84 = .ok (.aload_n 1, 1) := by decide +kernel
theorem dX0_takeBackLatest_85 : decode cX0_takeBackLatest 85 = .ok (.getfield 37, 3) := by decide +kernel
theorem dX0_takeBackLatest_88 : decode cX0_takeBackLatest 88 = .ok (.iload_n 2, 1) := by decide +kernel
theorem dX0_takeBackLatest_89 : decode cX0_takeBackLatest 89 = .ok (.iload_n 3, 1) := by decide +kernel
theorem dX0_takeBackLatest_90 : decode cX0_takeBackLatest 90 = .ok (.iastore, 1) := by decide +kernel
theorem dX0_takeBackLatest_91 : decode cX0_takeBackLatest 91 = .ok (.goto 28, 3) := by decide +kernel
theorem dX0_takeBackLatest_94 : decode cX0_takeBackLatest 94 = .ok (.aload_n 1, 1) := by decide +kernel
theorem dX0_takeBackLatest_95 : decode cX0_takeBackLatest 95 = .ok (.getfield 42, 3) := by decide +kernel
theorem dX0_takeBackLatest_98 : decode cX0_takeBackLatest 98 = .ok (.iload_n 2, 1) := by decide +kernel
theorem dX0_takeBackLatest_99 : decode cX0_takeBackLatest 99 = .ok (.iload_n 3, 1) := by decide +kernel
theorem dX0_takeBackLatest_100 : decode cX0_takeBackLatest 100 = .ok (.iastore, 1) := by decide +kernel
theorem dX0_takeBackLatest_101 : decode cX0_takeBackLatest 101 = .ok (.goto 18, 3) := by decide +kernel
theorem dX0_takeBackLatest_104 : decode cX0_takeBackLatest 104 = .ok (.aload_n 1, 1) := by decide +kernel
theorem dX0_takeBackLatest_105 : decode cX0_takeBackLatest 105 = .ok (.getfield 45, 3) := by decide +kernel
theorem dX0_takeBackLatest_108 : decode cX0_takeBackLatest 108 = .ok (.iload_n 2, 1) := by decide +kernel
theorem dX0_takeBackLatest_109 : decode cX0_takeBackLatest 109 = .ok (.iload_n 3, 1) := by decide +kernel
theorem dX0_takeBackLatest_110 : decode cX0_takeBackLatest 110 = .ok (.iastore, 1) := by decide +kernel
theorem dX0_takeBackLatest_111 : decode cX0_takeBackLatest 111 = .ok (.goto 8, 3) := by decide +kernel
theorem dX0_takeBackLatest_114 : decode cX0_takeBackLatest 114 = .ok (.aload_n 1, 1) := by decide +kernel
theorem dX0_takeBackLatest_115 : decode cX0_takeBackLatest 115 = .ok (.iload_n 3, 1) := by decide +kernel
theorem dX0_takeBackLatest_116 : decode cX0_takeBackLatest 116 = .ok (.invokevirtual 48, 3) := by decide +kernel
theorem dX0_takeBackLatest_119 : decode cX0_takeBackLatest 119 = .ok (.return_, 1) := by decide +kernel
theorem dX1_init_0 : decode cX1_init 0 = .ok (.aload_n 0, 1) := by decide +kernel
theorem dX1_init_1 : decode cX1_init 1 = .ok (.invokespecial 1, 3) := by decide +kernel
theorem dX1_init_4 : decode cX1_init 4 = .ok (.aload_n 0, 1) := by decide +kernel
theorem dX1_init_5 : decode cX1_init 5 = .ok (.bipush 16, 2) := by decide +kernel
theorem dX1_init_7 : decode cX1_init 7 = .ok (.newarray .int, 2) := by decide +kernel
theorem dX1_init_9 : decode cX1_init 9 = .ok (.putfield 9, 3) := by decide +kernel
theorem dX1_init_12 : decode cX1_init 12 = .ok (.aload_n 0, 1) := by decide +kernel
theorem dX1_init_13 : decode cX1_init 13 = .ok (.iconst 0, 1) := by decide +kernel
theorem dX1_init_14 : decode cX1_init 14 = .ok (.putfield 13, 3) := by decide +kernel
theorem dX1_init_17 : decode cX1_init 17 = .ok (.return_, 1) := by decide +kernel
theorem dX1_answer_0 : decode cX1_answer 0 = .ok (.aload_n 0, 1) := by decide +kernel
theorem dX1_answer_1 : decode cX1_answer 1 = .ok (.iconst 0, 1) := by decide +kernel
theorem dX1_answer_2 : decode cX1_answer 2 = .ok (.putfield 13, 3) := by decide +kernel
theorem dX1_answer_5 : decode cX1_answer 5 = .ok (.aload_n 1, 1) := by decide +kernel
theorem dX1_answer_6 : decode cX1_answer 6 = .ok (.getfield 17, 3) := by decide +kernel
theorem dX1_answer_9 : decode cX1_answer 9 = .ok (.iload_n 2, 1) := by decide +kernel
theorem dX1_answer_10 : decode cX1_answer 10 = .ok (.iaload, 1) := by decide +kernel
theorem dX1_answer_11 : decode cX1_answer 11 = .ok (.istore 4, 2) := by decide +kernel
theorem dX1_answer_13 : decode cX1_answer 13 = .ok (.aload_n 0, 1) := by decide +kernel
theorem dX1_answer_14 : decode cX1_answer 14 = .ok (.iload_n 3, 1) := by decide +kernel
theorem dX1_answer_15 : decode cX1_answer 15 = .ok (.ifCond .ne 12, 3) := by decide +kernel
theorem dX1_answer_18 : decode cX1_answer 18 = .ok (.getstatic 22, 3) := by decide +kernel
theorem dX1_answer_21 : decode cX1_answer 21 = .ok (.iload 4, 2) := by decide +kernel
theorem dX1_answer_23 : decode cX1_answer 23 = .ok (.iaload, 1) := by decide +kernel
theorem dX1_answer_24 : decode cX1_answer 24 = .ok (.goto 9, 3) := by decide +kernel
theorem dX1_answer_27 : decode cX1_answer 27 = .ok (.getstatic 25, 3) := by decide +kernel
theorem dX1_answer_30 : decode cX1_answer 30 = .ok (.iload 4, 2) := by decide +kernel
theorem dX1_answer_32 : decode cX1_answer 32 = .ok (.iaload, 1) := by decide +kernel
theorem dX1_answer_33 : decode cX1_answer 33 = .ok (.aload_n 1, 1) := by decide +kernel
theorem dX1_answer_34 : decode cX1_answer 34 = .ok (.iload_n 2, 1) := by decide +kernel
theorem dX1_answer_35 : decode cX1_answer 35 = .ok (.iconst 0, 1) := by decide +kernel
theorem dX1_answer_36 : decode cX1_answer 36 = .ok (.invokevirtual 28, 3) := by decide +kernel
theorem dX1_answer_39 : decode cX1_answer 39 = .ok (.ireturn, 1) := by decide +kernel
theorem dX1_give_0 : decode cX1_give 0 = .ok (.iload 4, 2) := by decide +kernel
theorem dX1_give_2 : decode cX1_give 2 = .ok (.bipush 16, 2) := by decide +kernel
theorem dX1_give_4 : decode cX1_give 4 = .ok (.if_icmp .le 5, 3) := by decide +kernel
theorem dX1_give_7 : decode cX1_give 7 = .ok (.iconst 0, 1) := by decide +kernel
theorem dX1_give_8 : decode cX1_give 8 = .ok (.ireturn, 1) := by decide +kernel
theorem dX1_give_9 : decode cX1_give 9 = .ok (.aload_n 0, 1) := by decide +kernel
theorem dX1_give_10 : decode cX1_give 10 = .ok (.iload_n 1, 1) := by decide +kernel
theorem dX1_give_11 : decode cX1_give 11 = .ok (.invokevirtual 32, 3) := by decide +kernel
theorem dX1_give_14 : decode cX1_give 14 = .ok (.aload_n 2, 1) := by decide +kernel
theorem dX1_give_15 : decode cX1_give 15 = .ok (.getfield 17, 3) := by decide +kernel
theorem dX1_give_18 : decode cX1_give 18 = .ok (.iload_n 3, 1) := by decide +kernel
theorem dX1_give_19 : decode cX1_give 19 = .ok (.iaload, 1) := by decide +kernel
theorem dX1_give_20 : decode cX1_give 20 = .ok (.istore 5, 2) := by decide +kernel
theorem dX1_give_22 : decode cX1_give 22 = .ok (.iload 4, 2) := by decide +kernel
theorem dX1_give_24 : decode cX1_give 24 = .ok (.iconst 1, 1) := by decide +kernel
theorem dX1_give_25 : decode cX1_give 25 = .ok (.iadd, 1) := by decide +kernel
theorem dX1_give_26 : decode cX1_give 26 = .ok (.istore 6, 2) := by decide +kernel
theorem dX1_give_28 : decode cX1_give 28 = .ok (.iload_n 1, 1) := by decide +kernel
theorem dX1_give_29 : decode cX1_give 29 = .ok (.tableswitch 221 10 24 #[75, 82, 108, 120, 134, 221, 221, 221, 221, 221, 147, 149, 167, 182, 208], 75) := by decide +kernel
theorem dX1_give_104 : decode cX1_give 104 = .ok (.aload_n 2, 1) := by decide +kernel
theorem dX1_give_105 : decode cX1_give 105 = .ok (.getfield 36, 3) := by decide +kernel
theorem dX1_give_108 : decode cX1_give 108 = .ok (.iload_n 3, 1) := by decide +kernel
theorem dX1_give_109 : decode cX1_give 109 = .ok (.iaload, 1) := by decide +kernel
theorem dX1_give_110 : decode cX1_give 110 = .ok (.ireturn, 1) := by decide +kernel
theorem dX1_give_111 : decode cX1_give 111 = .ok (.aload_n 0, 1) := by decide +kernel
theorem dX1_give_112 : decode cX1_give 112 = .ok (.bipush 10, 2) := by decide +kernel
theorem dX1_give_114 : decode cX1_give 114 = .ok (.aload_n 2, 1) := by decide +kernel
theorem dX1_give_115 : decode cX1_give 115 = .ok (.iload_n 3, 1) := by decide +kernel
theorem dX1_give_116 : decode cX1_give 116 = .ok (.iload 6, 2) := by decide +kernel
theorem dX1_give_118 : decode cX1_give 118 = .ok (.invokevirtual 28, 3) := by decide +kernel
theorem dX1_give_121 : decode cX1_give 121 = .ok (.aload_n 0, 1) := by decide +kernel
theorem dX1_give_122 : decode cX1_give 122 = .ok (.getstatic 25, 3) := by decide +kernel
theorem dX1_give_125 : decode cX1_give 125 = .ok (.iload 5, 2) := by decide +kernel
theorem dX1_give_127 : decode cX1_give 127 = .ok (.iaload, 1) := by decide +kernel
theorem dX1_give_128 : decode cX1_give 128 = .ok (.aload_n 2, 1) := by decide +kernel
theorem dX1_give_129 : decode cX1_give 129 = .ok (.iload_n 3, 1) := by decide +kernel
theorem dX1_give_130 : decode cX1_give 130 = .ok (.iload 6, 2) := by decide +kernel
theorem dX1_give_132 : decode cX1_give 132 = .ok (.invokevirtual 28, 3) := by decide +kernel
theorem dX1_give_135 : decode cX1_give 135 = .ok (.iadd, 1) := by decide +kernel
theorem dX1_give_136 : decode cX1_give 136 = .ok (.ireturn, 1) := by decide +kernel
theorem dX1_give_137 : decode cX1_give 137 = .ok (.aload_n 0, 1) := by decide +kernel
theorem dX1_give_138 : decode cX1_give 138 = .ok (.bipush 11, 2) := by decide +kernel
theorem dX1_give_140 : decode cX1_give 140 = .ok (.aload_n 2, 1) := by decide +kernel
theorem dX1_give_141 : decode cX1_give 141 = .ok (.iload_n 3, 1) := by decide +kernel
theorem dX1_give_142 : decode cX1_give 142 = .ok (.iload 6, 2) := by decide +kernel
theorem dX1_give_144 : decode cX1_give 144 = .ok (.invokevirtual 28, 3) := by decide +kernel
theorem dX1_give_147 : decode cX1_give 147 = .ok (.ineg, 1) := by decide +kernel
theorem dX1_give_148 : decode cX1_give 148 = .ok (.ireturn, 1) := by decide +kernel
theorem dX1_give_149 : decode cX1_give 149 = .ok (.aload_n 0, 1) := by decide +kernel
theorem dX1_give_150 : decode cX1_give 150 = .ok (.bipush 10, 2) := by decide +kernel
theorem dX1_give_152 : decode cX1_give 152 = .ok (.aload_n 2, 1) := by decide +kernel
theorem dX1_give_153 : decode cX1_give 153 = .ok (.iload_n 3, 1) := by decide +kernel
theorem dX1_give_154 : decode cX1_give 154 = .ok (.iload 6, 2) := by decide +kernel
theorem dX1_give_156 : decode cX1_give 156 = .ok (.invokevirtual 28, 3) := by decide +kernel
theorem dX1_give_159 : decode cX1_give 159 = .ok (.bipush 100, 2) := by decide +kernel
theorem dX1_give_161 : decode cX1_give 161 = .ok (.isub, 1) := by decide +kernel
theorem dX1_give_162 : decode cX1_give 162 = .ok (.ireturn, 1) := by decide +kernel
theorem dX1_give_163 : decode cX1_give 163 = .ok (.iconst 2, 1) := by decide +kernel
theorem dX1_give_164 : decode cX1_give 164 = .ok (.aload_n 0, 1) := by decide +kernel
theorem dX1_give_165 : decode cX1_give 165 = .ok (.bipush 13, 2) := by decide +kernel
theorem dX1_give_167 : decode cX1_give 167 = .ok (.aload_n 2, 1) := by decide +kernel
theorem dX1_give_168 : decode cX1_give 168 = .ok (.iload_n 3, 1) := by decide +kernel
theorem dX1_give_169 : decode cX1_give 169 = .ok (.iload 6, 2) := by decide +kernel
theorem dX1_give_171 : decode cX1_give 171 = .ok (.invokevirtual 28, 3) := by decide +kernel
theorem dX1_give_174 : decode cX1_give 174 = .ok (.imul, 1) := by decide +kernel
theorem dX1_give_175 : decode cX1_give 175 = .ok (.ireturn, 1) := by decide +kernel
theorem dX1_give_176 : decode cX1_give 176 = .ok (.iload_n 3, 1) := by decide +kernel
theorem dX1_give_177 : decode cX1_give 177 = .ok (.ireturn, 1) := by decide +kernel
theorem dX1_give_178 : decode cX1_give 178 = .ok (.aload_n 0, 1) := by decide +kernel
theorem dX1_give_179 : decode cX1_give 179 = .ok (.bipush 20, 2) := by decide +kernel
theorem dX1_give_181 : decode cX1_give 181 = .ok (.aload_n 2, 1) := by decide +kernel
theorem dX1_give_182 : decode cX1_give 182 = .ok (.iload_n 3, 1) := by decide +kernel
theorem dX1_give_183 : decode cX1_give 183 = .ok (.iload 6, 2) := by decide +kernel
theorem dX1_give_185 : decode cX1_give 185 = .ok (.invokevirtual 28, 3) := by decide +kernel
theorem dX1_give_188 : decode cX1_give 188 = .ok (.aload_n 2, 1) := by decide +kernel
theorem dX1_give_189 : decode cX1_give 189 = .ok (.getfield 39, 3) := by decide +kernel
theorem dX1_give_192 : decode cX1_give 192 = .ok (.iload_n 3, 1) := by decide +kernel
theorem dX1_give_193 : decode cX1_give 193 = .ok (.iaload, 1) := by decide +kernel
theorem dX1_give_194 : decode cX1_give 194 = .ok (.iadd, 1) := by decide +kernel
theorem dX1_give_195 : decode cX1_give 195 = .ok (.ireturn, 1) := by decide +kernel
theorem dX1_give_196 : decode cX1_give 196 = .ok (.aload_n 0, 1) := by decide +kernel
theorem dX1_give_197 : decode cX1_give 197 = .ok (.bipush 21, 2) := by decide +kernel
theorem dX1_give_199 : decode cX1_give 199 = .ok (.aload_n 2, 1) := by decide +kernel
theorem dX1_give_200 : decode cX1_give 200 = .ok (.iload_n 3, 1) := by decide +kernel
theorem dX1_give_201 : decode cX1_give 201 = .ok (.iload 6, 2) := by decide +kernel
theorem dX1_give_203 : decode cX1_give 203 = .ok (.invokevirtual 28, 3) := by decide +kernel
theorem dX1_give_206 : decode cX1_give 206 = .ok (.sipush 1000, 3) := by decide +kernel
theorem dX1_give_209 : decode cX1_give 209 = .ok (.isub, 1) := by decide +kernel
theorem dX1_give_210 : decode cX1_give 210 = .ok (.ireturn, 1) := by decide +kernel
theorem dX1_give_211 : decode cX1_give 211 = .ok (.aload_n 0, 1) := by decide +kernel
theorem dX1_give_212 : decode cX1_give 212 = .ok (.bipush 20, 2) := by decide +kernel
theorem dX1_give_214 : decode cX1_give 214 = .ok (.aload_n 2, 1) := by decide +kernel
theorem dX1_give_215 : decode cX1_give 215 = .ok (.iload_n 3, 1) := by decide +kernel
theorem dX1_give_216 : decode cX1_give 216 = .ok (.iload 6, 2) := by decide +kernel
theorem dX1_give_218 : decode cX1_give 218 = .ok (.invokevirtual 28, 3) := by decide +kernel
theorem dX1_give_221 : decode cX1_give 221 = .ok (.aload_n 0, 1) := by decide +kernel
theorem dX1_give_222 : decode cX1_give 222 = .ok (.getstatic 22, 3) := by decide +kernel
theorem dX1_give_225 : decode cX1_give 225 = .ok (.iload 5, 2) := by decide +kernel
theorem dX1_give_227 : decode cX1_give 227 = .ok (.iaload, 1) := by decide +kernel
theorem dX1_give_228 : decode cX1_give 228 = .ok (.aload_n 2, 1) := by decide +kernel
theorem dX1_give_229 : decode cX1_give 229 = .ok (.iload_n 3, 1) := by decide +kernel
theorem dX1_give_230 : decode cX1_give 230 = .ok (.iload 6, 2) := by decide +kernel
theorem dX1_give_232 : decode cX1_give 232 = .ok (.invokevirtual 28, 3) := by decide +kernel
theorem dX1_give_235 : decode cX1_give 235 = .ok (.isub, 1) := by decide +kernel
theorem dX1_give_236 : decode cX1_give 236 = .ok (.ireturn, 1) := by decide +kernel
theorem dX1_give_237 : decode cX1_give 237 = .ok (.iconst 2, 1) := by decide +kernel
theorem dX1_give_238 : decode cX1_give 238 = .ok (.aload_n 0, 1) := by decide +kernel
theorem dX1_give_239 : decode cX1_give 239 = .ok (.bipush 21, 2) := by decide +kernel
theorem dX1_give_241 : decode cX1_give 241 = .ok (.aload_n 2, 1) := by decide +kernel
theorem dX1_give_242 : decode cX1_give 242 = .ok (.iload_n 3, 1) := by decide +kernel
theorem dX1_give_243 : decode cX1_give 243 = .ok (.iload 6, 2) := by decide +kernel
theorem dX1_give_245 : decode cX1_give 245 = .ok (.invokevirtual 28, 3) := by decide +kernel
theorem dX1_give_248 : decode cX1_give 248 = .ok (.imul, 1) := by decide +kernel
theorem dX1_give_249 : decode cX1_give 249 = .ok (.ireturn, 1) := by decide +kernel
theorem dX1_give_250 : decode cX1_give 250 = .ok (.iconst 0, 1) := by decide +kernel
theorem dX1_give_251 : decode cX1_give 251 = .ok (.ireturn, 1) := by decide +kernel
theorem dX1_leave_0 : decode cX1_leave 0 = .ok (.aload_n 0, 1) := by decide +kernel
theorem dX1_leave_1 : decode cX1_leave 1 = .ok (.getfield 13, 3) := by decide +kernel
theorem dX1_leave_4 : decode cX1_leave 4 = .ok (.bipush 16, 2) := by decide +kernel
theorem dX1_leave_6 : decode cX1_leave 6 = .ok (.if_icmp .ge 23, 3) := by decide +kernel
theorem dX1_leave_9 : decode cX1_leave 9 = .ok (.aload_n 0, 1) := by decide +kernel
theorem dX1_leave_10 : decode cX1_leave 10 = .ok (.getfield 9, 3) := by decide +kernel
theorem dX1_leave_13 : decode cX1_leave 13 = .ok (.aload_n 0, 1) := by decide +kernel
theorem dX1_leave_14 : decode cX1_leave 14 = .ok (.getfield 13, 3) := by decide +kernel
theorem dX1_leave_17 : decode cX1_leave 17 = .ok (.iload_n 1, 1) := by decide +kernel
theorem dX1_leave_18 : decode cX1_leave 18 = .ok (.iastore, 1) := by decide +kernel
theorem dX1_leave_19 : decode cX1_leave 19 = .ok (.aload_n 0, 1) := by decide +kernel
theorem dX1_leave_20 : decode cX1_leave 20 = .ok (.dup, 1) := by decide +kernel
theorem dX1_leave_21 : decode cX1_leave 21 = .ok (.getfield 13, 3) := by decide +kernel
theorem dX1_leave_24 : decode cX1_leave 24 = .ok (.iconst 1, 1) := by decide +kernel
theorem dX1_leave_25 : decode cX1_leave 25 = .ok (.iadd, 1) := by decide +kernel
theorem dX1_leave_26 : decode cX1_leave 26 = .ok (.putfield 13, 3) := by decide +kernel
theorem dX1_leave_29 : decode cX1_leave 29 = .ok (.return_, 1) := by decide +kernel
theorem dX2_init_0 : decode cX2_init 0 = .ok (.aload_n 0, 1) := by decide +kernel
theorem dX2_init_1 : decode cX2_init 1 = .ok (.invokespecial 3, 3) := by decide +kernel
theorem dX2_init_4 : decode cX2_init 4 = .ok (.aload_n 0, 1) := by decide +kernel
theorem dX2_init_5 : decode cX2_init 5 = .ok (.bipush 12, 2) := by decide +kernel
theorem dX2_init_7 : decode cX2_init 7 = .ok (.newarray .int, 2) := by decide +kernel
theorem dX2_init_9 : decode cX2_init 9 = .ok (.putfield 9, 3) := by decide +kernel
theorem dX2_init_12 : decode cX2_init 12 = .ok (.aload_n 0, 1) := by decide +kernel
theorem dX2_init_13 : decode cX2_init 13 = .ok (.iconst 0, 1) := by decide +kernel
theorem dX2_init_14 : decode cX2_init 14 = .ok (.putfield 15, 3) := by decide +kernel
theorem dX2_init_17 : decode cX2_init 17 = .ok (.aload_n 0, 1) := by decide +kernel
theorem dX2_init_18 : decode cX2_init 18 = .ok (.iconst 0, 1) := by decide +kernel
theorem dX2_init_19 : decode cX2_init 19 = .ok (.putfield 19, 3) := by decide +kernel
theorem dX2_init_22 : decode cX2_init 22 = .ok (.aload_n 0, 1) := by decide +kernel
theorem dX2_init_23 : decode cX2_init 23 = .ok (.iconst (-1), 1) := by decide +kernel
theorem dX2_init_24 : decode cX2_init 24 = .ok (.putfield 22, 3) := by decide +kernel
theorem dX2_init_27 : decode cX2_init 27 = .ok (.return_, 1) := by decide +kernel
theorem dX2_weigh_0 : decode cX2_weigh 0 = .ok (.aload_n 0, 1) := by decide +kernel
theorem dX2_weigh_1 : decode cX2_weigh 1 = .ok (.aload_n 1, 1) := by decide +kernel
theorem dX2_weigh_2 : decode cX2_weigh 2 = .ok (.getfield 25, 3) := by decide +kernel
theorem dX2_weigh_5 : decode cX2_weigh 5 = .ok (.putfield 15, 3) := by decide +kernel
theorem dX2_weigh_8 : decode cX2_weigh 8 = .ok (.iconst 0, 1) := by decide +kernel
theorem dX2_weigh_9 : decode cX2_weigh 9 = .ok (.istore 4, 2) := by decide +kernel
theorem dX2_weigh_11 : decode cX2_weigh 11 = .ok (.iload 4, 2) := by decide +kernel
theorem dX2_weigh_13 : decode cX2_weigh 13 = .ok (.aload_n 0, 1) := by decide +kernel
theorem dX2_weigh_14 : decode cX2_weigh 14 = .ok (.getfield 15, 3) := by decide +kernel
theorem dX2_weigh_17 : decode cX2_weigh 17 = .ok (.if_icmp .ge 60, 3) := by decide +kernel
theorem dX2_weigh_20 : decode cX2_weigh 20 = .ok (.aload_n 1, 1) := by decide +kernel
theorem dX2_weigh_21 : decode cX2_weigh 21 = .ok (.iload 4, 2) := by decide +kernel
theorem dX2_weigh_23 : decode cX2_weigh 23 = .ok (.invokevirtual 28, 3) := by decide +kernel
theorem dX2_weigh_26 : decode cX2_weigh 26 = .ok (.istore 5, 2) := by decide +kernel
theorem dX2_weigh_28 : decode cX2_weigh 28 = .ok (.iconst 0, 1) := by decide +kernel
theorem dX2_weigh_29 : decode cX2_weigh 29 = .ok (.istore 6, 2) := by decide +kernel
theorem dX2_weigh_31 : decode cX2_weigh 31 = .ok (.iload 6, 2) := by decide +kernel
theorem dX2_weigh_33 : decode cX2_weigh 33 = .ok (.iconst 2, 1) := by decide +kernel
theorem dX2_weigh_34 : decode cX2_weigh 34 = .ok (.if_icmp .ge 37, 3) := by decide +kernel
theorem dX2_weigh_37 : decode cX2_weigh 37 = .ok (.aload_n 0, 1) := by decide +kernel
theorem dX2_weigh_38 : decode cX2_weigh 38 = .ok (.getfield 9, 3) := by decide +kernel
theorem dX2_weigh_41 : decode cX2_weigh 41 = .ok (.iconst 2, 1) := by decide +kernel
theorem dX2_weigh_42 : decode cX2_weigh 42 = .ok (.iload 4, 2) := by decide +kernel
theorem dX2_weigh_44 : decode cX2_weigh 44 = .ok (.imul, 1) := by decide +kernel
theorem dX2_weigh_45 : decode cX2_weigh 45 = .ok (.iload 6, 2) := by decide +kernel
theorem dX2_weigh_47 : decode cX2_weigh 47 = .ok (.iadd, 1) := by decide +kernel
theorem dX2_weigh_48 : decode cX2_weigh 48 = .ok (.aload_n 1, 1) := by decide +kernel
theorem dX2_weigh_49 : decode cX2_weigh 49 = .ok (.iload 4, 2) := by decide +kernel
theorem dX2_weigh_51 : decode cX2_weigh 51 = .ok (.iload 6, 2) := by decide +kernel
theorem dX2_weigh_53 : decode cX2_weigh 53 = .ok (.iload_n 2, 1) := by decide +kernel
theorem dX2_weigh_54 : decode cX2_weigh 54 = .ok (.iload 5, 2) := by decide +kernel
theorem dX2_weigh_56 : decode cX2_weigh 56 = .ok (.iand, 1) := by decide +kernel
theorem dX2_weigh_57 : decode cX2_weigh 57 = .ok (.iload_n 3, 1) := by decide +kernel
theorem dX2_weigh_58 : decode cX2_weigh 58 = .ok (.iload 5, 2) := by decide +kernel
theorem dX2_weigh_60 : decode cX2_weigh 60 = .ok (.iand, 1) := by decide +kernel
theorem dX2_weigh_61 : decode cX2_weigh 61 = .ok (.invokestatic 32, 3) := by decide +kernel
theorem dX2_weigh_64 : decode cX2_weigh 64 = .ok (.iastore, 1) := by decide +kernel
theorem dX2_weigh_65 : decode cX2_weigh 65 = .ok (.iinc 6 1, 3) := by decide +kernel
theorem dX2_weigh_68 : decode cX2_weigh 68 = .ok (.goto (-37), 3) := by decide +kernel
theorem dX2_weigh_71 : decode cX2_weigh 71 = .ok (.iinc 4 1, 3) := by decide +kernel
theorem dX2_weigh_74 : decode cX2_weigh 74 = .ok (.goto (-63), 3) := by decide +kernel
theorem dX2_weigh_77 : decode cX2_weigh 77 = .ok (.return_, 1) := by decide +kernel
theorem dX2_choose_0 : decode cX2_choose 0 = .ok (.aload_n 0, 1) := by decide +kernel
theorem dX2_choose_1 : decode cX2_choose 1 = .ok (.iconst (-1), 1) := by decide +kernel
theorem dX2_choose_2 : decode cX2_choose 2 = .ok (.putfield 22, 3) := by decide +kernel
theorem dX2_choose_5 : decode cX2_choose 5 = .ok (.iconst 0, 1) := by decide +kernel
theorem dX2_choose_6 : decode cX2_choose 6 = .ok (.istore_n 1, 1) := by decide +kernel
theorem dX2_choose_7 : decode cX2_choose 7 = .ok (.iload_n 1, 1) := by decide +kernel
theorem dX2_choose_8 : decode cX2_choose 8 = .ok (.iconst 1, 1) := by decide +kernel
theorem dX2_choose_9 : decode cX2_choose 9 = .ok (.aload_n 0, 1) := by decide +kernel
theorem dX2_choose_10 : decode cX2_choose 10 = .ok (.getfield 15, 3) := by decide +kernel
theorem dX2_choose_13 : decode cX2_choose 13 = .ok (.ishl, 1) := by decide +kernel
theorem dX2_choose_14 : decode cX2_choose 14 = .ok (.if_icmp .ge 81, 3) := by decide +kernel
theorem dX2_choose_17 : decode cX2_choose 17 = .ok (.aload_n 0, 1) := by decide +kernel
theorem dX2_choose_18 : decode cX2_choose 18 = .ok (.iload_n 1, 1) := by decide +kernel
theorem dX2_choose_19 : decode cX2_choose 19 = .ok (.invokevirtual 36, 3) := by decide +kernel
theorem dX2_choose_22 : decode cX2_choose 22 = .ok (.istore_n 2, 1) := by decide +kernel
theorem dX2_choose_23 : decode cX2_choose 23 = .ok (.iload_n 2, 1) := by decide +kernel
theorem dX2_choose_24 : decode cX2_choose 24 = .ok (.iconst (-1), 1) := by decide +kernel
theorem dX2_choose_25 : decode cX2_choose 25 = .ok (.if_icmp .eq 23, 3) := by decide +kernel
theorem dX2_choose_28 : decode cX2_choose 28 = .ok (.aload_n 0, 1) := by decide +kernel
theorem dX2_choose_29 : decode cX2_choose 29 = .ok (.getfield 22, 3) := by decide +kernel
theorem dX2_choose_32 : decode cX2_choose 32 = .ok (.iconst (-1), 1) := by decide +kernel
theorem dX2_choose_33 : decode cX2_choose 33 = .ok (.if_icmp .eq 11, 3) := by decide +kernel
theorem dX2_choose_36 : decode cX2_choose 36 = .ok (.iload_n 2, 1) := by decide +kernel
theorem dX2_choose_37 : decode cX2_choose 37 = .ok (.aload_n 0, 1) := by decide +kernel
theorem dX2_choose_38 : decode cX2_choose 38 = .ok (.getfield 22, 3) := by decide +kernel
theorem dX2_choose_41 : decode cX2_choose 41 = .ok (.if_icmp .ge 7, 3) := by decide +kernel
theorem dX2_choose_44 : decode cX2_choose 44 = .ok (.iconst 1, 1) := by decide +kernel
theorem dX2_choose_45 : decode cX2_choose 45 = .ok (.goto 4, 3) := by decide +kernel
theorem dX2_choose_48 : decode cX2_choose 48 = .ok (.iconst 0, 1) := by decide +kernel
theorem dX2_choose_49 : decode cX2_choose 49 = .ok (.istore_n 3, 1) := by decide +kernel
theorem dX2_choose_50 : decode cX2_choose 50 = .ok (.iload_n 3, 1) := by decide +kernel
theorem dX2_choose_51 : decode cX2_choose 51 = .ok (.ifCond .ne 28, 3) := by decide +kernel
theorem dX2_choose_54 : decode cX2_choose 54 = .ok (.iload_n 2, 1) := by decide +kernel
theorem dX2_choose_55 : decode cX2_choose 55 = .ok (.iconst (-1), 1) := by decide +kernel
theorem dX2_choose_56 : decode cX2_choose 56 = .ok (.if_icmp .eq 33, 3) := by decide +kernel
theorem dX2_choose_59 : decode cX2_choose 59 = .ok (.iload_n 2, 1) := by decide +kernel
theorem dX2_choose_60 : decode cX2_choose 60 = .ok (.aload_n 0, 1) := by decide +kernel
theorem dX2_choose_61 : decode cX2_choose 61 = .ok (.getfield 22, 3) := by decide +kernel
theorem dX2_choose_64 : decode cX2_choose 64 = .ok (.if_icmp .ne 25, 3) := by decide +kernel
theorem dX2_choose_67 : decode cX2_choose 67 = .ok (.aload_n 0, 1) := by decide +kernel
theorem dX2_choose_68 : decode cX2_choose 68 = .ok (.iload_n 1, 1) := by decide +kernel
theorem dX2_choose_69 : decode cX2_choose 69 = .ok (.aload_n 0, 1) := by decide +kernel
theorem dX2_choose_70 : decode cX2_choose 70 = .ok (.getfield 19, 3) := by decide +kernel
theorem dX2_choose_73 : decode cX2_choose 73 = .ok (.invokevirtual 39, 3) := by decide +kernel
theorem dX2_choose_76 : decode cX2_choose 76 = .ok (.ifCond .eq 13, 3) := by decide +kernel
theorem dX2_choose_79 : decode cX2_choose 79 = .ok (.aload_n 0, 1) := by decide +kernel
theorem dX2_choose_80 : decode cX2_choose 80 = .ok (.iload_n 2, 1) := by decide +kernel
theorem dX2_choose_81 : decode cX2_choose 81 = .ok (.putfield 22, 3) := by decide +kernel
theorem dX2_choose_84 : decode cX2_choose 84 = .ok (.aload_n 0, 1) := by decide +kernel
theorem dX2_choose_85 : decode cX2_choose 85 = .ok (.iload_n 1, 1) := by decide +kernel
theorem dX2_choose_86 : decode cX2_choose 86 = .ok (.putfield 19, 3) := by decide +kernel
theorem dX2_choose_89 : decode cX2_choose 89 = .ok (.iinc 1 1, 3) := by decide +kernel
theorem dX2_choose_92 : decode cX2_choose 92 = .ok (.goto (-85), 3) := by decide +kernel
theorem dX2_choose_95 : decode cX2_choose 95 = .ok (.aload_n 0, 1) := by decide +kernel
theorem dX2_choose_96 : decode cX2_choose 96 = .ok (.getfield 22, 3) := by decide +kernel
theorem dX2_choose_99 : decode cX2_choose 99 = .ok (.iconst (-1), 1) := by decide +kernel
theorem dX2_choose_100 : decode cX2_choose 100 = .ok (.if_icmp .eq 7, 3) := by decide +kernel
theorem dX2_choose_103 : decode cX2_choose 103 = .ok (.iconst 1, 1) := by decide +kernel
theorem dX2_choose_104 : decode cX2_choose 104 = .ok (.goto 4, 3) := by decide +kernel
theorem dX2_choose_107 : decode cX2_choose 107 = .ok (.iconst 0, 1) := by decide +kernel
theorem dX2_choose_108 : decode cX2_choose 108 = .ok (.ireturn, 1) := by decide +kernel
theorem dX2_firstThatCanNot_0 : decode cX2_firstThatCanNot 0 = .ok (.iconst 0, 1) := by decide +kernel
theorem dX2_firstThatCanNot_1 : decode cX2_firstThatCanNot 1 = .ok (.istore_n 1, 1) := by decide +kernel
theorem dX2_firstThatCanNot_2 : decode cX2_firstThatCanNot 2 = .ok (.iload_n 1, 1) := by decide +kernel
theorem dX2_firstThatCanNot_3 : decode cX2_firstThatCanNot 3 = .ok (.aload_n 0, 1) := by decide +kernel
theorem dX2_firstThatCanNot_4 : decode cX2_firstThatCanNot 4 = .ok (.getfield 15, 3) := by decide +kernel
theorem dX2_firstThatCanNot_7 : decode cX2_firstThatCanNot 7 = .ok (.if_icmp .ge 37, 3) := by decide +kernel
theorem dX2_firstThatCanNot_10 : decode cX2_firstThatCanNot 10 = .ok (.aload_n 0, 1) := by decide +kernel
theorem dX2_firstThatCanNot_11 : decode cX2_firstThatCanNot 11 = .ok (.getfield 9, 3) := by decide +kernel
theorem dX2_firstThatCanNot_14 : decode cX2_firstThatCanNot 14 = .ok (.iconst 2, 1) := by decide +kernel
theorem dX2_firstThatCanNot_15 : decode cX2_firstThatCanNot 15 = .ok (.iload_n 1, 1) := by decide +kernel
theorem dX2_firstThatCanNot_16 : decode cX2_firstThatCanNot 16 = .ok (.imul, 1) := by decide +kernel
theorem dX2_firstThatCanNot_17 : decode cX2_firstThatCanNot 17 = .ok (.iaload, 1) := by decide +kernel
theorem dX2_firstThatCanNot_18 : decode cX2_firstThatCanNot 18 = .ok (.iconst (-1), 1) := by decide +kernel
theorem dX2_firstThatCanNot_19 : decode cX2_firstThatCanNot 19 = .ok (.if_icmp .ne 19, 3) := by decide +kernel
theorem dX2_firstThatCanNot_22 : decode cX2_firstThatCanNot 22 = .ok (.aload_n 0, 1) := by decide +kernel
theorem dX2_firstThatCanNot_23 : decode cX2_firstThatCanNot 23 = .ok (.getfield 9, 3) := by decide +kernel
theorem dX2_firstThatCanNot_26 : decode cX2_firstThatCanNot 26 = .ok (.iconst 2, 1) := by decide +kernel
theorem dX2_firstThatCanNot_27 : decode cX2_firstThatCanNot 27 = .ok (.iload_n 1, 1) := by decide +kernel
theorem dX2_firstThatCanNot_28 : decode cX2_firstThatCanNot 28 = .ok (.imul, 1) := by decide +kernel
theorem dX2_firstThatCanNot_29 : decode cX2_firstThatCanNot 29 = .ok (.iconst 1, 1) := by decide +kernel
theorem dX2_firstThatCanNot_30 : decode cX2_firstThatCanNot 30 = .ok (.iadd, 1) := by decide +kernel
theorem dX2_firstThatCanNot_31 : decode cX2_firstThatCanNot 31 = .ok (.iaload, 1) := by decide +kernel
theorem dX2_firstThatCanNot_32 : decode cX2_firstThatCanNot 32 = .ok (.iconst (-1), 1) := by decide +kernel
theorem dX2_firstThatCanNot_33 : decode cX2_firstThatCanNot 33 = .ok (.if_icmp .ne 5, 3) := by decide +kernel
theorem dX2_firstThatCanNot_36 : decode cX2_firstThatCanNot 36 = .ok (.iload_n 1, 1) := by decide +kernel
theorem dX2_firstThatCanNot_37 : decode cX2_firstThatCanNot 37 = .ok (.ireturn, 1) := by decide +kernel
theorem dX2_firstThatCanNot_38 : decode cX2_firstThatCanNot 38 = .ok (.iinc 1 1, 3) := by decide +kernel
theorem dX2_firstThatCanNot_41 : decode cX2_firstThatCanNot 41 = .ok (.goto (-39), 3) := by decide +kernel
theorem dX2_firstThatCanNot_44 : decode cX2_firstThatCanNot 44 = .ok (.ldc 43, 2) := by decide +kernel
theorem dX2_firstThatCanNot_46 : decode cX2_firstThatCanNot 46 = .ok (.ireturn, 1) := by decide +kernel
theorem dX2_codeAt_0 : decode cX2_codeAt 0 = .ok (.bipush 7, 2) := by decide +kernel
theorem dX2_codeAt_2 : decode cX2_codeAt 2 = .ok (.iload_n 1, 1) := by decide +kernel
theorem dX2_codeAt_3 : decode cX2_codeAt 3 = .ok (.ishl, 1) := by decide +kernel
theorem dX2_codeAt_4 : decode cX2_codeAt 4 = .ok (.iconst 1, 1) := by decide +kernel
theorem dX2_codeAt_5 : decode cX2_codeAt 5 = .ok (.ishr, 1) := by decide +kernel
theorem dX2_codeAt_6 : decode cX2_codeAt 6 = .ok (.istore_n 3, 1) := by decide +kernel
theorem dX2_codeAt_7 : decode cX2_codeAt 7 = .ok (.iload_n 2, 1) := by decide +kernel
theorem dX2_codeAt_8 : decode cX2_codeAt 8 = .ok (.iload_n 3, 1) := by decide +kernel
theorem dX2_codeAt_9 : decode cX2_codeAt 9 = .ok (.iand, 1) := by decide +kernel
theorem dX2_codeAt_10 : decode cX2_codeAt 10 = .ok (.ifCond .eq 7, 3) := by decide +kernel
theorem dX2_codeAt_13 : decode cX2_codeAt 13 = .ok (.iconst 1, 1) := by decide +kernel
theorem dX2_codeAt_14 : decode cX2_codeAt 14 = .ok (.goto 4, 3) := by decide +kernel
theorem dX2_codeAt_17 : decode cX2_codeAt 17 = .ok (.iconst 0, 1) := by decide +kernel
theorem dX2_codeAt_18 : decode cX2_codeAt 18 = .ok (.istore 4, 2) := by decide +kernel
theorem dX2_codeAt_20 : decode cX2_codeAt 20 = .ok (.aload_n 0, 1) := by decide +kernel
theorem dX2_codeAt_21 : decode cX2_codeAt 21 = .ok (.getfield 9, 3) := by decide +kernel
theorem dX2_codeAt_24 : decode cX2_codeAt 24 = .ok (.iconst 2, 1) := by decide +kernel
theorem dX2_codeAt_25 : decode cX2_codeAt 25 = .ok (.iload_n 1, 1) := by decide +kernel
theorem dX2_codeAt_26 : decode cX2_codeAt 26 = .ok (.imul, 1) := by decide +kernel
theorem dX2_codeAt_27 : decode cX2_codeAt 27 = .ok (.iload 4, 2) := by decide +kernel
theorem dX2_codeAt_29 : decode cX2_codeAt 29 = .ok (.iadd, 1) := by decide +kernel
theorem dX2_codeAt_30 : decode cX2_codeAt 30 = .ok (.iaload, 1) := by decide +kernel
theorem dX2_codeAt_31 : decode cX2_codeAt 31 = .ok (.istore 5, 2) := by decide +kernel
theorem dX2_codeAt_33 : decode cX2_codeAt 33 = .ok (.iload 5, 2) := by decide +kernel
theorem dX2_codeAt_35 : decode cX2_codeAt 35 = .ok (.iconst (-1), 1) := by decide +kernel
theorem dX2_codeAt_36 : decode cX2_codeAt 36 = .ok (.if_icmp .ne 7, 3) := by decide +kernel
theorem dX2_codeAt_39 : decode cX2_codeAt 39 = .ok (.iconst (-1), 1) := by decide +kernel
theorem dX2_codeAt_40 : decode cX2_codeAt 40 = .ok (.goto 11, 3) := by decide +kernel
theorem dX2_codeAt_43 : decode cX2_codeAt 43 = .ok (.iload 5, 2) := by decide +kernel
theorem dX2_codeAt_45 : decode cX2_codeAt 45 = .ok (.iload_n 2, 1) := by decide +kernel
theorem dX2_codeAt_46 : decode cX2_codeAt 46 = .ok (.iload_n 1, 1) := by decide +kernel
theorem dX2_codeAt_47 : decode cX2_codeAt 47 = .ok (.ishr, 1) := by decide +kernel
theorem dX2_codeAt_48 : decode cX2_codeAt 48 = .ok (.iconst 1, 1) := by decide +kernel
theorem dX2_codeAt_49 : decode cX2_codeAt 49 = .ok (.iand, 1) := by decide +kernel
theorem dX2_codeAt_50 : decode cX2_codeAt 50 = .ok (.iadd, 1) := by decide +kernel
theorem dX2_codeAt_51 : decode cX2_codeAt 51 = .ok (.ireturn, 1) := by decide +kernel
theorem dX2_totalOf_0 : decode cX2_totalOf 0 = .ok (.iconst 0, 1) := by decide +kernel
theorem dX2_totalOf_1 : decode cX2_totalOf 1 = .ok (.istore_n 2, 1) := by decide +kernel
theorem dX2_totalOf_2 : decode cX2_totalOf 2 = .ok (.iconst 0, 1) := by decide +kernel
theorem dX2_totalOf_3 : decode cX2_totalOf 3 = .ok (.istore_n 3, 1) := by decide +kernel
theorem dX2_totalOf_4 : decode cX2_totalOf 4 = .ok (.iload_n 3, 1) := by decide +kernel
theorem dX2_totalOf_5 : decode cX2_totalOf 5 = .ok (.aload_n 0, 1) := by decide +kernel
theorem dX2_totalOf_6 : decode cX2_totalOf 6 = .ok (.getfield 15, 3) := by decide +kernel
theorem dX2_totalOf_9 : decode cX2_totalOf 9 = .ok (.if_icmp .ge 33, 3) := by decide +kernel
theorem dX2_totalOf_12 : decode cX2_totalOf 12 = .ok (.aload_n 0, 1) := by decide +kernel
theorem dX2_totalOf_13 : decode cX2_totalOf 13 = .ok (.iload_n 3, 1) := by decide +kernel
theorem dX2_totalOf_14 : decode cX2_totalOf 14 = .ok (.iload_n 1, 1) := by decide +kernel
theorem dX2_totalOf_15 : decode cX2_totalOf 15 = .ok (.invokevirtual 44, 3) := by decide +kernel
theorem dX2_totalOf_18 : decode cX2_totalOf 18 = .ok (.istore 4, 2) := by decide +kernel
theorem dX2_totalOf_20 : decode cX2_totalOf 20 = .ok (.iload 4, 2) := by decide +kernel
theorem dX2_totalOf_22 : decode cX2_totalOf 22 = .ok (.iconst (-1), 1) := by decide +kernel
theorem dX2_totalOf_23 : decode cX2_totalOf 23 = .ok (.if_icmp .ne 5, 3) := by decide +kernel
theorem dX2_totalOf_26 : decode cX2_totalOf 26 = .ok (.iconst (-1), 1) := by decide +kernel
theorem dX2_totalOf_27 : decode cX2_totalOf 27 = .ok (.ireturn, 1) := by decide +kernel
theorem dX2_totalOf_28 : decode cX2_totalOf 28 = .ok (.iload_n 2, 1) := by decide +kernel
theorem dX2_totalOf_29 : decode cX2_totalOf 29 = .ok (.iload 4, 2) := by decide +kernel
theorem dX2_totalOf_31 : decode cX2_totalOf 31 = .ok (.invokestatic 48, 3) := by decide +kernel
theorem dX2_totalOf_34 : decode cX2_totalOf 34 = .ok (.iadd, 1) := by decide +kernel
theorem dX2_totalOf_35 : decode cX2_totalOf 35 = .ok (.istore_n 2, 1) := by decide +kernel
theorem dX2_totalOf_36 : decode cX2_totalOf 36 = .ok (.iinc 3 1, 3) := by decide +kernel
theorem dX2_totalOf_39 : decode cX2_totalOf 39 = .ok (.goto (-35), 3) := by decide +kernel
theorem dX2_totalOf_42 : decode cX2_totalOf 42 = .ok (.iload_n 2, 1) := by decide +kernel
theorem dX2_totalOf_43 : decode cX2_totalOf 43 = .ok (.ireturn, 1) := by decide +kernel
theorem dX2_isAhead_0 : decode cX2_isAhead 0 = .ok (.iconst 0, 1) := by decide +kernel
theorem dX2_isAhead_1 : decode cX2_isAhead 1 = .ok (.istore_n 3, 1) := by decide +kernel
theorem dX2_isAhead_2 : decode cX2_isAhead 2 = .ok (.iload_n 3, 1) := by decide +kernel
theorem dX2_isAhead_3 : decode cX2_isAhead 3 = .ok (.aload_n 0, 1) := by decide +kernel
theorem dX2_isAhead_4 : decode cX2_isAhead 4 = .ok (.getfield 15, 3) := by decide +kernel
theorem dX2_isAhead_7 : decode cX2_isAhead 7 = .ok (.if_icmp .ge 45, 3) := by decide +kernel
theorem dX2_isAhead_10 : decode cX2_isAhead 10 = .ok (.aload_n 0, 1) := by decide +kernel
theorem dX2_isAhead_11 : decode cX2_isAhead 11 = .ok (.iload_n 3, 1) := by decide +kernel
theorem dX2_isAhead_12 : decode cX2_isAhead 12 = .ok (.iload_n 1, 1) := by decide +kernel
theorem dX2_isAhead_13 : decode cX2_isAhead 13 = .ok (.invokevirtual 44, 3) := by decide +kernel
theorem dX2_isAhead_16 : decode cX2_isAhead 16 = .ok (.istore 4, 2) := by decide +kernel
theorem dX2_isAhead_18 : decode cX2_isAhead 18 = .ok (.aload_n 0, 1) := by decide +kernel
theorem dX2_isAhead_19 : decode cX2_isAhead 19 = .ok (.iload_n 3, 1) := by decide +kernel
theorem dX2_isAhead_20 : decode cX2_isAhead 20 = .ok (.iload_n 2, 1) := by decide +kernel
theorem dX2_isAhead_21 : decode cX2_isAhead 21 = .ok (.invokevirtual 44, 3) := by decide +kernel
theorem dX2_isAhead_24 : decode cX2_isAhead 24 = .ok (.istore 5, 2) := by decide +kernel
theorem dX2_isAhead_26 : decode cX2_isAhead 26 = .ok (.iload 4, 2) := by decide +kernel
theorem dX2_isAhead_28 : decode cX2_isAhead 28 = .ok (.iload 5, 2) := by decide +kernel
theorem dX2_isAhead_30 : decode cX2_isAhead 30 = .ok (.if_icmp .eq 16, 3) := by decide +kernel
theorem dX2_isAhead_33 : decode cX2_isAhead 33 = .ok (.iload 4, 2) := by decide +kernel
theorem dX2_isAhead_35 : decode cX2_isAhead 35 = .ok (.iload 5, 2) := by decide +kernel
theorem dX2_isAhead_37 : decode cX2_isAhead 37 = .ok (.if_icmp .ge 7, 3) := by decide +kernel
theorem dX2_isAhead_40 : decode cX2_isAhead 40 = .ok (.iconst 1, 1) := by decide +kernel
theorem dX2_isAhead_41 : decode cX2_isAhead 41 = .ok (.goto 4, 3) := by decide +kernel
theorem dX2_isAhead_44 : decode cX2_isAhead 44 = .ok (.iconst 0, 1) := by decide +kernel
theorem dX2_isAhead_45 : decode cX2_isAhead 45 = .ok (.ireturn, 1) := by decide +kernel
theorem dX2_isAhead_46 : decode cX2_isAhead 46 = .ok (.iinc 3 1, 3) := by decide +kernel
theorem dX2_isAhead_49 : decode cX2_isAhead 49 = .ok (.goto (-47), 3) := by decide +kernel
theorem dX2_isAhead_52 : decode cX2_isAhead 52 = .ok (.iconst 0, 1) := by decide +kernel
theorem dX2_isAhead_53 : decode cX2_isAhead 53 = .ok (.ireturn, 1) := by decide +kernel
theorem dX2_costOf_0 : decode cX2_costOf 0 = .ok (.iload_n 0, 1) := by decide +kernel
theorem dX2_costOf_1 : decode cX2_costOf 1 = .ok (.iconst 2, 1) := by decide +kernel
theorem dX2_costOf_2 : decode cX2_costOf 2 = .ok (.ishr, 1) := by decide +kernel
theorem dX2_costOf_3 : decode cX2_costOf 3 = .ok (.iload_n 0, 1) := by decide +kernel
theorem dX2_costOf_4 : decode cX2_costOf 4 = .ok (.iconst 1, 1) := by decide +kernel
theorem dX2_costOf_5 : decode cX2_costOf 5 = .ok (.ishr, 1) := by decide +kernel
theorem dX2_costOf_6 : decode cX2_costOf 6 = .ok (.iconst 1, 1) := by decide +kernel
theorem dX2_costOf_7 : decode cX2_costOf 7 = .ok (.iand, 1) := by decide +kernel
theorem dX2_costOf_8 : decode cX2_costOf 8 = .ok (.iadd, 1) := by decide +kernel
theorem dX2_costOf_9 : decode cX2_costOf 9 = .ok (.iload_n 0, 1) := by decide +kernel
theorem dX2_costOf_10 : decode cX2_costOf 10 = .ok (.iconst 1, 1) := by decide +kernel
theorem dX2_costOf_11 : decode cX2_costOf 11 = .ok (.iand, 1) := by decide +kernel
theorem dX2_costOf_12 : decode cX2_costOf 12 = .ok (.iadd, 1) := by decide +kernel
theorem dX2_costOf_13 : decode cX2_costOf 13 = .ok (.ireturn, 1) := by decide +kernel
theorem dX2_cheapestAt_0 : decode cX2_cheapestAt 0 = .ok (.iconst (-1), 1) := by decide +kernel
theorem dX2_cheapestAt_1 : decode cX2_cheapestAt 1 = .ok (.istore 5, 2) := by decide +kernel
theorem dX2_cheapestAt_3 : decode cX2_cheapestAt 3 = .ok (.iconst 0, 1) := by decide +kernel
theorem dX2_cheapestAt_4 : decode cX2_cheapestAt 4 = .ok (.istore 6, 2) := by decide +kernel
theorem dX2_cheapestAt_6 : decode cX2_cheapestAt 6 = .ok (.iload 6, 2) := by decide +kernel
theorem dX2_cheapestAt_8 : decode cX2_cheapestAt 8 = .ok (.bipush 22, 2) := by decide +kernel
theorem dX2_cheapestAt_10 : decode cX2_cheapestAt 10 = .ok (.if_icmp .gt 60, 3) := by decide +kernel
theorem dX2_cheapestAt_13 : decode cX2_cheapestAt 13 = .ok (.iload 5, 2) := by decide +kernel
theorem dX2_cheapestAt_15 : decode cX2_cheapestAt 15 = .ok (.iconst (-1), 1) := by decide +kernel
theorem dX2_cheapestAt_16 : decode cX2_cheapestAt 16 = .ok (.if_icmp .eq 16, 3) := by decide +kernel
theorem dX2_cheapestAt_19 : decode cX2_cheapestAt 19 = .ok (.iload 6, 2) := by decide +kernel
theorem dX2_cheapestAt_21 : decode cX2_cheapestAt 21 = .ok (.invokestatic 48, 3) := by decide +kernel
theorem dX2_cheapestAt_24 : decode cX2_cheapestAt 24 = .ok (.iload 5, 2) := by decide +kernel
theorem dX2_cheapestAt_26 : decode cX2_cheapestAt 26 = .ok (.invokestatic 48, 3) := by decide +kernel
theorem dX2_cheapestAt_29 : decode cX2_cheapestAt 29 = .ok (.if_icmp .ge 7, 3) := by decide +kernel
theorem dX2_cheapestAt_32 : decode cX2_cheapestAt 32 = .ok (.iconst 1, 1) := by decide +kernel
theorem dX2_cheapestAt_33 : decode cX2_cheapestAt 33 = .ok (.goto 4, 3) := by decide +kernel
theorem dX2_cheapestAt_36 : decode cX2_cheapestAt 36 = .ok (.iconst 0, 1) := by decide +kernel
theorem dX2_cheapestAt_37 : decode cX2_cheapestAt 37 = .ok (.istore 7, 2) := by decide +kernel
theorem dX2_cheapestAt_39 : decode cX2_cheapestAt 39 = .ok (.iload 7, 2) := by decide +kernel
theorem dX2_cheapestAt_41 : decode cX2_cheapestAt 41 = .ok (.ifCond .eq 23, 3) := by decide +kernel
theorem dX2_cheapestAt_44 : decode cX2_cheapestAt 44 = .ok (.aload_n 0, 1) := by decide +kernel
theorem dX2_cheapestAt_45 : decode cX2_cheapestAt 45 = .ok (.iload_n 1, 1) := by decide +kernel
theorem dX2_cheapestAt_46 : decode cX2_cheapestAt 46 = .ok (.iload_n 2, 1) := by decide +kernel
theorem dX2_cheapestAt_47 : decode cX2_cheapestAt 47 = .ok (.iload 6, 2) := by decide +kernel
theorem dX2_cheapestAt_49 : decode cX2_cheapestAt 49 = .ok (.iload_n 3, 1) := by decide +kernel
theorem dX2_cheapestAt_50 : decode cX2_cheapestAt 50 = .ok (.iload 4, 2) := by decide +kernel
theorem dX2_cheapestAt_52 : decode cX2_cheapestAt 52 = .ok (.ior, 1) := by decide +kernel
theorem dX2_cheapestAt_53 : decode cX2_cheapestAt 53 = .ok (.invokestatic 51, 3) := by decide +kernel
theorem dX2_cheapestAt_56 : decode cX2_cheapestAt 56 = .ok (.iload_n 3, 1) := by decide +kernel
theorem dX2_cheapestAt_57 : decode cX2_cheapestAt 57 = .ok (.if_icmp .ne 7, 3) := by decide +kernel
theorem dX2_cheapestAt_60 : decode cX2_cheapestAt 60 = .ok (.iload 6, 2) := by decide +kernel
theorem dX2_cheapestAt_62 : decode cX2_cheapestAt 62 = .ok (.istore 5, 2) := by decide +kernel
theorem dX2_cheapestAt_64 : decode cX2_cheapestAt 64 = .ok (.iinc 6 2, 3) := by decide +kernel
theorem dX2_cheapestAt_67 : decode cX2_cheapestAt 67 = .ok (.goto (-61), 3) := by decide +kernel
theorem dX2_cheapestAt_70 : decode cX2_cheapestAt 70 = .ok (.iload 5, 2) := by decide +kernel
theorem dX2_cheapestAt_72 : decode cX2_cheapestAt 72 = .ok (.ireturn, 1) := by decide +kernel
theorem dX2_meetersAt_0 : decode cX2_meetersAt 0 = .ok (.iload_n 3, 1) := by decide +kernel
theorem dX2_meetersAt_1 : decode cX2_meetersAt 1 = .ok (.iconst 2, 1) := by decide +kernel
theorem dX2_meetersAt_2 : decode cX2_meetersAt 2 = .ok (.ishr, 1) := by decide +kernel
theorem dX2_meetersAt_3 : decode cX2_meetersAt 3 = .ok (.istore 5, 2) := by decide +kernel
theorem dX2_meetersAt_5 : decode cX2_meetersAt 5 = .ok (.iload_n 3, 1) := by decide +kernel
theorem dX2_meetersAt_6 : decode cX2_meetersAt 6 = .ok (.iconst 1, 1) := by decide +kernel
theorem dX2_meetersAt_7 : decode cX2_meetersAt 7 = .ok (.ishr, 1) := by decide +kernel
theorem dX2_meetersAt_8 : decode cX2_meetersAt 8 = .ok (.iconst 1, 1) := by decide +kernel
theorem dX2_meetersAt_9 : decode cX2_meetersAt 9 = .ok (.iand, 1) := by decide +kernel
theorem dX2_meetersAt_10 : decode cX2_meetersAt 10 = .ok (.istore 6, 2) := by decide +kernel
theorem dX2_meetersAt_12 : decode cX2_meetersAt 12 = .ok (.aload_n 0, 1) := by decide +kernel
theorem dX2_meetersAt_13 : decode cX2_meetersAt 13 = .ok (.getfield 54, 3) := by decide +kernel
theorem dX2_meetersAt_16 : decode cX2_meetersAt 16 = .ok (.iload_n 1, 1) := by decide +kernel
theorem dX2_meetersAt_17 : decode cX2_meetersAt 17 = .ok (.iaload, 1) := by decide +kernel
theorem dX2_meetersAt_18 : decode cX2_meetersAt 18 = .ok (.iload 5, 2) := by decide +kernel
theorem dX2_meetersAt_20 : decode cX2_meetersAt 20 = .ok (.iload 6, 2) := by decide +kernel
theorem dX2_meetersAt_22 : decode cX2_meetersAt 22 = .ok (.iload_n 2, 1) := by decide +kernel
theorem dX2_meetersAt_23 : decode cX2_meetersAt 23 = .ok (.invokestatic 57, 3) := by decide +kernel
theorem dX2_meetersAt_26 : decode cX2_meetersAt 26 = .ok (.istore 7, 2) := by decide +kernel
theorem dX2_meetersAt_28 : decode cX2_meetersAt 28 = .ok (.iconst 0, 1) := by decide +kernel
theorem dX2_meetersAt_29 : decode cX2_meetersAt 29 = .ok (.istore 8, 2) := by decide +kernel
theorem dX2_meetersAt_31 : decode cX2_meetersAt 31 = .ok (.iconst 0, 1) := by decide +kernel
theorem dX2_meetersAt_32 : decode cX2_meetersAt 32 = .ok (.istore 9, 2) := by decide +kernel
theorem dX2_meetersAt_34 : decode cX2_meetersAt 34 = .ok (.iload 9, 2) := by decide +kernel
theorem dX2_meetersAt_36 : decode cX2_meetersAt 36 = .ok (.aload_n 0, 1) := by decide +kernel
theorem dX2_meetersAt_37 : decode cX2_meetersAt 37 = .ok (.getfield 61, 3) := by decide +kernel
theorem dX2_meetersAt_40 : decode cX2_meetersAt 40 = .ok (.if_icmp .ge 60, 3) := by decide +kernel
theorem dX2_meetersAt_43 : decode cX2_meetersAt 43 = .ok (.aload_n 0, 1) := by decide +kernel
theorem dX2_meetersAt_44 : decode cX2_meetersAt 44 = .ok (.getfield 64, 3) := by decide +kernel
theorem dX2_meetersAt_47 : decode cX2_meetersAt 47 = .ok (.iload 9, 2) := by decide +kernel
theorem dX2_meetersAt_49 : decode cX2_meetersAt 49 = .ok (.iaload, 1) := by decide +kernel
theorem dX2_meetersAt_50 : decode cX2_meetersAt 50 = .ok (.aload_n 0, 1) := by decide +kernel
theorem dX2_meetersAt_51 : decode cX2_meetersAt 51 = .ok (.getfield 67, 3) := by decide +kernel
theorem dX2_meetersAt_54 : decode cX2_meetersAt 54 = .ok (.iload 9, 2) := by decide +kernel
theorem dX2_meetersAt_56 : decode cX2_meetersAt 56 = .ok (.iaload, 1) := by decide +kernel
theorem dX2_meetersAt_57 : decode cX2_meetersAt 57 = .ok (.iload 5, 2) := by decide +kernel
theorem dX2_meetersAt_59 : decode cX2_meetersAt 59 = .ok (.iload 6, 2) := by decide +kernel
theorem dX2_meetersAt_61 : decode cX2_meetersAt 61 = .ok (.iload_n 2, 1) := by decide +kernel
theorem dX2_meetersAt_62 : decode cX2_meetersAt 62 = .ok (.invokestatic 70, 3) := by decide +kernel
theorem dX2_meetersAt_65 : decode cX2_meetersAt 65 = .ok (.istore 10, 2) := by decide +kernel
theorem dX2_meetersAt_67 : decode cX2_meetersAt 67 = .ok (.iload 4, 2) := by decide +kernel
theorem dX2_meetersAt_69 : decode cX2_meetersAt 69 = .ok (.iload 9, 2) := by decide +kernel
theorem dX2_meetersAt_71 : decode cX2_meetersAt 71 = .ok (.ishr, 1) := by decide +kernel
theorem dX2_meetersAt_72 : decode cX2_meetersAt 72 = .ok (.iconst 1, 1) := by decide +kernel
theorem dX2_meetersAt_73 : decode cX2_meetersAt 73 = .ok (.iand, 1) := by decide +kernel
theorem dX2_meetersAt_74 : decode cX2_meetersAt 74 = .ok (.iconst 1, 1) := by decide +kernel
theorem dX2_meetersAt_75 : decode cX2_meetersAt 75 = .ok (.if_icmp .ne 19, 3) := by decide +kernel
theorem dX2_meetersAt_78 : decode cX2_meetersAt 78 = .ok (.iload 7, 2) := by decide +kernel
theorem dX2_meetersAt_80 : decode cX2_meetersAt 80 = .ok (.iload 10, 2) := by decide +kernel
theorem dX2_meetersAt_82 : decode cX2_meetersAt 82 = .ok (.if_icmp .gt 12, 3) := by decide +kernel
theorem dX2_meetersAt_85 : decode cX2_meetersAt 85 = .ok (.iload 8, 2) := by decide +kernel
theorem dX2_meetersAt_87 : decode cX2_meetersAt 87 = .ok (.iconst 1, 1) := by decide +kernel
theorem dX2_meetersAt_88 : decode cX2_meetersAt 88 = .ok (.iload 9, 2) := by decide +kernel
theorem dX2_meetersAt_90 : decode cX2_meetersAt 90 = .ok (.ishl, 1) := by decide +kernel
theorem dX2_meetersAt_91 : decode cX2_meetersAt 91 = .ok (.ior, 1) := by decide +kernel
theorem dX2_meetersAt_92 : decode cX2_meetersAt 92 = .ok (.istore 8, 2) := by decide +kernel
theorem dX2_meetersAt_94 : decode cX2_meetersAt 94 = .ok (.iinc 9 1, 3) := by decide +kernel
theorem dX2_meetersAt_97 : decode cX2_meetersAt 97 = .ok (.goto (-63), 3) := by decide +kernel
theorem dX2_meetersAt_100 : decode cX2_meetersAt 100 = .ok (.iload 8, 2) := by decide +kernel
theorem dX2_meetersAt_102 : decode cX2_meetersAt 102 = .ok (.ireturn, 1) := by decide +kernel
theorem dX3_init_0 : decode cX3_init 0 = .ok (.aload_n 0, 1) := by decide +kernel
theorem dX3_init_1 : decode cX3_init 1 = .ok (.invokespecial 3, 3) := by decide +kernel
theorem dX3_init_4 : decode cX3_init 4 = .ok (.aload_n 0, 1) := by decide +kernel
theorem dX3_init_5 : decode cX3_init 5 = .ok (.bipush 100, 2) := by decide +kernel
theorem dX3_init_7 : decode cX3_init 7 = .ok (.newarray .int, 2) := by decide +kernel
theorem dX3_init_9 : decode cX3_init 9 = .ok (.putfield 9, 3) := by decide +kernel
theorem dX3_init_12 : decode cX3_init 12 = .ok (.aload_n 0, 1) := by decide +kernel
theorem dX3_init_13 : decode cX3_init 13 = .ok (.iconst 0, 1) := by decide +kernel
theorem dX3_init_14 : decode cX3_init 14 = .ok (.putfield 15, 3) := by decide +kernel
theorem dX3_init_17 : decode cX3_init 17 = .ok (.aload_n 0, 1) := by decide +kernel
theorem dX3_init_18 : decode cX3_init 18 = .ok (.iconst 0, 1) := by decide +kernel
theorem dX3_init_19 : decode cX3_init 19 = .ok (.putfield 19, 3) := by decide +kernel
theorem dX3_init_22 : decode cX3_init 22 = .ok (.aload_n 0, 1) := by decide +kernel
theorem dX3_init_23 : decode cX3_init 23 = .ok (.iconst 0, 1) := by decide +kernel
theorem dX3_init_24 : decode cX3_init 24 = .ok (.putfield 22, 3) := by decide +kernel
theorem dX3_init_27 : decode cX3_init 27 = .ok (.aload_n 0, 1) := by decide +kernel
theorem dX3_init_28 : decode cX3_init 28 = .ok (.iconst 0, 1) := by decide +kernel
theorem dX3_init_29 : decode cX3_init 29 = .ok (.putfield 25, 3) := by decide +kernel
theorem dX3_init_32 : decode cX3_init 32 = .ok (.return_, 1) := by decide +kernel
theorem dX3_take_0 : decode cX3_take 0 = .ok (.aload_n 0, 1) := by decide +kernel
theorem dX3_take_1 : decode cX3_take 1 = .ok (.getfield 15, 3) := by decide +kernel
theorem dX3_take_4 : decode cX3_take 4 = .ok (.bipush 100, 2) := by decide +kernel
theorem dX3_take_6 : decode cX3_take 6 = .ok (.if_icmp .lt 5, 3) := by decide +kernel
theorem dX3_take_9 : decode cX3_take 9 = .ok (.iconst 0, 1) := by decide +kernel
theorem dX3_take_10 : decode cX3_take 10 = .ok (.ireturn, 1) := by decide +kernel
theorem dX3_take_11 : decode cX3_take 11 = .ok (.aload_n 0, 1) := by decide +kernel
theorem dX3_take_12 : decode cX3_take 12 = .ok (.getfield 9, 3) := by decide +kernel
theorem dX3_take_15 : decode cX3_take 15 = .ok (.aload_n 0, 1) := by decide +kernel
theorem dX3_take_16 : decode cX3_take 16 = .ok (.getfield 15, 3) := by decide +kernel
theorem dX3_take_19 : decode cX3_take 19 = .ok (.iload_n 1, 1) := by decide +kernel
theorem dX3_take_20 : decode cX3_take 20 = .ok (.iastore, 1) := by decide +kernel
theorem dX3_take_21 : decode cX3_take 21 = .ok (.aload_n 0, 1) := by decide +kernel
theorem dX3_take_22 : decode cX3_take 22 = .ok (.dup, 1) := by decide +kernel
theorem dX3_take_23 : decode cX3_take 23 = .ok (.getfield 15, 3) := by decide +kernel
theorem dX3_take_26 : decode cX3_take 26 = .ok (.iconst 1, 1) := by decide +kernel
theorem dX3_take_27 : decode cX3_take 27 = .ok (.iadd, 1) := by decide +kernel
theorem dX3_take_28 : decode cX3_take 28 = .ok (.putfield 15, 3) := by decide +kernel
theorem dX3_take_31 : decode cX3_take 31 = .ok (.iconst 1, 1) := by decide +kernel
theorem dX3_take_32 : decode cX3_take 32 = .ok (.ireturn, 1) := by decide +kernel
theorem dX3_readInto_0 : decode cX3_readInto 0 = .ok (.aload_n 0, 1) := by decide +kernel
theorem dX3_readInto_1 : decode cX3_readInto 1 = .ok (.iconst 0, 1) := by decide +kernel
theorem dX3_readInto_2 : decode cX3_readInto 2 = .ok (.putfield 19, 3) := by decide +kernel
theorem dX3_readInto_5 : decode cX3_readInto 5 = .ok (.aload_n 0, 1) := by decide +kernel
theorem dX3_readInto_6 : decode cX3_readInto 6 = .ok (.aload_n 1, 1) := by decide +kernel
theorem dX3_readInto_7 : decode cX3_readInto 7 = .ok (.invokevirtual 28, 3) := by decide +kernel
theorem dX3_readInto_10 : decode cX3_readInto 10 = .ok (.ifCond .eq 11, 3) := by decide +kernel
theorem dX3_readInto_13 : decode cX3_readInto 13 = .ok (.aload_n 0, 1) := by decide +kernel
theorem dX3_readInto_14 : decode cX3_readInto 14 = .ok (.aload_n 1, 1) := by decide +kernel
theorem dX3_readInto_15 : decode cX3_readInto 15 = .ok (.invokevirtual 32, 3) := by decide +kernel
theorem dX3_readInto_18 : decode cX3_readInto 18 = .ok (.ifCond .ne 5, 3) := by decide +kernel
theorem dX3_readInto_21 : decode cX3_readInto 21 = .ok (.iconst 0, 1) := by decide +kernel
theorem dX3_readInto_22 : decode cX3_readInto 22 = .ok (.ireturn, 1) := by decide +kernel
theorem dX3_readInto_23 : decode cX3_readInto 23 = .ok (.iconst 0, 1) := by decide +kernel
theorem dX3_readInto_24 : decode cX3_readInto 24 = .ok (.istore_n 2, 1) := by decide +kernel
theorem dX3_readInto_25 : decode cX3_readInto 25 = .ok (.iload_n 2, 1) := by decide +kernel
theorem dX3_readInto_26 : decode cX3_readInto 26 = .ok (.bipush 100, 2) := by decide +kernel
theorem dX3_readInto_28 : decode cX3_readInto 28 = .ok (.if_icmp .ge 68, 3) := by decide +kernel
theorem dX3_readInto_31 : decode cX3_readInto 31 = .ok (.aload_n 0, 1) := by decide +kernel
theorem dX3_readInto_32 : decode cX3_readInto 32 = .ok (.getfield 19, 3) := by decide +kernel
theorem dX3_readInto_35 : decode cX3_readInto 35 = .ok (.aload_n 0, 1) := by decide +kernel
theorem dX3_readInto_36 : decode cX3_readInto 36 = .ok (.getfield 15, 3) := by decide +kernel
theorem dX3_readInto_39 : decode cX3_readInto 39 = .ok (.if_icmp .ge 57, 3) := by decide +kernel
theorem dX3_readInto_42 : decode cX3_readInto 42 = .ok (.aload_n 1, 1) := by decide +kernel
theorem dX3_readInto_43 : decode cX3_readInto 43 = .ok (.getfield 35, 3) := by decide +kernel
theorem dX3_readInto_46 : decode cX3_readInto 46 = .ok (.ifCond .ne 16, 3) := by decide +kernel
theorem dX3_readInto_49 : decode cX3_readInto 49 = .ok (.aload_n 0, 1) := by decide +kernel
theorem dX3_readInto_50 : decode cX3_readInto 50 = .ok (.bipush 100, 2) := by decide +kernel
theorem dX3_readInto_52 : decode cX3_readInto 52 = .ok (.invokevirtual 40, 3) := by decide +kernel
theorem dX3_readInto_55 : decode cX3_readInto 55 = .ok (.ifCond .eq 7, 3) := by decide +kernel
theorem dX3_readInto_58 : decode cX3_readInto 58 = .ok (.iconst 1, 1) := by decide +kernel
theorem dX3_readInto_59 : decode cX3_readInto 59 = .ok (.goto 4, 3) := by decide +kernel
theorem dX3_readInto_62 : decode cX3_readInto 62 = .ok (.iconst 0, 1) := by decide +kernel
theorem dX3_readInto_63 : decode cX3_readInto 63 = .ok (.istore_n 3, 1) := by decide +kernel
theorem dX3_readInto_64 : decode cX3_readInto 64 = .ok (.iload_n 3, 1) := by decide +kernel
theorem dX3_readInto_65 : decode cX3_readInto 65 = .ok (.ifCond .eq 11, 3) := by decide +kernel
theorem dX3_readInto_68 : decode cX3_readInto 68 = .ok (.aload_n 0, 1) := by decide +kernel
theorem dX3_readInto_69 : decode cX3_readInto 69 = .ok (.aload_n 1, 1) := by decide +kernel
theorem dX3_readInto_70 : decode cX3_readInto 70 = .ok (.invokevirtual 32, 3) := by decide +kernel
theorem dX3_readInto_73 : decode cX3_readInto 73 = .ok (.goto 8, 3) := by decide +kernel
theorem dX3_readInto_76 : decode cX3_readInto 76 = .ok (.aload_n 0, 1) := by decide +kernel
theorem dX3_readInto_77 : decode cX3_readInto 77 = .ok (.aload_n 1, 1) := by decide +kernel
theorem dX3_readInto_78 : decode cX3_readInto 78 = .ok (.invokevirtual 44, 3) := by decide +kernel
theorem dX3_readInto_81 : decode cX3_readInto 81 = .ok (.istore 4, 2) := by decide +kernel
theorem dX3_readInto_83 : decode cX3_readInto 83 = .ok (.iload 4, 2) := by decide +kernel
theorem dX3_readInto_85 : decode cX3_readInto 85 = .ok (.ifCond .ne 5, 3) := by decide +kernel
theorem dX3_readInto_88 : decode cX3_readInto 88 = .ok (.iconst 0, 1) := by decide +kernel
theorem dX3_readInto_89 : decode cX3_readInto 89 = .ok (.ireturn, 1) := by decide +kernel
theorem dX3_readInto_90 : decode cX3_readInto 90 = .ok (.iinc 2 1, 3) := by decide +kernel
theorem dX3_readInto_93 : decode cX3_readInto 93 = .ok (.goto (-68), 3) := by decide +kernel
theorem dX3_readInto_96 : decode cX3_readInto 96 = .ok (.iconst 1, 1) := by decide +kernel
theorem dX3_readInto_97 : decode cX3_readInto 97 = .ok (.ireturn, 1) := by decide +kernel
theorem dX3_readLaw_0 : decode cX3_readLaw 0 = .ok (.aload_n 0, 1) := by decide +kernel
theorem dX3_readLaw_1 : decode cX3_readLaw 1 = .ok (.bipush 103, 2) := by decide +kernel
theorem dX3_readLaw_3 : decode cX3_readLaw 3 = .ok (.invokevirtual 47, 3) := by decide +kernel
theorem dX3_readLaw_6 : decode cX3_readLaw 6 = .ok (.ifCond .ne 5, 3) := by decide +kernel
theorem dX3_readLaw_9 : decode cX3_readLaw 9 = .ok (.iconst 0, 1) := by decide +kernel
theorem dX3_readLaw_10 : decode cX3_readLaw 10 = .ok (.ireturn, 1) := by decide +kernel
theorem dX3_readLaw_11 : decode cX3_readLaw 11 = .ok (.aload_n 0, 1) := by decide +kernel
theorem dX3_readLaw_12 : decode cX3_readLaw 12 = .ok (.iconst 0, 1) := by decide +kernel
theorem dX3_readLaw_13 : decode cX3_readLaw 13 = .ok (.bipush 60, 2) := by decide +kernel
theorem dX3_readLaw_15 : decode cX3_readLaw 15 = .ok (.invokevirtual 50, 3) := by decide +kernel
theorem dX3_readLaw_18 : decode cX3_readLaw 18 = .ok (.istore_n 2, 1) := by decide +kernel
theorem dX3_readLaw_19 : decode cX3_readLaw 19 = .ok (.iload_n 2, 1) := by decide +kernel
theorem dX3_readLaw_20 : decode cX3_readLaw 20 = .ok (.ifCond .lt 12, 3) := by decide +kernel
theorem dX3_readLaw_23 : decode cX3_readLaw 23 = .ok (.aload_n 0, 1) := by decide +kernel
theorem dX3_readLaw_24 : decode cX3_readLaw 24 = .ok (.bipush 44, 2) := by decide +kernel
theorem dX3_readLaw_26 : decode cX3_readLaw 26 = .ok (.invokevirtual 47, 3) := by decide +kernel
theorem dX3_readLaw_29 : decode cX3_readLaw 29 = .ok (.ifCond .ne 5, 3) := by decide +kernel
theorem dX3_readLaw_32 : decode cX3_readLaw 32 = .ok (.iconst 0, 1) := by decide +kernel
theorem dX3_readLaw_33 : decode cX3_readLaw 33 = .ok (.ireturn, 1) := by decide +kernel
theorem dX3_readLaw_34 : decode cX3_readLaw 34 = .ok (.aload_n 0, 1) := by decide +kernel
theorem dX3_readLaw_35 : decode cX3_readLaw 35 = .ok (.iconst 0, 1) := by decide +kernel
theorem dX3_readLaw_36 : decode cX3_readLaw 36 = .ok (.bipush 12, 2) := by decide +kernel
theorem dX3_readLaw_38 : decode cX3_readLaw 38 = .ok (.invokevirtual 50, 3) := by decide +kernel
theorem dX3_readLaw_41 : decode cX3_readLaw 41 = .ok (.istore_n 3, 1) := by decide +kernel
theorem dX3_readLaw_42 : decode cX3_readLaw 42 = .ok (.iload_n 3, 1) := by decide +kernel
theorem dX3_readLaw_43 : decode cX3_readLaw 43 = .ok (.ifCond .lt 12, 3) := by decide +kernel
theorem dX3_readLaw_46 : decode cX3_readLaw 46 = .ok (.aload_n 0, 1) := by decide +kernel
theorem dX3_readLaw_47 : decode cX3_readLaw 47 = .ok (.bipush 59, 2) := by decide +kernel
theorem dX3_readLaw_49 : decode cX3_readLaw 49 = .ok (.invokevirtual 47, 3) := by decide +kernel
theorem dX3_readLaw_52 : decode cX3_readLaw 52 = .ok (.ifCond .ne 5, 3) := by decide +kernel
theorem dX3_readLaw_55 : decode cX3_readLaw 55 = .ok (.iconst 0, 1) := by decide +kernel
theorem dX3_readLaw_56 : decode cX3_readLaw 56 = .ok (.ireturn, 1) := by decide +kernel
theorem dX3_readLaw_57 : decode cX3_readLaw 57 = .ok (.aload_n 1, 1) := by decide +kernel
theorem dX3_readLaw_58 : decode cX3_readLaw 58 = .ok (.iload_n 2, 1) := by decide +kernel
theorem dX3_readLaw_59 : decode cX3_readLaw 59 = .ok (.iload_n 3, 1) := by decide +kernel
theorem dX3_readLaw_60 : decode cX3_readLaw 60 = .ok (.invokevirtual 54, 3) := by decide +kernel
theorem dX3_readLaw_63 : decode cX3_readLaw 63 = .ok (.iconst 1, 1) := by decide +kernel
theorem dX3_readLaw_64 : decode cX3_readLaw 64 = .ok (.ireturn, 1) := by decide +kernel
theorem dX3_readDoor_0 : decode cX3_readDoor 0 = .ok (.aload_n 0, 1) := by decide +kernel
theorem dX3_readDoor_1 : decode cX3_readDoor 1 = .ok (.bipush 100, 2) := by decide +kernel
theorem dX3_readDoor_3 : decode cX3_readDoor 3 = .ok (.invokevirtual 40, 3) := by decide +kernel
theorem dX3_readDoor_6 : decode cX3_readDoor 6 = .ok (.ifCond .eq 18, 3) := by decide +kernel
theorem dX3_readDoor_9 : decode cX3_readDoor 9 = .ok (.aload_n 1, 1) := by decide +kernel
theorem dX3_readDoor_10 : decode cX3_readDoor 10 = .ok (.getfield 58, 3) := by decide +kernel
theorem dX3_readDoor_13 : decode cX3_readDoor 13 = .ok (.bipush 6, 2) := by decide +kernel
theorem dX3_readDoor_15 : decode cX3_readDoor 15 = .ok (.if_icmp .lt 9, 3) := by decide +kernel
theorem dX3_readDoor_18 : decode cX3_readDoor 18 = .ok (.aload_n 0, 1) := by decide +kernel
theorem dX3_readDoor_19 : decode cX3_readDoor 19 = .ok (.iconst 3, 1) := by decide +kernel
theorem dX3_readDoor_20 : decode cX3_readDoor 20 = .ok (.invokevirtual 61, 3) := by decide +kernel
theorem dX3_readDoor_23 : decode cX3_readDoor 23 = .ok (.ireturn, 1) := by decide +kernel
theorem dX3_readDoor_24 : decode cX3_readDoor 24 = .ok (.aload_n 0, 1) := by decide +kernel
theorem dX3_readDoor_25 : decode cX3_readDoor 25 = .ok (.bipush 100, 2) := by decide +kernel
theorem dX3_readDoor_27 : decode cX3_readDoor 27 = .ok (.invokevirtual 47, 3) := by decide +kernel
theorem dX3_readDoor_30 : decode cX3_readDoor 30 = .ok (.ifCond .ne 5, 3) := by decide +kernel
theorem dX3_readDoor_33 : decode cX3_readDoor 33 = .ok (.iconst 0, 1) := by decide +kernel
theorem dX3_readDoor_34 : decode cX3_readDoor 34 = .ok (.ireturn, 1) := by decide +kernel
theorem dX3_readDoor_35 : decode cX3_readDoor 35 = .ok (.aload_n 0, 1) := by decide +kernel
theorem dX3_readDoor_36 : decode cX3_readDoor 36 = .ok (.iconst 1, 1) := by decide +kernel
theorem dX3_readDoor_37 : decode cX3_readDoor 37 = .ok (.bipush 20, 2) := by decide +kernel
theorem dX3_readDoor_39 : decode cX3_readDoor 39 = .ok (.invokevirtual 50, 3) := by decide +kernel
theorem dX3_readDoor_42 : decode cX3_readDoor 42 = .ok (.istore_n 2, 1) := by decide +kernel
theorem dX3_readDoor_43 : decode cX3_readDoor 43 = .ok (.iload_n 2, 1) := by decide +kernel
theorem dX3_readDoor_44 : decode cX3_readDoor 44 = .ok (.ifCond .lt 12, 3) := by decide +kernel
theorem dX3_readDoor_47 : decode cX3_readDoor 47 = .ok (.aload_n 0, 1) := by decide +kernel
theorem dX3_readDoor_48 : decode cX3_readDoor 48 = .ok (.bipush 59, 2) := by decide +kernel
theorem dX3_readDoor_50 : decode cX3_readDoor 50 = .ok (.invokevirtual 47, 3) := by decide +kernel
theorem dX3_readDoor_53 : decode cX3_readDoor 53 = .ok (.ifCond .ne 5, 3) := by decide +kernel
theorem dX3_readDoor_56 : decode cX3_readDoor 56 = .ok (.iconst 0, 1) := by decide +kernel
theorem dX3_readDoor_57 : decode cX3_readDoor 57 = .ok (.ireturn, 1) := by decide +kernel
theorem dX3_readDoor_58 : decode cX3_readDoor 58 = .ok (.aload_n 1, 1) := by decide +kernel
theorem dX3_readDoor_59 : decode cX3_readDoor 59 = .ok (.iload_n 2, 1) := by decide +kernel
theorem dX3_readDoor_60 : decode cX3_readDoor 60 = .ok (.invokevirtual 64, 3) := by decide +kernel
theorem dX3_readDoor_63 : decode cX3_readDoor 63 = .ok (.iconst 1, 1) := by decide +kernel
theorem dX3_readDoor_64 : decode cX3_readDoor 64 = .ok (.ireturn, 1) := by decide +kernel
theorem dX3_readCaller_0 : decode cX3_readCaller 0 = .ok (.aload_n 0, 1) := by decide +kernel
theorem dX3_readCaller_1 : decode cX3_readCaller 1 = .ok (.getfield 19, 3) := by decide +kernel
theorem dX3_readCaller_4 : decode cX3_readCaller 4 = .ok (.aload_n 0, 1) := by decide +kernel
theorem dX3_readCaller_5 : decode cX3_readCaller 5 = .ok (.getfield 15, 3) := by decide +kernel
theorem dX3_readCaller_8 : decode cX3_readCaller 8 = .ok (.if_icmp .ge 18, 3) := by decide +kernel
theorem dX3_readCaller_11 : decode cX3_readCaller 11 = .ok (.aload_n 0, 1) := by decide +kernel
theorem dX3_readCaller_12 : decode cX3_readCaller 12 = .ok (.getfield 9, 3) := by decide +kernel
theorem dX3_readCaller_15 : decode cX3_readCaller 15 = .ok (.aload_n 0, 1) := by decide +kernel
theorem dX3_readCaller_16 : decode cX3_readCaller 16 = .ok (.getfield 19, 3) := by decide +kernel
theorem dX3_readCaller_19 : decode cX3_readCaller 19 = .ok (.iaload, 1) := by decide +kernel
theorem dX3_readCaller_20 : decode cX3_readCaller 20 = .ok (.invokestatic 68, 3) := by decide +kernel
theorem dX3_readCaller_23 : decode cX3_readCaller 23 = .ok (.goto 4, 3) := by decide +kernel
theorem dX3_readCaller_26 : decode cX3_readCaller 26 = .ok (.iconst 0, 1) := by decide +kernel
theorem dX3_readCaller_27 : decode cX3_readCaller 27 = .ok (.istore_n 2, 1) := by decide +kernel
theorem dX3_readCaller_28 : decode cX3_readCaller 28 = .ok (.iload_n 2, 1) := by decide +kernel
theorem dX3_readCaller_29 : decode cX3_readCaller 29 = .ok (.ifCond .ne 9, 3) := by decide +kernel
theorem dX3_readCaller_32 : decode cX3_readCaller 32 = .ok (.aload_n 0, 1) := by decide +kernel
theorem dX3_readCaller_33 : decode cX3_readCaller 33 = .ok (.iconst 1, 1) := by decide +kernel
theorem dX3_readCaller_34 : decode cX3_readCaller 34 = .ok (.invokevirtual 61, 3) := by decide +kernel
theorem dX3_readCaller_37 : decode cX3_readCaller 37 = .ok (.ireturn, 1) := by decide +kernel
theorem dX3_readCaller_38 : decode cX3_readCaller 38 = .ok (.aload_n 1, 1) := by decide +kernel
theorem dX3_readCaller_39 : decode cX3_readCaller 39 = .ok (.getfield 35, 3) := by decide +kernel
theorem dX3_readCaller_42 : decode cX3_readCaller 42 = .ok (.bipush 6, 2) := by decide +kernel
theorem dX3_readCaller_44 : decode cX3_readCaller 44 = .ok (.if_icmp .lt 9, 3) := by decide +kernel
theorem dX3_readCaller_47 : decode cX3_readCaller 47 = .ok (.aload_n 0, 1) := by decide +kernel
theorem dX3_readCaller_48 : decode cX3_readCaller 48 = .ok (.iconst 3, 1) := by decide +kernel
theorem dX3_readCaller_49 : decode cX3_readCaller 49 = .ok (.invokevirtual 61, 3) := by decide +kernel
theorem dX3_readCaller_52 : decode cX3_readCaller 52 = .ok (.ireturn, 1) := by decide +kernel
theorem dX3_readCaller_53 : decode cX3_readCaller 53 = .ok (.aload_n 0, 1) := by decide +kernel
theorem dX3_readCaller_54 : decode cX3_readCaller 54 = .ok (.dup, 1) := by decide +kernel
theorem dX3_readCaller_55 : decode cX3_readCaller 55 = .ok (.getfield 19, 3) := by decide +kernel
theorem dX3_readCaller_58 : decode cX3_readCaller 58 = .ok (.iconst 1, 1) := by decide +kernel
theorem dX3_readCaller_59 : decode cX3_readCaller 59 = .ok (.iadd, 1) := by decide +kernel
theorem dX3_readCaller_60 : decode cX3_readCaller 60 = .ok (.putfield 19, 3) := by decide +kernel
theorem dX3_readCaller_63 : decode cX3_readCaller 63 = .ok (.aload_n 0, 1) := by decide +kernel
theorem dX3_readCaller_64 : decode cX3_readCaller 64 = .ok (.iconst 0, 1) := by decide +kernel
theorem dX3_readCaller_65 : decode cX3_readCaller 65 = .ok (.aload_n 1, 1) := by decide +kernel
theorem dX3_readCaller_66 : decode cX3_readCaller 66 = .ok (.getfield 58, 3) := by decide +kernel
theorem dX3_readCaller_69 : decode cX3_readCaller 69 = .ok (.iconst 1, 1) := by decide +kernel
theorem dX3_readCaller_70 : decode cX3_readCaller 70 = .ok (.isub, 1) := by decide +kernel
theorem dX3_readCaller_71 : decode cX3_readCaller 71 = .ok (.invokevirtual 50, 3) := by decide +kernel
theorem dX3_readCaller_74 : decode cX3_readCaller 74 = .ok (.istore_n 3, 1) := by decide +kernel
theorem dX3_readCaller_75 : decode cX3_readCaller 75 = .ok (.iload_n 3, 1) := by decide +kernel
theorem dX3_readCaller_76 : decode cX3_readCaller 76 = .ok (.ifCond .lt 12, 3) := by decide +kernel
theorem dX3_readCaller_79 : decode cX3_readCaller 79 = .ok (.aload_n 0, 1) := by decide +kernel
theorem dX3_readCaller_80 : decode cX3_readCaller 80 = .ok (.bipush 44, 2) := by decide +kernel
theorem dX3_readCaller_82 : decode cX3_readCaller 82 = .ok (.invokevirtual 47, 3) := by decide +kernel
theorem dX3_readCaller_85 : decode cX3_readCaller 85 = .ok (.ifCond .ne 5, 3) := by decide +kernel
theorem dX3_readCaller_88 : decode cX3_readCaller 88 = .ok (.iconst 0, 1) := by decide +kernel
theorem dX3_readCaller_89 : decode cX3_readCaller 89 = .ok (.ireturn, 1) := by decide +kernel
theorem dX3_readCaller_90 : decode cX3_readCaller 90 = .ok (.aload_n 0, 1) := by decide +kernel
theorem dX3_readCaller_91 : decode cX3_readCaller 91 = .ok (.iconst 0, 1) := by decide +kernel
theorem dX3_readCaller_92 : decode cX3_readCaller 92 = .ok (.bipush 20, 2) := by decide +kernel
theorem dX3_readCaller_94 : decode cX3_readCaller 94 = .ok (.invokevirtual 50, 3) := by decide +kernel
theorem dX3_readCaller_97 : decode cX3_readCaller 97 = .ok (.istore 4, 2) := by decide +kernel
theorem dX3_readCaller_99 : decode cX3_readCaller 99 = .ok (.iload 4, 2) := by decide +kernel
theorem dX3_readCaller_101 : decode cX3_readCaller 101 = .ok (.ifCond .lt 12, 3) := by decide +kernel
theorem dX3_readCaller_104 : decode cX3_readCaller 104 = .ok (.aload_n 0, 1) := by decide +kernel
theorem dX3_readCaller_105 : decode cX3_readCaller 105 = .ok (.bipush 59, 2) := by decide +kernel
theorem dX3_readCaller_107 : decode cX3_readCaller 107 = .ok (.invokevirtual 47, 3) := by decide +kernel
theorem dX3_readCaller_110 : decode cX3_readCaller 110 = .ok (.ifCond .ne 5, 3) := by decide +kernel
theorem dX3_readCaller_113 : decode cX3_readCaller 113 = .ok (.iconst 0, 1) := by decide +kernel
theorem dX3_readCaller_114 : decode cX3_readCaller 114 = .ok (.ireturn, 1) := by decide +kernel
theorem dX3_readCaller_115 : decode cX3_readCaller 115 = .ok (.aload_n 1, 1) := by decide +kernel
theorem dX3_readCaller_116 : decode cX3_readCaller 116 = .ok (.iload_n 2, 1) := by decide +kernel
theorem dX3_readCaller_117 : decode cX3_readCaller 117 = .ok (.iload_n 3, 1) := by decide +kernel
theorem dX3_readCaller_118 : decode cX3_readCaller 118 = .ok (.iload 4, 2) := by decide +kernel
theorem dX3_readCaller_120 : decode cX3_readCaller 120 = .ok (.invokevirtual 72, 3) := by decide +kernel
theorem dX3_readCaller_123 : decode cX3_readCaller 123 = .ok (.iconst 1, 1) := by decide +kernel
theorem dX3_readCaller_124 : decode cX3_readCaller 124 = .ok (.ireturn, 1) := by decide +kernel
theorem dX3_readSign_0 : decode cX3_readSign 0 = .ok (.aload_n 0, 1) := by decide +kernel
theorem dX3_readSign_1 : decode cX3_readSign 1 = .ok (.iload_n 1, 1) := by decide +kernel
theorem dX3_readSign_2 : decode cX3_readSign 2 = .ok (.invokevirtual 40, 3) := by decide +kernel
theorem dX3_readSign_5 : decode cX3_readSign 5 = .ok (.ifCond .ne 9, 3) := by decide +kernel
theorem dX3_readSign_8 : decode cX3_readSign 8 = .ok (.aload_n 0, 1) := by decide +kernel
theorem dX3_readSign_9 : decode cX3_readSign 9 = .ok (.iconst 1, 1) := by decide +kernel
theorem dX3_readSign_10 : decode cX3_readSign 10 = .ok (.invokevirtual 61, 3) := by decide +kernel
theorem dX3_readSign_13 : decode cX3_readSign 13 = .ok (.ireturn, 1) := by decide +kernel
theorem dX3_readSign_14 : decode cX3_readSign 14 = .ok (.aload_n 0, 1) := by decide +kernel
theorem dX3_readSign_15 : decode cX3_readSign 15 = .ok (.dup, 1) := by decide +kernel
theorem dX3_readSign_16 : decode cX3_readSign 16 = .ok (.getfield 19, 3) := by decide +kernel
theorem dX3_readSign_19 : decode cX3_readSign 19 = .ok (.iconst 1, 1) := by decide +kernel
theorem dX3_readSign_20 : decode cX3_readSign 20 = .ok (.iadd, 1) := by decide +kernel
theorem dX3_readSign_21 : decode cX3_readSign 21 = .ok (.putfield 19, 3) := by decide +kernel
theorem dX3_readSign_24 : decode cX3_readSign 24 = .ok (.iconst 1, 1) := by decide +kernel
theorem dX3_readSign_25 : decode cX3_readSign 25 = .ok (.ireturn, 1) := by decide +kernel
theorem dX3_readNumber_0 : decode cX3_readNumber 0 = .ok (.iconst 0, 1) := by decide +kernel
theorem dX3_readNumber_1 : decode cX3_readNumber 1 = .ok (.istore_n 3, 1) := by decide +kernel
theorem dX3_readNumber_2 : decode cX3_readNumber 2 = .ok (.iconst 0, 1) := by decide +kernel
theorem dX3_readNumber_3 : decode cX3_readNumber 3 = .ok (.istore 4, 2) := by decide +kernel
theorem dX3_readNumber_5 : decode cX3_readNumber 5 = .ok (.aload_n 0, 1) := by decide +kernel
theorem dX3_readNumber_6 : decode cX3_readNumber 6 = .ok (.getfield 19, 3) := by decide +kernel
theorem dX3_readNumber_9 : decode cX3_readNumber 9 = .ok (.istore 5, 2) := by decide +kernel
theorem dX3_readNumber_11 : decode cX3_readNumber 11 = .ok (.iload 5, 2) := by decide +kernel
theorem dX3_readNumber_13 : decode cX3_readNumber 13 = .ok (.aload_n 0, 1) := by decide +kernel
theorem dX3_readNumber_14 : decode cX3_readNumber 14 = .ok (.getfield 15, 3) := by decide +kernel
theorem dX3_readNumber_17 : decode cX3_readNumber 17 = .ok (.if_icmp .ge 47, 3) := by decide +kernel
theorem dX3_readNumber_20 : decode cX3_readNumber 20 = .ok (.aload_n 0, 1) := by decide +kernel
theorem dX3_readNumber_21 : decode cX3_readNumber 21 = .ok (.getfield 9, 3) := by decide +kernel
theorem dX3_readNumber_24 : decode cX3_readNumber 24 = .ok (.iload 5, 2) := by decide +kernel
theorem dX3_readNumber_26 : decode cX3_readNumber 26 = .ok (.iaload, 1) := by decide +kernel
theorem dX3_readNumber_27 : decode cX3_readNumber 27 = .ok (.invokestatic 76, 3) := by decide +kernel
theorem dX3_readNumber_30 : decode cX3_readNumber 30 = .ok (.ifCond .eq 34, 3) := by decide +kernel
theorem dX3_readNumber_33 : decode cX3_readNumber 33 = .ok (.iload 4, 2) := by decide +kernel
theorem dX3_readNumber_35 : decode cX3_readNumber 35 = .ok (.iconst 3, 1) := by decide +kernel
theorem dX3_readNumber_36 : decode cX3_readNumber 36 = .ok (.if_icmp .ge 28, 3) := by decide +kernel
theorem dX3_readNumber_39 : decode cX3_readNumber 39 = .ok (.bipush 10, 2) := by decide +kernel
theorem dX3_readNumber_41 : decode cX3_readNumber 41 = .ok (.iload_n 3, 1) := by decide +kernel
theorem dX3_readNumber_42 : decode cX3_readNumber 42 = .ok (.imul, 1) := by decide +kernel
theorem dX3_readNumber_43 : decode cX3_readNumber 43 = .ok (.aload_n 0, 1) := by decide +kernel
theorem dX3_readNumber_44 : decode cX3_readNumber 44 = .ok (.getfield 9, 3) := by decide +kernel
theorem dX3_readNumber_47 : decode cX3_readNumber 47 = .ok (.iload 5, 2) := by decide +kernel
theorem dX3_readNumber_49 : decode cX3_readNumber 49 = .ok (.iaload, 1) := by decide +kernel
theorem dX3_readNumber_50 : decode cX3_readNumber 50 = .ok (.iadd, 1) := by decide +kernel
theorem dX3_readNumber_51 : decode cX3_readNumber 51 = .ok (.bipush 48, 2) := by decide +kernel
theorem dX3_readNumber_53 : decode cX3_readNumber 53 = .ok (.isub, 1) := by decide +kernel
theorem dX3_readNumber_54 : decode cX3_readNumber 54 = .ok (.istore_n 3, 1) := by decide +kernel
theorem dX3_readNumber_55 : decode cX3_readNumber 55 = .ok (.iinc 4 1, 3) := by decide +kernel
theorem dX3_readNumber_58 : decode cX3_readNumber 58 = .ok (.iinc 5 1, 3) := by decide +kernel
theorem dX3_readNumber_61 : decode cX3_readNumber 61 = .ok (.goto (-50), 3) := by decide +kernel
theorem dX3_readNumber_64 : decode cX3_readNumber 64 = .ok (.iload 4, 2) := by decide +kernel
theorem dX3_readNumber_66 : decode cX3_readNumber 66 = .ok (.iconst 1, 1) := by decide +kernel
theorem dX3_readNumber_67 : decode cX3_readNumber 67 = .ok (.if_icmp .eq 9, 3) := by decide +kernel
theorem dX3_readNumber_70 : decode cX3_readNumber 70 = .ok (.iload 4, 2) := by decide +kernel
theorem dX3_readNumber_72 : decode cX3_readNumber 72 = .ok (.iconst 2, 1) := by decide +kernel
theorem dX3_readNumber_73 : decode cX3_readNumber 73 = .ok (.if_icmp .ne 7, 3) := by decide +kernel
theorem dX3_readNumber_76 : decode cX3_readNumber 76 = .ok (.iconst 1, 1) := by decide +kernel
theorem dX3_readNumber_77 : decode cX3_readNumber 77 = .ok (.goto 4, 3) := by decide +kernel
theorem dX3_readNumber_80 : decode cX3_readNumber 80 = .ok (.iconst 0, 1) := by decide +kernel
theorem dX3_readNumber_81 : decode cX3_readNumber 81 = .ok (.istore 5, 2) := by decide +kernel
theorem dX3_readNumber_83 : decode cX3_readNumber 83 = .ok (.iload 5, 2) := by decide +kernel
theorem dX3_readNumber_85 : decode cX3_readNumber 85 = .ok (.ifCond .eq 13, 3) := by decide +kernel
theorem dX3_readNumber_88 : decode cX3_readNumber 88 = .ok (.iload_n 3, 1) := by decide +kernel
theorem dX3_readNumber_89 : decode cX3_readNumber 89 = .ok (.iload_n 1, 1) := by decide +kernel
theorem dX3_readNumber_90 : decode cX3_readNumber 90 = .ok (.if_icmp .lt 8, 3) := by decide +kernel
theorem dX3_readNumber_93 : decode cX3_readNumber 93 = .ok (.iload_n 3, 1) := by decide +kernel
theorem dX3_readNumber_94 : decode cX3_readNumber 94 = .ok (.iload_n 2, 1) := by decide +kernel
theorem dX3_readNumber_95 : decode cX3_readNumber 95 = .ok (.if_icmp .le 20, 3) := by decide +kernel
theorem dX3_readNumber_98 : decode cX3_readNumber 98 = .ok (.aload_n 0, 1) := by decide +kernel
theorem dX3_readNumber_99 : decode cX3_readNumber 99 = .ok (.iload 5, 2) := by decide +kernel
theorem dX3_readNumber_101 : decode cX3_readNumber 101 = .ok (.ifCond .eq 7, 3) := by decide +kernel
theorem dX3_readNumber_104 : decode cX3_readNumber 104 = .ok (.iconst 2, 1) := by decide +kernel
theorem dX3_readNumber_105 : decode cX3_readNumber 105 = .ok (.goto 4, 3) := by decide +kernel
theorem dX3_readNumber_108 : decode cX3_readNumber 108 = .ok (.iconst 1, 1) := by decide +kernel
theorem dX3_readNumber_109 : decode cX3_readNumber 109 = .ok (.invokevirtual 61, 3) := by decide +kernel
theorem dX3_readNumber_112 : decode cX3_readNumber 112 = .ok (.pop, 1) := by decide +kernel
theorem dX3_readNumber_113 : decode cX3_readNumber 113 = .ok (.iconst (-1), 1) := by decide +kernel
theorem dX3_readNumber_114 : decode cX3_readNumber 114 = .ok (.ireturn, 1) := by decide +kernel
theorem dX3_readNumber_115 : decode cX3_readNumber 115 = .ok (.aload_n 0, 1) := by decide +kernel
theorem dX3_readNumber_116 : decode cX3_readNumber 116 = .ok (.dup, 1) := by decide +kernel
theorem dX3_readNumber_117 : decode cX3_readNumber 117 = .ok (.getfield 19, 3) := by decide +kernel
theorem dX3_readNumber_120 : decode cX3_readNumber 120 = .ok (.iload 4, 2) := by decide +kernel
theorem dX3_readNumber_122 : decode cX3_readNumber 122 = .ok (.iadd, 1) := by decide +kernel
theorem dX3_readNumber_123 : decode cX3_readNumber 123 = .ok (.putfield 19, 3) := by decide +kernel
theorem dX3_readNumber_126 : decode cX3_readNumber 126 = .ok (.iload_n 3, 1) := by decide +kernel
theorem dX3_readNumber_127 : decode cX3_readNumber 127 = .ok (.ireturn, 1) := by decide +kernel
theorem dX3_nextIs_0 : decode cX3_nextIs 0 = .ok (.aload_n 0, 1) := by decide +kernel
theorem dX3_nextIs_1 : decode cX3_nextIs 1 = .ok (.getfield 19, 3) := by decide +kernel
theorem dX3_nextIs_4 : decode cX3_nextIs 4 = .ok (.aload_n 0, 1) := by decide +kernel
theorem dX3_nextIs_5 : decode cX3_nextIs 5 = .ok (.getfield 15, 3) := by decide +kernel
theorem dX3_nextIs_8 : decode cX3_nextIs 8 = .ok (.if_icmp .ge 20, 3) := by decide +kernel
theorem dX3_nextIs_11 : decode cX3_nextIs 11 = .ok (.aload_n 0, 1) := by decide +kernel
theorem dX3_nextIs_12 : decode cX3_nextIs 12 = .ok (.getfield 9, 3) := by decide +kernel
theorem dX3_nextIs_15 : decode cX3_nextIs 15 = .ok (.aload_n 0, 1) := by decide +kernel
theorem dX3_nextIs_16 : decode cX3_nextIs 16 = .ok (.getfield 19, 3) := by decide +kernel
theorem dX3_nextIs_19 : decode cX3_nextIs 19 = .ok (.iaload, 1) := by decide +kernel
theorem dX3_nextIs_20 : decode cX3_nextIs 20 = .ok (.iload_n 1, 1) := by decide +kernel
theorem dX3_nextIs_21 : decode cX3_nextIs 21 = .ok (.if_icmp .ne 7, 3) := by decide +kernel
theorem dX3_nextIs_24 : decode cX3_nextIs 24 = .ok (.iconst 1, 1) := by decide +kernel
theorem dX3_nextIs_25 : decode cX3_nextIs 25 = .ok (.goto 4, 3) := by decide +kernel
theorem dX3_nextIs_28 : decode cX3_nextIs 28 = .ok (.iconst 0, 1) := by decide +kernel
theorem dX3_nextIs_29 : decode cX3_nextIs 29 = .ok (.ireturn, 1) := by decide +kernel
theorem dX3_fail_0 : decode cX3_fail 0 = .ok (.aload_n 0, 1) := by decide +kernel
theorem dX3_fail_1 : decode cX3_fail 1 = .ok (.aload_n 0, 1) := by decide +kernel
theorem dX3_fail_2 : decode cX3_fail 2 = .ok (.getfield 19, 3) := by decide +kernel
theorem dX3_fail_5 : decode cX3_fail 5 = .ok (.putfield 22, 3) := by decide +kernel
theorem dX3_fail_8 : decode cX3_fail 8 = .ok (.aload_n 0, 1) := by decide +kernel
theorem dX3_fail_9 : decode cX3_fail 9 = .ok (.iload_n 1, 1) := by decide +kernel
theorem dX3_fail_10 : decode cX3_fail 10 = .ok (.putfield 25, 3) := by decide +kernel
theorem dX3_fail_13 : decode cX3_fail 13 = .ok (.iconst 0, 1) := by decide +kernel
theorem dX3_fail_14 : decode cX3_fail 14 = .ok (.ireturn, 1) := by decide +kernel
theorem dX3_isFigure_0 : decode cX3_isFigure 0 = .ok (.iload_n 0, 1) := by decide +kernel
theorem dX3_isFigure_1 : decode cX3_isFigure 1 = .ok (.bipush 48, 2) := by decide +kernel
theorem dX3_isFigure_3 : decode cX3_isFigure 3 = .ok (.if_icmp .lt 13, 3) := by decide +kernel
theorem dX3_isFigure_6 : decode cX3_isFigure 6 = .ok (.iload_n 0, 1) := by decide +kernel
theorem dX3_isFigure_7 : decode cX3_isFigure 7 = .ok (.bipush 57, 2) := by decide +kernel
theorem dX3_isFigure_9 : decode cX3_isFigure 9 = .ok (.if_icmp .gt 7, 3) := by decide +kernel
theorem dX3_isFigure_12 : decode cX3_isFigure 12 = .ok (.iconst 1, 1) := by decide +kernel
theorem dX3_isFigure_13 : decode cX3_isFigure 13 = .ok (.goto 4, 3) := by decide +kernel
theorem dX3_isFigure_16 : decode cX3_isFigure 16 = .ok (.iconst 0, 1) := by decide +kernel
theorem dX3_isFigure_17 : decode cX3_isFigure 17 = .ok (.ireturn, 1) := by decide +kernel
theorem dX3_kindOfSort_0 : decode cX3_kindOfSort 0 = .ok (.iload_n 0, 1) := by decide +kernel
theorem dX3_kindOfSort_1 : decode cX3_kindOfSort 1 = .ok (.lookupswitch 61 #[(98, 55), (107, 59), (108, 53), (112, 57), (117, 51)], 51) := by decide +kernel
theorem dX3_kindOfSort_52 : decode cX3_kindOfSort 52 = .ok (.iconst 1, 1) := by decide +kernel
theorem dX3_kindOfSort_53 : decode cX3_kindOfSort 53 = .ok (.ireturn, 1) := by decide +kernel
theorem dX3_kindOfSort_54 : decode cX3_kindOfSort 54 = .ok (.iconst 2, 1) := by decide +kernel
theorem dX3_kindOfSort_55 : decode cX3_kindOfSort 55 = .ok (.ireturn, 1) := by decide +kernel
theorem dX3_kindOfSort_56 : decode cX3_kindOfSort 56 = .ok (.iconst 3, 1) := by decide +kernel
theorem dX3_kindOfSort_57 : decode cX3_kindOfSort 57 = .ok (.ireturn, 1) := by decide +kernel
theorem dX3_kindOfSort_58 : decode cX3_kindOfSort 58 = .ok (.iconst 4, 1) := by decide +kernel
theorem dX3_kindOfSort_59 : decode cX3_kindOfSort 59 = .ok (.ireturn, 1) := by decide +kernel
theorem dX3_kindOfSort_60 : decode cX3_kindOfSort 60 = .ok (.iconst 5, 1) := by decide +kernel
theorem dX3_kindOfSort_61 : decode cX3_kindOfSort 61 = .ok (.ireturn, 1) := by decide +kernel
theorem dX3_kindOfSort_62 : decode cX3_kindOfSort 62 = .ok (.iconst 0, 1) := by decide +kernel
theorem dX3_kindOfSort_63 : decode cX3_kindOfSort 63 = .ok (.ireturn, 1) := by decide +kernel
theorem dX4_init_0 : decode cX4_init 0 = .ok (.aload_n 0, 1) := by decide +kernel
theorem dX4_init_1 : decode cX4_init 1 = .ok (.invokespecial 3, 3) := by decide +kernel
theorem dX4_init_4 : decode cX4_init 4 = .ok (.aload_n 0, 1) := by decide +kernel
theorem dX4_init_5 : decode cX4_init 5 = .ok (.bipush 40, 2) := by decide +kernel
theorem dX4_init_7 : decode cX4_init 7 = .ok (.newarray .int, 2) := by decide +kernel
theorem dX4_init_9 : decode cX4_init 9 = .ok (.putfield 9, 3) := by decide +kernel
theorem dX4_init_12 : decode cX4_init 12 = .ok (.aload_n 0, 1) := by decide +kernel
theorem dX4_init_13 : decode cX4_init 13 = .ok (.iconst (-1), 1) := by decide +kernel
theorem dX4_init_14 : decode cX4_init 14 = .ok (.putfield 15, 3) := by decide +kernel
theorem dX4_init_17 : decode cX4_init 17 = .ok (.aload_n 0, 1) := by decide +kernel
theorem dX4_init_18 : decode cX4_init 18 = .ok (.iconst 0, 1) := by decide +kernel
theorem dX4_init_19 : decode cX4_init 19 = .ok (.putfield 19, 3) := by decide +kernel
theorem dX4_init_22 : decode cX4_init 22 = .ok (.return_, 1) := by decide +kernel
theorem dX4_isMissing_0 : decode cX4_isMissing 0 = .ok (.aload_n 0, 1) := by decide +kernel
theorem dX4_isMissing_1 : decode cX4_isMissing 1 = .ok (.getfield 15, 3) := by decide +kernel
theorem dX4_isMissing_4 : decode cX4_isMissing 4 = .ok (.iconst (-1), 1) := by decide +kernel
theorem dX4_isMissing_5 : decode cX4_isMissing 5 = .ok (.if_icmp .ne 7, 3) := by decide +kernel
theorem dX4_isMissing_8 : decode cX4_isMissing 8 = .ok (.iconst 1, 1) := by decide +kernel
theorem dX4_isMissing_9 : decode cX4_isMissing 9 = .ok (.goto 4, 3) := by decide +kernel
theorem dX4_isMissing_12 : decode cX4_isMissing 12 = .ok (.iconst 0, 1) := by decide +kernel
theorem dX4_isMissing_13 : decode cX4_isMissing 13 = .ok (.ireturn, 1) := by decide +kernel
theorem dX4_begin_0 : decode cX4_begin 0 = .ok (.aload_n 0, 1) := by decide +kernel
theorem dX4_begin_1 : decode cX4_begin 1 = .ok (.iload_n 1, 1) := by decide +kernel
theorem dX4_begin_2 : decode cX4_begin 2 = .ok (.putfield 15, 3) := by decide +kernel
theorem dX4_begin_5 : decode cX4_begin 5 = .ok (.aload_n 0, 1) := by decide +kernel
theorem dX4_begin_6 : decode cX4_begin 6 = .ok (.iload_n 2, 1) := by decide +kernel
theorem dX4_begin_7 : decode cX4_begin 7 = .ok (.putfield 19, 3) := by decide +kernel
theorem dX4_begin_10 : decode cX4_begin 10 = .ok (.iconst 0, 1) := by decide +kernel
theorem dX4_begin_11 : decode cX4_begin 11 = .ok (.istore_n 3, 1) := by decide +kernel
theorem dX4_begin_12 : decode cX4_begin 12 = .ok (.iload_n 3, 1) := by decide +kernel
theorem dX4_begin_13 : decode cX4_begin 13 = .ok (.bipush 40, 2) := by decide +kernel
theorem dX4_begin_15 : decode cX4_begin 15 = .ok (.if_icmp .ge 16, 3) := by decide +kernel
theorem dX4_begin_18 : decode cX4_begin 18 = .ok (.aload_n 0, 1) := by decide +kernel
theorem dX4_begin_19 : decode cX4_begin 19 = .ok (.getfield 9, 3) := by decide +kernel
theorem dX4_begin_22 : decode cX4_begin 22 = .ok (.iload_n 3, 1) := by decide +kernel
theorem dX4_begin_23 : decode cX4_begin 23 = .ok (.iconst 0, 1) := by decide +kernel
theorem dX4_begin_24 : decode cX4_begin 24 = .ok (.iastore, 1) := by decide +kernel
theorem dX4_begin_25 : decode cX4_begin 25 = .ok (.iinc 3 1, 3) := by decide +kernel
theorem dX4_begin_28 : decode cX4_begin 28 = .ok (.goto (-16), 3) := by decide +kernel
theorem dX4_begin_31 : decode cX4_begin 31 = .ok (.return_, 1) := by decide +kernel
theorem dX4_spans_0 : decode cX4_spans 0 = .ok (.iload_n 1, 1) := by decide +kernel
theorem dX4_spans_1 : decode cX4_spans 1 = .ok (.ifCond .lt 29, 3) := by decide +kernel
theorem dX4_spans_4 : decode cX4_spans 4 = .ok (.iload_n 2, 1) := by decide +kernel
theorem dX4_spans_5 : decode cX4_spans 5 = .ok (.ifCond .lt 25, 3) := by decide +kernel
theorem dX4_spans_8 : decode cX4_spans 8 = .ok (.iload_n 2, 1) := by decide +kernel
theorem dX4_spans_9 : decode cX4_spans 9 = .ok (.aload_n 0, 1) := by decide +kernel
theorem dX4_spans_10 : decode cX4_spans 10 = .ok (.getfield 19, 3) := by decide +kernel
theorem dX4_spans_13 : decode cX4_spans 13 = .ok (.if_icmp .gt 17, 3) := by decide +kernel
theorem dX4_spans_16 : decode cX4_spans 16 = .ok (.iload_n 1, 1) := by decide +kernel
theorem dX4_spans_17 : decode cX4_spans 17 = .ok (.aload_n 0, 1) := by decide +kernel
theorem dX4_spans_18 : decode cX4_spans 18 = .ok (.getfield 19, 3) := by decide +kernel
theorem dX4_spans_21 : decode cX4_spans 21 = .ok (.iload_n 2, 1) := by decide +kernel
theorem dX4_spans_22 : decode cX4_spans 22 = .ok (.isub, 1) := by decide +kernel
theorem dX4_spans_23 : decode cX4_spans 23 = .ok (.if_icmp .gt 7, 3) := by decide +kernel
theorem dX4_spans_26 : decode cX4_spans 26 = .ok (.iconst 1, 1) := by decide +kernel
theorem dX4_spans_27 : decode cX4_spans 27 = .ok (.goto 4, 3) := by decide +kernel
theorem dX4_spans_30 : decode cX4_spans 30 = .ok (.iconst 0, 1) := by decide +kernel
theorem dX4_spans_31 : decode cX4_spans 31 = .ok (.ireturn, 1) := by decide +kernel
theorem dX4_narrowed_0 : decode cX4_narrowed 0 = .ok (.aload_n 0, 1) := by decide +kernel
theorem dX4_narrowed_1 : decode cX4_narrowed 1 = .ok (.getfield 15, 3) := by decide +kernel
theorem dX4_narrowed_4 : decode cX4_narrowed 4 = .ok (.ifCond .ne 6, 3) := by decide +kernel
theorem dX4_narrowed_7 : decode cX4_narrowed 7 = .ok (.iload_n 1, 1) := by decide +kernel
theorem dX4_narrowed_8 : decode cX4_narrowed 8 = .ok (.i2b, 1) := by decide +kernel
theorem dX4_narrowed_9 : decode cX4_narrowed 9 = .ok (.ireturn, 1) := by decide +kernel
theorem dX4_narrowed_10 : decode cX4_narrowed 10 = .ok (.aload_n 0, 1) := by decide +kernel
theorem dX4_narrowed_11 : decode cX4_narrowed 11 = .ok (.getfield 15, 3) := by decide +kernel
theorem dX4_narrowed_14 : decode cX4_narrowed 14 = .ok (.iconst 1, 1) := by decide +kernel
theorem dX4_narrowed_15 : decode cX4_narrowed 15 = .ok (.if_icmp .ne 8, 3) := by decide +kernel
theorem dX4_narrowed_18 : decode cX4_narrowed 18 = .ok (.iload_n 1, 1) := by decide +kernel
theorem dX4_narrowed_19 : decode cX4_narrowed 19 = .ok (.i2s, 1) := by decide +kernel
theorem dX4_narrowed_20 : decode cX4_narrowed 20 = .ok (.goto 4, 3) := by decide +kernel
theorem dX4_narrowed_23 : decode cX4_narrowed 23 = .ok (.iload_n 1, 1) := by decide +kernel
theorem dX4_narrowed_24 : decode cX4_narrowed 24 = .ok (.ireturn, 1) := by decide +kernel
theorem dX4_tellsMeetingsFrom_0 : decode cX4_tellsMeetingsFrom 0 = .ok (.iconst 0, 1) := by decide +kernel
theorem dX4_tellsMeetingsFrom_1 : decode cX4_tellsMeetingsFrom 1 = .ok (.istore 4, 2) := by decide +kernel
theorem dX4_tellsMeetingsFrom_3 : decode cX4_tellsMeetingsFrom 3 = .ok (.iload 4, 2) := by decide +kernel
theorem dX4_tellsMeetingsFrom_5 : decode cX4_tellsMeetingsFrom 5 = .ok (.iload_n 3, 1) := by decide +kernel
theorem dX4_tellsMeetingsFrom_6 : decode cX4_tellsMeetingsFrom 6 = .ok (.if_icmp .ge 44, 3) := by decide +kernel
theorem dX4_tellsMeetingsFrom_9 : decode cX4_tellsMeetingsFrom 9 = .ok (.iload_n 1, 1) := by decide +kernel
theorem dX4_tellsMeetingsFrom_10 : decode cX4_tellsMeetingsFrom 10 = .ok (.ldc 22, 2) := by decide +kernel
theorem dX4_tellsMeetingsFrom_12 : decode cX4_tellsMeetingsFrom 12 = .ok (.if_icmp .eq 13, 3) := by decide +kernel
theorem dX4_tellsMeetingsFrom_15 : decode cX4_tellsMeetingsFrom 15 = .ok (.iload 4, 2) := by decide +kernel
theorem dX4_tellsMeetingsFrom_17 : decode cX4_tellsMeetingsFrom 17 = .ok (.iload_n 1, 1) := by decide +kernel
theorem dX4_tellsMeetingsFrom_18 : decode cX4_tellsMeetingsFrom 18 = .ok (.if_icmp .lt 7, 3) := by decide +kernel
theorem dX4_tellsMeetingsFrom_21 : decode cX4_tellsMeetingsFrom 21 = .ok (.iconst 1, 1) := by decide +kernel
theorem dX4_tellsMeetingsFrom_22 : decode cX4_tellsMeetingsFrom 22 = .ok (.goto 4, 3) := by decide +kernel
theorem dX4_tellsMeetingsFrom_25 : decode cX4_tellsMeetingsFrom 25 = .ok (.iconst 0, 1) := by decide +kernel
theorem dX4_tellsMeetingsFrom_26 : decode cX4_tellsMeetingsFrom 26 = .ok (.istore 5, 2) := by decide +kernel
theorem dX4_tellsMeetingsFrom_28 : decode cX4_tellsMeetingsFrom 28 = .ok (.aload_n 0, 1) := by decide +kernel
theorem dX4_tellsMeetingsFrom_29 : decode cX4_tellsMeetingsFrom 29 = .ok (.getfield 9, 3) := by decide +kernel
theorem dX4_tellsMeetingsFrom_32 : decode cX4_tellsMeetingsFrom 32 = .ok (.iload_n 2, 1) := by decide +kernel
theorem dX4_tellsMeetingsFrom_33 : decode cX4_tellsMeetingsFrom 33 = .ok (.iload 4, 2) := by decide +kernel
theorem dX4_tellsMeetingsFrom_35 : decode cX4_tellsMeetingsFrom 35 = .ok (.iadd, 1) := by decide +kernel
theorem dX4_tellsMeetingsFrom_36 : decode cX4_tellsMeetingsFrom 36 = .ok (.iaload, 1) := by decide +kernel
theorem dX4_tellsMeetingsFrom_37 : decode cX4_tellsMeetingsFrom 37 = .ok (.iload 5, 2) := by decide +kernel
theorem dX4_tellsMeetingsFrom_39 : decode cX4_tellsMeetingsFrom 39 = .ok (.if_icmp .eq 5, 3) := by decide +kernel
theorem dX4_tellsMeetingsFrom_42 : decode cX4_tellsMeetingsFrom 42 = .ok (.iconst 0, 1) := by decide +kernel
theorem dX4_tellsMeetingsFrom_43 : decode cX4_tellsMeetingsFrom 43 = .ok (.ireturn, 1) := by decide +kernel
theorem dX4_tellsMeetingsFrom_44 : decode cX4_tellsMeetingsFrom 44 = .ok (.iinc 4 1, 3) := by decide +kernel
theorem dX4_tellsMeetingsFrom_47 : decode cX4_tellsMeetingsFrom 47 = .ok (.goto (-44), 3) := by decide +kernel
theorem dX4_tellsMeetingsFrom_50 : decode cX4_tellsMeetingsFrom 50 = .ok (.iconst 1, 1) := by decide +kernel
theorem dX4_tellsMeetingsFrom_51 : decode cX4_tellsMeetingsFrom 51 = .ok (.ireturn, 1) := by decide +kernel
theorem dX5_init_0 : decode cX5_init 0 = .ok (.aload_n 0, 1) := by decide +kernel
theorem dX5_init_1 : decode cX5_init 1 = .ok (.invokespecial 3, 3) := by decide +kernel
theorem dX5_init_4 : decode cX5_init 4 = .ok (.aload_n 0, 1) := by decide +kernel
theorem dX5_init_5 : decode cX5_init 5 = .ok (.bipush 6, 2) := by decide +kernel
theorem dX5_init_7 : decode cX5_init 7 = .ok (.newarray .int, 2) := by decide +kernel
theorem dX5_init_9 : decode cX5_init 9 = .ok (.putfield 9, 3) := by decide +kernel
theorem dX5_init_12 : decode cX5_init 12 = .ok (.aload_n 0, 1) := by decide +kernel
theorem dX5_init_13 : decode cX5_init 13 = .ok (.bipush 6, 2) := by decide +kernel
theorem dX5_init_15 : decode cX5_init 15 = .ok (.newarray .int, 2) := by decide +kernel
theorem dX5_init_17 : decode cX5_init 17 = .ok (.putfield 15, 3) := by decide +kernel
theorem dX5_init_20 : decode cX5_init 20 = .ok (.aload_n 0, 1) := by decide +kernel
theorem dX5_init_21 : decode cX5_init 21 = .ok (.bipush 6, 2) := by decide +kernel
theorem dX5_init_23 : decode cX5_init 23 = .ok (.newarray .int, 2) := by decide +kernel
theorem dX5_init_25 : decode cX5_init 25 = .ok (.putfield 18, 3) := by decide +kernel
theorem dX5_init_28 : decode cX5_init 28 = .ok (.aload_n 0, 1) := by decide +kernel
theorem dX5_init_29 : decode cX5_init 29 = .ok (.bipush 6, 2) := by decide +kernel
theorem dX5_init_31 : decode cX5_init 31 = .ok (.newarray .int, 2) := by decide +kernel
theorem dX5_init_33 : decode cX5_init 33 = .ok (.putfield 21, 3) := by decide +kernel
theorem dX5_init_36 : decode cX5_init 36 = .ok (.aload_n 0, 1) := by decide +kernel
theorem dX5_init_37 : decode cX5_init 37 = .ok (.bipush 6, 2) := by decide +kernel
theorem dX5_init_39 : decode cX5_init 39 = .ok (.newarray .int, 2) := by decide +kernel
theorem dX5_init_41 : decode cX5_init 41 = .ok (.putfield 24, 3) := by decide +kernel
theorem dX5_init_44 : decode cX5_init 44 = .ok (.aload_n 0, 1) := by decide +kernel
theorem dX5_init_45 : decode cX5_init 45 = .ok (.bipush 6, 2) := by decide +kernel
theorem dX5_init_47 : decode cX5_init 47 = .ok (.newarray .int, 2) := by decide +kernel
theorem dX5_init_49 : decode cX5_init 49 = .ok (.putfield 27, 3) := by decide +kernel
theorem dX5_init_52 : decode cX5_init 52 = .ok (.aload_n 0, 1) := by decide +kernel
theorem dX5_init_53 : decode cX5_init 53 = .ok (.bipush 6, 2) := by decide +kernel
theorem dX5_init_55 : decode cX5_init 55 = .ok (.newarray .int, 2) := by decide +kernel
theorem dX5_init_57 : decode cX5_init 57 = .ok (.putfield 30, 3) := by decide +kernel
theorem dX5_init_60 : decode cX5_init 60 = .ok (.aload_n 0, 1) := by decide +kernel
theorem dX5_init_61 : decode cX5_init 61 = .ok (.bipush 6, 2) := by decide +kernel
theorem dX5_init_63 : decode cX5_init 63 = .ok (.newarray .int, 2) := by decide +kernel
theorem dX5_init_65 : decode cX5_init 65 = .ok (.putfield 33, 3) := by decide +kernel
theorem dX5_init_68 : decode cX5_init 68 = .ok (.aload_n 0, 1) := by decide +kernel
theorem dX5_init_69 : decode cX5_init 69 = .ok (.iconst 0, 1) := by decide +kernel
theorem dX5_init_70 : decode cX5_init 70 = .ok (.putfield 36, 3) := by decide +kernel
theorem dX5_init_73 : decode cX5_init 73 = .ok (.aload_n 0, 1) := by decide +kernel
theorem dX5_init_74 : decode cX5_init 74 = .ok (.iconst 0, 1) := by decide +kernel
theorem dX5_init_75 : decode cX5_init 75 = .ok (.putfield 40, 3) := by decide +kernel
theorem dX5_init_78 : decode cX5_init 78 = .ok (.aload_n 0, 1) := by decide +kernel
theorem dX5_init_79 : decode cX5_init 79 = .ok (.iconst 0, 1) := by decide +kernel
theorem dX5_init_80 : decode cX5_init 80 = .ok (.putfield 43, 3) := by decide +kernel
theorem dX5_init_83 : decode cX5_init 83 = .ok (.aload_n 0, 1) := by decide +kernel
theorem dX5_init_84 : decode cX5_init 84 = .ok (.iconst 0, 1) := by decide +kernel
theorem dX5_init_85 : decode cX5_init 85 = .ok (.putfield 46, 3) := by decide +kernel
theorem dX5_init_88 : decode cX5_init 88 = .ok (.aload_n 0, 1) := by decide +kernel
theorem dX5_init_89 : decode cX5_init 89 = .ok (.iconst 0, 1) := by decide +kernel
theorem dX5_init_90 : decode cX5_init 90 = .ok (.putfield 49, 3) := by decide +kernel
theorem dX5_init_93 : decode cX5_init 93 = .ok (.return_, 1) := by decide +kernel
theorem dX5_isTold_0 : decode cX5_isTold 0 = .ok (.aload_n 0, 1) := by decide +kernel
theorem dX5_isTold_1 : decode cX5_isTold 1 = .ok (.getfield 36, 3) := by decide +kernel
theorem dX5_isTold_4 : decode cX5_isTold 4 = .ok (.ifCond .le 7, 3) := by decide +kernel
theorem dX5_isTold_7 : decode cX5_isTold 7 = .ok (.iconst 1, 1) := by decide +kernel
theorem dX5_isTold_8 : decode cX5_isTold 8 = .ok (.goto 4, 3) := by decide +kernel
theorem dX5_isTold_11 : decode cX5_isTold 11 = .ok (.iconst 0, 1) := by decide +kernel
theorem dX5_isTold_12 : decode cX5_isTold 12 = .ok (.ireturn, 1) := by decide +kernel
theorem dX5_hasDoor_0 : decode cX5_hasDoor 0 = .ok (.iload_n 1, 1) := by decide +kernel
theorem dX5_hasDoor_1 : decode cX5_hasDoor 1 = .ok (.ifCond .lt 15, 3) := by decide +kernel
theorem dX5_hasDoor_4 : decode cX5_hasDoor 4 = .ok (.iload_n 1, 1) := by decide +kernel
theorem dX5_hasDoor_5 : decode cX5_hasDoor 5 = .ok (.aload_n 0, 1) := by decide +kernel
theorem dX5_hasDoor_6 : decode cX5_hasDoor 6 = .ok (.getfield 36, 3) := by decide +kernel
theorem dX5_hasDoor_9 : decode cX5_hasDoor 9 = .ok (.if_icmp .ge 7, 3) := by decide +kernel
theorem dX5_hasDoor_12 : decode cX5_hasDoor 12 = .ok (.iconst 1, 1) := by decide +kernel
theorem dX5_hasDoor_13 : decode cX5_hasDoor 13 = .ok (.goto 4, 3) := by decide +kernel
theorem dX5_hasDoor_16 : decode cX5_hasDoor 16 = .ok (.iconst 0, 1) := by decide +kernel
theorem dX5_hasDoor_17 : decode cX5_hasDoor 17 = .ok (.ireturn, 1) := by decide +kernel
theorem dX5_hasCaller_0 : decode cX5_hasCaller 0 = .ok (.iload_n 1, 1) := by decide +kernel
theorem dX5_hasCaller_1 : decode cX5_hasCaller 1 = .ok (.ifCond .lt 15, 3) := by decide +kernel
theorem dX5_hasCaller_4 : decode cX5_hasCaller 4 = .ok (.iload_n 1, 1) := by decide +kernel
theorem dX5_hasCaller_5 : decode cX5_hasCaller 5 = .ok (.aload_n 0, 1) := by decide +kernel
theorem dX5_hasCaller_6 : decode cX5_hasCaller 6 = .ok (.getfield 40, 3) := by decide +kernel
theorem dX5_hasCaller_9 : decode cX5_hasCaller 9 = .ok (.if_icmp .ge 7, 3) := by decide +kernel
theorem dX5_hasCaller_12 : decode cX5_hasCaller 12 = .ok (.iconst 1, 1) := by decide +kernel
theorem dX5_hasCaller_13 : decode cX5_hasCaller 13 = .ok (.goto 4, 3) := by decide +kernel
theorem dX5_hasCaller_16 : decode cX5_hasCaller 16 = .ok (.iconst 0, 1) := by decide +kernel
theorem dX5_hasCaller_17 : decode cX5_hasCaller 17 = .ok (.ireturn, 1) := by decide +kernel
theorem dX5_allDoors_0 : decode cX5_allDoors 0 = .ok (.iconst 1, 1) := by decide +kernel
theorem dX5_allDoors_1 : decode cX5_allDoors 1 = .ok (.aload_n 0, 1) := by decide +kernel
theorem dX5_allDoors_2 : decode cX5_allDoors 2 = .ok (.getfield 36, 3) := by decide +kernel
theorem dX5_allDoors_5 : decode cX5_allDoors 5 = .ok (.ishl, 1) := by decide +kernel
theorem dX5_allDoors_6 : decode cX5_allDoors 6 = .ok (.iconst 1, 1) := by decide +kernel
theorem dX5_allDoors_7 : decode cX5_allDoors 7 = .ok (.isub, 1) := by decide +kernel
theorem dX5_allDoors_8 : decode cX5_allDoors 8 = .ok (.ireturn, 1) := by decide +kernel
theorem dX5_allCallers_0 : decode cX5_allCallers 0 = .ok (.iconst 1, 1) := by decide +kernel
theorem dX5_allCallers_1 : decode cX5_allCallers 1 = .ok (.aload_n 0, 1) := by decide +kernel
theorem dX5_allCallers_2 : decode cX5_allCallers 2 = .ok (.getfield 40, 3) := by decide +kernel
theorem dX5_allCallers_5 : decode cX5_allCallers 5 = .ok (.ishl, 1) := by decide +kernel
theorem dX5_allCallers_6 : decode cX5_allCallers 6 = .ok (.iconst 1, 1) := by decide +kernel
theorem dX5_allCallers_7 : decode cX5_allCallers 7 = .ok (.isub, 1) := by decide +kernel
theorem dX5_allCallers_8 : decode cX5_allCallers 8 = .ok (.ireturn, 1) := by decide +kernel
theorem dX5_begin_0 : decode cX5_begin 0 = .ok (.aload_n 0, 1) := by decide +kernel
theorem dX5_begin_1 : decode cX5_begin 1 = .ok (.iconst 0, 1) := by decide +kernel
theorem dX5_begin_2 : decode cX5_begin 2 = .ok (.putfield 36, 3) := by decide +kernel
theorem dX5_begin_5 : decode cX5_begin 5 = .ok (.aload_n 0, 1) := by decide +kernel
theorem dX5_begin_6 : decode cX5_begin 6 = .ok (.iconst 0, 1) := by decide +kernel
theorem dX5_begin_7 : decode cX5_begin 7 = .ok (.putfield 40, 3) := by decide +kernel
theorem dX5_begin_10 : decode cX5_begin 10 = .ok (.aload_n 0, 1) := by decide +kernel
theorem dX5_begin_11 : decode cX5_begin 11 = .ok (.iload_n 1, 1) := by decide +kernel
theorem dX5_begin_12 : decode cX5_begin 12 = .ok (.putfield 43, 3) := by decide +kernel
theorem dX5_begin_15 : decode cX5_begin 15 = .ok (.aload_n 0, 1) := by decide +kernel
theorem dX5_begin_16 : decode cX5_begin 16 = .ok (.iload_n 2, 1) := by decide +kernel
theorem dX5_begin_17 : decode cX5_begin 17 = .ok (.putfield 46, 3) := by decide +kernel
theorem dX5_begin_20 : decode cX5_begin 20 = .ok (.aload_n 0, 1) := by decide +kernel
theorem dX5_begin_21 : decode cX5_begin 21 = .ok (.iconst 0, 1) := by decide +kernel
theorem dX5_begin_22 : decode cX5_begin 22 = .ok (.putfield 49, 3) := by decide +kernel
theorem dX5_begin_25 : decode cX5_begin 25 = .ok (.return_, 1) := by decide +kernel
theorem dX5_addDoor_0 : decode cX5_addDoor 0 = .ok (.aload_n 0, 1) := by decide +kernel
theorem dX5_addDoor_1 : decode cX5_addDoor 1 = .ok (.getfield 9, 3) := by decide +kernel
theorem dX5_addDoor_4 : decode cX5_addDoor 4 = .ok (.aload_n 0, 1) := by decide +kernel
theorem dX5_addDoor_5 : decode cX5_addDoor 5 = .ok (.getfield 36, 3) := by decide +kernel
theorem dX5_addDoor_8 : decode cX5_addDoor 8 = .ok (.iload_n 1, 1) := by decide +kernel
theorem dX5_addDoor_9 : decode cX5_addDoor 9 = .ok (.iastore, 1) := by decide +kernel
theorem dX5_addDoor_10 : decode cX5_addDoor 10 = .ok (.aload_n 0, 1) := by decide +kernel
theorem dX5_addDoor_11 : decode cX5_addDoor 11 = .ok (.dup, 1) := by decide +kernel
theorem dX5_addDoor_12 : decode cX5_addDoor 12 = .ok (.getfield 36, 3) := by decide +kernel
theorem dX5_addDoor_15 : decode cX5_addDoor 15 = .ok (.iconst 1, 1) := by decide +kernel
theorem dX5_addDoor_16 : decode cX5_addDoor 16 = .ok (.iadd, 1) := by decide +kernel
theorem dX5_addDoor_17 : decode cX5_addDoor 17 = .ok (.putfield 36, 3) := by decide +kernel
theorem dX5_addDoor_20 : decode cX5_addDoor 20 = .ok (.aload_n 0, 1) := by decide +kernel
theorem dX5_addDoor_21 : decode cX5_addDoor 21 = .ok (.aload_n 0, 1) := by decide +kernel
theorem dX5_addDoor_22 : decode cX5_addDoor 22 = .ok (.getfield 36, 3) := by decide +kernel
theorem dX5_addDoor_25 : decode cX5_addDoor 25 = .ok (.iconst 1, 1) := by decide +kernel
theorem dX5_addDoor_26 : decode cX5_addDoor 26 = .ok (.isub, 1) := by decide +kernel
theorem dX5_addDoor_27 : decode cX5_addDoor 27 = .ok (.invokevirtual 52, 3) := by decide +kernel
theorem dX5_addDoor_30 : decode cX5_addDoor 30 = .ok (.return_, 1) := by decide +kernel
theorem dX5_addCaller_0 : decode cX5_addCaller 0 = .ok (.aload_n 0, 1) := by decide +kernel
theorem dX5_addCaller_1 : decode cX5_addCaller 1 = .ok (.getfield 24, 3) := by decide +kernel
theorem dX5_addCaller_4 : decode cX5_addCaller 4 = .ok (.aload_n 0, 1) := by decide +kernel
theorem dX5_addCaller_5 : decode cX5_addCaller 5 = .ok (.getfield 40, 3) := by decide +kernel
theorem dX5_addCaller_8 : decode cX5_addCaller 8 = .ok (.iload_n 1, 1) := by decide +kernel
theorem dX5_addCaller_9 : decode cX5_addCaller 9 = .ok (.iastore, 1) := by decide +kernel
theorem dX5_addCaller_10 : decode cX5_addCaller 10 = .ok (.aload_n 0, 1) := by decide +kernel
theorem dX5_addCaller_11 : decode cX5_addCaller 11 = .ok (.getfield 27, 3) := by decide +kernel
theorem dX5_addCaller_14 : decode cX5_addCaller 14 = .ok (.aload_n 0, 1) := by decide +kernel
theorem dX5_addCaller_15 : decode cX5_addCaller 15 = .ok (.getfield 40, 3) := by decide +kernel
theorem dX5_addCaller_18 : decode cX5_addCaller 18 = .ok (.iload_n 2, 1) := by decide +kernel
theorem dX5_addCaller_19 : decode cX5_addCaller 19 = .ok (.iastore, 1) := by decide +kernel
theorem dX5_addCaller_20 : decode cX5_addCaller 20 = .ok (.aload_n 0, 1) := by decide +kernel
theorem dX5_addCaller_21 : decode cX5_addCaller 21 = .ok (.getfield 30, 3) := by decide +kernel
theorem dX5_addCaller_24 : decode cX5_addCaller 24 = .ok (.aload_n 0, 1) := by decide +kernel
theorem dX5_addCaller_25 : decode cX5_addCaller 25 = .ok (.getfield 40, 3) := by decide +kernel
theorem dX5_addCaller_28 : decode cX5_addCaller 28 = .ok (.iload_n 3, 1) := by decide +kernel
theorem dX5_addCaller_29 : decode cX5_addCaller 29 = .ok (.iastore, 1) := by decide +kernel
theorem dX5_addCaller_30 : decode cX5_addCaller 30 = .ok (.aload_n 0, 1) := by decide +kernel
theorem dX5_addCaller_31 : decode cX5_addCaller 31 = .ok (.getfield 33, 3) := by decide +kernel
theorem dX5_addCaller_34 : decode cX5_addCaller 34 = .ok (.aload_n 0, 1) := by decide +kernel
theorem dX5_addCaller_35 : decode cX5_addCaller 35 = .ok (.getfield 40, 3) := by decide +kernel
theorem dX5_addCaller_38 : decode cX5_addCaller 38 = .ok (.iconst 0, 1) := by decide +kernel
theorem dX5_addCaller_39 : decode cX5_addCaller 39 = .ok (.iastore, 1) := by decide +kernel
theorem dX5_addCaller_40 : decode cX5_addCaller 40 = .ok (.aload_n 0, 1) := by decide +kernel
theorem dX5_addCaller_41 : decode cX5_addCaller 41 = .ok (.dup, 1) := by decide +kernel
theorem dX5_addCaller_42 : decode cX5_addCaller 42 = .ok (.getfield 40, 3) := by decide +kernel
theorem dX5_addCaller_45 : decode cX5_addCaller 45 = .ok (.iconst 1, 1) := by decide +kernel
theorem dX5_addCaller_46 : decode cX5_addCaller 46 = .ok (.iadd, 1) := by decide +kernel
theorem dX5_addCaller_47 : decode cX5_addCaller 47 = .ok (.putfield 40, 3) := by decide +kernel
theorem dX5_addCaller_50 : decode cX5_addCaller 50 = .ok (.return_, 1) := by decide +kernel
theorem dX5_clearDoor_0 : decode cX5_clearDoor 0 = .ok (.aload_n 0, 1) := by decide +kernel
theorem dX5_clearDoor_1 : decode cX5_clearDoor 1 = .ok (.iload_n 1, 1) := by decide +kernel
theorem dX5_clearDoor_2 : decode cX5_clearDoor 2 = .ok (.invokevirtual 56, 3) := by decide +kernel
theorem dX5_clearDoor_5 : decode cX5_clearDoor 5 = .ok (.ifCond .eq 24, 3) := by decide +kernel
theorem dX5_clearDoor_8 : decode cX5_clearDoor 8 = .ok (.aload_n 0, 1) := by decide +kernel
theorem dX5_clearDoor_9 : decode cX5_clearDoor 9 = .ok (.getfield 15, 3) := by decide +kernel
theorem dX5_clearDoor_12 : decode cX5_clearDoor 12 = .ok (.iload_n 1, 1) := by decide +kernel
theorem dX5_clearDoor_13 : decode cX5_clearDoor 13 = .ok (.iconst 0, 1) := by decide +kernel
theorem dX5_clearDoor_14 : decode cX5_clearDoor 14 = .ok (.iastore, 1) := by decide +kernel
theorem dX5_clearDoor_15 : decode cX5_clearDoor 15 = .ok (.aload_n 0, 1) := by decide +kernel
theorem dX5_clearDoor_16 : decode cX5_clearDoor 16 = .ok (.getfield 18, 3) := by decide +kernel
theorem dX5_clearDoor_19 : decode cX5_clearDoor 19 = .ok (.iload_n 1, 1) := by decide +kernel
theorem dX5_clearDoor_20 : decode cX5_clearDoor 20 = .ok (.iconst 0, 1) := by decide +kernel
theorem dX5_clearDoor_21 : decode cX5_clearDoor 21 = .ok (.iastore, 1) := by decide +kernel
theorem dX5_clearDoor_22 : decode cX5_clearDoor 22 = .ok (.aload_n 0, 1) := by decide +kernel
theorem dX5_clearDoor_23 : decode cX5_clearDoor 23 = .ok (.getfield 21, 3) := by decide +kernel
theorem dX5_clearDoor_26 : decode cX5_clearDoor 26 = .ok (.iload_n 1, 1) := by decide +kernel
theorem dX5_clearDoor_27 : decode cX5_clearDoor 27 = .ok (.iconst 0, 1) := by decide +kernel
theorem dX5_clearDoor_28 : decode cX5_clearDoor 28 = .ok (.iastore, 1) := by decide +kernel
theorem dX5_clearDoor_29 : decode cX5_clearDoor 29 = .ok (.return_, 1) := by decide +kernel
theorem dX5_takeOver_0 : decode cX5_takeOver 0 = .ok (.aload_n 1, 1) := by decide +kernel
theorem dX5_takeOver_1 : decode cX5_takeOver 1 = .ok (.getfield 9, 3) := by decide +kernel
theorem dX5_takeOver_4 : decode cX5_takeOver 4 = .ok (.iconst 0, 1) := by decide +kernel
theorem dX5_takeOver_5 : decode cX5_takeOver 5 = .ok (.aload_n 0, 1) := by decide +kernel
theorem dX5_takeOver_6 : decode cX5_takeOver 6 = .ok (.getfield 9, 3) := by decide +kernel
theorem dX5_takeOver_9 : decode cX5_takeOver 9 = .ok (.iconst 0, 1) := by decide +kernel
theorem dX5_takeOver_10 : decode cX5_takeOver 10 = .ok (.bipush 6, 2) := by decide +kernel
theorem dX5_takeOver_12 : decode cX5_takeOver 12 = .ok (.invokestatic 60, 3) := by decide +kernel
theorem dX5_takeOver_15 : decode cX5_takeOver 15 = .ok (.aload_n 1, 1) := by decide +kernel
theorem dX5_takeOver_16 : decode cX5_takeOver 16 = .ok (.getfield 15, 3) := by decide +kernel
theorem dX5_takeOver_19 : decode cX5_takeOver 19 = .ok (.iconst 0, 1) := by decide +kernel
