theorem dX6_sleeps_12 : decode cX6_sleeps 12 = .ok (.ifCond .lt 16, 3) := by decide +kernel
theorem dX6_sleeps_15 : decode cX6_sleeps 15 = .ok (.iload_n 2, 1) := by decide +kernel
theorem dX6_sleeps_16 : decode cX6_sleeps 16 = .ok (.bipush 10, 2) := by decide +kernel
theorem dX6_sleeps_18 : decode cX6_sleeps 18 = .ok (.if_icmp .gt 10, 3) := by decide +kernel
theorem dX6_sleeps_21 : decode cX6_sleeps 21 = .ok (.iload_n 3, 1) := by decide +kernel
theorem dX6_sleeps_22 : decode cX6_sleeps 22 = .ok (.invokestatic 164, 3) := by decide +kernel
theorem dX6_sleeps_25 : decode cX6_sleeps 25 = .ok (.ifCond .ne 7, 3) := by decide +kernel
theorem dX6_sleeps_28 : decode cX6_sleeps 28 = .ok (.ldc2_w 266, 3) := by decide +kernel
theorem dX6_sleeps_31 : decode cX6_sleeps 31 = .ok (.lreturn, 1) := by decide +kernel
theorem dX6_sleeps_32 : decode cX6_sleeps 32 = .ok (.aload_n 0, 1) := by decide +kernel
theorem dX6_sleeps_33 : decode cX6_sleeps 33 = .ok (.iload_n 1, 1) := by decide +kernel
theorem dX6_sleeps_34 : decode cX6_sleeps 34 = .ok (.iload_n 2, 1) := by decide +kernel
theorem dX6_sleeps_35 : decode cX6_sleeps 35 = .ok (.invokevirtual 268, 3) := by decide +kernel
theorem dX6_sleeps_38 : decode cX6_sleeps 38 = .ok (.istore 4, 2) := by decide +kernel
theorem dX6_sleeps_40 : decode cX6_sleeps 40 = .ok (.iconst 1, 1) := by decide +kernel
theorem dX6_sleeps_41 : decode cX6_sleeps 41 = .ok (.sipush 1000, 3) := by decide +kernel
theorem dX6_sleeps_44 : decode cX6_sleeps 44 = .ok (.iload 4, 2) := by decide +kernel
theorem dX6_sleeps_46 : decode cX6_sleeps 46 = .ok (.invokestatic 271, 3) := by decide +kernel
theorem dX6_sleeps_49 : decode cX6_sleeps 49 = .ok (.invokestatic 274, 3) := by decide +kernel
theorem dX6_sleeps_52 : decode cX6_sleeps 52 = .ok (.istore 5, 2) := by decide +kernel
theorem dX6_sleeps_54 : decode cX6_sleeps 54 = .ok (.iload_n 3, 1) := by decide +kernel
theorem dX6_sleeps_55 : decode cX6_sleeps 55 = .ok (.ifCond .ne 8, 3) := by decide +kernel
theorem dX6_sleeps_58 : decode cX6_sleeps 58 = .ok (.iload 4, 2) := by decide +kernel
theorem dX6_sleeps_60 : decode cX6_sleeps 60 = .ok (.goto 6, 3) := by decide +kernel
theorem dX6_sleeps_63 : decode cX6_sleeps 63 = .ok (.sipush 1000, 3) := by decide +kernel
theorem dX6_sleeps_66 : decode cX6_sleeps 66 = .ok (.iload 5, 2) := by decide +kernel
theorem dX6_sleeps_68 : decode cX6_sleeps 68 = .ok (.idiv, 1) := by decide +kernel
theorem dX6_sleeps_69 : decode cX6_sleeps 69 = .ok (.i2l, 1) := by decide +kernel
theorem dX6_sleeps_70 : decode cX6_sleeps 70 = .ok (.lreturn, 1) := by decide +kernel
theorem dX6_reaches_0 : decode cX6_reaches 0 = .ok (.aload_n 0, 1) := by decide +kernel
theorem dX6_reaches_1 : decode cX6_reaches 1 = .ok (.getfield 22, 3) := by decide +kernel
theorem dX6_reaches_4 : decode cX6_reaches 4 = .ok (.iload_n 1, 1) := by decide +kernel
theorem dX6_reaches_5 : decode cX6_reaches 5 = .ok (.invokevirtual 147, 3) := by decide +kernel
theorem dX6_reaches_8 : decode cX6_reaches 8 = .ok (.ifCond .eq 10, 3) := by decide +kernel
theorem dX6_reaches_11 : decode cX6_reaches 11 = .ok (.iload_n 2, 1) := by decide +kernel
theorem dX6_reaches_12 : decode cX6_reaches 12 = .ok (.invokestatic 164, 3) := by decide +kernel
theorem dX6_reaches_15 : decode cX6_reaches 15 = .ok (.ifCond .ne 6, 3) := by decide +kernel
theorem dX6_reaches_18 : decode cX6_reaches 18 = .ok (.ldc 69, 2) := by decide +kernel
theorem dX6_reaches_20 : decode cX6_reaches 20 = .ok (.ireturn, 1) := by decide +kernel
theorem dX6_reaches_21 : decode cX6_reaches 21 = .ok (.iload_n 2, 1) := by decide +kernel
theorem dX6_reaches_22 : decode cX6_reaches 22 = .ok (.ifCond .ne 20, 3) := by decide +kernel
theorem dX6_reaches_25 : decode cX6_reaches 25 = .ok (.bipush 7, 2) := by decide +kernel
theorem dX6_reaches_27 : decode cX6_reaches 27 = .ok (.iload_n 1, 1) := by decide +kernel
theorem dX6_reaches_28 : decode cX6_reaches 28 = .ok (.ishl, 1) := by decide +kernel
theorem dX6_reaches_29 : decode cX6_reaches 29 = .ok (.iconst 1, 1) := by decide +kernel
theorem dX6_reaches_30 : decode cX6_reaches 30 = .ok (.ishr, 1) := by decide +kernel
theorem dX6_reaches_31 : decode cX6_reaches 31 = .ok (.istore_n 3, 1) := by decide +kernel
theorem dX6_reaches_32 : decode cX6_reaches 32 = .ok (.iload_n 3, 1) := by decide +kernel
theorem dX6_reaches_33 : decode cX6_reaches 33 = .ok (.aload_n 0, 1) := by decide +kernel
theorem dX6_reaches_34 : decode cX6_reaches 34 = .ok (.getfield 22, 3) := by decide +kernel
theorem dX6_reaches_37 : decode cX6_reaches 37 = .ok (.invokevirtual 277, 3) := by decide +kernel
theorem dX6_reaches_40 : decode cX6_reaches 40 = .ok (.iand, 1) := by decide +kernel
theorem dX6_reaches_41 : decode cX6_reaches 41 = .ok (.ireturn, 1) := by decide +kernel
theorem dX6_reaches_42 : decode cX6_reaches 42 = .ok (.aload_n 0, 1) := by decide +kernel
theorem dX6_reaches_43 : decode cX6_reaches 43 = .ok (.getfield 26, 3) := by decide +kernel
theorem dX6_reaches_46 : decode cX6_reaches 46 = .ok (.aload_n 0, 1) := by decide +kernel
theorem dX6_reaches_47 : decode cX6_reaches 47 = .ok (.getfield 22, 3) := by decide +kernel
theorem dX6_reaches_50 : decode cX6_reaches 50 = .ok (.invokevirtual 130, 3) := by decide +kernel
theorem dX6_reaches_53 : decode cX6_reaches 53 = .ok (.aload_n 0, 1) := by decide +kernel
theorem dX6_reaches_54 : decode cX6_reaches 54 = .ok (.getfield 26, 3) := by decide +kernel
theorem dX6_reaches_57 : decode cX6_reaches 57 = .ok (.getfield 167, 3) := by decide +kernel
theorem dX6_reaches_60 : decode cX6_reaches 60 = .ok (.iload_n 1, 1) := by decide +kernel
theorem dX6_reaches_61 : decode cX6_reaches 61 = .ok (.iconst 0, 1) := by decide +kernel
theorem dX6_reaches_62 : decode cX6_reaches 62 = .ok (.iastore, 1) := by decide +kernel
theorem dX6_reaches_63 : decode cX6_reaches 63 = .ok (.aload_n 0, 1) := by decide +kernel
theorem dX6_reaches_64 : decode cX6_reaches 64 = .ok (.getfield 26, 3) := by decide +kernel
theorem dX6_reaches_67 : decode cX6_reaches 67 = .ok (.getfield 170, 3) := by decide +kernel
theorem dX6_reaches_70 : decode cX6_reaches 70 = .ok (.iload_n 1, 1) := by decide +kernel
theorem dX6_reaches_71 : decode cX6_reaches 71 = .ok (.iconst 0, 1) := by decide +kernel
theorem dX6_reaches_72 : decode cX6_reaches 72 = .ok (.iastore, 1) := by decide +kernel
theorem dX6_reaches_73 : decode cX6_reaches 73 = .ok (.aload_n 0, 1) := by decide +kernel
theorem dX6_reaches_74 : decode cX6_reaches 74 = .ok (.getfield 22, 3) := by decide +kernel
theorem dX6_reaches_77 : decode cX6_reaches 77 = .ok (.invokevirtual 218, 3) := by decide +kernel
theorem dX6_reaches_80 : decode cX6_reaches 80 = .ok (.aload_n 0, 1) := by decide +kernel
theorem dX6_reaches_81 : decode cX6_reaches 81 = .ok (.getfield 26, 3) := by decide +kernel
theorem dX6_reaches_84 : decode cX6_reaches 84 = .ok (.invokevirtual 218, 3) := by decide +kernel
theorem dX6_reaches_87 : decode cX6_reaches 87 = .ok (.ixor, 1) := by decide +kernel
theorem dX6_reaches_88 : decode cX6_reaches 88 = .ok (.ireturn, 1) := by decide +kernel
theorem dX6_rather_0 : decode cX6_rather 0 = .ok (.iload_n 1, 1) := by decide +kernel
theorem dX6_rather_1 : decode cX6_rather 1 = .ok (.invokestatic 65, 3) := by decide +kernel
theorem dX6_rather_4 : decode cX6_rather 4 = .ok (.ifCond .eq 10, 3) := by decide +kernel
theorem dX6_rather_7 : decode cX6_rather 7 = .ok (.iload_n 3, 1) := by decide +kernel
theorem dX6_rather_8 : decode cX6_rather 8 = .ok (.invokestatic 164, 3) := by decide +kernel
theorem dX6_rather_11 : decode cX6_rather 11 = .ok (.ifCond .ne 6, 3) := by decide +kernel
theorem dX6_rather_14 : decode cX6_rather 14 = .ok (.ldc 69, 2) := by decide +kernel
theorem dX6_rather_16 : decode cX6_rather 16 = .ok (.ireturn, 1) := by decide +kernel
theorem dX6_rather_17 : decode cX6_rather 17 = .ok (.aload_n 0, 1) := by decide +kernel
theorem dX6_rather_18 : decode cX6_rather 18 = .ok (.getfield 11, 3) := by decide +kernel
theorem dX6_rather_21 : decode cX6_rather 21 = .ok (.iload_n 1, 1) := by decide +kernel
theorem dX6_rather_22 : decode cX6_rather 22 = .ok (.aaload, 1) := by decide +kernel
theorem dX6_rather_23 : decode cX6_rather 23 = .ok (.astore 4, 2) := by decide +kernel
theorem dX6_rather_25 : decode cX6_rather 25 = .ok (.aload 4, 2) := by decide +kernel
theorem dX6_rather_27 : decode cX6_rather 27 = .ok (.iload_n 2, 1) := by decide +kernel
theorem dX6_rather_28 : decode cX6_rather 28 = .ok (.bipush 8, 2) := by decide +kernel
theorem dX6_rather_30 : decode cX6_rather 30 = .ok (.invokestatic 81, 3) := by decide +kernel
theorem dX6_rather_33 : decode cX6_rather 33 = .ok (.istore 5, 2) := by decide +kernel
theorem dX6_rather_35 : decode cX6_rather 35 = .ok (.iload 5, 2) := by decide +kernel
theorem dX6_rather_37 : decode cX6_rather 37 = .ok (.ifCond .eq 10, 3) := by decide +kernel
theorem dX6_rather_40 : decode cX6_rather 40 = .ok (.aload_n 0, 1) := by decide +kernel
theorem dX6_rather_41 : decode cX6_rather 41 = .ok (.iload 5, 2) := by decide +kernel
theorem dX6_rather_43 : decode cX6_rather 43 = .ok (.invokevirtual 70, 3) := by decide +kernel
theorem dX6_rather_46 : decode cX6_rather 46 = .ok (.ireturn, 1) := by decide +kernel
theorem dX6_rather_47 : decode cX6_rather 47 = .ok (.iload_n 2, 1) := by decide +kernel
theorem dX6_rather_48 : decode cX6_rather 48 = .ok (.istore 6, 2) := by decide +kernel
theorem dX6_rather_50 : decode cX6_rather 50 = .ok (.iload 6, 2) := by decide +kernel
theorem dX6_rather_52 : decode cX6_rather 52 = .ok (.iload_n 2, 1) := by decide +kernel
theorem dX6_rather_53 : decode cX6_rather 53 = .ok (.bipush 8, 2) := by decide +kernel
theorem dX6_rather_55 : decode cX6_rather 55 = .ok (.iadd, 1) := by decide +kernel
theorem dX6_rather_56 : decode cX6_rather 56 = .ok (.if_icmp .ge 38, 3) := by decide +kernel
theorem dX6_rather_59 : decode cX6_rather 59 = .ok (.aload 4, 2) := by decide +kernel
theorem dX6_rather_61 : decode cX6_rather 61 = .ok (.getfield 85, 3) := by decide +kernel
theorem dX6_rather_64 : decode cX6_rather 64 = .ok (.iload 6, 2) := by decide +kernel
theorem dX6_rather_66 : decode cX6_rather 66 = .ok (.iaload, 1) := by decide +kernel
theorem dX6_rather_67 : decode cX6_rather 67 = .ok (.bipush (-20), 2) := by decide +kernel
theorem dX6_rather_69 : decode cX6_rather 69 = .ok (.if_icmp .lt 16, 3) := by decide +kernel
theorem dX6_rather_72 : decode cX6_rather 72 = .ok (.aload 4, 2) := by decide +kernel
theorem dX6_rather_74 : decode cX6_rather 74 = .ok (.getfield 85, 3) := by decide +kernel
theorem dX6_rather_77 : decode cX6_rather 77 = .ok (.iload 6, 2) := by decide +kernel
theorem dX6_rather_79 : decode cX6_rather 79 = .ok (.iaload, 1) := by decide +kernel
theorem dX6_rather_80 : decode cX6_rather 80 = .ok (.bipush 20, 2) := by decide +kernel
theorem dX6_rather_82 : decode cX6_rather 82 = .ok (.if_icmp .le 6, 3) := by decide +kernel
theorem dX6_rather_85 : decode cX6_rather 85 = .ok (.ldc 69, 2) := by decide +kernel
theorem dX6_rather_87 : decode cX6_rather 87 = .ok (.ireturn, 1) := by decide +kernel
theorem dX6_rather_88 : decode cX6_rather 88 = .ok (.iinc 6 1, 3) := by decide +kernel
theorem dX6_rather_91 : decode cX6_rather 91 = .ok (.goto (-41), 3) := by decide +kernel
theorem dX6_rather_94 : decode cX6_rather 94 = .ok (.aload 4, 2) := by decide +kernel
theorem dX6_rather_96 : decode cX6_rather 96 = .ok (.getfield 85, 3) := by decide +kernel
theorem dX6_rather_99 : decode cX6_rather 99 = .ok (.iload_n 2, 1) := by decide +kernel
theorem dX6_rather_100 : decode cX6_rather 100 = .ok (.invokestatic 280, 3) := by decide +kernel
theorem dX6_rather_103 : decode cX6_rather 103 = .ok (.istore 6, 2) := by decide +kernel
theorem dX6_rather_105 : decode cX6_rather 105 = .ok (.aload_n 0, 1) := by decide +kernel
theorem dX6_rather_106 : decode cX6_rather 106 = .ok (.iload_n 3, 1) := by decide +kernel
theorem dX6_rather_107 : decode cX6_rather 107 = .ok (.ifCond .ne 11, 3) := by decide +kernel
theorem dX6_rather_110 : decode cX6_rather 110 = .ok (.iload 6, 2) := by decide +kernel
theorem dX6_rather_112 : decode cX6_rather 112 = .ok (.invokestatic 284, 3) := by decide +kernel
theorem dX6_rather_115 : decode cX6_rather 115 = .ok (.goto 5, 3) := by decide +kernel
theorem dX6_rather_118 : decode cX6_rather 118 = .ok (.iload 6, 2) := by decide +kernel
theorem dX6_rather_120 : decode cX6_rather 120 = .ok (.invokevirtual 78, 3) := by decide +kernel
theorem dX6_rather_123 : decode cX6_rather 123 = .ok (.ireturn, 1) := by decide +kernel
theorem dX6_drawn_0 : decode cX6_drawn 0 = .ok (.aload_n 0, 1) := by decide +kernel
theorem dX6_drawn_1 : decode cX6_drawn 1 = .ok (.getfield 22, 3) := by decide +kernel
theorem dX6_drawn_4 : decode cX6_drawn 4 = .ok (.invokevirtual 179, 3) := by decide +kernel
theorem dX6_drawn_7 : decode cX6_drawn 7 = .ok (.ifCond .ne 6, 3) := by decide +kernel
theorem dX6_drawn_10 : decode cX6_drawn 10 = .ok (.ldc 143, 2) := by decide +kernel
theorem dX6_drawn_12 : decode cX6_drawn 12 = .ok (.ireturn, 1) := by decide +kernel
theorem dX6_drawn_13 : decode cX6_drawn 13 = .ok (.iload_n 1, 1) := by decide +kernel
theorem dX6_drawn_14 : decode cX6_drawn 14 = .ok (.ifCond .lt 28, 3) := by decide +kernel
theorem dX6_drawn_17 : decode cX6_drawn 17 = .ok (.iload_n 1, 1) := by decide +kernel
theorem dX6_drawn_18 : decode cX6_drawn 18 = .ok (.bipush 60, 2) := by decide +kernel
theorem dX6_drawn_20 : decode cX6_drawn 20 = .ok (.if_icmp .gt 22, 3) := by decide +kernel
theorem dX6_drawn_23 : decode cX6_drawn 23 = .ok (.iload_n 2, 1) := by decide +kernel
theorem dX6_drawn_24 : decode cX6_drawn 24 = .ok (.iconst 1, 1) := by decide +kernel
theorem dX6_drawn_25 : decode cX6_drawn 25 = .ok (.if_icmp .lt 17, 3) := by decide +kernel
theorem dX6_drawn_28 : decode cX6_drawn 28 = .ok (.iload_n 2, 1) := by decide +kernel
theorem dX6_drawn_29 : decode cX6_drawn 29 = .ok (.ldc_w 289, 3) := by decide +kernel
theorem dX6_drawn_32 : decode cX6_drawn 32 = .ok (.if_icmp .gt 10, 3) := by decide +kernel
theorem dX6_drawn_35 : decode cX6_drawn 35 = .ok (.iload_n 3, 1) := by decide +kernel
theorem dX6_drawn_36 : decode cX6_drawn 36 = .ok (.invokestatic 164, 3) := by decide +kernel
theorem dX6_drawn_39 : decode cX6_drawn 39 = .ok (.ifCond .ne 6, 3) := by decide +kernel
theorem dX6_drawn_42 : decode cX6_drawn 42 = .ok (.ldc 69, 2) := by decide +kernel
theorem dX6_drawn_44 : decode cX6_drawn 44 = .ok (.ireturn, 1) := by decide +kernel
theorem dX6_drawn_45 : decode cX6_drawn 45 = .ok (.aload_n 0, 1) := by decide +kernel
theorem dX6_drawn_46 : decode cX6_drawn 46 = .ok (.getfield 26, 3) := by decide +kernel
theorem dX6_drawn_49 : decode cX6_drawn 49 = .ok (.aload_n 0, 1) := by decide +kernel
theorem dX6_drawn_50 : decode cX6_drawn 50 = .ok (.getfield 22, 3) := by decide +kernel
theorem dX6_drawn_53 : decode cX6_drawn 53 = .ok (.invokevirtual 130, 3) := by decide +kernel
theorem dX6_drawn_56 : decode cX6_drawn 56 = .ok (.iconst 0, 1) := by decide +kernel
theorem dX6_drawn_57 : decode cX6_drawn 57 = .ok (.istore 4, 2) := by decide +kernel
theorem dX6_drawn_59 : decode cX6_drawn 59 = .ok (.iload_n 2, 1) := by decide +kernel
theorem dX6_drawn_60 : decode cX6_drawn 60 = .ok (.i2l, 1) := by decide +kernel
theorem dX6_drawn_61 : decode cX6_drawn 61 = .ok (.lstore 5, 2) := by decide +kernel
theorem dX6_drawn_63 : decode cX6_drawn 63 = .ok (.iconst 0, 1) := by decide +kernel
theorem dX6_drawn_64 : decode cX6_drawn 64 = .ok (.istore 7, 2) := by decide +kernel
theorem dX6_drawn_66 : decode cX6_drawn 66 = .ok (.iload 7, 2) := by decide +kernel
theorem dX6_drawn_68 : decode cX6_drawn 68 = .ok (.iload_n 1, 1) := by decide +kernel
theorem dX6_drawn_69 : decode cX6_drawn 69 = .ok (.if_icmp .ge 45, 3) := by decide +kernel
theorem dX6_drawn_72 : decode cX6_drawn 72 = .ok (.lload 5, 2) := by decide +kernel
theorem dX6_drawn_74 : decode cX6_drawn 74 = .ok (.ldc2_w 290, 3) := by decide +kernel
theorem dX6_drawn_77 : decode cX6_drawn 77 = .ok (.lmul, 1) := by decide +kernel
theorem dX6_drawn_78 : decode cX6_drawn 78 = .ok (.ldc2_w 292, 3) := by decide +kernel
theorem dX6_drawn_81 : decode cX6_drawn 81 = .ok (.lrem, 1) := by decide +kernel
theorem dX6_drawn_82 : decode cX6_drawn 82 = .ok (.lstore 5, 2) := by decide +kernel
theorem dX6_drawn_84 : decode cX6_drawn 84 = .ok (.aload_n 0, 1) := by decide +kernel
theorem dX6_drawn_85 : decode cX6_drawn 85 = .ok (.getfield 26, 3) := by decide +kernel
theorem dX6_drawn_88 : decode cX6_drawn 88 = .ok (.lload 5, 2) := by decide +kernel
theorem dX6_drawn_90 : decode cX6_drawn 90 = .ok (.invokevirtual 294, 3) := by decide +kernel
theorem dX6_drawn_93 : decode cX6_drawn 93 = .ok (.iload 4, 2) := by decide +kernel
theorem dX6_drawn_95 : decode cX6_drawn 95 = .ok (.aload_n 0, 1) := by decide +kernel
theorem dX6_drawn_96 : decode cX6_drawn 96 = .ok (.getfield 26, 3) := by decide +kernel
theorem dX6_drawn_99 : decode cX6_drawn 99 = .ok (.invokevirtual 185, 3) := by decide +kernel
theorem dX6_drawn_102 : decode cX6_drawn 102 = .ok (.invokestatic 284, 3) := by decide +kernel
theorem dX6_drawn_105 : decode cX6_drawn 105 = .ok (.iadd, 1) := by decide +kernel
theorem dX6_drawn_106 : decode cX6_drawn 106 = .ok (.istore 4, 2) := by decide +kernel
theorem dX6_drawn_108 : decode cX6_drawn 108 = .ok (.iinc 7 1, 3) := by decide +kernel
theorem dX6_drawn_111 : decode cX6_drawn 111 = .ok (.goto (-45), 3) := by decide +kernel
theorem dX6_drawn_114 : decode cX6_drawn 114 = .ok (.iload_n 3, 1) := by decide +kernel
theorem dX6_drawn_115 : decode cX6_drawn 115 = .ok (.ifCond .ne 8, 3) := by decide +kernel
theorem dX6_drawn_118 : decode cX6_drawn 118 = .ok (.iload 4, 2) := by decide +kernel
theorem dX6_drawn_120 : decode cX6_drawn 120 = .ok (.goto 10, 3) := by decide +kernel
theorem dX6_drawn_123 : decode cX6_drawn 123 = .ok (.aload_n 0, 1) := by decide +kernel
theorem dX6_drawn_124 : decode cX6_drawn 124 = .ok (.getfield 26, 3) := by decide +kernel
theorem dX6_drawn_127 : decode cX6_drawn 127 = .ok (.invokevirtual 298, 3) := by decide +kernel
theorem dX6_drawn_130 : decode cX6_drawn 130 = .ok (.ireturn, 1) := by decide +kernel
theorem dX6_image_0 : decode cX6_image 0 = .ok (.iload_n 1, 1) := by decide +kernel
theorem dX6_image_1 : decode cX6_image 1 = .ok (.invokestatic 164, 3) := by decide +kernel
theorem dX6_image_4 : decode cX6_image 4 = .ok (.ifCond .ne 6, 3) := by decide +kernel
theorem dX6_image_7 : decode cX6_image 7 = .ok (.ldc 69, 2) := by decide +kernel
theorem dX6_image_9 : decode cX6_image 9 = .ok (.ireturn, 1) := by decide +kernel
theorem dX6_image_10 : decode cX6_image 10 = .ok (.aload_n 0, 1) := by decide +kernel
theorem dX6_image_11 : decode cX6_image 11 = .ok (.getfield 22, 3) := by decide +kernel
theorem dX6_image_14 : decode cX6_image 14 = .ok (.invokevirtual 179, 3) := by decide +kernel
theorem dX6_image_17 : decode cX6_image 17 = .ok (.ifCond .ne 6, 3) := by decide +kernel
theorem dX6_image_20 : decode cX6_image 20 = .ok (.ldc 143, 2) := by decide +kernel
theorem dX6_image_22 : decode cX6_image 22 = .ok (.ireturn, 1) := by decide +kernel
theorem dX6_image_23 : decode cX6_image 23 = .ok (.aload_n 0, 1) := by decide +kernel
theorem dX6_image_24 : decode cX6_image 24 = .ok (.getfield 17, 3) := by decide +kernel
theorem dX6_image_27 : decode cX6_image 27 = .ok (.iload_n 1, 1) := by decide +kernel
theorem dX6_image_28 : decode cX6_image 28 = .ok (.aaload, 1) := by decide +kernel
theorem dX6_image_29 : decode cX6_image 29 = .ok (.aload_n 0, 1) := by decide +kernel
theorem dX6_image_30 : decode cX6_image 30 = .ok (.getfield 22, 3) := by decide +kernel
theorem dX6_image_33 : decode cX6_image 33 = .ok (.invokevirtual 130, 3) := by decide +kernel
theorem dX6_image_36 : decode cX6_image 36 = .ok (.iconst 1, 1) := by decide +kernel
theorem dX6_image_37 : decode cX6_image 37 = .ok (.ireturn, 1) := by decide +kernel
theorem dX6_restore_0 : decode cX6_restore 0 = .ok (.iload_n 1, 1) := by decide +kernel
theorem dX6_restore_1 : decode cX6_restore 1 = .ok (.invokestatic 164, 3) := by decide +kernel
theorem dX6_restore_4 : decode cX6_restore 4 = .ok (.ifCond .ne 6, 3) := by decide +kernel
theorem dX6_restore_7 : decode cX6_restore 7 = .ok (.ldc 69, 2) := by decide +kernel
theorem dX6_restore_9 : decode cX6_restore 9 = .ok (.ireturn, 1) := by decide +kernel
theorem dX6_restore_10 : decode cX6_restore 10 = .ok (.aload_n 0, 1) := by decide +kernel
theorem dX6_restore_11 : decode cX6_restore 11 = .ok (.getfield 17, 3) := by decide +kernel
theorem dX6_restore_14 : decode cX6_restore 14 = .ok (.iload_n 1, 1) := by decide +kernel
theorem dX6_restore_15 : decode cX6_restore 15 = .ok (.aaload, 1) := by decide +kernel
theorem dX6_restore_16 : decode cX6_restore 16 = .ok (.invokevirtual 179, 3) := by decide +kernel
theorem dX6_restore_19 : decode cX6_restore 19 = .ok (.ifCond .ne 6, 3) := by decide +kernel
theorem dX6_restore_22 : decode cX6_restore 22 = .ok (.ldc 143, 2) := by decide +kernel
theorem dX6_restore_24 : decode cX6_restore 24 = .ok (.ireturn, 1) := by decide +kernel
theorem dX6_restore_25 : decode cX6_restore 25 = .ok (.aload_n 0, 1) := by decide +kernel
theorem dX6_restore_26 : decode cX6_restore 26 = .ok (.getfield 22, 3) := by decide +kernel
theorem dX6_restore_29 : decode cX6_restore 29 = .ok (.aload_n 0, 1) := by decide +kernel
theorem dX6_restore_30 : decode cX6_restore 30 = .ok (.getfield 17, 3) := by decide +kernel
theorem dX6_restore_33 : decode cX6_restore 33 = .ok (.iload_n 1, 1) := by decide +kernel
theorem dX6_restore_34 : decode cX6_restore 34 = .ok (.aaload, 1) := by decide +kernel
theorem dX6_restore_35 : decode cX6_restore 35 = .ok (.invokevirtual 130, 3) := by decide +kernel
theorem dX6_restore_38 : decode cX6_restore 38 = .ok (.aload_n 0, 1) := by decide +kernel
theorem dX6_restore_39 : decode cX6_restore 39 = .ok (.getfield 39, 3) := by decide +kernel
theorem dX6_restore_42 : decode cX6_restore 42 = .ok (.invokevirtual 134, 3) := by decide +kernel
theorem dX6_restore_45 : decode cX6_restore 45 = .ok (.iconst 1, 1) := by decide +kernel
theorem dX6_restore_46 : decode cX6_restore 46 = .ok (.ireturn, 1) := by decide +kernel
theorem dX6_kind_0 : decode cX6_kind 0 = .ok (.aload_n 0, 1) := by decide +kernel
theorem dX6_kind_1 : decode cX6_kind 1 = .ok (.getfield 22, 3) := by decide +kernel
theorem dX6_kind_4 : decode cX6_kind 4 = .ok (.iload_n 1, 1) := by decide +kernel
theorem dX6_kind_5 : decode cX6_kind 5 = .ok (.invokevirtual 200, 3) := by decide +kernel
theorem dX6_kind_8 : decode cX6_kind 8 = .ok (.ifCond .eq 15, 3) := by decide +kernel
theorem dX6_kind_11 : decode cX6_kind 11 = .ok (.aload_n 0, 1) := by decide +kernel
theorem dX6_kind_12 : decode cX6_kind 12 = .ok (.getfield 22, 3) := by decide +kernel
theorem dX6_kind_15 : decode cX6_kind 15 = .ok (.getfield 224, 3) := by decide +kernel
theorem dX6_kind_18 : decode cX6_kind 18 = .ok (.iload_n 1, 1) := by decide +kernel
theorem dX6_kind_19 : decode cX6_kind 19 = .ok (.iaload, 1) := by decide +kernel
theorem dX6_kind_20 : decode cX6_kind 20 = .ok (.goto 5, 3) := by decide +kernel
theorem dX6_kind_23 : decode cX6_kind 23 = .ok (.ldc 69, 2) := by decide +kernel
theorem dX6_kind_25 : decode cX6_kind 25 = .ok (.ireturn, 1) := by decide +kernel
theorem dX6_as_0 : decode cX6_as 0 = .ok (.aload_n 0, 1) := by decide +kernel
theorem dX6_as_1 : decode cX6_as 1 = .ok (.getfield 22, 3) := by decide +kernel
theorem dX6_as_4 : decode cX6_as 4 = .ok (.iload_n 1, 1) := by decide +kernel
theorem dX6_as_5 : decode cX6_as 5 = .ok (.invokevirtual 200, 3) := by decide +kernel
theorem dX6_as_8 : decode cX6_as 8 = .ok (.ifCond .eq 12, 3) := by decide +kernel
theorem dX6_as_11 : decode cX6_as 11 = .ok (.iload_n 2, 1) := by decide +kernel
theorem dX6_as_12 : decode cX6_as 12 = .ok (.ifCond .lt 8, 3) := by decide +kernel
theorem dX6_as_15 : decode cX6_as 15 = .ok (.iload_n 2, 1) := by decide +kernel
theorem dX6_as_16 : decode cX6_as 16 = .ok (.iconst 5, 1) := by decide +kernel
theorem dX6_as_17 : decode cX6_as 17 = .ok (.if_icmp .le 6, 3) := by decide +kernel
theorem dX6_as_20 : decode cX6_as 20 = .ok (.ldc 69, 2) := by decide +kernel
theorem dX6_as_22 : decode cX6_as 22 = .ok (.ireturn, 1) := by decide +kernel
theorem dX6_as_23 : decode cX6_as 23 = .ok (.aload_n 0, 1) := by decide +kernel
theorem dX6_as_24 : decode cX6_as 24 = .ok (.getfield 22, 3) := by decide +kernel
theorem dX6_as_27 : decode cX6_as 27 = .ok (.getfield 224, 3) := by decide +kernel
theorem dX6_as_30 : decode cX6_as 30 = .ok (.iload_n 1, 1) := by decide +kernel
theorem dX6_as_31 : decode cX6_as 31 = .ok (.iaload, 1) := by decide +kernel
theorem dX6_as_32 : decode cX6_as 32 = .ok (.iload_n 2, 1) := by decide +kernel
theorem dX6_as_33 : decode cX6_as 33 = .ok (.invokestatic 301, 3) := by decide +kernel
theorem dX6_as_36 : decode cX6_as 36 = .ok (.ifCond .eq 11, 3) := by decide +kernel
theorem dX6_as_39 : decode cX6_as 39 = .ok (.aload_n 0, 1) := by decide +kernel
theorem dX6_as_40 : decode cX6_as 40 = .ok (.iload_n 1, 1) := by decide +kernel
theorem dX6_as_41 : decode cX6_as 41 = .ok (.invokevirtual 78, 3) := by decide +kernel
theorem dX6_as_44 : decode cX6_as 44 = .ok (.goto 8, 3) := by decide +kernel
theorem dX6_as_47 : decode cX6_as 47 = .ok (.aload_n 0, 1) := by decide +kernel
theorem dX6_as_48 : decode cX6_as 48 = .ok (.iconst 3, 1) := by decide +kernel
theorem dX6_as_49 : decode cX6_as 49 = .ok (.invokevirtual 70, 3) := by decide +kernel
theorem dX6_as_52 : decode cX6_as 52 = .ok (.ireturn, 1) := by decide +kernel
theorem dX6_ask_0 : decode cX6_ask 0 = .ok (.aload_n 0, 1) := by decide +kernel
theorem dX6_ask_1 : decode cX6_ask 1 = .ok (.getfield 22, 3) := by decide +kernel
theorem dX6_ask_4 : decode cX6_ask 4 = .ok (.iload_n 1, 1) := by decide +kernel
theorem dX6_ask_5 : decode cX6_ask 5 = .ok (.invokevirtual 200, 3) := by decide +kernel
theorem dX6_ask_8 : decode cX6_ask 8 = .ok (.ifCond .eq 10, 3) := by decide +kernel
theorem dX6_ask_11 : decode cX6_ask 11 = .ok (.iload_n 2, 1) := by decide +kernel
theorem dX6_ask_12 : decode cX6_ask 12 = .ok (.invokestatic 164, 3) := by decide +kernel
theorem dX6_ask_15 : decode cX6_ask 15 = .ok (.ifCond .ne 6, 3) := by decide +kernel
theorem dX6_ask_18 : decode cX6_ask 18 = .ok (.ldc 69, 2) := by decide +kernel
theorem dX6_ask_20 : decode cX6_ask 20 = .ok (.ireturn, 1) := by decide +kernel
theorem dX6_ask_21 : decode cX6_ask 21 = .ok (.aload_n 0, 1) := by decide +kernel
theorem dX6_ask_22 : decode cX6_ask 22 = .ok (.getfield 53, 3) := by decide +kernel
theorem dX6_ask_25 : decode cX6_ask 25 = .ok (.aload_n 0, 1) := by decide +kernel
theorem dX6_ask_26 : decode cX6_ask 26 = .ok (.getfield 22, 3) := by decide +kernel
theorem dX6_ask_29 : decode cX6_ask 29 = .ok (.iload_n 1, 1) := by decide +kernel
theorem dX6_ask_30 : decode cX6_ask 30 = .ok (.iload_n 2, 1) := by decide +kernel
theorem dX6_ask_31 : decode cX6_ask 31 = .ok (.invokevirtual 304, 3) := by decide +kernel
theorem dX6_ask_34 : decode cX6_ask 34 = .ok (.ireturn, 1) := by decide +kernel
theorem dX6_trace_0 : decode cX6_trace 0 = .ok (.iload_n 1, 1) := by decide +kernel
theorem dX6_trace_1 : decode cX6_trace 1 = .ok (.ifCond .lt 26, 3) := by decide +kernel
theorem dX6_trace_4 : decode cX6_trace 4 = .ok (.iload_n 1, 1) := by decide +kernel
theorem dX6_trace_5 : decode cX6_trace 5 = .ok (.aload_n 0, 1) := by decide +kernel
theorem dX6_trace_6 : decode cX6_trace 6 = .ok (.getfield 53, 3) := by decide +kernel
theorem dX6_trace_9 : decode cX6_trace 9 = .ok (.getfield 308, 3) := by decide +kernel
theorem dX6_trace_12 : decode cX6_trace 12 = .ok (.if_icmp .ge 15, 3) := by decide +kernel
theorem dX6_trace_15 : decode cX6_trace 15 = .ok (.aload_n 0, 1) := by decide +kernel
theorem dX6_trace_16 : decode cX6_trace 16 = .ok (.getfield 53, 3) := by decide +kernel
theorem dX6_trace_19 : decode cX6_trace 19 = .ok (.getfield 311, 3) := by decide +kernel
theorem dX6_trace_22 : decode cX6_trace 22 = .ok (.iload_n 1, 1) := by decide +kernel
theorem dX6_trace_23 : decode cX6_trace 23 = .ok (.iaload, 1) := by decide +kernel
theorem dX6_trace_24 : decode cX6_trace 24 = .ok (.goto 5, 3) := by decide +kernel
theorem dX6_trace_27 : decode cX6_trace 27 = .ok (.ldc 231, 2) := by decide +kernel
theorem dX6_trace_29 : decode cX6_trace 29 = .ok (.ireturn, 1) := by decide +kernel
theorem dX6_count_0 : decode cX6_count 0 = .ok (.iload_n 1, 1) := by decide +kernel
theorem dX6_count_1 : decode cX6_count 1 = .ok (.tableswitch 120 0 8 #[51, 56, 64, 72, 80, 88, 96, 104, 112], 51) := by decide +kernel
theorem dX6_count_52 : decode cX6_count 52 = .ok (.aload_n 0, 1) := by decide +kernel
theorem dX6_count_53 : decode cX6_count 53 = .ok (.invokevirtual 314, 3) := by decide +kernel
theorem dX6_count_56 : decode cX6_count 56 = .ok (.ireturn, 1) := by decide +kernel
theorem dX6_count_57 : decode cX6_count 57 = .ok (.aload_n 0, 1) := by decide +kernel
theorem dX6_count_58 : decode cX6_count 58 = .ok (.getfield 22, 3) := by decide +kernel
theorem dX6_count_61 : decode cX6_count 61 = .ok (.getfield 317, 3) := by decide +kernel
theorem dX6_count_64 : decode cX6_count 64 = .ok (.ireturn, 1) := by decide +kernel
theorem dX6_count_65 : decode cX6_count 65 = .ok (.aload_n 0, 1) := by decide +kernel
theorem dX6_count_66 : decode cX6_count 66 = .ok (.getfield 22, 3) := by decide +kernel
theorem dX6_count_69 : decode cX6_count 69 = .ok (.getfield 137, 3) := by decide +kernel
theorem dX6_count_72 : decode cX6_count 72 = .ok (.ireturn, 1) := by decide +kernel
theorem dX6_count_73 : decode cX6_count 73 = .ok (.aload_n 0, 1) := by decide +kernel
theorem dX6_count_74 : decode cX6_count 74 = .ok (.getfield 22, 3) := by decide +kernel
theorem dX6_count_77 : decode cX6_count 77 = .ok (.getfield 157, 3) := by decide +kernel
theorem dX6_count_80 : decode cX6_count 80 = .ok (.ireturn, 1) := by decide +kernel
theorem dX6_count_81 : decode cX6_count 81 = .ok (.aload_n 0, 1) := by decide +kernel
theorem dX6_count_82 : decode cX6_count 82 = .ok (.getfield 22, 3) := by decide +kernel
theorem dX6_count_85 : decode cX6_count 85 = .ok (.getfield 176, 3) := by decide +kernel
theorem dX6_count_88 : decode cX6_count 88 = .ok (.ireturn, 1) := by decide +kernel
theorem dX6_count_89 : decode cX6_count 89 = .ok (.aload_n 0, 1) := by decide +kernel
theorem dX6_count_90 : decode cX6_count 90 = .ok (.getfield 22, 3) := by decide +kernel
theorem dX6_count_93 : decode cX6_count 93 = .ok (.getfield 182, 3) := by decide +kernel
theorem dX6_count_96 : decode cX6_count 96 = .ok (.ireturn, 1) := by decide +kernel
theorem dX6_count_97 : decode cX6_count 97 = .ok (.aload_n 0, 1) := by decide +kernel
theorem dX6_count_98 : decode cX6_count 98 = .ok (.getfield 22, 3) := by decide +kernel
theorem dX6_count_101 : decode cX6_count 101 = .ok (.invokevirtual 320, 3) := by decide +kernel
theorem dX6_count_104 : decode cX6_count 104 = .ok (.ireturn, 1) := by decide +kernel
theorem dX6_count_105 : decode cX6_count 105 = .ok (.aload_n 0, 1) := by decide +kernel
theorem dX6_count_106 : decode cX6_count 106 = .ok (.getfield 39, 3) := by decide +kernel
theorem dX6_count_109 : decode cX6_count 109 = .ok (.getfield 140, 3) := by decide +kernel
theorem dX6_count_112 : decode cX6_count 112 = .ok (.ireturn, 1) := by decide +kernel
theorem dX6_count_113 : decode cX6_count 113 = .ok (.aload_n 0, 1) := by decide +kernel
theorem dX6_count_114 : decode cX6_count 114 = .ok (.getfield 32, 3) := by decide +kernel
theorem dX6_count_117 : decode cX6_count 117 = .ok (.getfield 115, 3) := by decide +kernel
theorem dX6_count_120 : decode cX6_count 120 = .ok (.ireturn, 1) := by decide +kernel
theorem dX6_count_121 : decode cX6_count 121 = .ok (.ldc 69, 2) := by decide +kernel
theorem dX6_count_123 : decode cX6_count 123 = .ok (.ireturn, 1) := by decide +kernel
theorem dX6_status_0 : decode cX6_status 0 = .ok (.aload_n 0, 1) := by decide +kernel
theorem dX6_status_1 : decode cX6_status 1 = .ok (.getfield 61, 3) := by decide +kernel
theorem dX6_status_4 : decode cX6_status 4 = .ok (.ireturn, 1) := by decide +kernel
theorem dX6_found_0 : decode cX6_found 0 = .ok (.aload_n 0, 1) := by decide +kernel
theorem dX6_found_1 : decode cX6_found 1 = .ok (.iload_n 1, 1) := by decide +kernel
theorem dX6_found_2 : decode cX6_found 2 = .ok (.putfield 61, 3) := by decide +kernel
theorem dX6_found_5 : decode cX6_found 5 = .ok (.ldc_w 323, 3) := by decide +kernel
theorem dX6_found_8 : decode cX6_found 8 = .ok (.iload_n 1, 1) := by decide +kernel
theorem dX6_found_9 : decode cX6_found 9 = .ok (.isub, 1) := by decide +kernel
theorem dX6_found_10 : decode cX6_found 10 = .ok (.ireturn, 1) := by decide +kernel
theorem dX6_foundNone_0 : decode cX6_foundNone 0 = .ok (.aload_n 0, 1) := by decide +kernel
theorem dX6_foundNone_1 : decode cX6_foundNone 1 = .ok (.iconst 0, 1) := by decide +kernel
theorem dX6_foundNone_2 : decode cX6_foundNone 2 = .ok (.putfield 61, 3) := by decide +kernel
theorem dX6_foundNone_5 : decode cX6_foundNone 5 = .ok (.iload_n 1, 1) := by decide +kernel
theorem dX6_foundNone_6 : decode cX6_foundNone 6 = .ok (.ireturn, 1) := by decide +kernel
theorem dX6_rowsThere_0 : decode cX6_rowsThere 0 = .ok (.iconst 0, 1) := by decide +kernel
theorem dX6_rowsThere_1 : decode cX6_rowsThere 1 = .ok (.istore_n 1, 1) := by decide +kernel
theorem dX6_rowsThere_2 : decode cX6_rowsThere 2 = .ok (.iconst 0, 1) := by decide +kernel
theorem dX6_rowsThere_3 : decode cX6_rowsThere 3 = .ok (.istore_n 2, 1) := by decide +kernel
theorem dX6_rowsThere_4 : decode cX6_rowsThere 4 = .ok (.iload_n 2, 1) := by decide +kernel
theorem dX6_rowsThere_5 : decode cX6_rowsThere 5 = .ok (.bipush 8, 2) := by decide +kernel
theorem dX6_rowsThere_7 : decode cX6_rowsThere 7 = .ok (.if_icmp .ge 24, 3) := by decide +kernel
theorem dX6_rowsThere_10 : decode cX6_rowsThere 10 = .ok (.aload_n 0, 1) := by decide +kernel
theorem dX6_rowsThere_11 : decode cX6_rowsThere 11 = .ok (.getfield 11, 3) := by decide +kernel
theorem dX6_rowsThere_14 : decode cX6_rowsThere 14 = .ok (.iload_n 2, 1) := by decide +kernel
theorem dX6_rowsThere_15 : decode cX6_rowsThere 15 = .ok (.aaload, 1) := by decide +kernel
theorem dX6_rowsThere_16 : decode cX6_rowsThere 16 = .ok (.invokevirtual 92, 3) := by decide +kernel
theorem dX6_rowsThere_19 : decode cX6_rowsThere 19 = .ok (.ifCond .ne 6, 3) := by decide +kernel
theorem dX6_rowsThere_22 : decode cX6_rowsThere 22 = .ok (.iinc 1 1, 3) := by decide +kernel
theorem dX6_rowsThere_25 : decode cX6_rowsThere 25 = .ok (.iinc 2 1, 3) := by decide +kernel
theorem dX6_rowsThere_28 : decode cX6_rowsThere 28 = .ok (.goto (-24), 3) := by decide +kernel
theorem dX6_rowsThere_31 : decode cX6_rowsThere 31 = .ok (.iload_n 1, 1) := by decide +kernel
theorem dX6_rowsThere_32 : decode cX6_rowsThere 32 = .ok (.ireturn, 1) := by decide +kernel
theorem dX6_areApartSets_0 : decode cX6_areApartSets 0 = .ok (.aload_n 0, 1) := by decide +kernel
theorem dX6_areApartSets_1 : decode cX6_areApartSets 1 = .ok (.getfield 22, 3) := by decide +kernel
theorem dX6_areApartSets_4 : decode cX6_areApartSets 4 = .ok (.invokevirtual 324, 3) := by decide +kernel
theorem dX6_areApartSets_7 : decode cX6_areApartSets 7 = .ok (.istore_n 3, 1) := by decide +kernel
theorem dX6_areApartSets_8 : decode cX6_areApartSets 8 = .ok (.iload_n 1, 1) := by decide +kernel
theorem dX6_areApartSets_9 : decode cX6_areApartSets 9 = .ok (.iload_n 3, 1) := by decide +kernel
theorem dX6_areApartSets_10 : decode cX6_areApartSets 10 = .ok (.iconst (-1), 1) := by decide +kernel
theorem dX6_areApartSets_11 : decode cX6_areApartSets 11 = .ok (.ixor, 1) := by decide +kernel
theorem dX6_areApartSets_12 : decode cX6_areApartSets 12 = .ok (.iand, 1) := by decide +kernel
theorem dX6_areApartSets_13 : decode cX6_areApartSets 13 = .ok (.ifCond .ne 21, 3) := by decide +kernel
theorem dX6_areApartSets_16 : decode cX6_areApartSets 16 = .ok (.iload_n 2, 1) := by decide +kernel
theorem dX6_areApartSets_17 : decode cX6_areApartSets 17 = .ok (.iload_n 3, 1) := by decide +kernel
theorem dX6_areApartSets_18 : decode cX6_areApartSets 18 = .ok (.iconst (-1), 1) := by decide +kernel
theorem dX6_areApartSets_19 : decode cX6_areApartSets 19 = .ok (.ixor, 1) := by decide +kernel
theorem dX6_areApartSets_20 : decode cX6_areApartSets 20 = .ok (.iand, 1) := by decide +kernel
theorem dX6_areApartSets_21 : decode cX6_areApartSets 21 = .ok (.ifCond .ne 13, 3) := by decide +kernel
theorem dX6_areApartSets_24 : decode cX6_areApartSets 24 = .ok (.iload_n 1, 1) := by decide +kernel
theorem dX6_areApartSets_25 : decode cX6_areApartSets 25 = .ok (.iload_n 2, 1) := by decide +kernel
theorem dX6_areApartSets_26 : decode cX6_areApartSets 26 = .ok (.iand, 1) := by decide +kernel
theorem dX6_areApartSets_27 : decode cX6_areApartSets 27 = .ok (.ifCond .ne 7, 3) := by decide +kernel
theorem dX6_areApartSets_30 : decode cX6_areApartSets 30 = .ok (.iconst 1, 1) := by decide +kernel
theorem dX6_areApartSets_31 : decode cX6_areApartSets 31 = .ok (.goto 4, 3) := by decide +kernel
theorem dX6_areApartSets_34 : decode cX6_areApartSets 34 = .ok (.iconst 0, 1) := by decide +kernel
theorem dX6_areApartSets_35 : decode cX6_areApartSets 35 = .ok (.ireturn, 1) := by decide +kernel
theorem dX6_meetingCases_0 : decode cX6_meetingCases 0 = .ok (.aload_n 0, 1) := by decide +kernel
theorem dX6_meetingCases_1 : decode cX6_meetingCases 1 = .ok (.getfield 22, 3) := by decide +kernel
theorem dX6_meetingCases_4 : decode cX6_meetingCases 4 = .ok (.getfield 203, 3) := by decide +kernel
theorem dX6_meetingCases_7 : decode cX6_meetingCases 7 = .ok (.iload_n 1, 1) := by decide +kernel
theorem dX6_meetingCases_8 : decode cX6_meetingCases 8 = .ok (.iaload, 1) := by decide +kernel
theorem dX6_meetingCases_9 : decode cX6_meetingCases 9 = .ok (.iconst 1, 1) := by decide +kernel
theorem dX6_meetingCases_10 : decode cX6_meetingCases 10 = .ok (.isub, 1) := by decide +kernel
theorem dX6_meetingCases_11 : decode cX6_meetingCases 11 = .ok (.istore_n 3, 1) := by decide +kernel
theorem dX6_meetingCases_12 : decode cX6_meetingCases 12 = .ok (.iconst 0, 1) := by decide +kernel
theorem dX6_meetingCases_13 : decode cX6_meetingCases 13 = .ok (.istore 4, 2) := by decide +kernel
theorem dX6_meetingCases_15 : decode cX6_meetingCases 15 = .ok (.iconst 0, 1) := by decide +kernel
theorem dX6_meetingCases_16 : decode cX6_meetingCases 16 = .ok (.istore 5, 2) := by decide +kernel
theorem dX6_meetingCases_18 : decode cX6_meetingCases 18 = .ok (.iload 5, 2) := by decide +kernel
theorem dX6_meetingCases_20 : decode cX6_meetingCases 20 = .ok (.bipush 8, 2) := by decide +kernel
theorem dX6_meetingCases_22 : decode cX6_meetingCases 22 = .ok (.if_icmp .ge 96, 3) := by decide +kernel
theorem dX6_meetingCases_25 : decode cX6_meetingCases 25 = .ok (.aload_n 0, 1) := by decide +kernel
theorem dX6_meetingCases_26 : decode cX6_meetingCases 26 = .ok (.getfield 26, 3) := by decide +kernel
theorem dX6_meetingCases_29 : decode cX6_meetingCases 29 = .ok (.aload_n 0, 1) := by decide +kernel
theorem dX6_meetingCases_30 : decode cX6_meetingCases 30 = .ok (.getfield 22, 3) := by decide +kernel
theorem dX6_meetingCases_33 : decode cX6_meetingCases 33 = .ok (.invokevirtual 130, 3) := by decide +kernel
theorem dX6_meetingCases_36 : decode cX6_meetingCases 36 = .ok (.iconst 1, 1) := by decide +kernel
theorem dX6_meetingCases_37 : decode cX6_meetingCases 37 = .ok (.istore 6, 2) := by decide +kernel
theorem dX6_meetingCases_39 : decode cX6_meetingCases 39 = .ok (.iconst 0, 1) := by decide +kernel
theorem dX6_meetingCases_40 : decode cX6_meetingCases 40 = .ok (.istore 7, 2) := by decide +kernel
theorem dX6_meetingCases_42 : decode cX6_meetingCases 42 = .ok (.iload 7, 2) := by decide +kernel
theorem dX6_meetingCases_44 : decode cX6_meetingCases 44 = .ok (.iconst 3, 1) := by decide +kernel
theorem dX6_meetingCases_45 : decode cX6_meetingCases 45 = .ok (.if_icmp .ge 49, 3) := by decide +kernel
theorem dX6_meetingCases_48 : decode cX6_meetingCases 48 = .ok (.iload 5, 2) := by decide +kernel
theorem dX6_meetingCases_50 : decode cX6_meetingCases 50 = .ok (.iload 7, 2) := by decide +kernel
theorem dX6_meetingCases_52 : decode cX6_meetingCases 52 = .ok (.ishr, 1) := by decide +kernel
theorem dX6_meetingCases_53 : decode cX6_meetingCases 53 = .ok (.iconst 1, 1) := by decide +kernel
theorem dX6_meetingCases_54 : decode cX6_meetingCases 54 = .ok (.iand, 1) := by decide +kernel
theorem dX6_meetingCases_55 : decode cX6_meetingCases 55 = .ok (.iconst 1, 1) := by decide +kernel
theorem dX6_meetingCases_56 : decode cX6_meetingCases 56 = .ok (.if_icmp .ne 23, 3) := by decide +kernel
theorem dX6_meetingCases_59 : decode cX6_meetingCases 59 = .ok (.iload 6, 2) := by decide +kernel
theorem dX6_meetingCases_61 : decode cX6_meetingCases 61 = .ok (.iload_n 2, 1) := by decide +kernel
theorem dX6_meetingCases_62 : decode cX6_meetingCases 62 = .ok (.imul, 1) := by decide +kernel
theorem dX6_meetingCases_63 : decode cX6_meetingCases 63 = .ok (.istore 6, 2) := by decide +kernel
theorem dX6_meetingCases_65 : decode cX6_meetingCases 65 = .ok (.aload_n 0, 1) := by decide +kernel
theorem dX6_meetingCases_66 : decode cX6_meetingCases 66 = .ok (.getfield 26, 3) := by decide +kernel
theorem dX6_meetingCases_69 : decode cX6_meetingCases 69 = .ok (.iload_n 3, 1) := by decide +kernel
theorem dX6_meetingCases_70 : decode cX6_meetingCases 70 = .ok (.iload 7, 2) := by decide +kernel
theorem dX6_meetingCases_72 : decode cX6_meetingCases 72 = .ok (.iadd, 1) := by decide +kernel
theorem dX6_meetingCases_73 : decode cX6_meetingCases 73 = .ok (.invokevirtual 327, 3) := by decide +kernel
theorem dX6_meetingCases_76 : decode cX6_meetingCases 76 = .ok (.goto 12, 3) := by decide +kernel
theorem dX6_meetingCases_79 : decode cX6_meetingCases 79 = .ok (.iload 6, 2) := by decide +kernel
theorem dX6_meetingCases_81 : decode cX6_meetingCases 81 = .ok (.bipush 10, 2) := by decide +kernel
theorem dX6_meetingCases_83 : decode cX6_meetingCases 83 = .ok (.iload_n 2, 1) := by decide +kernel
theorem dX6_meetingCases_84 : decode cX6_meetingCases 84 = .ok (.isub, 1) := by decide +kernel
theorem dX6_meetingCases_85 : decode cX6_meetingCases 85 = .ok (.imul, 1) := by decide +kernel
theorem dX6_meetingCases_86 : decode cX6_meetingCases 86 = .ok (.istore 6, 2) := by decide +kernel
theorem dX6_meetingCases_88 : decode cX6_meetingCases 88 = .ok (.iinc 7 1, 3) := by decide +kernel
theorem dX6_meetingCases_91 : decode cX6_meetingCases 91 = .ok (.goto (-49), 3) := by decide +kernel
theorem dX6_meetingCases_94 : decode cX6_meetingCases 94 = .ok (.aload_n 0, 1) := by decide +kernel
theorem dX6_meetingCases_95 : decode cX6_meetingCases 95 = .ok (.getfield 26, 3) := by decide +kernel
theorem dX6_meetingCases_98 : decode cX6_meetingCases 98 = .ok (.iload_n 1, 1) := by decide +kernel
theorem dX6_meetingCases_99 : decode cX6_meetingCases 99 = .ok (.invokevirtual 212, 3) := by decide +kernel
theorem dX6_meetingCases_102 : decode cX6_meetingCases 102 = .ok (.ifCond .eq 10, 3) := by decide +kernel
theorem dX6_meetingCases_105 : decode cX6_meetingCases 105 = .ok (.iload 4, 2) := by decide +kernel
theorem dX6_meetingCases_107 : decode cX6_meetingCases 107 = .ok (.iload 6, 2) := by decide +kernel
theorem dX6_meetingCases_109 : decode cX6_meetingCases 109 = .ok (.iadd, 1) := by decide +kernel
theorem dX6_meetingCases_110 : decode cX6_meetingCases 110 = .ok (.istore 4, 2) := by decide +kernel
theorem dX6_meetingCases_112 : decode cX6_meetingCases 112 = .ok (.iinc 5 1, 3) := by decide +kernel
theorem dX6_meetingCases_115 : decode cX6_meetingCases 115 = .ok (.goto (-97), 3) := by decide +kernel
theorem dX6_meetingCases_118 : decode cX6_meetingCases 118 = .ok (.iload 4, 2) := by decide +kernel
theorem dX6_meetingCases_120 : decode cX6_meetingCases 120 = .ok (.ireturn, 1) := by decide +kernel
theorem dX6_isRow_0 : decode cX6_isRow 0 = .ok (.iload_n 0, 1) := by decide +kernel
theorem dX6_isRow_1 : decode cX6_isRow 1 = .ok (.ifCond .lt 13, 3) := by decide +kernel
theorem dX6_isRow_4 : decode cX6_isRow 4 = .ok (.iload_n 0, 1) := by decide +kernel
theorem dX6_isRow_5 : decode cX6_isRow 5 = .ok (.bipush 8, 2) := by decide +kernel
theorem dX6_isRow_7 : decode cX6_isRow 7 = .ok (.if_icmp .ge 7, 3) := by decide +kernel
theorem dX6_isRow_10 : decode cX6_isRow 10 = .ok (.iconst 1, 1) := by decide +kernel
theorem dX6_isRow_11 : decode cX6_isRow 11 = .ok (.goto 4, 3) := by decide +kernel
theorem dX6_isRow_14 : decode cX6_isRow 14 = .ok (.iconst 0, 1) := by decide +kernel
theorem dX6_isRow_15 : decode cX6_isRow 15 = .ok (.ireturn, 1) := by decide +kernel
theorem dX6_isBit_0 : decode cX6_isBit 0 = .ok (.iload_n 0, 1) := by decide +kernel
theorem dX6_isBit_1 : decode cX6_isBit 1 = .ok (.ifCond .eq 8, 3) := by decide +kernel
theorem dX6_isBit_4 : decode cX6_isBit 4 = .ok (.iload_n 0, 1) := by decide +kernel
theorem dX6_isBit_5 : decode cX6_isBit 5 = .ok (.iconst 1, 1) := by decide +kernel
theorem dX6_isBit_6 : decode cX6_isBit 6 = .ok (.if_icmp .ne 7, 3) := by decide +kernel
theorem dX6_isBit_9 : decode cX6_isBit 9 = .ok (.iconst 1, 1) := by decide +kernel
theorem dX6_isBit_10 : decode cX6_isBit 10 = .ok (.goto 4, 3) := by decide +kernel
theorem dX6_isBit_13 : decode cX6_isBit 13 = .ok (.iconst 0, 1) := by decide +kernel
theorem dX6_isBit_14 : decode cX6_isBit 14 = .ok (.ireturn, 1) := by decide +kernel
theorem dX6_findingAt_0 : decode cX6_findingAt 0 = .ok (.aload_n 0, 1) := by decide +kernel
theorem dX6_findingAt_1 : decode cX6_findingAt 1 = .ok (.invokevirtual 92, 3) := by decide +kernel
theorem dX6_findingAt_4 : decode cX6_findingAt 4 = .ok (.ifCond .eq 5, 3) := by decide +kernel
theorem dX6_findingAt_7 : decode cX6_findingAt 7 = .ok (.iconst 1, 1) := by decide +kernel
theorem dX6_findingAt_8 : decode cX6_findingAt 8 = .ok (.ireturn, 1) := by decide +kernel
theorem dX6_findingAt_9 : decode cX6_findingAt 9 = .ok (.aload_n 0, 1) := by decide +kernel
theorem dX6_findingAt_10 : decode cX6_findingAt 10 = .ok (.iload_n 1, 1) := by decide +kernel
theorem dX6_findingAt_11 : decode cX6_findingAt 11 = .ok (.iload_n 2, 1) := by decide +kernel
theorem dX6_findingAt_12 : decode cX6_findingAt 12 = .ok (.invokevirtual 99, 3) := by decide +kernel
theorem dX6_findingAt_15 : decode cX6_findingAt 15 = .ok (.ifCond .eq 7, 3) := by decide +kernel
theorem dX6_findingAt_18 : decode cX6_findingAt 18 = .ok (.iconst 0, 1) := by decide +kernel
theorem dX6_findingAt_19 : decode cX6_findingAt 19 = .ok (.goto 4, 3) := by decide +kernel
theorem dX6_findingAt_22 : decode cX6_findingAt 22 = .ok (.iconst 2, 1) := by decide +kernel
theorem dX6_findingAt_23 : decode cX6_findingAt 23 = .ok (.ireturn, 1) := by decide +kernel
theorem dX6_commonDivisor_0 : decode cX6_commonDivisor 0 = .ok (.iload_n 0, 1) := by decide +kernel
theorem dX6_commonDivisor_1 : decode cX6_commonDivisor 1 = .ok (.istore_n 2, 1) := by decide +kernel
theorem dX6_commonDivisor_2 : decode cX6_commonDivisor 2 = .ok (.iload_n 1, 1) := by decide +kernel
theorem dX6_commonDivisor_3 : decode cX6_commonDivisor 3 = .ok (.istore_n 3, 1) := by decide +kernel
theorem dX6_commonDivisor_4 : decode cX6_commonDivisor 4 = .ok (.iconst 0, 1) := by decide +kernel
theorem dX6_commonDivisor_5 : decode cX6_commonDivisor 5 = .ok (.istore 4, 2) := by decide +kernel
theorem dX6_commonDivisor_7 : decode cX6_commonDivisor 7 = .ok (.iload 4, 2) := by decide +kernel
theorem dX6_commonDivisor_9 : decode cX6_commonDivisor 9 = .ok (.bipush 64, 2) := by decide +kernel
theorem dX6_commonDivisor_11 : decode cX6_commonDivisor 11 = .ok (.if_icmp .ge 23, 3) := by decide +kernel
theorem dX6_commonDivisor_14 : decode cX6_commonDivisor 14 = .ok (.iload_n 3, 1) := by decide +kernel
theorem dX6_commonDivisor_15 : decode cX6_commonDivisor 15 = .ok (.ifCond .eq 19, 3) := by decide +kernel
theorem dX6_commonDivisor_18 : decode cX6_commonDivisor 18 = .ok (.iload_n 2, 1) := by decide +kernel
theorem dX6_commonDivisor_19 : decode cX6_commonDivisor 19 = .ok (.iload_n 3, 1) := by decide +kernel
theorem dX6_commonDivisor_20 : decode cX6_commonDivisor 20 = .ok (.irem, 1) := by decide +kernel
theorem dX6_commonDivisor_21 : decode cX6_commonDivisor 21 = .ok (.istore 5, 2) := by decide +kernel
theorem dX6_commonDivisor_23 : decode cX6_commonDivisor 23 = .ok (.iload_n 3, 1) := by decide +kernel
theorem dX6_commonDivisor_24 : decode cX6_commonDivisor 24 = .ok (.istore_n 2, 1) := by decide +kernel
theorem dX6_commonDivisor_25 : decode cX6_commonDivisor 25 = .ok (.iload 5, 2) := by decide +kernel
theorem dX6_commonDivisor_27 : decode cX6_commonDivisor 27 = .ok (.istore_n 3, 1) := by decide +kernel
theorem dX6_commonDivisor_28 : decode cX6_commonDivisor 28 = .ok (.iinc 4 1, 3) := by decide +kernel
theorem dX6_commonDivisor_31 : decode cX6_commonDivisor 31 = .ok (.goto (-24), 3) := by decide +kernel
theorem dX6_commonDivisor_34 : decode cX6_commonDivisor 34 = .ok (.iload_n 2, 1) := by decide +kernel
theorem dX6_commonDivisor_35 : decode cX6_commonDivisor 35 = .ok (.ireturn, 1) := by decide +kernel
theorem dX6_steadyWays_0 : decode cX6_steadyWays 0 = .ok (.iconst 0, 1) := by decide +kernel
theorem dX6_steadyWays_1 : decode cX6_steadyWays 1 = .ok (.istore_n 2, 1) := by decide +kernel
theorem dX6_steadyWays_2 : decode cX6_steadyWays 2 = .ok (.iconst 0, 1) := by decide +kernel
theorem dX6_steadyWays_3 : decode cX6_steadyWays 3 = .ok (.istore_n 3, 1) := by decide +kernel
theorem dX6_steadyWays_4 : decode cX6_steadyWays 4 = .ok (.iload_n 3, 1) := by decide +kernel
theorem dX6_steadyWays_5 : decode cX6_steadyWays 5 = .ok (.iconst 4, 1) := by decide +kernel
theorem dX6_steadyWays_6 : decode cX6_steadyWays 6 = .ok (.if_icmp .ge 73, 3) := by decide +kernel
theorem dX6_steadyWays_9 : decode cX6_steadyWays 9 = .ok (.aload_n 0, 1) := by decide +kernel
theorem dX6_steadyWays_10 : decode cX6_steadyWays 10 = .ok (.iload_n 1, 1) := by decide +kernel
theorem dX6_steadyWays_11 : decode cX6_steadyWays 11 = .ok (.iload_n 3, 1) := by decide +kernel
theorem dX6_steadyWays_12 : decode cX6_steadyWays 12 = .ok (.iadd, 1) := by decide +kernel
theorem dX6_steadyWays_13 : decode cX6_steadyWays 13 = .ok (.iaload, 1) := by decide +kernel
theorem dX6_steadyWays_14 : decode cX6_steadyWays 14 = .ok (.aload_n 0, 1) := by decide +kernel
theorem dX6_steadyWays_15 : decode cX6_steadyWays 15 = .ok (.iload_n 1, 1) := by decide +kernel
theorem dX6_steadyWays_16 : decode cX6_steadyWays 16 = .ok (.iload_n 3, 1) := by decide +kernel
theorem dX6_steadyWays_17 : decode cX6_steadyWays 17 = .ok (.iconst 2, 1) := by decide +kernel
theorem dX6_steadyWays_18 : decode cX6_steadyWays 18 = .ok (.ixor, 1) := by decide +kernel
theorem dX6_steadyWays_19 : decode cX6_steadyWays 19 = .ok (.iadd, 1) := by decide +kernel
theorem dX6_steadyWays_20 : decode cX6_steadyWays 20 = .ok (.iaload, 1) := by decide +kernel
theorem dX6_steadyWays_21 : decode cX6_steadyWays 21 = .ok (.if_icmp .lt 7, 3) := by decide +kernel
theorem dX6_steadyWays_24 : decode cX6_steadyWays 24 = .ok (.iconst 1, 1) := by decide +kernel
theorem dX6_steadyWays_25 : decode cX6_steadyWays 25 = .ok (.goto 4, 3) := by decide +kernel
theorem dX6_steadyWays_28 : decode cX6_steadyWays 28 = .ok (.iconst 0, 1) := by decide +kernel
theorem dX6_steadyWays_29 : decode cX6_steadyWays 29 = .ok (.istore 4, 2) := by decide +kernel
theorem dX6_steadyWays_31 : decode cX6_steadyWays 31 = .ok (.aload_n 0, 1) := by decide +kernel
theorem dX6_steadyWays_32 : decode cX6_steadyWays 32 = .ok (.iload_n 1, 1) := by decide +kernel
theorem dX6_steadyWays_33 : decode cX6_steadyWays 33 = .ok (.iconst 4, 1) := by decide +kernel
theorem dX6_steadyWays_34 : decode cX6_steadyWays 34 = .ok (.iadd, 1) := by decide +kernel
theorem dX6_steadyWays_35 : decode cX6_steadyWays 35 = .ok (.iload_n 3, 1) := by decide +kernel
theorem dX6_steadyWays_36 : decode cX6_steadyWays 36 = .ok (.iadd, 1) := by decide +kernel
theorem dX6_steadyWays_37 : decode cX6_steadyWays 37 = .ok (.iaload, 1) := by decide +kernel
theorem dX6_steadyWays_38 : decode cX6_steadyWays 38 = .ok (.aload_n 0, 1) := by decide +kernel
theorem dX6_steadyWays_39 : decode cX6_steadyWays 39 = .ok (.iload_n 1, 1) := by decide +kernel
theorem dX6_steadyWays_40 : decode cX6_steadyWays 40 = .ok (.iconst 4, 1) := by decide +kernel
theorem dX6_steadyWays_41 : decode cX6_steadyWays 41 = .ok (.iadd, 1) := by decide +kernel
theorem dX6_steadyWays_42 : decode cX6_steadyWays 42 = .ok (.iload_n 3, 1) := by decide +kernel
theorem dX6_steadyWays_43 : decode cX6_steadyWays 43 = .ok (.iconst 1, 1) := by decide +kernel
theorem dX6_steadyWays_44 : decode cX6_steadyWays 44 = .ok (.ixor, 1) := by decide +kernel
theorem dX6_steadyWays_45 : decode cX6_steadyWays 45 = .ok (.iadd, 1) := by decide +kernel
theorem dX6_steadyWays_46 : decode cX6_steadyWays 46 = .ok (.iaload, 1) := by decide +kernel
theorem dX6_steadyWays_47 : decode cX6_steadyWays 47 = .ok (.if_icmp .lt 7, 3) := by decide +kernel
theorem dX6_steadyWays_50 : decode cX6_steadyWays 50 = .ok (.iconst 1, 1) := by decide +kernel
theorem dX6_steadyWays_51 : decode cX6_steadyWays 51 = .ok (.goto 4, 3) := by decide +kernel
theorem dX6_steadyWays_54 : decode cX6_steadyWays 54 = .ok (.iconst 0, 1) := by decide +kernel
theorem dX6_steadyWays_55 : decode cX6_steadyWays 55 = .ok (.istore 5, 2) := by decide +kernel
theorem dX6_steadyWays_57 : decode cX6_steadyWays 57 = .ok (.iload 4, 2) := by decide +kernel
theorem dX6_steadyWays_59 : decode cX6_steadyWays 59 = .ok (.ifCond .eq 14, 3) := by decide +kernel
theorem dX6_steadyWays_62 : decode cX6_steadyWays 62 = .ok (.iload 5, 2) := by decide +kernel
theorem dX6_steadyWays_64 : decode cX6_steadyWays 64 = .ok (.ifCond .eq 9, 3) := by decide +kernel
theorem dX6_steadyWays_67 : decode cX6_steadyWays 67 = .ok (.iload_n 2, 1) := by decide +kernel
theorem dX6_steadyWays_68 : decode cX6_steadyWays 68 = .ok (.iconst 1, 1) := by decide +kernel
theorem dX6_steadyWays_69 : decode cX6_steadyWays 69 = .ok (.iload_n 3, 1) := by decide +kernel
theorem dX6_steadyWays_70 : decode cX6_steadyWays 70 = .ok (.ishl, 1) := by decide +kernel
theorem dX6_steadyWays_71 : decode cX6_steadyWays 71 = .ok (.ior, 1) := by decide +kernel
theorem dX6_steadyWays_72 : decode cX6_steadyWays 72 = .ok (.istore_n 2, 1) := by decide +kernel
theorem dX6_steadyWays_73 : decode cX6_steadyWays 73 = .ok (.iinc 3 1, 3) := by decide +kernel
theorem dX6_steadyWays_76 : decode cX6_steadyWays 76 = .ok (.goto (-72), 3) := by decide +kernel
theorem dX6_steadyWays_79 : decode cX6_steadyWays 79 = .ok (.iload_n 2, 1) := by decide +kernel
theorem dX6_steadyWays_80 : decode cX6_steadyWays 80 = .ok (.ireturn, 1) := by decide +kernel
theorem dX6_isOneOf_0 : decode cX6_isOneOf 0 = .ok (.iload_n 1, 1) := by decide +kernel
theorem dX6_isOneOf_1 : decode cX6_isOneOf 1 = .ok (.ifCond .eq 8, 3) := by decide +kernel
theorem dX6_isOneOf_4 : decode cX6_isOneOf 4 = .ok (.iload_n 1, 1) := by decide +kernel
theorem dX6_isOneOf_5 : decode cX6_isOneOf 5 = .ok (.iload_n 0, 1) := by decide +kernel
theorem dX6_isOneOf_6 : decode cX6_isOneOf 6 = .ok (.if_icmp .ne 5, 3) := by decide +kernel
theorem dX6_isOneOf_9 : decode cX6_isOneOf 9 = .ok (.iconst 1, 1) := by decide +kernel
theorem dX6_isOneOf_10 : decode cX6_isOneOf 10 = .ok (.ireturn, 1) := by decide +kernel
theorem dX6_isOneOf_11 : decode cX6_isOneOf 11 = .ok (.iload_n 1, 1) := by decide +kernel
theorem dX6_isOneOf_12 : decode cX6_isOneOf 12 = .ok (.iconst 1, 1) := by decide +kernel
theorem dX6_isOneOf_13 : decode cX6_isOneOf 13 = .ok (.if_icmp .ne 19, 3) := by decide +kernel
theorem dX6_isOneOf_16 : decode cX6_isOneOf 16 = .ok (.iload_n 0, 1) := by decide +kernel
theorem dX6_isOneOf_17 : decode cX6_isOneOf 17 = .ok (.iconst 2, 1) := by decide +kernel
theorem dX6_isOneOf_18 : decode cX6_isOneOf 18 = .ok (.if_icmp .eq 8, 3) := by decide +kernel
theorem dX6_isOneOf_21 : decode cX6_isOneOf 21 = .ok (.iload_n 0, 1) := by decide +kernel
theorem dX6_isOneOf_22 : decode cX6_isOneOf 22 = .ok (.iconst 3, 1) := by decide +kernel
theorem dX6_isOneOf_23 : decode cX6_isOneOf 23 = .ok (.if_icmp .ne 7, 3) := by decide +kernel
theorem dX6_isOneOf_26 : decode cX6_isOneOf 26 = .ok (.iconst 1, 1) := by decide +kernel
theorem dX6_isOneOf_27 : decode cX6_isOneOf 27 = .ok (.goto 4, 3) := by decide +kernel
theorem dX6_isOneOf_30 : decode cX6_isOneOf 30 = .ok (.iconst 0, 1) := by decide +kernel
theorem dX6_isOneOf_31 : decode cX6_isOneOf 31 = .ok (.ireturn, 1) := by decide +kernel
theorem dX6_isOneOf_32 : decode cX6_isOneOf 32 = .ok (.iload_n 1, 1) := by decide +kernel
theorem dX6_isOneOf_33 : decode cX6_isOneOf 33 = .ok (.iconst 4, 1) := by decide +kernel
theorem dX6_isOneOf_34 : decode cX6_isOneOf 34 = .ok (.if_icmp .ne 12, 3) := by decide +kernel
theorem dX6_isOneOf_37 : decode cX6_isOneOf 37 = .ok (.iload_n 0, 1) := by decide +kernel
theorem dX6_isOneOf_38 : decode cX6_isOneOf 38 = .ok (.iconst 5, 1) := by decide +kernel
theorem dX6_isOneOf_39 : decode cX6_isOneOf 39 = .ok (.if_icmp .ne 7, 3) := by decide +kernel
theorem dX6_isOneOf_42 : decode cX6_isOneOf 42 = .ok (.iconst 1, 1) := by decide +kernel
theorem dX6_isOneOf_43 : decode cX6_isOneOf 43 = .ok (.goto 4, 3) := by decide +kernel
theorem dX6_isOneOf_46 : decode cX6_isOneOf 46 = .ok (.iconst 0, 1) := by decide +kernel
theorem dX6_isOneOf_47 : decode cX6_isOneOf 47 = .ok (.ireturn, 1) := by decide +kernel
theorem dX7_init_0 : decode cX7_init 0 = .ok (.aload_n 0, 1) := by decide +kernel
theorem dX7_init_1 : decode cX7_init 1 = .ok (.invokespecial 1, 3) := by decide +kernel
theorem dX7_init_4 : decode cX7_init 4 = .ok (.aload_n 0, 1) := by decide +kernel
theorem dX7_init_5 : decode cX7_init 5 = .ok (.bipush 8, 2) := by decide +kernel
theorem dX7_init_7 : decode cX7_init 7 = .ok (.newarray .int, 2) := by decide +kernel
theorem dX7_init_9 : decode cX7_init 9 = .ok (.putfield 7, 3) := by decide +kernel
theorem dX7_init_12 : decode cX7_init 12 = .ok (.aload_n 0, 1) := by decide +kernel
theorem dX7_init_13 : decode cX7_init 13 = .ok (.bipush 8, 2) := by decide +kernel
theorem dX7_init_15 : decode cX7_init 15 = .ok (.newarray .int, 2) := by decide +kernel
theorem dX7_init_17 : decode cX7_init 17 = .ok (.putfield 13, 3) := by decide +kernel
theorem dX7_init_20 : decode cX7_init 20 = .ok (.aload_n 0, 1) := by decide +kernel
theorem dX7_init_21 : decode cX7_init 21 = .ok (.sipush 320, 3) := by decide +kernel
theorem dX7_init_24 : decode cX7_init 24 = .ok (.newarray .int, 2) := by decide +kernel
theorem dX7_init_26 : decode cX7_init 26 = .ok (.putfield 16, 3) := by decide +kernel
theorem dX7_init_29 : decode cX7_init 29 = .ok (.aload_n 0, 1) := by decide +kernel
theorem dX7_init_30 : decode cX7_init 30 = .ok (.bipush 100, 2) := by decide +kernel
theorem dX7_init_32 : decode cX7_init 32 = .ok (.newarray .int, 2) := by decide +kernel
theorem dX7_init_34 : decode cX7_init 34 = .ok (.putfield 19, 3) := by decide +kernel
theorem dX7_init_37 : decode cX7_init 37 = .ok (.aload_n 0, 1) := by decide +kernel
theorem dX7_init_38 : decode cX7_init 38 = .ok (.bipush 53, 2) := by decide +kernel
theorem dX7_init_40 : decode cX7_init 40 = .ok (.newarray .int, 2) := by decide +kernel
theorem dX7_init_42 : decode cX7_init 42 = .ok (.putfield 22, 3) := by decide +kernel
theorem dX7_init_45 : decode cX7_init 45 = .ok (.aload_n 0, 1) := by decide +kernel
theorem dX7_init_46 : decode cX7_init 46 = .ok (.bipush 53, 2) := by decide +kernel
theorem dX7_init_48 : decode cX7_init 48 = .ok (.newarray .int, 2) := by decide +kernel
theorem dX7_init_50 : decode cX7_init 50 = .ok (.putfield 25, 3) := by decide +kernel
theorem dX7_init_53 : decode cX7_init 53 = .ok (.aload_n 0, 1) := by decide +kernel
theorem dX7_init_54 : decode cX7_init 54 = .ok (.bipush 53, 2) := by decide +kernel
theorem dX7_init_56 : decode cX7_init 56 = .ok (.newarray .int, 2) := by decide +kernel
theorem dX7_init_58 : decode cX7_init 58 = .ok (.putfield 28, 3) := by decide +kernel
theorem dX7_init_61 : decode cX7_init 61 = .ok (.aload_n 0, 1) := by decide +kernel
theorem dX7_init_62 : decode cX7_init 62 = .ok (.bipush 106, 2) := by decide +kernel
theorem dX7_init_64 : decode cX7_init 64 = .ok (.newarray .int, 2) := by decide +kernel
theorem dX7_init_66 : decode cX7_init 66 = .ok (.putfield 31, 3) := by decide +kernel
theorem dX7_init_69 : decode cX7_init 69 = .ok (.aload_n 0, 1) := by decide +kernel
theorem dX7_init_70 : decode cX7_init 70 = .ok (.iconst 2, 1) := by decide +kernel
theorem dX7_init_71 : decode cX7_init 71 = .ok (.newarray .boolean, 2) := by decide +kernel
theorem dX7_init_73 : decode cX7_init 73 = .ok (.putfield 34, 3) := by decide +kernel
theorem dX7_init_76 : decode cX7_init 76 = .ok (.aload_n 0, 1) := by decide +kernel
theorem dX7_init_77 : decode cX7_init 77 = .ok (.sipush 1272, 3) := by decide +kernel
theorem dX7_init_80 : decode cX7_init 80 = .ok (.newarray .int, 2) := by decide +kernel
theorem dX7_init_82 : decode cX7_init 82 = .ok (.putfield 38, 3) := by decide +kernel
theorem dX7_init_85 : decode cX7_init 85 = .ok (.aload_n 0, 1) := by decide +kernel
theorem dX7_init_86 : decode cX7_init 86 = .ok (.bipush 16, 2) := by decide +kernel
theorem dX7_init_88 : decode cX7_init 88 = .ok (.newarray .int, 2) := by decide +kernel
theorem dX7_init_90 : decode cX7_init 90 = .ok (.putfield 41, 3) := by decide +kernel
theorem dX7_init_93 : decode cX7_init 93 = .ok (.aload_n 0, 1) := by decide +kernel
theorem dX7_init_94 : decode cX7_init 94 = .ok (.bipush 6, 2) := by decide +kernel
theorem dX7_init_96 : decode cX7_init 96 = .ok (.newarray .int, 2) := by decide +kernel
theorem dX7_init_98 : decode cX7_init 98 = .ok (.putfield 44, 3) := by decide +kernel
theorem dX7_init_101 : decode cX7_init 101 = .ok (.aload_n 0, 1) := by decide +kernel
theorem dX7_init_102 : decode cX7_init 102 = .ok (.bipush 28, 2) := by decide +kernel
theorem dX7_init_104 : decode cX7_init 104 = .ok (.newarray .int, 2) := by decide +kernel
theorem dX7_init_106 : decode cX7_init 106 = .ok (.putfield 47, 3) := by decide +kernel
theorem dX7_init_109 : decode cX7_init 109 = .ok (.iconst 0, 1) := by decide +kernel
theorem dX7_init_110 : decode cX7_init 110 = .ok (.istore_n 1, 1) := by decide +kernel
theorem dX7_init_111 : decode cX7_init 111 = .ok (.iload_n 1, 1) := by decide +kernel
theorem dX7_init_112 : decode cX7_init 112 = .ok (.bipush 8, 2) := by decide +kernel
theorem dX7_init_114 : decode cX7_init 114 = .ok (.if_icmp .ge 16, 3) := by decide +kernel
theorem dX7_init_117 : decode cX7_init 117 = .ok (.aload_n 0, 1) := by decide +kernel
theorem dX7_init_118 : decode cX7_init 118 = .ok (.getfield 7, 3) := by decide +kernel
theorem dX7_init_121 : decode cX7_init 121 = .ok (.iload_n 1, 1) := by decide +kernel
theorem dX7_init_122 : decode cX7_init 122 = .ok (.iconst (-1), 1) := by decide +kernel
theorem dX7_init_123 : decode cX7_init 123 = .ok (.iastore, 1) := by decide +kernel
theorem dX7_init_124 : decode cX7_init 124 = .ok (.iinc 1 1, 3) := by decide +kernel
theorem dX7_init_127 : decode cX7_init 127 = .ok (.goto (-16), 3) := by decide +kernel
theorem dX7_init_130 : decode cX7_init 130 = .ok (.return_, 1) := by decide +kernel
theorem dX7_in_0 : decode cX7_in 0 = .ok (.iload_n 0, 1) := by decide +kernel
theorem dX7_in_1 : decode cX7_in 1 = .ok (.iload_n 1, 1) := by decide +kernel
theorem dX7_in_2 : decode cX7_in 2 = .ok (.if_icmp .lt 12, 3) := by decide +kernel
theorem dX7_in_5 : decode cX7_in 5 = .ok (.iload_n 0, 1) := by decide +kernel
theorem dX7_in_6 : decode cX7_in 6 = .ok (.iload_n 2, 1) := by decide +kernel
theorem dX7_in_7 : decode cX7_in 7 = .ok (.if_icmp .gt 7, 3) := by decide +kernel
theorem dX7_in_10 : decode cX7_in 10 = .ok (.iconst 1, 1) := by decide +kernel
theorem dX7_in_11 : decode cX7_in 11 = .ok (.goto 4, 3) := by decide +kernel
theorem dX7_in_14 : decode cX7_in 14 = .ok (.iconst 0, 1) := by decide +kernel
theorem dX7_in_15 : decode cX7_in 15 = .ok (.ireturn, 1) := by decide +kernel
theorem dX7_has_0 : decode cX7_has 0 = .ok (.iload_n 0, 1) := by decide +kernel
theorem dX7_has_1 : decode cX7_has 1 = .ok (.iload_n 1, 1) := by decide +kernel
theorem dX7_has_2 : decode cX7_has 2 = .ok (.ishr, 1) := by decide +kernel
theorem dX7_has_3 : decode cX7_has 3 = .ok (.iconst 1, 1) := by decide +kernel
theorem dX7_has_4 : decode cX7_has 4 = .ok (.iand, 1) := by decide +kernel
theorem dX7_has_5 : decode cX7_has 5 = .ok (.iconst 1, 1) := by decide +kernel
theorem dX7_has_6 : decode cX7_has 6 = .ok (.if_icmp .ne 7, 3) := by decide +kernel
theorem dX7_has_9 : decode cX7_has 9 = .ok (.iconst 1, 1) := by decide +kernel
theorem dX7_has_10 : decode cX7_has 10 = .ok (.goto 4, 3) := by decide +kernel
theorem dX7_has_13 : decode cX7_has 13 = .ok (.iconst 0, 1) := by decide +kernel
theorem dX7_has_14 : decode cX7_has 14 = .ok (.ireturn, 1) := by decide +kernel
theorem dX7_finds_0 : decode cX7_finds 0 = .ok (.aload_n 0, 1) := by decide +kernel
theorem dX7_finds_1 : decode cX7_finds 1 = .ok (.iload_n 1, 1) := by decide +kernel
theorem dX7_finds_2 : decode cX7_finds 2 = .ok (.putfield 50, 3) := by decide +kernel
theorem dX7_finds_5 : decode cX7_finds 5 = .ok (.ldc 54, 2) := by decide +kernel
theorem dX7_finds_7 : decode cX7_finds 7 = .ok (.iload_n 1, 1) := by decide +kernel
theorem dX7_finds_8 : decode cX7_finds 8 = .ok (.isub, 1) := by decide +kernel
theorem dX7_finds_9 : decode cX7_finds 9 = .ok (.ireturn, 1) := by decide +kernel
theorem dX7_done_0 : decode cX7_done 0 = .ok (.aload_n 0, 1) := by decide +kernel
theorem dX7_done_1 : decode cX7_done 1 = .ok (.iconst 0, 1) := by decide +kernel
theorem dX7_done_2 : decode cX7_done 2 = .ok (.putfield 50, 3) := by decide +kernel
theorem dX7_done_5 : decode cX7_done 5 = .ok (.iload_n 1, 1) := by decide +kernel
theorem dX7_done_6 : decode cX7_done 6 = .ok (.ireturn, 1) := by decide +kernel
theorem dX7_isRow_0 : decode cX7_isRow 0 = .ok (.iload_n 0, 1) := by decide +kernel
theorem dX7_isRow_1 : decode cX7_isRow 1 = .ok (.iconst 0, 1) := by decide +kernel
theorem dX7_isRow_2 : decode cX7_isRow 2 = .ok (.bipush 7, 2) := by decide +kernel
theorem dX7_isRow_4 : decode cX7_isRow 4 = .ok (.invokestatic 55, 3) := by decide +kernel
theorem dX7_isRow_7 : decode cX7_isRow 7 = .ok (.ireturn, 1) := by decide +kernel
theorem dX7_row_0 : decode cX7_row 0 = .ok (.iload_n 1, 1) := by decide +kernel
theorem dX7_row_1 : decode cX7_row 1 = .ok (.invokestatic 59, 3) := by decide +kernel
theorem dX7_row_4 : decode cX7_row 4 = .ok (.ifCond .eq 18, 3) := by decide +kernel
theorem dX7_row_7 : decode cX7_row 7 = .ok (.iload_n 2, 1) := by decide +kernel
theorem dX7_row_8 : decode cX7_row 8 = .ok (.iconst 0, 1) := by decide +kernel
theorem dX7_row_9 : decode cX7_row 9 = .ok (.iconst 2, 1) := by decide +kernel
theorem dX7_row_10 : decode cX7_row 10 = .ok (.invokestatic 55, 3) := by decide +kernel
theorem dX7_row_13 : decode cX7_row 13 = .ok (.ifCond .eq 9, 3) := by decide +kernel
theorem dX7_row_16 : decode cX7_row 16 = .ok (.iload_n 3, 1) := by decide +kernel
theorem dX7_row_17 : decode cX7_row 17 = .ok (.bipush 40, 2) := by decide +kernel
theorem dX7_row_19 : decode cX7_row 19 = .ok (.if_icmp .le 6, 3) := by decide +kernel
theorem dX7_row_22 : decode cX7_row 22 = .ok (.ldc 63, 2) := by decide +kernel
theorem dX7_row_24 : decode cX7_row 24 = .ok (.ireturn, 1) := by decide +kernel
theorem dX7_row_25 : decode cX7_row 25 = .ok (.iload_n 3, 1) := by decide +kernel
theorem dX7_row_26 : decode cX7_row 26 = .ok (.ifCond .ge 9, 3) := by decide +kernel
theorem dX7_row_29 : decode cX7_row 29 = .ok (.aload_n 0, 1) := by decide +kernel
theorem dX7_row_30 : decode cX7_row 30 = .ok (.iconst 4, 1) := by decide +kernel
theorem dX7_row_31 : decode cX7_row 31 = .ok (.invokevirtual 64, 3) := by decide +kernel
theorem dX7_row_34 : decode cX7_row 34 = .ok (.ireturn, 1) := by decide +kernel
theorem dX7_row_35 : decode cX7_row 35 = .ok (.aload_n 0, 1) := by decide +kernel
theorem dX7_row_36 : decode cX7_row 36 = .ok (.getfield 7, 3) := by decide +kernel
theorem dX7_row_39 : decode cX7_row 39 = .ok (.iload_n 1, 1) := by decide +kernel
theorem dX7_row_40 : decode cX7_row 40 = .ok (.iload_n 2, 1) := by decide +kernel
theorem dX7_row_41 : decode cX7_row 41 = .ok (.iastore, 1) := by decide +kernel
theorem dX7_row_42 : decode cX7_row 42 = .ok (.aload_n 0, 1) := by decide +kernel
theorem dX7_row_43 : decode cX7_row 43 = .ok (.getfield 13, 3) := by decide +kernel
theorem dX7_row_46 : decode cX7_row 46 = .ok (.iload_n 1, 1) := by decide +kernel
theorem dX7_row_47 : decode cX7_row 47 = .ok (.iload_n 3, 1) := by decide +kernel
theorem dX7_row_48 : decode cX7_row 48 = .ok (.iastore, 1) := by decide +kernel
theorem dX7_row_49 : decode cX7_row 49 = .ok (.iconst 0, 1) := by decide +kernel
theorem dX7_row_50 : decode cX7_row 50 = .ok (.istore 4, 2) := by decide +kernel
theorem dX7_row_52 : decode cX7_row 52 = .ok (.iload 4, 2) := by decide +kernel
theorem dX7_row_54 : decode cX7_row 54 = .ok (.bipush 40, 2) := by decide +kernel
theorem dX7_row_56 : decode cX7_row 56 = .ok (.if_icmp .ge 22, 3) := by decide +kernel
theorem dX7_row_59 : decode cX7_row 59 = .ok (.aload_n 0, 1) := by decide +kernel
theorem dX7_row_60 : decode cX7_row 60 = .ok (.getfield 16, 3) := by decide +kernel
theorem dX7_row_63 : decode cX7_row 63 = .ok (.bipush 40, 2) := by decide +kernel
theorem dX7_row_65 : decode cX7_row 65 = .ok (.iload_n 1, 1) := by decide +kernel
theorem dX7_row_66 : decode cX7_row 66 = .ok (.imul, 1) := by decide +kernel
theorem dX7_row_67 : decode cX7_row 67 = .ok (.iload 4, 2) := by decide +kernel
theorem dX7_row_69 : decode cX7_row 69 = .ok (.iadd, 1) := by decide +kernel
theorem dX7_row_70 : decode cX7_row 70 = .ok (.iconst 0, 1) := by decide +kernel
theorem dX7_row_71 : decode cX7_row 71 = .ok (.iastore, 1) := by decide +kernel
theorem dX7_row_72 : decode cX7_row 72 = .ok (.iinc 4 1, 3) := by decide +kernel
theorem dX7_row_75 : decode cX7_row 75 = .ok (.goto (-23), 3) := by decide +kernel
theorem dX7_row_78 : decode cX7_row 78 = .ok (.aload_n 0, 1) := by decide +kernel
theorem dX7_row_79 : decode cX7_row 79 = .ok (.iload_n 3, 1) := by decide +kernel
theorem dX7_row_80 : decode cX7_row 80 = .ok (.invokevirtual 68, 3) := by decide +kernel
theorem dX7_row_83 : decode cX7_row 83 = .ok (.ireturn, 1) := by decide +kernel
theorem dX7_set_0 : decode cX7_set 0 = .ok (.iload_n 1, 1) := by decide +kernel
theorem dX7_set_1 : decode cX7_set 1 = .ok (.invokestatic 59, 3) := by decide +kernel
theorem dX7_set_4 : decode cX7_set 4 = .ok (.ifCond .ne 6, 3) := by decide +kernel
theorem dX7_set_7 : decode cX7_set 7 = .ok (.ldc 63, 2) := by decide +kernel
theorem dX7_set_9 : decode cX7_set 9 = .ok (.ireturn, 1) := by decide +kernel
theorem dX7_set_10 : decode cX7_set 10 = .ok (.aload_n 0, 1) := by decide +kernel
theorem dX7_set_11 : decode cX7_set 11 = .ok (.getfield 7, 3) := by decide +kernel
theorem dX7_set_14 : decode cX7_set 14 = .ok (.iload_n 1, 1) := by decide +kernel
theorem dX7_set_15 : decode cX7_set 15 = .ok (.iaload, 1) := by decide +kernel
theorem dX7_set_16 : decode cX7_set 16 = .ok (.ifCond .ge 9, 3) := by decide +kernel
theorem dX7_set_19 : decode cX7_set 19 = .ok (.aload_n 0, 1) := by decide +kernel
theorem dX7_set_20 : decode cX7_set 20 = .ok (.iconst 1, 1) := by decide +kernel
theorem dX7_set_21 : decode cX7_set 21 = .ok (.invokevirtual 64, 3) := by decide +kernel
theorem dX7_set_24 : decode cX7_set 24 = .ok (.ireturn, 1) := by decide +kernel
theorem dX7_set_25 : decode cX7_set 25 = .ok (.iload_n 2, 1) := by decide +kernel
theorem dX7_set_26 : decode cX7_set 26 = .ok (.iconst 0, 1) := by decide +kernel
theorem dX7_set_27 : decode cX7_set 27 = .ok (.aload_n 0, 1) := by decide +kernel
theorem dX7_set_28 : decode cX7_set 28 = .ok (.getfield 13, 3) := by decide +kernel
theorem dX7_set_31 : decode cX7_set 31 = .ok (.iload_n 1, 1) := by decide +kernel
theorem dX7_set_32 : decode cX7_set 32 = .ok (.iaload, 1) := by decide +kernel
theorem dX7_set_33 : decode cX7_set 33 = .ok (.iconst 1, 1) := by decide +kernel
theorem dX7_set_34 : decode cX7_set 34 = .ok (.isub, 1) := by decide +kernel
theorem dX7_set_35 : decode cX7_set 35 = .ok (.invokestatic 55, 3) := by decide +kernel
theorem dX7_set_38 : decode cX7_set 38 = .ok (.ifCond .ne 9, 3) := by decide +kernel
theorem dX7_set_41 : decode cX7_set 41 = .ok (.aload_n 0, 1) := by decide +kernel
theorem dX7_set_42 : decode cX7_set 42 = .ok (.iconst 2, 1) := by decide +kernel
theorem dX7_set_43 : decode cX7_set 43 = .ok (.invokevirtual 64, 3) := by decide +kernel
theorem dX7_set_46 : decode cX7_set 46 = .ok (.ireturn, 1) := by decide +kernel
theorem dX7_set_47 : decode cX7_set 47 = .ok (.aload_n 0, 1) := by decide +kernel
theorem dX7_set_48 : decode cX7_set 48 = .ok (.getfield 16, 3) := by decide +kernel
theorem dX7_set_51 : decode cX7_set 51 = .ok (.bipush 40, 2) := by decide +kernel
theorem dX7_set_53 : decode cX7_set 53 = .ok (.iload_n 1, 1) := by decide +kernel
theorem dX7_set_54 : decode cX7_set 54 = .ok (.imul, 1) := by decide +kernel
theorem dX7_set_55 : decode cX7_set 55 = .ok (.iload_n 2, 1) := by decide +kernel
theorem dX7_set_56 : decode cX7_set 56 = .ok (.iadd, 1) := by decide +kernel
theorem dX7_set_57 : decode cX7_set 57 = .ok (.aload_n 0, 1) := by decide +kernel
theorem dX7_set_58 : decode cX7_set 58 = .ok (.getfield 7, 3) := by decide +kernel
theorem dX7_set_61 : decode cX7_set 61 = .ok (.iload_n 1, 1) := by decide +kernel
theorem dX7_set_62 : decode cX7_set 62 = .ok (.iaload, 1) := by decide +kernel
theorem dX7_set_63 : decode cX7_set 63 = .ok (.ifCond .ne 8, 3) := by decide +kernel
theorem dX7_set_66 : decode cX7_set 66 = .ok (.iload_n 3, 1) := by decide +kernel
theorem dX7_set_67 : decode cX7_set 67 = .ok (.i2b, 1) := by decide +kernel
theorem dX7_set_68 : decode cX7_set 68 = .ok (.goto 19, 3) := by decide +kernel
theorem dX7_set_71 : decode cX7_set 71 = .ok (.aload_n 0, 1) := by decide +kernel
theorem dX7_set_72 : decode cX7_set 72 = .ok (.getfield 7, 3) := by decide +kernel
theorem dX7_set_75 : decode cX7_set 75 = .ok (.iload_n 1, 1) := by decide +kernel
theorem dX7_set_76 : decode cX7_set 76 = .ok (.iaload, 1) := by decide +kernel
theorem dX7_set_77 : decode cX7_set 77 = .ok (.iconst 1, 1) := by decide +kernel
theorem dX7_set_78 : decode cX7_set 78 = .ok (.if_icmp .ne 8, 3) := by decide +kernel
theorem dX7_set_81 : decode cX7_set 81 = .ok (.iload_n 3, 1) := by decide +kernel
theorem dX7_set_82 : decode cX7_set 82 = .ok (.i2s, 1) := by decide +kernel
theorem dX7_set_83 : decode cX7_set 83 = .ok (.goto 4, 3) := by decide +kernel
theorem dX7_set_86 : decode cX7_set 86 = .ok (.iload_n 3, 1) := by decide +kernel
theorem dX7_set_87 : decode cX7_set 87 = .ok (.iastore, 1) := by decide +kernel
theorem dX7_set_88 : decode cX7_set 88 = .ok (.aload_n 0, 1) := by decide +kernel
theorem dX7_set_89 : decode cX7_set 89 = .ok (.aload_n 0, 1) := by decide +kernel
theorem dX7_set_90 : decode cX7_set 90 = .ok (.getfield 16, 3) := by decide +kernel
theorem dX7_set_93 : decode cX7_set 93 = .ok (.bipush 40, 2) := by decide +kernel
theorem dX7_set_95 : decode cX7_set 95 = .ok (.iload_n 1, 1) := by decide +kernel
theorem dX7_set_96 : decode cX7_set 96 = .ok (.imul, 1) := by decide +kernel
theorem dX7_set_97 : decode cX7_set 97 = .ok (.iload_n 2, 1) := by decide +kernel
theorem dX7_set_98 : decode cX7_set 98 = .ok (.iadd, 1) := by decide +kernel
theorem dX7_set_99 : decode cX7_set 99 = .ok (.iaload, 1) := by decide +kernel
theorem dX7_set_100 : decode cX7_set 100 = .ok (.invokevirtual 68, 3) := by decide +kernel
theorem dX7_set_103 : decode cX7_set 103 = .ok (.ireturn, 1) := by decide +kernel
theorem dX7_isPart_0 : decode cX7_isPart 0 = .ok (.iload_n 0, 1) := by decide +kernel
theorem dX7_isPart_1 : decode cX7_isPart 1 = .ok (.ifCond .lt 23, 3) := by decide +kernel
theorem dX7_isPart_4 : decode cX7_isPart 4 = .ok (.iload_n 1, 1) := by decide +kernel
theorem dX7_isPart_5 : decode cX7_isPart 5 = .ok (.ifCond .lt 19, 3) := by decide +kernel
theorem dX7_isPart_8 : decode cX7_isPart 8 = .ok (.iload_n 1, 1) := by decide +kernel
theorem dX7_isPart_9 : decode cX7_isPart 9 = .ok (.iload_n 2, 1) := by decide +kernel
theorem dX7_isPart_10 : decode cX7_isPart 10 = .ok (.if_icmp .gt 14, 3) := by decide +kernel
theorem dX7_isPart_13 : decode cX7_isPart 13 = .ok (.iload_n 0, 1) := by decide +kernel
theorem dX7_isPart_14 : decode cX7_isPart 14 = .ok (.iload_n 2, 1) := by decide +kernel
theorem dX7_isPart_15 : decode cX7_isPart 15 = .ok (.iload_n 1, 1) := by decide +kernel
theorem dX7_isPart_16 : decode cX7_isPart 16 = .ok (.isub, 1) := by decide +kernel
theorem dX7_isPart_17 : decode cX7_isPart 17 = .ok (.if_icmp .gt 7, 3) := by decide +kernel
theorem dX7_isPart_20 : decode cX7_isPart 20 = .ok (.iconst 1, 1) := by decide +kernel
theorem dX7_isPart_21 : decode cX7_isPart 21 = .ok (.goto 4, 3) := by decide +kernel
theorem dX7_isPart_24 : decode cX7_isPart 24 = .ok (.iconst 0, 1) := by decide +kernel
theorem dX7_isPart_25 : decode cX7_isPart 25 = .ok (.ireturn, 1) := by decide +kernel
theorem dX7_copy_0 : decode cX7_copy 0 = .ok (.iload_n 1, 1) := by decide +kernel
theorem dX7_copy_1 : decode cX7_copy 1 = .ok (.invokestatic 59, 3) := by decide +kernel
theorem dX7_copy_4 : decode cX7_copy 4 = .ok (.ifCond .eq 10, 3) := by decide +kernel
theorem dX7_copy_7 : decode cX7_copy 7 = .ok (.iload_n 3, 1) := by decide +kernel
theorem dX7_copy_8 : decode cX7_copy 8 = .ok (.invokestatic 59, 3) := by decide +kernel
theorem dX7_copy_11 : decode cX7_copy 11 = .ok (.ifCond .ne 6, 3) := by decide +kernel
theorem dX7_copy_14 : decode cX7_copy 14 = .ok (.ldc 63, 2) := by decide +kernel
theorem dX7_copy_16 : decode cX7_copy 16 = .ok (.ireturn, 1) := by decide +kernel
theorem dX7_copy_17 : decode cX7_copy 17 = .ok (.aload_n 0, 1) := by decide +kernel
theorem dX7_copy_18 : decode cX7_copy 18 = .ok (.getfield 7, 3) := by decide +kernel
theorem dX7_copy_21 : decode cX7_copy 21 = .ok (.iload_n 1, 1) := by decide +kernel
theorem dX7_copy_22 : decode cX7_copy 22 = .ok (.iaload, 1) := by decide +kernel
theorem dX7_copy_23 : decode cX7_copy 23 = .ok (.ifCond .lt 12, 3) := by decide +kernel
theorem dX7_copy_26 : decode cX7_copy 26 = .ok (.aload_n 0, 1) := by decide +kernel
theorem dX7_copy_27 : decode cX7_copy 27 = .ok (.getfield 7, 3) := by decide +kernel
theorem dX7_copy_30 : decode cX7_copy 30 = .ok (.iload_n 3, 1) := by decide +kernel
theorem dX7_copy_31 : decode cX7_copy 31 = .ok (.iaload, 1) := by decide +kernel
theorem dX7_copy_32 : decode cX7_copy 32 = .ok (.ifCond .ge 9, 3) := by decide +kernel
theorem dX7_copy_35 : decode cX7_copy 35 = .ok (.aload_n 0, 1) := by decide +kernel
theorem dX7_copy_36 : decode cX7_copy 36 = .ok (.iconst 1, 1) := by decide +kernel
theorem dX7_copy_37 : decode cX7_copy 37 = .ok (.invokevirtual 64, 3) := by decide +kernel
theorem dX7_copy_40 : decode cX7_copy 40 = .ok (.ireturn, 1) := by decide +kernel
theorem dX7_copy_41 : decode cX7_copy 41 = .ok (.aload_n 0, 1) := by decide +kernel
theorem dX7_copy_42 : decode cX7_copy 42 = .ok (.getfield 7, 3) := by decide +kernel
theorem dX7_copy_45 : decode cX7_copy 45 = .ok (.iload_n 1, 1) := by decide +kernel
theorem dX7_copy_46 : decode cX7_copy 46 = .ok (.iaload, 1) := by decide +kernel
theorem dX7_copy_47 : decode cX7_copy 47 = .ok (.aload_n 0, 1) := by decide +kernel
theorem dX7_copy_48 : decode cX7_copy 48 = .ok (.getfield 7, 3) := by decide +kernel
theorem dX7_copy_51 : decode cX7_copy 51 = .ok (.iload_n 3, 1) := by decide +kernel
theorem dX7_copy_52 : decode cX7_copy 52 = .ok (.iaload, 1) := by decide +kernel
theorem dX7_copy_53 : decode cX7_copy 53 = .ok (.if_icmp .eq 9, 3) := by decide +kernel
theorem dX7_copy_56 : decode cX7_copy 56 = .ok (.aload_n 0, 1) := by decide +kernel
theorem dX7_copy_57 : decode cX7_copy 57 = .ok (.iconst 5, 1) := by decide +kernel
theorem dX7_copy_58 : decode cX7_copy 58 = .ok (.invokevirtual 64, 3) := by decide +kernel
theorem dX7_copy_61 : decode cX7_copy 61 = .ok (.ireturn, 1) := by decide +kernel
theorem dX7_copy_62 : decode cX7_copy 62 = .ok (.iload_n 2, 1) := by decide +kernel
theorem dX7_copy_63 : decode cX7_copy 63 = .ok (.iload 5, 2) := by decide +kernel
theorem dX7_copy_65 : decode cX7_copy 65 = .ok (.aload_n 0, 1) := by decide +kernel
theorem dX7_copy_66 : decode cX7_copy 66 = .ok (.getfield 13, 3) := by decide +kernel
theorem dX7_copy_69 : decode cX7_copy 69 = .ok (.iload_n 1, 1) := by decide +kernel
theorem dX7_copy_70 : decode cX7_copy 70 = .ok (.iaload, 1) := by decide +kernel
theorem dX7_copy_71 : decode cX7_copy 71 = .ok (.invokestatic 71, 3) := by decide +kernel
theorem dX7_copy_74 : decode cX7_copy 74 = .ok (.ifCond .eq 19, 3) := by decide +kernel
theorem dX7_copy_77 : decode cX7_copy 77 = .ok (.iload 4, 2) := by decide +kernel
theorem dX7_copy_79 : decode cX7_copy 79 = .ok (.iload 5, 2) := by decide +kernel
theorem dX7_copy_81 : decode cX7_copy 81 = .ok (.aload_n 0, 1) := by decide +kernel
theorem dX7_copy_82 : decode cX7_copy 82 = .ok (.getfield 13, 3) := by decide +kernel
theorem dX7_copy_85 : decode cX7_copy 85 = .ok (.iload_n 3, 1) := by decide +kernel
theorem dX7_copy_86 : decode cX7_copy 86 = .ok (.iaload, 1) := by decide +kernel
theorem dX7_copy_87 : decode cX7_copy 87 = .ok (.invokestatic 71, 3) := by decide +kernel
theorem dX7_copy_90 : decode cX7_copy 90 = .ok (.ifCond .ne 9, 3) := by decide +kernel
theorem dX7_copy_93 : decode cX7_copy 93 = .ok (.aload_n 0, 1) := by decide +kernel
theorem dX7_copy_94 : decode cX7_copy 94 = .ok (.iconst 2, 1) := by decide +kernel
theorem dX7_copy_95 : decode cX7_copy 95 = .ok (.invokevirtual 64, 3) := by decide +kernel
theorem dX7_copy_98 : decode cX7_copy 98 = .ok (.ireturn, 1) := by decide +kernel
theorem dX7_copy_99 : decode cX7_copy 99 = .ok (.iload_n 1, 1) := by decide +kernel
theorem dX7_copy_100 : decode cX7_copy 100 = .ok (.iload_n 3, 1) := by decide +kernel
theorem dX7_copy_101 : decode cX7_copy 101 = .ok (.if_icmp .ne 13, 3) := by decide +kernel
theorem dX7_copy_104 : decode cX7_copy 104 = .ok (.iload 4, 2) := by decide +kernel
theorem dX7_copy_106 : decode cX7_copy 106 = .ok (.iload_n 2, 1) := by decide +kernel
theorem dX7_copy_107 : decode cX7_copy 107 = .ok (.if_icmp .le 7, 3) := by decide +kernel
theorem dX7_copy_110 : decode cX7_copy 110 = .ok (.iconst 1, 1) := by decide +kernel
theorem dX7_copy_111 : decode cX7_copy 111 = .ok (.goto 4, 3) := by decide +kernel
theorem dX7_copy_114 : decode cX7_copy 114 = .ok (.iconst 0, 1) := by decide +kernel
theorem dX7_copy_115 : decode cX7_copy 115 = .ok (.istore 6, 2) := by decide +kernel
theorem dX7_copy_117 : decode cX7_copy 117 = .ok (.iconst 0, 1) := by decide +kernel
theorem dX7_copy_118 : decode cX7_copy 118 = .ok (.istore 7, 2) := by decide +kernel
theorem dX7_copy_120 : decode cX7_copy 120 = .ok (.iload 7, 2) := by decide +kernel
theorem dX7_copy_122 : decode cX7_copy 122 = .ok (.iload 5, 2) := by decide +kernel
theorem dX7_copy_124 : decode cX7_copy 124 = .ok (.if_icmp .ge 57, 3) := by decide +kernel
theorem dX7_copy_127 : decode cX7_copy 127 = .ok (.iload 6, 2) := by decide +kernel
theorem dX7_copy_129 : decode cX7_copy 129 = .ok (.ifCond .eq 13, 3) := by decide +kernel
theorem dX7_copy_132 : decode cX7_copy 132 = .ok (.iload 5, 2) := by decide +kernel
theorem dX7_copy_134 : decode cX7_copy 134 = .ok (.iconst 1, 1) := by decide +kernel
theorem dX7_copy_135 : decode cX7_copy 135 = .ok (.isub, 1) := by decide +kernel
theorem dX7_copy_136 : decode cX7_copy 136 = .ok (.iload 7, 2) := by decide +kernel
theorem dX7_copy_138 : decode cX7_copy 138 = .ok (.isub, 1) := by decide +kernel
theorem dX7_copy_139 : decode cX7_copy 139 = .ok (.goto 5, 3) := by decide +kernel
theorem dX7_copy_142 : decode cX7_copy 142 = .ok (.iload 7, 2) := by decide +kernel
theorem dX7_copy_144 : decode cX7_copy 144 = .ok (.istore 8, 2) := by decide +kernel
theorem dX7_copy_146 : decode cX7_copy 146 = .ok (.aload_n 0, 1) := by decide +kernel
theorem dX7_copy_147 : decode cX7_copy 147 = .ok (.getfield 16, 3) := by decide +kernel
theorem dX7_copy_150 : decode cX7_copy 150 = .ok (.bipush 40, 2) := by decide +kernel
theorem dX7_copy_152 : decode cX7_copy 152 = .ok (.iload_n 3, 1) := by decide +kernel
theorem dX7_copy_153 : decode cX7_copy 153 = .ok (.imul, 1) := by decide +kernel
theorem dX7_copy_154 : decode cX7_copy 154 = .ok (.iload 4, 2) := by decide +kernel
theorem dX7_copy_156 : decode cX7_copy 156 = .ok (.iadd, 1) := by decide +kernel
theorem dX7_copy_157 : decode cX7_copy 157 = .ok (.iload 8, 2) := by decide +kernel
theorem dX7_copy_159 : decode cX7_copy 159 = .ok (.iadd, 1) := by decide +kernel
theorem dX7_copy_160 : decode cX7_copy 160 = .ok (.aload_n 0, 1) := by decide +kernel
theorem dX7_copy_161 : decode cX7_copy 161 = .ok (.getfield 16, 3) := by decide +kernel
theorem dX7_copy_164 : decode cX7_copy 164 = .ok (.bipush 40, 2) := by decide +kernel
theorem dX7_copy_166 : decode cX7_copy 166 = .ok (.iload_n 1, 1) := by decide +kernel
theorem dX7_copy_167 : decode cX7_copy 167 = .ok (.imul, 1) := by decide +kernel
theorem dX7_copy_168 : decode cX7_copy 168 = .ok (.iload_n 2, 1) := by decide +kernel
theorem dX7_copy_169 : decode cX7_copy 169 = .ok (.iadd, 1) := by decide +kernel
theorem dX7_copy_170 : decode cX7_copy 170 = .ok (.iload 8, 2) := by decide +kernel
theorem dX7_copy_172 : decode cX7_copy 172 = .ok (.iadd, 1) := by decide +kernel
theorem dX7_copy_173 : decode cX7_copy 173 = .ok (.iaload, 1) := by decide +kernel
theorem dX7_copy_174 : decode cX7_copy 174 = .ok (.iastore, 1) := by decide +kernel
theorem dX7_copy_175 : decode cX7_copy 175 = .ok (.iinc 7 1, 3) := by decide +kernel
theorem dX7_copy_178 : decode cX7_copy 178 = .ok (.goto (-58), 3) := by decide +kernel
theorem dX7_copy_181 : decode cX7_copy 181 = .ok (.aload_n 0, 1) := by decide +kernel
theorem dX7_copy_182 : decode cX7_copy 182 = .ok (.iload 5, 2) := by decide +kernel
theorem dX7_copy_184 : decode cX7_copy 184 = .ok (.invokevirtual 68, 3) := by decide +kernel
theorem dX7_copy_187 : decode cX7_copy 187 = .ok (.ireturn, 1) := by decide +kernel
theorem dX7_drop_0 : decode cX7_drop 0 = .ok (.iload_n 1, 1) := by decide +kernel
theorem dX7_drop_1 : decode cX7_drop 1 = .ok (.invokestatic 59, 3) := by decide +kernel
theorem dX7_drop_4 : decode cX7_drop 4 = .ok (.ifCond .ne 6, 3) := by decide +kernel
theorem dX7_drop_7 : decode cX7_drop 7 = .ok (.ldc 63, 2) := by decide +kernel
theorem dX7_drop_9 : decode cX7_drop 9 = .ok (.ireturn, 1) := by decide +kernel
theorem dX7_drop_10 : decode cX7_drop 10 = .ok (.aload_n 0, 1) := by decide +kernel
theorem dX7_drop_11 : decode cX7_drop 11 = .ok (.getfield 7, 3) := by decide +kernel
theorem dX7_drop_14 : decode cX7_drop 14 = .ok (.iload_n 1, 1) := by decide +kernel
theorem dX7_drop_15 : decode cX7_drop 15 = .ok (.iaload, 1) := by decide +kernel
theorem dX7_drop_16 : decode cX7_drop 16 = .ok (.ifCond .ge 9, 3) := by decide +kernel
theorem dX7_drop_19 : decode cX7_drop 19 = .ok (.aload_n 0, 1) := by decide +kernel
theorem dX7_drop_20 : decode cX7_drop 20 = .ok (.iconst 1, 1) := by decide +kernel
theorem dX7_drop_21 : decode cX7_drop 21 = .ok (.invokevirtual 64, 3) := by decide +kernel
theorem dX7_drop_24 : decode cX7_drop 24 = .ok (.ireturn, 1) := by decide +kernel
theorem dX7_drop_25 : decode cX7_drop 25 = .ok (.aload_n 0, 1) := by decide +kernel
theorem dX7_drop_26 : decode cX7_drop 26 = .ok (.getfield 7, 3) := by decide +kernel
theorem dX7_drop_29 : decode cX7_drop 29 = .ok (.iload_n 1, 1) := by decide +kernel
theorem dX7_drop_30 : decode cX7_drop 30 = .ok (.iconst (-1), 1) := by decide +kernel
theorem dX7_drop_31 : decode cX7_drop 31 = .ok (.iastore, 1) := by decide +kernel
theorem dX7_drop_32 : decode cX7_drop 32 = .ok (.aload_n 0, 1) := by decide +kernel
theorem dX7_drop_33 : decode cX7_drop 33 = .ok (.aload_n 0, 1) := by decide +kernel
theorem dX7_drop_34 : decode cX7_drop 34 = .ok (.getfield 13, 3) := by decide +kernel
theorem dX7_drop_37 : decode cX7_drop 37 = .ok (.iload_n 1, 1) := by decide +kernel
theorem dX7_drop_38 : decode cX7_drop 38 = .ok (.iaload, 1) := by decide +kernel
theorem dX7_drop_39 : decode cX7_drop 39 = .ok (.invokevirtual 68, 3) := by decide +kernel
theorem dX7_drop_42 : decode cX7_drop 42 = .ok (.ireturn, 1) := by decide +kernel
theorem dX7_feed_0 : decode cX7_feed 0 = .ok (.iload_n 1, 1) := by decide +kernel
theorem dX7_feed_1 : decode cX7_feed 1 = .ok (.iconst 0, 1) := by decide +kernel
theorem dX7_feed_2 : decode cX7_feed 2 = .ok (.sipush 255, 3) := by decide +kernel
theorem dX7_feed_5 : decode cX7_feed 5 = .ok (.invokestatic 55, 3) := by decide +kernel
theorem dX7_feed_8 : decode cX7_feed 8 = .ok (.ifCond .ne 6, 3) := by decide +kernel
theorem dX7_feed_11 : decode cX7_feed 11 = .ok (.ldc 63, 2) := by decide +kernel
theorem dX7_feed_13 : decode cX7_feed 13 = .ok (.ireturn, 1) := by decide +kernel
theorem dX7_feed_14 : decode cX7_feed 14 = .ok (.aload_n 0, 1) := by decide +kernel
theorem dX7_feed_15 : decode cX7_feed 15 = .ok (.getfield 74, 3) := by decide +kernel
theorem dX7_feed_18 : decode cX7_feed 18 = .ok (.bipush 100, 2) := by decide +kernel
theorem dX7_feed_20 : decode cX7_feed 20 = .ok (.if_icmp .ne 6, 3) := by decide +kernel
theorem dX7_feed_23 : decode cX7_feed 23 = .ok (.ldc 77, 2) := by decide +kernel
theorem dX7_feed_25 : decode cX7_feed 25 = .ok (.ireturn, 1) := by decide +kernel
theorem dX7_feed_26 : decode cX7_feed 26 = .ok (.aload_n 0, 1) := by decide +kernel
theorem dX7_feed_27 : decode cX7_feed 27 = .ok (.getfield 19, 3) := by decide +kernel
theorem dX7_feed_30 : decode cX7_feed 30 = .ok (.aload_n 0, 1) := by decide +kernel
theorem dX7_feed_31 : decode cX7_feed 31 = .ok (.getfield 74, 3) := by decide +kernel
theorem dX7_feed_34 : decode cX7_feed 34 = .ok (.iload_n 1, 1) := by decide +kernel
theorem dX7_feed_35 : decode cX7_feed 35 = .ok (.iastore, 1) := by decide +kernel
theorem dX7_feed_36 : decode cX7_feed 36 = .ok (.aload_n 0, 1) := by decide +kernel
theorem dX7_feed_37 : decode cX7_feed 37 = .ok (.dup, 1) := by decide +kernel
theorem dX7_feed_38 : decode cX7_feed 38 = .ok (.getfield 74, 3) := by decide +kernel
theorem dX7_feed_41 : decode cX7_feed 41 = .ok (.iconst 1, 1) := by decide +kernel
theorem dX7_feed_42 : decode cX7_feed 42 = .ok (.iadd, 1) := by decide +kernel
theorem dX7_feed_43 : decode cX7_feed 43 = .ok (.putfield 74, 3) := by decide +kernel
theorem dX7_feed_46 : decode cX7_feed 46 = .ok (.aload_n 0, 1) := by decide +kernel
theorem dX7_feed_47 : decode cX7_feed 47 = .ok (.getfield 74, 3) := by decide +kernel
theorem dX7_feed_50 : decode cX7_feed 50 = .ok (.ireturn, 1) := by decide +kernel
theorem dX7_nextToken_0 : decode cX7_nextToken 0 = .ok (.aload_n 0, 1) := by decide +kernel
theorem dX7_nextToken_1 : decode cX7_nextToken 1 = .ok (.aload_n 0, 1) := by decide +kernel
theorem dX7_nextToken_2 : decode cX7_nextToken 2 = .ok (.getfield 78, 3) := by decide +kernel
theorem dX7_nextToken_5 : decode cX7_nextToken 5 = .ok (.putfield 81, 3) := by decide +kernel
theorem dX7_nextToken_8 : decode cX7_nextToken 8 = .ok (.aload_n 0, 1) := by decide +kernel
theorem dX7_nextToken_9 : decode cX7_nextToken 9 = .ok (.iconst 0, 1) := by decide +kernel
theorem dX7_nextToken_10 : decode cX7_nextToken 10 = .ok (.putfield 84, 3) := by decide +kernel
theorem dX7_nextToken_13 : decode cX7_nextToken 13 = .ok (.aload_n 0, 1) := by decide +kernel
theorem dX7_nextToken_14 : decode cX7_nextToken 14 = .ok (.getfield 78, 3) := by decide +kernel
theorem dX7_nextToken_17 : decode cX7_nextToken 17 = .ok (.aload_n 0, 1) := by decide +kernel
theorem dX7_nextToken_18 : decode cX7_nextToken 18 = .ok (.getfield 74, 3) := by decide +kernel
theorem dX7_nextToken_21 : decode cX7_nextToken 21 = .ok (.if_icmp .ne 12, 3) := by decide +kernel
theorem dX7_nextToken_24 : decode cX7_nextToken 24 = .ok (.aload_n 0, 1) := by decide +kernel
theorem dX7_nextToken_25 : decode cX7_nextToken 25 = .ok (.bipush (-2), 2) := by decide +kernel
theorem dX7_nextToken_27 : decode cX7_nextToken 27 = .ok (.putfield 87, 3) := by decide +kernel
theorem dX7_nextToken_30 : decode cX7_nextToken 30 = .ok (.goto 188, 3) := by decide +kernel
theorem dX7_nextToken_33 : decode cX7_nextToken 33 = .ok (.aload_n 0, 1) := by decide +kernel
theorem dX7_nextToken_34 : decode cX7_nextToken 34 = .ok (.getfield 19, 3) := by decide +kernel
theorem dX7_nextToken_37 : decode cX7_nextToken 37 = .ok (.aload_n 0, 1) := by decide +kernel
theorem dX7_nextToken_38 : decode cX7_nextToken 38 = .ok (.getfield 78, 3) := by decide +kernel
theorem dX7_nextToken_41 : decode cX7_nextToken 41 = .ok (.iaload, 1) := by decide +kernel
theorem dX7_nextToken_42 : decode cX7_nextToken 42 = .ok (.bipush 48, 2) := by decide +kernel
theorem dX7_nextToken_44 : decode cX7_nextToken 44 = .ok (.bipush 57, 2) := by decide +kernel
theorem dX7_nextToken_46 : decode cX7_nextToken 46 = .ok (.invokestatic 55, 3) := by decide +kernel
theorem dX7_nextToken_49 : decode cX7_nextToken 49 = .ok (.ifCond .eq 116, 3) := by decide +kernel
theorem dX7_nextToken_52 : decode cX7_nextToken 52 = .ok (.aload_n 0, 1) := by decide +kernel
theorem dX7_nextToken_53 : decode cX7_nextToken 53 = .ok (.getfield 78, 3) := by decide +kernel
theorem dX7_nextToken_56 : decode cX7_nextToken 56 = .ok (.aload_n 0, 1) := by decide +kernel
theorem dX7_nextToken_57 : decode cX7_nextToken 57 = .ok (.getfield 74, 3) := by decide +kernel
theorem dX7_nextToken_60 : decode cX7_nextToken 60 = .ok (.if_icmp .ge 79, 3) := by decide +kernel
theorem dX7_nextToken_63 : decode cX7_nextToken 63 = .ok (.aload_n 0, 1) := by decide +kernel
theorem dX7_nextToken_64 : decode cX7_nextToken 64 = .ok (.getfield 19, 3) := by decide +kernel
theorem dX7_nextToken_67 : decode cX7_nextToken 67 = .ok (.aload_n 0, 1) := by decide +kernel
theorem dX7_nextToken_68 : decode cX7_nextToken 68 = .ok (.getfield 78, 3) := by decide +kernel
theorem dX7_nextToken_71 : decode cX7_nextToken 71 = .ok (.iaload, 1) := by decide +kernel
theorem dX7_nextToken_72 : decode cX7_nextToken 72 = .ok (.bipush 48, 2) := by decide +kernel
theorem dX7_nextToken_74 : decode cX7_nextToken 74 = .ok (.bipush 57, 2) := by decide +kernel
theorem dX7_nextToken_76 : decode cX7_nextToken 76 = .ok (.invokestatic 55, 3) := by decide +kernel
theorem dX7_nextToken_79 : decode cX7_nextToken 79 = .ok (.ifCond .eq 60, 3) := by decide +kernel
theorem dX7_nextToken_82 : decode cX7_nextToken 82 = .ok (.aload_n 0, 1) := by decide +kernel
theorem dX7_nextToken_83 : decode cX7_nextToken 83 = .ok (.aload_n 0, 1) := by decide +kernel
theorem dX7_nextToken_84 : decode cX7_nextToken 84 = .ok (.getfield 78, 3) := by decide +kernel
theorem dX7_nextToken_87 : decode cX7_nextToken 87 = .ok (.aload_n 0, 1) := by decide +kernel
theorem dX7_nextToken_88 : decode cX7_nextToken 88 = .ok (.getfield 81, 3) := by decide +kernel
theorem dX7_nextToken_91 : decode cX7_nextToken 91 = .ok (.isub, 1) := by decide +kernel
theorem dX7_nextToken_92 : decode cX7_nextToken 92 = .ok (.iconst 2, 1) := by decide +kernel
theorem dX7_nextToken_93 : decode cX7_nextToken 93 = .ok (.if_icmp .ge 26, 3) := by decide +kernel
theorem dX7_nextToken_96 : decode cX7_nextToken 96 = .ok (.bipush 10, 2) := by decide +kernel
theorem dX7_nextToken_98 : decode cX7_nextToken 98 = .ok (.aload_n 0, 1) := by decide +kernel
theorem dX7_nextToken_99 : decode cX7_nextToken 99 = .ok (.getfield 84, 3) := by decide +kernel
theorem dX7_nextToken_102 : decode cX7_nextToken 102 = .ok (.imul, 1) := by decide +kernel
theorem dX7_nextToken_103 : decode cX7_nextToken 103 = .ok (.aload_n 0, 1) := by decide +kernel
theorem dX7_nextToken_104 : decode cX7_nextToken 104 = .ok (.getfield 19, 3) := by decide +kernel
theorem dX7_nextToken_107 : decode cX7_nextToken 107 = .ok (.aload_n 0, 1) := by decide +kernel
theorem dX7_nextToken_108 : decode cX7_nextToken 108 = .ok (.getfield 78, 3) := by decide +kernel
theorem dX7_nextToken_111 : decode cX7_nextToken 111 = .ok (.iaload, 1) := by decide +kernel
theorem dX7_nextToken_112 : decode cX7_nextToken 112 = .ok (.iadd, 1) := by decide +kernel
theorem dX7_nextToken_113 : decode cX7_nextToken 113 = .ok (.bipush 48, 2) := by decide +kernel
theorem dX7_nextToken_115 : decode cX7_nextToken 115 = .ok (.isub, 1) := by decide +kernel
theorem dX7_nextToken_116 : decode cX7_nextToken 116 = .ok (.goto 7, 3) := by decide +kernel
theorem dX7_nextToken_119 : decode cX7_nextToken 119 = .ok (.aload_n 0, 1) := by decide +kernel
theorem dX7_nextToken_120 : decode cX7_nextToken 120 = .ok (.getfield 84, 3) := by decide +kernel
theorem dX7_nextToken_123 : decode cX7_nextToken 123 = .ok (.putfield 84, 3) := by decide +kernel
theorem dX7_nextToken_126 : decode cX7_nextToken 126 = .ok (.aload_n 0, 1) := by decide +kernel
theorem dX7_nextToken_127 : decode cX7_nextToken 127 = .ok (.dup, 1) := by decide +kernel
theorem dX7_nextToken_128 : decode cX7_nextToken 128 = .ok (.getfield 78, 3) := by decide +kernel
theorem dX7_nextToken_131 : decode cX7_nextToken 131 = .ok (.iconst 1, 1) := by decide +kernel
theorem dX7_nextToken_132 : decode cX7_nextToken 132 = .ok (.iadd, 1) := by decide +kernel
theorem dX7_nextToken_133 : decode cX7_nextToken 133 = .ok (.putfield 78, 3) := by decide +kernel
theorem dX7_nextToken_136 : decode cX7_nextToken 136 = .ok (.goto (-84), 3) := by decide +kernel
theorem dX7_nextToken_139 : decode cX7_nextToken 139 = .ok (.aload_n 0, 1) := by decide +kernel
theorem dX7_nextToken_140 : decode cX7_nextToken 140 = .ok (.aload_n 0, 1) := by decide +kernel
theorem dX7_nextToken_141 : decode cX7_nextToken 141 = .ok (.getfield 78, 3) := by decide +kernel
theorem dX7_nextToken_144 : decode cX7_nextToken 144 = .ok (.aload_n 0, 1) := by decide +kernel
theorem dX7_nextToken_145 : decode cX7_nextToken 145 = .ok (.getfield 81, 3) := by decide +kernel
theorem dX7_nextToken_148 : decode cX7_nextToken 148 = .ok (.isub, 1) := by decide +kernel
theorem dX7_nextToken_149 : decode cX7_nextToken 149 = .ok (.iconst 2, 1) := by decide +kernel
theorem dX7_nextToken_150 : decode cX7_nextToken 150 = .ok (.if_icmp .le 8, 3) := by decide +kernel
theorem dX7_nextToken_153 : decode cX7_nextToken 153 = .ok (.bipush (-3), 2) := by decide +kernel
theorem dX7_nextToken_155 : decode cX7_nextToken 155 = .ok (.goto 4, 3) := by decide +kernel
theorem dX7_nextToken_158 : decode cX7_nextToken 158 = .ok (.iconst (-1), 1) := by decide +kernel
theorem dX7_nextToken_159 : decode cX7_nextToken 159 = .ok (.putfield 87, 3) := by decide +kernel
theorem dX7_nextToken_162 : decode cX7_nextToken 162 = .ok (.goto 56, 3) := by decide +kernel
theorem dX7_nextToken_165 : decode cX7_nextToken 165 = .ok (.aload_n 0, 1) := by decide +kernel
theorem dX7_nextToken_166 : decode cX7_nextToken 166 = .ok (.getfield 19, 3) := by decide +kernel
theorem dX7_nextToken_169 : decode cX7_nextToken 169 = .ok (.aload_n 0, 1) := by decide +kernel
theorem dX7_nextToken_170 : decode cX7_nextToken 170 = .ok (.getfield 78, 3) := by decide +kernel
theorem dX7_nextToken_173 : decode cX7_nextToken 173 = .ok (.iaload, 1) := by decide +kernel
theorem dX7_nextToken_174 : decode cX7_nextToken 174 = .ok (.istore_n 1, 1) := by decide +kernel
theorem dX7_nextToken_175 : decode cX7_nextToken 175 = .ok (.aload_n 0, 1) := by decide +kernel
theorem dX7_nextToken_176 : decode cX7_nextToken 176 = .ok (.iload_n 1, 1) := by decide +kernel
theorem dX7_nextToken_177 : decode cX7_nextToken 177 = .ok (.bipush 97, 2) := by decide +kernel
theorem dX7_nextToken_179 : decode cX7_nextToken 179 = .ok (.bipush 122, 2) := by decide +kernel
theorem dX7_nextToken_181 : decode cX7_nextToken 181 = .ok (.invokestatic 55, 3) := by decide +kernel
theorem dX7_nextToken_184 : decode cX7_nextToken 184 = .ok (.ifCond .ne 15, 3) := by decide +kernel
theorem dX7_nextToken_187 : decode cX7_nextToken 187 = .ok (.iload_n 1, 1) := by decide +kernel
theorem dX7_nextToken_188 : decode cX7_nextToken 188 = .ok (.bipush 44, 2) := by decide +kernel
theorem dX7_nextToken_190 : decode cX7_nextToken 190 = .ok (.if_icmp .eq 9, 3) := by decide +kernel
theorem dX7_nextToken_193 : decode cX7_nextToken 193 = .ok (.iload_n 1, 1) := by decide +kernel
theorem dX7_nextToken_194 : decode cX7_nextToken 194 = .ok (.bipush 59, 2) := by decide +kernel
theorem dX7_nextToken_196 : decode cX7_nextToken 196 = .ok (.if_icmp .ne 7, 3) := by decide +kernel
theorem dX7_nextToken_199 : decode cX7_nextToken 199 = .ok (.iload_n 1, 1) := by decide +kernel
theorem dX7_nextToken_200 : decode cX7_nextToken 200 = .ok (.goto 5, 3) := by decide +kernel
theorem dX7_nextToken_203 : decode cX7_nextToken 203 = .ok (.bipush (-3), 2) := by decide +kernel
theorem dX7_nextToken_205 : decode cX7_nextToken 205 = .ok (.putfield 87, 3) := by decide +kernel
theorem dX7_nextToken_208 : decode cX7_nextToken 208 = .ok (.aload_n 0, 1) := by decide +kernel
theorem dX7_nextToken_209 : decode cX7_nextToken 209 = .ok (.dup, 1) := by decide +kernel
theorem dX7_nextToken_210 : decode cX7_nextToken 210 = .ok (.getfield 78, 3) := by decide +kernel
theorem dX7_nextToken_213 : decode cX7_nextToken 213 = .ok (.iconst 1, 1) := by decide +kernel
theorem dX7_nextToken_214 : decode cX7_nextToken 214 = .ok (.iadd, 1) := by decide +kernel
theorem dX7_nextToken_215 : decode cX7_nextToken 215 = .ok (.putfield 78, 3) := by decide +kernel
theorem dX7_nextToken_218 : decode cX7_nextToken 218 = .ok (.return_, 1) := by decide +kernel
theorem dX7_fails_0 : decode cX7_fails 0 = .ok (.aload_n 0, 1) := by decide +kernel
theorem dX7_fails_1 : decode cX7_fails 1 = .ok (.iload_n 1, 1) := by decide +kernel
theorem dX7_fails_2 : decode cX7_fails 2 = .ok (.putfield 90, 3) := by decide +kernel
theorem dX7_fails_5 : decode cX7_fails 5 = .ok (.iconst 0, 1) := by decide +kernel
theorem dX7_fails_6 : decode cX7_fails 6 = .ok (.ireturn, 1) := by decide +kernel
theorem dX7_isNumber_0 : decode cX7_isNumber 0 = .ok (.aload_n 0, 1) := by decide +kernel
theorem dX7_isNumber_1 : decode cX7_isNumber 1 = .ok (.invokevirtual 93, 3) := by decide +kernel
theorem dX7_isNumber_4 : decode cX7_isNumber 4 = .ok (.aload_n 0, 1) := by decide +kernel
theorem dX7_isNumber_5 : decode cX7_isNumber 5 = .ok (.getfield 87, 3) := by decide +kernel
theorem dX7_isNumber_8 : decode cX7_isNumber 8 = .ok (.iconst (-1), 1) := by decide +kernel
theorem dX7_isNumber_9 : decode cX7_isNumber 9 = .ok (.if_icmp .eq 9, 3) := by decide +kernel
theorem dX7_isNumber_12 : decode cX7_isNumber 12 = .ok (.aload_n 0, 1) := by decide +kernel
theorem dX7_isNumber_13 : decode cX7_isNumber 13 = .ok (.iconst 1, 1) := by decide +kernel
theorem dX7_isNumber_14 : decode cX7_isNumber 14 = .ok (.invokevirtual 96, 3) := by decide +kernel
theorem dX7_isNumber_17 : decode cX7_isNumber 17 = .ok (.ireturn, 1) := by decide +kernel
theorem dX7_isNumber_18 : decode cX7_isNumber 18 = .ok (.aload_n 0, 1) := by decide +kernel
theorem dX7_isNumber_19 : decode cX7_isNumber 19 = .ok (.getfield 84, 3) := by decide +kernel
theorem dX7_isNumber_22 : decode cX7_isNumber 22 = .ok (.iload_n 1, 1) := by decide +kernel
theorem dX7_isNumber_23 : decode cX7_isNumber 23 = .ok (.iload_n 2, 1) := by decide +kernel
theorem dX7_isNumber_24 : decode cX7_isNumber 24 = .ok (.invokestatic 55, 3) := by decide +kernel
theorem dX7_isNumber_27 : decode cX7_isNumber 27 = .ok (.ifCond .ne 11, 3) := by decide +kernel
theorem dX7_isNumber_30 : decode cX7_isNumber 30 = .ok (.aload_n 0, 1) := by decide +kernel
theorem dX7_isNumber_31 : decode cX7_isNumber 31 = .ok (.iconst 2, 1) := by decide +kernel
theorem dX7_isNumber_32 : decode cX7_isNumber 32 = .ok (.invokevirtual 96, 3) := by decide +kernel
theorem dX7_isNumber_35 : decode cX7_isNumber 35 = .ok (.ifCond .eq 7, 3) := by decide +kernel
theorem dX7_isNumber_38 : decode cX7_isNumber 38 = .ok (.iconst 1, 1) := by decide +kernel
theorem dX7_isNumber_39 : decode cX7_isNumber 39 = .ok (.goto 4, 3) := by decide +kernel
theorem dX7_isNumber_42 : decode cX7_isNumber 42 = .ok (.iconst 0, 1) := by decide +kernel
theorem dX7_isNumber_43 : decode cX7_isNumber 43 = .ok (.ireturn, 1) := by decide +kernel
theorem dX7_isSign_0 : decode cX7_isSign 0 = .ok (.aload_n 0, 1) := by decide +kernel
theorem dX7_isSign_1 : decode cX7_isSign 1 = .ok (.invokevirtual 93, 3) := by decide +kernel
theorem dX7_isSign_4 : decode cX7_isSign 4 = .ok (.aload_n 0, 1) := by decide +kernel
theorem dX7_isSign_5 : decode cX7_isSign 5 = .ok (.getfield 87, 3) := by decide +kernel
theorem dX7_isSign_8 : decode cX7_isSign 8 = .ok (.iload_n 1, 1) := by decide +kernel
theorem dX7_isSign_9 : decode cX7_isSign 9 = .ok (.if_icmp .eq 11, 3) := by decide +kernel
theorem dX7_isSign_12 : decode cX7_isSign 12 = .ok (.aload_n 0, 1) := by decide +kernel
theorem dX7_isSign_13 : decode cX7_isSign 13 = .ok (.iconst 1, 1) := by decide +kernel
theorem dX7_isSign_14 : decode cX7_isSign 14 = .ok (.invokevirtual 96, 3) := by decide +kernel
theorem dX7_isSign_17 : decode cX7_isSign 17 = .ok (.ifCond .eq 7, 3) := by decide +kernel
theorem dX7_isSign_20 : decode cX7_isSign 20 = .ok (.iconst 1, 1) := by decide +kernel
theorem dX7_isSign_21 : decode cX7_isSign 21 = .ok (.goto 4, 3) := by decide +kernel
theorem dX7_isSign_24 : decode cX7_isSign 24 = .ok (.iconst 0, 1) := by decide +kernel
theorem dX7_isSign_25 : decode cX7_isSign 25 = .ok (.ireturn, 1) := by decide +kernel
theorem dX7_isLaw_0 : decode cX7_isLaw 0 = .ok (.aload_n 0, 1) := by decide +kernel
theorem dX7_isLaw_1 : decode cX7_isLaw 1 = .ok (.bipush 103, 2) := by decide +kernel
theorem dX7_isLaw_3 : decode cX7_isLaw 3 = .ok (.invokevirtual 99, 3) := by decide +kernel
theorem dX7_isLaw_6 : decode cX7_isLaw 6 = .ok (.ifCond .eq 13, 3) := by decide +kernel
theorem dX7_isLaw_9 : decode cX7_isLaw 9 = .ok (.aload_n 0, 1) := by decide +kernel
theorem dX7_isLaw_10 : decode cX7_isLaw 10 = .ok (.iconst 0, 1) := by decide +kernel
theorem dX7_isLaw_11 : decode cX7_isLaw 11 = .ok (.bipush 60, 2) := by decide +kernel
theorem dX7_isLaw_13 : decode cX7_isLaw 13 = .ok (.invokevirtual 102, 3) := by decide +kernel
theorem dX7_isLaw_16 : decode cX7_isLaw 16 = .ok (.ifCond .ne 5, 3) := by decide +kernel
theorem dX7_isLaw_19 : decode cX7_isLaw 19 = .ok (.iconst 0, 1) := by decide +kernel
theorem dX7_isLaw_20 : decode cX7_isLaw 20 = .ok (.ireturn, 1) := by decide +kernel
theorem dX7_isLaw_21 : decode cX7_isLaw 21 = .ok (.aload_n 0, 1) := by decide +kernel
theorem dX7_isLaw_22 : decode cX7_isLaw 22 = .ok (.getfield 25, 3) := by decide +kernel
theorem dX7_isLaw_25 : decode cX7_isLaw 25 = .ok (.iconst 0, 1) := by decide +kernel
theorem dX7_isLaw_26 : decode cX7_isLaw 26 = .ok (.aload_n 0, 1) := by decide +kernel
theorem dX7_isLaw_27 : decode cX7_isLaw 27 = .ok (.getfield 84, 3) := by decide +kernel
theorem dX7_isLaw_30 : decode cX7_isLaw 30 = .ok (.iastore, 1) := by decide +kernel
theorem dX7_isLaw_31 : decode cX7_isLaw 31 = .ok (.aload_n 0, 1) := by decide +kernel
theorem dX7_isLaw_32 : decode cX7_isLaw 32 = .ok (.bipush 44, 2) := by decide +kernel
theorem dX7_isLaw_34 : decode cX7_isLaw 34 = .ok (.invokevirtual 99, 3) := by decide +kernel
theorem dX7_isLaw_37 : decode cX7_isLaw 37 = .ok (.ifCond .eq 13, 3) := by decide +kernel
theorem dX7_isLaw_40 : decode cX7_isLaw 40 = .ok (.aload_n 0, 1) := by decide +kernel
theorem dX7_isLaw_41 : decode cX7_isLaw 41 = .ok (.iconst 0, 1) := by decide +kernel
theorem dX7_isLaw_42 : decode cX7_isLaw 42 = .ok (.bipush 12, 2) := by decide +kernel
theorem dX7_isLaw_44 : decode cX7_isLaw 44 = .ok (.invokevirtual 102, 3) := by decide +kernel
theorem dX7_isLaw_47 : decode cX7_isLaw 47 = .ok (.ifCond .ne 5, 3) := by decide +kernel
theorem dX7_isLaw_50 : decode cX7_isLaw 50 = .ok (.iconst 0, 1) := by decide +kernel
theorem dX7_isLaw_51 : decode cX7_isLaw 51 = .ok (.ireturn, 1) := by decide +kernel
theorem dX7_isLaw_52 : decode cX7_isLaw 52 = .ok (.aload_n 0, 1) := by decide +kernel
theorem dX7_isLaw_53 : decode cX7_isLaw 53 = .ok (.getfield 25, 3) := by decide +kernel
theorem dX7_isLaw_56 : decode cX7_isLaw 56 = .ok (.iconst 1, 1) := by decide +kernel
theorem dX7_isLaw_57 : decode cX7_isLaw 57 = .ok (.aload_n 0, 1) := by decide +kernel
theorem dX7_isLaw_58 : decode cX7_isLaw 58 = .ok (.getfield 84, 3) := by decide +kernel
theorem dX7_isLaw_61 : decode cX7_isLaw 61 = .ok (.iastore, 1) := by decide +kernel
theorem dX7_isLaw_62 : decode cX7_isLaw 62 = .ok (.aload_n 0, 1) := by decide +kernel
theorem dX7_isLaw_63 : decode cX7_isLaw 63 = .ok (.bipush 59, 2) := by decide +kernel
theorem dX7_isLaw_65 : decode cX7_isLaw 65 = .ok (.invokevirtual 99, 3) := by decide +kernel
theorem dX7_isLaw_68 : decode cX7_isLaw 68 = .ok (.ireturn, 1) := by decide +kernel
theorem dX7_isDoor_0 : decode cX7_isDoor 0 = .ok (.aload_n 0, 1) := by decide +kernel
theorem dX7_isDoor_1 : decode cX7_isDoor 1 = .ok (.getfield 25, 3) := by decide +kernel
theorem dX7_isDoor_4 : decode cX7_isDoor 4 = .ok (.iconst 2, 1) := by decide +kernel
theorem dX7_isDoor_5 : decode cX7_isDoor 5 = .ok (.iaload, 1) := by decide +kernel
theorem dX7_isDoor_6 : decode cX7_isDoor 6 = .ok (.bipush 6, 2) := by decide +kernel
theorem dX7_isDoor_8 : decode cX7_isDoor 8 = .ok (.if_icmp .ne 9, 3) := by decide +kernel
theorem dX7_isDoor_11 : decode cX7_isDoor 11 = .ok (.aload_n 0, 1) := by decide +kernel
theorem dX7_isDoor_12 : decode cX7_isDoor 12 = .ok (.iconst 3, 1) := by decide +kernel
theorem dX7_isDoor_13 : decode cX7_isDoor 13 = .ok (.invokevirtual 96, 3) := by decide +kernel
theorem dX7_isDoor_16 : decode cX7_isDoor 16 = .ok (.ireturn, 1) := by decide +kernel
theorem dX7_isDoor_17 : decode cX7_isDoor 17 = .ok (.aload_n 0, 1) := by decide +kernel
theorem dX7_isDoor_18 : decode cX7_isDoor 18 = .ok (.iconst 1, 1) := by decide +kernel
theorem dX7_isDoor_19 : decode cX7_isDoor 19 = .ok (.bipush 20, 2) := by decide +kernel
theorem dX7_isDoor_21 : decode cX7_isDoor 21 = .ok (.invokevirtual 102, 3) := by decide +kernel
theorem dX7_isDoor_24 : decode cX7_isDoor 24 = .ok (.ifCond .ne 5, 3) := by decide +kernel
theorem dX7_isDoor_27 : decode cX7_isDoor 27 = .ok (.iconst 0, 1) := by decide +kernel
theorem dX7_isDoor_28 : decode cX7_isDoor 28 = .ok (.ireturn, 1) := by decide +kernel
theorem dX7_isDoor_29 : decode cX7_isDoor 29 = .ok (.aload_n 0, 1) := by decide +kernel
theorem dX7_isDoor_30 : decode cX7_isDoor 30 = .ok (.getfield 25, 3) := by decide +kernel
theorem dX7_isDoor_33 : decode cX7_isDoor 33 = .ok (.iconst 5, 1) := by decide +kernel
theorem dX7_isDoor_34 : decode cX7_isDoor 34 = .ok (.aload_n 0, 1) := by decide +kernel
theorem dX7_isDoor_35 : decode cX7_isDoor 35 = .ok (.getfield 25, 3) := by decide +kernel
theorem dX7_isDoor_38 : decode cX7_isDoor 38 = .ok (.iconst 2, 1) := by decide +kernel
theorem dX7_isDoor_39 : decode cX7_isDoor 39 = .ok (.iaload, 1) := by decide +kernel
theorem dX7_isDoor_40 : decode cX7_isDoor 40 = .ok (.iadd, 1) := by decide +kernel
theorem dX7_isDoor_41 : decode cX7_isDoor 41 = .ok (.aload_n 0, 1) := by decide +kernel
theorem dX7_isDoor_42 : decode cX7_isDoor 42 = .ok (.getfield 84, 3) := by decide +kernel
theorem dX7_isDoor_45 : decode cX7_isDoor 45 = .ok (.iastore, 1) := by decide +kernel
theorem dX7_isDoor_46 : decode cX7_isDoor 46 = .ok (.aload_n 0, 1) := by decide +kernel
theorem dX7_isDoor_47 : decode cX7_isDoor 47 = .ok (.getfield 25, 3) := by decide +kernel
theorem dX7_isDoor_50 : decode cX7_isDoor 50 = .ok (.iconst 2, 1) := by decide +kernel
theorem dX7_isDoor_51 : decode cX7_isDoor 51 = .ok (.dup2, 1) := by decide +kernel
theorem dX7_isDoor_52 : decode cX7_isDoor 52 = .ok (.iaload, 1) := by decide +kernel
theorem dX7_isDoor_53 : decode cX7_isDoor 53 = .ok (.iconst 1, 1) := by decide +kernel
theorem dX7_isDoor_54 : decode cX7_isDoor 54 = .ok (.iadd, 1) := by decide +kernel
theorem dX7_isDoor_55 : decode cX7_isDoor 55 = .ok (.iastore, 1) := by decide +kernel
theorem dX7_isDoor_56 : decode cX7_isDoor 56 = .ok (.aload_n 0, 1) := by decide +kernel
theorem dX7_isDoor_57 : decode cX7_isDoor 57 = .ok (.bipush 59, 2) := by decide +kernel
theorem dX7_isDoor_59 : decode cX7_isDoor 59 = .ok (.invokevirtual 99, 3) := by decide +kernel
theorem dX7_isDoor_62 : decode cX7_isDoor 62 = .ok (.ireturn, 1) := by decide +kernel
theorem dX7_sortOf_0 : decode cX7_sortOf 0 = .ok (.iload_n 0, 1) := by decide +kernel
theorem dX7_sortOf_1 : decode cX7_sortOf 1 = .ok (.bipush 117, 2) := by decide +kernel
theorem dX7_sortOf_3 : decode cX7_sortOf 3 = .ok (.if_icmp .ne 7, 3) := by decide +kernel
theorem dX7_sortOf_6 : decode cX7_sortOf 6 = .ok (.iconst 1, 1) := by decide +kernel
theorem dX7_sortOf_7 : decode cX7_sortOf 7 = .ok (.goto 44, 3) := by decide +kernel
theorem dX7_sortOf_10 : decode cX7_sortOf 10 = .ok (.iload_n 0, 1) := by decide +kernel
theorem dX7_sortOf_11 : decode cX7_sortOf 11 = .ok (.bipush 108, 2) := by decide +kernel
theorem dX7_sortOf_13 : decode cX7_sortOf 13 = .ok (.if_icmp .ne 7, 3) := by decide +kernel
theorem dX7_sortOf_16 : decode cX7_sortOf 16 = .ok (.iconst 2, 1) := by decide +kernel
theorem dX7_sortOf_17 : decode cX7_sortOf 17 = .ok (.goto 34, 3) := by decide +kernel
theorem dX7_sortOf_20 : decode cX7_sortOf 20 = .ok (.iload_n 0, 1) := by decide +kernel
theorem dX7_sortOf_21 : decode cX7_sortOf 21 = .ok (.bipush 98, 2) := by decide +kernel
theorem dX7_sortOf_23 : decode cX7_sortOf 23 = .ok (.if_icmp .ne 7, 3) := by decide +kernel
theorem dX7_sortOf_26 : decode cX7_sortOf 26 = .ok (.iconst 3, 1) := by decide +kernel
theorem dX7_sortOf_27 : decode cX7_sortOf 27 = .ok (.goto 24, 3) := by decide +kernel
theorem dX7_sortOf_30 : decode cX7_sortOf 30 = .ok (.iload_n 0, 1) := by decide +kernel
theorem dX7_sortOf_31 : decode cX7_sortOf 31 = .ok (.bipush 112, 2) := by decide +kernel
theorem dX7_sortOf_33 : decode cX7_sortOf 33 = .ok (.if_icmp .ne 7, 3) := by decide +kernel
theorem dX7_sortOf_36 : decode cX7_sortOf 36 = .ok (.iconst 4, 1) := by decide +kernel
theorem dX7_sortOf_37 : decode cX7_sortOf 37 = .ok (.goto 14, 3) := by decide +kernel
theorem dX7_sortOf_40 : decode cX7_sortOf 40 = .ok (.iload_n 0, 1) := by decide +kernel
theorem dX7_sortOf_41 : decode cX7_sortOf 41 = .ok (.bipush 107, 2) := by decide +kernel
theorem dX7_sortOf_43 : decode cX7_sortOf 43 = .ok (.if_icmp .ne 7, 3) := by decide +kernel
theorem dX7_sortOf_46 : decode cX7_sortOf 46 = .ok (.iconst 5, 1) := by decide +kernel
theorem dX7_sortOf_47 : decode cX7_sortOf 47 = .ok (.goto 4, 3) := by decide +kernel
theorem dX7_sortOf_50 : decode cX7_sortOf 50 = .ok (.iconst 0, 1) := by decide +kernel
theorem dX7_sortOf_51 : decode cX7_sortOf 51 = .ok (.ireturn, 1) := by decide +kernel
theorem dX7_isCaller_0 : decode cX7_isCaller 0 = .ok (.aload_n 0, 1) := by decide +kernel
theorem dX7_isCaller_1 : decode cX7_isCaller 1 = .ok (.getfield 25, 3) := by decide +kernel
theorem dX7_isCaller_4 : decode cX7_isCaller 4 = .ok (.iconst 3, 1) := by decide +kernel
theorem dX7_isCaller_5 : decode cX7_isCaller 5 = .ok (.iaload, 1) := by decide +kernel
theorem dX7_isCaller_6 : decode cX7_isCaller 6 = .ok (.bipush 6, 2) := by decide +kernel
theorem dX7_isCaller_8 : decode cX7_isCaller 8 = .ok (.if_icmp .ne 9, 3) := by decide +kernel
theorem dX7_isCaller_11 : decode cX7_isCaller 11 = .ok (.aload_n 0, 1) := by decide +kernel
theorem dX7_isCaller_12 : decode cX7_isCaller 12 = .ok (.iconst 3, 1) := by decide +kernel
theorem dX7_isCaller_13 : decode cX7_isCaller 13 = .ok (.invokevirtual 96, 3) := by decide +kernel
theorem dX7_isCaller_16 : decode cX7_isCaller 16 = .ok (.ireturn, 1) := by decide +kernel
theorem dX7_isCaller_17 : decode cX7_isCaller 17 = .ok (.aload_n 0, 1) := by decide +kernel
theorem dX7_isCaller_18 : decode cX7_isCaller 18 = .ok (.getfield 25, 3) := by decide +kernel
theorem dX7_isCaller_21 : decode cX7_isCaller 21 = .ok (.iconst 3, 1) := by decide +kernel
theorem dX7_isCaller_22 : decode cX7_isCaller 22 = .ok (.iaload, 1) := by decide +kernel
theorem dX7_isCaller_23 : decode cX7_isCaller 23 = .ok (.istore_n 1, 1) := by decide +kernel
theorem dX7_isCaller_24 : decode cX7_isCaller 24 = .ok (.aload_n 0, 1) := by decide +kernel
theorem dX7_isCaller_25 : decode cX7_isCaller 25 = .ok (.getfield 25, 3) := by decide +kernel
