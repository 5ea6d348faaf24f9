theorem dX7_isCaller_28 : decode cX7_isCaller 28 = .ok (.bipush 29, 2) := by decide +kernel
theorem dX7_isCaller_30 : decode cX7_isCaller 30 = .ok (.iload_n 1, 1) := by decide +kernel
theorem dX7_isCaller_31 : decode cX7_isCaller 31 = .ok (.iadd, 1) := by decide +kernel
theorem dX7_isCaller_32 : decode cX7_isCaller 32 = .ok (.aload_n 0, 1) := by decide +kernel
theorem dX7_isCaller_33 : decode cX7_isCaller 33 = .ok (.getfield 87, 3) := by decide +kernel
theorem dX7_isCaller_36 : decode cX7_isCaller 36 = .ok (.invokestatic 106, 3) := by decide +kernel
theorem dX7_isCaller_39 : decode cX7_isCaller 39 = .ok (.iastore, 1) := by decide +kernel
theorem dX7_isCaller_40 : decode cX7_isCaller 40 = .ok (.aload_n 0, 1) := by decide +kernel
theorem dX7_isCaller_41 : decode cX7_isCaller 41 = .ok (.iconst 0, 1) := by decide +kernel
theorem dX7_isCaller_42 : decode cX7_isCaller 42 = .ok (.aload_n 0, 1) := by decide +kernel
theorem dX7_isCaller_43 : decode cX7_isCaller 43 = .ok (.getfield 25, 3) := by decide +kernel
theorem dX7_isCaller_46 : decode cX7_isCaller 46 = .ok (.iconst 2, 1) := by decide +kernel
theorem dX7_isCaller_47 : decode cX7_isCaller 47 = .ok (.iaload, 1) := by decide +kernel
theorem dX7_isCaller_48 : decode cX7_isCaller 48 = .ok (.iconst 1, 1) := by decide +kernel
theorem dX7_isCaller_49 : decode cX7_isCaller 49 = .ok (.isub, 1) := by decide +kernel
theorem dX7_isCaller_50 : decode cX7_isCaller 50 = .ok (.invokevirtual 102, 3) := by decide +kernel
theorem dX7_isCaller_53 : decode cX7_isCaller 53 = .ok (.ifCond .ne 5, 3) := by decide +kernel
theorem dX7_isCaller_56 : decode cX7_isCaller 56 = .ok (.iconst 0, 1) := by decide +kernel
theorem dX7_isCaller_57 : decode cX7_isCaller 57 = .ok (.ireturn, 1) := by decide +kernel
theorem dX7_isCaller_58 : decode cX7_isCaller 58 = .ok (.aload_n 0, 1) := by decide +kernel
theorem dX7_isCaller_59 : decode cX7_isCaller 59 = .ok (.getfield 25, 3) := by decide +kernel
theorem dX7_isCaller_62 : decode cX7_isCaller 62 = .ok (.bipush 41, 2) := by decide +kernel
theorem dX7_isCaller_64 : decode cX7_isCaller 64 = .ok (.iload_n 1, 1) := by decide +kernel
theorem dX7_isCaller_65 : decode cX7_isCaller 65 = .ok (.iadd, 1) := by decide +kernel
theorem dX7_isCaller_66 : decode cX7_isCaller 66 = .ok (.aload_n 0, 1) := by decide +kernel
theorem dX7_isCaller_67 : decode cX7_isCaller 67 = .ok (.getfield 84, 3) := by decide +kernel
theorem dX7_isCaller_70 : decode cX7_isCaller 70 = .ok (.iastore, 1) := by decide +kernel
theorem dX7_isCaller_71 : decode cX7_isCaller 71 = .ok (.aload_n 0, 1) := by decide +kernel
theorem dX7_isCaller_72 : decode cX7_isCaller 72 = .ok (.bipush 44, 2) := by decide +kernel
theorem dX7_isCaller_74 : decode cX7_isCaller 74 = .ok (.invokevirtual 99, 3) := by decide +kernel
theorem dX7_isCaller_77 : decode cX7_isCaller 77 = .ok (.ifCond .eq 13, 3) := by decide +kernel
theorem dX7_isCaller_80 : decode cX7_isCaller 80 = .ok (.aload_n 0, 1) := by decide +kernel
theorem dX7_isCaller_81 : decode cX7_isCaller 81 = .ok (.iconst 0, 1) := by decide +kernel
theorem dX7_isCaller_82 : decode cX7_isCaller 82 = .ok (.bipush 20, 2) := by decide +kernel
theorem dX7_isCaller_84 : decode cX7_isCaller 84 = .ok (.invokevirtual 102, 3) := by decide +kernel
theorem dX7_isCaller_87 : decode cX7_isCaller 87 = .ok (.ifCond .ne 5, 3) := by decide +kernel
theorem dX7_isCaller_90 : decode cX7_isCaller 90 = .ok (.iconst 0, 1) := by decide +kernel
theorem dX7_isCaller_91 : decode cX7_isCaller 91 = .ok (.ireturn, 1) := by decide +kernel
theorem dX7_isCaller_92 : decode cX7_isCaller 92 = .ok (.aload_n 0, 1) := by decide +kernel
theorem dX7_isCaller_93 : decode cX7_isCaller 93 = .ok (.getfield 25, 3) := by decide +kernel
theorem dX7_isCaller_96 : decode cX7_isCaller 96 = .ok (.bipush 35, 2) := by decide +kernel
theorem dX7_isCaller_98 : decode cX7_isCaller 98 = .ok (.iload_n 1, 1) := by decide +kernel
theorem dX7_isCaller_99 : decode cX7_isCaller 99 = .ok (.iadd, 1) := by decide +kernel
theorem dX7_isCaller_100 : decode cX7_isCaller 100 = .ok (.aload_n 0, 1) := by decide +kernel
theorem dX7_isCaller_101 : decode cX7_isCaller 101 = .ok (.getfield 84, 3) := by decide +kernel
theorem dX7_isCaller_104 : decode cX7_isCaller 104 = .ok (.iastore, 1) := by decide +kernel
theorem dX7_isCaller_105 : decode cX7_isCaller 105 = .ok (.aload_n 0, 1) := by decide +kernel
theorem dX7_isCaller_106 : decode cX7_isCaller 106 = .ok (.getfield 25, 3) := by decide +kernel
theorem dX7_isCaller_109 : decode cX7_isCaller 109 = .ok (.iconst 3, 1) := by decide +kernel
theorem dX7_isCaller_110 : decode cX7_isCaller 110 = .ok (.dup2, 1) := by decide +kernel
theorem dX7_isCaller_111 : decode cX7_isCaller 111 = .ok (.iaload, 1) := by decide +kernel
theorem dX7_isCaller_112 : decode cX7_isCaller 112 = .ok (.iconst 1, 1) := by decide +kernel
theorem dX7_isCaller_113 : decode cX7_isCaller 113 = .ok (.iadd, 1) := by decide +kernel
theorem dX7_isCaller_114 : decode cX7_isCaller 114 = .ok (.iastore, 1) := by decide +kernel
theorem dX7_isCaller_115 : decode cX7_isCaller 115 = .ok (.aload_n 0, 1) := by decide +kernel
theorem dX7_isCaller_116 : decode cX7_isCaller 116 = .ok (.bipush 59, 2) := by decide +kernel
theorem dX7_isCaller_118 : decode cX7_isCaller 118 = .ok (.invokevirtual 99, 3) := by decide +kernel
theorem dX7_isCaller_121 : decode cX7_isCaller 121 = .ok (.ireturn, 1) := by decide +kernel
theorem dX7_isRead_0 : decode cX7_isRead 0 = .ok (.aload_n 0, 1) := by decide +kernel
theorem dX7_isRead_1 : decode cX7_isRead 1 = .ok (.iconst 0, 1) := by decide +kernel
theorem dX7_isRead_2 : decode cX7_isRead 2 = .ok (.putfield 78, 3) := by decide +kernel
theorem dX7_isRead_5 : decode cX7_isRead 5 = .ok (.iconst 0, 1) := by decide +kernel
theorem dX7_isRead_6 : decode cX7_isRead 6 = .ok (.istore_n 1, 1) := by decide +kernel
theorem dX7_isRead_7 : decode cX7_isRead 7 = .ok (.iload_n 1, 1) := by decide +kernel
theorem dX7_isRead_8 : decode cX7_isRead 8 = .ok (.bipush 53, 2) := by decide +kernel
theorem dX7_isRead_10 : decode cX7_isRead 10 = .ok (.if_icmp .ge 16, 3) := by decide +kernel
theorem dX7_isRead_13 : decode cX7_isRead 13 = .ok (.aload_n 0, 1) := by decide +kernel
theorem dX7_isRead_14 : decode cX7_isRead 14 = .ok (.getfield 25, 3) := by decide +kernel
theorem dX7_isRead_17 : decode cX7_isRead 17 = .ok (.iload_n 1, 1) := by decide +kernel
theorem dX7_isRead_18 : decode cX7_isRead 18 = .ok (.iconst 0, 1) := by decide +kernel
theorem dX7_isRead_19 : decode cX7_isRead 19 = .ok (.iastore, 1) := by decide +kernel
theorem dX7_isRead_20 : decode cX7_isRead 20 = .ok (.iinc 1 1, 3) := by decide +kernel
theorem dX7_isRead_23 : decode cX7_isRead 23 = .ok (.goto (-16), 3) := by decide +kernel
theorem dX7_isRead_26 : decode cX7_isRead 26 = .ok (.aload_n 0, 1) := by decide +kernel
theorem dX7_isRead_27 : decode cX7_isRead 27 = .ok (.invokevirtual 109, 3) := by decide +kernel
theorem dX7_isRead_30 : decode cX7_isRead 30 = .ok (.ifCond .ne 5, 3) := by decide +kernel
theorem dX7_isRead_33 : decode cX7_isRead 33 = .ok (.iconst 0, 1) := by decide +kernel
theorem dX7_isRead_34 : decode cX7_isRead 34 = .ok (.ireturn, 1) := by decide +kernel
theorem dX7_isRead_35 : decode cX7_isRead 35 = .ok (.aload_n 0, 1) := by decide +kernel
theorem dX7_isRead_36 : decode cX7_isRead 36 = .ok (.invokevirtual 93, 3) := by decide +kernel
theorem dX7_isRead_39 : decode cX7_isRead 39 = .ok (.aload_n 0, 1) := by decide +kernel
theorem dX7_isRead_40 : decode cX7_isRead 40 = .ok (.getfield 87, 3) := by decide +kernel
theorem dX7_isRead_43 : decode cX7_isRead 43 = .ok (.bipush (-2), 2) := by decide +kernel
theorem dX7_isRead_45 : decode cX7_isRead 45 = .ok (.if_icmp .ne 12, 3) := by decide +kernel
theorem dX7_isRead_48 : decode cX7_isRead 48 = .ok (.aload_n 0, 1) := by decide +kernel
theorem dX7_isRead_49 : decode cX7_isRead 49 = .ok (.getfield 25, 3) := by decide +kernel
theorem dX7_isRead_52 : decode cX7_isRead 52 = .ok (.iconst 2, 1) := by decide +kernel
theorem dX7_isRead_53 : decode cX7_isRead 53 = .ok (.iaload, 1) := by decide +kernel
theorem dX7_isRead_54 : decode cX7_isRead 54 = .ok (.ifCond .ne 96, 3) := by decide +kernel
theorem dX7_isRead_57 : decode cX7_isRead 57 = .ok (.aload_n 0, 1) := by decide +kernel
theorem dX7_isRead_58 : decode cX7_isRead 58 = .ok (.getfield 25, 3) := by decide +kernel
theorem dX7_isRead_61 : decode cX7_isRead 61 = .ok (.iconst 2, 1) := by decide +kernel
theorem dX7_isRead_62 : decode cX7_isRead 62 = .ok (.iaload, 1) := by decide +kernel
theorem dX7_isRead_63 : decode cX7_isRead 63 = .ok (.ifCond .le 17, 3) := by decide +kernel
theorem dX7_isRead_66 : decode cX7_isRead 66 = .ok (.aload_n 0, 1) := by decide +kernel
theorem dX7_isRead_67 : decode cX7_isRead 67 = .ok (.getfield 87, 3) := by decide +kernel
theorem dX7_isRead_70 : decode cX7_isRead 70 = .ok (.invokestatic 106, 3) := by decide +kernel
theorem dX7_isRead_73 : decode cX7_isRead 73 = .ok (.ifCond .le 7, 3) := by decide +kernel
theorem dX7_isRead_76 : decode cX7_isRead 76 = .ok (.iconst 1, 1) := by decide +kernel
theorem dX7_isRead_77 : decode cX7_isRead 77 = .ok (.goto 4, 3) := by decide +kernel
theorem dX7_isRead_80 : decode cX7_isRead 80 = .ok (.iconst 0, 1) := by decide +kernel
theorem dX7_isRead_81 : decode cX7_isRead 81 = .ok (.istore_n 1, 1) := by decide +kernel
theorem dX7_isRead_82 : decode cX7_isRead 82 = .ok (.aload_n 0, 1) := by decide +kernel
theorem dX7_isRead_83 : decode cX7_isRead 83 = .ok (.getfield 87, 3) := by decide +kernel
theorem dX7_isRead_86 : decode cX7_isRead 86 = .ok (.bipush 100, 2) := by decide +kernel
theorem dX7_isRead_88 : decode cX7_isRead 88 = .ok (.if_icmp .ne 16, 3) := by decide +kernel
theorem dX7_isRead_91 : decode cX7_isRead 91 = .ok (.aload_n 0, 1) := by decide +kernel
theorem dX7_isRead_92 : decode cX7_isRead 92 = .ok (.getfield 25, 3) := by decide +kernel
theorem dX7_isRead_95 : decode cX7_isRead 95 = .ok (.iconst 3, 1) := by decide +kernel
theorem dX7_isRead_96 : decode cX7_isRead 96 = .ok (.iaload, 1) := by decide +kernel
theorem dX7_isRead_97 : decode cX7_isRead 97 = .ok (.ifCond .ne 7, 3) := by decide +kernel
theorem dX7_isRead_100 : decode cX7_isRead 100 = .ok (.iconst 1, 1) := by decide +kernel
theorem dX7_isRead_101 : decode cX7_isRead 101 = .ok (.goto 4, 3) := by decide +kernel
theorem dX7_isRead_104 : decode cX7_isRead 104 = .ok (.iconst 0, 1) := by decide +kernel
theorem dX7_isRead_105 : decode cX7_isRead 105 = .ok (.istore_n 2, 1) := by decide +kernel
theorem dX7_isRead_106 : decode cX7_isRead 106 = .ok (.iload_n 1, 1) := by decide +kernel
theorem dX7_isRead_107 : decode cX7_isRead 107 = .ok (.ifCond .ne 13, 3) := by decide +kernel
theorem dX7_isRead_110 : decode cX7_isRead 110 = .ok (.iload_n 2, 1) := by decide +kernel
theorem dX7_isRead_111 : decode cX7_isRead 111 = .ok (.ifCond .ne 9, 3) := by decide +kernel
theorem dX7_isRead_114 : decode cX7_isRead 114 = .ok (.aload_n 0, 1) := by decide +kernel
theorem dX7_isRead_115 : decode cX7_isRead 115 = .ok (.iconst 1, 1) := by decide +kernel
theorem dX7_isRead_116 : decode cX7_isRead 116 = .ok (.invokevirtual 96, 3) := by decide +kernel
theorem dX7_isRead_119 : decode cX7_isRead 119 = .ok (.ireturn, 1) := by decide +kernel
theorem dX7_isRead_120 : decode cX7_isRead 120 = .ok (.iload_n 1, 1) := by decide +kernel
theorem dX7_isRead_121 : decode cX7_isRead 121 = .ok (.ifCond .eq 13, 3) := by decide +kernel
theorem dX7_isRead_124 : decode cX7_isRead 124 = .ok (.aload_n 0, 1) := by decide +kernel
theorem dX7_isRead_125 : decode cX7_isRead 125 = .ok (.invokevirtual 113, 3) := by decide +kernel
theorem dX7_isRead_128 : decode cX7_isRead 128 = .ok (.ifCond .ne 15, 3) := by decide +kernel
theorem dX7_isRead_131 : decode cX7_isRead 131 = .ok (.goto 10, 3) := by decide +kernel
theorem dX7_isRead_134 : decode cX7_isRead 134 = .ok (.aload_n 0, 1) := by decide +kernel
theorem dX7_isRead_135 : decode cX7_isRead 135 = .ok (.invokevirtual 116, 3) := by decide +kernel
theorem dX7_isRead_138 : decode cX7_isRead 138 = .ok (.ifCond .ne 5, 3) := by decide +kernel
theorem dX7_isRead_141 : decode cX7_isRead 141 = .ok (.iconst 0, 1) := by decide +kernel
theorem dX7_isRead_142 : decode cX7_isRead 142 = .ok (.ireturn, 1) := by decide +kernel
theorem dX7_isRead_143 : decode cX7_isRead 143 = .ok (.aload_n 0, 1) := by decide +kernel
theorem dX7_isRead_144 : decode cX7_isRead 144 = .ok (.invokevirtual 93, 3) := by decide +kernel
theorem dX7_isRead_147 : decode cX7_isRead 147 = .ok (.goto (-108), 3) := by decide +kernel
theorem dX7_isRead_150 : decode cX7_isRead 150 = .ok (.iconst 1, 1) := by decide +kernel
theorem dX7_isRead_151 : decode cX7_isRead 151 = .ok (.ireturn, 1) := by decide +kernel
theorem dX7_street_0 : decode cX7_street 0 = .ok (.aload_n 0, 1) := by decide +kernel
theorem dX7_street_1 : decode cX7_street 1 = .ok (.invokevirtual 119, 3) := by decide +kernel
theorem dX7_street_4 : decode cX7_street 4 = .ok (.istore_n 1, 1) := by decide +kernel
theorem dX7_street_5 : decode cX7_street 5 = .ok (.aload_n 0, 1) := by decide +kernel
theorem dX7_street_6 : decode cX7_street 6 = .ok (.iconst 0, 1) := by decide +kernel
theorem dX7_street_7 : decode cX7_street 7 = .ok (.putfield 74, 3) := by decide +kernel
theorem dX7_street_10 : decode cX7_street 10 = .ok (.iload_n 1, 1) := by decide +kernel
theorem dX7_street_11 : decode cX7_street 11 = .ok (.ifCond .ne 19, 3) := by decide +kernel
theorem dX7_street_14 : decode cX7_street 14 = .ok (.aload_n 0, 1) := by decide +kernel
theorem dX7_street_15 : decode cX7_street 15 = .ok (.aload_n 0, 1) := by decide +kernel
theorem dX7_street_16 : decode cX7_street 16 = .ok (.getfield 90, 3) := by decide +kernel
theorem dX7_street_19 : decode cX7_street 19 = .ok (.putfield 122, 3) := by decide +kernel
theorem dX7_street_22 : decode cX7_street 22 = .ok (.ldc 125, 2) := by decide +kernel
theorem dX7_street_24 : decode cX7_street 24 = .ok (.aload_n 0, 1) := by decide +kernel
theorem dX7_street_25 : decode cX7_street 25 = .ok (.getfield 81, 3) := by decide +kernel
theorem dX7_street_28 : decode cX7_street 28 = .ok (.isub, 1) := by decide +kernel
theorem dX7_street_29 : decode cX7_street 29 = .ok (.ireturn, 1) := by decide +kernel
theorem dX7_street_30 : decode cX7_street 30 = .ok (.aload_n 0, 1) := by decide +kernel
theorem dX7_street_31 : decode cX7_street 31 = .ok (.getfield 25, 3) := by decide +kernel
theorem dX7_street_34 : decode cX7_street 34 = .ok (.iconst 0, 1) := by decide +kernel
theorem dX7_street_35 : decode cX7_street 35 = .ok (.aload_n 0, 1) := by decide +kernel
theorem dX7_street_36 : decode cX7_street 36 = .ok (.getfield 22, 3) := by decide +kernel
theorem dX7_street_39 : decode cX7_street 39 = .ok (.iconst 0, 1) := by decide +kernel
theorem dX7_street_40 : decode cX7_street 40 = .ok (.invokestatic 126, 3) := by decide +kernel
theorem dX7_street_43 : decode cX7_street 43 = .ok (.aload_n 0, 1) := by decide +kernel
theorem dX7_street_44 : decode cX7_street 44 = .ok (.iconst 0, 1) := by decide +kernel
theorem dX7_street_45 : decode cX7_street 45 = .ok (.putfield 130, 3) := by decide +kernel
theorem dX7_street_48 : decode cX7_street 48 = .ok (.aload_n 0, 1) := by decide +kernel
theorem dX7_street_49 : decode cX7_street 49 = .ok (.getfield 22, 3) := by decide +kernel
theorem dX7_street_52 : decode cX7_street 52 = .ok (.iconst 3, 1) := by decide +kernel
theorem dX7_street_53 : decode cX7_street 53 = .ok (.iaload, 1) := by decide +kernel
theorem dX7_street_54 : decode cX7_street 54 = .ok (.ireturn, 1) := by decide +kernel
theorem dX7_fault_0 : decode cX7_fault 0 = .ok (.aload_n 0, 1) := by decide +kernel
theorem dX7_fault_1 : decode cX7_fault 1 = .ok (.getfield 122, 3) := by decide +kernel
theorem dX7_fault_4 : decode cX7_fault 4 = .ok (.ireturn, 1) := by decide +kernel
theorem dX7_lay_0 : decode cX7_lay 0 = .ok (.iconst 0, 1) := by decide +kernel
theorem dX7_lay_1 : decode cX7_lay 1 = .ok (.istore 4, 2) := by decide +kernel
theorem dX7_lay_3 : decode cX7_lay 3 = .ok (.iload 4, 2) := by decide +kernel
theorem dX7_lay_5 : decode cX7_lay 5 = .ok (.bipush 53, 2) := by decide +kernel
theorem dX7_lay_7 : decode cX7_lay 7 = .ok (.if_icmp .ge 21, 3) := by decide +kernel
theorem dX7_lay_10 : decode cX7_lay 10 = .ok (.aload_n 2, 1) := by decide +kernel
theorem dX7_lay_11 : decode cX7_lay 11 = .ok (.iload_n 3, 1) := by decide +kernel
theorem dX7_lay_12 : decode cX7_lay 12 = .ok (.iload 4, 2) := by decide +kernel
theorem dX7_lay_14 : decode cX7_lay 14 = .ok (.iadd, 1) := by decide +kernel
theorem dX7_lay_15 : decode cX7_lay 15 = .ok (.aload_n 0, 1) := by decide +kernel
theorem dX7_lay_16 : decode cX7_lay 16 = .ok (.iload_n 1, 1) := by decide +kernel
theorem dX7_lay_17 : decode cX7_lay 17 = .ok (.iload 4, 2) := by decide +kernel
theorem dX7_lay_19 : decode cX7_lay 19 = .ok (.iadd, 1) := by decide +kernel
theorem dX7_lay_20 : decode cX7_lay 20 = .ok (.iaload, 1) := by decide +kernel
theorem dX7_lay_21 : decode cX7_lay 21 = .ok (.iastore, 1) := by decide +kernel
theorem dX7_lay_22 : decode cX7_lay 22 = .ok (.iinc 4 1, 3) := by decide +kernel
theorem dX7_lay_25 : decode cX7_lay 25 = .ok (.goto (-22), 3) := by decide +kernel
theorem dX7_lay_28 : decode cX7_lay 28 = .ok (.return_, 1) := by decide +kernel
theorem dX7_isStreet_0 : decode cX7_isStreet 0 = .ok (.aload_n 0, 1) := by decide +kernel
theorem dX7_isStreet_1 : decode cX7_isStreet 1 = .ok (.getfield 22, 3) := by decide +kernel
theorem dX7_isStreet_4 : decode cX7_isStreet 4 = .ok (.iconst 2, 1) := by decide +kernel
theorem dX7_isStreet_5 : decode cX7_isStreet 5 = .ok (.iaload, 1) := by decide +kernel
theorem dX7_isStreet_6 : decode cX7_isStreet 6 = .ok (.ifCond .le 7, 3) := by decide +kernel
theorem dX7_isStreet_9 : decode cX7_isStreet 9 = .ok (.iconst 1, 1) := by decide +kernel
theorem dX7_isStreet_10 : decode cX7_isStreet 10 = .ok (.goto 4, 3) := by decide +kernel
theorem dX7_isStreet_13 : decode cX7_isStreet 13 = .ok (.iconst 0, 1) := by decide +kernel
theorem dX7_isStreet_14 : decode cX7_isStreet 14 = .ok (.ireturn, 1) := by decide +kernel
theorem dX7_isDoorAt_0 : decode cX7_isDoorAt 0 = .ok (.iload_n 1, 1) := by decide +kernel
theorem dX7_isDoorAt_1 : decode cX7_isDoorAt 1 = .ok (.iconst 0, 1) := by decide +kernel
theorem dX7_isDoorAt_2 : decode cX7_isDoorAt 2 = .ok (.aload_n 0, 1) := by decide +kernel
theorem dX7_isDoorAt_3 : decode cX7_isDoorAt 3 = .ok (.getfield 22, 3) := by decide +kernel
theorem dX7_isDoorAt_6 : decode cX7_isDoorAt 6 = .ok (.iconst 2, 1) := by decide +kernel
theorem dX7_isDoorAt_7 : decode cX7_isDoorAt 7 = .ok (.iaload, 1) := by decide +kernel
theorem dX7_isDoorAt_8 : decode cX7_isDoorAt 8 = .ok (.iconst 1, 1) := by decide +kernel
theorem dX7_isDoorAt_9 : decode cX7_isDoorAt 9 = .ok (.isub, 1) := by decide +kernel
theorem dX7_isDoorAt_10 : decode cX7_isDoorAt 10 = .ok (.invokestatic 55, 3) := by decide +kernel
theorem dX7_isDoorAt_13 : decode cX7_isDoorAt 13 = .ok (.ireturn, 1) := by decide +kernel
theorem dX7_isOne_0 : decode cX7_isOne 0 = .ok (.iload_n 1, 1) := by decide +kernel
theorem dX7_isOne_1 : decode cX7_isOne 1 = .ok (.iconst 0, 1) := by decide +kernel
theorem dX7_isOne_2 : decode cX7_isOne 2 = .ok (.aload_n 0, 1) := by decide +kernel
theorem dX7_isOne_3 : decode cX7_isOne 3 = .ok (.getfield 22, 3) := by decide +kernel
theorem dX7_isOne_6 : decode cX7_isOne 6 = .ok (.iconst 3, 1) := by decide +kernel
theorem dX7_isOne_7 : decode cX7_isOne 7 = .ok (.iaload, 1) := by decide +kernel
theorem dX7_isOne_8 : decode cX7_isOne 8 = .ok (.iconst 1, 1) := by decide +kernel
theorem dX7_isOne_9 : decode cX7_isOne 9 = .ok (.isub, 1) := by decide +kernel
theorem dX7_isOne_10 : decode cX7_isOne 10 = .ok (.invokestatic 55, 3) := by decide +kernel
theorem dX7_isOne_13 : decode cX7_isOne 13 = .ok (.ireturn, 1) := by decide +kernel
theorem dX7_isHeard_0 : decode cX7_isHeard 0 = .ok (.iload_n 1, 1) := by decide +kernel
theorem dX7_isHeard_1 : decode cX7_isHeard 1 = .ok (.ifCond .le 19, 3) := by decide +kernel
theorem dX7_isHeard_4 : decode cX7_isHeard 4 = .ok (.aload_n 0, 1) := by decide +kernel
theorem dX7_isHeard_5 : decode cX7_isHeard 5 = .ok (.bipush 23, 2) := by decide +kernel
theorem dX7_isHeard_7 : decode cX7_isHeard 7 = .ok (.iload_n 1, 1) := by decide +kernel
theorem dX7_isHeard_8 : decode cX7_isHeard 8 = .ok (.iadd, 1) := by decide +kernel
theorem dX7_isHeard_9 : decode cX7_isHeard 9 = .ok (.iconst 1, 1) := by decide +kernel
theorem dX7_isHeard_10 : decode cX7_isHeard 10 = .ok (.isub, 1) := by decide +kernel
theorem dX7_isHeard_11 : decode cX7_isHeard 11 = .ok (.iaload, 1) := by decide +kernel
theorem dX7_isHeard_12 : decode cX7_isHeard 12 = .ok (.iconst 1, 1) := by decide +kernel
theorem dX7_isHeard_13 : decode cX7_isHeard 13 = .ok (.if_icmp .ne 7, 3) := by decide +kernel
theorem dX7_isHeard_16 : decode cX7_isHeard 16 = .ok (.iconst 1, 1) := by decide +kernel
theorem dX7_isHeard_17 : decode cX7_isHeard 17 = .ok (.goto 4, 3) := by decide +kernel
theorem dX7_isHeard_20 : decode cX7_isHeard 20 = .ok (.iconst 0, 1) := by decide +kernel
theorem dX7_isHeard_21 : decode cX7_isHeard 21 = .ok (.istore_n 2, 1) := by decide +kernel
theorem dX7_isHeard_22 : decode cX7_isHeard 22 = .ok (.iload_n 1, 1) := by decide +kernel
theorem dX7_isHeard_23 : decode cX7_isHeard 23 = .ok (.iconst 1, 1) := by decide +kernel
theorem dX7_isHeard_24 : decode cX7_isHeard 24 = .ok (.iadd, 1) := by decide +kernel
theorem dX7_isHeard_25 : decode cX7_isHeard 25 = .ok (.aload_n 0, 1) := by decide +kernel
theorem dX7_isHeard_26 : decode cX7_isHeard 26 = .ok (.iconst 2, 1) := by decide +kernel
theorem dX7_isHeard_27 : decode cX7_isHeard 27 = .ok (.iaload, 1) := by decide +kernel
theorem dX7_isHeard_28 : decode cX7_isHeard 28 = .ok (.if_icmp .ge 19, 3) := by decide +kernel
theorem dX7_isHeard_31 : decode cX7_isHeard 31 = .ok (.aload_n 0, 1) := by decide +kernel
theorem dX7_isHeard_32 : decode cX7_isHeard 32 = .ok (.bipush 23, 2) := by decide +kernel
theorem dX7_isHeard_34 : decode cX7_isHeard 34 = .ok (.iload_n 1, 1) := by decide +kernel
theorem dX7_isHeard_35 : decode cX7_isHeard 35 = .ok (.iadd, 1) := by decide +kernel
theorem dX7_isHeard_36 : decode cX7_isHeard 36 = .ok (.iconst 1, 1) := by decide +kernel
theorem dX7_isHeard_37 : decode cX7_isHeard 37 = .ok (.iadd, 1) := by decide +kernel
theorem dX7_isHeard_38 : decode cX7_isHeard 38 = .ok (.iaload, 1) := by decide +kernel
theorem dX7_isHeard_39 : decode cX7_isHeard 39 = .ok (.iconst 1, 1) := by decide +kernel
theorem dX7_isHeard_40 : decode cX7_isHeard 40 = .ok (.if_icmp .ne 7, 3) := by decide +kernel
theorem dX7_isHeard_43 : decode cX7_isHeard 43 = .ok (.iconst 1, 1) := by decide +kernel
theorem dX7_isHeard_44 : decode cX7_isHeard 44 = .ok (.goto 4, 3) := by decide +kernel
theorem dX7_isHeard_47 : decode cX7_isHeard 47 = .ok (.iconst 0, 1) := by decide +kernel
theorem dX7_isHeard_48 : decode cX7_isHeard 48 = .ok (.istore_n 3, 1) := by decide +kernel
theorem dX7_isHeard_49 : decode cX7_isHeard 49 = .ok (.aload_n 0, 1) := by decide +kernel
theorem dX7_isHeard_50 : decode cX7_isHeard 50 = .ok (.bipush 23, 2) := by decide +kernel
theorem dX7_isHeard_52 : decode cX7_isHeard 52 = .ok (.iload_n 1, 1) := by decide +kernel
theorem dX7_isHeard_53 : decode cX7_isHeard 53 = .ok (.iadd, 1) := by decide +kernel
theorem dX7_isHeard_54 : decode cX7_isHeard 54 = .ok (.iaload, 1) := by decide +kernel
theorem dX7_isHeard_55 : decode cX7_isHeard 55 = .ok (.iconst 1, 1) := by decide +kernel
theorem dX7_isHeard_56 : decode cX7_isHeard 56 = .ok (.if_icmp .eq 11, 3) := by decide +kernel
theorem dX7_isHeard_59 : decode cX7_isHeard 59 = .ok (.iload_n 2, 1) := by decide +kernel
theorem dX7_isHeard_60 : decode cX7_isHeard 60 = .ok (.ifCond .ne 7, 3) := by decide +kernel
theorem dX7_isHeard_63 : decode cX7_isHeard 63 = .ok (.iload_n 3, 1) := by decide +kernel
theorem dX7_isHeard_64 : decode cX7_isHeard 64 = .ok (.ifCond .eq 7, 3) := by decide +kernel
theorem dX7_isHeard_67 : decode cX7_isHeard 67 = .ok (.iconst 1, 1) := by decide +kernel
theorem dX7_isHeard_68 : decode cX7_isHeard 68 = .ok (.goto 4, 3) := by decide +kernel
theorem dX7_isHeard_71 : decode cX7_isHeard 71 = .ok (.iconst 0, 1) := by decide +kernel
theorem dX7_isHeard_72 : decode cX7_isHeard 72 = .ok (.ireturn, 1) := by decide +kernel
theorem dX7_opensAt_0 : decode cX7_opensAt 0 = .ok (.iload_n 0, 1) := by decide +kernel
theorem dX7_opensAt_1 : decode cX7_opensAt 1 = .ok (.iload_n 1, 1) := by decide +kernel
theorem dX7_opensAt_2 : decode cX7_opensAt 2 = .ok (.iadd, 1) := by decide +kernel
theorem dX7_opensAt_3 : decode cX7_opensAt 3 = .ok (.iload_n 3, 1) := by decide +kernel
theorem dX7_opensAt_4 : decode cX7_opensAt 4 = .ok (.ifCond .eq 7, 3) := by decide +kernel
theorem dX7_opensAt_7 : decode cX7_opensAt 7 = .ok (.iconst 2, 1) := by decide +kernel
theorem dX7_opensAt_8 : decode cX7_opensAt 8 = .ok (.goto 4, 3) := by decide +kernel
theorem dX7_opensAt_11 : decode cX7_opensAt 11 = .ok (.iconst 0, 1) := by decide +kernel
theorem dX7_opensAt_12 : decode cX7_opensAt 12 = .ok (.iadd, 1) := by decide +kernel
theorem dX7_opensAt_13 : decode cX7_opensAt 13 = .ok (.iload_n 2, 1) := by decide +kernel
theorem dX7_opensAt_14 : decode cX7_opensAt 14 = .ok (.isub, 1) := by decide +kernel
theorem dX7_opensAt_15 : decode cX7_opensAt 15 = .ok (.istore 4, 2) := by decide +kernel
theorem dX7_opensAt_17 : decode cX7_opensAt 17 = .ok (.iload 4, 2) := by decide +kernel
theorem dX7_opensAt_19 : decode cX7_opensAt 19 = .ok (.ifCond .ge 7, 3) := by decide +kernel
theorem dX7_opensAt_22 : decode cX7_opensAt 22 = .ok (.iconst 0, 1) := by decide +kernel
theorem dX7_opensAt_23 : decode cX7_opensAt 23 = .ok (.goto 5, 3) := by decide +kernel
theorem dX7_opensAt_26 : decode cX7_opensAt 26 = .ok (.iload 4, 2) := by decide +kernel
theorem dX7_opensAt_28 : decode cX7_opensAt 28 = .ok (.ireturn, 1) := by decide +kernel
theorem dX7_staysAt_0 : decode cX7_staysAt 0 = .ok (.iload_n 1, 1) := by decide +kernel
theorem dX7_staysAt_1 : decode cX7_staysAt 1 = .ok (.iconst 2, 1) := by decide +kernel
theorem dX7_staysAt_2 : decode cX7_staysAt 2 = .ok (.iload_n 3, 1) := by decide +kernel
theorem dX7_staysAt_3 : decode cX7_staysAt 3 = .ok (.imul, 1) := by decide +kernel
theorem dX7_staysAt_4 : decode cX7_staysAt 4 = .ok (.iadd, 1) := by decide +kernel
theorem dX7_staysAt_5 : decode cX7_staysAt 5 = .ok (.istore 5, 2) := by decide +kernel
theorem dX7_staysAt_7 : decode cX7_staysAt 7 = .ok (.iload_n 1, 1) := by decide +kernel
theorem dX7_staysAt_8 : decode cX7_staysAt 8 = .ok (.iconst 3, 1) := by decide +kernel
theorem dX7_staysAt_9 : decode cX7_staysAt 9 = .ok (.if_icmp .le 7, 3) := by decide +kernel
theorem dX7_staysAt_12 : decode cX7_staysAt 12 = .ok (.iconst 3, 1) := by decide +kernel
theorem dX7_staysAt_13 : decode cX7_staysAt 13 = .ok (.goto 4, 3) := by decide +kernel
theorem dX7_staysAt_16 : decode cX7_staysAt 16 = .ok (.iload_n 1, 1) := by decide +kernel
theorem dX7_staysAt_17 : decode cX7_staysAt 17 = .ok (.istore 6, 2) := by decide +kernel
theorem dX7_staysAt_19 : decode cX7_staysAt 19 = .ok (.iload_n 0, 1) := by decide +kernel
theorem dX7_staysAt_20 : decode cX7_staysAt 20 = .ok (.tableswitch 48 1 4 #[32, 35, 40, 45], 32) := by decide +kernel
theorem dX7_staysAt_52 : decode cX7_staysAt 52 = .ok (.iload 5, 2) := by decide +kernel
theorem dX7_staysAt_54 : decode cX7_staysAt 54 = .ok (.ireturn, 1) := by decide +kernel
theorem dX7_staysAt_55 : decode cX7_staysAt 55 = .ok (.iload 5, 2) := by decide +kernel
theorem dX7_staysAt_57 : decode cX7_staysAt 57 = .ok (.iload_n 2, 1) := by decide +kernel
theorem dX7_staysAt_58 : decode cX7_staysAt 58 = .ok (.iadd, 1) := by decide +kernel
theorem dX7_staysAt_59 : decode cX7_staysAt 59 = .ok (.ireturn, 1) := by decide +kernel
theorem dX7_staysAt_60 : decode cX7_staysAt 60 = .ok (.iconst 2, 1) := by decide +kernel
theorem dX7_staysAt_61 : decode cX7_staysAt 61 = .ok (.iload 5, 2) := by decide +kernel
theorem dX7_staysAt_63 : decode cX7_staysAt 63 = .ok (.imul, 1) := by decide +kernel
theorem dX7_staysAt_64 : decode cX7_staysAt 64 = .ok (.ireturn, 1) := by decide +kernel
theorem dX7_staysAt_65 : decode cX7_staysAt 65 = .ok (.iload 6, 2) := by decide +kernel
theorem dX7_staysAt_67 : decode cX7_staysAt 67 = .ok (.ireturn, 1) := by decide +kernel
theorem dX7_staysAt_68 : decode cX7_staysAt 68 = .ok (.iload 4, 2) := by decide +kernel
theorem dX7_staysAt_70 : decode cX7_staysAt 70 = .ok (.ifCond .eq 13, 3) := by decide +kernel
theorem dX7_staysAt_73 : decode cX7_staysAt 73 = .ok (.iload 6, 2) := by decide +kernel
theorem dX7_staysAt_75 : decode cX7_staysAt 75 = .ok (.iconst 1, 1) := by decide +kernel
theorem dX7_staysAt_76 : decode cX7_staysAt 76 = .ok (.if_icmp .le 7, 3) := by decide +kernel
theorem dX7_staysAt_79 : decode cX7_staysAt 79 = .ok (.iconst 1, 1) := by decide +kernel
theorem dX7_staysAt_80 : decode cX7_staysAt 80 = .ok (.goto 5, 3) := by decide +kernel
theorem dX7_staysAt_83 : decode cX7_staysAt 83 = .ok (.iload 6, 2) := by decide +kernel
theorem dX7_staysAt_85 : decode cX7_staysAt 85 = .ok (.ireturn, 1) := by decide +kernel
theorem dX7_opensOf_0 : decode cX7_opensOf 0 = .ok (.aload_n 0, 1) := by decide +kernel
theorem dX7_opensOf_1 : decode cX7_opensOf 1 = .ok (.iconst 5, 1) := by decide +kernel
theorem dX7_opensOf_2 : decode cX7_opensOf 2 = .ok (.iload_n 1, 1) := by decide +kernel
theorem dX7_opensOf_3 : decode cX7_opensOf 3 = .ok (.iadd, 1) := by decide +kernel
theorem dX7_opensOf_4 : decode cX7_opensOf 4 = .ok (.iaload, 1) := by decide +kernel
theorem dX7_opensOf_5 : decode cX7_opensOf 5 = .ok (.aload_n 0, 1) := by decide +kernel
theorem dX7_opensOf_6 : decode cX7_opensOf 6 = .ok (.bipush 11, 2) := by decide +kernel
theorem dX7_opensOf_8 : decode cX7_opensOf 8 = .ok (.iload_n 1, 1) := by decide +kernel
theorem dX7_opensOf_9 : decode cX7_opensOf 9 = .ok (.iadd, 1) := by decide +kernel
theorem dX7_opensOf_10 : decode cX7_opensOf 10 = .ok (.iaload, 1) := by decide +kernel
theorem dX7_opensOf_11 : decode cX7_opensOf 11 = .ok (.aload_n 0, 1) := by decide +kernel
theorem dX7_opensOf_12 : decode cX7_opensOf 12 = .ok (.bipush 17, 2) := by decide +kernel
theorem dX7_opensOf_14 : decode cX7_opensOf 14 = .ok (.iload_n 1, 1) := by decide +kernel
theorem dX7_opensOf_15 : decode cX7_opensOf 15 = .ok (.iadd, 1) := by decide +kernel
theorem dX7_opensOf_16 : decode cX7_opensOf 16 = .ok (.iaload, 1) := by decide +kernel
theorem dX7_opensOf_17 : decode cX7_opensOf 17 = .ok (.aload_n 0, 1) := by decide +kernel
theorem dX7_opensOf_18 : decode cX7_opensOf 18 = .ok (.iload_n 1, 1) := by decide +kernel
theorem dX7_opensOf_19 : decode cX7_opensOf 19 = .ok (.invokestatic 133, 3) := by decide +kernel
theorem dX7_opensOf_22 : decode cX7_opensOf 22 = .ok (.invokestatic 137, 3) := by decide +kernel
theorem dX7_opensOf_25 : decode cX7_opensOf 25 = .ok (.ireturn, 1) := by decide +kernel
theorem dX7_staysOf_0 : decode cX7_staysOf 0 = .ok (.aload_n 0, 1) := by decide +kernel
theorem dX7_staysOf_1 : decode cX7_staysOf 1 = .ok (.bipush 41, 2) := by decide +kernel
theorem dX7_staysOf_3 : decode cX7_staysOf 3 = .ok (.iload_n 1, 1) := by decide +kernel
theorem dX7_staysOf_4 : decode cX7_staysOf 4 = .ok (.iadd, 1) := by decide +kernel
theorem dX7_staysOf_5 : decode cX7_staysOf 5 = .ok (.iaload, 1) := by decide +kernel
theorem dX7_staysOf_6 : decode cX7_staysOf 6 = .ok (.istore_n 2, 1) := by decide +kernel
theorem dX7_staysOf_7 : decode cX7_staysOf 7 = .ok (.aload_n 0, 1) := by decide +kernel
theorem dX7_staysOf_8 : decode cX7_staysOf 8 = .ok (.bipush 29, 2) := by decide +kernel
theorem dX7_staysOf_10 : decode cX7_staysOf 10 = .ok (.iload_n 1, 1) := by decide +kernel
theorem dX7_staysOf_11 : decode cX7_staysOf 11 = .ok (.iadd, 1) := by decide +kernel
theorem dX7_staysOf_12 : decode cX7_staysOf 12 = .ok (.iaload, 1) := by decide +kernel
theorem dX7_staysOf_13 : decode cX7_staysOf 13 = .ok (.aload_n 0, 1) := by decide +kernel
theorem dX7_staysOf_14 : decode cX7_staysOf 14 = .ok (.bipush 35, 2) := by decide +kernel
theorem dX7_staysOf_16 : decode cX7_staysOf 16 = .ok (.iload_n 1, 1) := by decide +kernel
theorem dX7_staysOf_17 : decode cX7_staysOf 17 = .ok (.iadd, 1) := by decide +kernel
theorem dX7_staysOf_18 : decode cX7_staysOf 18 = .ok (.iaload, 1) := by decide +kernel
theorem dX7_staysOf_19 : decode cX7_staysOf 19 = .ok (.aload_n 0, 1) := by decide +kernel
theorem dX7_staysOf_20 : decode cX7_staysOf 20 = .ok (.bipush 11, 2) := by decide +kernel
theorem dX7_staysOf_22 : decode cX7_staysOf 22 = .ok (.iload_n 2, 1) := by decide +kernel
theorem dX7_staysOf_23 : decode cX7_staysOf 23 = .ok (.iadd, 1) := by decide +kernel
theorem dX7_staysOf_24 : decode cX7_staysOf 24 = .ok (.iaload, 1) := by decide +kernel
theorem dX7_staysOf_25 : decode cX7_staysOf 25 = .ok (.aload_n 0, 1) := by decide +kernel
theorem dX7_staysOf_26 : decode cX7_staysOf 26 = .ok (.bipush 17, 2) := by decide +kernel
theorem dX7_staysOf_28 : decode cX7_staysOf 28 = .ok (.iload_n 2, 1) := by decide +kernel
theorem dX7_staysOf_29 : decode cX7_staysOf 29 = .ok (.iadd, 1) := by decide +kernel
theorem dX7_staysOf_30 : decode cX7_staysOf 30 = .ok (.iaload, 1) := by decide +kernel
theorem dX7_staysOf_31 : decode cX7_staysOf 31 = .ok (.aload_n 0, 1) := by decide +kernel
theorem dX7_staysOf_32 : decode cX7_staysOf 32 = .ok (.iload_n 2, 1) := by decide +kernel
theorem dX7_staysOf_33 : decode cX7_staysOf 33 = .ok (.invokestatic 133, 3) := by decide +kernel
theorem dX7_staysOf_36 : decode cX7_staysOf 36 = .ok (.invokestatic 141, 3) := by decide +kernel
theorem dX7_staysOf_39 : decode cX7_staysOf 39 = .ok (.ireturn, 1) := by decide +kernel
theorem dX7_doesMeet_0 : decode cX7_doesMeet 0 = .ok (.aload_n 0, 1) := by decide +kernel
theorem dX7_doesMeet_1 : decode cX7_doesMeet 1 = .ok (.aload_n 0, 1) := by decide +kernel
theorem dX7_doesMeet_2 : decode cX7_doesMeet 2 = .ok (.bipush 41, 2) := by decide +kernel
theorem dX7_doesMeet_4 : decode cX7_doesMeet 4 = .ok (.iload_n 1, 1) := by decide +kernel
theorem dX7_doesMeet_5 : decode cX7_doesMeet 5 = .ok (.iadd, 1) := by decide +kernel
theorem dX7_doesMeet_6 : decode cX7_doesMeet 6 = .ok (.iaload, 1) := by decide +kernel
theorem dX7_doesMeet_7 : decode cX7_doesMeet 7 = .ok (.invokestatic 145, 3) := by decide +kernel
theorem dX7_doesMeet_10 : decode cX7_doesMeet 10 = .ok (.aload_n 0, 1) := by decide +kernel
theorem dX7_doesMeet_11 : decode cX7_doesMeet 11 = .ok (.iload_n 1, 1) := by decide +kernel
theorem dX7_doesMeet_12 : decode cX7_doesMeet 12 = .ok (.invokestatic 149, 3) := by decide +kernel
theorem dX7_doesMeet_15 : decode cX7_doesMeet 15 = .ok (.if_icmp .gt 7, 3) := by decide +kernel
theorem dX7_doesMeet_18 : decode cX7_doesMeet 18 = .ok (.iconst 1, 1) := by decide +kernel
theorem dX7_doesMeet_19 : decode cX7_doesMeet 19 = .ok (.goto 4, 3) := by decide +kernel
theorem dX7_doesMeet_22 : decode cX7_doesMeet 22 = .ok (.iconst 0, 1) := by decide +kernel
theorem dX7_doesMeet_23 : decode cX7_doesMeet 23 = .ok (.ireturn, 1) := by decide +kernel
theorem dX7_meetersOf_0 : decode cX7_meetersOf 0 = .ok (.iconst 0, 1) := by decide +kernel
theorem dX7_meetersOf_1 : decode cX7_meetersOf 1 = .ok (.istore_n 1, 1) := by decide +kernel
theorem dX7_meetersOf_2 : decode cX7_meetersOf 2 = .ok (.iconst 0, 1) := by decide +kernel
theorem dX7_meetersOf_3 : decode cX7_meetersOf 3 = .ok (.istore_n 2, 1) := by decide +kernel
theorem dX7_meetersOf_4 : decode cX7_meetersOf 4 = .ok (.iload_n 2, 1) := by decide +kernel
theorem dX7_meetersOf_5 : decode cX7_meetersOf 5 = .ok (.aload_n 0, 1) := by decide +kernel
theorem dX7_meetersOf_6 : decode cX7_meetersOf 6 = .ok (.iconst 3, 1) := by decide +kernel
theorem dX7_meetersOf_7 : decode cX7_meetersOf 7 = .ok (.iaload, 1) := by decide +kernel
theorem dX7_meetersOf_8 : decode cX7_meetersOf 8 = .ok (.if_icmp .ge 27, 3) := by decide +kernel
theorem dX7_meetersOf_11 : decode cX7_meetersOf 11 = .ok (.iload_n 1, 1) := by decide +kernel
theorem dX7_meetersOf_12 : decode cX7_meetersOf 12 = .ok (.aload_n 0, 1) := by decide +kernel
theorem dX7_meetersOf_13 : decode cX7_meetersOf 13 = .ok (.iload_n 2, 1) := by decide +kernel
theorem dX7_meetersOf_14 : decode cX7_meetersOf 14 = .ok (.invokestatic 152, 3) := by decide +kernel
theorem dX7_meetersOf_17 : decode cX7_meetersOf 17 = .ok (.ifCond .eq 9, 3) := by decide +kernel
theorem dX7_meetersOf_20 : decode cX7_meetersOf 20 = .ok (.iconst 1, 1) := by decide +kernel
theorem dX7_meetersOf_21 : decode cX7_meetersOf 21 = .ok (.iload_n 2, 1) := by decide +kernel
theorem dX7_meetersOf_22 : decode cX7_meetersOf 22 = .ok (.ishl, 1) := by decide +kernel
theorem dX7_meetersOf_23 : decode cX7_meetersOf 23 = .ok (.goto 4, 3) := by decide +kernel
theorem dX7_meetersOf_26 : decode cX7_meetersOf 26 = .ok (.iconst 0, 1) := by decide +kernel
theorem dX7_meetersOf_27 : decode cX7_meetersOf 27 = .ok (.ior, 1) := by decide +kernel
theorem dX7_meetersOf_28 : decode cX7_meetersOf 28 = .ok (.istore_n 1, 1) := by decide +kernel
theorem dX7_meetersOf_29 : decode cX7_meetersOf 29 = .ok (.iinc 2 1, 3) := by decide +kernel
theorem dX7_meetersOf_32 : decode cX7_meetersOf 32 = .ok (.goto (-28), 3) := by decide +kernel
theorem dX7_meetersOf_35 : decode cX7_meetersOf 35 = .ok (.iload_n 1, 1) := by decide +kernel
theorem dX7_meetersOf_36 : decode cX7_meetersOf 36 = .ok (.ireturn, 1) := by decide +kernel
theorem dX7_pass_0 : decode cX7_pass 0 = .ok (.aload_n 0, 1) := by decide +kernel
theorem dX7_pass_1 : decode cX7_pass 1 = .ok (.invokestatic 155, 3) := by decide +kernel
theorem dX7_pass_4 : decode cX7_pass 4 = .ok (.istore_n 1, 1) := by decide +kernel
theorem dX7_pass_5 : decode cX7_pass 5 = .ok (.iconst 0, 1) := by decide +kernel
theorem dX7_pass_6 : decode cX7_pass 6 = .ok (.istore_n 2, 1) := by decide +kernel
theorem dX7_pass_7 : decode cX7_pass 7 = .ok (.iload_n 2, 1) := by decide +kernel
theorem dX7_pass_8 : decode cX7_pass 8 = .ok (.aload_n 0, 1) := by decide +kernel
theorem dX7_pass_9 : decode cX7_pass 9 = .ok (.iconst 3, 1) := by decide +kernel
theorem dX7_pass_10 : decode cX7_pass 10 = .ok (.iaload, 1) := by decide +kernel
theorem dX7_pass_11 : decode cX7_pass 11 = .ok (.if_icmp .ge 48, 3) := by decide +kernel
theorem dX7_pass_14 : decode cX7_pass 14 = .ok (.iload_n 1, 1) := by decide +kernel
theorem dX7_pass_15 : decode cX7_pass 15 = .ok (.iload_n 2, 1) := by decide +kernel
theorem dX7_pass_16 : decode cX7_pass 16 = .ok (.invokestatic 159, 3) := by decide +kernel
theorem dX7_pass_19 : decode cX7_pass 19 = .ok (.ifCond .eq 16, 3) := by decide +kernel
theorem dX7_pass_22 : decode cX7_pass 22 = .ok (.aload_n 0, 1) := by decide +kernel
theorem dX7_pass_23 : decode cX7_pass 23 = .ok (.bipush 47, 2) := by decide +kernel
theorem dX7_pass_25 : decode cX7_pass 25 = .ok (.iload_n 2, 1) := by decide +kernel
theorem dX7_pass_26 : decode cX7_pass 26 = .ok (.iadd, 1) := by decide +kernel
theorem dX7_pass_27 : decode cX7_pass 27 = .ok (.dup2, 1) := by decide +kernel
theorem dX7_pass_28 : decode cX7_pass 28 = .ok (.iaload, 1) := by decide +kernel
theorem dX7_pass_29 : decode cX7_pass 29 = .ok (.iconst 1, 1) := by decide +kernel
theorem dX7_pass_30 : decode cX7_pass 30 = .ok (.iadd, 1) := by decide +kernel
theorem dX7_pass_31 : decode cX7_pass 31 = .ok (.iastore, 1) := by decide +kernel
theorem dX7_pass_32 : decode cX7_pass 32 = .ok (.goto 21, 3) := by decide +kernel
theorem dX7_pass_35 : decode cX7_pass 35 = .ok (.aload_n 0, 1) := by decide +kernel
theorem dX7_pass_36 : decode cX7_pass 36 = .ok (.bipush 41, 2) := by decide +kernel
theorem dX7_pass_38 : decode cX7_pass 38 = .ok (.iload_n 2, 1) := by decide +kernel
theorem dX7_pass_39 : decode cX7_pass 39 = .ok (.iadd, 1) := by decide +kernel
theorem dX7_pass_40 : decode cX7_pass 40 = .ok (.aload_n 0, 1) := by decide +kernel
theorem dX7_pass_41 : decode cX7_pass 41 = .ok (.bipush 41, 2) := by decide +kernel
theorem dX7_pass_43 : decode cX7_pass 43 = .ok (.iload_n 2, 1) := by decide +kernel
theorem dX7_pass_44 : decode cX7_pass 44 = .ok (.iadd, 1) := by decide +kernel
theorem dX7_pass_45 : decode cX7_pass 45 = .ok (.iaload, 1) := by decide +kernel
theorem dX7_pass_46 : decode cX7_pass 46 = .ok (.iconst 1, 1) := by decide +kernel
theorem dX7_pass_47 : decode cX7_pass 47 = .ok (.iadd, 1) := by decide +kernel
theorem dX7_pass_48 : decode cX7_pass 48 = .ok (.aload_n 0, 1) := by decide +kernel
theorem dX7_pass_49 : decode cX7_pass 49 = .ok (.iconst 2, 1) := by decide +kernel
theorem dX7_pass_50 : decode cX7_pass 50 = .ok (.iaload, 1) := by decide +kernel
theorem dX7_pass_51 : decode cX7_pass 51 = .ok (.irem, 1) := by decide +kernel
theorem dX7_pass_52 : decode cX7_pass 52 = .ok (.iastore, 1) := by decide +kernel
theorem dX7_pass_53 : decode cX7_pass 53 = .ok (.iinc 2 1, 3) := by decide +kernel
theorem dX7_pass_56 : decode cX7_pass 56 = .ok (.goto (-49), 3) := by decide +kernel
theorem dX7_pass_59 : decode cX7_pass 59 = .ok (.aload_n 0, 1) := by decide +kernel
theorem dX7_pass_60 : decode cX7_pass 60 = .ok (.iconst 4, 1) := by decide +kernel
theorem dX7_pass_61 : decode cX7_pass 61 = .ok (.dup2, 1) := by decide +kernel
theorem dX7_pass_62 : decode cX7_pass 62 = .ok (.iaload, 1) := by decide +kernel
theorem dX7_pass_63 : decode cX7_pass 63 = .ok (.iconst 1, 1) := by decide +kernel
theorem dX7_pass_64 : decode cX7_pass 64 = .ok (.iadd, 1) := by decide +kernel
theorem dX7_pass_65 : decode cX7_pass 65 = .ok (.iastore, 1) := by decide +kernel
theorem dX7_pass_66 : decode cX7_pass 66 = .ok (.iload_n 1, 1) := by decide +kernel
theorem dX7_pass_67 : decode cX7_pass 67 = .ok (.ireturn, 1) := by decide +kernel
theorem dX7_callersAt_0 : decode cX7_callersAt 0 = .ok (.iconst 0, 1) := by decide +kernel
theorem dX7_callersAt_1 : decode cX7_callersAt 1 = .ok (.istore_n 2, 1) := by decide +kernel
theorem dX7_callersAt_2 : decode cX7_callersAt 2 = .ok (.iconst 0, 1) := by decide +kernel
theorem dX7_callersAt_3 : decode cX7_callersAt 3 = .ok (.istore_n 3, 1) := by decide +kernel
theorem dX7_callersAt_4 : decode cX7_callersAt 4 = .ok (.iload_n 3, 1) := by decide +kernel
theorem dX7_callersAt_5 : decode cX7_callersAt 5 = .ok (.aload_n 0, 1) := by decide +kernel
theorem dX7_callersAt_6 : decode cX7_callersAt 6 = .ok (.getfield 22, 3) := by decide +kernel
theorem dX7_callersAt_9 : decode cX7_callersAt 9 = .ok (.iconst 3, 1) := by decide +kernel
theorem dX7_callersAt_10 : decode cX7_callersAt 10 = .ok (.iaload, 1) := by decide +kernel
theorem dX7_callersAt_11 : decode cX7_callersAt 11 = .ok (.if_icmp .ge 32, 3) := by decide +kernel
theorem dX7_callersAt_14 : decode cX7_callersAt 14 = .ok (.iload_n 2, 1) := by decide +kernel
theorem dX7_callersAt_15 : decode cX7_callersAt 15 = .ok (.aload_n 0, 1) := by decide +kernel
theorem dX7_callersAt_16 : decode cX7_callersAt 16 = .ok (.getfield 22, 3) := by decide +kernel
theorem dX7_callersAt_19 : decode cX7_callersAt 19 = .ok (.bipush 41, 2) := by decide +kernel
theorem dX7_callersAt_21 : decode cX7_callersAt 21 = .ok (.iload_n 3, 1) := by decide +kernel
theorem dX7_callersAt_22 : decode cX7_callersAt 22 = .ok (.iadd, 1) := by decide +kernel
theorem dX7_callersAt_23 : decode cX7_callersAt 23 = .ok (.iaload, 1) := by decide +kernel
theorem dX7_callersAt_24 : decode cX7_callersAt 24 = .ok (.iload_n 1, 1) := by decide +kernel
theorem dX7_callersAt_25 : decode cX7_callersAt 25 = .ok (.if_icmp .ne 9, 3) := by decide +kernel
theorem dX7_callersAt_28 : decode cX7_callersAt 28 = .ok (.iconst 1, 1) := by decide +kernel
theorem dX7_callersAt_29 : decode cX7_callersAt 29 = .ok (.iload_n 3, 1) := by decide +kernel
theorem dX7_callersAt_30 : decode cX7_callersAt 30 = .ok (.ishl, 1) := by decide +kernel
theorem dX7_callersAt_31 : decode cX7_callersAt 31 = .ok (.goto 4, 3) := by decide +kernel
theorem dX7_callersAt_34 : decode cX7_callersAt 34 = .ok (.iconst 0, 1) := by decide +kernel
theorem dX7_callersAt_35 : decode cX7_callersAt 35 = .ok (.ior, 1) := by decide +kernel
theorem dX7_callersAt_36 : decode cX7_callersAt 36 = .ok (.istore_n 2, 1) := by decide +kernel
theorem dX7_callersAt_37 : decode cX7_callersAt 37 = .ok (.iinc 3 1, 3) := by decide +kernel
theorem dX7_callersAt_40 : decode cX7_callersAt 40 = .ok (.goto (-36), 3) := by decide +kernel
theorem dX7_callersAt_43 : decode cX7_callersAt 43 = .ok (.iload_n 2, 1) := by decide +kernel
theorem dX7_callersAt_44 : decode cX7_callersAt 44 = .ok (.ireturn, 1) := by decide +kernel
theorem dX7_secondsUsed_0 : decode cX7_secondsUsed 0 = .ok (.iconst 0, 1) := by decide +kernel
theorem dX7_secondsUsed_1 : decode cX7_secondsUsed 1 = .ok (.istore_n 1, 1) := by decide +kernel
theorem dX7_secondsUsed_2 : decode cX7_secondsUsed 2 = .ok (.iconst 0, 1) := by decide +kernel
theorem dX7_secondsUsed_3 : decode cX7_secondsUsed 3 = .ok (.istore_n 2, 1) := by decide +kernel
theorem dX7_secondsUsed_4 : decode cX7_secondsUsed 4 = .ok (.iload_n 2, 1) := by decide +kernel
theorem dX7_secondsUsed_5 : decode cX7_secondsUsed 5 = .ok (.bipush 6, 2) := by decide +kernel
theorem dX7_secondsUsed_7 : decode cX7_secondsUsed 7 = .ok (.if_icmp .ge 21, 3) := by decide +kernel
theorem dX7_secondsUsed_10 : decode cX7_secondsUsed 10 = .ok (.iload_n 1, 1) := by decide +kernel
theorem dX7_secondsUsed_11 : decode cX7_secondsUsed 11 = .ok (.aload_n 0, 1) := by decide +kernel
theorem dX7_secondsUsed_12 : decode cX7_secondsUsed 12 = .ok (.getfield 22, 3) := by decide +kernel
theorem dX7_secondsUsed_15 : decode cX7_secondsUsed 15 = .ok (.bipush 11, 2) := by decide +kernel
theorem dX7_secondsUsed_17 : decode cX7_secondsUsed 17 = .ok (.iload_n 2, 1) := by decide +kernel
theorem dX7_secondsUsed_18 : decode cX7_secondsUsed 18 = .ok (.iadd, 1) := by decide +kernel
theorem dX7_secondsUsed_19 : decode cX7_secondsUsed 19 = .ok (.iaload, 1) := by decide +kernel
theorem dX7_secondsUsed_20 : decode cX7_secondsUsed 20 = .ok (.iadd, 1) := by decide +kernel
theorem dX7_secondsUsed_21 : decode cX7_secondsUsed 21 = .ok (.istore_n 1, 1) := by decide +kernel
theorem dX7_secondsUsed_22 : decode cX7_secondsUsed 22 = .ok (.iinc 2 1, 3) := by decide +kernel
theorem dX7_secondsUsed_25 : decode cX7_secondsUsed 25 = .ok (.goto (-21), 3) := by decide +kernel
theorem dX7_secondsUsed_28 : decode cX7_secondsUsed 28 = .ok (.iload_n 1, 1) := by decide +kernel
theorem dX7_secondsUsed_29 : decode cX7_secondsUsed 29 = .ok (.ireturn, 1) := by decide +kernel
theorem dX7_soundsUsed_0 : decode cX7_soundsUsed 0 = .ok (.iconst 0, 1) := by decide +kernel
theorem dX7_soundsUsed_1 : decode cX7_soundsUsed 1 = .ok (.istore_n 1, 1) := by decide +kernel
theorem dX7_soundsUsed_2 : decode cX7_soundsUsed 2 = .ok (.iconst 0, 1) := by decide +kernel
theorem dX7_soundsUsed_3 : decode cX7_soundsUsed 3 = .ok (.istore_n 2, 1) := by decide +kernel
theorem dX7_soundsUsed_4 : decode cX7_soundsUsed 4 = .ok (.iload_n 2, 1) := by decide +kernel
theorem dX7_soundsUsed_5 : decode cX7_soundsUsed 5 = .ok (.bipush 6, 2) := by decide +kernel
theorem dX7_soundsUsed_7 : decode cX7_soundsUsed 7 = .ok (.if_icmp .ge 31, 3) := by decide +kernel
theorem dX7_soundsUsed_10 : decode cX7_soundsUsed 10 = .ok (.iload_n 1, 1) := by decide +kernel
theorem dX7_soundsUsed_11 : decode cX7_soundsUsed 11 = .ok (.aload_n 0, 1) := by decide +kernel
theorem dX7_soundsUsed_12 : decode cX7_soundsUsed 12 = .ok (.getfield 22, 3) := by decide +kernel
theorem dX7_soundsUsed_15 : decode cX7_soundsUsed 15 = .ok (.bipush 17, 2) := by decide +kernel
theorem dX7_soundsUsed_17 : decode cX7_soundsUsed 17 = .ok (.iload_n 2, 1) := by decide +kernel
theorem dX7_soundsUsed_18 : decode cX7_soundsUsed 18 = .ok (.iadd, 1) := by decide +kernel
theorem dX7_soundsUsed_19 : decode cX7_soundsUsed 19 = .ok (.iaload, 1) := by decide +kernel
theorem dX7_soundsUsed_20 : decode cX7_soundsUsed 20 = .ok (.aload_n 0, 1) := by decide +kernel
theorem dX7_soundsUsed_21 : decode cX7_soundsUsed 21 = .ok (.getfield 22, 3) := by decide +kernel
theorem dX7_soundsUsed_24 : decode cX7_soundsUsed 24 = .ok (.bipush 23, 2) := by decide +kernel
theorem dX7_soundsUsed_26 : decode cX7_soundsUsed 26 = .ok (.iload_n 2, 1) := by decide +kernel
theorem dX7_soundsUsed_27 : decode cX7_soundsUsed 27 = .ok (.iadd, 1) := by decide +kernel
theorem dX7_soundsUsed_28 : decode cX7_soundsUsed 28 = .ok (.iaload, 1) := by decide +kernel
theorem dX7_soundsUsed_29 : decode cX7_soundsUsed 29 = .ok (.iadd, 1) := by decide +kernel
theorem dX7_soundsUsed_30 : decode cX7_soundsUsed 30 = .ok (.iadd, 1) := by decide +kernel
theorem dX7_soundsUsed_31 : decode cX7_soundsUsed 31 = .ok (.istore_n 1, 1) := by decide +kernel
theorem dX7_soundsUsed_32 : decode cX7_soundsUsed 32 = .ok (.iinc 2 1, 3) := by decide +kernel
theorem dX7_soundsUsed_35 : decode cX7_soundsUsed 35 = .ok (.goto (-31), 3) := by decide +kernel
theorem dX7_soundsUsed_38 : decode cX7_soundsUsed 38 = .ok (.iload_n 1, 1) := by decide +kernel
theorem dX7_soundsUsed_39 : decode cX7_soundsUsed 39 = .ok (.ireturn, 1) := by decide +kernel
theorem dX7_act_0 : decode cX7_act 0 = .ok (.aload_n 0, 1) := by decide +kernel
theorem dX7_act_1 : decode cX7_act 1 = .ok (.getfield 130, 3) := by decide +kernel
theorem dX7_act_4 : decode cX7_act 4 = .ok (.bipush 24, 2) := by decide +kernel
theorem dX7_act_6 : decode cX7_act 6 = .ok (.if_icmp .ne 43, 3) := by decide +kernel
theorem dX7_act_9 : decode cX7_act 9 = .ok (.iconst 0, 1) := by decide +kernel
theorem dX7_act_10 : decode cX7_act 10 = .ok (.istore_n 1, 1) := by decide +kernel
theorem dX7_act_11 : decode cX7_act 11 = .ok (.iload_n 1, 1) := by decide +kernel
theorem dX7_act_12 : decode cX7_act 12 = .ok (.sipush 1219, 3) := by decide +kernel
theorem dX7_act_15 : decode cX7_act 15 = .ok (.if_icmp .ge 24, 3) := by decide +kernel
theorem dX7_act_18 : decode cX7_act 18 = .ok (.aload_n 0, 1) := by decide +kernel
theorem dX7_act_19 : decode cX7_act 19 = .ok (.getfield 38, 3) := by decide +kernel
theorem dX7_act_22 : decode cX7_act 22 = .ok (.iload_n 1, 1) := by decide +kernel
theorem dX7_act_23 : decode cX7_act 23 = .ok (.aload_n 0, 1) := by decide +kernel
theorem dX7_act_24 : decode cX7_act 24 = .ok (.getfield 38, 3) := by decide +kernel
theorem dX7_act_27 : decode cX7_act 27 = .ok (.iload_n 1, 1) := by decide +kernel
theorem dX7_act_28 : decode cX7_act 28 = .ok (.bipush 53, 2) := by decide +kernel
theorem dX7_act_30 : decode cX7_act 30 = .ok (.iadd, 1) := by decide +kernel
theorem dX7_act_31 : decode cX7_act 31 = .ok (.iaload, 1) := by decide +kernel
theorem dX7_act_32 : decode cX7_act 32 = .ok (.iastore, 1) := by decide +kernel
theorem dX7_act_33 : decode cX7_act 33 = .ok (.iinc 1 1, 3) := by decide +kernel
theorem dX7_act_36 : decode cX7_act 36 = .ok (.goto (-25), 3) := by decide +kernel
theorem dX7_act_39 : decode cX7_act 39 = .ok (.aload_n 0, 1) := by decide +kernel
theorem dX7_act_40 : decode cX7_act 40 = .ok (.dup, 1) := by decide +kernel
theorem dX7_act_41 : decode cX7_act 41 = .ok (.getfield 130, 3) := by decide +kernel
theorem dX7_act_44 : decode cX7_act 44 = .ok (.iconst 1, 1) := by decide +kernel
theorem dX7_act_45 : decode cX7_act 45 = .ok (.isub, 1) := by decide +kernel
theorem dX7_act_46 : decode cX7_act 46 = .ok (.putfield 130, 3) := by decide +kernel
theorem dX7_act_49 : decode cX7_act 49 = .ok (.aload_n 0, 1) := by decide +kernel
theorem dX7_act_50 : decode cX7_act 50 = .ok (.getfield 22, 3) := by decide +kernel
theorem dX7_act_53 : decode cX7_act 53 = .ok (.iconst 0, 1) := by decide +kernel
theorem dX7_act_54 : decode cX7_act 54 = .ok (.aload_n 0, 1) := by decide +kernel
theorem dX7_act_55 : decode cX7_act 55 = .ok (.getfield 38, 3) := by decide +kernel
theorem dX7_act_58 : decode cX7_act 58 = .ok (.bipush 53, 2) := by decide +kernel
theorem dX7_act_60 : decode cX7_act 60 = .ok (.aload_n 0, 1) := by decide +kernel
theorem dX7_act_61 : decode cX7_act 61 = .ok (.getfield 130, 3) := by decide +kernel
theorem dX7_act_64 : decode cX7_act 64 = .ok (.imul, 1) := by decide +kernel
theorem dX7_act_65 : decode cX7_act 65 = .ok (.invokestatic 126, 3) := by decide +kernel
theorem dX7_act_68 : decode cX7_act 68 = .ok (.aload_n 0, 1) := by decide +kernel
theorem dX7_act_69 : decode cX7_act 69 = .ok (.dup, 1) := by decide +kernel
theorem dX7_act_70 : decode cX7_act 70 = .ok (.getfield 130, 3) := by decide +kernel
theorem dX7_act_73 : decode cX7_act 73 = .ok (.iconst 1, 1) := by decide +kernel
theorem dX7_act_74 : decode cX7_act 74 = .ok (.iadd, 1) := by decide +kernel
theorem dX7_act_75 : decode cX7_act 75 = .ok (.putfield 130, 3) := by decide +kernel
theorem dX7_act_78 : decode cX7_act 78 = .ok (.return_, 1) := by decide +kernel
theorem dX7_undo_0 : decode cX7_undo 0 = .ok (.aload_n 0, 1) := by decide +kernel
theorem dX7_undo_1 : decode cX7_undo 1 = .ok (.getfield 130, 3) := by decide +kernel
theorem dX7_undo_4 : decode cX7_undo 4 = .ok (.ifCond .ne 6, 3) := by decide +kernel
theorem dX7_undo_7 : decode cX7_undo 7 = .ok (.ldc 162, 2) := by decide +kernel
theorem dX7_undo_9 : decode cX7_undo 9 = .ok (.ireturn, 1) := by decide +kernel
theorem dX7_undo_10 : decode cX7_undo 10 = .ok (.aload_n 0, 1) := by decide +kernel
theorem dX7_undo_11 : decode cX7_undo 11 = .ok (.dup, 1) := by decide +kernel
theorem dX7_undo_12 : decode cX7_undo 12 = .ok (.getfield 130, 3) := by decide +kernel
theorem dX7_undo_15 : decode cX7_undo 15 = .ok (.iconst 1, 1) := by decide +kernel
theorem dX7_undo_16 : decode cX7_undo 16 = .ok (.isub, 1) := by decide +kernel
theorem dX7_undo_17 : decode cX7_undo 17 = .ok (.putfield 130, 3) := by decide +kernel
theorem dX7_undo_20 : decode cX7_undo 20 = .ok (.aload_n 0, 1) := by decide +kernel
theorem dX7_undo_21 : decode cX7_undo 21 = .ok (.getfield 38, 3) := by decide +kernel
theorem dX7_undo_24 : decode cX7_undo 24 = .ok (.bipush 53, 2) := by decide +kernel
theorem dX7_undo_26 : decode cX7_undo 26 = .ok (.aload_n 0, 1) := by decide +kernel
theorem dX7_undo_27 : decode cX7_undo 27 = .ok (.getfield 130, 3) := by decide +kernel
theorem dX7_undo_30 : decode cX7_undo 30 = .ok (.imul, 1) := by decide +kernel
theorem dX7_undo_31 : decode cX7_undo 31 = .ok (.aload_n 0, 1) := by decide +kernel
theorem dX7_undo_32 : decode cX7_undo 32 = .ok (.getfield 22, 3) := by decide +kernel
theorem dX7_undo_35 : decode cX7_undo 35 = .ok (.iconst 0, 1) := by decide +kernel
theorem dX7_undo_36 : decode cX7_undo 36 = .ok (.invokestatic 126, 3) := by decide +kernel
theorem dX7_undo_39 : decode cX7_undo 39 = .ok (.aload_n 0, 1) := by decide +kernel
theorem dX7_undo_40 : decode cX7_undo 40 = .ok (.getfield 130, 3) := by decide +kernel
theorem dX7_undo_43 : decode cX7_undo 43 = .ok (.ireturn, 1) := by decide +kernel
theorem dX7_stretch_0 : decode cX7_stretch 0 = .ok (.aload_n 0, 1) := by decide +kernel
theorem dX7_stretch_1 : decode cX7_stretch 1 = .ok (.iload_n 1, 1) := by decide +kernel
theorem dX7_stretch_2 : decode cX7_stretch 2 = .ok (.invokevirtual 163, 3) := by decide +kernel
theorem dX7_stretch_5 : decode cX7_stretch 5 = .ok (.ifCond .eq 12, 3) := by decide +kernel
theorem dX7_stretch_8 : decode cX7_stretch 8 = .ok (.iload_n 2, 1) := by decide +kernel
theorem dX7_stretch_9 : decode cX7_stretch 9 = .ok (.iconst 0, 1) := by decide +kernel
theorem dX7_stretch_10 : decode cX7_stretch 10 = .ok (.iconst 5, 1) := by decide +kernel
theorem dX7_stretch_11 : decode cX7_stretch 11 = .ok (.invokestatic 55, 3) := by decide +kernel
theorem dX7_stretch_14 : decode cX7_stretch 14 = .ok (.ifCond .ne 6, 3) := by decide +kernel
theorem dX7_stretch_17 : decode cX7_stretch 17 = .ok (.ldc 63, 2) := by decide +kernel
theorem dX7_stretch_19 : decode cX7_stretch 19 = .ok (.ireturn, 1) := by decide +kernel
theorem dX7_stretch_20 : decode cX7_stretch 20 = .ok (.aload_n 0, 1) := by decide +kernel
theorem dX7_stretch_21 : decode cX7_stretch 21 = .ok (.getfield 22, 3) := by decide +kernel
theorem dX7_stretch_24 : decode cX7_stretch 24 = .ok (.bipush 11, 2) := by decide +kernel
theorem dX7_stretch_26 : decode cX7_stretch 26 = .ok (.iload_n 1, 1) := by decide +kernel
theorem dX7_stretch_27 : decode cX7_stretch 27 = .ok (.iadd, 1) := by decide +kernel
theorem dX7_stretch_28 : decode cX7_stretch 28 = .ok (.iaload, 1) := by decide +kernel
theorem dX7_stretch_29 : decode cX7_stretch 29 = .ok (.istore_n 3, 1) := by decide +kernel
theorem dX7_stretch_30 : decode cX7_stretch 30 = .ok (.aload_n 0, 1) := by decide +kernel
theorem dX7_stretch_31 : decode cX7_stretch 31 = .ok (.invokevirtual 166, 3) := by decide +kernel
theorem dX7_stretch_34 : decode cX7_stretch 34 = .ok (.iload_n 3, 1) := by decide +kernel
theorem dX7_stretch_35 : decode cX7_stretch 35 = .ok (.isub, 1) := by decide +kernel
theorem dX7_stretch_36 : decode cX7_stretch 36 = .ok (.iload_n 2, 1) := by decide +kernel
theorem dX7_stretch_37 : decode cX7_stretch 37 = .ok (.iadd, 1) := by decide +kernel
theorem dX7_stretch_38 : decode cX7_stretch 38 = .ok (.aload_n 0, 1) := by decide +kernel
theorem dX7_stretch_39 : decode cX7_stretch 39 = .ok (.getfield 22, 3) := by decide +kernel
theorem dX7_stretch_42 : decode cX7_stretch 42 = .ok (.iconst 0, 1) := by decide +kernel
theorem dX7_stretch_43 : decode cX7_stretch 43 = .ok (.iaload, 1) := by decide +kernel
theorem dX7_stretch_44 : decode cX7_stretch 44 = .ok (.if_icmp .le 6, 3) := by decide +kernel
theorem dX7_stretch_47 : decode cX7_stretch 47 = .ok (.ldc 77, 2) := by decide +kernel
theorem dX7_stretch_49 : decode cX7_stretch 49 = .ok (.ireturn, 1) := by decide +kernel
theorem dX7_stretch_50 : decode cX7_stretch 50 = .ok (.aload_n 0, 1) := by decide +kernel
theorem dX7_stretch_51 : decode cX7_stretch 51 = .ok (.invokevirtual 170, 3) := by decide +kernel
theorem dX7_stretch_54 : decode cX7_stretch 54 = .ok (.aload_n 0, 1) := by decide +kernel
theorem dX7_stretch_55 : decode cX7_stretch 55 = .ok (.getfield 22, 3) := by decide +kernel
theorem dX7_stretch_58 : decode cX7_stretch 58 = .ok (.bipush 11, 2) := by decide +kernel
theorem dX7_stretch_60 : decode cX7_stretch 60 = .ok (.iload_n 1, 1) := by decide +kernel
theorem dX7_stretch_61 : decode cX7_stretch 61 = .ok (.iadd, 1) := by decide +kernel
theorem dX7_stretch_62 : decode cX7_stretch 62 = .ok (.iload_n 2, 1) := by decide +kernel
theorem dX7_stretch_63 : decode cX7_stretch 63 = .ok (.iastore, 1) := by decide +kernel
theorem dX7_stretch_64 : decode cX7_stretch 64 = .ok (.iload_n 3, 1) := by decide +kernel
theorem dX7_stretch_65 : decode cX7_stretch 65 = .ok (.ireturn, 1) := by decide +kernel
theorem dX7_sound_0 : decode cX7_sound 0 = .ok (.aload_n 0, 1) := by decide +kernel
theorem dX7_sound_1 : decode cX7_sound 1 = .ok (.iload_n 1, 1) := by decide +kernel
theorem dX7_sound_2 : decode cX7_sound 2 = .ok (.invokevirtual 163, 3) := by decide +kernel
theorem dX7_sound_5 : decode cX7_sound 5 = .ok (.ifCond .eq 21, 3) := by decide +kernel
theorem dX7_sound_8 : decode cX7_sound 8 = .ok (.iload_n 2, 1) := by decide +kernel
theorem dX7_sound_9 : decode cX7_sound 9 = .ok (.iconst 0, 1) := by decide +kernel
theorem dX7_sound_10 : decode cX7_sound 10 = .ok (.iconst 1, 1) := by decide +kernel
theorem dX7_sound_11 : decode cX7_sound 11 = .ok (.invokestatic 55, 3) := by decide +kernel
theorem dX7_sound_14 : decode cX7_sound 14 = .ok (.ifCond .eq 12, 3) := by decide +kernel
theorem dX7_sound_17 : decode cX7_sound 17 = .ok (.iload_n 3, 1) := by decide +kernel
theorem dX7_sound_18 : decode cX7_sound 18 = .ok (.iconst 0, 1) := by decide +kernel
theorem dX7_sound_19 : decode cX7_sound 19 = .ok (.iconst 1, 1) := by decide +kernel
theorem dX7_sound_20 : decode cX7_sound 20 = .ok (.invokestatic 55, 3) := by decide +kernel
theorem dX7_sound_23 : decode cX7_sound 23 = .ok (.ifCond .ne 6, 3) := by decide +kernel
theorem dX7_sound_26 : decode cX7_sound 26 = .ok (.ldc 63, 2) := by decide +kernel
theorem dX7_sound_28 : decode cX7_sound 28 = .ok (.ireturn, 1) := by decide +kernel
theorem dX7_sound_29 : decode cX7_sound 29 = .ok (.iload_n 2, 1) := by decide +kernel
theorem dX7_sound_30 : decode cX7_sound 30 = .ok (.ifCond .ne 8, 3) := by decide +kernel
theorem dX7_sound_33 : decode cX7_sound 33 = .ok (.bipush 17, 2) := by decide +kernel
theorem dX7_sound_35 : decode cX7_sound 35 = .ok (.goto 5, 3) := by decide +kernel
theorem dX7_sound_38 : decode cX7_sound 38 = .ok (.bipush 23, 2) := by decide +kernel
theorem dX7_sound_40 : decode cX7_sound 40 = .ok (.iload_n 1, 1) := by decide +kernel
theorem dX7_sound_41 : decode cX7_sound 41 = .ok (.iadd, 1) := by decide +kernel
theorem dX7_sound_42 : decode cX7_sound 42 = .ok (.istore 4, 2) := by decide +kernel
theorem dX7_sound_44 : decode cX7_sound 44 = .ok (.aload_n 0, 1) := by decide +kernel
theorem dX7_sound_45 : decode cX7_sound 45 = .ok (.getfield 22, 3) := by decide +kernel
theorem dX7_sound_48 : decode cX7_sound 48 = .ok (.iload 4, 2) := by decide +kernel
theorem dX7_sound_50 : decode cX7_sound 50 = .ok (.iaload, 1) := by decide +kernel
theorem dX7_sound_51 : decode cX7_sound 51 = .ok (.iload_n 3, 1) := by decide +kernel
theorem dX7_sound_52 : decode cX7_sound 52 = .ok (.if_icmp .ne 6, 3) := by decide +kernel
theorem dX7_sound_55 : decode cX7_sound 55 = .ok (.ldc 162, 2) := by decide +kernel
theorem dX7_sound_57 : decode cX7_sound 57 = .ok (.ireturn, 1) := by decide +kernel
theorem dX7_sound_58 : decode cX7_sound 58 = .ok (.iload_n 3, 1) := by decide +kernel
theorem dX7_sound_59 : decode cX7_sound 59 = .ok (.iconst 1, 1) := by decide +kernel
theorem dX7_sound_60 : decode cX7_sound 60 = .ok (.if_icmp .ne 21, 3) := by decide +kernel
theorem dX7_sound_63 : decode cX7_sound 63 = .ok (.aload_n 0, 1) := by decide +kernel
theorem dX7_sound_64 : decode cX7_sound 64 = .ok (.invokevirtual 173, 3) := by decide +kernel
theorem dX7_sound_67 : decode cX7_sound 67 = .ok (.iconst 1, 1) := by decide +kernel
theorem dX7_sound_68 : decode cX7_sound 68 = .ok (.iadd, 1) := by decide +kernel
theorem dX7_sound_69 : decode cX7_sound 69 = .ok (.aload_n 0, 1) := by decide +kernel
theorem dX7_sound_70 : decode cX7_sound 70 = .ok (.getfield 22, 3) := by decide +kernel
theorem dX7_sound_73 : decode cX7_sound 73 = .ok (.iconst 1, 1) := by decide +kernel
theorem dX7_sound_74 : decode cX7_sound 74 = .ok (.iaload, 1) := by decide +kernel
theorem dX7_sound_75 : decode cX7_sound 75 = .ok (.if_icmp .le 6, 3) := by decide +kernel
theorem dX7_sound_78 : decode cX7_sound 78 = .ok (.ldc 77, 2) := by decide +kernel
theorem dX7_sound_80 : decode cX7_sound 80 = .ok (.ireturn, 1) := by decide +kernel
theorem dX7_sound_81 : decode cX7_sound 81 = .ok (.aload_n 0, 1) := by decide +kernel
theorem dX7_sound_82 : decode cX7_sound 82 = .ok (.invokevirtual 170, 3) := by decide +kernel
theorem dX7_sound_85 : decode cX7_sound 85 = .ok (.aload_n 0, 1) := by decide +kernel
theorem dX7_sound_86 : decode cX7_sound 86 = .ok (.getfield 22, 3) := by decide +kernel
theorem dX7_sound_89 : decode cX7_sound 89 = .ok (.iload 4, 2) := by decide +kernel
theorem dX7_sound_91 : decode cX7_sound 91 = .ok (.iload_n 3, 1) := by decide +kernel
theorem dX7_sound_92 : decode cX7_sound 92 = .ok (.iastore, 1) := by decide +kernel
theorem dX7_sound_93 : decode cX7_sound 93 = .ok (.aload_n 0, 1) := by decide +kernel
theorem dX7_sound_94 : decode cX7_sound 94 = .ok (.invokevirtual 173, 3) := by decide +kernel
theorem dX7_sound_97 : decode cX7_sound 97 = .ok (.ireturn, 1) := by decide +kernel
theorem dX7_days_0 : decode cX7_days 0 = .ok (.aload_n 0, 1) := by decide +kernel
theorem dX7_days_1 : decode cX7_days 1 = .ok (.invokevirtual 176, 3) := by decide +kernel
theorem dX7_days_4 : decode cX7_days 4 = .ok (.ifCond .ne 6, 3) := by decide +kernel
theorem dX7_days_7 : decode cX7_days 7 = .ok (.ldc 162, 2) := by decide +kernel
theorem dX7_days_9 : decode cX7_days 9 = .ok (.ireturn, 1) := by decide +kernel
theorem dX7_days_10 : decode cX7_days 10 = .ok (.iload_n 1, 1) := by decide +kernel
theorem dX7_days_11 : decode cX7_days 11 = .ok (.iconst 1, 1) := by decide +kernel
theorem dX7_days_12 : decode cX7_days 12 = .ok (.bipush 24, 2) := by decide +kernel
theorem dX7_days_14 : decode cX7_days 14 = .ok (.invokestatic 55, 3) := by decide +kernel
theorem dX7_days_17 : decode cX7_days 17 = .ok (.ifCond .ne 6, 3) := by decide +kernel
theorem dX7_days_20 : decode cX7_days 20 = .ok (.ldc 63, 2) := by decide +kernel
theorem dX7_days_22 : decode cX7_days 22 = .ok (.ireturn, 1) := by decide +kernel
theorem dX7_days_23 : decode cX7_days 23 = .ok (.aload_n 0, 1) := by decide +kernel
theorem dX7_days_24 : decode cX7_days 24 = .ok (.getfield 22, 3) := by decide +kernel
theorem dX7_days_27 : decode cX7_days 27 = .ok (.iconst 4, 1) := by decide +kernel
theorem dX7_days_28 : decode cX7_days 28 = .ok (.iaload, 1) := by decide +kernel
theorem dX7_days_29 : decode cX7_days 29 = .ok (.iload_n 1, 1) := by decide +kernel
theorem dX7_days_30 : decode cX7_days 30 = .ok (.iadd, 1) := by decide +kernel
theorem dX7_days_31 : decode cX7_days 31 = .ok (.sipush 999, 3) := by decide +kernel
theorem dX7_days_34 : decode cX7_days 34 = .ok (.if_icmp .le 6, 3) := by decide +kernel
theorem dX7_days_37 : decode cX7_days 37 = .ok (.ldc 77, 2) := by decide +kernel
theorem dX7_days_39 : decode cX7_days 39 = .ok (.ireturn, 1) := by decide +kernel
theorem dX7_days_40 : decode cX7_days 40 = .ok (.iconst 0, 1) := by decide +kernel
theorem dX7_days_41 : decode cX7_days 41 = .ok (.istore_n 2, 1) := by decide +kernel
theorem dX7_days_42 : decode cX7_days 42 = .ok (.iconst 0, 1) := by decide +kernel
theorem dX7_days_43 : decode cX7_days 43 = .ok (.istore_n 3, 1) := by decide +kernel
theorem dX7_days_44 : decode cX7_days 44 = .ok (.iload_n 3, 1) := by decide +kernel
theorem dX7_days_45 : decode cX7_days 45 = .ok (.iload_n 1, 1) := by decide +kernel
theorem dX7_days_46 : decode cX7_days 46 = .ok (.if_icmp .ge 21, 3) := by decide +kernel
theorem dX7_days_49 : decode cX7_days 49 = .ok (.aload_n 0, 1) := by decide +kernel
theorem dX7_days_50 : decode cX7_days 50 = .ok (.invokevirtual 170, 3) := by decide +kernel
theorem dX7_days_53 : decode cX7_days 53 = .ok (.aload_n 0, 1) := by decide +kernel
theorem dX7_days_54 : decode cX7_days 54 = .ok (.getfield 22, 3) := by decide +kernel
theorem dX7_days_57 : decode cX7_days 57 = .ok (.invokestatic 179, 3) := by decide +kernel
theorem dX7_days_60 : decode cX7_days 60 = .ok (.istore_n 2, 1) := by decide +kernel
theorem dX7_days_61 : decode cX7_days 61 = .ok (.iinc 3 1, 3) := by decide +kernel
theorem dX7_days_64 : decode cX7_days 64 = .ok (.goto (-20), 3) := by decide +kernel
theorem dX7_days_67 : decode cX7_days 67 = .ok (.iload_n 2, 1) := by decide +kernel
theorem dX7_days_68 : decode cX7_days 68 = .ok (.ireturn, 1) := by decide +kernel
theorem dX7_door_0 : decode cX7_door 0 = .ok (.aload_n 0, 1) := by decide +kernel
theorem dX7_door_1 : decode cX7_door 1 = .ok (.iload_n 1, 1) := by decide +kernel
theorem dX7_door_2 : decode cX7_door 2 = .ok (.invokevirtual 163, 3) := by decide +kernel
theorem dX7_door_5 : decode cX7_door 5 = .ok (.ifCond .ne 6, 3) := by decide +kernel
theorem dX7_door_8 : decode cX7_door 8 = .ok (.ldc 63, 2) := by decide +kernel
theorem dX7_door_10 : decode cX7_door 10 = .ok (.ireturn, 1) := by decide +kernel
theorem dX7_door_11 : decode cX7_door 11 = .ok (.iload_n 2, 1) := by decide +kernel
theorem dX7_door_12 : decode cX7_door 12 = .ok (.tableswitch 115 0 6 #[44, 53, 63, 73, 83, 100, 109], 44) := by decide +kernel
theorem dX7_door_56 : decode cX7_door 56 = .ok (.aload_n 0, 1) := by decide +kernel
theorem dX7_door_57 : decode cX7_door 57 = .ok (.getfield 22, 3) := by decide +kernel
theorem dX7_door_60 : decode cX7_door 60 = .ok (.iconst 5, 1) := by decide +kernel
theorem dX7_door_61 : decode cX7_door 61 = .ok (.iload_n 1, 1) := by decide +kernel
theorem dX7_door_62 : decode cX7_door 62 = .ok (.iadd, 1) := by decide +kernel
theorem dX7_door_63 : decode cX7_door 63 = .ok (.iaload, 1) := by decide +kernel
theorem dX7_door_64 : decode cX7_door 64 = .ok (.ireturn, 1) := by decide +kernel
theorem dX7_door_65 : decode cX7_door 65 = .ok (.aload_n 0, 1) := by decide +kernel
theorem dX7_door_66 : decode cX7_door 66 = .ok (.getfield 22, 3) := by decide +kernel
theorem dX7_door_69 : decode cX7_door 69 = .ok (.bipush 11, 2) := by decide +kernel
theorem dX7_door_71 : decode cX7_door 71 = .ok (.iload_n 1, 1) := by decide +kernel
theorem dX7_door_72 : decode cX7_door 72 = .ok (.iadd, 1) := by decide +kernel
theorem dX7_door_73 : decode cX7_door 73 = .ok (.iaload, 1) := by decide +kernel
theorem dX7_door_74 : decode cX7_door 74 = .ok (.ireturn, 1) := by decide +kernel
theorem dX7_door_75 : decode cX7_door 75 = .ok (.aload_n 0, 1) := by decide +kernel
theorem dX7_door_76 : decode cX7_door 76 = .ok (.getfield 22, 3) := by decide +kernel
theorem dX7_door_79 : decode cX7_door 79 = .ok (.bipush 17, 2) := by decide +kernel
theorem dX7_door_81 : decode cX7_door 81 = .ok (.iload_n 1, 1) := by decide +kernel
theorem dX7_door_82 : decode cX7_door 82 = .ok (.iadd, 1) := by decide +kernel
theorem dX7_door_83 : decode cX7_door 83 = .ok (.iaload, 1) := by decide +kernel
theorem dX7_door_84 : decode cX7_door 84 = .ok (.ireturn, 1) := by decide +kernel
theorem dX7_door_85 : decode cX7_door 85 = .ok (.aload_n 0, 1) := by decide +kernel
theorem dX7_door_86 : decode cX7_door 86 = .ok (.getfield 22, 3) := by decide +kernel
theorem dX7_door_89 : decode cX7_door 89 = .ok (.bipush 23, 2) := by decide +kernel
theorem dX7_door_91 : decode cX7_door 91 = .ok (.iload_n 1, 1) := by decide +kernel
theorem dX7_door_92 : decode cX7_door 92 = .ok (.iadd, 1) := by decide +kernel
theorem dX7_door_93 : decode cX7_door 93 = .ok (.iaload, 1) := by decide +kernel
theorem dX7_door_94 : decode cX7_door 94 = .ok (.ireturn, 1) := by decide +kernel
theorem dX7_door_95 : decode cX7_door 95 = .ok (.aload_n 0, 1) := by decide +kernel
theorem dX7_door_96 : decode cX7_door 96 = .ok (.getfield 22, 3) := by decide +kernel
theorem dX7_door_99 : decode cX7_door 99 = .ok (.iload_n 1, 1) := by decide +kernel
theorem dX7_door_100 : decode cX7_door 100 = .ok (.invokestatic 133, 3) := by decide +kernel
theorem dX7_door_103 : decode cX7_door 103 = .ok (.ifCond .eq 7, 3) := by decide +kernel
theorem dX7_door_106 : decode cX7_door 106 = .ok (.iconst 1, 1) := by decide +kernel
theorem dX7_door_107 : decode cX7_door 107 = .ok (.goto 4, 3) := by decide +kernel
theorem dX7_door_110 : decode cX7_door 110 = .ok (.iconst 0, 1) := by decide +kernel
theorem dX7_door_111 : decode cX7_door 111 = .ok (.ireturn, 1) := by decide +kernel
theorem dX7_door_112 : decode cX7_door 112 = .ok (.aload_n 0, 1) := by decide +kernel
theorem dX7_door_113 : decode cX7_door 113 = .ok (.getfield 22, 3) := by decide +kernel
theorem dX7_door_116 : decode cX7_door 116 = .ok (.iload_n 1, 1) := by decide +kernel
theorem dX7_door_117 : decode cX7_door 117 = .ok (.invokestatic 145, 3) := by decide +kernel
theorem dX7_door_120 : decode cX7_door 120 = .ok (.ireturn, 1) := by decide +kernel
theorem dX7_door_121 : decode cX7_door 121 = .ok (.aload_n 0, 1) := by decide +kernel
theorem dX7_door_122 : decode cX7_door 122 = .ok (.iload_n 1, 1) := by decide +kernel
theorem dX7_door_123 : decode cX7_door 123 = .ok (.invokevirtual 182, 3) := by decide +kernel
theorem dX7_door_126 : decode cX7_door 126 = .ok (.ireturn, 1) := by decide +kernel
theorem dX7_door_127 : decode cX7_door 127 = .ok (.ldc 63, 2) := by decide +kernel
theorem dX7_door_129 : decode cX7_door 129 = .ok (.ireturn, 1) := by decide +kernel
theorem dX7_caller_0 : decode cX7_caller 0 = .ok (.aload_n 0, 1) := by decide +kernel
theorem dX7_caller_1 : decode cX7_caller 1 = .ok (.iload_n 1, 1) := by decide +kernel
theorem dX7_caller_2 : decode cX7_caller 2 = .ok (.invokevirtual 185, 3) := by decide +kernel
theorem dX7_caller_5 : decode cX7_caller 5 = .ok (.ifCond .ne 6, 3) := by decide +kernel
theorem dX7_caller_8 : decode cX7_caller 8 = .ok (.ldc 63, 2) := by decide +kernel
theorem dX7_caller_10 : decode cX7_caller 10 = .ok (.ireturn, 1) := by decide +kernel
theorem dX7_caller_11 : decode cX7_caller 11 = .ok (.iload_n 2, 1) := by decide +kernel
theorem dX7_caller_12 : decode cX7_caller 12 = .ok (.tableswitch 92 0 4 #[36, 46, 56, 65, 82], 36) := by decide +kernel
theorem dX7_caller_48 : decode cX7_caller 48 = .ok (.aload_n 0, 1) := by decide +kernel
theorem dX7_caller_49 : decode cX7_caller 49 = .ok (.getfield 22, 3) := by decide +kernel
theorem dX7_caller_52 : decode cX7_caller 52 = .ok (.bipush 41, 2) := by decide +kernel
theorem dX7_caller_54 : decode cX7_caller 54 = .ok (.iload_n 1, 1) := by decide +kernel
theorem dX7_caller_55 : decode cX7_caller 55 = .ok (.iadd, 1) := by decide +kernel
theorem dX7_caller_56 : decode cX7_caller 56 = .ok (.iaload, 1) := by decide +kernel
theorem dX7_caller_57 : decode cX7_caller 57 = .ok (.ireturn, 1) := by decide +kernel
theorem dX7_caller_58 : decode cX7_caller 58 = .ok (.aload_n 0, 1) := by decide +kernel
theorem dX7_caller_59 : decode cX7_caller 59 = .ok (.getfield 22, 3) := by decide +kernel
theorem dX7_caller_62 : decode cX7_caller 62 = .ok (.bipush 35, 2) := by decide +kernel
theorem dX7_caller_64 : decode cX7_caller 64 = .ok (.iload_n 1, 1) := by decide +kernel
theorem dX7_caller_65 : decode cX7_caller 65 = .ok (.iadd, 1) := by decide +kernel
theorem dX7_caller_66 : decode cX7_caller 66 = .ok (.iaload, 1) := by decide +kernel
theorem dX7_caller_67 : decode cX7_caller 67 = .ok (.ireturn, 1) := by decide +kernel
theorem dX7_caller_68 : decode cX7_caller 68 = .ok (.aload_n 0, 1) := by decide +kernel
theorem dX7_caller_69 : decode cX7_caller 69 = .ok (.getfield 22, 3) := by decide +kernel
theorem dX7_caller_72 : decode cX7_caller 72 = .ok (.iload_n 1, 1) := by decide +kernel
theorem dX7_caller_73 : decode cX7_caller 73 = .ok (.invokestatic 149, 3) := by decide +kernel
theorem dX7_caller_76 : decode cX7_caller 76 = .ok (.ireturn, 1) := by decide +kernel
theorem dX7_caller_77 : decode cX7_caller 77 = .ok (.aload_n 0, 1) := by decide +kernel
theorem dX7_caller_78 : decode cX7_caller 78 = .ok (.getfield 22, 3) := by decide +kernel
theorem dX7_caller_81 : decode cX7_caller 81 = .ok (.iload_n 1, 1) := by decide +kernel
theorem dX7_caller_82 : decode cX7_caller 82 = .ok (.invokestatic 152, 3) := by decide +kernel
theorem dX7_caller_85 : decode cX7_caller 85 = .ok (.ifCond .eq 7, 3) := by decide +kernel
theorem dX7_caller_88 : decode cX7_caller 88 = .ok (.iconst 1, 1) := by decide +kernel
theorem dX7_caller_89 : decode cX7_caller 89 = .ok (.goto 4, 3) := by decide +kernel
theorem dX7_caller_92 : decode cX7_caller 92 = .ok (.iconst 0, 1) := by decide +kernel
theorem dX7_caller_93 : decode cX7_caller 93 = .ok (.ireturn, 1) := by decide +kernel
theorem dX7_caller_94 : decode cX7_caller 94 = .ok (.aload_n 0, 1) := by decide +kernel
theorem dX7_caller_95 : decode cX7_caller 95 = .ok (.getfield 22, 3) := by decide +kernel
theorem dX7_caller_98 : decode cX7_caller 98 = .ok (.bipush 47, 2) := by decide +kernel
theorem dX7_caller_100 : decode cX7_caller 100 = .ok (.iload_n 1, 1) := by decide +kernel
theorem dX7_caller_101 : decode cX7_caller 101 = .ok (.iadd, 1) := by decide +kernel
theorem dX7_caller_102 : decode cX7_caller 102 = .ok (.iaload, 1) := by decide +kernel
theorem dX7_caller_103 : decode cX7_caller 103 = .ok (.ireturn, 1) := by decide +kernel
theorem dX7_caller_104 : decode cX7_caller 104 = .ok (.ldc 63, 2) := by decide +kernel
theorem dX7_caller_106 : decode cX7_caller 106 = .ok (.ireturn, 1) := by decide +kernel
theorem dX7_used_0 : decode cX7_used 0 = .ok (.aload_n 0, 1) := by decide +kernel
theorem dX7_used_1 : decode cX7_used 1 = .ok (.invokevirtual 176, 3) := by decide +kernel
theorem dX7_used_4 : decode cX7_used 4 = .ok (.ifCond .ne 6, 3) := by decide +kernel
theorem dX7_used_7 : decode cX7_used 7 = .ok (.ldc 162, 2) := by decide +kernel
theorem dX7_used_9 : decode cX7_used 9 = .ok (.ireturn, 1) := by decide +kernel
theorem dX7_used_10 : decode cX7_used 10 = .ok (.iload_n 1, 1) := by decide +kernel
theorem dX7_used_11 : decode cX7_used 11 = .ok (.ifCond .ne 10, 3) := by decide +kernel
theorem dX7_used_14 : decode cX7_used 14 = .ok (.aload_n 0, 1) := by decide +kernel
theorem dX7_used_15 : decode cX7_used 15 = .ok (.invokevirtual 166, 3) := by decide +kernel
theorem dX7_used_18 : decode cX7_used 18 = .ok (.goto 17, 3) := by decide +kernel
theorem dX7_used_21 : decode cX7_used 21 = .ok (.iload_n 1, 1) := by decide +kernel
theorem dX7_used_22 : decode cX7_used 22 = .ok (.iconst 1, 1) := by decide +kernel
theorem dX7_used_23 : decode cX7_used 23 = .ok (.if_icmp .ne 10, 3) := by decide +kernel
theorem dX7_used_26 : decode cX7_used 26 = .ok (.aload_n 0, 1) := by decide +kernel
theorem dX7_used_27 : decode cX7_used 27 = .ok (.invokevirtual 173, 3) := by decide +kernel
theorem dX7_used_30 : decode cX7_used 30 = .ok (.goto 5, 3) := by decide +kernel
theorem dX7_used_33 : decode cX7_used 33 = .ok (.ldc 63, 2) := by decide +kernel
theorem dX7_used_35 : decode cX7_used 35 = .ok (.ireturn, 1) := by decide +kernel
theorem dX7_meets_0 : decode cX7_meets 0 = .ok (.aload_n 0, 1) := by decide +kernel
theorem dX7_meets_1 : decode cX7_meets 1 = .ok (.invokevirtual 176, 3) := by decide +kernel
theorem dX7_meets_4 : decode cX7_meets 4 = .ok (.ifCond .eq 13, 3) := by decide +kernel
theorem dX7_meets_7 : decode cX7_meets 7 = .ok (.aload_n 0, 1) := by decide +kernel
theorem dX7_meets_8 : decode cX7_meets 8 = .ok (.getfield 22, 3) := by decide +kernel
theorem dX7_meets_11 : decode cX7_meets 11 = .ok (.invokestatic 155, 3) := by decide +kernel
theorem dX7_meets_14 : decode cX7_meets 14 = .ok (.goto 5, 3) := by decide +kernel
theorem dX7_meets_17 : decode cX7_meets 17 = .ok (.ldc 162, 2) := by decide +kernel
theorem dX7_meets_19 : decode cX7_meets 19 = .ok (.ireturn, 1) := by decide +kernel
theorem dX7_nothing_0 : decode cX7_nothing 0 = .ok (.aload_n 0, 1) := by decide +kernel
theorem dX7_nothing_1 : decode cX7_nothing 1 = .ok (.invokevirtual 176, 3) := by decide +kernel
theorem dX7_nothing_4 : decode cX7_nothing 4 = .ok (.ifCond .ne 6, 3) := by decide +kernel
theorem dX7_nothing_7 : decode cX7_nothing 7 = .ok (.ldc 162, 2) := by decide +kernel
theorem dX7_nothing_9 : decode cX7_nothing 9 = .ok (.ireturn, 1) := by decide +kernel
theorem dX7_nothing_10 : decode cX7_nothing 10 = .ok (.aload_n 0, 1) := by decide +kernel
theorem dX7_nothing_11 : decode cX7_nothing 11 = .ok (.getfield 22, 3) := by decide +kernel
theorem dX7_nothing_14 : decode cX7_nothing 14 = .ok (.invokestatic 155, 3) := by decide +kernel
theorem dX7_nothing_17 : decode cX7_nothing 17 = .ok (.istore_n 1, 1) := by decide +kernel
theorem dX7_nothing_18 : decode cX7_nothing 18 = .ok (.iconst 0, 1) := by decide +kernel
theorem dX7_nothing_19 : decode cX7_nothing 19 = .ok (.istore_n 2, 1) := by decide +kernel
theorem dX7_nothing_20 : decode cX7_nothing 20 = .ok (.iload_n 2, 1) := by decide +kernel
theorem dX7_nothing_21 : decode cX7_nothing 21 = .ok (.aload_n 0, 1) := by decide +kernel
theorem dX7_nothing_22 : decode cX7_nothing 22 = .ok (.getfield 22, 3) := by decide +kernel
theorem dX7_nothing_25 : decode cX7_nothing 25 = .ok (.iconst 2, 1) := by decide +kernel
theorem dX7_nothing_26 : decode cX7_nothing 26 = .ok (.iaload, 1) := by decide +kernel
theorem dX7_nothing_27 : decode cX7_nothing 27 = .ok (.if_icmp .ge 27, 3) := by decide +kernel
theorem dX7_nothing_30 : decode cX7_nothing 30 = .ok (.aload_n 0, 1) := by decide +kernel
theorem dX7_nothing_31 : decode cX7_nothing 31 = .ok (.iload_n 2, 1) := by decide +kernel
theorem dX7_nothing_32 : decode cX7_nothing 32 = .ok (.invokevirtual 182, 3) := by decide +kernel
theorem dX7_nothing_35 : decode cX7_nothing 35 = .ok (.istore_n 3, 1) := by decide +kernel
theorem dX7_nothing_36 : decode cX7_nothing 36 = .ok (.iload_n 3, 1) := by decide +kernel
theorem dX7_nothing_37 : decode cX7_nothing 37 = .ok (.ifCond .eq 11, 3) := by decide +kernel
theorem dX7_nothing_40 : decode cX7_nothing 40 = .ok (.iload_n 3, 1) := by decide +kernel
theorem dX7_nothing_41 : decode cX7_nothing 41 = .ok (.iload_n 1, 1) := by decide +kernel
theorem dX7_nothing_42 : decode cX7_nothing 42 = .ok (.iand, 1) := by decide +kernel
theorem dX7_nothing_43 : decode cX7_nothing 43 = .ok (.ifCond .ne 5, 3) := by decide +kernel
theorem dX7_nothing_46 : decode cX7_nothing 46 = .ok (.iload_n 2, 1) := by decide +kernel
theorem dX7_nothing_47 : decode cX7_nothing 47 = .ok (.ireturn, 1) := by decide +kernel
theorem dX7_nothing_48 : decode cX7_nothing 48 = .ok (.iinc 2 1, 3) := by decide +kernel
theorem dX7_nothing_51 : decode cX7_nothing 51 = .ok (.goto (-31), 3) := by decide +kernel
theorem dX7_nothing_54 : decode cX7_nothing 54 = .ok (.ldc 188, 2) := by decide +kernel
theorem dX7_nothing_56 : decode cX7_nothing 56 = .ok (.ireturn, 1) := by decide +kernel
theorem dX7_ahead_0 : decode cX7_ahead 0 = .ok (.aload_n 0, 1) := by decide +kernel
theorem dX7_ahead_1 : decode cX7_ahead 1 = .ok (.iload_n 1, 1) := by decide +kernel
theorem dX7_ahead_2 : decode cX7_ahead 2 = .ok (.invokevirtual 185, 3) := by decide +kernel
theorem dX7_ahead_5 : decode cX7_ahead 5 = .ok (.ifCond .eq 22, 3) := by decide +kernel
theorem dX7_ahead_8 : decode cX7_ahead 8 = .ok (.iload_n 2, 1) := by decide +kernel
theorem dX7_ahead_9 : decode cX7_ahead 9 = .ok (.iconst 0, 1) := by decide +kernel
theorem dX7_ahead_10 : decode cX7_ahead 10 = .ok (.bipush 60, 2) := by decide +kernel
theorem dX7_ahead_12 : decode cX7_ahead 12 = .ok (.invokestatic 55, 3) := by decide +kernel
theorem dX7_ahead_15 : decode cX7_ahead 15 = .ok (.ifCond .eq 12, 3) := by decide +kernel
theorem dX7_ahead_18 : decode cX7_ahead 18 = .ok (.iload_n 3, 1) := by decide +kernel
theorem dX7_ahead_19 : decode cX7_ahead 19 = .ok (.iconst 0, 1) := by decide +kernel
theorem dX7_ahead_20 : decode cX7_ahead 20 = .ok (.iconst 1, 1) := by decide +kernel
theorem dX7_ahead_21 : decode cX7_ahead 21 = .ok (.invokestatic 55, 3) := by decide +kernel
theorem dX7_ahead_24 : decode cX7_ahead 24 = .ok (.ifCond .ne 6, 3) := by decide +kernel
theorem dX7_ahead_27 : decode cX7_ahead 27 = .ok (.ldc 63, 2) := by decide +kernel
theorem dX7_ahead_29 : decode cX7_ahead 29 = .ok (.ireturn, 1) := by decide +kernel
theorem dX7_ahead_30 : decode cX7_ahead 30 = .ok (.aload_n 0, 1) := by decide +kernel
theorem dX7_ahead_31 : decode cX7_ahead 31 = .ok (.getfield 22, 3) := by decide +kernel
theorem dX7_ahead_34 : decode cX7_ahead 34 = .ok (.iconst 0, 1) := by decide +kernel
theorem dX7_ahead_35 : decode cX7_ahead 35 = .ok (.aload_n 0, 1) := by decide +kernel
theorem dX7_ahead_36 : decode cX7_ahead 36 = .ok (.getfield 28, 3) := by decide +kernel
theorem dX7_ahead_39 : decode cX7_ahead 39 = .ok (.iconst 0, 1) := by decide +kernel
theorem dX7_ahead_40 : decode cX7_ahead 40 = .ok (.invokestatic 126, 3) := by decide +kernel
theorem dX7_ahead_43 : decode cX7_ahead 43 = .ok (.iconst 0, 1) := by decide +kernel
theorem dX7_ahead_44 : decode cX7_ahead 44 = .ok (.istore 4, 2) := by decide +kernel
theorem dX7_ahead_46 : decode cX7_ahead 46 = .ok (.iload 4, 2) := by decide +kernel
theorem dX7_ahead_48 : decode cX7_ahead 48 = .ok (.iload_n 2, 1) := by decide +kernel
theorem dX7_ahead_49 : decode cX7_ahead 49 = .ok (.if_icmp .ge 17, 3) := by decide +kernel
theorem dX7_ahead_52 : decode cX7_ahead 52 = .ok (.aload_n 0, 1) := by decide +kernel
theorem dX7_ahead_53 : decode cX7_ahead 53 = .ok (.getfield 28, 3) := by decide +kernel
theorem dX7_ahead_56 : decode cX7_ahead 56 = .ok (.invokestatic 179, 3) := by decide +kernel
theorem dX7_ahead_59 : decode cX7_ahead 59 = .ok (.pop, 1) := by decide +kernel
theorem dX7_ahead_60 : decode cX7_ahead 60 = .ok (.iinc 4 1, 3) := by decide +kernel
theorem dX7_ahead_63 : decode cX7_ahead 63 = .ok (.goto (-17), 3) := by decide +kernel
theorem dX7_ahead_66 : decode cX7_ahead 66 = .ok (.iload_n 3, 1) := by decide +kernel
theorem dX7_ahead_67 : decode cX7_ahead 67 = .ok (.ifCond .ne 15, 3) := by decide +kernel
theorem dX7_ahead_70 : decode cX7_ahead 70 = .ok (.aload_n 0, 1) := by decide +kernel
theorem dX7_ahead_71 : decode cX7_ahead 71 = .ok (.getfield 28, 3) := by decide +kernel
theorem dX7_ahead_74 : decode cX7_ahead 74 = .ok (.bipush 41, 2) := by decide +kernel
theorem dX7_ahead_76 : decode cX7_ahead 76 = .ok (.iload_n 1, 1) := by decide +kernel
theorem dX7_ahead_77 : decode cX7_ahead 77 = .ok (.iadd, 1) := by decide +kernel
theorem dX7_ahead_78 : decode cX7_ahead 78 = .ok (.iaload, 1) := by decide +kernel
theorem dX7_ahead_79 : decode cX7_ahead 79 = .ok (.goto 12, 3) := by decide +kernel
theorem dX7_ahead_82 : decode cX7_ahead 82 = .ok (.aload_n 0, 1) := by decide +kernel
theorem dX7_ahead_83 : decode cX7_ahead 83 = .ok (.getfield 28, 3) := by decide +kernel
theorem dX7_ahead_86 : decode cX7_ahead 86 = .ok (.bipush 47, 2) := by decide +kernel
theorem dX7_ahead_88 : decode cX7_ahead 88 = .ok (.iload_n 1, 1) := by decide +kernel
theorem dX7_ahead_89 : decode cX7_ahead 89 = .ok (.iadd, 1) := by decide +kernel
theorem dX7_ahead_90 : decode cX7_ahead 90 = .ok (.iaload, 1) := by decide +kernel
theorem dX7_ahead_91 : decode cX7_ahead 91 = .ok (.ireturn, 1) := by decide +kernel
theorem dX7_soon_0 : decode cX7_soon 0 = .ok (.aload_n 0, 1) := by decide +kernel
theorem dX7_soon_1 : decode cX7_soon 1 = .ok (.iload_n 1, 1) := by decide +kernel
theorem dX7_soon_2 : decode cX7_soon 2 = .ok (.invokevirtual 185, 3) := by decide +kernel
theorem dX7_soon_5 : decode cX7_soon 5 = .ok (.ifCond .ne 6, 3) := by decide +kernel
theorem dX7_soon_8 : decode cX7_soon 8 = .ok (.ldc 63, 2) := by decide +kernel
theorem dX7_soon_10 : decode cX7_soon 10 = .ok (.ireturn, 1) := by decide +kernel
theorem dX7_soon_11 : decode cX7_soon 11 = .ok (.aload_n 0, 1) := by decide +kernel
theorem dX7_soon_12 : decode cX7_soon 12 = .ok (.getfield 22, 3) := by decide +kernel
theorem dX7_soon_15 : decode cX7_soon 15 = .ok (.iconst 0, 1) := by decide +kernel
theorem dX7_soon_16 : decode cX7_soon 16 = .ok (.aload_n 0, 1) := by decide +kernel
theorem dX7_soon_17 : decode cX7_soon 17 = .ok (.getfield 28, 3) := by decide +kernel
theorem dX7_soon_20 : decode cX7_soon 20 = .ok (.iconst 0, 1) := by decide +kernel
theorem dX7_soon_21 : decode cX7_soon 21 = .ok (.invokestatic 126, 3) := by decide +kernel
theorem dX7_soon_24 : decode cX7_soon 24 = .ok (.iconst 0, 1) := by decide +kernel
theorem dX7_soon_25 : decode cX7_soon 25 = .ok (.istore_n 2, 1) := by decide +kernel
theorem dX7_soon_26 : decode cX7_soon 26 = .ok (.iload_n 2, 1) := by decide +kernel
theorem dX7_soon_27 : decode cX7_soon 27 = .ok (.bipush 60, 2) := by decide +kernel
theorem dX7_soon_29 : decode cX7_soon 29 = .ok (.if_icmp .gt 25, 3) := by decide +kernel
theorem dX7_soon_32 : decode cX7_soon 32 = .ok (.aload_n 0, 1) := by decide +kernel
theorem dX7_soon_33 : decode cX7_soon 33 = .ok (.getfield 28, 3) := by decide +kernel
theorem dX7_soon_36 : decode cX7_soon 36 = .ok (.invokestatic 179, 3) := by decide +kernel
theorem dX7_soon_39 : decode cX7_soon 39 = .ok (.iload_n 1, 1) := by decide +kernel
theorem dX7_soon_40 : decode cX7_soon 40 = .ok (.invokestatic 159, 3) := by decide +kernel
theorem dX7_soon_43 : decode cX7_soon 43 = .ok (.ifCond .eq 5, 3) := by decide +kernel
theorem dX7_soon_46 : decode cX7_soon 46 = .ok (.iload_n 2, 1) := by decide +kernel
theorem dX7_soon_47 : decode cX7_soon 47 = .ok (.ireturn, 1) := by decide +kernel
theorem dX7_soon_48 : decode cX7_soon 48 = .ok (.iinc 2 1, 3) := by decide +kernel
theorem dX7_soon_51 : decode cX7_soon 51 = .ok (.goto (-25), 3) := by decide +kernel
theorem dX7_soon_54 : decode cX7_soon 54 = .ok (.ldc 188, 2) := by decide +kernel
theorem dX7_soon_56 : decode cX7_soon 56 = .ok (.ireturn, 1) := by decide +kernel
theorem dX7_fits_0 : decode cX7_fits 0 = .ok (.iconst 1, 1) := by decide +kernel
theorem dX7_fits_1 : decode cX7_fits 1 = .ok (.istore 7, 2) := by decide +kernel
theorem dX7_fits_3 : decode cX7_fits 3 = .ok (.aload_n 0, 1) := by decide +kernel
theorem dX7_fits_4 : decode cX7_fits 4 = .ok (.getfield 22, 3) := by decide +kernel
theorem dX7_fits_7 : decode cX7_fits 7 = .ok (.iconst 5, 1) := by decide +kernel
theorem dX7_fits_8 : decode cX7_fits 8 = .ok (.iload_n 1, 1) := by decide +kernel
theorem dX7_fits_9 : decode cX7_fits 9 = .ok (.iadd, 1) := by decide +kernel
theorem dX7_fits_10 : decode cX7_fits 10 = .ok (.iaload, 1) := by decide +kernel
theorem dX7_fits_11 : decode cX7_fits 11 = .ok (.iload_n 2, 1) := by decide +kernel
theorem dX7_fits_12 : decode cX7_fits 12 = .ok (.iload_n 3, 1) := by decide +kernel
theorem dX7_fits_13 : decode cX7_fits 13 = .ok (.iload 4, 2) := by decide +kernel
theorem dX7_fits_15 : decode cX7_fits 15 = .ok (.invokestatic 137, 3) := by decide +kernel
theorem dX7_fits_18 : decode cX7_fits 18 = .ok (.istore 8, 2) := by decide +kernel
theorem dX7_fits_20 : decode cX7_fits 20 = .ok (.iconst 0, 1) := by decide +kernel
theorem dX7_fits_21 : decode cX7_fits 21 = .ok (.istore 9, 2) := by decide +kernel
theorem dX7_fits_23 : decode cX7_fits 23 = .ok (.iload 9, 2) := by decide +kernel
theorem dX7_fits_25 : decode cX7_fits 25 = .ok (.aload_n 0, 1) := by decide +kernel
theorem dX7_fits_26 : decode cX7_fits 26 = .ok (.getfield 22, 3) := by decide +kernel
theorem dX7_fits_29 : decode cX7_fits 29 = .ok (.iconst 3, 1) := by decide +kernel
theorem dX7_fits_30 : decode cX7_fits 30 = .ok (.iaload, 1) := by decide +kernel
theorem dX7_fits_31 : decode cX7_fits 31 = .ok (.if_icmp .ge 104, 3) := by decide +kernel
theorem dX7_fits_34 : decode cX7_fits 34 = .ok (.iload 8, 2) := by decide +kernel
theorem dX7_fits_36 : decode cX7_fits 36 = .ok (.aload_n 0, 1) := by decide +kernel
theorem dX7_fits_37 : decode cX7_fits 37 = .ok (.getfield 22, 3) := by decide +kernel
theorem dX7_fits_40 : decode cX7_fits 40 = .ok (.bipush 29, 2) := by decide +kernel
theorem dX7_fits_42 : decode cX7_fits 42 = .ok (.iload 9, 2) := by decide +kernel
theorem dX7_fits_44 : decode cX7_fits 44 = .ok (.iadd, 1) := by decide +kernel
theorem dX7_fits_45 : decode cX7_fits 45 = .ok (.iaload, 1) := by decide +kernel
theorem dX7_fits_46 : decode cX7_fits 46 = .ok (.aload_n 0, 1) := by decide +kernel
theorem dX7_fits_47 : decode cX7_fits 47 = .ok (.getfield 22, 3) := by decide +kernel
theorem dX7_fits_50 : decode cX7_fits 50 = .ok (.bipush 35, 2) := by decide +kernel
theorem dX7_fits_52 : decode cX7_fits 52 = .ok (.iload 9, 2) := by decide +kernel
theorem dX7_fits_54 : decode cX7_fits 54 = .ok (.iadd, 1) := by decide +kernel
theorem dX7_fits_55 : decode cX7_fits 55 = .ok (.iaload, 1) := by decide +kernel
theorem dX7_fits_56 : decode cX7_fits 56 = .ok (.iload_n 2, 1) := by decide +kernel
theorem dX7_fits_57 : decode cX7_fits 57 = .ok (.iload_n 3, 1) := by decide +kernel
theorem dX7_fits_58 : decode cX7_fits 58 = .ok (.iload 4, 2) := by decide +kernel
theorem dX7_fits_60 : decode cX7_fits 60 = .ok (.invokestatic 141, 3) := by decide +kernel
theorem dX7_fits_63 : decode cX7_fits 63 = .ok (.if_icmp .gt 7, 3) := by decide +kernel
theorem dX7_fits_66 : decode cX7_fits 66 = .ok (.iconst 1, 1) := by decide +kernel
theorem dX7_fits_67 : decode cX7_fits 67 = .ok (.goto 4, 3) := by decide +kernel
theorem dX7_fits_70 : decode cX7_fits 70 = .ok (.iconst 0, 1) := by decide +kernel
theorem dX7_fits_71 : decode cX7_fits 71 = .ok (.istore 10, 2) := by decide +kernel
theorem dX7_fits_73 : decode cX7_fits 73 = .ok (.iload 7, 2) := by decide +kernel
theorem dX7_fits_75 : decode cX7_fits 75 = .ok (.ifCond .eq 51, 3) := by decide +kernel
theorem dX7_fits_78 : decode cX7_fits 78 = .ok (.aload_n 0, 1) := by decide +kernel
theorem dX7_fits_79 : decode cX7_fits 79 = .ok (.getfield 22, 3) := by decide +kernel
theorem dX7_fits_82 : decode cX7_fits 82 = .ok (.bipush 41, 2) := by decide +kernel
theorem dX7_fits_84 : decode cX7_fits 84 = .ok (.iload 9, 2) := by decide +kernel
theorem dX7_fits_86 : decode cX7_fits 86 = .ok (.iadd, 1) := by decide +kernel
theorem dX7_fits_87 : decode cX7_fits 87 = .ok (.iaload, 1) := by decide +kernel
theorem dX7_fits_88 : decode cX7_fits 88 = .ok (.iload_n 1, 1) := by decide +kernel
theorem dX7_fits_89 : decode cX7_fits 89 = .ok (.if_icmp .ne 33, 3) := by decide +kernel
theorem dX7_fits_92 : decode cX7_fits 92 = .ok (.iload 5, 2) := by decide +kernel
theorem dX7_fits_94 : decode cX7_fits 94 = .ok (.iload 9, 2) := by decide +kernel
theorem dX7_fits_96 : decode cX7_fits 96 = .ok (.invokestatic 159, 3) := by decide +kernel
theorem dX7_fits_99 : decode cX7_fits 99 = .ok (.ifCond .eq 8, 3) := by decide +kernel
theorem dX7_fits_102 : decode cX7_fits 102 = .ok (.iload 10, 2) := by decide +kernel
theorem dX7_fits_104 : decode cX7_fits 104 = .ok (.ifCond .eq 22, 3) := by decide +kernel
theorem dX7_fits_107 : decode cX7_fits 107 = .ok (.iload 6, 2) := by decide +kernel
theorem dX7_fits_109 : decode cX7_fits 109 = .ok (.iload 9, 2) := by decide +kernel
theorem dX7_fits_111 : decode cX7_fits 111 = .ok (.invokestatic 159, 3) := by decide +kernel
theorem dX7_fits_114 : decode cX7_fits 114 = .ok (.ifCond .eq 8, 3) := by decide +kernel
theorem dX7_fits_117 : decode cX7_fits 117 = .ok (.iload 10, 2) := by decide +kernel
theorem dX7_fits_119 : decode cX7_fits 119 = .ok (.ifCond .ne 7, 3) := by decide +kernel
theorem dX7_fits_122 : decode cX7_fits 122 = .ok (.iconst 1, 1) := by decide +kernel
theorem dX7_fits_123 : decode cX7_fits 123 = .ok (.goto 4, 3) := by decide +kernel
theorem dX7_fits_126 : decode cX7_fits 126 = .ok (.iconst 0, 1) := by decide +kernel
theorem dX7_fits_127 : decode cX7_fits 127 = .ok (.istore 7, 2) := by decide +kernel
theorem dX7_fits_129 : decode cX7_fits 129 = .ok (.iinc 9 1, 3) := by decide +kernel
theorem dX7_fits_132 : decode cX7_fits 132 = .ok (.goto (-109), 3) := by decide +kernel
theorem dX7_fits_135 : decode cX7_fits 135 = .ok (.iload 7, 2) := by decide +kernel
theorem dX7_fits_137 : decode cX7_fits 137 = .ok (.ireturn, 1) := by decide +kernel
theorem dX7_costBy_0 : decode cX7_costBy 0 = .ok (.sipush 9999, 3) := by decide +kernel
theorem dX7_costBy_3 : decode cX7_costBy 3 = .ok (.istore 7, 2) := by decide +kernel
theorem dX7_costBy_5 : decode cX7_costBy 5 = .ok (.iload_n 1, 1) := by decide +kernel
theorem dX7_costBy_6 : decode cX7_costBy 6 = .ok (.iconst 1, 1) := by decide +kernel
theorem dX7_costBy_7 : decode cX7_costBy 7 = .ok (.iadd, 1) := by decide +kernel
theorem dX7_costBy_8 : decode cX7_costBy 8 = .ok (.aload_n 0, 1) := by decide +kernel
theorem dX7_costBy_9 : decode cX7_costBy 9 = .ok (.getfield 22, 3) := by decide +kernel
theorem dX7_costBy_12 : decode cX7_costBy 12 = .ok (.iconst 2, 1) := by decide +kernel
theorem dX7_costBy_13 : decode cX7_costBy 13 = .ok (.iaload, 1) := by decide +kernel
theorem dX7_costBy_14 : decode cX7_costBy 14 = .ok (.if_icmp .ne 7, 3) := by decide +kernel
theorem dX7_costBy_17 : decode cX7_costBy 17 = .ok (.iconst 1, 1) := by decide +kernel
theorem dX7_costBy_18 : decode cX7_costBy 18 = .ok (.goto 4, 3) := by decide +kernel
theorem dX7_costBy_21 : decode cX7_costBy 21 = .ok (.iconst 0, 1) := by decide +kernel
theorem dX7_costBy_22 : decode cX7_costBy 22 = .ok (.istore 8, 2) := by decide +kernel
theorem dX7_costBy_24 : decode cX7_costBy 24 = .ok (.iconst 0, 1) := by decide +kernel
theorem dX7_costBy_25 : decode cX7_costBy 25 = .ok (.istore 9, 2) := by decide +kernel
theorem dX7_costBy_27 : decode cX7_costBy 27 = .ok (.iload 9, 2) := by decide +kernel
theorem dX7_costBy_29 : decode cX7_costBy 29 = .ok (.iload 8, 2) := by decide +kernel
theorem dX7_costBy_31 : decode cX7_costBy 31 = .ok (.ifCond .eq 7, 3) := by decide +kernel
theorem dX7_costBy_34 : decode cX7_costBy 34 = .ok (.iconst 1, 1) := by decide +kernel
theorem dX7_costBy_35 : decode cX7_costBy 35 = .ok (.goto 4, 3) := by decide +kernel
theorem dX7_costBy_38 : decode cX7_costBy 38 = .ok (.iconst 2, 1) := by decide +kernel
theorem dX7_costBy_39 : decode cX7_costBy 39 = .ok (.if_icmp .ge 104, 3) := by decide +kernel
theorem dX7_costBy_42 : decode cX7_costBy 42 = .ok (.iload_n 2, 1) := by decide +kernel
theorem dX7_costBy_43 : decode cX7_costBy 43 = .ok (.ifCond .gt 9, 3) := by decide +kernel
theorem dX7_costBy_46 : decode cX7_costBy 46 = .ok (.iload 9, 2) := by decide +kernel
theorem dX7_costBy_48 : decode cX7_costBy 48 = .ok (.iconst 1, 1) := by decide +kernel
theorem dX7_costBy_49 : decode cX7_costBy 49 = .ok (.if_icmp .ne 7, 3) := by decide +kernel
theorem dX7_costBy_52 : decode cX7_costBy 52 = .ok (.iconst 1, 1) := by decide +kernel
theorem dX7_costBy_53 : decode cX7_costBy 53 = .ok (.goto 4, 3) := by decide +kernel
theorem dX7_costBy_56 : decode cX7_costBy 56 = .ok (.iconst 0, 1) := by decide +kernel
theorem dX7_costBy_57 : decode cX7_costBy 57 = .ok (.istore 10, 2) := by decide +kernel
theorem dX7_costBy_59 : decode cX7_costBy 59 = .ok (.aload_n 0, 1) := by decide +kernel
theorem dX7_costBy_60 : decode cX7_costBy 60 = .ok (.iload_n 1, 1) := by decide +kernel
theorem dX7_costBy_61 : decode cX7_costBy 61 = .ok (.iload_n 3, 1) := by decide +kernel
theorem dX7_costBy_62 : decode cX7_costBy 62 = .ok (.iload 4, 2) := by decide +kernel
theorem dX7_costBy_64 : decode cX7_costBy 64 = .ok (.iload 10, 2) := by decide +kernel
theorem dX7_costBy_66 : decode cX7_costBy 66 = .ok (.iload 5, 2) := by decide +kernel
theorem dX7_costBy_68 : decode cX7_costBy 68 = .ok (.iload 6, 2) := by decide +kernel
theorem dX7_costBy_70 : decode cX7_costBy 70 = .ok (.invokevirtual 189, 3) := by decide +kernel
theorem dX7_costBy_73 : decode cX7_costBy 73 = .ok (.ifCond .eq 43, 3) := by decide +kernel
theorem dX7_costBy_76 : decode cX7_costBy 76 = .ok (.iload_n 3, 1) := by decide +kernel
theorem dX7_costBy_77 : decode cX7_costBy 77 = .ok (.iload 4, 2) := by decide +kernel
theorem dX7_costBy_79 : decode cX7_costBy 79 = .ok (.iadd, 1) := by decide +kernel
theorem dX7_costBy_80 : decode cX7_costBy 80 = .ok (.iload_n 2, 1) := by decide +kernel
theorem dX7_costBy_81 : decode cX7_costBy 81 = .ok (.iconst 2, 1) := by decide +kernel
theorem dX7_costBy_82 : decode cX7_costBy 82 = .ok (.irem, 1) := by decide +kernel
theorem dX7_costBy_83 : decode cX7_costBy 83 = .ok (.iadd, 1) := by decide +kernel
theorem dX7_costBy_84 : decode cX7_costBy 84 = .ok (.iload 8, 2) := by decide +kernel
theorem dX7_costBy_86 : decode cX7_costBy 86 = .ok (.ifCond .eq 7, 3) := by decide +kernel
theorem dX7_costBy_89 : decode cX7_costBy 89 = .ok (.iconst 0, 1) := by decide +kernel
theorem dX7_costBy_90 : decode cX7_costBy 90 = .ok (.goto 22, 3) := by decide +kernel
theorem dX7_costBy_93 : decode cX7_costBy 93 = .ok (.aload_n 0, 1) := by decide +kernel
theorem dX7_costBy_94 : decode cX7_costBy 94 = .ok (.getfield 47, 3) := by decide +kernel
theorem dX7_costBy_97 : decode cX7_costBy 97 = .ok (.iconst 4, 1) := by decide +kernel
theorem dX7_costBy_98 : decode cX7_costBy 98 = .ok (.iload_n 1, 1) := by decide +kernel
theorem dX7_costBy_99 : decode cX7_costBy 99 = .ok (.imul, 1) := by decide +kernel
theorem dX7_costBy_100 : decode cX7_costBy 100 = .ok (.iconst 4, 1) := by decide +kernel
theorem dX7_costBy_101 : decode cX7_costBy 101 = .ok (.iadd, 1) := by decide +kernel
theorem dX7_costBy_102 : decode cX7_costBy 102 = .ok (.iload_n 2, 1) := by decide +kernel
theorem dX7_costBy_103 : decode cX7_costBy 103 = .ok (.iconst 2, 1) := by decide +kernel
theorem dX7_costBy_104 : decode cX7_costBy 104 = .ok (.irem, 1) := by decide +kernel
theorem dX7_costBy_105 : decode cX7_costBy 105 = .ok (.iconst 2, 1) := by decide +kernel
theorem dX7_costBy_106 : decode cX7_costBy 106 = .ok (.imul, 1) := by decide +kernel
theorem dX7_costBy_107 : decode cX7_costBy 107 = .ok (.iadd, 1) := by decide +kernel
theorem dX7_costBy_108 : decode cX7_costBy 108 = .ok (.iload 9, 2) := by decide +kernel
theorem dX7_costBy_110 : decode cX7_costBy 110 = .ok (.iadd, 1) := by decide +kernel
theorem dX7_costBy_111 : decode cX7_costBy 111 = .ok (.iaload, 1) := by decide +kernel
theorem dX7_costBy_112 : decode cX7_costBy 112 = .ok (.iadd, 1) := by decide +kernel
theorem dX7_costBy_113 : decode cX7_costBy 113 = .ok (.goto 6, 3) := by decide +kernel
theorem dX7_costBy_116 : decode cX7_costBy 116 = .ok (.sipush 9999, 3) := by decide +kernel
theorem dX7_costBy_119 : decode cX7_costBy 119 = .ok (.istore 11, 2) := by decide +kernel
theorem dX7_costBy_121 : decode cX7_costBy 121 = .ok (.iload 11, 2) := by decide +kernel
theorem dX7_costBy_123 : decode cX7_costBy 123 = .ok (.iload 7, 2) := by decide +kernel
theorem dX7_costBy_125 : decode cX7_costBy 125 = .ok (.if_icmp .ge 8, 3) := by decide +kernel
theorem dX7_costBy_128 : decode cX7_costBy 128 = .ok (.iload 11, 2) := by decide +kernel
theorem dX7_costBy_130 : decode cX7_costBy 130 = .ok (.goto 5, 3) := by decide +kernel
theorem dX7_costBy_133 : decode cX7_costBy 133 = .ok (.iload 7, 2) := by decide +kernel
theorem dX7_costBy_135 : decode cX7_costBy 135 = .ok (.istore 7, 2) := by decide +kernel
theorem dX7_costBy_137 : decode cX7_costBy 137 = .ok (.iinc 9 1, 3) := by decide +kernel
theorem dX7_costBy_140 : decode cX7_costBy 140 = .ok (.goto (-113), 3) := by decide +kernel
theorem dX7_costBy_143 : decode cX7_costBy 143 = .ok (.iload 7, 2) := by decide +kernel
theorem dX7_costBy_145 : decode cX7_costBy 145 = .ok (.ireturn, 1) := by decide +kernel
theorem dX7_layCosts_0 : decode cX7_layCosts 0 = .ok (.aload_n 0, 1) := by decide +kernel
theorem dX7_layCosts_1 : decode cX7_layCosts 1 = .ok (.getfield 22, 3) := by decide +kernel
theorem dX7_layCosts_4 : decode cX7_layCosts 4 = .ok (.iconst 2, 1) := by decide +kernel
theorem dX7_layCosts_5 : decode cX7_layCosts 5 = .ok (.iaload, 1) := by decide +kernel
theorem dX7_layCosts_6 : decode cX7_layCosts 6 = .ok (.iconst 1, 1) := by decide +kernel
theorem dX7_layCosts_7 : decode cX7_layCosts 7 = .ok (.isub, 1) := by decide +kernel
theorem dX7_layCosts_8 : decode cX7_layCosts 8 = .ok (.istore_n 3, 1) := by decide +kernel
theorem dX7_layCosts_9 : decode cX7_layCosts 9 = .ok (.iload_n 3, 1) := by decide +kernel
theorem dX7_layCosts_10 : decode cX7_layCosts 10 = .ok (.ifCond .lt 93, 3) := by decide +kernel
theorem dX7_layCosts_13 : decode cX7_layCosts 13 = .ok (.iconst 0, 1) := by decide +kernel
theorem dX7_layCosts_14 : decode cX7_layCosts 14 = .ok (.istore 4, 2) := by decide +kernel
theorem dX7_layCosts_16 : decode cX7_layCosts 16 = .ok (.iload 4, 2) := by decide +kernel
theorem dX7_layCosts_18 : decode cX7_layCosts 18 = .ok (.iconst 4, 1) := by decide +kernel
theorem dX7_layCosts_19 : decode cX7_layCosts 19 = .ok (.if_icmp .ge 78, 3) := by decide +kernel
theorem dX7_layCosts_22 : decode cX7_layCosts 22 = .ok (.sipush 9999, 3) := by decide +kernel
theorem dX7_layCosts_25 : decode cX7_layCosts 25 = .ok (.istore 5, 2) := by decide +kernel
theorem dX7_layCosts_27 : decode cX7_layCosts 27 = .ok (.iconst 0, 1) := by decide +kernel
theorem dX7_layCosts_28 : decode cX7_layCosts 28 = .ok (.istore 6, 2) := by decide +kernel
theorem dX7_layCosts_30 : decode cX7_layCosts 30 = .ok (.iload 6, 2) := by decide +kernel
theorem dX7_layCosts_32 : decode cX7_layCosts 32 = .ok (.bipush 12, 2) := by decide +kernel
theorem dX7_layCosts_34 : decode cX7_layCosts 34 = .ok (.if_icmp .ge 44, 3) := by decide +kernel
theorem dX7_layCosts_37 : decode cX7_layCosts 37 = .ok (.aload_n 0, 1) := by decide +kernel
theorem dX7_layCosts_38 : decode cX7_layCosts 38 = .ok (.iload_n 3, 1) := by decide +kernel
theorem dX7_layCosts_39 : decode cX7_layCosts 39 = .ok (.iload 4, 2) := by decide +kernel
theorem dX7_layCosts_41 : decode cX7_layCosts 41 = .ok (.iload 6, 2) := by decide +kernel
theorem dX7_layCosts_43 : decode cX7_layCosts 43 = .ok (.iconst 2, 1) := by decide +kernel
theorem dX7_layCosts_44 : decode cX7_layCosts 44 = .ok (.idiv, 1) := by decide +kernel
theorem dX7_layCosts_45 : decode cX7_layCosts 45 = .ok (.iload 6, 2) := by decide +kernel
theorem dX7_layCosts_47 : decode cX7_layCosts 47 = .ok (.iconst 2, 1) := by decide +kernel
theorem dX7_layCosts_48 : decode cX7_layCosts 48 = .ok (.irem, 1) := by decide +kernel
theorem dX7_layCosts_49 : decode cX7_layCosts 49 = .ok (.iload_n 1, 1) := by decide +kernel
theorem dX7_layCosts_50 : decode cX7_layCosts 50 = .ok (.iload_n 2, 1) := by decide +kernel
theorem dX7_layCosts_51 : decode cX7_layCosts 51 = .ok (.invokevirtual 193, 3) := by decide +kernel
theorem dX7_layCosts_54 : decode cX7_layCosts 54 = .ok (.istore 7, 2) := by decide +kernel
theorem dX7_layCosts_56 : decode cX7_layCosts 56 = .ok (.iload 7, 2) := by decide +kernel
theorem dX7_layCosts_58 : decode cX7_layCosts 58 = .ok (.iload 5, 2) := by decide +kernel
theorem dX7_layCosts_60 : decode cX7_layCosts 60 = .ok (.if_icmp .ge 8, 3) := by decide +kernel
theorem dX7_layCosts_63 : decode cX7_layCosts 63 = .ok (.iload 7, 2) := by decide +kernel
theorem dX7_layCosts_65 : decode cX7_layCosts 65 = .ok (.goto 5, 3) := by decide +kernel
theorem dX7_layCosts_68 : decode cX7_layCosts 68 = .ok (.iload 5, 2) := by decide +kernel
theorem dX7_layCosts_70 : decode cX7_layCosts 70 = .ok (.istore 5, 2) := by decide +kernel
theorem dX7_layCosts_72 : decode cX7_layCosts 72 = .ok (.iinc 6 1, 3) := by decide +kernel
theorem dX7_layCosts_75 : decode cX7_layCosts 75 = .ok (.goto (-45), 3) := by decide +kernel
theorem dX7_layCosts_78 : decode cX7_layCosts 78 = .ok (.aload_n 0, 1) := by decide +kernel
theorem dX7_layCosts_79 : decode cX7_layCosts 79 = .ok (.getfield 47, 3) := by decide +kernel
theorem dX7_layCosts_82 : decode cX7_layCosts 82 = .ok (.iconst 4, 1) := by decide +kernel
theorem dX7_layCosts_83 : decode cX7_layCosts 83 = .ok (.iload_n 3, 1) := by decide +kernel
theorem dX7_layCosts_84 : decode cX7_layCosts 84 = .ok (.imul, 1) := by decide +kernel
theorem dX7_layCosts_85 : decode cX7_layCosts 85 = .ok (.iload 4, 2) := by decide +kernel
theorem dX7_layCosts_87 : decode cX7_layCosts 87 = .ok (.iadd, 1) := by decide +kernel
theorem dX7_layCosts_88 : decode cX7_layCosts 88 = .ok (.iload 5, 2) := by decide +kernel
theorem dX7_layCosts_90 : decode cX7_layCosts 90 = .ok (.iastore, 1) := by decide +kernel
theorem dX7_layCosts_91 : decode cX7_layCosts 91 = .ok (.iinc 4 1, 3) := by decide +kernel
theorem dX7_layCosts_94 : decode cX7_layCosts 94 = .ok (.goto (-78), 3) := by decide +kernel
theorem dX7_layCosts_97 : decode cX7_layCosts 97 = .ok (.iinc 3 (-1), 3) := by decide +kernel
theorem dX7_layCosts_100 : decode cX7_layCosts 100 = .ok (.goto (-91), 3) := by decide +kernel
theorem dX7_layCosts_103 : decode cX7_layCosts 103 = .ok (.return_, 1) := by decide +kernel
theorem dX7_layLeast_0 : decode cX7_layLeast 0 = .ok (.aload_n 0, 1) := by decide +kernel
theorem dX7_layLeast_1 : decode cX7_layLeast 1 = .ok (.iload_n 1, 1) := by decide +kernel
theorem dX7_layLeast_2 : decode cX7_layLeast 2 = .ok (.iload_n 2, 1) := by decide +kernel
theorem dX7_layLeast_3 : decode cX7_layLeast 3 = .ok (.invokevirtual 197, 3) := by decide +kernel
theorem dX7_layLeast_6 : decode cX7_layLeast 6 = .ok (.aload_n 0, 1) := by decide +kernel
theorem dX7_layLeast_7 : decode cX7_layLeast 7 = .ok (.getfield 47, 3) := by decide +kernel
theorem dX7_layLeast_10 : decode cX7_layLeast 10 = .ok (.iconst 0, 1) := by decide +kernel
theorem dX7_layLeast_11 : decode cX7_layLeast 11 = .ok (.iaload, 1) := by decide +kernel
theorem dX7_layLeast_12 : decode cX7_layLeast 12 = .ok (.aload_n 0, 1) := by decide +kernel
theorem dX7_layLeast_13 : decode cX7_layLeast 13 = .ok (.getfield 47, 3) := by decide +kernel
theorem dX7_layLeast_16 : decode cX7_layLeast 16 = .ok (.iconst 1, 1) := by decide +kernel
theorem dX7_layLeast_17 : decode cX7_layLeast 17 = .ok (.iaload, 1) := by decide +kernel
theorem dX7_layLeast_18 : decode cX7_layLeast 18 = .ok (.if_icmp .ge 12, 3) := by decide +kernel
theorem dX7_layLeast_21 : decode cX7_layLeast 21 = .ok (.aload_n 0, 1) := by decide +kernel
theorem dX7_layLeast_22 : decode cX7_layLeast 22 = .ok (.getfield 47, 3) := by decide +kernel
theorem dX7_layLeast_25 : decode cX7_layLeast 25 = .ok (.iconst 0, 1) := by decide +kernel
theorem dX7_layLeast_26 : decode cX7_layLeast 26 = .ok (.iaload, 1) := by decide +kernel
theorem dX7_layLeast_27 : decode cX7_layLeast 27 = .ok (.goto 9, 3) := by decide +kernel
theorem dX7_layLeast_30 : decode cX7_layLeast 30 = .ok (.aload_n 0, 1) := by decide +kernel
theorem dX7_layLeast_31 : decode cX7_layLeast 31 = .ok (.getfield 47, 3) := by decide +kernel
theorem dX7_layLeast_34 : decode cX7_layLeast 34 = .ok (.iconst 1, 1) := by decide +kernel
theorem dX7_layLeast_35 : decode cX7_layLeast 35 = .ok (.iaload, 1) := by decide +kernel
theorem dX7_layLeast_36 : decode cX7_layLeast 36 = .ok (.istore_n 3, 1) := by decide +kernel
theorem dX7_layLeast_37 : decode cX7_layLeast 37 = .ok (.iload_n 3, 1) := by decide +kernel
theorem dX7_layLeast_38 : decode cX7_layLeast 38 = .ok (.sipush 9999, 3) := by decide +kernel
theorem dX7_layLeast_41 : decode cX7_layLeast 41 = .ok (.if_icmp .lt 7, 3) := by decide +kernel
theorem dX7_layLeast_44 : decode cX7_layLeast 44 = .ok (.sipush 9999, 3) := by decide +kernel
theorem dX7_layLeast_47 : decode cX7_layLeast 47 = .ok (.ireturn, 1) := by decide +kernel
theorem dX7_layLeast_48 : decode cX7_layLeast 48 = .ok (.iload_n 3, 1) := by decide +kernel
theorem dX7_layLeast_49 : decode cX7_layLeast 49 = .ok (.istore 4, 2) := by decide +kernel
theorem dX7_layLeast_51 : decode cX7_layLeast 51 = .ok (.iconst 0, 1) := by decide +kernel
theorem dX7_layLeast_52 : decode cX7_layLeast 52 = .ok (.istore 5, 2) := by decide +kernel
theorem dX7_layLeast_54 : decode cX7_layLeast 54 = .ok (.iconst (-1), 1) := by decide +kernel
theorem dX7_layLeast_55 : decode cX7_layLeast 55 = .ok (.istore 6, 2) := by decide +kernel
theorem dX7_layLeast_57 : decode cX7_layLeast 57 = .ok (.iconst 0, 1) := by decide +kernel
theorem dX7_layLeast_58 : decode cX7_layLeast 58 = .ok (.istore 7, 2) := by decide +kernel
theorem dX7_layLeast_60 : decode cX7_layLeast 60 = .ok (.iconst 0, 1) := by decide +kernel
theorem dX7_layLeast_61 : decode cX7_layLeast 61 = .ok (.istore 8, 2) := by decide +kernel
theorem dX7_layLeast_63 : decode cX7_layLeast 63 = .ok (.iconst 0, 1) := by decide +kernel
theorem dX7_layLeast_64 : decode cX7_layLeast 64 = .ok (.istore 9, 2) := by decide +kernel
theorem dX7_layLeast_66 : decode cX7_layLeast 66 = .ok (.iload 9, 2) := by decide +kernel
theorem dX7_layLeast_68 : decode cX7_layLeast 68 = .ok (.aload_n 0, 1) := by decide +kernel
theorem dX7_layLeast_69 : decode cX7_layLeast 69 = .ok (.getfield 22, 3) := by decide +kernel
theorem dX7_layLeast_72 : decode cX7_layLeast 72 = .ok (.iconst 2, 1) := by decide +kernel
theorem dX7_layLeast_73 : decode cX7_layLeast 73 = .ok (.iaload, 1) := by decide +kernel
theorem dX7_layLeast_74 : decode cX7_layLeast 74 = .ok (.if_icmp .ge 191, 3) := by decide +kernel
theorem dX7_layLeast_77 : decode cX7_layLeast 77 = .ok (.iconst 0, 1) := by decide +kernel
theorem dX7_layLeast_78 : decode cX7_layLeast 78 = .ok (.istore 10, 2) := by decide +kernel
theorem dX7_layLeast_80 : decode cX7_layLeast 80 = .ok (.iconst 0, 1) := by decide +kernel
theorem dX7_layLeast_81 : decode cX7_layLeast 81 = .ok (.istore 11, 2) := by decide +kernel
theorem dX7_layLeast_83 : decode cX7_layLeast 83 = .ok (.iload 11, 2) := by decide +kernel
theorem dX7_layLeast_85 : decode cX7_layLeast 85 = .ok (.bipush 24, 2) := by decide +kernel
theorem dX7_layLeast_87 : decode cX7_layLeast 87 = .ok (.if_icmp .ge 120, 3) := by decide +kernel
theorem dX7_layLeast_90 : decode cX7_layLeast 90 = .ok (.iload 10, 2) := by decide +kernel
theorem dX7_layLeast_92 : decode cX7_layLeast 92 = .ok (.ifCond .ne 115, 3) := by decide +kernel
theorem dX7_layLeast_95 : decode cX7_layLeast 95 = .ok (.iload 11, 2) := by decide +kernel
theorem dX7_layLeast_97 : decode cX7_layLeast 97 = .ok (.iconst 2, 1) := by decide +kernel
theorem dX7_layLeast_98 : decode cX7_layLeast 98 = .ok (.irem, 1) := by decide +kernel
theorem dX7_layLeast_99 : decode cX7_layLeast 99 = .ok (.istore 12, 2) := by decide +kernel
theorem dX7_layLeast_101 : decode cX7_layLeast 101 = .ok (.iconst 2, 1) := by decide +kernel
theorem dX7_layLeast_102 : decode cX7_layLeast 102 = .ok (.iload 5, 2) := by decide +kernel
theorem dX7_layLeast_104 : decode cX7_layLeast 104 = .ok (.imul, 1) := by decide +kernel
theorem dX7_layLeast_105 : decode cX7_layLeast 105 = .ok (.iload 12, 2) := by decide +kernel
theorem dX7_layLeast_107 : decode cX7_layLeast 107 = .ok (.iadd, 1) := by decide +kernel
theorem dX7_layLeast_108 : decode cX7_layLeast 108 = .ok (.istore 13, 2) := by decide +kernel
theorem dX7_layLeast_110 : decode cX7_layLeast 110 = .ok (.iload 6, 2) := by decide +kernel
theorem dX7_layLeast_112 : decode cX7_layLeast 112 = .ok (.ifCond .lt 40, 3) := by decide +kernel
theorem dX7_layLeast_115 : decode cX7_layLeast 115 = .ok (.aload_n 0, 1) := by decide +kernel
theorem dX7_layLeast_116 : decode cX7_layLeast 116 = .ok (.iload 9, 2) := by decide +kernel
theorem dX7_layLeast_118 : decode cX7_layLeast 118 = .ok (.iconst 1, 1) := by decide +kernel
theorem dX7_layLeast_119 : decode cX7_layLeast 119 = .ok (.isub, 1) := by decide +kernel
theorem dX7_layLeast_120 : decode cX7_layLeast 120 = .ok (.iload 6, 2) := by decide +kernel
theorem dX7_layLeast_122 : decode cX7_layLeast 122 = .ok (.iload 7, 2) := by decide +kernel
theorem dX7_layLeast_124 : decode cX7_layLeast 124 = .ok (.iload 8, 2) := by decide +kernel
theorem dX7_layLeast_126 : decode cX7_layLeast 126 = .ok (.ifCond .gt 13, 3) := by decide +kernel
theorem dX7_layLeast_129 : decode cX7_layLeast 129 = .ok (.iload 5, 2) := by decide +kernel
theorem dX7_layLeast_131 : decode cX7_layLeast 131 = .ok (.ifCond .gt 8, 3) := by decide +kernel
theorem dX7_layLeast_134 : decode cX7_layLeast 134 = .ok (.iload 12, 2) := by decide +kernel
theorem dX7_layLeast_136 : decode cX7_layLeast 136 = .ok (.ifCond .le 7, 3) := by decide +kernel
theorem dX7_layLeast_139 : decode cX7_layLeast 139 = .ok (.iconst 1, 1) := by decide +kernel
theorem dX7_layLeast_140 : decode cX7_layLeast 140 = .ok (.goto 4, 3) := by decide +kernel
theorem dX7_layLeast_143 : decode cX7_layLeast 143 = .ok (.iconst 0, 1) := by decide +kernel
theorem dX7_layLeast_144 : decode cX7_layLeast 144 = .ok (.iload_n 1, 1) := by decide +kernel
theorem dX7_layLeast_145 : decode cX7_layLeast 145 = .ok (.iload_n 2, 1) := by decide +kernel
theorem dX7_layLeast_146 : decode cX7_layLeast 146 = .ok (.invokevirtual 189, 3) := by decide +kernel
theorem dX7_layLeast_149 : decode cX7_layLeast 149 = .ok (.ifCond .eq 7, 3) := by decide +kernel
theorem dX7_layLeast_152 : decode cX7_layLeast 152 = .ok (.iconst 1, 1) := by decide +kernel
theorem dX7_layLeast_153 : decode cX7_layLeast 153 = .ok (.goto 4, 3) := by decide +kernel
theorem dX7_layLeast_156 : decode cX7_layLeast 156 = .ok (.iconst 0, 1) := by decide +kernel
theorem dX7_layLeast_157 : decode cX7_layLeast 157 = .ok (.istore 14, 2) := by decide +kernel
theorem dX7_layLeast_159 : decode cX7_layLeast 159 = .ok (.iload 14, 2) := by decide +kernel
theorem dX7_layLeast_161 : decode cX7_layLeast 161 = .ok (.ifCond .eq 40, 3) := by decide +kernel
theorem dX7_layLeast_164 : decode cX7_layLeast 164 = .ok (.aload_n 0, 1) := by decide +kernel
theorem dX7_layLeast_165 : decode cX7_layLeast 165 = .ok (.iload 9, 2) := by decide +kernel
theorem dX7_layLeast_167 : decode cX7_layLeast 167 = .ok (.iload 13, 2) := by decide +kernel
theorem dX7_layLeast_169 : decode cX7_layLeast 169 = .ok (.iload 11, 2) := by decide +kernel
theorem dX7_layLeast_171 : decode cX7_layLeast 171 = .ok (.iconst 4, 1) := by decide +kernel
