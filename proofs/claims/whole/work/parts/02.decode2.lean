theorem dX5_takeOver_20 : decode cX5_takeOver 20 = .ok (.aload_n 0, 1) := by decide +kernel
theorem dX5_takeOver_21 : decode cX5_takeOver 21 = .ok (.getfield 15, 3) := by decide +kernel
theorem dX5_takeOver_24 : decode cX5_takeOver 24 = .ok (.iconst 0, 1) := by decide +kernel
theorem dX5_takeOver_25 : decode cX5_takeOver 25 = .ok (.bipush 6, 2) := by decide +kernel
theorem dX5_takeOver_27 : decode cX5_takeOver 27 = .ok (.invokestatic 60, 3) := by decide +kernel
theorem dX5_takeOver_30 : decode cX5_takeOver 30 = .ok (.aload_n 1, 1) := by decide +kernel
theorem dX5_takeOver_31 : decode cX5_takeOver 31 = .ok (.getfield 18, 3) := by decide +kernel
theorem dX5_takeOver_34 : decode cX5_takeOver 34 = .ok (.iconst 0, 1) := by decide +kernel
theorem dX5_takeOver_35 : decode cX5_takeOver 35 = .ok (.aload_n 0, 1) := by decide +kernel
theorem dX5_takeOver_36 : decode cX5_takeOver 36 = .ok (.getfield 18, 3) := by decide +kernel
theorem dX5_takeOver_39 : decode cX5_takeOver 39 = .ok (.iconst 0, 1) := by decide +kernel
theorem dX5_takeOver_40 : decode cX5_takeOver 40 = .ok (.bipush 6, 2) := by decide +kernel
theorem dX5_takeOver_42 : decode cX5_takeOver 42 = .ok (.invokestatic 60, 3) := by decide +kernel
theorem dX5_takeOver_45 : decode cX5_takeOver 45 = .ok (.aload_n 1, 1) := by decide +kernel
theorem dX5_takeOver_46 : decode cX5_takeOver 46 = .ok (.getfield 21, 3) := by decide +kernel
theorem dX5_takeOver_49 : decode cX5_takeOver 49 = .ok (.iconst 0, 1) := by decide +kernel
theorem dX5_takeOver_50 : decode cX5_takeOver 50 = .ok (.aload_n 0, 1) := by decide +kernel
theorem dX5_takeOver_51 : decode cX5_takeOver 51 = .ok (.getfield 21, 3) := by decide +kernel
theorem dX5_takeOver_54 : decode cX5_takeOver 54 = .ok (.iconst 0, 1) := by decide +kernel
theorem dX5_takeOver_55 : decode cX5_takeOver 55 = .ok (.bipush 6, 2) := by decide +kernel
theorem dX5_takeOver_57 : decode cX5_takeOver 57 = .ok (.invokestatic 60, 3) := by decide +kernel
theorem dX5_takeOver_60 : decode cX5_takeOver 60 = .ok (.aload_n 1, 1) := by decide +kernel
theorem dX5_takeOver_61 : decode cX5_takeOver 61 = .ok (.getfield 24, 3) := by decide +kernel
theorem dX5_takeOver_64 : decode cX5_takeOver 64 = .ok (.iconst 0, 1) := by decide +kernel
theorem dX5_takeOver_65 : decode cX5_takeOver 65 = .ok (.aload_n 0, 1) := by decide +kernel
theorem dX5_takeOver_66 : decode cX5_takeOver 66 = .ok (.getfield 24, 3) := by decide +kernel
theorem dX5_takeOver_69 : decode cX5_takeOver 69 = .ok (.iconst 0, 1) := by decide +kernel
theorem dX5_takeOver_70 : decode cX5_takeOver 70 = .ok (.bipush 6, 2) := by decide +kernel
theorem dX5_takeOver_72 : decode cX5_takeOver 72 = .ok (.invokestatic 60, 3) := by decide +kernel
theorem dX5_takeOver_75 : decode cX5_takeOver 75 = .ok (.aload_n 1, 1) := by decide +kernel
theorem dX5_takeOver_76 : decode cX5_takeOver 76 = .ok (.getfield 27, 3) := by decide +kernel
theorem dX5_takeOver_79 : decode cX5_takeOver 79 = .ok (.iconst 0, 1) := by decide +kernel
theorem dX5_takeOver_80 : decode cX5_takeOver 80 = .ok (.aload_n 0, 1) := by decide +kernel
theorem dX5_takeOver_81 : decode cX5_takeOver 81 = .ok (.getfield 27, 3) := by decide +kernel
theorem dX5_takeOver_84 : decode cX5_takeOver 84 = .ok (.iconst 0, 1) := by decide +kernel
theorem dX5_takeOver_85 : decode cX5_takeOver 85 = .ok (.bipush 6, 2) := by decide +kernel
theorem dX5_takeOver_87 : decode cX5_takeOver 87 = .ok (.invokestatic 60, 3) := by decide +kernel
theorem dX5_takeOver_90 : decode cX5_takeOver 90 = .ok (.aload_n 1, 1) := by decide +kernel
theorem dX5_takeOver_91 : decode cX5_takeOver 91 = .ok (.getfield 30, 3) := by decide +kernel
theorem dX5_takeOver_94 : decode cX5_takeOver 94 = .ok (.iconst 0, 1) := by decide +kernel
theorem dX5_takeOver_95 : decode cX5_takeOver 95 = .ok (.aload_n 0, 1) := by decide +kernel
theorem dX5_takeOver_96 : decode cX5_takeOver 96 = .ok (.getfield 30, 3) := by decide +kernel
theorem dX5_takeOver_99 : decode cX5_takeOver 99 = .ok (.iconst 0, 1) := by decide +kernel
theorem dX5_takeOver_100 : decode cX5_takeOver 100 = .ok (.bipush 6, 2) := by decide +kernel
theorem dX5_takeOver_102 : decode cX5_takeOver 102 = .ok (.invokestatic 60, 3) := by decide +kernel
theorem dX5_takeOver_105 : decode cX5_takeOver 105 = .ok (.aload_n 1, 1) := by decide +kernel
theorem dX5_takeOver_106 : decode cX5_takeOver 106 = .ok (.getfield 33, 3) := by decide +kernel
theorem dX5_takeOver_109 : decode cX5_takeOver 109 = .ok (.iconst 0, 1) := by decide +kernel
theorem dX5_takeOver_110 : decode cX5_takeOver 110 = .ok (.aload_n 0, 1) := by decide +kernel
theorem dX5_takeOver_111 : decode cX5_takeOver 111 = .ok (.getfield 33, 3) := by decide +kernel
theorem dX5_takeOver_114 : decode cX5_takeOver 114 = .ok (.iconst 0, 1) := by decide +kernel
theorem dX5_takeOver_115 : decode cX5_takeOver 115 = .ok (.bipush 6, 2) := by decide +kernel
theorem dX5_takeOver_117 : decode cX5_takeOver 117 = .ok (.invokestatic 60, 3) := by decide +kernel
theorem dX5_takeOver_120 : decode cX5_takeOver 120 = .ok (.aload_n 0, 1) := by decide +kernel
theorem dX5_takeOver_121 : decode cX5_takeOver 121 = .ok (.aload_n 1, 1) := by decide +kernel
theorem dX5_takeOver_122 : decode cX5_takeOver 122 = .ok (.getfield 36, 3) := by decide +kernel
theorem dX5_takeOver_125 : decode cX5_takeOver 125 = .ok (.putfield 36, 3) := by decide +kernel
theorem dX5_takeOver_128 : decode cX5_takeOver 128 = .ok (.aload_n 0, 1) := by decide +kernel
theorem dX5_takeOver_129 : decode cX5_takeOver 129 = .ok (.aload_n 1, 1) := by decide +kernel
theorem dX5_takeOver_130 : decode cX5_takeOver 130 = .ok (.getfield 40, 3) := by decide +kernel
theorem dX5_takeOver_133 : decode cX5_takeOver 133 = .ok (.putfield 40, 3) := by decide +kernel
theorem dX5_takeOver_136 : decode cX5_takeOver 136 = .ok (.aload_n 0, 1) := by decide +kernel
theorem dX5_takeOver_137 : decode cX5_takeOver 137 = .ok (.aload_n 1, 1) := by decide +kernel
theorem dX5_takeOver_138 : decode cX5_takeOver 138 = .ok (.getfield 43, 3) := by decide +kernel
theorem dX5_takeOver_141 : decode cX5_takeOver 141 = .ok (.putfield 43, 3) := by decide +kernel
theorem dX5_takeOver_144 : decode cX5_takeOver 144 = .ok (.aload_n 0, 1) := by decide +kernel
theorem dX5_takeOver_145 : decode cX5_takeOver 145 = .ok (.aload_n 1, 1) := by decide +kernel
theorem dX5_takeOver_146 : decode cX5_takeOver 146 = .ok (.getfield 46, 3) := by decide +kernel
theorem dX5_takeOver_149 : decode cX5_takeOver 149 = .ok (.putfield 46, 3) := by decide +kernel
theorem dX5_takeOver_152 : decode cX5_takeOver 152 = .ok (.aload_n 0, 1) := by decide +kernel
theorem dX5_takeOver_153 : decode cX5_takeOver 153 = .ok (.aload_n 1, 1) := by decide +kernel
theorem dX5_takeOver_154 : decode cX5_takeOver 154 = .ok (.getfield 49, 3) := by decide +kernel
theorem dX5_takeOver_157 : decode cX5_takeOver 157 = .ok (.putfield 49, 3) := by decide +kernel
theorem dX5_takeOver_160 : decode cX5_takeOver 160 = .ok (.return_, 1) := by decide +kernel
theorem dX5_usedSeconds_0 : decode cX5_usedSeconds 0 = .ok (.aload_n 0, 1) := by decide +kernel
theorem dX5_usedSeconds_1 : decode cX5_usedSeconds 1 = .ok (.getfield 15, 3) := by decide +kernel
theorem dX5_usedSeconds_4 : decode cX5_usedSeconds 4 = .ok (.aload_n 0, 1) := by decide +kernel
theorem dX5_usedSeconds_5 : decode cX5_usedSeconds 5 = .ok (.getfield 36, 3) := by decide +kernel
theorem dX5_usedSeconds_8 : decode cX5_usedSeconds 8 = .ok (.invokestatic 66, 3) := by decide +kernel
theorem dX5_usedSeconds_11 : decode cX5_usedSeconds 11 = .ok (.ireturn, 1) := by decide +kernel
theorem dX5_usedSounds_0 : decode cX5_usedSounds 0 = .ok (.aload_n 0, 1) := by decide +kernel
theorem dX5_usedSounds_1 : decode cX5_usedSounds 1 = .ok (.getfield 18, 3) := by decide +kernel
theorem dX5_usedSounds_4 : decode cX5_usedSounds 4 = .ok (.aload_n 0, 1) := by decide +kernel
theorem dX5_usedSounds_5 : decode cX5_usedSounds 5 = .ok (.getfield 36, 3) := by decide +kernel
theorem dX5_usedSounds_8 : decode cX5_usedSounds 8 = .ok (.invokestatic 66, 3) := by decide +kernel
theorem dX5_usedSounds_11 : decode cX5_usedSounds 11 = .ok (.aload_n 0, 1) := by decide +kernel
theorem dX5_usedSounds_12 : decode cX5_usedSounds 12 = .ok (.getfield 21, 3) := by decide +kernel
theorem dX5_usedSounds_15 : decode cX5_usedSounds 15 = .ok (.aload_n 0, 1) := by decide +kernel
theorem dX5_usedSounds_16 : decode cX5_usedSounds 16 = .ok (.getfield 36, 3) := by decide +kernel
theorem dX5_usedSounds_19 : decode cX5_usedSounds 19 = .ok (.invokestatic 66, 3) := by decide +kernel
theorem dX5_usedSounds_22 : decode cX5_usedSounds 22 = .ok (.iadd, 1) := by decide +kernel
theorem dX5_usedSounds_23 : decode cX5_usedSounds 23 = .ok (.ireturn, 1) := by decide +kernel
theorem dX5_metsAdded_0 : decode cX5_metsAdded 0 = .ok (.aload_n 0, 1) := by decide +kernel
theorem dX5_metsAdded_1 : decode cX5_metsAdded 1 = .ok (.getfield 33, 3) := by decide +kernel
theorem dX5_metsAdded_4 : decode cX5_metsAdded 4 = .ok (.aload_n 0, 1) := by decide +kernel
theorem dX5_metsAdded_5 : decode cX5_metsAdded 5 = .ok (.getfield 40, 3) := by decide +kernel
theorem dX5_metsAdded_8 : decode cX5_metsAdded 8 = .ok (.invokestatic 66, 3) := by decide +kernel
theorem dX5_metsAdded_11 : decode cX5_metsAdded 11 = .ok (.ireturn, 1) := by decide +kernel
theorem dX5_placesAdded_0 : decode cX5_placesAdded 0 = .ok (.aload_n 0, 1) := by decide +kernel
theorem dX5_placesAdded_1 : decode cX5_placesAdded 1 = .ok (.getfield 27, 3) := by decide +kernel
theorem dX5_placesAdded_4 : decode cX5_placesAdded 4 = .ok (.aload_n 0, 1) := by decide +kernel
theorem dX5_placesAdded_5 : decode cX5_placesAdded 5 = .ok (.getfield 40, 3) := by decide +kernel
theorem dX5_placesAdded_8 : decode cX5_placesAdded 8 = .ok (.invokestatic 66, 3) := by decide +kernel
theorem dX5_placesAdded_11 : decode cX5_placesAdded 11 = .ok (.ireturn, 1) := by decide +kernel
theorem dX5_heardAt_0 : decode cX5_heardAt 0 = .ok (.iload_n 1, 1) := by decide +kernel
theorem dX5_heardAt_1 : decode cX5_heardAt 1 = .ok (.iconst 1, 1) := by decide +kernel
theorem dX5_heardAt_2 : decode cX5_heardAt 2 = .ok (.isub, 1) := by decide +kernel
theorem dX5_heardAt_3 : decode cX5_heardAt 3 = .ok (.istore_n 2, 1) := by decide +kernel
theorem dX5_heardAt_4 : decode cX5_heardAt 4 = .ok (.iload_n 2, 1) := by decide +kernel
theorem dX5_heardAt_5 : decode cX5_heardAt 5 = .ok (.iload_n 1, 1) := by decide +kernel
theorem dX5_heardAt_6 : decode cX5_heardAt 6 = .ok (.iconst 1, 1) := by decide +kernel
theorem dX5_heardAt_7 : decode cX5_heardAt 7 = .ok (.iadd, 1) := by decide +kernel
theorem dX5_heardAt_8 : decode cX5_heardAt 8 = .ok (.if_icmp .gt 29, 3) := by decide +kernel
theorem dX5_heardAt_11 : decode cX5_heardAt 11 = .ok (.aload_n 0, 1) := by decide +kernel
theorem dX5_heardAt_12 : decode cX5_heardAt 12 = .ok (.iload_n 2, 1) := by decide +kernel
theorem dX5_heardAt_13 : decode cX5_heardAt 13 = .ok (.invokevirtual 56, 3) := by decide +kernel
theorem dX5_heardAt_16 : decode cX5_heardAt 16 = .ok (.ifCond .eq 15, 3) := by decide +kernel
theorem dX5_heardAt_19 : decode cX5_heardAt 19 = .ok (.aload_n 0, 1) := by decide +kernel
theorem dX5_heardAt_20 : decode cX5_heardAt 20 = .ok (.getfield 21, 3) := by decide +kernel
theorem dX5_heardAt_23 : decode cX5_heardAt 23 = .ok (.iload_n 2, 1) := by decide +kernel
theorem dX5_heardAt_24 : decode cX5_heardAt 24 = .ok (.iaload, 1) := by decide +kernel
theorem dX5_heardAt_25 : decode cX5_heardAt 25 = .ok (.iconst 1, 1) := by decide +kernel
theorem dX5_heardAt_26 : decode cX5_heardAt 26 = .ok (.if_icmp .ne 5, 3) := by decide +kernel
theorem dX5_heardAt_29 : decode cX5_heardAt 29 = .ok (.iconst 1, 1) := by decide +kernel
theorem dX5_heardAt_30 : decode cX5_heardAt 30 = .ok (.ireturn, 1) := by decide +kernel
theorem dX5_heardAt_31 : decode cX5_heardAt 31 = .ok (.iinc 2 1, 3) := by decide +kernel
theorem dX5_heardAt_34 : decode cX5_heardAt 34 = .ok (.goto (-30), 3) := by decide +kernel
theorem dX5_heardAt_37 : decode cX5_heardAt 37 = .ok (.iconst 0, 1) := by decide +kernel
theorem dX5_heardAt_38 : decode cX5_heardAt 38 = .ok (.ireturn, 1) := by decide +kernel
theorem dX5_opensBehind_0 : decode cX5_opensBehind 0 = .ok (.aload_n 0, 1) := by decide +kernel
theorem dX5_opensBehind_1 : decode cX5_opensBehind 1 = .ok (.getfield 9, 3) := by decide +kernel
theorem dX5_opensBehind_4 : decode cX5_opensBehind 4 = .ok (.iload_n 1, 1) := by decide +kernel
theorem dX5_opensBehind_5 : decode cX5_opensBehind 5 = .ok (.iaload, 1) := by decide +kernel
theorem dX5_opensBehind_6 : decode cX5_opensBehind 6 = .ok (.aload_n 0, 1) := by decide +kernel
theorem dX5_opensBehind_7 : decode cX5_opensBehind 7 = .ok (.getfield 15, 3) := by decide +kernel
theorem dX5_opensBehind_10 : decode cX5_opensBehind 10 = .ok (.iload_n 1, 1) := by decide +kernel
theorem dX5_opensBehind_11 : decode cX5_opensBehind 11 = .ok (.iaload, 1) := by decide +kernel
theorem dX5_opensBehind_12 : decode cX5_opensBehind 12 = .ok (.aload_n 0, 1) := by decide +kernel
theorem dX5_opensBehind_13 : decode cX5_opensBehind 13 = .ok (.getfield 18, 3) := by decide +kernel
theorem dX5_opensBehind_16 : decode cX5_opensBehind 16 = .ok (.iload_n 1, 1) := by decide +kernel
theorem dX5_opensBehind_17 : decode cX5_opensBehind 17 = .ok (.iaload, 1) := by decide +kernel
theorem dX5_opensBehind_18 : decode cX5_opensBehind 18 = .ok (.aload_n 0, 1) := by decide +kernel
theorem dX5_opensBehind_19 : decode cX5_opensBehind 19 = .ok (.iload_n 1, 1) := by decide +kernel
theorem dX5_opensBehind_20 : decode cX5_opensBehind 20 = .ok (.invokevirtual 70, 3) := by decide +kernel
theorem dX5_opensBehind_23 : decode cX5_opensBehind 23 = .ok (.invokestatic 74, 3) := by decide +kernel
theorem dX5_opensBehind_26 : decode cX5_opensBehind 26 = .ok (.ireturn, 1) := by decide +kernel
theorem dX5_staysHowLong_0 : decode cX5_staysHowLong 0 = .ok (.aload_n 0, 1) := by decide +kernel
theorem dX5_staysHowLong_1 : decode cX5_staysHowLong 1 = .ok (.iload_n 1, 1) := by decide +kernel
theorem dX5_staysHowLong_2 : decode cX5_staysHowLong 2 = .ok (.aload_n 0, 1) := by decide +kernel
theorem dX5_staysHowLong_3 : decode cX5_staysHowLong 3 = .ok (.getfield 24, 3) := by decide +kernel
theorem dX5_staysHowLong_6 : decode cX5_staysHowLong 6 = .ok (.iload_n 1, 1) := by decide +kernel
theorem dX5_staysHowLong_7 : decode cX5_staysHowLong 7 = .ok (.iaload, 1) := by decide +kernel
theorem dX5_staysHowLong_8 : decode cX5_staysHowLong 8 = .ok (.aload_n 0, 1) := by decide +kernel
theorem dX5_staysHowLong_9 : decode cX5_staysHowLong 9 = .ok (.getfield 27, 3) := by decide +kernel
theorem dX5_staysHowLong_12 : decode cX5_staysHowLong 12 = .ok (.iload_n 1, 1) := by decide +kernel
theorem dX5_staysHowLong_13 : decode cX5_staysHowLong 13 = .ok (.iaload, 1) := by decide +kernel
theorem dX5_staysHowLong_14 : decode cX5_staysHowLong 14 = .ok (.invokevirtual 78, 3) := by decide +kernel
theorem dX5_staysHowLong_17 : decode cX5_staysHowLong 17 = .ok (.ireturn, 1) := by decide +kernel
theorem dX5_staysAs_0 : decode cX5_staysAs 0 = .ok (.iload_n 2, 1) := by decide +kernel
theorem dX5_staysAs_1 : decode cX5_staysAs 1 = .ok (.aload_n 0, 1) := by decide +kernel
theorem dX5_staysAs_2 : decode cX5_staysAs 2 = .ok (.getfield 30, 3) := by decide +kernel
theorem dX5_staysAs_5 : decode cX5_staysAs 5 = .ok (.iload_n 1, 1) := by decide +kernel
theorem dX5_staysAs_6 : decode cX5_staysAs 6 = .ok (.iaload, 1) := by decide +kernel
theorem dX5_staysAs_7 : decode cX5_staysAs 7 = .ok (.aload_n 0, 1) := by decide +kernel
theorem dX5_staysAs_8 : decode cX5_staysAs 8 = .ok (.getfield 15, 3) := by decide +kernel
theorem dX5_staysAs_11 : decode cX5_staysAs 11 = .ok (.iload_n 3, 1) := by decide +kernel
theorem dX5_staysAs_12 : decode cX5_staysAs 12 = .ok (.iaload, 1) := by decide +kernel
theorem dX5_staysAs_13 : decode cX5_staysAs 13 = .ok (.aload_n 0, 1) := by decide +kernel
theorem dX5_staysAs_14 : decode cX5_staysAs 14 = .ok (.getfield 18, 3) := by decide +kernel
theorem dX5_staysAs_17 : decode cX5_staysAs 17 = .ok (.iload_n 3, 1) := by decide +kernel
theorem dX5_staysAs_18 : decode cX5_staysAs 18 = .ok (.iaload, 1) := by decide +kernel
theorem dX5_staysAs_19 : decode cX5_staysAs 19 = .ok (.aload_n 0, 1) := by decide +kernel
theorem dX5_staysAs_20 : decode cX5_staysAs 20 = .ok (.iload_n 3, 1) := by decide +kernel
theorem dX5_staysAs_21 : decode cX5_staysAs 21 = .ok (.invokevirtual 70, 3) := by decide +kernel
theorem dX5_staysAs_24 : decode cX5_staysAs 24 = .ok (.invokestatic 82, 3) := by decide +kernel
theorem dX5_staysAs_27 : decode cX5_staysAs 27 = .ok (.ireturn, 1) := by decide +kernel
theorem dX5_isMeeting_0 : decode cX5_isMeeting 0 = .ok (.aload_n 0, 1) := by decide +kernel
theorem dX5_isMeeting_1 : decode cX5_isMeeting 1 = .ok (.iload_n 1, 1) := by decide +kernel
theorem dX5_isMeeting_2 : decode cX5_isMeeting 2 = .ok (.aload_n 0, 1) := by decide +kernel
theorem dX5_isMeeting_3 : decode cX5_isMeeting 3 = .ok (.getfield 24, 3) := by decide +kernel
theorem dX5_isMeeting_6 : decode cX5_isMeeting 6 = .ok (.iload_n 1, 1) := by decide +kernel
theorem dX5_isMeeting_7 : decode cX5_isMeeting 7 = .ok (.iaload, 1) := by decide +kernel
theorem dX5_isMeeting_8 : decode cX5_isMeeting 8 = .ok (.aload_n 0, 1) := by decide +kernel
theorem dX5_isMeeting_9 : decode cX5_isMeeting 9 = .ok (.getfield 27, 3) := by decide +kernel
theorem dX5_isMeeting_12 : decode cX5_isMeeting 12 = .ok (.iload_n 1, 1) := by decide +kernel
theorem dX5_isMeeting_13 : decode cX5_isMeeting 13 = .ok (.iaload, 1) := by decide +kernel
theorem dX5_isMeeting_14 : decode cX5_isMeeting 14 = .ok (.invokevirtual 86, 3) := by decide +kernel
theorem dX5_isMeeting_17 : decode cX5_isMeeting 17 = .ok (.ireturn, 1) := by decide +kernel
theorem dX5_meetsAs_0 : decode cX5_meetsAs 0 = .ok (.aload_n 0, 1) := by decide +kernel
theorem dX5_meetsAs_1 : decode cX5_meetsAs 1 = .ok (.iload_n 3, 1) := by decide +kernel
theorem dX5_meetsAs_2 : decode cX5_meetsAs 2 = .ok (.invokevirtual 90, 3) := by decide +kernel
theorem dX5_meetsAs_5 : decode cX5_meetsAs 5 = .ok (.aload_n 0, 1) := by decide +kernel
theorem dX5_meetsAs_6 : decode cX5_meetsAs 6 = .ok (.iload_n 1, 1) := by decide +kernel
theorem dX5_meetsAs_7 : decode cX5_meetsAs 7 = .ok (.iload_n 2, 1) := by decide +kernel
theorem dX5_meetsAs_8 : decode cX5_meetsAs 8 = .ok (.iload_n 3, 1) := by decide +kernel
theorem dX5_meetsAs_9 : decode cX5_meetsAs 9 = .ok (.invokevirtual 78, 3) := by decide +kernel
theorem dX5_meetsAs_12 : decode cX5_meetsAs 12 = .ok (.if_icmp .gt 7, 3) := by decide +kernel
theorem dX5_meetsAs_15 : decode cX5_meetsAs 15 = .ok (.iconst 1, 1) := by decide +kernel
theorem dX5_meetsAs_16 : decode cX5_meetsAs 16 = .ok (.goto 4, 3) := by decide +kernel
theorem dX5_meetsAs_19 : decode cX5_meetsAs 19 = .ok (.iconst 0, 1) := by decide +kernel
theorem dX5_meetsAs_20 : decode cX5_meetsAs 20 = .ok (.ireturn, 1) := by decide +kernel
theorem dX5_callersAt_0 : decode cX5_callersAt 0 = .ok (.iconst 0, 1) := by decide +kernel
theorem dX5_callersAt_1 : decode cX5_callersAt 1 = .ok (.istore_n 2, 1) := by decide +kernel
theorem dX5_callersAt_2 : decode cX5_callersAt 2 = .ok (.iconst 0, 1) := by decide +kernel
theorem dX5_callersAt_3 : decode cX5_callersAt 3 = .ok (.istore_n 3, 1) := by decide +kernel
theorem dX5_callersAt_4 : decode cX5_callersAt 4 = .ok (.iload_n 3, 1) := by decide +kernel
theorem dX5_callersAt_5 : decode cX5_callersAt 5 = .ok (.aload_n 0, 1) := by decide +kernel
theorem dX5_callersAt_6 : decode cX5_callersAt 6 = .ok (.getfield 40, 3) := by decide +kernel
theorem dX5_callersAt_9 : decode cX5_callersAt 9 = .ok (.if_icmp .ge 25, 3) := by decide +kernel
theorem dX5_callersAt_12 : decode cX5_callersAt 12 = .ok (.aload_n 0, 1) := by decide +kernel
theorem dX5_callersAt_13 : decode cX5_callersAt 13 = .ok (.getfield 27, 3) := by decide +kernel
theorem dX5_callersAt_16 : decode cX5_callersAt 16 = .ok (.iload_n 3, 1) := by decide +kernel
theorem dX5_callersAt_17 : decode cX5_callersAt 17 = .ok (.iaload, 1) := by decide +kernel
theorem dX5_callersAt_18 : decode cX5_callersAt 18 = .ok (.iload_n 1, 1) := by decide +kernel
theorem dX5_callersAt_19 : decode cX5_callersAt 19 = .ok (.if_icmp .ne 9, 3) := by decide +kernel
theorem dX5_callersAt_22 : decode cX5_callersAt 22 = .ok (.iload_n 2, 1) := by decide +kernel
theorem dX5_callersAt_23 : decode cX5_callersAt 23 = .ok (.iconst 1, 1) := by decide +kernel
theorem dX5_callersAt_24 : decode cX5_callersAt 24 = .ok (.iload_n 3, 1) := by decide +kernel
theorem dX5_callersAt_25 : decode cX5_callersAt 25 = .ok (.ishl, 1) := by decide +kernel
theorem dX5_callersAt_26 : decode cX5_callersAt 26 = .ok (.ior, 1) := by decide +kernel
theorem dX5_callersAt_27 : decode cX5_callersAt 27 = .ok (.istore_n 2, 1) := by decide +kernel
theorem dX5_callersAt_28 : decode cX5_callersAt 28 = .ok (.iinc 3 1, 3) := by decide +kernel
theorem dX5_callersAt_31 : decode cX5_callersAt 31 = .ok (.goto (-27), 3) := by decide +kernel
theorem dX5_callersAt_34 : decode cX5_callersAt 34 = .ok (.iload_n 2, 1) := by decide +kernel
theorem dX5_callersAt_35 : decode cX5_callersAt 35 = .ok (.ireturn, 1) := by decide +kernel
theorem dX5_meetingNow_0 : decode cX5_meetingNow 0 = .ok (.iconst 0, 1) := by decide +kernel
theorem dX5_meetingNow_1 : decode cX5_meetingNow 1 = .ok (.istore_n 1, 1) := by decide +kernel
theorem dX5_meetingNow_2 : decode cX5_meetingNow 2 = .ok (.iconst 0, 1) := by decide +kernel
theorem dX5_meetingNow_3 : decode cX5_meetingNow 3 = .ok (.istore_n 2, 1) := by decide +kernel
theorem dX5_meetingNow_4 : decode cX5_meetingNow 4 = .ok (.iload_n 2, 1) := by decide +kernel
theorem dX5_meetingNow_5 : decode cX5_meetingNow 5 = .ok (.aload_n 0, 1) := by decide +kernel
theorem dX5_meetingNow_6 : decode cX5_meetingNow 6 = .ok (.getfield 40, 3) := by decide +kernel
theorem dX5_meetingNow_9 : decode cX5_meetingNow 9 = .ok (.if_icmp .ge 35, 3) := by decide +kernel
theorem dX5_meetingNow_12 : decode cX5_meetingNow 12 = .ok (.aload_n 0, 1) := by decide +kernel
theorem dX5_meetingNow_13 : decode cX5_meetingNow 13 = .ok (.iload_n 2, 1) := by decide +kernel
theorem dX5_meetingNow_14 : decode cX5_meetingNow 14 = .ok (.aload_n 0, 1) := by decide +kernel
theorem dX5_meetingNow_15 : decode cX5_meetingNow 15 = .ok (.getfield 24, 3) := by decide +kernel
theorem dX5_meetingNow_18 : decode cX5_meetingNow 18 = .ok (.iload_n 2, 1) := by decide +kernel
theorem dX5_meetingNow_19 : decode cX5_meetingNow 19 = .ok (.iaload, 1) := by decide +kernel
theorem dX5_meetingNow_20 : decode cX5_meetingNow 20 = .ok (.aload_n 0, 1) := by decide +kernel
theorem dX5_meetingNow_21 : decode cX5_meetingNow 21 = .ok (.getfield 27, 3) := by decide +kernel
theorem dX5_meetingNow_24 : decode cX5_meetingNow 24 = .ok (.iload_n 2, 1) := by decide +kernel
theorem dX5_meetingNow_25 : decode cX5_meetingNow 25 = .ok (.iaload, 1) := by decide +kernel
theorem dX5_meetingNow_26 : decode cX5_meetingNow 26 = .ok (.invokevirtual 86, 3) := by decide +kernel
theorem dX5_meetingNow_29 : decode cX5_meetingNow 29 = .ok (.ifCond .eq 9, 3) := by decide +kernel
theorem dX5_meetingNow_32 : decode cX5_meetingNow 32 = .ok (.iload_n 1, 1) := by decide +kernel
theorem dX5_meetingNow_33 : decode cX5_meetingNow 33 = .ok (.iconst 1, 1) := by decide +kernel
theorem dX5_meetingNow_34 : decode cX5_meetingNow 34 = .ok (.iload_n 2, 1) := by decide +kernel
theorem dX5_meetingNow_35 : decode cX5_meetingNow 35 = .ok (.ishl, 1) := by decide +kernel
theorem dX5_meetingNow_36 : decode cX5_meetingNow 36 = .ok (.ior, 1) := by decide +kernel
theorem dX5_meetingNow_37 : decode cX5_meetingNow 37 = .ok (.istore_n 1, 1) := by decide +kernel
theorem dX5_meetingNow_38 : decode cX5_meetingNow 38 = .ok (.iinc 2 1, 3) := by decide +kernel
theorem dX5_meetingNow_41 : decode cX5_meetingNow 41 = .ok (.goto (-37), 3) := by decide +kernel
theorem dX5_meetingNow_44 : decode cX5_meetingNow 44 = .ok (.iload_n 1, 1) := by decide +kernel
theorem dX5_meetingNow_45 : decode cX5_meetingNow 45 = .ok (.ireturn, 1) := by decide +kernel
theorem dX5_firstOnNothing_0 : decode cX5_firstOnNothing 0 = .ok (.aload_n 0, 1) := by decide +kernel
theorem dX5_firstOnNothing_1 : decode cX5_firstOnNothing 1 = .ok (.invokevirtual 93, 3) := by decide +kernel
theorem dX5_firstOnNothing_4 : decode cX5_firstOnNothing 4 = .ok (.istore_n 1, 1) := by decide +kernel
theorem dX5_firstOnNothing_5 : decode cX5_firstOnNothing 5 = .ok (.iconst 0, 1) := by decide +kernel
theorem dX5_firstOnNothing_6 : decode cX5_firstOnNothing 6 = .ok (.istore_n 2, 1) := by decide +kernel
theorem dX5_firstOnNothing_7 : decode cX5_firstOnNothing 7 = .ok (.iload_n 2, 1) := by decide +kernel
theorem dX5_firstOnNothing_8 : decode cX5_firstOnNothing 8 = .ok (.aload_n 0, 1) := by decide +kernel
theorem dX5_firstOnNothing_9 : decode cX5_firstOnNothing 9 = .ok (.getfield 36, 3) := by decide +kernel
theorem dX5_firstOnNothing_12 : decode cX5_firstOnNothing 12 = .ok (.if_icmp .ge 27, 3) := by decide +kernel
theorem dX5_firstOnNothing_15 : decode cX5_firstOnNothing 15 = .ok (.aload_n 0, 1) := by decide +kernel
theorem dX5_firstOnNothing_16 : decode cX5_firstOnNothing 16 = .ok (.iload_n 2, 1) := by decide +kernel
theorem dX5_firstOnNothing_17 : decode cX5_firstOnNothing 17 = .ok (.invokevirtual 97, 3) := by decide +kernel
theorem dX5_firstOnNothing_20 : decode cX5_firstOnNothing 20 = .ok (.istore_n 3, 1) := by decide +kernel
theorem dX5_firstOnNothing_21 : decode cX5_firstOnNothing 21 = .ok (.iload_n 3, 1) := by decide +kernel
theorem dX5_firstOnNothing_22 : decode cX5_firstOnNothing 22 = .ok (.ifCond .eq 11, 3) := by decide +kernel
theorem dX5_firstOnNothing_25 : decode cX5_firstOnNothing 25 = .ok (.iload_n 3, 1) := by decide +kernel
theorem dX5_firstOnNothing_26 : decode cX5_firstOnNothing 26 = .ok (.iload_n 1, 1) := by decide +kernel
theorem dX5_firstOnNothing_27 : decode cX5_firstOnNothing 27 = .ok (.iand, 1) := by decide +kernel
theorem dX5_firstOnNothing_28 : decode cX5_firstOnNothing 28 = .ok (.ifCond .ne 5, 3) := by decide +kernel
theorem dX5_firstOnNothing_31 : decode cX5_firstOnNothing 31 = .ok (.iload_n 2, 1) := by decide +kernel
theorem dX5_firstOnNothing_32 : decode cX5_firstOnNothing 32 = .ok (.ireturn, 1) := by decide +kernel
theorem dX5_firstOnNothing_33 : decode cX5_firstOnNothing 33 = .ok (.iinc 2 1, 3) := by decide +kernel
theorem dX5_firstOnNothing_36 : decode cX5_firstOnNothing 36 = .ok (.goto (-29), 3) := by decide +kernel
theorem dX5_firstOnNothing_39 : decode cX5_firstOnNothing 39 = .ok (.ldc 100, 2) := by decide +kernel
theorem dX5_firstOnNothing_41 : decode cX5_firstOnNothing 41 = .ok (.ireturn, 1) := by decide +kernel
theorem dX5_firstMeeting_0 : decode cX5_firstMeeting 0 = .ok (.iconst 0, 1) := by decide +kernel
theorem dX5_firstMeeting_1 : decode cX5_firstMeeting 1 = .ok (.istore_n 3, 1) := by decide +kernel
theorem dX5_firstMeeting_2 : decode cX5_firstMeeting 2 = .ok (.iload_n 3, 1) := by decide +kernel
theorem dX5_firstMeeting_3 : decode cX5_firstMeeting 3 = .ok (.aload_n 0, 1) := by decide +kernel
theorem dX5_firstMeeting_4 : decode cX5_firstMeeting 4 = .ok (.getfield 36, 3) := by decide +kernel
theorem dX5_firstMeeting_7 : decode cX5_firstMeeting 7 = .ok (.if_icmp .ge 26, 3) := by decide +kernel
theorem dX5_firstMeeting_10 : decode cX5_firstMeeting 10 = .ok (.aload_n 0, 1) := by decide +kernel
theorem dX5_firstMeeting_11 : decode cX5_firstMeeting 11 = .ok (.iload_n 1, 1) := by decide +kernel
theorem dX5_firstMeeting_12 : decode cX5_firstMeeting 12 = .ok (.iload_n 2, 1) := by decide +kernel
theorem dX5_firstMeeting_13 : decode cX5_firstMeeting 13 = .ok (.aload_n 0, 1) := by decide +kernel
theorem dX5_firstMeeting_14 : decode cX5_firstMeeting 14 = .ok (.iload_n 1, 1) := by decide +kernel
theorem dX5_firstMeeting_15 : decode cX5_firstMeeting 15 = .ok (.iload_n 3, 1) := by decide +kernel
theorem dX5_firstMeeting_16 : decode cX5_firstMeeting 16 = .ok (.invokevirtual 101, 3) := by decide +kernel
theorem dX5_firstMeeting_19 : decode cX5_firstMeeting 19 = .ok (.invokevirtual 86, 3) := by decide +kernel
theorem dX5_firstMeeting_22 : decode cX5_firstMeeting 22 = .ok (.ifCond .eq 5, 3) := by decide +kernel
theorem dX5_firstMeeting_25 : decode cX5_firstMeeting 25 = .ok (.iload_n 3, 1) := by decide +kernel
theorem dX5_firstMeeting_26 : decode cX5_firstMeeting 26 = .ok (.ireturn, 1) := by decide +kernel
theorem dX5_firstMeeting_27 : decode cX5_firstMeeting 27 = .ok (.iinc 3 1, 3) := by decide +kernel
theorem dX5_firstMeeting_30 : decode cX5_firstMeeting 30 = .ok (.goto (-28), 3) := by decide +kernel
theorem dX5_firstMeeting_33 : decode cX5_firstMeeting 33 = .ok (.ldc 100, 2) := by decide +kernel
theorem dX5_firstMeeting_35 : decode cX5_firstMeeting 35 = .ok (.ireturn, 1) := by decide +kernel
theorem dX5_placeAfter_0 : decode cX5_placeAfter 0 = .ok (.aload_n 0, 1) := by decide +kernel
theorem dX5_placeAfter_1 : decode cX5_placeAfter 1 = .ok (.getfield 36, 3) := by decide +kernel
theorem dX5_placeAfter_4 : decode cX5_placeAfter 4 = .ok (.ifCond .le 19, 3) := by decide +kernel
theorem dX5_placeAfter_7 : decode cX5_placeAfter 7 = .ok (.aload_n 0, 1) := by decide +kernel
theorem dX5_placeAfter_8 : decode cX5_placeAfter 8 = .ok (.getfield 27, 3) := by decide +kernel
theorem dX5_placeAfter_11 : decode cX5_placeAfter 11 = .ok (.iload_n 1, 1) := by decide +kernel
theorem dX5_placeAfter_12 : decode cX5_placeAfter 12 = .ok (.iaload, 1) := by decide +kernel
theorem dX5_placeAfter_13 : decode cX5_placeAfter 13 = .ok (.iload_n 2, 1) := by decide +kernel
theorem dX5_placeAfter_14 : decode cX5_placeAfter 14 = .ok (.iadd, 1) := by decide +kernel
theorem dX5_placeAfter_15 : decode cX5_placeAfter 15 = .ok (.aload_n 0, 1) := by decide +kernel
theorem dX5_placeAfter_16 : decode cX5_placeAfter 16 = .ok (.getfield 36, 3) := by decide +kernel
theorem dX5_placeAfter_19 : decode cX5_placeAfter 19 = .ok (.irem, 1) := by decide +kernel
theorem dX5_placeAfter_20 : decode cX5_placeAfter 20 = .ok (.goto 4, 3) := by decide +kernel
theorem dX5_placeAfter_23 : decode cX5_placeAfter 23 = .ok (.iconst 0, 1) := by decide +kernel
theorem dX5_placeAfter_24 : decode cX5_placeAfter 24 = .ok (.ireturn, 1) := by decide +kernel
theorem dX5_passDay_0 : decode cX5_passDay 0 = .ok (.aload_n 0, 1) := by decide +kernel
theorem dX5_passDay_1 : decode cX5_passDay 1 = .ok (.invokevirtual 93, 3) := by decide +kernel
theorem dX5_passDay_4 : decode cX5_passDay 4 = .ok (.istore_n 1, 1) := by decide +kernel
theorem dX5_passDay_5 : decode cX5_passDay 5 = .ok (.iconst 0, 1) := by decide +kernel
theorem dX5_passDay_6 : decode cX5_passDay 6 = .ok (.istore_n 2, 1) := by decide +kernel
theorem dX5_passDay_7 : decode cX5_passDay 7 = .ok (.iload_n 2, 1) := by decide +kernel
theorem dX5_passDay_8 : decode cX5_passDay 8 = .ok (.aload_n 0, 1) := by decide +kernel
theorem dX5_passDay_9 : decode cX5_passDay 9 = .ok (.getfield 40, 3) := by decide +kernel
theorem dX5_passDay_12 : decode cX5_passDay 12 = .ok (.if_icmp .ge 43, 3) := by decide +kernel
theorem dX5_passDay_15 : decode cX5_passDay 15 = .ok (.iload_n 1, 1) := by decide +kernel
theorem dX5_passDay_16 : decode cX5_passDay 16 = .ok (.iload_n 2, 1) := by decide +kernel
theorem dX5_passDay_17 : decode cX5_passDay 17 = .ok (.ishr, 1) := by decide +kernel
theorem dX5_passDay_18 : decode cX5_passDay 18 = .ok (.iconst 1, 1) := by decide +kernel
theorem dX5_passDay_19 : decode cX5_passDay 19 = .ok (.iand, 1) := by decide +kernel
theorem dX5_passDay_20 : decode cX5_passDay 20 = .ok (.iconst 1, 1) := by decide +kernel
theorem dX5_passDay_21 : decode cX5_passDay 21 = .ok (.if_icmp .ne 16, 3) := by decide +kernel
theorem dX5_passDay_24 : decode cX5_passDay 24 = .ok (.aload_n 0, 1) := by decide +kernel
theorem dX5_passDay_25 : decode cX5_passDay 25 = .ok (.getfield 33, 3) := by decide +kernel
theorem dX5_passDay_28 : decode cX5_passDay 28 = .ok (.iload_n 2, 1) := by decide +kernel
theorem dX5_passDay_29 : decode cX5_passDay 29 = .ok (.dup2, 1) := by decide +kernel
theorem dX5_passDay_30 : decode cX5_passDay 30 = .ok (.iaload, 1) := by decide +kernel
theorem dX5_passDay_31 : decode cX5_passDay 31 = .ok (.iconst 1, 1) := by decide +kernel
theorem dX5_passDay_32 : decode cX5_passDay 32 = .ok (.iadd, 1) := by decide +kernel
theorem dX5_passDay_33 : decode cX5_passDay 33 = .ok (.iastore, 1) := by decide +kernel
theorem dX5_passDay_34 : decode cX5_passDay 34 = .ok (.goto 15, 3) := by decide +kernel
theorem dX5_passDay_37 : decode cX5_passDay 37 = .ok (.aload_n 0, 1) := by decide +kernel
theorem dX5_passDay_38 : decode cX5_passDay 38 = .ok (.getfield 27, 3) := by decide +kernel
theorem dX5_passDay_41 : decode cX5_passDay 41 = .ok (.iload_n 2, 1) := by decide +kernel
theorem dX5_passDay_42 : decode cX5_passDay 42 = .ok (.aload_n 0, 1) := by decide +kernel
theorem dX5_passDay_43 : decode cX5_passDay 43 = .ok (.iload_n 2, 1) := by decide +kernel
theorem dX5_passDay_44 : decode cX5_passDay 44 = .ok (.iconst 1, 1) := by decide +kernel
theorem dX5_passDay_45 : decode cX5_passDay 45 = .ok (.invokevirtual 101, 3) := by decide +kernel
theorem dX5_passDay_48 : decode cX5_passDay 48 = .ok (.iastore, 1) := by decide +kernel
theorem dX5_passDay_49 : decode cX5_passDay 49 = .ok (.iinc 2 1, 3) := by decide +kernel
theorem dX5_passDay_52 : decode cX5_passDay 52 = .ok (.goto (-45), 3) := by decide +kernel
theorem dX5_passDay_55 : decode cX5_passDay 55 = .ok (.aload_n 0, 1) := by decide +kernel
theorem dX5_passDay_56 : decode cX5_passDay 56 = .ok (.dup, 1) := by decide +kernel
theorem dX5_passDay_57 : decode cX5_passDay 57 = .ok (.getfield 49, 3) := by decide +kernel
theorem dX5_passDay_60 : decode cX5_passDay 60 = .ok (.iconst 1, 1) := by decide +kernel
theorem dX5_passDay_61 : decode cX5_passDay 61 = .ok (.iadd, 1) := by decide +kernel
theorem dX5_passDay_62 : decode cX5_passDay 62 = .ok (.putfield 49, 3) := by decide +kernel
theorem dX5_passDay_65 : decode cX5_passDay 65 = .ok (.iload_n 1, 1) := by decide +kernel
theorem dX5_passDay_66 : decode cX5_passDay 66 = .ok (.ireturn, 1) := by decide +kernel
theorem dX5_takeBackDay_0 : decode cX5_takeBackDay 0 = .ok (.iconst 0, 1) := by decide +kernel
theorem dX5_takeBackDay_1 : decode cX5_takeBackDay 1 = .ok (.istore_n 2, 1) := by decide +kernel
theorem dX5_takeBackDay_2 : decode cX5_takeBackDay 2 = .ok (.iload_n 2, 1) := by decide +kernel
theorem dX5_takeBackDay_3 : decode cX5_takeBackDay 3 = .ok (.aload_n 0, 1) := by decide +kernel
theorem dX5_takeBackDay_4 : decode cX5_takeBackDay 4 = .ok (.getfield 40, 3) := by decide +kernel
theorem dX5_takeBackDay_7 : decode cX5_takeBackDay 7 = .ok (.if_icmp .ge 48, 3) := by decide +kernel
theorem dX5_takeBackDay_10 : decode cX5_takeBackDay 10 = .ok (.iload_n 1, 1) := by decide +kernel
theorem dX5_takeBackDay_11 : decode cX5_takeBackDay 11 = .ok (.iload_n 2, 1) := by decide +kernel
theorem dX5_takeBackDay_12 : decode cX5_takeBackDay 12 = .ok (.ishr, 1) := by decide +kernel
theorem dX5_takeBackDay_13 : decode cX5_takeBackDay 13 = .ok (.iconst 1, 1) := by decide +kernel
theorem dX5_takeBackDay_14 : decode cX5_takeBackDay 14 = .ok (.iand, 1) := by decide +kernel
theorem dX5_takeBackDay_15 : decode cX5_takeBackDay 15 = .ok (.iconst 1, 1) := by decide +kernel
theorem dX5_takeBackDay_16 : decode cX5_takeBackDay 16 = .ok (.if_icmp .ne 16, 3) := by decide +kernel
theorem dX5_takeBackDay_19 : decode cX5_takeBackDay 19 = .ok (.aload_n 0, 1) := by decide +kernel
theorem dX5_takeBackDay_20 : decode cX5_takeBackDay 20 = .ok (.getfield 33, 3) := by decide +kernel
theorem dX5_takeBackDay_23 : decode cX5_takeBackDay 23 = .ok (.iload_n 2, 1) := by decide +kernel
theorem dX5_takeBackDay_24 : decode cX5_takeBackDay 24 = .ok (.dup2, 1) := by decide +kernel
theorem dX5_takeBackDay_25 : decode cX5_takeBackDay 25 = .ok (.iaload, 1) := by decide +kernel
theorem dX5_takeBackDay_26 : decode cX5_takeBackDay 26 = .ok (.iconst 1, 1) := by decide +kernel
theorem dX5_takeBackDay_27 : decode cX5_takeBackDay 27 = .ok (.isub, 1) := by decide +kernel
theorem dX5_takeBackDay_28 : decode cX5_takeBackDay 28 = .ok (.iastore, 1) := by decide +kernel
theorem dX5_takeBackDay_29 : decode cX5_takeBackDay 29 = .ok (.goto 20, 3) := by decide +kernel
theorem dX5_takeBackDay_32 : decode cX5_takeBackDay 32 = .ok (.aload_n 0, 1) := by decide +kernel
theorem dX5_takeBackDay_33 : decode cX5_takeBackDay 33 = .ok (.getfield 27, 3) := by decide +kernel
theorem dX5_takeBackDay_36 : decode cX5_takeBackDay 36 = .ok (.iload_n 2, 1) := by decide +kernel
theorem dX5_takeBackDay_37 : decode cX5_takeBackDay 37 = .ok (.aload_n 0, 1) := by decide +kernel
theorem dX5_takeBackDay_38 : decode cX5_takeBackDay 38 = .ok (.iload_n 2, 1) := by decide +kernel
theorem dX5_takeBackDay_39 : decode cX5_takeBackDay 39 = .ok (.aload_n 0, 1) := by decide +kernel
theorem dX5_takeBackDay_40 : decode cX5_takeBackDay 40 = .ok (.getfield 36, 3) := by decide +kernel
theorem dX5_takeBackDay_43 : decode cX5_takeBackDay 43 = .ok (.iconst 1, 1) := by decide +kernel
theorem dX5_takeBackDay_44 : decode cX5_takeBackDay 44 = .ok (.isub, 1) := by decide +kernel
theorem dX5_takeBackDay_45 : decode cX5_takeBackDay 45 = .ok (.invokevirtual 101, 3) := by decide +kernel
theorem dX5_takeBackDay_48 : decode cX5_takeBackDay 48 = .ok (.iastore, 1) := by decide +kernel
theorem dX5_takeBackDay_49 : decode cX5_takeBackDay 49 = .ok (.iinc 2 1, 3) := by decide +kernel
theorem dX5_takeBackDay_52 : decode cX5_takeBackDay 52 = .ok (.goto (-50), 3) := by decide +kernel
theorem dX5_takeBackDay_55 : decode cX5_takeBackDay 55 = .ok (.aload_n 0, 1) := by decide +kernel
theorem dX5_takeBackDay_56 : decode cX5_takeBackDay 56 = .ok (.dup, 1) := by decide +kernel
theorem dX5_takeBackDay_57 : decode cX5_takeBackDay 57 = .ok (.getfield 49, 3) := by decide +kernel
theorem dX5_takeBackDay_60 : decode cX5_takeBackDay 60 = .ok (.iconst 1, 1) := by decide +kernel
theorem dX5_takeBackDay_61 : decode cX5_takeBackDay 61 = .ok (.isub, 1) := by decide +kernel
theorem dX5_takeBackDay_62 : decode cX5_takeBackDay 62 = .ok (.putfield 49, 3) := by decide +kernel
theorem dX5_takeBackDay_65 : decode cX5_takeBackDay 65 = .ok (.return_, 1) := by decide +kernel
theorem dX5_layByDraw_0 : decode cX5_layByDraw 0 = .ok (.aload_n 0, 1) := by decide +kernel
theorem dX5_layByDraw_1 : decode cX5_layByDraw 1 = .ok (.getfield 36, 3) := by decide +kernel
theorem dX5_layByDraw_4 : decode cX5_layByDraw 4 = .ok (.ifCond .le 66, 3) := by decide +kernel
theorem dX5_layByDraw_7 : decode cX5_layByDraw 7 = .ok (.lload_n 1, 1) := by decide +kernel
theorem dX5_layByDraw_8 : decode cX5_layByDraw 8 = .ok (.aload_n 0, 1) := by decide +kernel
theorem dX5_layByDraw_9 : decode cX5_layByDraw 9 = .ok (.getfield 36, 3) := by decide +kernel
theorem dX5_layByDraw_12 : decode cX5_layByDraw 12 = .ok (.i2l, 1) := by decide +kernel
theorem dX5_layByDraw_13 : decode cX5_layByDraw 13 = .ok (.lrem, 1) := by decide +kernel
theorem dX5_layByDraw_14 : decode cX5_layByDraw 14 = .ok (.l2i, 1) := by decide +kernel
theorem dX5_layByDraw_15 : decode cX5_layByDraw 15 = .ok (.istore_n 3, 1) := by decide +kernel
theorem dX5_layByDraw_16 : decode cX5_layByDraw 16 = .ok (.aload_n 0, 1) := by decide +kernel
theorem dX5_layByDraw_17 : decode cX5_layByDraw 17 = .ok (.getfield 15, 3) := by decide +kernel
theorem dX5_layByDraw_20 : decode cX5_layByDraw 20 = .ok (.iload_n 3, 1) := by decide +kernel
theorem dX5_layByDraw_21 : decode cX5_layByDraw 21 = .ok (.lload_n 1, 1) := by decide +kernel
theorem dX5_layByDraw_22 : decode cX5_layByDraw 22 = .ok (.ldc2_w 105, 3) := by decide +kernel
theorem dX5_layByDraw_25 : decode cX5_layByDraw 25 = .ok (.lrem, 1) := by decide +kernel
theorem dX5_layByDraw_26 : decode cX5_layByDraw 26 = .ok (.l2i, 1) := by decide +kernel
theorem dX5_layByDraw_27 : decode cX5_layByDraw 27 = .ok (.iastore, 1) := by decide +kernel
theorem dX5_layByDraw_28 : decode cX5_layByDraw 28 = .ok (.aload_n 0, 1) := by decide +kernel
theorem dX5_layByDraw_29 : decode cX5_layByDraw 29 = .ok (.getfield 18, 3) := by decide +kernel
theorem dX5_layByDraw_32 : decode cX5_layByDraw 32 = .ok (.iload_n 3, 1) := by decide +kernel
theorem dX5_layByDraw_33 : decode cX5_layByDraw 33 = .ok (.lload_n 1, 1) := by decide +kernel
theorem dX5_layByDraw_34 : decode cX5_layByDraw 34 = .ok (.ldc2_w 107, 3) := by decide +kernel
theorem dX5_layByDraw_37 : decode cX5_layByDraw 37 = .ok (.lrem, 1) := by decide +kernel
theorem dX5_layByDraw_38 : decode cX5_layByDraw 38 = .ok (.lconst 0, 1) := by decide +kernel
theorem dX5_layByDraw_39 : decode cX5_layByDraw 39 = .ok (.lcmp, 1) := by decide +kernel
theorem dX5_layByDraw_40 : decode cX5_layByDraw 40 = .ok (.ifCond .ne 7, 3) := by decide +kernel
theorem dX5_layByDraw_43 : decode cX5_layByDraw 43 = .ok (.iconst 1, 1) := by decide +kernel
theorem dX5_layByDraw_44 : decode cX5_layByDraw 44 = .ok (.goto 4, 3) := by decide +kernel
theorem dX5_layByDraw_47 : decode cX5_layByDraw 47 = .ok (.iconst 0, 1) := by decide +kernel
theorem dX5_layByDraw_48 : decode cX5_layByDraw 48 = .ok (.iastore, 1) := by decide +kernel
theorem dX5_layByDraw_49 : decode cX5_layByDraw 49 = .ok (.aload_n 0, 1) := by decide +kernel
theorem dX5_layByDraw_50 : decode cX5_layByDraw 50 = .ok (.getfield 21, 3) := by decide +kernel
theorem dX5_layByDraw_53 : decode cX5_layByDraw 53 = .ok (.iload_n 3, 1) := by decide +kernel
theorem dX5_layByDraw_54 : decode cX5_layByDraw 54 = .ok (.lload_n 1, 1) := by decide +kernel
theorem dX5_layByDraw_55 : decode cX5_layByDraw 55 = .ok (.ldc2_w 109, 3) := by decide +kernel
theorem dX5_layByDraw_58 : decode cX5_layByDraw 58 = .ok (.lrem, 1) := by decide +kernel
theorem dX5_layByDraw_59 : decode cX5_layByDraw 59 = .ok (.lconst 0, 1) := by decide +kernel
theorem dX5_layByDraw_60 : decode cX5_layByDraw 60 = .ok (.lcmp, 1) := by decide +kernel
theorem dX5_layByDraw_61 : decode cX5_layByDraw 61 = .ok (.ifCond .ne 7, 3) := by decide +kernel
theorem dX5_layByDraw_64 : decode cX5_layByDraw 64 = .ok (.iconst 1, 1) := by decide +kernel
theorem dX5_layByDraw_65 : decode cX5_layByDraw 65 = .ok (.goto 4, 3) := by decide +kernel
theorem dX5_layByDraw_68 : decode cX5_layByDraw 68 = .ok (.iconst 0, 1) := by decide +kernel
theorem dX5_layByDraw_69 : decode cX5_layByDraw 69 = .ok (.iastore, 1) := by decide +kernel
theorem dX5_layByDraw_70 : decode cX5_layByDraw 70 = .ok (.return_, 1) := by decide +kernel
theorem dX5_sum_0 : decode cX5_sum 0 = .ok (.iconst 0, 1) := by decide +kernel
theorem dX5_sum_1 : decode cX5_sum 1 = .ok (.istore_n 2, 1) := by decide +kernel
theorem dX5_sum_2 : decode cX5_sum 2 = .ok (.iconst 0, 1) := by decide +kernel
theorem dX5_sum_3 : decode cX5_sum 3 = .ok (.istore_n 3, 1) := by decide +kernel
theorem dX5_sum_4 : decode cX5_sum 4 = .ok (.iload_n 3, 1) := by decide +kernel
theorem dX5_sum_5 : decode cX5_sum 5 = .ok (.iload_n 1, 1) := by decide +kernel
theorem dX5_sum_6 : decode cX5_sum 6 = .ok (.if_icmp .ge 15, 3) := by decide +kernel
theorem dX5_sum_9 : decode cX5_sum 9 = .ok (.iload_n 2, 1) := by decide +kernel
theorem dX5_sum_10 : decode cX5_sum 10 = .ok (.aload_n 0, 1) := by decide +kernel
theorem dX5_sum_11 : decode cX5_sum 11 = .ok (.iload_n 3, 1) := by decide +kernel
theorem dX5_sum_12 : decode cX5_sum 12 = .ok (.iaload, 1) := by decide +kernel
theorem dX5_sum_13 : decode cX5_sum 13 = .ok (.iadd, 1) := by decide +kernel
theorem dX5_sum_14 : decode cX5_sum 14 = .ok (.istore_n 2, 1) := by decide +kernel
theorem dX5_sum_15 : decode cX5_sum 15 = .ok (.iinc 3 1, 3) := by decide +kernel
theorem dX5_sum_18 : decode cX5_sum 18 = .ok (.goto (-14), 3) := by decide +kernel
theorem dX5_sum_21 : decode cX5_sum 21 = .ok (.iload_n 2, 1) := by decide +kernel
theorem dX5_sum_22 : decode cX5_sum 22 = .ok (.ireturn, 1) := by decide +kernel
theorem dX5_opening_0 : decode cX5_opening 0 = .ok (.iconst 0, 1) := by decide +kernel
theorem dX5_opening_1 : decode cX5_opening 1 = .ok (.iload_n 0, 1) := by decide +kernel
theorem dX5_opening_2 : decode cX5_opening 2 = .ok (.iload_n 1, 1) := by decide +kernel
theorem dX5_opening_3 : decode cX5_opening 3 = .ok (.iadd, 1) := by decide +kernel
theorem dX5_opening_4 : decode cX5_opening 4 = .ok (.iconst 2, 1) := by decide +kernel
theorem dX5_opening_5 : decode cX5_opening 5 = .ok (.iload_n 3, 1) := by decide +kernel
theorem dX5_opening_6 : decode cX5_opening 6 = .ok (.imul, 1) := by decide +kernel
theorem dX5_opening_7 : decode cX5_opening 7 = .ok (.iadd, 1) := by decide +kernel
theorem dX5_opening_8 : decode cX5_opening 8 = .ok (.iload_n 2, 1) := by decide +kernel
theorem dX5_opening_9 : decode cX5_opening 9 = .ok (.isub, 1) := by decide +kernel
theorem dX5_opening_10 : decode cX5_opening 10 = .ok (.invokestatic 111, 3) := by decide +kernel
theorem dX5_opening_13 : decode cX5_opening 13 = .ok (.ireturn, 1) := by decide +kernel
theorem dX5_staying_0 : decode cX5_staying 0 = .ok (.iload_n 1, 1) := by decide +kernel
theorem dX5_staying_1 : decode cX5_staying 1 = .ok (.iconst 2, 1) := by decide +kernel
theorem dX5_staying_2 : decode cX5_staying 2 = .ok (.iload_n 3, 1) := by decide +kernel
theorem dX5_staying_3 : decode cX5_staying 3 = .ok (.imul, 1) := by decide +kernel
theorem dX5_staying_4 : decode cX5_staying 4 = .ok (.iadd, 1) := by decide +kernel
theorem dX5_staying_5 : decode cX5_staying 5 = .ok (.istore 5, 2) := by decide +kernel
theorem dX5_staying_7 : decode cX5_staying 7 = .ok (.iload_n 1, 1) := by decide +kernel
theorem dX5_staying_8 : decode cX5_staying 8 = .ok (.iconst 3, 1) := by decide +kernel
theorem dX5_staying_9 : decode cX5_staying 9 = .ok (.invokestatic 116, 3) := by decide +kernel
theorem dX5_staying_12 : decode cX5_staying 12 = .ok (.istore 6, 2) := by decide +kernel
theorem dX5_staying_14 : decode cX5_staying 14 = .ok (.iload_n 0, 1) := by decide +kernel
theorem dX5_staying_15 : decode cX5_staying 15 = .ok (.tableswitch 60 2 5 #[29, 34, 39, 42], 29) := by decide +kernel
theorem dX5_staying_44 : decode cX5_staying 44 = .ok (.iload 5, 2) := by decide +kernel
theorem dX5_staying_46 : decode cX5_staying 46 = .ok (.iload_n 2, 1) := by decide +kernel
theorem dX5_staying_47 : decode cX5_staying 47 = .ok (.iadd, 1) := by decide +kernel
theorem dX5_staying_48 : decode cX5_staying 48 = .ok (.ireturn, 1) := by decide +kernel
theorem dX5_staying_49 : decode cX5_staying 49 = .ok (.iconst 2, 1) := by decide +kernel
theorem dX5_staying_50 : decode cX5_staying 50 = .ok (.iload 5, 2) := by decide +kernel
theorem dX5_staying_52 : decode cX5_staying 52 = .ok (.imul, 1) := by decide +kernel
theorem dX5_staying_53 : decode cX5_staying 53 = .ok (.ireturn, 1) := by decide +kernel
theorem dX5_staying_54 : decode cX5_staying 54 = .ok (.iload 6, 2) := by decide +kernel
theorem dX5_staying_56 : decode cX5_staying 56 = .ok (.ireturn, 1) := by decide +kernel
theorem dX5_staying_57 : decode cX5_staying 57 = .ok (.iload 4, 2) := by decide +kernel
theorem dX5_staying_59 : decode cX5_staying 59 = .ok (.iconst 1, 1) := by decide +kernel
theorem dX5_staying_60 : decode cX5_staying 60 = .ok (.if_icmp .ne 12, 3) := by decide +kernel
theorem dX5_staying_63 : decode cX5_staying 63 = .ok (.iload 6, 2) := by decide +kernel
theorem dX5_staying_65 : decode cX5_staying 65 = .ok (.iconst 1, 1) := by decide +kernel
theorem dX5_staying_66 : decode cX5_staying 66 = .ok (.invokestatic 116, 3) := by decide +kernel
theorem dX5_staying_69 : decode cX5_staying 69 = .ok (.goto 5, 3) := by decide +kernel
theorem dX5_staying_72 : decode cX5_staying 72 = .ok (.iload 6, 2) := by decide +kernel
theorem dX5_staying_74 : decode cX5_staying 74 = .ok (.ireturn, 1) := by decide +kernel
theorem dX5_staying_75 : decode cX5_staying 75 = .ok (.iload 5, 2) := by decide +kernel
theorem dX5_staying_77 : decode cX5_staying 77 = .ok (.ireturn, 1) := by decide +kernel
theorem dX6_init_0 : decode cX6_init 0 = .ok (.aload_n 0, 1) := by decide +kernel
theorem dX6_init_1 : decode cX6_init 1 = .ok (.invokespecial 1, 3) := by decide +kernel
theorem dX6_init_4 : decode cX6_init 4 = .ok (.aload_n 0, 1) := by decide +kernel
theorem dX6_init_5 : decode cX6_init 5 = .ok (.bipush 8, 2) := by decide +kernel
theorem dX6_init_7 : decode cX6_init 7 = .ok (.anewarray 9, 3) := by decide +kernel
theorem dX6_init_10 : decode cX6_init 10 = .ok (.putfield 11, 3) := by decide +kernel
theorem dX6_init_13 : decode cX6_init 13 = .ok (.aload_n 0, 1) := by decide +kernel
theorem dX6_init_14 : decode cX6_init 14 = .ok (.iconst 2, 1) := by decide +kernel
theorem dX6_init_15 : decode cX6_init 15 = .ok (.anewarray 15, 3) := by decide +kernel
theorem dX6_init_18 : decode cX6_init 18 = .ok (.putfield 17, 3) := by decide +kernel
theorem dX6_init_21 : decode cX6_init 21 = .ok (.aload_n 0, 1) := by decide +kernel
theorem dX6_init_22 : decode cX6_init 22 = .ok (.new 15, 3) := by decide +kernel
theorem dX6_init_25 : decode cX6_init 25 = .ok (.dup, 1) := by decide +kernel
theorem dX6_init_26 : decode cX6_init 26 = .ok (.invokespecial 21, 3) := by decide +kernel
theorem dX6_init_29 : decode cX6_init 29 = .ok (.putfield 22, 3) := by decide +kernel
theorem dX6_init_32 : decode cX6_init 32 = .ok (.aload_n 0, 1) := by decide +kernel
theorem dX6_init_33 : decode cX6_init 33 = .ok (.new 15, 3) := by decide +kernel
theorem dX6_init_36 : decode cX6_init 36 = .ok (.dup, 1) := by decide +kernel
theorem dX6_init_37 : decode cX6_init 37 = .ok (.invokespecial 21, 3) := by decide +kernel
theorem dX6_init_40 : decode cX6_init 40 = .ok (.putfield 26, 3) := by decide +kernel
theorem dX6_init_43 : decode cX6_init 43 = .ok (.aload_n 0, 1) := by decide +kernel
theorem dX6_init_44 : decode cX6_init 44 = .ok (.new 29, 3) := by decide +kernel
theorem dX6_init_47 : decode cX6_init 47 = .ok (.dup, 1) := by decide +kernel
theorem dX6_init_48 : decode cX6_init 48 = .ok (.invokespecial 31, 3) := by decide +kernel
theorem dX6_init_51 : decode cX6_init 51 = .ok (.putfield 32, 3) := by decide +kernel
theorem dX6_init_54 : decode cX6_init 54 = .ok (.aload_n 0, 1) := by decide +kernel
theorem dX6_init_55 : decode cX6_init 55 = .ok (.new 36, 3) := by decide +kernel
theorem dX6_init_58 : decode cX6_init 58 = .ok (.dup, 1) := by decide +kernel
theorem dX6_init_59 : decode cX6_init 59 = .ok (.invokespecial 38, 3) := by decide +kernel
theorem dX6_init_62 : decode cX6_init 62 = .ok (.putfield 39, 3) := by decide +kernel
theorem dX6_init_65 : decode cX6_init 65 = .ok (.aload_n 0, 1) := by decide +kernel
theorem dX6_init_66 : decode cX6_init 66 = .ok (.new 43, 3) := by decide +kernel
theorem dX6_init_69 : decode cX6_init 69 = .ok (.dup, 1) := by decide +kernel
theorem dX6_init_70 : decode cX6_init 70 = .ok (.invokespecial 45, 3) := by decide +kernel
theorem dX6_init_73 : decode cX6_init 73 = .ok (.putfield 46, 3) := by decide +kernel
theorem dX6_init_76 : decode cX6_init 76 = .ok (.aload_n 0, 1) := by decide +kernel
theorem dX6_init_77 : decode cX6_init 77 = .ok (.new 50, 3) := by decide +kernel
theorem dX6_init_80 : decode cX6_init 80 = .ok (.dup, 1) := by decide +kernel
theorem dX6_init_81 : decode cX6_init 81 = .ok (.invokespecial 52, 3) := by decide +kernel
theorem dX6_init_84 : decode cX6_init 84 = .ok (.putfield 53, 3) := by decide +kernel
theorem dX6_init_87 : decode cX6_init 87 = .ok (.aload_n 0, 1) := by decide +kernel
theorem dX6_init_88 : decode cX6_init 88 = .ok (.iconst 0, 1) := by decide +kernel
theorem dX6_init_89 : decode cX6_init 89 = .ok (.putfield 57, 3) := by decide +kernel
theorem dX6_init_92 : decode cX6_init 92 = .ok (.aload_n 0, 1) := by decide +kernel
theorem dX6_init_93 : decode cX6_init 93 = .ok (.iconst 0, 1) := by decide +kernel
theorem dX6_init_94 : decode cX6_init 94 = .ok (.putfield 61, 3) := by decide +kernel
theorem dX6_init_97 : decode cX6_init 97 = .ok (.iconst 0, 1) := by decide +kernel
theorem dX6_init_98 : decode cX6_init 98 = .ok (.istore_n 1, 1) := by decide +kernel
theorem dX6_init_99 : decode cX6_init 99 = .ok (.iload_n 1, 1) := by decide +kernel
theorem dX6_init_100 : decode cX6_init 100 = .ok (.bipush 8, 2) := by decide +kernel
theorem dX6_init_102 : decode cX6_init 102 = .ok (.if_icmp .ge 22, 3) := by decide +kernel
theorem dX6_init_105 : decode cX6_init 105 = .ok (.aload_n 0, 1) := by decide +kernel
theorem dX6_init_106 : decode cX6_init 106 = .ok (.getfield 11, 3) := by decide +kernel
theorem dX6_init_109 : decode cX6_init 109 = .ok (.iload_n 1, 1) := by decide +kernel
theorem dX6_init_110 : decode cX6_init 110 = .ok (.new 9, 3) := by decide +kernel
theorem dX6_init_113 : decode cX6_init 113 = .ok (.dup, 1) := by decide +kernel
theorem dX6_init_114 : decode cX6_init 114 = .ok (.invokespecial 64, 3) := by decide +kernel
theorem dX6_init_117 : decode cX6_init 117 = .ok (.aastore, 1) := by decide +kernel
theorem dX6_init_118 : decode cX6_init 118 = .ok (.iinc 1 1, 3) := by decide +kernel
theorem dX6_init_121 : decode cX6_init 121 = .ok (.goto (-22), 3) := by decide +kernel
theorem dX6_init_124 : decode cX6_init 124 = .ok (.iconst 0, 1) := by decide +kernel
theorem dX6_init_125 : decode cX6_init 125 = .ok (.istore_n 1, 1) := by decide +kernel
theorem dX6_init_126 : decode cX6_init 126 = .ok (.iload_n 1, 1) := by decide +kernel
theorem dX6_init_127 : decode cX6_init 127 = .ok (.iconst 2, 1) := by decide +kernel
theorem dX6_init_128 : decode cX6_init 128 = .ok (.if_icmp .ge 22, 3) := by decide +kernel
theorem dX6_init_131 : decode cX6_init 131 = .ok (.aload_n 0, 1) := by decide +kernel
theorem dX6_init_132 : decode cX6_init 132 = .ok (.getfield 17, 3) := by decide +kernel
theorem dX6_init_135 : decode cX6_init 135 = .ok (.iload_n 1, 1) := by decide +kernel
theorem dX6_init_136 : decode cX6_init 136 = .ok (.new 15, 3) := by decide +kernel
theorem dX6_init_139 : decode cX6_init 139 = .ok (.dup, 1) := by decide +kernel
theorem dX6_init_140 : decode cX6_init 140 = .ok (.invokespecial 21, 3) := by decide +kernel
theorem dX6_init_143 : decode cX6_init 143 = .ok (.aastore, 1) := by decide +kernel
theorem dX6_init_144 : decode cX6_init 144 = .ok (.iinc 1 1, 3) := by decide +kernel
theorem dX6_init_147 : decode cX6_init 147 = .ok (.goto (-21), 3) := by decide +kernel
theorem dX6_init_150 : decode cX6_init 150 = .ok (.return_, 1) := by decide +kernel
theorem dX6_row_0 : decode cX6_row 0 = .ok (.iload_n 1, 1) := by decide +kernel
theorem dX6_row_1 : decode cX6_row 1 = .ok (.invokestatic 65, 3) := by decide +kernel
theorem dX6_row_4 : decode cX6_row 4 = .ok (.ifCond .eq 18, 3) := by decide +kernel
theorem dX6_row_7 : decode cX6_row 7 = .ok (.iload_n 2, 1) := by decide +kernel
theorem dX6_row_8 : decode cX6_row 8 = .ok (.ifCond .lt 14, 3) := by decide +kernel
theorem dX6_row_11 : decode cX6_row 11 = .ok (.iload_n 2, 1) := by decide +kernel
theorem dX6_row_12 : decode cX6_row 12 = .ok (.iconst 2, 1) := by decide +kernel
theorem dX6_row_13 : decode cX6_row 13 = .ok (.if_icmp .gt 9, 3) := by decide +kernel
theorem dX6_row_16 : decode cX6_row 16 = .ok (.iload_n 3, 1) := by decide +kernel
theorem dX6_row_17 : decode cX6_row 17 = .ok (.bipush 40, 2) := by decide +kernel
theorem dX6_row_19 : decode cX6_row 19 = .ok (.if_icmp .le 6, 3) := by decide +kernel
theorem dX6_row_22 : decode cX6_row 22 = .ok (.ldc 69, 2) := by decide +kernel
theorem dX6_row_24 : decode cX6_row 24 = .ok (.ireturn, 1) := by decide +kernel
theorem dX6_row_25 : decode cX6_row 25 = .ok (.iload_n 3, 1) := by decide +kernel
theorem dX6_row_26 : decode cX6_row 26 = .ok (.ifCond .ge 9, 3) := by decide +kernel
theorem dX6_row_29 : decode cX6_row 29 = .ok (.aload_n 0, 1) := by decide +kernel
theorem dX6_row_30 : decode cX6_row 30 = .ok (.iconst 4, 1) := by decide +kernel
theorem dX6_row_31 : decode cX6_row 31 = .ok (.invokevirtual 70, 3) := by decide +kernel
theorem dX6_row_34 : decode cX6_row 34 = .ok (.ireturn, 1) := by decide +kernel
theorem dX6_row_35 : decode cX6_row 35 = .ok (.aload_n 0, 1) := by decide +kernel
theorem dX6_row_36 : decode cX6_row 36 = .ok (.getfield 11, 3) := by decide +kernel
theorem dX6_row_39 : decode cX6_row 39 = .ok (.iload_n 1, 1) := by decide +kernel
theorem dX6_row_40 : decode cX6_row 40 = .ok (.aaload, 1) := by decide +kernel
theorem dX6_row_41 : decode cX6_row 41 = .ok (.iload_n 2, 1) := by decide +kernel
theorem dX6_row_42 : decode cX6_row 42 = .ok (.iload_n 3, 1) := by decide +kernel
theorem dX6_row_43 : decode cX6_row 43 = .ok (.invokevirtual 74, 3) := by decide +kernel
theorem dX6_row_46 : decode cX6_row 46 = .ok (.aload_n 0, 1) := by decide +kernel
theorem dX6_row_47 : decode cX6_row 47 = .ok (.iload_n 3, 1) := by decide +kernel
theorem dX6_row_48 : decode cX6_row 48 = .ok (.invokevirtual 78, 3) := by decide +kernel
theorem dX6_row_51 : decode cX6_row 51 = .ok (.ireturn, 1) := by decide +kernel
theorem dX6_set_0 : decode cX6_set 0 = .ok (.iload_n 1, 1) := by decide +kernel
theorem dX6_set_1 : decode cX6_set 1 = .ok (.invokestatic 65, 3) := by decide +kernel
theorem dX6_set_4 : decode cX6_set 4 = .ok (.ifCond .ne 6, 3) := by decide +kernel
theorem dX6_set_7 : decode cX6_set 7 = .ok (.ldc 69, 2) := by decide +kernel
theorem dX6_set_9 : decode cX6_set 9 = .ok (.ireturn, 1) := by decide +kernel
theorem dX6_set_10 : decode cX6_set 10 = .ok (.aload_n 0, 1) := by decide +kernel
theorem dX6_set_11 : decode cX6_set 11 = .ok (.getfield 11, 3) := by decide +kernel
theorem dX6_set_14 : decode cX6_set 14 = .ok (.iload_n 1, 1) := by decide +kernel
theorem dX6_set_15 : decode cX6_set 15 = .ok (.aaload, 1) := by decide +kernel
theorem dX6_set_16 : decode cX6_set 16 = .ok (.astore 4, 2) := by decide +kernel
theorem dX6_set_18 : decode cX6_set 18 = .ok (.aload 4, 2) := by decide +kernel
theorem dX6_set_20 : decode cX6_set 20 = .ok (.iload_n 2, 1) := by decide +kernel
theorem dX6_set_21 : decode cX6_set 21 = .ok (.iconst 1, 1) := by decide +kernel
theorem dX6_set_22 : decode cX6_set 22 = .ok (.invokestatic 81, 3) := by decide +kernel
theorem dX6_set_25 : decode cX6_set 25 = .ok (.istore 5, 2) := by decide +kernel
theorem dX6_set_27 : decode cX6_set 27 = .ok (.iload 5, 2) := by decide +kernel
theorem dX6_set_29 : decode cX6_set 29 = .ok (.ifCond .eq 10, 3) := by decide +kernel
theorem dX6_set_32 : decode cX6_set 32 = .ok (.aload_n 0, 1) := by decide +kernel
theorem dX6_set_33 : decode cX6_set 33 = .ok (.iload 5, 2) := by decide +kernel
theorem dX6_set_35 : decode cX6_set 35 = .ok (.invokevirtual 70, 3) := by decide +kernel
theorem dX6_set_38 : decode cX6_set 38 = .ok (.ireturn, 1) := by decide +kernel
theorem dX6_set_39 : decode cX6_set 39 = .ok (.aload 4, 2) := by decide +kernel
theorem dX6_set_41 : decode cX6_set 41 = .ok (.getfield 85, 3) := by decide +kernel
theorem dX6_set_44 : decode cX6_set 44 = .ok (.iload_n 2, 1) := by decide +kernel
theorem dX6_set_45 : decode cX6_set 45 = .ok (.aload 4, 2) := by decide +kernel
theorem dX6_set_47 : decode cX6_set 47 = .ok (.iload_n 3, 1) := by decide +kernel
theorem dX6_set_48 : decode cX6_set 48 = .ok (.invokevirtual 89, 3) := by decide +kernel
theorem dX6_set_51 : decode cX6_set 51 = .ok (.iastore, 1) := by decide +kernel
theorem dX6_set_52 : decode cX6_set 52 = .ok (.aload_n 0, 1) := by decide +kernel
theorem dX6_set_53 : decode cX6_set 53 = .ok (.aload 4, 2) := by decide +kernel
theorem dX6_set_55 : decode cX6_set 55 = .ok (.getfield 85, 3) := by decide +kernel
theorem dX6_set_58 : decode cX6_set 58 = .ok (.iload_n 2, 1) := by decide +kernel
theorem dX6_set_59 : decode cX6_set 59 = .ok (.iaload, 1) := by decide +kernel
theorem dX6_set_60 : decode cX6_set 60 = .ok (.invokevirtual 78, 3) := by decide +kernel
theorem dX6_set_63 : decode cX6_set 63 = .ok (.ireturn, 1) := by decide +kernel
theorem dX6_copy_0 : decode cX6_copy 0 = .ok (.iload_n 1, 1) := by decide +kernel
theorem dX6_copy_1 : decode cX6_copy 1 = .ok (.invokestatic 65, 3) := by decide +kernel
theorem dX6_copy_4 : decode cX6_copy 4 = .ok (.ifCond .eq 10, 3) := by decide +kernel
theorem dX6_copy_7 : decode cX6_copy 7 = .ok (.iload_n 3, 1) := by decide +kernel
theorem dX6_copy_8 : decode cX6_copy 8 = .ok (.invokestatic 65, 3) := by decide +kernel
theorem dX6_copy_11 : decode cX6_copy 11 = .ok (.ifCond .ne 6, 3) := by decide +kernel
theorem dX6_copy_14 : decode cX6_copy 14 = .ok (.ldc 69, 2) := by decide +kernel
theorem dX6_copy_16 : decode cX6_copy 16 = .ok (.ireturn, 1) := by decide +kernel
theorem dX6_copy_17 : decode cX6_copy 17 = .ok (.aload_n 0, 1) := by decide +kernel
theorem dX6_copy_18 : decode cX6_copy 18 = .ok (.getfield 11, 3) := by decide +kernel
theorem dX6_copy_21 : decode cX6_copy 21 = .ok (.iload_n 1, 1) := by decide +kernel
theorem dX6_copy_22 : decode cX6_copy 22 = .ok (.aaload, 1) := by decide +kernel
theorem dX6_copy_23 : decode cX6_copy 23 = .ok (.astore 6, 2) := by decide +kernel
theorem dX6_copy_25 : decode cX6_copy 25 = .ok (.aload_n 0, 1) := by decide +kernel
theorem dX6_copy_26 : decode cX6_copy 26 = .ok (.getfield 11, 3) := by decide +kernel
theorem dX6_copy_29 : decode cX6_copy 29 = .ok (.iload_n 3, 1) := by decide +kernel
theorem dX6_copy_30 : decode cX6_copy 30 = .ok (.aaload, 1) := by decide +kernel
theorem dX6_copy_31 : decode cX6_copy 31 = .ok (.astore 7, 2) := by decide +kernel
theorem dX6_copy_33 : decode cX6_copy 33 = .ok (.aload 6, 2) := by decide +kernel
theorem dX6_copy_35 : decode cX6_copy 35 = .ok (.invokevirtual 92, 3) := by decide +kernel
theorem dX6_copy_38 : decode cX6_copy 38 = .ok (.ifCond .ne 11, 3) := by decide +kernel
theorem dX6_copy_41 : decode cX6_copy 41 = .ok (.aload 7, 2) := by decide +kernel
theorem dX6_copy_43 : decode cX6_copy 43 = .ok (.invokevirtual 92, 3) := by decide +kernel
theorem dX6_copy_46 : decode cX6_copy 46 = .ok (.ifCond .eq 9, 3) := by decide +kernel
theorem dX6_copy_49 : decode cX6_copy 49 = .ok (.aload_n 0, 1) := by decide +kernel
theorem dX6_copy_50 : decode cX6_copy 50 = .ok (.iconst 1, 1) := by decide +kernel
theorem dX6_copy_51 : decode cX6_copy 51 = .ok (.invokevirtual 70, 3) := by decide +kernel
theorem dX6_copy_54 : decode cX6_copy 54 = .ok (.ireturn, 1) := by decide +kernel
theorem dX6_copy_55 : decode cX6_copy 55 = .ok (.aload 6, 2) := by decide +kernel
theorem dX6_copy_57 : decode cX6_copy 57 = .ok (.getfield 96, 3) := by decide +kernel
theorem dX6_copy_60 : decode cX6_copy 60 = .ok (.aload 7, 2) := by decide +kernel
theorem dX6_copy_62 : decode cX6_copy 62 = .ok (.getfield 96, 3) := by decide +kernel
theorem dX6_copy_65 : decode cX6_copy 65 = .ok (.if_icmp .eq 9, 3) := by decide +kernel
theorem dX6_copy_68 : decode cX6_copy 68 = .ok (.aload_n 0, 1) := by decide +kernel
theorem dX6_copy_69 : decode cX6_copy 69 = .ok (.iconst 5, 1) := by decide +kernel
theorem dX6_copy_70 : decode cX6_copy 70 = .ok (.invokevirtual 70, 3) := by decide +kernel
theorem dX6_copy_73 : decode cX6_copy 73 = .ok (.ireturn, 1) := by decide +kernel
theorem dX6_copy_74 : decode cX6_copy 74 = .ok (.aload 6, 2) := by decide +kernel
theorem dX6_copy_76 : decode cX6_copy 76 = .ok (.iload_n 2, 1) := by decide +kernel
theorem dX6_copy_77 : decode cX6_copy 77 = .ok (.iload 5, 2) := by decide +kernel
theorem dX6_copy_79 : decode cX6_copy 79 = .ok (.invokevirtual 99, 3) := by decide +kernel
theorem dX6_copy_82 : decode cX6_copy 82 = .ok (.ifCond .eq 15, 3) := by decide +kernel
theorem dX6_copy_85 : decode cX6_copy 85 = .ok (.aload 7, 2) := by decide +kernel
theorem dX6_copy_87 : decode cX6_copy 87 = .ok (.iload 4, 2) := by decide +kernel
theorem dX6_copy_89 : decode cX6_copy 89 = .ok (.iload 5, 2) := by decide +kernel
theorem dX6_copy_91 : decode cX6_copy 91 = .ok (.invokevirtual 99, 3) := by decide +kernel
theorem dX6_copy_94 : decode cX6_copy 94 = .ok (.ifCond .ne 9, 3) := by decide +kernel
theorem dX6_copy_97 : decode cX6_copy 97 = .ok (.aload_n 0, 1) := by decide +kernel
theorem dX6_copy_98 : decode cX6_copy 98 = .ok (.iconst 2, 1) := by decide +kernel
theorem dX6_copy_99 : decode cX6_copy 99 = .ok (.invokevirtual 70, 3) := by decide +kernel
theorem dX6_copy_102 : decode cX6_copy 102 = .ok (.ireturn, 1) := by decide +kernel
theorem dX6_copy_103 : decode cX6_copy 103 = .ok (.aload 6, 2) := by decide +kernel
theorem dX6_copy_105 : decode cX6_copy 105 = .ok (.getfield 85, 3) := by decide +kernel
theorem dX6_copy_108 : decode cX6_copy 108 = .ok (.iload_n 2, 1) := by decide +kernel
theorem dX6_copy_109 : decode cX6_copy 109 = .ok (.aload 7, 2) := by decide +kernel
theorem dX6_copy_111 : decode cX6_copy 111 = .ok (.getfield 85, 3) := by decide +kernel
theorem dX6_copy_114 : decode cX6_copy 114 = .ok (.iload 4, 2) := by decide +kernel
theorem dX6_copy_116 : decode cX6_copy 116 = .ok (.iload 5, 2) := by decide +kernel
theorem dX6_copy_118 : decode cX6_copy 118 = .ok (.invokestatic 103, 3) := by decide +kernel
theorem dX6_copy_121 : decode cX6_copy 121 = .ok (.aload_n 0, 1) := by decide +kernel
theorem dX6_copy_122 : decode cX6_copy 122 = .ok (.iload 5, 2) := by decide +kernel
theorem dX6_copy_124 : decode cX6_copy 124 = .ok (.invokevirtual 78, 3) := by decide +kernel
theorem dX6_copy_127 : decode cX6_copy 127 = .ok (.ireturn, 1) := by decide +kernel
theorem dX6_drop_0 : decode cX6_drop 0 = .ok (.iload_n 1, 1) := by decide +kernel
theorem dX6_drop_1 : decode cX6_drop 1 = .ok (.invokestatic 65, 3) := by decide +kernel
theorem dX6_drop_4 : decode cX6_drop 4 = .ok (.ifCond .ne 6, 3) := by decide +kernel
theorem dX6_drop_7 : decode cX6_drop 7 = .ok (.ldc 69, 2) := by decide +kernel
theorem dX6_drop_9 : decode cX6_drop 9 = .ok (.ireturn, 1) := by decide +kernel
theorem dX6_drop_10 : decode cX6_drop 10 = .ok (.aload_n 0, 1) := by decide +kernel
theorem dX6_drop_11 : decode cX6_drop 11 = .ok (.getfield 11, 3) := by decide +kernel
theorem dX6_drop_14 : decode cX6_drop 14 = .ok (.iload_n 1, 1) := by decide +kernel
theorem dX6_drop_15 : decode cX6_drop 15 = .ok (.aaload, 1) := by decide +kernel
theorem dX6_drop_16 : decode cX6_drop 16 = .ok (.astore_n 2, 1) := by decide +kernel
theorem dX6_drop_17 : decode cX6_drop 17 = .ok (.aload_n 2, 1) := by decide +kernel
theorem dX6_drop_18 : decode cX6_drop 18 = .ok (.invokevirtual 92, 3) := by decide +kernel
theorem dX6_drop_21 : decode cX6_drop 21 = .ok (.ifCond .eq 9, 3) := by decide +kernel
theorem dX6_drop_24 : decode cX6_drop 24 = .ok (.aload_n 0, 1) := by decide +kernel
theorem dX6_drop_25 : decode cX6_drop 25 = .ok (.iconst 1, 1) := by decide +kernel
theorem dX6_drop_26 : decode cX6_drop 26 = .ok (.invokevirtual 70, 3) := by decide +kernel
theorem dX6_drop_29 : decode cX6_drop 29 = .ok (.ireturn, 1) := by decide +kernel
theorem dX6_drop_30 : decode cX6_drop 30 = .ok (.aload_n 2, 1) := by decide +kernel
theorem dX6_drop_31 : decode cX6_drop 31 = .ok (.getfield 109, 3) := by decide +kernel
theorem dX6_drop_34 : decode cX6_drop 34 = .ok (.istore_n 3, 1) := by decide +kernel
theorem dX6_drop_35 : decode cX6_drop 35 = .ok (.aload_n 2, 1) := by decide +kernel
theorem dX6_drop_36 : decode cX6_drop 36 = .ok (.iconst (-1), 1) := by decide +kernel
theorem dX6_drop_37 : decode cX6_drop 37 = .ok (.iconst 0, 1) := by decide +kernel
theorem dX6_drop_38 : decode cX6_drop 38 = .ok (.invokevirtual 74, 3) := by decide +kernel
theorem dX6_drop_41 : decode cX6_drop 41 = .ok (.aload_n 0, 1) := by decide +kernel
theorem dX6_drop_42 : decode cX6_drop 42 = .ok (.iload_n 3, 1) := by decide +kernel
theorem dX6_drop_43 : decode cX6_drop 43 = .ok (.invokevirtual 78, 3) := by decide +kernel
theorem dX6_drop_46 : decode cX6_drop 46 = .ok (.ireturn, 1) := by decide +kernel
theorem dX6_feed_0 : decode cX6_feed 0 = .ok (.iload_n 1, 1) := by decide +kernel
theorem dX6_feed_1 : decode cX6_feed 1 = .ok (.ifCond .lt 10, 3) := by decide +kernel
theorem dX6_feed_4 : decode cX6_feed 4 = .ok (.iload_n 1, 1) := by decide +kernel
theorem dX6_feed_5 : decode cX6_feed 5 = .ok (.sipush 255, 3) := by decide +kernel
theorem dX6_feed_8 : decode cX6_feed 8 = .ok (.if_icmp .le 6, 3) := by decide +kernel
theorem dX6_feed_11 : decode cX6_feed 11 = .ok (.ldc 69, 2) := by decide +kernel
theorem dX6_feed_13 : decode cX6_feed 13 = .ok (.ireturn, 1) := by decide +kernel
theorem dX6_feed_14 : decode cX6_feed 14 = .ok (.aload_n 0, 1) := by decide +kernel
theorem dX6_feed_15 : decode cX6_feed 15 = .ok (.getfield 32, 3) := by decide +kernel
theorem dX6_feed_18 : decode cX6_feed 18 = .ok (.iload_n 1, 1) := by decide +kernel
theorem dX6_feed_19 : decode cX6_feed 19 = .ok (.invokevirtual 112, 3) := by decide +kernel
theorem dX6_feed_22 : decode cX6_feed 22 = .ok (.ifCond .eq 13, 3) := by decide +kernel
theorem dX6_feed_25 : decode cX6_feed 25 = .ok (.aload_n 0, 1) := by decide +kernel
theorem dX6_feed_26 : decode cX6_feed 26 = .ok (.getfield 32, 3) := by decide +kernel
theorem dX6_feed_29 : decode cX6_feed 29 = .ok (.getfield 115, 3) := by decide +kernel
theorem dX6_feed_32 : decode cX6_feed 32 = .ok (.goto 5, 3) := by decide +kernel
theorem dX6_feed_35 : decode cX6_feed 35 = .ok (.ldc 118, 2) := by decide +kernel
theorem dX6_feed_37 : decode cX6_feed 37 = .ok (.ireturn, 1) := by decide +kernel
theorem dX6_street_0 : decode cX6_street 0 = .ok (.aload_n 0, 1) := by decide +kernel
theorem dX6_street_1 : decode cX6_street 1 = .ok (.getfield 32, 3) := by decide +kernel
theorem dX6_street_4 : decode cX6_street 4 = .ok (.aload_n 0, 1) := by decide +kernel
theorem dX6_street_5 : decode cX6_street 5 = .ok (.getfield 26, 3) := by decide +kernel
theorem dX6_street_8 : decode cX6_street 8 = .ok (.invokevirtual 119, 3) := by decide +kernel
theorem dX6_street_11 : decode cX6_street 11 = .ok (.istore_n 1, 1) := by decide +kernel
theorem dX6_street_12 : decode cX6_street 12 = .ok (.aload_n 0, 1) := by decide +kernel
theorem dX6_street_13 : decode cX6_street 13 = .ok (.getfield 32, 3) := by decide +kernel
theorem dX6_street_16 : decode cX6_street 16 = .ok (.iconst 0, 1) := by decide +kernel
theorem dX6_street_17 : decode cX6_street 17 = .ok (.putfield 115, 3) := by decide +kernel
theorem dX6_street_20 : decode cX6_street 20 = .ok (.iload_n 1, 1) := by decide +kernel
theorem dX6_street_21 : decode cX6_street 21 = .ok (.ifCond .ne 25, 3) := by decide +kernel
theorem dX6_street_24 : decode cX6_street 24 = .ok (.aload_n 0, 1) := by decide +kernel
theorem dX6_street_25 : decode cX6_street 25 = .ok (.aload_n 0, 1) := by decide +kernel
theorem dX6_street_26 : decode cX6_street 26 = .ok (.getfield 32, 3) := by decide +kernel
theorem dX6_street_29 : decode cX6_street 29 = .ok (.getfield 123, 3) := by decide +kernel
theorem dX6_street_32 : decode cX6_street 32 = .ok (.putfield 57, 3) := by decide +kernel
theorem dX6_street_35 : decode cX6_street 35 = .ok (.ldc 126, 2) := by decide +kernel
theorem dX6_street_37 : decode cX6_street 37 = .ok (.aload_n 0, 1) := by decide +kernel
theorem dX6_street_38 : decode cX6_street 38 = .ok (.getfield 32, 3) := by decide +kernel
theorem dX6_street_41 : decode cX6_street 41 = .ok (.getfield 127, 3) := by decide +kernel
theorem dX6_street_44 : decode cX6_street 44 = .ok (.isub, 1) := by decide +kernel
theorem dX6_street_45 : decode cX6_street 45 = .ok (.ireturn, 1) := by decide +kernel
theorem dX6_street_46 : decode cX6_street 46 = .ok (.aload_n 0, 1) := by decide +kernel
theorem dX6_street_47 : decode cX6_street 47 = .ok (.getfield 22, 3) := by decide +kernel
theorem dX6_street_50 : decode cX6_street 50 = .ok (.aload_n 0, 1) := by decide +kernel
theorem dX6_street_51 : decode cX6_street 51 = .ok (.getfield 26, 3) := by decide +kernel
theorem dX6_street_54 : decode cX6_street 54 = .ok (.invokevirtual 130, 3) := by decide +kernel
theorem dX6_street_57 : decode cX6_street 57 = .ok (.aload_n 0, 1) := by decide +kernel
theorem dX6_street_58 : decode cX6_street 58 = .ok (.getfield 39, 3) := by decide +kernel
theorem dX6_street_61 : decode cX6_street 61 = .ok (.invokevirtual 134, 3) := by decide +kernel
theorem dX6_street_64 : decode cX6_street 64 = .ok (.aload_n 0, 1) := by decide +kernel
theorem dX6_street_65 : decode cX6_street 65 = .ok (.getfield 22, 3) := by decide +kernel
theorem dX6_street_68 : decode cX6_street 68 = .ok (.getfield 137, 3) := by decide +kernel
theorem dX6_street_71 : decode cX6_street 71 = .ok (.ireturn, 1) := by decide +kernel
theorem dX6_fault_0 : decode cX6_fault 0 = .ok (.aload_n 0, 1) := by decide +kernel
theorem dX6_fault_1 : decode cX6_fault 1 = .ok (.getfield 57, 3) := by decide +kernel
theorem dX6_fault_4 : decode cX6_fault 4 = .ok (.ireturn, 1) := by decide +kernel
theorem dX6_undo_0 : decode cX6_undo 0 = .ok (.aload_n 0, 1) := by decide +kernel
theorem dX6_undo_1 : decode cX6_undo 1 = .ok (.getfield 39, 3) := by decide +kernel
theorem dX6_undo_4 : decode cX6_undo 4 = .ok (.getfield 140, 3) := by decide +kernel
theorem dX6_undo_7 : decode cX6_undo 7 = .ok (.ifCond .ne 6, 3) := by decide +kernel
theorem dX6_undo_10 : decode cX6_undo 10 = .ok (.ldc 143, 2) := by decide +kernel
theorem dX6_undo_12 : decode cX6_undo 12 = .ok (.ireturn, 1) := by decide +kernel
theorem dX6_undo_13 : decode cX6_undo 13 = .ok (.aload_n 0, 1) := by decide +kernel
theorem dX6_undo_14 : decode cX6_undo 14 = .ok (.getfield 39, 3) := by decide +kernel
theorem dX6_undo_17 : decode cX6_undo 17 = .ok (.aload_n 0, 1) := by decide +kernel
theorem dX6_undo_18 : decode cX6_undo 18 = .ok (.getfield 22, 3) := by decide +kernel
theorem dX6_undo_21 : decode cX6_undo 21 = .ok (.invokevirtual 144, 3) := by decide +kernel
theorem dX6_undo_24 : decode cX6_undo 24 = .ok (.aload_n 0, 1) := by decide +kernel
theorem dX6_undo_25 : decode cX6_undo 25 = .ok (.getfield 39, 3) := by decide +kernel
theorem dX6_undo_28 : decode cX6_undo 28 = .ok (.getfield 140, 3) := by decide +kernel
theorem dX6_undo_31 : decode cX6_undo 31 = .ok (.ireturn, 1) := by decide +kernel
theorem dX6_stretch_0 : decode cX6_stretch 0 = .ok (.aload_n 0, 1) := by decide +kernel
theorem dX6_stretch_1 : decode cX6_stretch 1 = .ok (.getfield 22, 3) := by decide +kernel
theorem dX6_stretch_4 : decode cX6_stretch 4 = .ok (.iload_n 1, 1) := by decide +kernel
theorem dX6_stretch_5 : decode cX6_stretch 5 = .ok (.invokevirtual 147, 3) := by decide +kernel
theorem dX6_stretch_8 : decode cX6_stretch 8 = .ok (.ifCond .eq 12, 3) := by decide +kernel
theorem dX6_stretch_11 : decode cX6_stretch 11 = .ok (.iload_n 2, 1) := by decide +kernel
theorem dX6_stretch_12 : decode cX6_stretch 12 = .ok (.ifCond .lt 8, 3) := by decide +kernel
theorem dX6_stretch_15 : decode cX6_stretch 15 = .ok (.iload_n 2, 1) := by decide +kernel
theorem dX6_stretch_16 : decode cX6_stretch 16 = .ok (.iconst 5, 1) := by decide +kernel
theorem dX6_stretch_17 : decode cX6_stretch 17 = .ok (.if_icmp .le 6, 3) := by decide +kernel
theorem dX6_stretch_20 : decode cX6_stretch 20 = .ok (.ldc 69, 2) := by decide +kernel
theorem dX6_stretch_22 : decode cX6_stretch 22 = .ok (.ireturn, 1) := by decide +kernel
theorem dX6_stretch_23 : decode cX6_stretch 23 = .ok (.aload_n 0, 1) := by decide +kernel
theorem dX6_stretch_24 : decode cX6_stretch 24 = .ok (.getfield 22, 3) := by decide +kernel
theorem dX6_stretch_27 : decode cX6_stretch 27 = .ok (.getfield 150, 3) := by decide +kernel
theorem dX6_stretch_30 : decode cX6_stretch 30 = .ok (.iload_n 1, 1) := by decide +kernel
theorem dX6_stretch_31 : decode cX6_stretch 31 = .ok (.iaload, 1) := by decide +kernel
theorem dX6_stretch_32 : decode cX6_stretch 32 = .ok (.istore_n 3, 1) := by decide +kernel
theorem dX6_stretch_33 : decode cX6_stretch 33 = .ok (.aload_n 0, 1) := by decide +kernel
theorem dX6_stretch_34 : decode cX6_stretch 34 = .ok (.getfield 22, 3) := by decide +kernel
theorem dX6_stretch_37 : decode cX6_stretch 37 = .ok (.invokevirtual 153, 3) := by decide +kernel
theorem dX6_stretch_40 : decode cX6_stretch 40 = .ok (.iload_n 3, 1) := by decide +kernel
theorem dX6_stretch_41 : decode cX6_stretch 41 = .ok (.isub, 1) := by decide +kernel
theorem dX6_stretch_42 : decode cX6_stretch 42 = .ok (.iload_n 2, 1) := by decide +kernel
theorem dX6_stretch_43 : decode cX6_stretch 43 = .ok (.iadd, 1) := by decide +kernel
theorem dX6_stretch_44 : decode cX6_stretch 44 = .ok (.aload_n 0, 1) := by decide +kernel
theorem dX6_stretch_45 : decode cX6_stretch 45 = .ok (.getfield 22, 3) := by decide +kernel
theorem dX6_stretch_48 : decode cX6_stretch 48 = .ok (.getfield 157, 3) := by decide +kernel
theorem dX6_stretch_51 : decode cX6_stretch 51 = .ok (.if_icmp .le 6, 3) := by decide +kernel
theorem dX6_stretch_54 : decode cX6_stretch 54 = .ok (.ldc 118, 2) := by decide +kernel
theorem dX6_stretch_56 : decode cX6_stretch 56 = .ok (.ireturn, 1) := by decide +kernel
theorem dX6_stretch_57 : decode cX6_stretch 57 = .ok (.aload_n 0, 1) := by decide +kernel
theorem dX6_stretch_58 : decode cX6_stretch 58 = .ok (.getfield 22, 3) := by decide +kernel
theorem dX6_stretch_61 : decode cX6_stretch 61 = .ok (.getfield 150, 3) := by decide +kernel
theorem dX6_stretch_64 : decode cX6_stretch 64 = .ok (.iload_n 1, 1) := by decide +kernel
theorem dX6_stretch_65 : decode cX6_stretch 65 = .ok (.iload_n 2, 1) := by decide +kernel
theorem dX6_stretch_66 : decode cX6_stretch 66 = .ok (.iastore, 1) := by decide +kernel
theorem dX6_stretch_67 : decode cX6_stretch 67 = .ok (.aload_n 0, 1) := by decide +kernel
theorem dX6_stretch_68 : decode cX6_stretch 68 = .ok (.getfield 39, 3) := by decide +kernel
theorem dX6_stretch_71 : decode cX6_stretch 71 = .ok (.iconst 2, 1) := by decide +kernel
theorem dX6_stretch_72 : decode cX6_stretch 72 = .ok (.iload_n 1, 1) := by decide +kernel
theorem dX6_stretch_73 : decode cX6_stretch 73 = .ok (.iload_n 3, 1) := by decide +kernel
theorem dX6_stretch_74 : decode cX6_stretch 74 = .ok (.invokevirtual 160, 3) := by decide +kernel
theorem dX6_stretch_77 : decode cX6_stretch 77 = .ok (.iload_n 3, 1) := by decide +kernel
theorem dX6_stretch_78 : decode cX6_stretch 78 = .ok (.ireturn, 1) := by decide +kernel
theorem dX6_sound_0 : decode cX6_sound 0 = .ok (.aload_n 0, 1) := by decide +kernel
theorem dX6_sound_1 : decode cX6_sound 1 = .ok (.getfield 22, 3) := by decide +kernel
theorem dX6_sound_4 : decode cX6_sound 4 = .ok (.iload_n 1, 1) := by decide +kernel
theorem dX6_sound_5 : decode cX6_sound 5 = .ok (.invokevirtual 147, 3) := by decide +kernel
theorem dX6_sound_8 : decode cX6_sound 8 = .ok (.ifCond .eq 17, 3) := by decide +kernel
theorem dX6_sound_11 : decode cX6_sound 11 = .ok (.iload_n 2, 1) := by decide +kernel
theorem dX6_sound_12 : decode cX6_sound 12 = .ok (.invokestatic 164, 3) := by decide +kernel
theorem dX6_sound_15 : decode cX6_sound 15 = .ok (.ifCond .eq 10, 3) := by decide +kernel
theorem dX6_sound_18 : decode cX6_sound 18 = .ok (.iload_n 3, 1) := by decide +kernel
theorem dX6_sound_19 : decode cX6_sound 19 = .ok (.invokestatic 164, 3) := by decide +kernel
theorem dX6_sound_22 : decode cX6_sound 22 = .ok (.ifCond .ne 6, 3) := by decide +kernel
theorem dX6_sound_25 : decode cX6_sound 25 = .ok (.ldc 69, 2) := by decide +kernel
theorem dX6_sound_27 : decode cX6_sound 27 = .ok (.ireturn, 1) := by decide +kernel
theorem dX6_sound_28 : decode cX6_sound 28 = .ok (.iload_n 2, 1) := by decide +kernel
theorem dX6_sound_29 : decode cX6_sound 29 = .ok (.ifCond .ne 13, 3) := by decide +kernel
theorem dX6_sound_32 : decode cX6_sound 32 = .ok (.aload_n 0, 1) := by decide +kernel
theorem dX6_sound_33 : decode cX6_sound 33 = .ok (.getfield 22, 3) := by decide +kernel
theorem dX6_sound_36 : decode cX6_sound 36 = .ok (.getfield 167, 3) := by decide +kernel
theorem dX6_sound_39 : decode cX6_sound 39 = .ok (.goto 10, 3) := by decide +kernel
theorem dX6_sound_42 : decode cX6_sound 42 = .ok (.aload_n 0, 1) := by decide +kernel
theorem dX6_sound_43 : decode cX6_sound 43 = .ok (.getfield 22, 3) := by decide +kernel
theorem dX6_sound_46 : decode cX6_sound 46 = .ok (.getfield 170, 3) := by decide +kernel
theorem dX6_sound_49 : decode cX6_sound 49 = .ok (.astore 4, 2) := by decide +kernel
theorem dX6_sound_51 : decode cX6_sound 51 = .ok (.aload 4, 2) := by decide +kernel
theorem dX6_sound_53 : decode cX6_sound 53 = .ok (.iload_n 1, 1) := by decide +kernel
theorem dX6_sound_54 : decode cX6_sound 54 = .ok (.iaload, 1) := by decide +kernel
theorem dX6_sound_55 : decode cX6_sound 55 = .ok (.iload_n 3, 1) := by decide +kernel
theorem dX6_sound_56 : decode cX6_sound 56 = .ok (.if_icmp .ne 6, 3) := by decide +kernel
theorem dX6_sound_59 : decode cX6_sound 59 = .ok (.ldc 143, 2) := by decide +kernel
theorem dX6_sound_61 : decode cX6_sound 61 = .ok (.ireturn, 1) := by decide +kernel
theorem dX6_sound_62 : decode cX6_sound 62 = .ok (.iload_n 3, 1) := by decide +kernel
theorem dX6_sound_63 : decode cX6_sound 63 = .ok (.iconst 1, 1) := by decide +kernel
theorem dX6_sound_64 : decode cX6_sound 64 = .ok (.if_icmp .ne 23, 3) := by decide +kernel
theorem dX6_sound_67 : decode cX6_sound 67 = .ok (.aload_n 0, 1) := by decide +kernel
theorem dX6_sound_68 : decode cX6_sound 68 = .ok (.getfield 22, 3) := by decide +kernel
theorem dX6_sound_71 : decode cX6_sound 71 = .ok (.invokevirtual 173, 3) := by decide +kernel
theorem dX6_sound_74 : decode cX6_sound 74 = .ok (.aload_n 0, 1) := by decide +kernel
theorem dX6_sound_75 : decode cX6_sound 75 = .ok (.getfield 22, 3) := by decide +kernel
theorem dX6_sound_78 : decode cX6_sound 78 = .ok (.getfield 176, 3) := by decide +kernel
theorem dX6_sound_81 : decode cX6_sound 81 = .ok (.if_icmp .lt 6, 3) := by decide +kernel
theorem dX6_sound_84 : decode cX6_sound 84 = .ok (.ldc 118, 2) := by decide +kernel
theorem dX6_sound_86 : decode cX6_sound 86 = .ok (.ireturn, 1) := by decide +kernel
theorem dX6_sound_87 : decode cX6_sound 87 = .ok (.aload 4, 2) := by decide +kernel
theorem dX6_sound_89 : decode cX6_sound 89 = .ok (.iload_n 1, 1) := by decide +kernel
theorem dX6_sound_90 : decode cX6_sound 90 = .ok (.iload_n 3, 1) := by decide +kernel
theorem dX6_sound_91 : decode cX6_sound 91 = .ok (.iastore, 1) := by decide +kernel
theorem dX6_sound_92 : decode cX6_sound 92 = .ok (.aload_n 0, 1) := by decide +kernel
theorem dX6_sound_93 : decode cX6_sound 93 = .ok (.getfield 39, 3) := by decide +kernel
theorem dX6_sound_96 : decode cX6_sound 96 = .ok (.iload_n 2, 1) := by decide +kernel
theorem dX6_sound_97 : decode cX6_sound 97 = .ok (.iload_n 1, 1) := by decide +kernel
theorem dX6_sound_98 : decode cX6_sound 98 = .ok (.iconst 1, 1) := by decide +kernel
theorem dX6_sound_99 : decode cX6_sound 99 = .ok (.iload_n 3, 1) := by decide +kernel
theorem dX6_sound_100 : decode cX6_sound 100 = .ok (.isub, 1) := by decide +kernel
theorem dX6_sound_101 : decode cX6_sound 101 = .ok (.invokevirtual 160, 3) := by decide +kernel
theorem dX6_sound_104 : decode cX6_sound 104 = .ok (.aload_n 0, 1) := by decide +kernel
theorem dX6_sound_105 : decode cX6_sound 105 = .ok (.getfield 22, 3) := by decide +kernel
theorem dX6_sound_108 : decode cX6_sound 108 = .ok (.invokevirtual 173, 3) := by decide +kernel
theorem dX6_sound_111 : decode cX6_sound 111 = .ok (.ireturn, 1) := by decide +kernel
theorem dX6_days_0 : decode cX6_days 0 = .ok (.aload_n 0, 1) := by decide +kernel
theorem dX6_days_1 : decode cX6_days 1 = .ok (.getfield 22, 3) := by decide +kernel
theorem dX6_days_4 : decode cX6_days 4 = .ok (.invokevirtual 179, 3) := by decide +kernel
theorem dX6_days_7 : decode cX6_days 7 = .ok (.ifCond .ne 6, 3) := by decide +kernel
theorem dX6_days_10 : decode cX6_days 10 = .ok (.ldc 143, 2) := by decide +kernel
theorem dX6_days_12 : decode cX6_days 12 = .ok (.ireturn, 1) := by decide +kernel
theorem dX6_days_13 : decode cX6_days 13 = .ok (.iload_n 1, 1) := by decide +kernel
theorem dX6_days_14 : decode cX6_days 14 = .ok (.iconst 1, 1) := by decide +kernel
theorem dX6_days_15 : decode cX6_days 15 = .ok (.if_icmp .lt 9, 3) := by decide +kernel
theorem dX6_days_18 : decode cX6_days 18 = .ok (.iload_n 1, 1) := by decide +kernel
theorem dX6_days_19 : decode cX6_days 19 = .ok (.bipush 24, 2) := by decide +kernel
theorem dX6_days_21 : decode cX6_days 21 = .ok (.if_icmp .le 6, 3) := by decide +kernel
theorem dX6_days_24 : decode cX6_days 24 = .ok (.ldc 69, 2) := by decide +kernel
theorem dX6_days_26 : decode cX6_days 26 = .ok (.ireturn, 1) := by decide +kernel
theorem dX6_days_27 : decode cX6_days 27 = .ok (.aload_n 0, 1) := by decide +kernel
theorem dX6_days_28 : decode cX6_days 28 = .ok (.getfield 22, 3) := by decide +kernel
theorem dX6_days_31 : decode cX6_days 31 = .ok (.getfield 182, 3) := by decide +kernel
theorem dX6_days_34 : decode cX6_days 34 = .ok (.iload_n 1, 1) := by decide +kernel
theorem dX6_days_35 : decode cX6_days 35 = .ok (.iadd, 1) := by decide +kernel
theorem dX6_days_36 : decode cX6_days 36 = .ok (.sipush 999, 3) := by decide +kernel
theorem dX6_days_39 : decode cX6_days 39 = .ok (.if_icmp .le 6, 3) := by decide +kernel
theorem dX6_days_42 : decode cX6_days 42 = .ok (.ldc 118, 2) := by decide +kernel
theorem dX6_days_44 : decode cX6_days 44 = .ok (.ireturn, 1) := by decide +kernel
theorem dX6_days_45 : decode cX6_days 45 = .ok (.iconst 0, 1) := by decide +kernel
theorem dX6_days_46 : decode cX6_days 46 = .ok (.istore_n 2, 1) := by decide +kernel
theorem dX6_days_47 : decode cX6_days 47 = .ok (.iconst 0, 1) := by decide +kernel
theorem dX6_days_48 : decode cX6_days 48 = .ok (.istore_n 3, 1) := by decide +kernel
theorem dX6_days_49 : decode cX6_days 49 = .ok (.iload_n 3, 1) := by decide +kernel
theorem dX6_days_50 : decode cX6_days 50 = .ok (.iload_n 1, 1) := by decide +kernel
theorem dX6_days_51 : decode cX6_days 51 = .ok (.if_icmp .ge 27, 3) := by decide +kernel
theorem dX6_days_54 : decode cX6_days 54 = .ok (.aload_n 0, 1) := by decide +kernel
theorem dX6_days_55 : decode cX6_days 55 = .ok (.getfield 22, 3) := by decide +kernel
theorem dX6_days_58 : decode cX6_days 58 = .ok (.invokevirtual 185, 3) := by decide +kernel
theorem dX6_days_61 : decode cX6_days 61 = .ok (.istore_n 2, 1) := by decide +kernel
theorem dX6_days_62 : decode cX6_days 62 = .ok (.aload_n 0, 1) := by decide +kernel
theorem dX6_days_63 : decode cX6_days 63 = .ok (.getfield 39, 3) := by decide +kernel
theorem dX6_days_66 : decode cX6_days 66 = .ok (.iconst 3, 1) := by decide +kernel
theorem dX6_days_67 : decode cX6_days 67 = .ok (.iconst 0, 1) := by decide +kernel
theorem dX6_days_68 : decode cX6_days 68 = .ok (.iload_n 2, 1) := by decide +kernel
theorem dX6_days_69 : decode cX6_days 69 = .ok (.invokevirtual 160, 3) := by decide +kernel
theorem dX6_days_72 : decode cX6_days 72 = .ok (.iinc 3 1, 3) := by decide +kernel
theorem dX6_days_75 : decode cX6_days 75 = .ok (.goto (-26), 3) := by decide +kernel
theorem dX6_days_78 : decode cX6_days 78 = .ok (.iload_n 2, 1) := by decide +kernel
theorem dX6_days_79 : decode cX6_days 79 = .ok (.ireturn, 1) := by decide +kernel
theorem dX6_door_0 : decode cX6_door 0 = .ok (.aload_n 0, 1) := by decide +kernel
theorem dX6_door_1 : decode cX6_door 1 = .ok (.getfield 22, 3) := by decide +kernel
theorem dX6_door_4 : decode cX6_door 4 = .ok (.iload_n 1, 1) := by decide +kernel
theorem dX6_door_5 : decode cX6_door 5 = .ok (.invokevirtual 147, 3) := by decide +kernel
theorem dX6_door_8 : decode cX6_door 8 = .ok (.ifCond .ne 6, 3) := by decide +kernel
theorem dX6_door_11 : decode cX6_door 11 = .ok (.ldc 69, 2) := by decide +kernel
theorem dX6_door_13 : decode cX6_door 13 = .ok (.ireturn, 1) := by decide +kernel
theorem dX6_door_14 : decode cX6_door 14 = .ok (.iload_n 2, 1) := by decide +kernel
theorem dX6_door_15 : decode cX6_door 15 = .ok (.tableswitch 108 0 6 #[41, 51, 61, 71, 81, 90, 99], 41) := by decide +kernel
theorem dX6_door_56 : decode cX6_door 56 = .ok (.aload_n 0, 1) := by decide +kernel
theorem dX6_door_57 : decode cX6_door 57 = .ok (.getfield 22, 3) := by decide +kernel
theorem dX6_door_60 : decode cX6_door 60 = .ok (.getfield 188, 3) := by decide +kernel
theorem dX6_door_63 : decode cX6_door 63 = .ok (.iload_n 1, 1) := by decide +kernel
theorem dX6_door_64 : decode cX6_door 64 = .ok (.iaload, 1) := by decide +kernel
theorem dX6_door_65 : decode cX6_door 65 = .ok (.ireturn, 1) := by decide +kernel
theorem dX6_door_66 : decode cX6_door 66 = .ok (.aload_n 0, 1) := by decide +kernel
theorem dX6_door_67 : decode cX6_door 67 = .ok (.getfield 22, 3) := by decide +kernel
theorem dX6_door_70 : decode cX6_door 70 = .ok (.getfield 150, 3) := by decide +kernel
theorem dX6_door_73 : decode cX6_door 73 = .ok (.iload_n 1, 1) := by decide +kernel
theorem dX6_door_74 : decode cX6_door 74 = .ok (.iaload, 1) := by decide +kernel
theorem dX6_door_75 : decode cX6_door 75 = .ok (.ireturn, 1) := by decide +kernel
theorem dX6_door_76 : decode cX6_door 76 = .ok (.aload_n 0, 1) := by decide +kernel
theorem dX6_door_77 : decode cX6_door 77 = .ok (.getfield 22, 3) := by decide +kernel
theorem dX6_door_80 : decode cX6_door 80 = .ok (.getfield 167, 3) := by decide +kernel
theorem dX6_door_83 : decode cX6_door 83 = .ok (.iload_n 1, 1) := by decide +kernel
theorem dX6_door_84 : decode cX6_door 84 = .ok (.iaload, 1) := by decide +kernel
theorem dX6_door_85 : decode cX6_door 85 = .ok (.ireturn, 1) := by decide +kernel
theorem dX6_door_86 : decode cX6_door 86 = .ok (.aload_n 0, 1) := by decide +kernel
theorem dX6_door_87 : decode cX6_door 87 = .ok (.getfield 22, 3) := by decide +kernel
theorem dX6_door_90 : decode cX6_door 90 = .ok (.getfield 170, 3) := by decide +kernel
theorem dX6_door_93 : decode cX6_door 93 = .ok (.iload_n 1, 1) := by decide +kernel
theorem dX6_door_94 : decode cX6_door 94 = .ok (.iaload, 1) := by decide +kernel
theorem dX6_door_95 : decode cX6_door 95 = .ok (.ireturn, 1) := by decide +kernel
theorem dX6_door_96 : decode cX6_door 96 = .ok (.aload_n 0, 1) := by decide +kernel
theorem dX6_door_97 : decode cX6_door 97 = .ok (.getfield 22, 3) := by decide +kernel
theorem dX6_door_100 : decode cX6_door 100 = .ok (.iload_n 1, 1) := by decide +kernel
theorem dX6_door_101 : decode cX6_door 101 = .ok (.invokevirtual 191, 3) := by decide +kernel
theorem dX6_door_104 : decode cX6_door 104 = .ok (.ireturn, 1) := by decide +kernel
theorem dX6_door_105 : decode cX6_door 105 = .ok (.aload_n 0, 1) := by decide +kernel
theorem dX6_door_106 : decode cX6_door 106 = .ok (.getfield 22, 3) := by decide +kernel
theorem dX6_door_109 : decode cX6_door 109 = .ok (.iload_n 1, 1) := by decide +kernel
theorem dX6_door_110 : decode cX6_door 110 = .ok (.invokevirtual 194, 3) := by decide +kernel
theorem dX6_door_113 : decode cX6_door 113 = .ok (.ireturn, 1) := by decide +kernel
theorem dX6_door_114 : decode cX6_door 114 = .ok (.aload_n 0, 1) := by decide +kernel
theorem dX6_door_115 : decode cX6_door 115 = .ok (.getfield 22, 3) := by decide +kernel
theorem dX6_door_118 : decode cX6_door 118 = .ok (.iload_n 1, 1) := by decide +kernel
theorem dX6_door_119 : decode cX6_door 119 = .ok (.invokevirtual 197, 3) := by decide +kernel
theorem dX6_door_122 : decode cX6_door 122 = .ok (.ireturn, 1) := by decide +kernel
theorem dX6_door_123 : decode cX6_door 123 = .ok (.ldc 69, 2) := by decide +kernel
theorem dX6_door_125 : decode cX6_door 125 = .ok (.ireturn, 1) := by decide +kernel
theorem dX6_caller_0 : decode cX6_caller 0 = .ok (.aload_n 0, 1) := by decide +kernel
theorem dX6_caller_1 : decode cX6_caller 1 = .ok (.getfield 22, 3) := by decide +kernel
theorem dX6_caller_4 : decode cX6_caller 4 = .ok (.iload_n 1, 1) := by decide +kernel
theorem dX6_caller_5 : decode cX6_caller 5 = .ok (.invokevirtual 200, 3) := by decide +kernel
theorem dX6_caller_8 : decode cX6_caller 8 = .ok (.ifCond .ne 6, 3) := by decide +kernel
theorem dX6_caller_11 : decode cX6_caller 11 = .ok (.ldc 69, 2) := by decide +kernel
theorem dX6_caller_13 : decode cX6_caller 13 = .ok (.ireturn, 1) := by decide +kernel
theorem dX6_caller_14 : decode cX6_caller 14 = .ok (.iload_n 2, 1) := by decide +kernel
theorem dX6_caller_15 : decode cX6_caller 15 = .ok (.tableswitch 89 0 4 #[33, 43, 53, 62, 79], 33) := by decide +kernel
theorem dX6_caller_48 : decode cX6_caller 48 = .ok (.aload_n 0, 1) := by decide +kernel
theorem dX6_caller_49 : decode cX6_caller 49 = .ok (.getfield 22, 3) := by decide +kernel
theorem dX6_caller_52 : decode cX6_caller 52 = .ok (.getfield 203, 3) := by decide +kernel
theorem dX6_caller_55 : decode cX6_caller 55 = .ok (.iload_n 1, 1) := by decide +kernel
theorem dX6_caller_56 : decode cX6_caller 56 = .ok (.iaload, 1) := by decide +kernel
theorem dX6_caller_57 : decode cX6_caller 57 = .ok (.ireturn, 1) := by decide +kernel
theorem dX6_caller_58 : decode cX6_caller 58 = .ok (.aload_n 0, 1) := by decide +kernel
theorem dX6_caller_59 : decode cX6_caller 59 = .ok (.getfield 22, 3) := by decide +kernel
theorem dX6_caller_62 : decode cX6_caller 62 = .ok (.getfield 206, 3) := by decide +kernel
theorem dX6_caller_65 : decode cX6_caller 65 = .ok (.iload_n 1, 1) := by decide +kernel
theorem dX6_caller_66 : decode cX6_caller 66 = .ok (.iaload, 1) := by decide +kernel
theorem dX6_caller_67 : decode cX6_caller 67 = .ok (.ireturn, 1) := by decide +kernel
theorem dX6_caller_68 : decode cX6_caller 68 = .ok (.aload_n 0, 1) := by decide +kernel
theorem dX6_caller_69 : decode cX6_caller 69 = .ok (.getfield 22, 3) := by decide +kernel
theorem dX6_caller_72 : decode cX6_caller 72 = .ok (.iload_n 1, 1) := by decide +kernel
theorem dX6_caller_73 : decode cX6_caller 73 = .ok (.invokevirtual 209, 3) := by decide +kernel
theorem dX6_caller_76 : decode cX6_caller 76 = .ok (.ireturn, 1) := by decide +kernel
theorem dX6_caller_77 : decode cX6_caller 77 = .ok (.aload_n 0, 1) := by decide +kernel
theorem dX6_caller_78 : decode cX6_caller 78 = .ok (.getfield 22, 3) := by decide +kernel
theorem dX6_caller_81 : decode cX6_caller 81 = .ok (.iload_n 1, 1) := by decide +kernel
theorem dX6_caller_82 : decode cX6_caller 82 = .ok (.invokevirtual 212, 3) := by decide +kernel
theorem dX6_caller_85 : decode cX6_caller 85 = .ok (.ifCond .eq 7, 3) := by decide +kernel
theorem dX6_caller_88 : decode cX6_caller 88 = .ok (.iconst 1, 1) := by decide +kernel
theorem dX6_caller_89 : decode cX6_caller 89 = .ok (.goto 4, 3) := by decide +kernel
theorem dX6_caller_92 : decode cX6_caller 92 = .ok (.iconst 0, 1) := by decide +kernel
theorem dX6_caller_93 : decode cX6_caller 93 = .ok (.ireturn, 1) := by decide +kernel
theorem dX6_caller_94 : decode cX6_caller 94 = .ok (.aload_n 0, 1) := by decide +kernel
theorem dX6_caller_95 : decode cX6_caller 95 = .ok (.getfield 22, 3) := by decide +kernel
theorem dX6_caller_98 : decode cX6_caller 98 = .ok (.getfield 215, 3) := by decide +kernel
theorem dX6_caller_101 : decode cX6_caller 101 = .ok (.iload_n 1, 1) := by decide +kernel
theorem dX6_caller_102 : decode cX6_caller 102 = .ok (.iaload, 1) := by decide +kernel
theorem dX6_caller_103 : decode cX6_caller 103 = .ok (.ireturn, 1) := by decide +kernel
theorem dX6_caller_104 : decode cX6_caller 104 = .ok (.ldc 69, 2) := by decide +kernel
theorem dX6_caller_106 : decode cX6_caller 106 = .ok (.ireturn, 1) := by decide +kernel
theorem dX6_used_0 : decode cX6_used 0 = .ok (.aload_n 0, 1) := by decide +kernel
theorem dX6_used_1 : decode cX6_used 1 = .ok (.getfield 22, 3) := by decide +kernel
theorem dX6_used_4 : decode cX6_used 4 = .ok (.invokevirtual 179, 3) := by decide +kernel
theorem dX6_used_7 : decode cX6_used 7 = .ok (.ifCond .ne 6, 3) := by decide +kernel
theorem dX6_used_10 : decode cX6_used 10 = .ok (.ldc 143, 2) := by decide +kernel
theorem dX6_used_12 : decode cX6_used 12 = .ok (.ireturn, 1) := by decide +kernel
theorem dX6_used_13 : decode cX6_used 13 = .ok (.iload_n 1, 1) := by decide +kernel
theorem dX6_used_14 : decode cX6_used 14 = .ok (.invokestatic 164, 3) := by decide +kernel
theorem dX6_used_17 : decode cX6_used 17 = .ok (.ifCond .ne 6, 3) := by decide +kernel
theorem dX6_used_20 : decode cX6_used 20 = .ok (.ldc 69, 2) := by decide +kernel
theorem dX6_used_22 : decode cX6_used 22 = .ok (.ireturn, 1) := by decide +kernel
theorem dX6_used_23 : decode cX6_used 23 = .ok (.iload_n 1, 1) := by decide +kernel
theorem dX6_used_24 : decode cX6_used 24 = .ok (.ifCond .ne 13, 3) := by decide +kernel
theorem dX6_used_27 : decode cX6_used 27 = .ok (.aload_n 0, 1) := by decide +kernel
theorem dX6_used_28 : decode cX6_used 28 = .ok (.getfield 22, 3) := by decide +kernel
theorem dX6_used_31 : decode cX6_used 31 = .ok (.invokevirtual 153, 3) := by decide +kernel
theorem dX6_used_34 : decode cX6_used 34 = .ok (.goto 10, 3) := by decide +kernel
theorem dX6_used_37 : decode cX6_used 37 = .ok (.aload_n 0, 1) := by decide +kernel
theorem dX6_used_38 : decode cX6_used 38 = .ok (.getfield 22, 3) := by decide +kernel
theorem dX6_used_41 : decode cX6_used 41 = .ok (.invokevirtual 173, 3) := by decide +kernel
theorem dX6_used_44 : decode cX6_used 44 = .ok (.ireturn, 1) := by decide +kernel
theorem dX6_meets_0 : decode cX6_meets 0 = .ok (.aload_n 0, 1) := by decide +kernel
theorem dX6_meets_1 : decode cX6_meets 1 = .ok (.getfield 22, 3) := by decide +kernel
theorem dX6_meets_4 : decode cX6_meets 4 = .ok (.invokevirtual 179, 3) := by decide +kernel
theorem dX6_meets_7 : decode cX6_meets 7 = .ok (.ifCond .eq 13, 3) := by decide +kernel
theorem dX6_meets_10 : decode cX6_meets 10 = .ok (.aload_n 0, 1) := by decide +kernel
theorem dX6_meets_11 : decode cX6_meets 11 = .ok (.getfield 22, 3) := by decide +kernel
theorem dX6_meets_14 : decode cX6_meets 14 = .ok (.invokevirtual 218, 3) := by decide +kernel
theorem dX6_meets_17 : decode cX6_meets 17 = .ok (.goto 5, 3) := by decide +kernel
theorem dX6_meets_20 : decode cX6_meets 20 = .ok (.ldc 143, 2) := by decide +kernel
theorem dX6_meets_22 : decode cX6_meets 22 = .ok (.ireturn, 1) := by decide +kernel
theorem dX6_nothing_0 : decode cX6_nothing 0 = .ok (.aload_n 0, 1) := by decide +kernel
theorem dX6_nothing_1 : decode cX6_nothing 1 = .ok (.getfield 22, 3) := by decide +kernel
theorem dX6_nothing_4 : decode cX6_nothing 4 = .ok (.invokevirtual 179, 3) := by decide +kernel
theorem dX6_nothing_7 : decode cX6_nothing 7 = .ok (.ifCond .eq 13, 3) := by decide +kernel
theorem dX6_nothing_10 : decode cX6_nothing 10 = .ok (.aload_n 0, 1) := by decide +kernel
theorem dX6_nothing_11 : decode cX6_nothing 11 = .ok (.getfield 22, 3) := by decide +kernel
theorem dX6_nothing_14 : decode cX6_nothing 14 = .ok (.invokevirtual 221, 3) := by decide +kernel
theorem dX6_nothing_17 : decode cX6_nothing 17 = .ok (.goto 5, 3) := by decide +kernel
theorem dX6_nothing_20 : decode cX6_nothing 20 = .ok (.ldc 143, 2) := by decide +kernel
theorem dX6_nothing_22 : decode cX6_nothing 22 = .ok (.ireturn, 1) := by decide +kernel
theorem dX6_ahead_0 : decode cX6_ahead 0 = .ok (.aload_n 0, 1) := by decide +kernel
theorem dX6_ahead_1 : decode cX6_ahead 1 = .ok (.getfield 22, 3) := by decide +kernel
theorem dX6_ahead_4 : decode cX6_ahead 4 = .ok (.iload_n 1, 1) := by decide +kernel
theorem dX6_ahead_5 : decode cX6_ahead 5 = .ok (.invokevirtual 200, 3) := by decide +kernel
theorem dX6_ahead_8 : decode cX6_ahead 8 = .ok (.ifCond .eq 20, 3) := by decide +kernel
theorem dX6_ahead_11 : decode cX6_ahead 11 = .ok (.iload_n 2, 1) := by decide +kernel
theorem dX6_ahead_12 : decode cX6_ahead 12 = .ok (.ifCond .lt 16, 3) := by decide +kernel
theorem dX6_ahead_15 : decode cX6_ahead 15 = .ok (.iload_n 2, 1) := by decide +kernel
theorem dX6_ahead_16 : decode cX6_ahead 16 = .ok (.bipush 60, 2) := by decide +kernel
theorem dX6_ahead_18 : decode cX6_ahead 18 = .ok (.if_icmp .gt 10, 3) := by decide +kernel
theorem dX6_ahead_21 : decode cX6_ahead 21 = .ok (.iload_n 3, 1) := by decide +kernel
theorem dX6_ahead_22 : decode cX6_ahead 22 = .ok (.invokestatic 164, 3) := by decide +kernel
theorem dX6_ahead_25 : decode cX6_ahead 25 = .ok (.ifCond .ne 6, 3) := by decide +kernel
theorem dX6_ahead_28 : decode cX6_ahead 28 = .ok (.ldc 69, 2) := by decide +kernel
theorem dX6_ahead_30 : decode cX6_ahead 30 = .ok (.ireturn, 1) := by decide +kernel
theorem dX6_ahead_31 : decode cX6_ahead 31 = .ok (.aload_n 0, 1) := by decide +kernel
theorem dX6_ahead_32 : decode cX6_ahead 32 = .ok (.getfield 22, 3) := by decide +kernel
theorem dX6_ahead_35 : decode cX6_ahead 35 = .ok (.iload_n 1, 1) := by decide +kernel
theorem dX6_ahead_36 : decode cX6_ahead 36 = .ok (.aload_n 0, 1) := by decide +kernel
theorem dX6_ahead_37 : decode cX6_ahead 37 = .ok (.getfield 22, 3) := by decide +kernel
theorem dX6_ahead_40 : decode cX6_ahead 40 = .ok (.getfield 224, 3) := by decide +kernel
theorem dX6_ahead_43 : decode cX6_ahead 43 = .ok (.iload_n 1, 1) := by decide +kernel
theorem dX6_ahead_44 : decode cX6_ahead 44 = .ok (.iaload, 1) := by decide +kernel
theorem dX6_ahead_45 : decode cX6_ahead 45 = .ok (.invokevirtual 227, 3) := by decide +kernel
theorem dX6_ahead_48 : decode cX6_ahead 48 = .ok (.istore 4, 2) := by decide +kernel
theorem dX6_ahead_50 : decode cX6_ahead 50 = .ok (.iload 4, 2) := by decide +kernel
theorem dX6_ahead_52 : decode cX6_ahead 52 = .ok (.ldc 231, 2) := by decide +kernel
theorem dX6_ahead_54 : decode cX6_ahead 54 = .ok (.if_icmp .ne 7, 3) := by decide +kernel
theorem dX6_ahead_57 : decode cX6_ahead 57 = .ok (.iload_n 2, 1) := by decide +kernel
theorem dX6_ahead_58 : decode cX6_ahead 58 = .ok (.goto 9, 3) := by decide +kernel
theorem dX6_ahead_61 : decode cX6_ahead 61 = .ok (.iload_n 2, 1) := by decide +kernel
theorem dX6_ahead_62 : decode cX6_ahead 62 = .ok (.iload 4, 2) := by decide +kernel
theorem dX6_ahead_64 : decode cX6_ahead 64 = .ok (.invokestatic 232, 3) := by decide +kernel
theorem dX6_ahead_67 : decode cX6_ahead 67 = .ok (.istore 5, 2) := by decide +kernel
theorem dX6_ahead_69 : decode cX6_ahead 69 = .ok (.iload_n 3, 1) := by decide +kernel
theorem dX6_ahead_70 : decode cX6_ahead 70 = .ok (.ifCond .ne 16, 3) := by decide +kernel
theorem dX6_ahead_73 : decode cX6_ahead 73 = .ok (.aload_n 0, 1) := by decide +kernel
theorem dX6_ahead_74 : decode cX6_ahead 74 = .ok (.getfield 22, 3) := by decide +kernel
theorem dX6_ahead_77 : decode cX6_ahead 77 = .ok (.iload_n 1, 1) := by decide +kernel
theorem dX6_ahead_78 : decode cX6_ahead 78 = .ok (.iload 5, 2) := by decide +kernel
theorem dX6_ahead_80 : decode cX6_ahead 80 = .ok (.invokevirtual 237, 3) := by decide +kernel
theorem dX6_ahead_83 : decode cX6_ahead 83 = .ok (.goto 17, 3) := by decide +kernel
theorem dX6_ahead_86 : decode cX6_ahead 86 = .ok (.aload_n 0, 1) := by decide +kernel
theorem dX6_ahead_87 : decode cX6_ahead 87 = .ok (.getfield 22, 3) := by decide +kernel
theorem dX6_ahead_90 : decode cX6_ahead 90 = .ok (.getfield 215, 3) := by decide +kernel
theorem dX6_ahead_93 : decode cX6_ahead 93 = .ok (.iload_n 1, 1) := by decide +kernel
theorem dX6_ahead_94 : decode cX6_ahead 94 = .ok (.iaload, 1) := by decide +kernel
theorem dX6_ahead_95 : decode cX6_ahead 95 = .ok (.iload_n 2, 1) := by decide +kernel
theorem dX6_ahead_96 : decode cX6_ahead 96 = .ok (.iadd, 1) := by decide +kernel
theorem dX6_ahead_97 : decode cX6_ahead 97 = .ok (.iload 5, 2) := by decide +kernel
theorem dX6_ahead_99 : decode cX6_ahead 99 = .ok (.isub, 1) := by decide +kernel
theorem dX6_ahead_100 : decode cX6_ahead 100 = .ok (.ireturn, 1) := by decide +kernel
theorem dX6_soon_0 : decode cX6_soon 0 = .ok (.aload_n 0, 1) := by decide +kernel
theorem dX6_soon_1 : decode cX6_soon 1 = .ok (.getfield 22, 3) := by decide +kernel
theorem dX6_soon_4 : decode cX6_soon 4 = .ok (.iload_n 1, 1) := by decide +kernel
theorem dX6_soon_5 : decode cX6_soon 5 = .ok (.invokevirtual 200, 3) := by decide +kernel
theorem dX6_soon_8 : decode cX6_soon 8 = .ok (.ifCond .eq 23, 3) := by decide +kernel
theorem dX6_soon_11 : decode cX6_soon 11 = .ok (.aload_n 0, 1) := by decide +kernel
theorem dX6_soon_12 : decode cX6_soon 12 = .ok (.getfield 22, 3) := by decide +kernel
theorem dX6_soon_15 : decode cX6_soon 15 = .ok (.iload_n 1, 1) := by decide +kernel
theorem dX6_soon_16 : decode cX6_soon 16 = .ok (.aload_n 0, 1) := by decide +kernel
theorem dX6_soon_17 : decode cX6_soon 17 = .ok (.getfield 22, 3) := by decide +kernel
theorem dX6_soon_20 : decode cX6_soon 20 = .ok (.getfield 224, 3) := by decide +kernel
theorem dX6_soon_23 : decode cX6_soon 23 = .ok (.iload_n 1, 1) := by decide +kernel
theorem dX6_soon_24 : decode cX6_soon 24 = .ok (.iaload, 1) := by decide +kernel
theorem dX6_soon_25 : decode cX6_soon 25 = .ok (.invokevirtual 227, 3) := by decide +kernel
theorem dX6_soon_28 : decode cX6_soon 28 = .ok (.goto 5, 3) := by decide +kernel
theorem dX6_soon_31 : decode cX6_soon 31 = .ok (.ldc 69, 2) := by decide +kernel
theorem dX6_soon_33 : decode cX6_soon 33 = .ok (.ireturn, 1) := by decide +kernel
theorem dX6_least_0 : decode cX6_least 0 = .ok (.aload_n 0, 1) := by decide +kernel
theorem dX6_least_1 : decode cX6_least 1 = .ok (.getfield 22, 3) := by decide +kernel
theorem dX6_least_4 : decode cX6_least 4 = .ok (.invokevirtual 179, 3) := by decide +kernel
theorem dX6_least_7 : decode cX6_least 7 = .ok (.ifCond .ne 6, 3) := by decide +kernel
theorem dX6_least_10 : decode cX6_least 10 = .ok (.ldc 143, 2) := by decide +kernel
theorem dX6_least_12 : decode cX6_least 12 = .ok (.ireturn, 1) := by decide +kernel
theorem dX6_least_13 : decode cX6_least 13 = .ok (.aload_n 0, 1) := by decide +kernel
theorem dX6_least_14 : decode cX6_least 14 = .ok (.iload_n 1, 1) := by decide +kernel
theorem dX6_least_15 : decode cX6_least 15 = .ok (.iload_n 2, 1) := by decide +kernel
theorem dX6_least_16 : decode cX6_least 16 = .ok (.invokevirtual 240, 3) := by decide +kernel
theorem dX6_least_19 : decode cX6_least 19 = .ok (.ifCond .eq 19, 3) := by decide +kernel
theorem dX6_least_22 : decode cX6_least 22 = .ok (.iload_n 3, 1) := by decide +kernel
theorem dX6_least_23 : decode cX6_least 23 = .ok (.iconst (-1), 1) := by decide +kernel
theorem dX6_least_24 : decode cX6_least 24 = .ok (.if_icmp .eq 17, 3) := by decide +kernel
theorem dX6_least_27 : decode cX6_least 27 = .ok (.aload_n 0, 1) := by decide +kernel
theorem dX6_least_28 : decode cX6_least 28 = .ok (.getfield 22, 3) := by decide +kernel
theorem dX6_least_31 : decode cX6_least 31 = .ok (.iload_n 3, 1) := by decide +kernel
theorem dX6_least_32 : decode cX6_least 32 = .ok (.invokevirtual 147, 3) := by decide +kernel
theorem dX6_least_35 : decode cX6_least 35 = .ok (.ifCond .ne 6, 3) := by decide +kernel
theorem dX6_least_38 : decode cX6_least 38 = .ok (.ldc 69, 2) := by decide +kernel
theorem dX6_least_40 : decode cX6_least 40 = .ok (.ireturn, 1) := by decide +kernel
theorem dX6_least_41 : decode cX6_least 41 = .ok (.aload_n 0, 1) := by decide +kernel
theorem dX6_least_42 : decode cX6_least 42 = .ok (.getfield 46, 3) := by decide +kernel
theorem dX6_least_45 : decode cX6_least 45 = .ok (.aload_n 0, 1) := by decide +kernel
theorem dX6_least_46 : decode cX6_least 46 = .ok (.getfield 22, 3) := by decide +kernel
theorem dX6_least_49 : decode cX6_least 49 = .ok (.iload_n 1, 1) := by decide +kernel
theorem dX6_least_50 : decode cX6_least 50 = .ok (.iload_n 2, 1) := by decide +kernel
theorem dX6_least_51 : decode cX6_least 51 = .ok (.invokevirtual 243, 3) := by decide +kernel
theorem dX6_least_54 : decode cX6_least 54 = .ok (.aload_n 0, 1) := by decide +kernel
theorem dX6_least_55 : decode cX6_least 55 = .ok (.getfield 46, 3) := by decide +kernel
theorem dX6_least_58 : decode cX6_least 58 = .ok (.invokevirtual 247, 3) := by decide +kernel
theorem dX6_least_61 : decode cX6_least 61 = .ok (.ifCond .ne 6, 3) := by decide +kernel
theorem dX6_least_64 : decode cX6_least 64 = .ok (.ldc 231, 2) := by decide +kernel
theorem dX6_least_66 : decode cX6_least 66 = .ok (.ireturn, 1) := by decide +kernel
theorem dX6_least_67 : decode cX6_least 67 = .ok (.iload_n 3, 1) := by decide +kernel
theorem dX6_least_68 : decode cX6_least 68 = .ok (.iconst (-1), 1) := by decide +kernel
theorem dX6_least_69 : decode cX6_least 69 = .ok (.if_icmp .ne 13, 3) := by decide +kernel
theorem dX6_least_72 : decode cX6_least 72 = .ok (.aload_n 0, 1) := by decide +kernel
theorem dX6_least_73 : decode cX6_least 73 = .ok (.getfield 46, 3) := by decide +kernel
theorem dX6_least_76 : decode cX6_least 76 = .ok (.getfield 250, 3) := by decide +kernel
theorem dX6_least_79 : decode cX6_least 79 = .ok (.goto 18, 3) := by decide +kernel
theorem dX6_least_82 : decode cX6_least 82 = .ok (.aload_n 0, 1) := by decide +kernel
theorem dX6_least_83 : decode cX6_least 83 = .ok (.getfield 46, 3) := by decide +kernel
theorem dX6_least_86 : decode cX6_least 86 = .ok (.iload_n 3, 1) := by decide +kernel
theorem dX6_least_87 : decode cX6_least 87 = .ok (.aload_n 0, 1) := by decide +kernel
theorem dX6_least_88 : decode cX6_least 88 = .ok (.getfield 46, 3) := by decide +kernel
theorem dX6_least_91 : decode cX6_least 91 = .ok (.getfield 253, 3) := by decide +kernel
theorem dX6_least_94 : decode cX6_least 94 = .ok (.invokevirtual 256, 3) := by decide +kernel
theorem dX6_least_97 : decode cX6_least 97 = .ok (.ireturn, 1) := by decide +kernel
theorem dX6_whichDoor_0 : decode cX6_whichDoor 0 = .ok (.aload_n 0, 1) := by decide +kernel
theorem dX6_whichDoor_1 : decode cX6_whichDoor 1 = .ok (.getfield 22, 3) := by decide +kernel
theorem dX6_whichDoor_4 : decode cX6_whichDoor 4 = .ok (.invokevirtual 179, 3) := by decide +kernel
theorem dX6_whichDoor_7 : decode cX6_whichDoor 7 = .ok (.ifCond .ne 6, 3) := by decide +kernel
theorem dX6_whichDoor_10 : decode cX6_whichDoor 10 = .ok (.ldc 143, 2) := by decide +kernel
theorem dX6_whichDoor_12 : decode cX6_whichDoor 12 = .ok (.ireturn, 1) := by decide +kernel
theorem dX6_whichDoor_13 : decode cX6_whichDoor 13 = .ok (.aload_n 0, 1) := by decide +kernel
theorem dX6_whichDoor_14 : decode cX6_whichDoor 14 = .ok (.iload_n 1, 1) := by decide +kernel
theorem dX6_whichDoor_15 : decode cX6_whichDoor 15 = .ok (.iload_n 2, 1) := by decide +kernel
theorem dX6_whichDoor_16 : decode cX6_whichDoor 16 = .ok (.invokevirtual 240, 3) := by decide +kernel
theorem dX6_whichDoor_19 : decode cX6_whichDoor 19 = .ok (.ifCond .ne 6, 3) := by decide +kernel
theorem dX6_whichDoor_22 : decode cX6_whichDoor 22 = .ok (.ldc 69, 2) := by decide +kernel
theorem dX6_whichDoor_24 : decode cX6_whichDoor 24 = .ok (.ireturn, 1) := by decide +kernel
theorem dX6_whichDoor_25 : decode cX6_whichDoor 25 = .ok (.aload_n 0, 1) := by decide +kernel
theorem dX6_whichDoor_26 : decode cX6_whichDoor 26 = .ok (.getfield 46, 3) := by decide +kernel
theorem dX6_whichDoor_29 : decode cX6_whichDoor 29 = .ok (.aload_n 0, 1) := by decide +kernel
theorem dX6_whichDoor_30 : decode cX6_whichDoor 30 = .ok (.getfield 22, 3) := by decide +kernel
theorem dX6_whichDoor_33 : decode cX6_whichDoor 33 = .ok (.iload_n 1, 1) := by decide +kernel
theorem dX6_whichDoor_34 : decode cX6_whichDoor 34 = .ok (.iload_n 2, 1) := by decide +kernel
theorem dX6_whichDoor_35 : decode cX6_whichDoor 35 = .ok (.invokevirtual 243, 3) := by decide +kernel
theorem dX6_whichDoor_38 : decode cX6_whichDoor 38 = .ok (.aload_n 0, 1) := by decide +kernel
theorem dX6_whichDoor_39 : decode cX6_whichDoor 39 = .ok (.getfield 46, 3) := by decide +kernel
theorem dX6_whichDoor_42 : decode cX6_whichDoor 42 = .ok (.invokevirtual 259, 3) := by decide +kernel
theorem dX6_whichDoor_45 : decode cX6_whichDoor 45 = .ok (.ireturn, 1) := by decide +kernel
theorem dX6_who_0 : decode cX6_who 0 = .ok (.aload_n 0, 1) := by decide +kernel
theorem dX6_who_1 : decode cX6_who 1 = .ok (.getfield 22, 3) := by decide +kernel
theorem dX6_who_4 : decode cX6_who 4 = .ok (.iload_n 1, 1) := by decide +kernel
theorem dX6_who_5 : decode cX6_who 5 = .ok (.invokevirtual 200, 3) := by decide +kernel
theorem dX6_who_8 : decode cX6_who 8 = .ok (.ifCond .eq 23, 3) := by decide +kernel
theorem dX6_who_11 : decode cX6_who 11 = .ok (.iload_n 2, 1) := by decide +kernel
theorem dX6_who_12 : decode cX6_who 12 = .ok (.invokestatic 65, 3) := by decide +kernel
theorem dX6_who_15 : decode cX6_who 15 = .ok (.ifCond .eq 16, 3) := by decide +kernel
theorem dX6_who_18 : decode cX6_who 18 = .ok (.iload 4, 2) := by decide +kernel
theorem dX6_who_20 : decode cX6_who 20 = .ok (.iconst 1, 1) := by decide +kernel
theorem dX6_who_21 : decode cX6_who 21 = .ok (.if_icmp .lt 10, 3) := by decide +kernel
theorem dX6_who_24 : decode cX6_who 24 = .ok (.iload 4, 2) := by decide +kernel
theorem dX6_who_26 : decode cX6_who 26 = .ok (.bipush 12, 2) := by decide +kernel
theorem dX6_who_28 : decode cX6_who 28 = .ok (.if_icmp .le 6, 3) := by decide +kernel
theorem dX6_who_31 : decode cX6_who 31 = .ok (.ldc 69, 2) := by decide +kernel
theorem dX6_who_33 : decode cX6_who 33 = .ok (.ireturn, 1) := by decide +kernel
theorem dX6_who_34 : decode cX6_who 34 = .ok (.aload_n 0, 1) := by decide +kernel
theorem dX6_who_35 : decode cX6_who 35 = .ok (.getfield 11, 3) := by decide +kernel
theorem dX6_who_38 : decode cX6_who 38 = .ok (.iload_n 2, 1) := by decide +kernel
theorem dX6_who_39 : decode cX6_who 39 = .ok (.aaload, 1) := by decide +kernel
theorem dX6_who_40 : decode cX6_who 40 = .ok (.astore 5, 2) := by decide +kernel
theorem dX6_who_42 : decode cX6_who 42 = .ok (.aload 5, 2) := by decide +kernel
theorem dX6_who_44 : decode cX6_who 44 = .ok (.iload_n 3, 1) := by decide +kernel
theorem dX6_who_45 : decode cX6_who 45 = .ok (.iload 4, 2) := by decide +kernel
theorem dX6_who_47 : decode cX6_who 47 = .ok (.invokestatic 81, 3) := by decide +kernel
theorem dX6_who_50 : decode cX6_who 50 = .ok (.istore 6, 2) := by decide +kernel
theorem dX6_who_52 : decode cX6_who 52 = .ok (.iload 6, 2) := by decide +kernel
theorem dX6_who_54 : decode cX6_who 54 = .ok (.ifCond .eq 10, 3) := by decide +kernel
theorem dX6_who_57 : decode cX6_who 57 = .ok (.aload_n 0, 1) := by decide +kernel
theorem dX6_who_58 : decode cX6_who 58 = .ok (.iload 6, 2) := by decide +kernel
theorem dX6_who_60 : decode cX6_who 60 = .ok (.invokevirtual 70, 3) := by decide +kernel
theorem dX6_who_63 : decode cX6_who 63 = .ok (.ireturn, 1) := by decide +kernel
theorem dX6_who_64 : decode cX6_who 64 = .ok (.iconst 0, 1) := by decide +kernel
theorem dX6_who_65 : decode cX6_who 65 = .ok (.istore 7, 2) := by decide +kernel
theorem dX6_who_67 : decode cX6_who 67 = .ok (.iconst 1, 1) := by decide +kernel
theorem dX6_who_68 : decode cX6_who 68 = .ok (.istore 8, 2) := by decide +kernel
theorem dX6_who_70 : decode cX6_who 70 = .ok (.iload 8, 2) := by decide +kernel
theorem dX6_who_72 : decode cX6_who 72 = .ok (.iconst 5, 1) := by decide +kernel
theorem dX6_who_73 : decode cX6_who 73 = .ok (.if_icmp .gt 39, 3) := by decide +kernel
theorem dX6_who_76 : decode cX6_who 76 = .ok (.aload 5, 2) := by decide +kernel
theorem dX6_who_78 : decode cX6_who 78 = .ok (.aload_n 0, 1) := by decide +kernel
theorem dX6_who_79 : decode cX6_who 79 = .ok (.getfield 22, 3) := by decide +kernel
theorem dX6_who_82 : decode cX6_who 82 = .ok (.iload_n 1, 1) := by decide +kernel
theorem dX6_who_83 : decode cX6_who 83 = .ok (.iload 8, 2) := by decide +kernel
theorem dX6_who_85 : decode cX6_who 85 = .ok (.invokevirtual 227, 3) := by decide +kernel
theorem dX6_who_88 : decode cX6_who 88 = .ok (.iload_n 3, 1) := by decide +kernel
theorem dX6_who_89 : decode cX6_who 89 = .ok (.iload 4, 2) := by decide +kernel
theorem dX6_who_91 : decode cX6_who 91 = .ok (.invokevirtual 262, 3) := by decide +kernel
theorem dX6_who_94 : decode cX6_who 94 = .ok (.ifCond .eq 12, 3) := by decide +kernel
theorem dX6_who_97 : decode cX6_who 97 = .ok (.iload 7, 2) := by decide +kernel
theorem dX6_who_99 : decode cX6_who 99 = .ok (.iconst 1, 1) := by decide +kernel
theorem dX6_who_100 : decode cX6_who 100 = .ok (.iload 8, 2) := by decide +kernel
theorem dX6_who_102 : decode cX6_who 102 = .ok (.ishl, 1) := by decide +kernel
theorem dX6_who_103 : decode cX6_who 103 = .ok (.ior, 1) := by decide +kernel
theorem dX6_who_104 : decode cX6_who 104 = .ok (.istore 7, 2) := by decide +kernel
theorem dX6_who_106 : decode cX6_who 106 = .ok (.iinc 8 1, 3) := by decide +kernel
theorem dX6_who_109 : decode cX6_who 109 = .ok (.goto (-39), 3) := by decide +kernel
theorem dX6_who_112 : decode cX6_who 112 = .ok (.aload_n 0, 1) := by decide +kernel
theorem dX6_who_113 : decode cX6_who 113 = .ok (.iload 7, 2) := by decide +kernel
theorem dX6_who_115 : decode cX6_who 115 = .ok (.invokevirtual 78, 3) := by decide +kernel
theorem dX6_who_118 : decode cX6_who 118 = .ok (.ireturn, 1) := by decide +kernel
theorem dX6_sleeps_0 : decode cX6_sleeps 0 = .ok (.aload_n 0, 1) := by decide +kernel
theorem dX6_sleeps_1 : decode cX6_sleeps 1 = .ok (.getfield 22, 3) := by decide +kernel
theorem dX6_sleeps_4 : decode cX6_sleeps 4 = .ok (.iload_n 1, 1) := by decide +kernel
theorem dX6_sleeps_5 : decode cX6_sleeps 5 = .ok (.invokevirtual 200, 3) := by decide +kernel
theorem dX6_sleeps_8 : decode cX6_sleeps 8 = .ok (.ifCond .eq 20, 3) := by decide +kernel
theorem dX6_sleeps_11 : decode cX6_sleeps 11 = .ok (.iload_n 2, 1) := by decide +kernel
