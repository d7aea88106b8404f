theorem d_Brt_within_0 : decode b_Brt_within 0 = .ok (.iload_n 0, 1) := by decide +kernel
theorem d_Brt_within_1 : decode b_Brt_within 1 = .ok (.iload_n 1, 1) := by decide +kernel
theorem d_Brt_within_2 : decode b_Brt_within 2 = .ok (.if_icmp .lt 12, 3) := by decide +kernel
theorem d_Brt_within_5 : decode b_Brt_within 5 = .ok (.iload_n 0, 1) := by decide +kernel
theorem d_Brt_within_6 : decode b_Brt_within 6 = .ok (.iload_n 2, 1) := by decide +kernel
theorem d_Brt_within_7 : decode b_Brt_within 7 = .ok (.if_icmp .gt 7, 3) := by decide +kernel
theorem d_Brt_within_10 : decode b_Brt_within 10 = .ok (.iconst 1, 1) := by decide +kernel
theorem d_Brt_within_11 : decode b_Brt_within 11 = .ok (.goto 4, 3) := by decide +kernel
theorem d_Brt_within_14 : decode b_Brt_within 14 = .ok (.iconst 0, 1) := by decide +kernel
theorem d_Brt_within_15 : decode b_Brt_within 15 = .ok (.ireturn, 1) := by decide +kernel
theorem d_Leg_begin_0 : decode b_Leg_begin 0 = .ok (.aload_n 0, 1) := by decide +kernel
theorem d_Leg_begin_1 : decode b_Leg_begin 1 = .ok (.iconst 0, 1) := by decide +kernel
theorem d_Leg_begin_2 : decode b_Leg_begin 2 = .ok (.putfield 9, 3) := by decide +kernel
theorem d_Leg_begin_5 : decode b_Leg_begin 5 = .ok (.aload_n 0, 1) := by decide +kernel
theorem d_Leg_begin_6 : decode b_Leg_begin 6 = .ok (.iconst 0, 1) := by decide +kernel
theorem d_Leg_begin_7 : decode b_Leg_begin 7 = .ok (.putfield 15, 3) := by decide +kernel
theorem d_Leg_begin_10 : decode b_Leg_begin 10 = .ok (.aload_n 0, 1) := by decide +kernel
theorem d_Leg_begin_11 : decode b_Leg_begin 11 = .ok (.bipush (-4), 2) := by decide +kernel
theorem d_Leg_begin_13 : decode b_Leg_begin 13 = .ok (.putfield 18, 3) := by decide +kernel
theorem d_Leg_begin_16 : decode b_Leg_begin 16 = .ok (.aload_n 0, 1) := by decide +kernel
theorem d_Leg_begin_17 : decode b_Leg_begin 17 = .ok (.bipush (-4), 2) := by decide +kernel
theorem d_Leg_begin_19 : decode b_Leg_begin 19 = .ok (.putfield 21, 3) := by decide +kernel
theorem d_Leg_begin_22 : decode b_Leg_begin 22 = .ok (.aload_n 0, 1) := by decide +kernel
theorem d_Leg_begin_23 : decode b_Leg_begin 23 = .ok (.iload_n 1, 1) := by decide +kernel
theorem d_Leg_begin_24 : decode b_Leg_begin 24 = .ok (.putfield 24, 3) := by decide +kernel
theorem d_Leg_begin_27 : decode b_Leg_begin 27 = .ok (.aload_n 0, 1) := by decide +kernel
theorem d_Leg_begin_28 : decode b_Leg_begin 28 = .ok (.iconst 0, 1) := by decide +kernel
theorem d_Leg_begin_29 : decode b_Leg_begin 29 = .ok (.putfield 27, 3) := by decide +kernel
theorem d_Leg_begin_32 : decode b_Leg_begin 32 = .ok (.return_, 1) := by decide +kernel
theorem d_Yar_moreBy_0 : decode b_Yar_moreBy 0 = .ok (.iload_n 1, 1) := by decide +kernel
theorem d_Yar_moreBy_1 : decode b_Yar_moreBy 1 = .ok (.iconst 2, 1) := by decide +kernel
theorem d_Yar_moreBy_2 : decode b_Yar_moreBy 2 = .ok (.if_icmp .lt 10, 3) := by decide +kernel
theorem d_Yar_moreBy_5 : decode b_Yar_moreBy 5 = .ok (.aload_n 0, 1) := by decide +kernel
theorem d_Yar_moreBy_6 : decode b_Yar_moreBy 6 = .ok (.getfield 37, 3) := by decide +kernel
theorem d_Yar_moreBy_9 : decode b_Yar_moreBy 9 = .ok (.goto 7, 3) := by decide +kernel
theorem d_Yar_moreBy_12 : decode b_Yar_moreBy 12 = .ok (.aload_n 0, 1) := by decide +kernel
theorem d_Yar_moreBy_13 : decode b_Yar_moreBy 13 = .ok (.getfield 34, 3) := by decide +kernel
theorem d_Yar_moreBy_16 : decode b_Yar_moreBy 16 = .ok (.areturn, 1) := by decide +kernel
theorem d_Bod_bulkOf_0 : decode b_Bod_bulkOf 0 = .ok (.iload_n 2, 1) := by decide +kernel
theorem d_Bod_bulkOf_1 : decode b_Bod_bulkOf 1 = .ok (.iconst 2, 1) := by decide +kernel
theorem d_Bod_bulkOf_2 : decode b_Bod_bulkOf 2 = .ok (.irem, 1) := by decide +kernel
theorem d_Bod_bulkOf_3 : decode b_Bod_bulkOf 3 = .ok (.ifCond .ne 7, 3) := by decide +kernel
theorem d_Bod_bulkOf_6 : decode b_Bod_bulkOf 6 = .ok (.iconst 1, 1) := by decide +kernel
theorem d_Bod_bulkOf_7 : decode b_Bod_bulkOf 7 = .ok (.goto 4, 3) := by decide +kernel
theorem d_Bod_bulkOf_10 : decode b_Bod_bulkOf 10 = .ok (.iconst 0, 1) := by decide +kernel
theorem d_Bod_bulkOf_11 : decode b_Bod_bulkOf 11 = .ok (.istore 4, 2) := by decide +kernel
theorem d_Bod_bulkOf_13 : decode b_Bod_bulkOf 13 = .ok (.aload_n 0, 1) := by decide +kernel
theorem d_Bod_bulkOf_14 : decode b_Bod_bulkOf 14 = .ok (.getfield 15, 3) := by decide +kernel
theorem d_Bod_bulkOf_17 : decode b_Bod_bulkOf 17 = .ok (.iload_n 1, 1) := by decide +kernel
theorem d_Bod_bulkOf_18 : decode b_Bod_bulkOf 18 = .ok (.iaload, 1) := by decide +kernel
theorem d_Bod_bulkOf_19 : decode b_Bod_bulkOf 19 = .ok (.iload_n 3, 1) := by decide +kernel
theorem d_Bod_bulkOf_20 : decode b_Bod_bulkOf 20 = .ok (.ifCond .eq 12, 3) := by decide +kernel
theorem d_Bod_bulkOf_23 : decode b_Bod_bulkOf 23 = .ok (.aload_n 0, 1) := by decide +kernel
theorem d_Bod_bulkOf_24 : decode b_Bod_bulkOf 24 = .ok (.getfield 19, 3) := by decide +kernel
theorem d_Bod_bulkOf_27 : decode b_Bod_bulkOf 27 = .ok (.iload_n 1, 1) := by decide +kernel
theorem d_Bod_bulkOf_28 : decode b_Bod_bulkOf 28 = .ok (.iaload, 1) := by decide +kernel
theorem d_Bod_bulkOf_29 : decode b_Bod_bulkOf 29 = .ok (.goto 4, 3) := by decide +kernel
theorem d_Bod_bulkOf_32 : decode b_Bod_bulkOf 32 = .ok (.iconst 0, 1) := by decide +kernel
theorem d_Bod_bulkOf_33 : decode b_Bod_bulkOf 33 = .ok (.isub, 1) := by decide +kernel
theorem d_Bod_bulkOf_34 : decode b_Bod_bulkOf 34 = .ok (.aload_n 0, 1) := by decide +kernel
theorem d_Bod_bulkOf_35 : decode b_Bod_bulkOf 35 = .ok (.getfield 22, 3) := by decide +kernel
theorem d_Bod_bulkOf_38 : decode b_Bod_bulkOf 38 = .ok (.iload_n 1, 1) := by decide +kernel
theorem d_Bod_bulkOf_39 : decode b_Bod_bulkOf 39 = .ok (.iaload, 1) := by decide +kernel
theorem d_Bod_bulkOf_40 : decode b_Bod_bulkOf 40 = .ok (.iconst 3, 1) := by decide +kernel
theorem d_Bod_bulkOf_41 : decode b_Bod_bulkOf 41 = .ok (.idiv, 1) := by decide +kernel
theorem d_Bod_bulkOf_42 : decode b_Bod_bulkOf 42 = .ok (.iadd, 1) := by decide +kernel
theorem d_Bod_bulkOf_43 : decode b_Bod_bulkOf 43 = .ok (.iload 4, 2) := by decide +kernel
theorem d_Bod_bulkOf_45 : decode b_Bod_bulkOf 45 = .ok (.isub, 1) := by decide +kernel
theorem d_Bod_bulkOf_46 : decode b_Bod_bulkOf 46 = .ok (.ireturn, 1) := by decide +kernel
theorem d_Cav_waterAt_0 : decode b_Cav_waterAt 0 = .ok (.iload_n 1, 1) := by decide +kernel
theorem d_Cav_waterAt_1 : decode b_Cav_waterAt 1 = .ok (.bipush 60, 2) := by decide +kernel
theorem d_Cav_waterAt_3 : decode b_Cav_waterAt 3 = .ok (.idiv, 1) := by decide +kernel
theorem d_Cav_waterAt_4 : decode b_Cav_waterAt 4 = .ok (.aload_n 0, 1) := by decide +kernel
theorem d_Cav_waterAt_5 : decode b_Cav_waterAt 5 = .ok (.getfield 25, 3) := by decide +kernel
theorem d_Cav_waterAt_8 : decode b_Cav_waterAt 8 = .ok (.imul, 1) := by decide +kernel
theorem d_Cav_waterAt_9 : decode b_Cav_waterAt 9 = .ok (.ireturn, 1) := by decide +kernel
theorem d_Yar_roomAt_0 : decode b_Yar_roomAt 0 = .ok (.aload_n 0, 1) := by decide +kernel
theorem d_Yar_roomAt_1 : decode b_Yar_roomAt 1 = .ok (.getfield 15, 3) := by decide +kernel
theorem d_Yar_roomAt_4 : decode b_Yar_roomAt 4 = .ok (.iload_n 1, 1) := by decide +kernel
theorem d_Yar_roomAt_5 : decode b_Yar_roomAt 5 = .ok (.iaload, 1) := by decide +kernel
theorem d_Yar_roomAt_6 : decode b_Yar_roomAt 6 = .ok (.iconst 5, 1) := by decide +kernel
theorem d_Yar_roomAt_7 : decode b_Yar_roomAt 7 = .ok (.if_icmp .ne 18, 3) := by decide +kernel
theorem d_Yar_roomAt_10 : decode b_Yar_roomAt 10 = .ok (.iconst 0, 1) := by decide +kernel
theorem d_Yar_roomAt_11 : decode b_Yar_roomAt 11 = .ok (.aload_n 0, 1) := by decide +kernel
theorem d_Yar_roomAt_12 : decode b_Yar_roomAt 12 = .ok (.getfield 25, 3) := by decide +kernel
theorem d_Yar_roomAt_15 : decode b_Yar_roomAt 15 = .ok (.iload_n 1, 1) := by decide +kernel
theorem d_Yar_roomAt_16 : decode b_Yar_roomAt 16 = .ok (.iaload, 1) := by decide +kernel
theorem d_Yar_roomAt_17 : decode b_Yar_roomAt 17 = .ok (.iload_n 2, 1) := by decide +kernel
theorem d_Yar_roomAt_18 : decode b_Yar_roomAt 18 = .ok (.isub, 1) := by decide +kernel
theorem d_Yar_roomAt_19 : decode b_Yar_roomAt 19 = .ok (.invokestatic 62, 3) := by decide +kernel
theorem d_Yar_roomAt_22 : decode b_Yar_roomAt 22 = .ok (.goto 9, 3) := by decide +kernel
theorem d_Yar_roomAt_25 : decode b_Yar_roomAt 25 = .ok (.aload_n 0, 1) := by decide +kernel
theorem d_Yar_roomAt_26 : decode b_Yar_roomAt 26 = .ok (.getfield 25, 3) := by decide +kernel
theorem d_Yar_roomAt_29 : decode b_Yar_roomAt 29 = .ok (.iload_n 1, 1) := by decide +kernel
theorem d_Yar_roomAt_30 : decode b_Yar_roomAt 30 = .ok (.iaload, 1) := by decide +kernel
theorem d_Yar_roomAt_31 : decode b_Yar_roomAt 31 = .ok (.ireturn, 1) := by decide +kernel
theorem d_Leg_passOne_0 : decode b_Leg_passOne 0 = .ok (.aload_n 1, 1) := by decide +kernel
theorem d_Leg_passOne_1 : decode b_Leg_passOne 1 = .ok (.getfield 59, 3) := by decide +kernel
theorem d_Leg_passOne_4 : decode b_Leg_passOne 4 = .ok (.astore 5, 2) := by decide +kernel
theorem d_Leg_passOne_6 : decode b_Leg_passOne 6 = .ok (.aload_n 1, 1) := by decide +kernel
theorem d_Leg_passOne_7 : decode b_Leg_passOne 7 = .ok (.getfield 38, 3) := by decide +kernel
theorem d_Leg_passOne_10 : decode b_Leg_passOne 10 = .ok (.getfield 63, 3) := by decide +kernel
theorem d_Leg_passOne_13 : decode b_Leg_passOne 13 = .ok (.iload_n 2, 1) := by decide +kernel
theorem d_Leg_passOne_14 : decode b_Leg_passOne 14 = .ok (.iaload, 1) := by decide +kernel
theorem d_Leg_passOne_15 : decode b_Leg_passOne 15 = .ok (.istore 6, 2) := by decide +kernel
theorem d_Leg_passOne_17 : decode b_Leg_passOne 17 = .ok (.aload 5, 2) := by decide +kernel
theorem d_Leg_passOne_19 : decode b_Leg_passOne 19 = .ok (.iload 6, 2) := by decide +kernel
theorem d_Leg_passOne_21 : decode b_Leg_passOne 21 = .ok (.invokevirtual 66, 3) := by decide +kernel
theorem d_Leg_passOne_24 : decode b_Leg_passOne 24 = .ok (.astore 7, 2) := by decide +kernel
theorem d_Leg_passOne_26 : decode b_Leg_passOne 26 = .ok (.iload_n 3, 1) := by decide +kernel
theorem d_Leg_passOne_27 : decode b_Leg_passOne 27 = .ok (.ifCond .eq 11, 3) := by decide +kernel
theorem d_Leg_passOne_30 : decode b_Leg_passOne 30 = .ok (.aload 5, 2) := by decide +kernel
theorem d_Leg_passOne_32 : decode b_Leg_passOne 32 = .ok (.getfield 72, 3) := by decide +kernel
theorem d_Leg_passOne_35 : decode b_Leg_passOne 35 = .ok (.goto 8, 3) := by decide +kernel
theorem d_Leg_passOne_38 : decode b_Leg_passOne 38 = .ok (.aload 5, 2) := by decide +kernel
theorem d_Leg_passOne_40 : decode b_Leg_passOne 40 = .ok (.getfield 75, 3) := by decide +kernel
theorem d_Leg_passOne_43 : decode b_Leg_passOne 43 = .ok (.astore 8, 2) := by decide +kernel
theorem d_Leg_passOne_45 : decode b_Leg_passOne 45 = .ok (.aload_n 1, 1) := by decide +kernel
theorem d_Leg_passOne_46 : decode b_Leg_passOne 46 = .ok (.getfield 38, 3) := by decide +kernel
theorem d_Leg_passOne_49 : decode b_Leg_passOne 49 = .ok (.iload_n 2, 1) := by decide +kernel
theorem d_Leg_passOne_50 : decode b_Leg_passOne 50 = .ok (.iload 6, 2) := by decide +kernel
theorem d_Leg_passOne_52 : decode b_Leg_passOne 52 = .ok (.iconst 1, 1) := by decide +kernel
theorem d_Leg_passOne_53 : decode b_Leg_passOne 53 = .ok (.invokevirtual 78, 3) := by decide +kernel
theorem d_Leg_passOne_56 : decode b_Leg_passOne 56 = .ok (.istore 9, 2) := by decide +kernel
theorem d_Leg_passOne_58 : decode b_Leg_passOne 58 = .ok (.aload_n 1, 1) := by decide +kernel
theorem d_Leg_passOne_59 : decode b_Leg_passOne 59 = .ok (.getfield 38, 3) := by decide +kernel
theorem d_Leg_passOne_62 : decode b_Leg_passOne 62 = .ok (.getfield 82, 3) := by decide +kernel
theorem d_Leg_passOne_65 : decode b_Leg_passOne 65 = .ok (.iload_n 2, 1) := by decide +kernel
theorem d_Leg_passOne_66 : decode b_Leg_passOne 66 = .ok (.iaload, 1) := by decide +kernel
theorem d_Leg_passOne_67 : decode b_Leg_passOne 67 = .ok (.istore 10, 2) := by decide +kernel
theorem d_Leg_passOne_69 : decode b_Leg_passOne 69 = .ok (.iconst 0, 1) := by decide +kernel
theorem d_Leg_passOne_70 : decode b_Leg_passOne 70 = .ok (.istore 11, 2) := by decide +kernel
theorem d_Leg_passOne_72 : decode b_Leg_passOne 72 = .ok (.iload 11, 2) := by decide +kernel
theorem d_Leg_passOne_74 : decode b_Leg_passOne 74 = .ok (.aload 5, 2) := by decide +kernel
theorem d_Leg_passOne_76 : decode b_Leg_passOne 76 = .ok (.getfield 85, 3) := by decide +kernel
theorem d_Leg_passOne_79 : decode b_Leg_passOne 79 = .ok (.if_icmp .ge 136, 3) := by decide +kernel
theorem d_Leg_passOne_82 : decode b_Leg_passOne 82 = .ok (.iload_n 3, 1) := by decide +kernel
theorem d_Leg_passOne_83 : decode b_Leg_passOne 83 = .ok (.ifCond .eq 16, 3) := by decide +kernel
theorem d_Leg_passOne_86 : decode b_Leg_passOne 86 = .ok (.aload 5, 2) := by decide +kernel
theorem d_Leg_passOne_88 : decode b_Leg_passOne 88 = .ok (.getfield 85, 3) := by decide +kernel
theorem d_Leg_passOne_91 : decode b_Leg_passOne 91 = .ok (.iconst 1, 1) := by decide +kernel
theorem d_Leg_passOne_92 : decode b_Leg_passOne 92 = .ok (.isub, 1) := by decide +kernel
theorem d_Leg_passOne_93 : decode b_Leg_passOne 93 = .ok (.iload 11, 2) := by decide +kernel
theorem d_Leg_passOne_95 : decode b_Leg_passOne 95 = .ok (.isub, 1) := by decide +kernel
theorem d_Leg_passOne_96 : decode b_Leg_passOne 96 = .ok (.goto 5, 3) := by decide +kernel
theorem d_Leg_passOne_99 : decode b_Leg_passOne 99 = .ok (.iload 11, 2) := by decide +kernel
theorem d_Leg_passOne_101 : decode b_Leg_passOne 101 = .ok (.istore 12, 2) := by decide +kernel
theorem d_Leg_passOne_103 : decode b_Leg_passOne 103 = .ok (.iload 9, 2) := by decide +kernel
theorem d_Leg_passOne_105 : decode b_Leg_passOne 105 = .ok (.aload 7, 2) := by decide +kernel
theorem d_Leg_passOne_107 : decode b_Leg_passOne 107 = .ok (.iload 12, 2) := by decide +kernel
theorem d_Leg_passOne_109 : decode b_Leg_passOne 109 = .ok (.iaload, 1) := by decide +kernel
theorem d_Leg_passOne_110 : decode b_Leg_passOne 110 = .ok (.iadd, 1) := by decide +kernel
theorem d_Leg_passOne_111 : decode b_Leg_passOne 111 = .ok (.aload 5, 2) := by decide +kernel
theorem d_Leg_passOne_113 : decode b_Leg_passOne 113 = .ok (.iload 12, 2) := by decide +kernel
theorem d_Leg_passOne_115 : decode b_Leg_passOne 115 = .ok (.aload_n 1, 1) := by decide +kernel
theorem d_Leg_passOne_116 : decode b_Leg_passOne 116 = .ok (.aload_n 0, 1) := by decide +kernel
theorem d_Leg_passOne_117 : decode b_Leg_passOne 117 = .ok (.getfield 24, 3) := by decide +kernel
theorem d_Leg_passOne_120 : decode b_Leg_passOne 120 = .ok (.invokevirtual 88, 3) := by decide +kernel
theorem d_Leg_passOne_123 : decode b_Leg_passOne 123 = .ok (.invokevirtual 92, 3) := by decide +kernel
theorem d_Leg_passOne_126 : decode b_Leg_passOne 126 = .ok (.isub, 1) := by decide +kernel
theorem d_Leg_passOne_127 : decode b_Leg_passOne 127 = .ok (.istore 13, 2) := by decide +kernel
theorem d_Leg_passOne_129 : decode b_Leg_passOne 129 = .ok (.iload 13, 2) := by decide +kernel
theorem d_Leg_passOne_131 : decode b_Leg_passOne 131 = .ok (.iload 4, 2) := by decide +kernel
theorem d_Leg_passOne_133 : decode b_Leg_passOne 133 = .ok (.if_icmp .le 15, 3) := by decide +kernel
theorem d_Leg_passOne_136 : decode b_Leg_passOne 136 = .ok (.aload_n 0, 1) := by decide +kernel
theorem d_Leg_passOne_137 : decode b_Leg_passOne 137 = .ok (.iload_n 2, 1) := by decide +kernel
theorem d_Leg_passOne_138 : decode b_Leg_passOne 138 = .ok (.putfield 18, 3) := by decide +kernel
theorem d_Leg_passOne_141 : decode b_Leg_passOne 141 = .ok (.aload_n 0, 1) := by decide +kernel
theorem d_Leg_passOne_142 : decode b_Leg_passOne 142 = .ok (.iload 12, 2) := by decide +kernel
theorem d_Leg_passOne_144 : decode b_Leg_passOne 144 = .ok (.putfield 21, 3) := by decide +kernel
theorem d_Leg_passOne_147 : decode b_Leg_passOne 147 = .ok (.return_, 1) := by decide +kernel
theorem d_Leg_passOne_148 : decode b_Leg_passOne 148 = .ok (.aload_n 0, 1) := by decide +kernel
theorem d_Leg_passOne_149 : decode b_Leg_passOne 149 = .ok (.dup, 1) := by decide +kernel
theorem d_Leg_passOne_150 : decode b_Leg_passOne 150 = .ok (.getfield 24, 3) := by decide +kernel
theorem d_Leg_passOne_153 : decode b_Leg_passOne 153 = .ok (.aload 8, 2) := by decide +kernel
theorem d_Leg_passOne_155 : decode b_Leg_passOne 155 = .ok (.iload 12, 2) := by decide +kernel
theorem d_Leg_passOne_157 : decode b_Leg_passOne 157 = .ok (.iaload, 1) := by decide +kernel
theorem d_Leg_passOne_158 : decode b_Leg_passOne 158 = .ok (.iadd, 1) := by decide +kernel
theorem d_Leg_passOne_159 : decode b_Leg_passOne 159 = .ok (.putfield 24, 3) := by decide +kernel
theorem d_Leg_passOne_162 : decode b_Leg_passOne 162 = .ok (.iload 13, 2) := by decide +kernel
theorem d_Leg_passOne_164 : decode b_Leg_passOne 164 = .ok (.ifCond .le 17, 3) := by decide +kernel
theorem d_Leg_passOne_167 : decode b_Leg_passOne 167 = .ok (.aload_n 0, 1) := by decide +kernel
theorem d_Leg_passOne_168 : decode b_Leg_passOne 168 = .ok (.dup, 1) := by decide +kernel
theorem d_Leg_passOne_169 : decode b_Leg_passOne 169 = .ok (.getfield 24, 3) := by decide +kernel
theorem d_Leg_passOne_172 : decode b_Leg_passOne 172 = .ok (.bipush 10, 2) := by decide +kernel
theorem d_Leg_passOne_174 : decode b_Leg_passOne 174 = .ok (.iadd, 1) := by decide +kernel
theorem d_Leg_passOne_175 : decode b_Leg_passOne 175 = .ok (.putfield 24, 3) := by decide +kernel
theorem d_Leg_passOne_178 : decode b_Leg_passOne 178 = .ok (.goto 31, 3) := by decide +kernel
theorem d_Leg_passOne_181 : decode b_Leg_passOne 181 = .ok (.iload 13, 2) := by decide +kernel
theorem d_Leg_passOne_183 : decode b_Leg_passOne 183 = .ok (.iload 10, 2) := by decide +kernel
theorem d_Leg_passOne_185 : decode b_Leg_passOne 185 = .ok (.iadd, 1) := by decide +kernel
theorem d_Leg_passOne_186 : decode b_Leg_passOne 186 = .ok (.ifCond .le 23, 3) := by decide +kernel
theorem d_Leg_passOne_189 : decode b_Leg_passOne 189 = .ok (.aload_n 0, 1) := by decide +kernel
theorem d_Leg_passOne_190 : decode b_Leg_passOne 190 = .ok (.dup, 1) := by decide +kernel
theorem d_Leg_passOne_191 : decode b_Leg_passOne 191 = .ok (.getfield 24, 3) := by decide +kernel
theorem d_Leg_passOne_194 : decode b_Leg_passOne 194 = .ok (.iconst 1, 1) := by decide +kernel
theorem d_Leg_passOne_195 : decode b_Leg_passOne 195 = .ok (.iadd, 1) := by decide +kernel
theorem d_Leg_passOne_196 : decode b_Leg_passOne 196 = .ok (.putfield 24, 3) := by decide +kernel
theorem d_Leg_passOne_199 : decode b_Leg_passOne 199 = .ok (.aload_n 0, 1) := by decide +kernel
theorem d_Leg_passOne_200 : decode b_Leg_passOne 200 = .ok (.dup, 1) := by decide +kernel
theorem d_Leg_passOne_201 : decode b_Leg_passOne 201 = .ok (.getfield 27, 3) := by decide +kernel
theorem d_Leg_passOne_204 : decode b_Leg_passOne 204 = .ok (.iconst 1, 1) := by decide +kernel
theorem d_Leg_passOne_205 : decode b_Leg_passOne 205 = .ok (.iadd, 1) := by decide +kernel
theorem d_Leg_passOne_206 : decode b_Leg_passOne 206 = .ok (.putfield 27, 3) := by decide +kernel
theorem d_Leg_passOne_209 : decode b_Leg_passOne 209 = .ok (.iinc 11 1, 3) := by decide +kernel
theorem d_Leg_passOne_212 : decode b_Leg_passOne 212 = .ok (.goto (-140), 3) := by decide +kernel
theorem d_Leg_passOne_215 : decode b_Leg_passOne 215 = .ok (.return_, 1) := by decide +kernel
set_option maxRecDepth 100000 in
theorem cw_Bod_bulkOf : CwV y_Bod_bulkOf b_Bod_bulkOf 5 (some FieldType.int) 3 := ⟨tbl_at 569 (by decide +kernel) rfl, tbl_at 570 (by decide +kernel) rfl, tbl_at 51 (by decide +kernel) rfl, tbl_at 571 rfl rfl, by decide +kernel, by decide +kernel, by decide +kernel⟩
set_option maxRecDepth 100000 in
theorem cw_Cav_waterAt : CwV y_Cav_waterAt b_Cav_waterAt 2 (some FieldType.int) 1 := ⟨tbl_at 499 (by decide +kernel) rfl, tbl_at 500 (by decide +kernel) rfl, tbl_at 49 (by decide +kernel) rfl, tbl_at 501 rfl rfl, by decide +kernel, by decide +kernel, by decide +kernel⟩
set_option maxRecDepth 100000 in
theorem cw_Yar_moreBy : CwV y_Yar_moreBy b_Yar_moreBy 2 (some (FieldType.array FieldType.int)) 1 := ⟨tbl_at 573 (by decide +kernel) rfl, tbl_at 574 (by decide +kernel) rfl, tbl_at 50 (by decide +kernel) rfl, tbl_at 575 rfl rfl, by decide +kernel, by decide +kernel, by decide +kernel⟩
set_option maxRecDepth 100000 in
theorem cw_Yar_roomAt : CwV y_Yar_roomAt b_Yar_roomAt 3 (some FieldType.int) 2 := ⟨tbl_at 503 (by decide +kernel) rfl, tbl_at 504 (by decide +kernel) rfl, tbl_at 50 (by decide +kernel) rfl, tbl_at 505 rfl rfl, by decide +kernel, by decide +kernel, by decide +kernel⟩
theorem fl_Bod_15 : Cond.fieldLink R_Bod 15 "BreatheOut$Bodies" "chest" "[I" ∈ tbl := tbl_at 137 (by decide +kernel) rfl
theorem fl_Bod_19 : Cond.fieldLink R_Bod 19 "BreatheOut$Bodies" "out" "[I" ∈ tbl := tbl_at 139 (by decide +kernel) rfl
theorem fl_Bod_22 : Cond.fieldLink R_Bod 22 "BreatheOut$Bodies" "fear" "[I" ∈ tbl := tbl_at 143 (by decide +kernel) rfl
theorem fl_Cav_25 : Cond.fieldLink R_Cav 25 "BreatheOut$Cave" "rise" "I" ∈ tbl := tbl_at 180 (by decide +kernel) rfl
theorem fl_Leg_15 : Cond.fieldLink R_Leg 15 "BreatheOut$Leg" "arrivals" "I" ∈ tbl := tbl_at 219 (by decide +kernel) rfl
theorem fl_Leg_18 : Cond.fieldLink R_Leg 18 "BreatheOut$Leg" "stuck" "I" ∈ tbl := tbl_at 222 (by decide +kernel) rfl
theorem fl_Leg_21 : Cond.fieldLink R_Leg 21 "BreatheOut$Leg" "where" "I" ∈ tbl := tbl_at 225 (by decide +kernel) rfl
theorem fl_Leg_24 : Cond.fieldLink R_Leg 24 "BreatheOut$Leg" "clock" "I" ∈ tbl := tbl_at 227 (by decide +kernel) rfl
theorem fl_Leg_27 : Cond.fieldLink R_Leg 27 "BreatheOut$Leg" "breaths" "I" ∈ tbl := tbl_at 231 (by decide +kernel) rfl
theorem fl_Leg_38 : Cond.fieldLink R_Leg 38 "BreatheOut$Cave" "bodies" "LBreatheOut$Bodies;" ∈ tbl := tbl_at 176 (by decide +kernel) rfl
theorem fl_Leg_59 : Cond.fieldLink R_Leg 59 "BreatheOut$Cave" "yards" "LBreatheOut$Yards;" ∈ tbl := tbl_at 172 (by decide +kernel) rfl
theorem fl_Leg_63 : Cond.fieldLink R_Leg 63 "BreatheOut$Bodies" "posture" "[I" ∈ tbl := tbl_at 150 (by decide +kernel) rfl
theorem fl_Leg_72 : Cond.fieldLink R_Leg 72 "BreatheOut$Yards" "minutesBack" "[I" ∈ tbl := tbl_at 105 (by decide +kernel) rfl
theorem fl_Leg_75 : Cond.fieldLink R_Leg 75 "BreatheOut$Yards" "minutesThere" "[I" ∈ tbl := tbl_at 102 (by decide +kernel) rfl
theorem fl_Leg_82 : Cond.fieldLink R_Leg 82 "BreatheOut$Bodies" "out" "[I" ∈ tbl := tbl_at 140 (by decide +kernel) rfl
theorem fl_Leg_85 : Cond.fieldLink R_Leg 85 "BreatheOut$Yards" "count" "I" ∈ tbl := tbl_at 91 (by decide +kernel) rfl
theorem fl_Leg_9 : Cond.fieldLink R_Leg 9 "BreatheOut$Leg" "arrived" "I" ∈ tbl := tbl_at 216 (by decide +kernel) rfl
theorem fl_Yar_15 : Cond.fieldLink R_Yar 15 "BreatheOut$Yards" "kind" "[I" ∈ tbl := tbl_at 93 (by decide +kernel) rfl
theorem fl_Yar_25 : Cond.fieldLink R_Yar 25 "BreatheOut$Yards" "dryRoom" "[I" ∈ tbl := tbl_at 99 (by decide +kernel) rfl
theorem fl_Yar_34 : Cond.fieldLink R_Yar 34 "BreatheOut$Yards" "moreHeadFirst" "[I" ∈ tbl := tbl_at 106 (by decide +kernel) rfl
theorem fl_Yar_37 : Cond.fieldLink R_Yar 37 "BreatheOut$Yards" "moreFeetFirst" "[I" ∈ tbl := tbl_at 107 (by decide +kernel) rfl
theorem ml_Leg_66 : Cond.methodLink R_Leg 66 y_Yar_moreBy ∈ tbl := tbl_at 612 (by decide +kernel) rfl
theorem ml_Leg_78 : Cond.methodLink R_Leg 78 y_Bod_bulkOf ∈ tbl := tbl_at 613 (by decide +kernel) rfl
theorem ml_Leg_88 : Cond.methodLink R_Leg 88 y_Cav_waterAt ∈ tbl := tbl_at 614 (by decide +kernel) rfl
theorem ml_Leg_92 : Cond.methodLink R_Leg 92 y_Yar_roomAt ∈ tbl := tbl_at 615 (by decide +kernel) rfl
theorem ml_Yar_62 : Cond.methodLink R_Yar 62 Lib.Math.max.name ∈ tbl := tbl_at 506 (by decide +kernel) rfl
def vc_Brt_within (x0 : Int32) (x1 : Int32) (x2 : Int32) (Q : Bool → Prop) : Prop :=
    ((x0 < x1 → Q false) ∧ (¬ x0 < x1 → ((x2 < x0 → Q false) ∧ (¬ x2 < x0 → Q true))))
def rm_Brt_within : Room := { frames := 0, cells := 0, slots := 0, locals := 0 }
set_option maxHeartbeats 4000000 in
set_option maxRecDepth 20000 in
theorem m_Brt_within (g : Gx) (hg : gOk g) (x0 : Int32) (x1 : Int32) (x2 : Int32)  (s : St) (Q : Bool → Prop) (hw : vc_Brt_within x0 x1 x2 Q) : Mc g y_Brt_within b_Brt_within 3 (some FieldType.boolean) rm_Brt_within [.int x0, .int x1, .int x2] s (fun v s' => ∃ r : Bool, v = some (.int (bi r)) ∧ s = s' ∧ Q r) := by
  refine mc_ofV (j := 0) (L := [some (.int x0), some (.int x1), some (.int x2)]) hg (by decide) (Nat.le_of_ble_eq_true rfl) rfl ?_
  intro X hX C
  subst hX
  unfold vc_Brt_within at hw
  refine x_iload_n C d_Brt_within_0 rfl ?_
  refine x_iload_n C d_Brt_within_1 rfl ?_
  refine x_icmp_lt (tgt := 14) C d_Brt_within_2 (by decide) (fun c10 => ?_) (fun c10 => ?_)
  · have hw := hw.1 c10
    refine x_iconst (v := 0) C d_Brt_within_14 rfl ?_
    exact x_zreturn (b := false) C d_Brt_within_15 ⟨_, rfl, rfl, hw⟩
  · have hw := hw.2 c10
    refine x_iload_n C d_Brt_within_5 rfl ?_
    refine x_iload_n C d_Brt_within_6 rfl ?_
    refine x_icmp_gt (tgt := 14) C d_Brt_within_7 (by decide) (fun c11 => ?_) (fun c11 => ?_)
    · have hw := hw.1 c11
      refine x_iconst (v := 0) C d_Brt_within_14 rfl ?_
      exact x_zreturn (b := false) C d_Brt_within_15 ⟨_, rfl, rfl, hw⟩
    · have hw := hw.2 c11
      refine x_iconst (v := 1) C d_Brt_within_10 rfl ?_
      refine x_goto (tgt := 15) C d_Brt_within_11 (by decide) ?_
      exact x_zreturn (b := true) C d_Brt_within_15 ⟨_, rfl, rfl, hw⟩
def vc_Leg_begin (p0 : Nat) (x1 : Int32) (s : St) (Q : St → Prop) : Prop :=
    (∀ s10 : St, s10 = wr s p0 0 0 → (∀ s11 : St, s11 = wr s10 p0 1 0 → (∀ s12 : St, s12 = wr s11 p0 2 (-4) → (∀ s13 : St, s13 = wr s12 p0 3 (-4) → (∀ s14 : St, s14 = wr s13 p0 4 x1 → (∀ s15 : St, s15 = wr s14 p0 5 0 → Q s15))))))
def rm_Leg_begin : Room := { frames := 0, cells := 0, slots := 0, locals := 0 }
set_option maxHeartbeats 4000000 in
set_option maxRecDepth 20000 in
theorem m_Leg_begin (g : Gx) (hg : gOk g) (p0 : Nat) (x1 : Int32) (hk0 : kd p0 = 6) (s : St) (Q : St → Prop) (hw : vc_Leg_begin p0 x1 s Q) : Mc g y_Leg_begin b_Leg_begin 2 (none) rm_Leg_begin [.ref (ga g p0), .int x1] s (fun v s' => v = none ∧ Q s') := by
  refine mc_ofV (j := 0) (L := [some (.ref (ga g p0)), some (.int x1)]) hg (by decide) (Nat.le_of_ble_eq_true rfl) rfl ?_
  intro X hX C
  subst hX
  unfold vc_Leg_begin at hw
  refine x_aload_n C d_Leg_begin_0 rfl ?_
  refine x_iconst (v := 0) C d_Leg_begin_1 rfl ?_
  refine p_Leg_0 (p := p0) C hk0 fl_Leg_9 d_Leg_begin_2 ?_
  refine x_st (fun s10 hs10 => ?_)
  have hw := hw s10 hs10
  refine x_aload_n C d_Leg_begin_5 rfl ?_
  refine x_iconst (v := 0) C d_Leg_begin_6 rfl ?_
  refine p_Leg_1 (p := p0) C hk0 fl_Leg_15 d_Leg_begin_7 ?_
  refine x_st (fun s11 hs11 => ?_)
  have hw := hw s11 hs11
  refine x_aload_n C d_Leg_begin_10 rfl ?_
  refine x_bipush (v := (-4)) C d_Leg_begin_11 rfl ?_
  refine p_Leg_2 (p := p0) C hk0 fl_Leg_18 d_Leg_begin_13 ?_
  refine x_st (fun s12 hs12 => ?_)
  have hw := hw s12 hs12
  refine x_aload_n C d_Leg_begin_16 rfl ?_
  refine x_bipush (v := (-4)) C d_Leg_begin_17 rfl ?_
  refine p_Leg_3 (p := p0) C hk0 fl_Leg_21 d_Leg_begin_19 ?_
  refine x_st (fun s13 hs13 => ?_)
  have hw := hw s13 hs13
  refine x_aload_n C d_Leg_begin_22 rfl ?_
  refine x_iload_n C d_Leg_begin_23 rfl ?_
  refine p_Leg_4 (p := p0) C hk0 fl_Leg_24 d_Leg_begin_24 ?_
  refine x_st (fun s14 hs14 => ?_)
  have hw := hw s14 hs14
  refine x_aload_n C d_Leg_begin_27 rfl ?_
  refine x_iconst (v := 0) C d_Leg_begin_28 rfl ?_
  refine p_Leg_5 (p := p0) C hk0 fl_Leg_27 d_Leg_begin_29 ?_
  refine x_st (fun s15 hs15 => ?_)
  have hw := hw s15 hs15
  exact x_return C d_Leg_begin_32 ⟨rfl, hw⟩
def vc_Yar_moreBy (p0 : Nat) (x1 : Int32) (s : St) (Q : Nat → Prop) : Prop :=
    (∃ J11 : Nat → Prop, (∀ (p10 : Nat), kd p10 = 112 → J11 p10 → Q p10) ∧ ((x1 < 2 → J11 (p0 + 7)) ∧ (¬ x1 < 2 → J11 (p0 + 8))))
def rm_Yar_moreBy : Room := { frames := 0, cells := 0, slots := 0, locals := 0 }
set_option maxHeartbeats 4000000 in
set_option maxRecDepth 20000 in
theorem m_Yar_moreBy (g : Gx) (hg : gOk g) (p0 : Nat) (x1 : Int32) (hk0 : kd p0 = 3) (s : St) (Q : Nat → Prop) (hw : vc_Yar_moreBy p0 x1 s Q) : Mc g y_Yar_moreBy b_Yar_moreBy 2 (some (FieldType.array FieldType.int)) rm_Yar_moreBy [.ref (ga g p0), .int x1] s (fun v s' => ∃ r : Nat, v = some (.ref (ga g r)) ∧ kd r = 112 ∧ s = s' ∧ Q r) := by
  refine mc_ofV (j := 0) (L := [some (.ref (ga g p0)), some (.int x1)]) hg (by decide) (Nat.le_of_ble_eq_true rfl) rfl ?_
  intro X hX C
  subst hX
  unfold vc_Yar_moreBy at hw
  refine x_iload_n C d_Yar_moreBy_0 rfl ?_
  refine x_iconst (v := 2) C d_Yar_moreBy_1 rfl ?_
  obtain ⟨J11, hJ11, hw⟩ := hw
  have kJ11 : ∀ (p10 : Nat) (hkp10 : kd p10 = 112), J11 p10 → V X (xQ X (fun v s' => ∃ r : Nat, v = some (.ref (ga (xg X) r)) ∧ kd r = 112 ∧ s = s' ∧ Q r)) 0 0 s 16 [some (.ref (xa X p0)), some (.int x1)] [.ref (xa X p10)] := by
    intro p10 hkp10 hv
    have hw := hJ11 p10 hkp10 hv
    exact x_areturn C (by first | exact Or.inl ⟨_, rfl⟩ | exact Or.inr ⟨_, rfl⟩) d_Yar_moreBy_16 ⟨_, rfl, hkp10, rfl, hw⟩
  refine x_icmp_lt (tgt := 12) C d_Yar_moreBy_2 (by decide) (fun c12 => ?_) (fun c12 => ?_)
  · have hw := hw.1 c12
    refine x_aload_n C d_Yar_moreBy_12 rfl ?_
    refine g_Yar_7 (p := p0) C hk0 fl_Yar_34 d_Yar_moreBy_13 ?_
    exact x_wk (kJ11 (p0 + 7) (ks_3_7 hk0) hw) (And.intro rfl (And.intro rfl (trivial)))
  · have hw := hw.2 c12
    refine x_aload_n C d_Yar_moreBy_5 rfl ?_
    refine g_Yar_8 (p := p0) C hk0 fl_Yar_37 d_Yar_moreBy_6 ?_
    refine x_goto (tgt := 16) C d_Yar_moreBy_9 (by decide) ?_
    exact x_wk (kJ11 (p0 + 8) (ks_3_8 hk0) hw) (And.intro rfl (And.intro rfl (trivial)))
def vc_Bod_bulkOf (p0 : Nat) (x1 : Int32) (x2 : Int32) (x3 : Int32) (s : St) (Q : Int32 → Prop) : Prop :=
    (∃ J11 : Int32 → Prop, (∀ (x10 : Int32), J11 x10 → (vp_in x1 6 ∧ (∃ J14 : Int32 → Prop, (∀ (x13 : Int32), J14 x13 → (vp_in x1 6 ∧ Q ((((s (p0 + 1) (Int32.toNatClampNeg x1)) - x13) + ((s (p0 + 3) (Int32.toNatClampNeg x1)) / 3)) - x10))) ∧ ((x3 = 0 → J14 0) ∧ (¬ x3 = 0 → (vp_in x1 6 ∧ J14 (s (p0 + 2) (Int32.toNatClampNeg x1)))))))) ∧ ((¬ (x2 - x2 / 2 * 2) = 0 → J11 0) ∧ ((x2 - x2 / 2 * 2) = 0 → J11 1)))
def rm_Bod_bulkOf : Room := { frames := 0, cells := 0, slots := 0, locals := 0 }
set_option maxHeartbeats 4000000 in
set_option maxRecDepth 20000 in
theorem m_Bod_bulkOf (g : Gx) (hg : gOk g) (p0 : Nat) (x1 : Int32) (x2 : Int32) (x3 : Int32) (hk0 : kd p0 = 4) (s : St) (Q : Int32 → Prop) (hw : vc_Bod_bulkOf p0 x1 x2 x3 s Q) : Mc g y_Bod_bulkOf b_Bod_bulkOf 5 (some FieldType.int) rm_Bod_bulkOf [.ref (ga g p0), .int x1, .int x2, .int x3] s (fun v s' => ∃ r : Int32, v = some (.int r) ∧ s = s' ∧ Q r) := by
  refine mc_ofV (j := 1) (L := [some (.ref (ga g p0)), some (.int x1), some (.int x2), some (.int x3), none]) hg (by decide) (Nat.le_of_ble_eq_true rfl) rfl ?_
  intro X hX C
  subst hX
  unfold vc_Bod_bulkOf at hw
  refine x_iload_n C d_Bod_bulkOf_0 rfl ?_
  refine x_iconst (v := 2) C d_Bod_bulkOf_1 rfl ?_
  refine x_irem C d_Bod_bulkOf_2 (by decide) ?_
  obtain ⟨J11, hJ11, hw⟩ := hw
  have kJ11 : ∀ (x10 : Int32), J11 x10 → V X (xQ X (fun v s' => ∃ r : Int32, v = some (.int r) ∧ s = s' ∧ Q r)) 0 0 s 11 [some (.ref (xa X p0)), some (.int x1), some (.int x2), some (.int x3), none] [.int x10] := by
    intro x10 hv
    have hw := hJ11 x10 hv
    refine x_istore (L' := [some (.ref (xa X p0)), some (.int x1), some (.int x2), some (.int x3), some (.int x10)]) C d_Bod_bulkOf_11 (Nat.le_of_ble_eq_true rfl) rfl ?_
    refine x_aload_n C d_Bod_bulkOf_13 rfl ?_
    refine g_Bod_1 (p := p0) C hk0 fl_Bod_15 d_Bod_bulkOf_14 ?_
    refine x_iload_n C d_Bod_bulkOf_17 rfl ?_
    obtain ⟨h12, hw⟩ := hw
    refine x_iald (p := (p0 + 1)) (n := 6) C (ks_4_1 hk0) h12 d_Bod_bulkOf_18 ?_
    refine x_iload_n C d_Bod_bulkOf_19 rfl ?_
    obtain ⟨J14, hJ14, hw⟩ := hw
    have kJ14 : ∀ (x13 : Int32), J14 x13 → V X (xQ X (fun v s' => ∃ r : Int32, v = some (.int r) ∧ s = s' ∧ Q r)) 0 0 s 33 [some (.ref (xa X p0)), some (.int x1), some (.int x2), some (.int x3), some (.int x10)] [.int x13, .int (s (p0 + 1) (Int32.toNatClampNeg x1))] := by
      intro x13 hv
      have hw := hJ14 x13 hv
      refine x_isub C d_Bod_bulkOf_33 ?_
      refine x_aload_n C d_Bod_bulkOf_34 rfl ?_
      refine g_Bod_3 (p := p0) C hk0 fl_Bod_22 d_Bod_bulkOf_35 ?_
      refine x_iload_n C d_Bod_bulkOf_38 rfl ?_
      obtain ⟨h15, hw⟩ := hw
      refine x_iald (p := (p0 + 3)) (n := 6) C (ks_4_3 hk0) h15 d_Bod_bulkOf_39 ?_
      refine x_iconst (v := 3) C d_Bod_bulkOf_40 rfl ?_
      refine x_idiv C d_Bod_bulkOf_41 (by decide) ?_
      refine x_iadd C d_Bod_bulkOf_42 ?_
      refine x_iload C d_Bod_bulkOf_43 rfl ?_
      refine x_isub C d_Bod_bulkOf_45 ?_
      exact x_ireturn C d_Bod_bulkOf_46 ⟨_, rfl, rfl, hw⟩
    refine x_if_eq (tgt := 32) C d_Bod_bulkOf_20 (by decide) (fun c16 => ?_) (fun c16 => ?_)
    · have hw := hw.1 c16
      refine x_iconst (v := 0) C d_Bod_bulkOf_32 rfl ?_
      exact x_wk (kJ14 0 hw) (And.intro rfl (And.intro rfl (And.intro rfl (And.intro rfl (And.intro rfl (trivial))))))
    · have hw := hw.2 c16
      refine x_aload_n C d_Bod_bulkOf_23 rfl ?_
      refine g_Bod_2 (p := p0) C hk0 fl_Bod_19 d_Bod_bulkOf_24 ?_
      refine x_iload_n C d_Bod_bulkOf_27 rfl ?_
      obtain ⟨h17, hw⟩ := hw
      refine x_iald (p := (p0 + 2)) (n := 6) C (ks_4_2 hk0) h17 d_Bod_bulkOf_28 ?_
      refine x_goto (tgt := 33) C d_Bod_bulkOf_29 (by decide) ?_
      exact x_wk (kJ14 (s (p0 + 2) (Int32.toNatClampNeg x1)) hw) (And.intro rfl (And.intro rfl (And.intro rfl (And.intro rfl (And.intro rfl (trivial))))))
  refine x_if_ne (tgt := 10) C d_Bod_bulkOf_3 (by decide) (fun c18 => ?_) (fun c18 => ?_)
  · have hw := hw.1 c18
    refine x_iconst (v := 0) C d_Bod_bulkOf_10 rfl ?_
    exact x_wk (kJ11 0 hw) (And.intro rfl (And.intro rfl (And.intro rfl (And.intro rfl (trivial)))))
  · have hw := hw.2 c18
    refine x_iconst (v := 1) C d_Bod_bulkOf_6 rfl ?_
    refine x_goto (tgt := 11) C d_Bod_bulkOf_7 (by decide) ?_
    exact x_wk (kJ11 1 hw) (And.intro rfl (And.intro rfl (And.intro rfl (And.intro rfl (trivial)))))
def vc_Cav_waterAt (p0 : Nat) (x1 : Int32) (s : St) (Q : Int32 → Prop) : Prop :=
    Q ((x1 / 60) * (s p0 2))
def rm_Cav_waterAt : Room := { frames := 0, cells := 0, slots := 0, locals := 0 }
set_option maxHeartbeats 4000000 in
set_option maxRecDepth 20000 in
theorem m_Cav_waterAt (g : Gx) (hg : gOk g) (p0 : Nat) (x1 : Int32) (hk0 : kd p0 = 2) (s : St) (Q : Int32 → Prop) (hw : vc_Cav_waterAt p0 x1 s Q) : Mc g y_Cav_waterAt b_Cav_waterAt 2 (some FieldType.int) rm_Cav_waterAt [.ref (ga g p0), .int x1] s (fun v s' => ∃ r : Int32, v = some (.int r) ∧ s = s' ∧ Q r) := by
  refine mc_ofV (j := 0) (L := [some (.ref (ga g p0)), some (.int x1)]) hg (by decide) (Nat.le_of_ble_eq_true rfl) rfl ?_
  intro X hX C
  subst hX
  unfold vc_Cav_waterAt at hw
  refine x_iload_n C d_Cav_waterAt_0 rfl ?_
  refine x_bipush (v := 60) C d_Cav_waterAt_1 rfl ?_
  refine x_idiv C d_Cav_waterAt_3 (by decide) ?_
  refine x_aload_n C d_Cav_waterAt_4 rfl ?_
  refine g_Cav_2 (p := p0) C hk0 fl_Cav_25 d_Cav_waterAt_5 ?_
  refine x_imul C d_Cav_waterAt_8 ?_
  exact x_ireturn C d_Cav_waterAt_9 ⟨_, rfl, rfl, hw⟩
def vc_Yar_roomAt (p0 : Nat) (x1 : Int32) (x2 : Int32) (s : St) (Q : Int32 → Prop) : Prop :=
    (vp_in x1 12 ∧ ((¬ (s (p0 + 1) (Int32.toNatClampNeg x1)) = 5 → (vp_in x1 12 ∧ Q (s (p0 + 4) (Int32.toNatClampNeg x1)))) ∧ ((s (p0 + 1) (Int32.toNatClampNeg x1)) = 5 → (vp_in x1 12 ∧ Q (imax 0 ((s (p0 + 4) (Int32.toNatClampNeg x1)) - x2))))))
def rm_Yar_roomAt : Room := { frames := 1, cells := 0, slots := 0, locals := 21 }
set_option maxHeartbeats 4000000 in
set_option maxRecDepth 20000 in
theorem m_Yar_roomAt (g : Gx) (hg : gOk g) (p0 : Nat) (x1 : Int32) (x2 : Int32) (hk0 : kd p0 = 3) (s : St) (Q : Int32 → Prop) (hw : vc_Yar_roomAt p0 x1 x2 s Q) : Mc g y_Yar_roomAt b_Yar_roomAt 3 (some FieldType.int) rm_Yar_roomAt [.ref (ga g p0), .int x1, .int x2] s (fun v s' => ∃ r : Int32, v = some (.int r) ∧ s = s' ∧ Q r) := by
  refine mc_ofV (j := 0) (L := [some (.ref (ga g p0)), some (.int x1), some (.int x2)]) hg (by decide) (Nat.le_of_ble_eq_true rfl) rfl ?_
  intro X hX C
  subst hX
  unfold vc_Yar_roomAt at hw
  refine x_aload_n C d_Yar_roomAt_0 rfl ?_
  refine g_Yar_1 (p := p0) C hk0 fl_Yar_15 d_Yar_roomAt_1 ?_
  refine x_iload_n C d_Yar_roomAt_4 rfl ?_
  obtain ⟨h10, hw⟩ := hw
  refine x_iald (p := (p0 + 1)) (n := 12) C (ks_3_1 hk0) h10 d_Yar_roomAt_5 ?_
  refine x_iconst (v := 5) C d_Yar_roomAt_6 rfl ?_
  refine x_icmp_ne (tgt := 25) C d_Yar_roomAt_7 (by decide) (fun c11 => ?_) (fun c11 => ?_)
  · have hw := hw.1 c11
    refine x_aload_n C d_Yar_roomAt_25 rfl ?_
    refine g_Yar_4 (p := p0) C hk0 fl_Yar_25 d_Yar_roomAt_26 ?_
    refine x_iload_n C d_Yar_roomAt_29 rfl ?_
    obtain ⟨h12, hw⟩ := hw
    refine x_iald (p := (p0 + 4)) (n := 12) C (ks_3_4 hk0) h12 d_Yar_roomAt_30 ?_
    exact x_ireturn C d_Yar_roomAt_31 ⟨_, rfl, rfl, hw⟩
  · have hw := hw.2 c11
    refine x_iconst (v := 0) C d_Yar_roomAt_10 rfl ?_
    refine x_aload_n C d_Yar_roomAt_11 rfl ?_
    refine g_Yar_4 (p := p0) C hk0 fl_Yar_25 d_Yar_roomAt_12 ?_
    refine x_iload_n C d_Yar_roomAt_15 rfl ?_
    obtain ⟨h13, hw⟩ := hw
    refine x_iald (p := (p0 + 4)) (n := 12) C (ks_3_4 hk0) h13 d_Yar_roomAt_16 ?_
    refine x_iload_n C d_Yar_roomAt_17 rfl ?_
    refine x_isub C d_Yar_roomAt_18 ?_
    refine x_mmax C ml_Yar_62 (Nat.le_of_ble_eq_true rfl) (Nat.le_of_ble_eq_true rfl) ⟨Nat.zero_le _, Nat.zero_le _⟩ d_Yar_roomAt_19 ?_
    refine x_goto (tgt := 31) C d_Yar_roomAt_22 (by decide) ?_
    exact x_ireturn C d_Yar_roomAt_31 ⟨_, rfl, rfl, hw⟩
def vc_Leg_passOne (p0 : Nat) (p1 : Nat) (x2 : Int32) (x3 : Int32) (x4 : Int32) (s : St) (Q : St → Prop) : Prop :=
    (vp_in x2 6 ∧ (∀ x11 : Int32, x11 = s (p1 + 10 + 5) (Int32.toNatClampNeg x2) → vc_Yar_moreBy (p1 + 1) x11 s (fun p12 => kd p12 = 112 → (∃ J15 : Nat → Prop, (∀ (p14 : Nat), kd p14 = 112 → J15 p14 → vc_Bod_bulkOf (p1 + 10) x2 x11 1 s (fun x16 => (vp_in x2 6 ∧ (∀ x19 : Int32, x19 = s (p1 + 10 + 2) (Int32.toNatClampNeg x2) → (∃ I22 : Nat → Int32 → St → Prop, (∃ n23, I22 n23 0 s) ∧ ∀ (nI22 : Nat) (x20 : Int32) (s21 : St), I22 nI22 x20 s21 → (((s21 (p1 + 1) 0) ≤ x20 → Q s21) ∧ (¬ (s21 (p1 + 1) 0) ≤ x20 → (∃ J26 : Int32 → Prop, (∀ (x25 : Int32), J26 x25 → (vp_in x25 12 ∧ vc_Cav_waterAt p1 (s21 p0 4) s21 (fun x28 => vc_Yar_roomAt (p1 + 1) x25 x28 s21 (fun x30 => (∀ x32 : Int32, x32 = (x16 + (s21 p12 (Int32.toNatClampNeg x25))) - x30 → ((x32 ≤ x4 → (vp_in x25 12 ∧ (∀ s35 : St, s35 = wr s21 p0 4 ((s21 p0 4) + (s21 p14 (Int32.toNatClampNeg x25))) → (∃ J37 : St → Prop, (∀ (s36 : St), J37 s36 → (∀ x38 : Int32, x38 = x20 + 1 → ∃ m39, m39 < nI22 ∧ I22 m39 x38 s36)) ∧ ((x32 ≤ 0 → (((x32 + x19) ≤ 0 → J37 s35) ∧ (¬ (x32 + x19) ≤ 0 → (∀ s42 : St, s42 = wr s35 p0 4 ((s35 p0 4) + 1) → (∀ s43 : St, s43 = wr s42 p0 5 ((s42 p0 5) + 1) → J37 s43))))) ∧ (¬ x32 ≤ 0 → (∀ s44 : St, s44 = wr s35 p0 4 ((s35 p0 4) + 10) → J37 s44))))))) ∧ (¬ x32 ≤ x4 → (∀ s45 : St, s45 = wr s21 p0 2 x2 → (∀ s46 : St, s46 = wr s45 p0 3 x25 → Q s46))))))))) ∧ ((x3 = 0 → J26 x20) ∧ (¬ x3 = 0 → J26 (((s21 (p1 + 1) 0) - 1) - x20))))))))))) ∧ ((x3 = 0 → J15 (p1 + 1 + 5)) ∧ (¬ x3 = 0 → J15 (p1 + 1 + 6)))))))
def rm_Leg_passOne : Room := { frames := 2, cells := 0, slots := 0, locals := 43 }
set_option maxHeartbeats 4000000 in
set_option maxRecDepth 20000 in
theorem m_Leg_passOne (g : Gx) (hg : gOk g) (p0 : Nat) (p1 : Nat) (x2 : Int32) (x3 : Int32) (x4 : Int32) (hk0 : kd p0 = 6) (hk1 : kd p1 = 2) (s : St) (Q : St → Prop) (hw : vc_Leg_passOne p0 p1 x2 x3 x4 s Q) : Mc g y_Leg_passOne b_Leg_passOne 14 (none) rm_Leg_passOne [.ref (ga g p0), .ref (ga g p1), .int x2, .int x3, .int x4] s (fun v s' => v = none ∧ Q s') := by
  refine mc_ofV (j := 9) (L := [some (.ref (ga g p0)), some (.ref (ga g p1)), some (.int x2), some (.int x3), some (.int x4), none, none, none, none, none, none, none, none, none]) hg (by decide) (Nat.le_of_ble_eq_true rfl) rfl ?_
  intro X hX C
  subst hX
  unfold vc_Leg_passOne at hw
  refine x_aload_n C d_Leg_passOne_0 rfl ?_
  refine g_Cav_0 (p := p1) C hk1 fl_Leg_59 d_Leg_passOne_1 ?_
  refine x_astore (L' := [some (.ref (xa X p0)), some (.ref (xa X p1)), some (.int x2), some (.int x3), some (.int x4), some (.ref (xa X (p1 + 1))), none, none, none, none, none, none, none, none]) C d_Leg_passOne_4 (Nat.le_of_ble_eq_true rfl) rfl ?_
  refine x_aload_n C d_Leg_passOne_6 rfl ?_
  refine g_Cav_1 (p := p1) C hk1 fl_Leg_38 d_Leg_passOne_7 ?_
  refine g_Bod_5 (p := (p1 + 10)) C (ks_2_10 hk1) fl_Leg_63 d_Leg_passOne_10 ?_
  refine x_iload_n C d_Leg_passOne_13 rfl ?_
  obtain ⟨h10, hw⟩ := hw
  refine x_iald (p := (p1 + 10 + 5)) (n := 6) C (ks_4_5 (ks_2_10 hk1)) h10 d_Leg_passOne_14 ?_
  refine x_nm (fun x11 hx11 => ?_)
  have hw := hw x11 hx11
  refine x_istore (L' := [some (.ref (xa X p0)), some (.ref (xa X p1)), some (.int x2), some (.int x3), some (.int x4), some (.ref (xa X (p1 + 1))), some (.int x11), none, none, none, none, none, none, none]) C d_Leg_passOne_15 (Nat.le_of_ble_eq_true rfl) rfl ?_
  refine x_aload C d_Leg_passOne_17 rfl ?_
  refine x_iload C d_Leg_passOne_19 rfl ?_
  refine x_callV (As := [.int x11]) (rest := []) (p := (p1 + 1)) C (m_Yar_moreBy (xg X) C.2.2.2.2.2.2.1 (p1 + 1) x11 (ks_2_1 hk1) s _ hw) cw_Yar_moreBy ml_Leg_66 (ks_2_1 hk1) (by decide) (by decide) rfl rfl rfl ⟨rfl, rfl, Nat.le_of_ble_eq_true rfl, Nat.le_of_ble_eq_true rfl⟩ ⟨Nat.zero_le _, Nat.zero_le _⟩ rfl (Nat.le_of_ble_eq_true rfl) d_Leg_passOne_21 ?_
  rintro _ _ ⟨p12, rfl, hkp12, rfl, hw⟩
  have hw := hw hkp12
  show V X _ _ _ _ 24 [some (.ref (xa X p0)), some (.ref (xa X p1)), some (.int x2), some (.int x3), some (.int x4), some (.ref (xa X (p1 + 1))), some (.int x11), none, none, none, none, none, none, none] [.ref (xa X p12)]
  refine x_astore (L' := [some (.ref (xa X p0)), some (.ref (xa X p1)), some (.int x2), some (.int x3), some (.int x4), some (.ref (xa X (p1 + 1))), some (.int x11), some (.ref (xa X p12)), none, none, none, none, none, none]) C d_Leg_passOne_24 (Nat.le_of_ble_eq_true rfl) rfl ?_
  refine x_iload_n C d_Leg_passOne_26 rfl ?_
  obtain ⟨J15, hJ15, hw⟩ := hw
  have kJ15 : ∀ (p14 : Nat) (hkp14 : kd p14 = 112), J15 p14 → V X (xQ X (fun v s' => v = none ∧ Q s')) 0 0 s 43 [some (.ref (xa X p0)), some (.ref (xa X p1)), some (.int x2), some (.int x3), some (.int x4), some (.ref (xa X (p1 + 1))), some (.int x11), some (.ref (xa X p12)), none, none, none, none, none, none] [.ref (xa X p14)] := by
    intro p14 hkp14 hv
    have hw := hJ15 p14 hkp14 hv
    refine x_astore (L' := [some (.ref (xa X p0)), some (.ref (xa X p1)), some (.int x2), some (.int x3), some (.int x4), some (.ref (xa X (p1 + 1))), some (.int x11), some (.ref (xa X p12)), some (.ref (xa X p14)), none, none, none, none, none]) C d_Leg_passOne_43 (Nat.le_of_ble_eq_true rfl) rfl ?_
    refine x_aload_n C d_Leg_passOne_45 rfl ?_
    refine g_Cav_1 (p := p1) C hk1 fl_Leg_38 d_Leg_passOne_46 ?_
    refine x_iload_n C d_Leg_passOne_49 rfl ?_
    refine x_iload C d_Leg_passOne_50 rfl ?_
    refine x_iconst (v := 1) C d_Leg_passOne_52 rfl ?_
    refine x_callV (As := [.int x2, .int x11, .int 1]) (rest := []) (p := (p1 + 10)) C (m_Bod_bulkOf (xg X) C.2.2.2.2.2.2.1 (p1 + 10) x2 x11 1 (ks_2_10 hk1) s _ hw) cw_Bod_bulkOf ml_Leg_78 (ks_2_10 hk1) (by decide) (by decide) rfl rfl rfl ⟨rfl, rfl, Nat.le_of_ble_eq_true rfl, Nat.le_of_ble_eq_true rfl⟩ ⟨Nat.zero_le _, Nat.zero_le _⟩ rfl (Nat.le_of_ble_eq_true rfl) d_Leg_passOne_53 ?_
    rintro _ _ ⟨x16, rfl, rfl, hw⟩
    show V X _ _ _ _ 56 [some (.ref (xa X p0)), some (.ref (xa X p1)), some (.int x2), some (.int x3), some (.int x4), some (.ref (xa X (p1 + 1))), some (.int x11), some (.ref (xa X p12)), some (.ref (xa X p14)), none, none, none, none, none] [.int x16]
    refine x_istore (L' := [some (.ref (xa X p0)), some (.ref (xa X p1)), some (.int x2), some (.int x3), some (.int x4), some (.ref (xa X (p1 + 1))), some (.int x11), some (.ref (xa X p12)), some (.ref (xa X p14)), some (.int x16), none, none, none, none]) C d_Leg_passOne_56 (Nat.le_of_ble_eq_true rfl) rfl ?_
    refine x_aload_n C d_Leg_passOne_58 rfl ?_
    refine g_Cav_1 (p := p1) C hk1 fl_Leg_38 d_Leg_passOne_59 ?_
    refine g_Bod_2 (p := (p1 + 10)) C (ks_2_10 hk1) fl_Leg_82 d_Leg_passOne_62 ?_
    refine x_iload_n C d_Leg_passOne_65 rfl ?_
    obtain ⟨h18, hw⟩ := hw
    refine x_iald (p := (p1 + 10 + 2)) (n := 6) C (ks_4_2 (ks_2_10 hk1)) h18 d_Leg_passOne_66 ?_
    refine x_nm (fun x19 hx19 => ?_)
    have hw := hw x19 hx19
    refine x_istore (L' := [some (.ref (xa X p0)), some (.ref (xa X p1)), some (.int x2), some (.int x3), some (.int x4), some (.ref (xa X (p1 + 1))), some (.int x11), some (.ref (xa X p12)), some (.ref (xa X p14)), some (.int x16), some (.int x19), none, none, none]) C d_Leg_passOne_67 (Nat.le_of_ble_eq_true rfl) rfl ?_
    refine x_iconst (v := 0) C d_Leg_passOne_69 rfl ?_
    refine x_istore (L' := [some (.ref (xa X p0)), some (.ref (xa X p1)), some (.int x2), some (.int x3), some (.int x4), some (.ref (xa X (p1 + 1))), some (.int x11), some (.ref (xa X p12)), some (.ref (xa X p14)), some (.int x16), some (.int x19), some (.int 0), none, none]) C d_Leg_passOne_70 (Nat.le_of_ble_eq_true rfl) rfl ?_
    obtain ⟨I22, ⟨n23, hn23⟩, hI22⟩ := hw
    have lI22 : ∀ (nI22 : Nat) (x20 : Int32) (s21 : St), I22 nI22 x20 s21 → V X (xQ X (fun v s' => v = none ∧ Q s')) 0 0 s21 72 [some (.ref (xa X p0)), some (.ref (xa X p1)), some (.int x2), some (.int x3), some (.int x4), some (.ref (xa X (p1 + 1))), some (.int x11), some (.ref (xa X p12)), some (.ref (xa X p14)), some (.int x16), some (.int x19), some (.int x20), none, none] [] := by
      intro nI22
      induction nI22 using Nat.strongRecOn with
      | ind nI22 ihI22 =>
        intro x20 s21 hv
        have hw := hI22 nI22 x20 s21 hv
        refine x_iload C d_Leg_passOne_72 rfl ?_
        refine x_aload C d_Leg_passOne_74 rfl ?_
        refine g_Yar_0 (p := (p1 + 1)) C (ks_2_1 hk1) fl_Leg_85 d_Leg_passOne_76 ?_
        refine x_icmp_ge (tgt := 215) C d_Leg_passOne_79 (by decide) (fun c24 => ?_) (fun c24 => ?_)
        · have hw := hw.1 c24
          exact x_return C d_Leg_passOne_215 ⟨rfl, hw⟩
        · have hw := hw.2 c24
          refine x_iload_n C d_Leg_passOne_82 rfl ?_
          obtain ⟨J26, hJ26, hw⟩ := hw
          have kJ26 : ∀ (x25 : Int32), J26 x25 → V X (xQ X (fun v s' => v = none ∧ Q s')) 0 0 s21 101 [some (.ref (xa X p0)), some (.ref (xa X p1)), some (.int x2), some (.int x3), some (.int x4), some (.ref (xa X (p1 + 1))), some (.int x11), some (.ref (xa X p12)), some (.ref (xa X p14)), some (.int x16), some (.int x19), some (.int x20), none, none] [.int x25] := by
            intro x25 hv
            have hw := hJ26 x25 hv
            refine x_istore (L' := [some (.ref (xa X p0)), some (.ref (xa X p1)), some (.int x2), some (.int x3), some (.int x4), some (.ref (xa X (p1 + 1))), some (.int x11), some (.ref (xa X p12)), some (.ref (xa X p14)), some (.int x16), some (.int x19), some (.int x20), some (.int x25), none]) C d_Leg_passOne_101 (Nat.le_of_ble_eq_true rfl) rfl ?_
            refine x_iload C d_Leg_passOne_103 rfl ?_
            refine x_aload C d_Leg_passOne_105 rfl ?_
            refine x_iload C d_Leg_passOne_107 rfl ?_
            obtain ⟨h27, hw⟩ := hw
            refine x_iald (p := p12) (n := 12) C hkp12 h27 d_Leg_passOne_109 ?_
            refine x_iadd C d_Leg_passOne_110 ?_
            refine x_aload C d_Leg_passOne_111 rfl ?_
            refine x_iload C d_Leg_passOne_113 rfl ?_
            refine x_aload_n C d_Leg_passOne_115 rfl ?_
            refine x_aload_n C d_Leg_passOne_116 rfl ?_
            refine g_Leg_4 (p := p0) C hk0 fl_Leg_24 d_Leg_passOne_117 ?_
            refine x_callV (As := [.int (s21 p0 4)]) (rest := [.int x25, .ref (xa X (p1 + 1)), .int (x16 + (s21 p12 (Int32.toNatClampNeg x25)))]) (p := p1) C (m_Cav_waterAt (xg X) C.2.2.2.2.2.2.1 p1 (s21 p0 4) hk1 s21 _ hw) cw_Cav_waterAt ml_Leg_88 hk1 (by decide) (by decide) rfl rfl rfl ⟨rfl, rfl, Nat.le_of_ble_eq_true rfl, Nat.le_of_ble_eq_true rfl⟩ ⟨Nat.zero_le _, Nat.zero_le _⟩ rfl (Nat.le_of_ble_eq_true rfl) d_Leg_passOne_120 ?_
            rintro _ _ ⟨x28, rfl, rfl, hw⟩
            show V X _ _ _ _ 123 [some (.ref (xa X p0)), some (.ref (xa X p1)), some (.int x2), some (.int x3), some (.int x4), some (.ref (xa X (p1 + 1))), some (.int x11), some (.ref (xa X p12)), some (.ref (xa X p14)), some (.int x16), some (.int x19), some (.int x20), some (.int x25), none] [.int x28, .int x25, .ref (xa X (p1 + 1)), .int (x16 + (s21 p12 (Int32.toNatClampNeg x25)))]
            refine x_callV (As := [.int x25, .int x28]) (rest := [.int (x16 + (s21 p12 (Int32.toNatClampNeg x25)))]) (p := (p1 + 1)) C (m_Yar_roomAt (xg X) C.2.2.2.2.2.2.1 (p1 + 1) x25 x28 (ks_2_1 hk1) s21 _ hw) cw_Yar_roomAt ml_Leg_92 (ks_2_1 hk1) (by decide) (by decide) rfl rfl rfl ⟨rfl, rfl, Nat.le_of_ble_eq_true rfl, Nat.le_of_ble_eq_true rfl⟩ ⟨Nat.zero_le _, Nat.zero_le _⟩ rfl (Nat.le_of_ble_eq_true rfl) d_Leg_passOne_123 ?_
            rintro _ _ ⟨x30, rfl, rfl, hw⟩
            show V X _ _ _ _ 126 [some (.ref (xa X p0)), some (.ref (xa X p1)), some (.int x2), some (.int x3), some (.int x4), some (.ref (xa X (p1 + 1))), some (.int x11), some (.ref (xa X p12)), some (.ref (xa X p14)), some (.int x16), some (.int x19), some (.int x20), some (.int x25), none] [.int x30, .int (x16 + (s21 p12 (Int32.toNatClampNeg x25)))]
            refine x_isub C d_Leg_passOne_126 ?_
            refine x_nm (fun x32 hx32 => ?_)
            have hw := hw x32 hx32
            refine x_istore (L' := [some (.ref (xa X p0)), some (.ref (xa X p1)), some (.int x2), some (.int x3), some (.int x4), some (.ref (xa X (p1 + 1))), some (.int x11), some (.ref (xa X p12)), some (.ref (xa X p14)), some (.int x16), some (.int x19), some (.int x20), some (.int x25), some (.int x32)]) C d_Leg_passOne_127 (Nat.le_of_ble_eq_true rfl) rfl ?_
            refine x_iload C d_Leg_passOne_129 rfl ?_
            refine x_iload C d_Leg_passOne_131 rfl ?_
            refine x_icmp_le (tgt := 148) C d_Leg_passOne_133 (by decide) (fun c33 => ?_) (fun c33 => ?_)
            · have hw := hw.1 c33
              refine x_aload_n C d_Leg_passOne_148 rfl ?_
              refine x_dup C d_Leg_passOne_149 rfl ?_
              refine g_Leg_4 (p := p0) C hk0 fl_Leg_24 d_Leg_passOne_150 ?_
              refine x_aload C d_Leg_passOne_153 rfl ?_
              refine x_iload C d_Leg_passOne_155 rfl ?_
              obtain ⟨h34, hw⟩ := hw
              refine x_iald (p := p14) (n := 12) C hkp14 h34 d_Leg_passOne_157 ?_
              refine x_iadd C d_Leg_passOne_158 ?_
              refine p_Leg_4 (p := p0) C hk0 fl_Leg_24 d_Leg_passOne_159 ?_
              refine x_st (fun s35 hs35 => ?_)
              have hw := hw s35 hs35
              refine x_iload C d_Leg_passOne_162 rfl ?_
              obtain ⟨J37, hJ37, hw⟩ := hw
              have kJ37 : ∀ (s36 : St), J37 s36 → V X (xQ X (fun v s' => v = none ∧ Q s')) 0 0 s36 209 [some (.ref (xa X p0)), some (.ref (xa X p1)), some (.int x2), some (.int x3), some (.int x4), some (.ref (xa X (p1 + 1))), some (.int x11), some (.ref (xa X p12)), some (.ref (xa X p14)), some (.int x16), some (.int x19), some (.int x20), some (.int x25), some (.int x32)] [] := by
                intro s36 hv
                have hw := hJ37 s36 hv
                obtain ⟨x38, hx38⟩ : ∃ z : Int32, z = x20 + 1 := ⟨_, rfl⟩
                refine x_iinc (v := x38) (L' := [some (.ref (xa X p0)), some (.ref (xa X p1)), some (.int x2), some (.int x3), some (.int x4), some (.ref (xa X (p1 + 1))), some (.int x11), some (.ref (xa X p12)), some (.ref (xa X p14)), some (.int x16), some (.int x19), some (.int x38), some (.int x25), some (.int x32)]) C d_Leg_passOne_209 (Nat.le_of_ble_eq_true rfl) rfl (by rw [hx38]; rfl) rfl ?_
                have hw := hw x38 hx38
                refine x_goto (tgt := 72) C d_Leg_passOne_212 (by decide) ?_
                obtain ⟨m39, hm39, hw⟩ := hw
                exact x_wk (ihI22 m39 hm39 x38 s36 hw) (And.intro rfl (And.intro rfl (And.intro rfl (And.intro rfl (And.intro rfl (And.intro rfl (And.intro rfl (And.intro rfl (And.intro rfl (And.intro rfl (And.intro rfl (And.intro rfl (trivial)))))))))))))
              refine x_if_le (tgt := 181) C d_Leg_passOne_164 (by decide) (fun c40 => ?_) (fun c40 => ?_)
              · have hw := hw.1 c40
                refine x_iload C d_Leg_passOne_181 rfl ?_
                refine x_iload C d_Leg_passOne_183 rfl ?_
                refine x_iadd C d_Leg_passOne_185 ?_
                refine x_if_le (tgt := 209) C d_Leg_passOne_186 (by decide) (fun c41 => ?_) (fun c41 => ?_)
                · have hw := hw.1 c41
                  exact x_wk (kJ37 s35 hw) (And.intro rfl (And.intro rfl (And.intro rfl (And.intro rfl (And.intro rfl (And.intro rfl (And.intro rfl (And.intro rfl (And.intro rfl (And.intro rfl (And.intro rfl (And.intro rfl (And.intro rfl (And.intro rfl (trivial)))))))))))))))
                · have hw := hw.2 c41
                  refine x_aload_n C d_Leg_passOne_189 rfl ?_
                  refine x_dup C d_Leg_passOne_190 rfl ?_
                  refine g_Leg_4 (p := p0) C hk0 fl_Leg_24 d_Leg_passOne_191 ?_
                  refine x_iconst (v := 1) C d_Leg_passOne_194 rfl ?_
                  refine x_iadd C d_Leg_passOne_195 ?_
                  refine p_Leg_4 (p := p0) C hk0 fl_Leg_24 d_Leg_passOne_196 ?_
                  refine x_st (fun s42 hs42 => ?_)
                  have hw := hw s42 hs42
                  refine x_aload_n C d_Leg_passOne_199 rfl ?_
                  refine x_dup C d_Leg_passOne_200 rfl ?_
                  refine g_Leg_5 (p := p0) C hk0 fl_Leg_27 d_Leg_passOne_201 ?_
                  refine x_iconst (v := 1) C d_Leg_passOne_204 rfl ?_
                  refine x_iadd C d_Leg_passOne_205 ?_
                  refine p_Leg_5 (p := p0) C hk0 fl_Leg_27 d_Leg_passOne_206 ?_
                  refine x_st (fun s43 hs43 => ?_)
                  have hw := hw s43 hs43
                  exact x_wk (kJ37 s43 hw) (And.intro rfl (And.intro rfl (And.intro rfl (And.intro rfl (And.intro rfl (And.intro rfl (And.intro rfl (And.intro rfl (And.intro rfl (And.intro rfl (And.intro rfl (And.intro rfl (And.intro rfl (And.intro rfl (trivial)))))))))))))))
              · have hw := hw.2 c40
                refine x_aload_n C d_Leg_passOne_167 rfl ?_
                refine x_dup C d_Leg_passOne_168 rfl ?_
                refine g_Leg_4 (p := p0) C hk0 fl_Leg_24 d_Leg_passOne_169 ?_
                refine x_bipush (v := 10) C d_Leg_passOne_172 rfl ?_
                refine x_iadd C d_Leg_passOne_174 ?_
                refine p_Leg_4 (p := p0) C hk0 fl_Leg_24 d_Leg_passOne_175 ?_
                refine x_st (fun s44 hs44 => ?_)
                have hw := hw s44 hs44
                refine x_goto (tgt := 209) C d_Leg_passOne_178 (by decide) ?_
                exact x_wk (kJ37 s44 hw) (And.intro rfl (And.intro rfl (And.intro rfl (And.intro rfl (And.intro rfl (And.intro rfl (And.intro rfl (And.intro rfl (And.intro rfl (And.intro rfl (And.intro rfl (And.intro rfl (And.intro rfl (And.intro rfl (trivial)))))))))))))))
            · have hw := hw.2 c33
              refine x_aload_n C d_Leg_passOne_136 rfl ?_
              refine x_iload_n C d_Leg_passOne_137 rfl ?_
              refine p_Leg_2 (p := p0) C hk0 fl_Leg_18 d_Leg_passOne_138 ?_
              refine x_st (fun s45 hs45 => ?_)
              have hw := hw s45 hs45
              refine x_aload_n C d_Leg_passOne_141 rfl ?_
              refine x_iload C d_Leg_passOne_142 rfl ?_
              refine p_Leg_3 (p := p0) C hk0 fl_Leg_21 d_Leg_passOne_144 ?_
              refine x_st (fun s46 hs46 => ?_)
              have hw := hw s46 hs46
              exact x_return C d_Leg_passOne_147 ⟨rfl, hw⟩
          refine x_if_eq (tgt := 99) C d_Leg_passOne_83 (by decide) (fun c47 => ?_) (fun c47 => ?_)
          · have hw := hw.1 c47
            refine x_iload C d_Leg_passOne_99 rfl ?_
            exact x_wk (kJ26 x20 hw) (And.intro rfl (And.intro rfl (And.intro rfl (And.intro rfl (And.intro rfl (And.intro rfl (And.intro rfl (And.intro rfl (And.intro rfl (And.intro rfl (And.intro rfl (And.intro rfl (trivial)))))))))))))
          · have hw := hw.2 c47
            refine x_aload C d_Leg_passOne_86 rfl ?_
            refine g_Yar_0 (p := (p1 + 1)) C (ks_2_1 hk1) fl_Leg_85 d_Leg_passOne_88 ?_
            refine x_iconst (v := 1) C d_Leg_passOne_91 rfl ?_
            refine x_isub C d_Leg_passOne_92 ?_
            refine x_iload C d_Leg_passOne_93 rfl ?_
            refine x_isub C d_Leg_passOne_95 ?_
            refine x_goto (tgt := 101) C d_Leg_passOne_96 (by decide) ?_
            exact x_wk (kJ26 (((s21 (p1 + 1) 0) - 1) - x20) hw) (And.intro rfl (And.intro rfl (And.intro rfl (And.intro rfl (And.intro rfl (And.intro rfl (And.intro rfl (And.intro rfl (And.intro rfl (And.intro rfl (And.intro rfl (And.intro rfl (trivial)))))))))))))
    exact x_wk (lI22 n23 0 s hn23) (And.intro rfl (And.intro rfl (And.intro rfl (And.intro rfl (And.intro rfl (And.intro rfl (And.intro rfl (And.intro rfl (And.intro rfl (And.intro rfl (And.intro rfl (And.intro rfl (trivial)))))))))))))
  refine x_if_eq (tgt := 38) C d_Leg_passOne_27 (by decide) (fun c48 => ?_) (fun c48 => ?_)
  · have hw := hw.1 c48
    refine x_aload C d_Leg_passOne_38 rfl ?_
    refine g_Yar_5 (p := (p1 + 1)) C (ks_2_1 hk1) fl_Leg_75 d_Leg_passOne_40 ?_
    exact x_wk (kJ15 (p1 + 1 + 5) (ks_3_5 (ks_2_1 hk1)) hw) (And.intro rfl (And.intro rfl (And.intro rfl (And.intro rfl (And.intro rfl (And.intro rfl (And.intro rfl (And.intro rfl (trivial)))))))))
  · have hw := hw.2 c48
    refine x_aload C d_Leg_passOne_30 rfl ?_
    refine g_Yar_6 (p := (p1 + 1)) C (ks_2_1 hk1) fl_Leg_72 d_Leg_passOne_32 ?_
    refine x_goto (tgt := 43) C d_Leg_passOne_35 (by decide) ?_
    exact x_wk (kJ15 (p1 + 1 + 6) (ks_3_6 (ks_2_1 hk1)) hw) (And.intro rfl (And.intro rfl (And.intro rfl (And.intro rfl (And.intro rfl (And.intro rfl (And.intro rfl (And.intro rfl (trivial)))))))))
