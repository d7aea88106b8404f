theorem d_Mod_isIn_0 : decode b_Mod_isIn 0 = .ok (.iload_n 0, 1) := by decide +kernel
theorem d_Mod_isIn_1 : decode b_Mod_isIn 1 = .ok (.iload_n 1, 1) := by decide +kernel
theorem d_Mod_isIn_2 : decode b_Mod_isIn 2 = .ok (.if_icmp .lt 12, 3) := by decide +kernel
theorem d_Mod_isIn_5 : decode b_Mod_isIn 5 = .ok (.iload_n 0, 1) := by decide +kernel
theorem d_Mod_isIn_6 : decode b_Mod_isIn 6 = .ok (.iload_n 2, 1) := by decide +kernel
theorem d_Mod_isIn_7 : decode b_Mod_isIn 7 = .ok (.if_icmp .gt 7, 3) := by decide +kernel
theorem d_Mod_isIn_10 : decode b_Mod_isIn 10 = .ok (.iconst 1, 1) := by decide +kernel
theorem d_Mod_isIn_11 : decode b_Mod_isIn 11 = .ok (.goto 4, 3) := by decide +kernel
theorem d_Mod_isIn_14 : decode b_Mod_isIn 14 = .ok (.iconst 0, 1) := by decide +kernel
theorem d_Mod_isIn_15 : decode b_Mod_isIn 15 = .ok (.ireturn, 1) := by decide +kernel
theorem d_Mod_least_0 : decode b_Mod_least 0 = .ok (.iload_n 0, 1) := by decide +kernel
theorem d_Mod_least_1 : decode b_Mod_least 1 = .ok (.iload_n 1, 1) := by decide +kernel
theorem d_Mod_least_2 : decode b_Mod_least 2 = .ok (.if_icmp .ge 7, 3) := by decide +kernel
theorem d_Mod_least_5 : decode b_Mod_least 5 = .ok (.iload_n 0, 1) := by decide +kernel
theorem d_Mod_least_6 : decode b_Mod_least 6 = .ok (.goto 4, 3) := by decide +kernel
theorem d_Mod_least_9 : decode b_Mod_least 9 = .ok (.iload_n 1, 1) := by decide +kernel
theorem d_Mod_least_10 : decode b_Mod_least 10 = .ok (.ireturn, 1) := by decide +kernel
theorem d_Mod_most_0 : decode b_Mod_most 0 = .ok (.iload_n 0, 1) := by decide +kernel
theorem d_Mod_most_1 : decode b_Mod_most 1 = .ok (.iload_n 1, 1) := by decide +kernel
theorem d_Mod_most_2 : decode b_Mod_most 2 = .ok (.if_icmp .le 7, 3) := by decide +kernel
theorem d_Mod_most_5 : decode b_Mod_most 5 = .ok (.iload_n 0, 1) := by decide +kernel
theorem d_Mod_most_6 : decode b_Mod_most 6 = .ok (.goto 4, 3) := by decide +kernel
theorem d_Mod_most_9 : decode b_Mod_most 9 = .ok (.iload_n 1, 1) := by decide +kernel
theorem d_Mod_most_10 : decode b_Mod_most 10 = .ok (.ireturn, 1) := by decide +kernel
theorem d_Mod_copies_0 : decode b_Mod_copies 0 = .ok (.iconst 0, 1) := by decide +kernel
theorem d_Mod_copies_1 : decode b_Mod_copies 1 = .ok (.istore_n 2, 1) := by decide +kernel
theorem d_Mod_copies_2 : decode b_Mod_copies 2 = .ok (.iload_n 2, 1) := by decide +kernel
theorem d_Mod_copies_3 : decode b_Mod_copies 3 = .ok (.bipush 78, 2) := by decide +kernel
theorem d_Mod_copies_5 : decode b_Mod_copies 5 = .ok (.if_icmp .ge 15, 3) := by decide +kernel
theorem d_Mod_copies_8 : decode b_Mod_copies 8 = .ok (.aload_n 1, 1) := by decide +kernel
theorem d_Mod_copies_9 : decode b_Mod_copies 9 = .ok (.iload_n 2, 1) := by decide +kernel
theorem d_Mod_copies_10 : decode b_Mod_copies 10 = .ok (.aload_n 0, 1) := by decide +kernel
theorem d_Mod_copies_11 : decode b_Mod_copies 11 = .ok (.iload_n 2, 1) := by decide +kernel
theorem d_Mod_copies_12 : decode b_Mod_copies 12 = .ok (.iaload, 1) := by decide +kernel
theorem d_Mod_copies_13 : decode b_Mod_copies 13 = .ok (.iastore, 1) := by decide +kernel
theorem d_Mod_copies_14 : decode b_Mod_copies 14 = .ok (.iinc 2 1, 3) := by decide +kernel
theorem d_Mod_copies_17 : decode b_Mod_copies 17 = .ok (.goto (-15), 3) := by decide +kernel
theorem d_Mod_copies_20 : decode b_Mod_copies 20 = .ok (.return_, 1) := by decide +kernel
theorem d_Mod_atYard_0 : decode b_Mod_atYard 0 = .ok (.bipush 6, 2) := by decide +kernel
theorem d_Mod_atYard_2 : decode b_Mod_atYard 2 = .ok (.iconst 3, 1) := by decide +kernel
theorem d_Mod_atYard_3 : decode b_Mod_atYard 3 = .ok (.iload_n 0, 1) := by decide +kernel
theorem d_Mod_atYard_4 : decode b_Mod_atYard 4 = .ok (.imul, 1) := by decide +kernel
theorem d_Mod_atYard_5 : decode b_Mod_atYard 5 = .ok (.iadd, 1) := by decide +kernel
theorem d_Mod_atYard_6 : decode b_Mod_atYard 6 = .ok (.iload_n 1, 1) := by decide +kernel
theorem d_Mod_atYard_7 : decode b_Mod_atYard 7 = .ok (.iadd, 1) := by decide +kernel
theorem d_Mod_atYard_8 : decode b_Mod_atYard 8 = .ok (.ireturn, 1) := by decide +kernel
theorem d_Mod_atBody_0 : decode b_Mod_atBody 0 = .ok (.bipush 42, 2) := by decide +kernel
theorem d_Mod_atBody_2 : decode b_Mod_atBody 2 = .ok (.iconst 5, 1) := by decide +kernel
theorem d_Mod_atBody_3 : decode b_Mod_atBody 3 = .ok (.iload_n 0, 1) := by decide +kernel
theorem d_Mod_atBody_4 : decode b_Mod_atBody 4 = .ok (.imul, 1) := by decide +kernel
theorem d_Mod_atBody_5 : decode b_Mod_atBody 5 = .ok (.iadd, 1) := by decide +kernel
theorem d_Mod_atBody_6 : decode b_Mod_atBody 6 = .ok (.iload_n 1, 1) := by decide +kernel
theorem d_Mod_atBody_7 : decode b_Mod_atBody 7 = .ok (.iadd, 1) := by decide +kernel
theorem d_Mod_atBody_8 : decode b_Mod_atBody 8 = .ok (.ireturn, 1) := by decide +kernel
theorem d_Mod_isYard_0 : decode b_Mod_isYard 0 = .ok (.iload_n 1, 1) := by decide +kernel
theorem d_Mod_isYard_1 : decode b_Mod_isYard 1 = .ok (.iconst 0, 1) := by decide +kernel
theorem d_Mod_isYard_2 : decode b_Mod_isYard 2 = .ok (.aload_n 0, 1) := by decide +kernel
theorem d_Mod_isYard_3 : decode b_Mod_isYard 3 = .ok (.getfield 9, 3) := by decide +kernel
theorem d_Mod_isYard_6 : decode b_Mod_isYard 6 = .ok (.iconst 0, 1) := by decide +kernel
theorem d_Mod_isYard_7 : decode b_Mod_isYard 7 = .ok (.iaload, 1) := by decide +kernel
theorem d_Mod_isYard_8 : decode b_Mod_isYard 8 = .ok (.iconst 1, 1) := by decide +kernel
theorem d_Mod_isYard_9 : decode b_Mod_isYard 9 = .ok (.isub, 1) := by decide +kernel
theorem d_Mod_isYard_10 : decode b_Mod_isYard 10 = .ok (.invokestatic 55, 3) := by decide +kernel
theorem d_Mod_isYard_13 : decode b_Mod_isYard 13 = .ok (.ireturn, 1) := by decide +kernel
theorem d_Mod_isBody_0 : decode b_Mod_isBody 0 = .ok (.iload_n 1, 1) := by decide +kernel
theorem d_Mod_isBody_1 : decode b_Mod_isBody 1 = .ok (.iconst 0, 1) := by decide +kernel
theorem d_Mod_isBody_2 : decode b_Mod_isBody 2 = .ok (.aload_n 0, 1) := by decide +kernel
theorem d_Mod_isBody_3 : decode b_Mod_isBody 3 = .ok (.getfield 9, 3) := by decide +kernel
theorem d_Mod_isBody_6 : decode b_Mod_isBody 6 = .ok (.iconst 1, 1) := by decide +kernel
theorem d_Mod_isBody_7 : decode b_Mod_isBody 7 = .ok (.iaload, 1) := by decide +kernel
theorem d_Mod_isBody_8 : decode b_Mod_isBody 8 = .ok (.iconst 1, 1) := by decide +kernel
theorem d_Mod_isBody_9 : decode b_Mod_isBody 9 = .ok (.isub, 1) := by decide +kernel
theorem d_Mod_isBody_10 : decode b_Mod_isBody 10 = .ok (.invokestatic 55, 3) := by decide +kernel
theorem d_Mod_isBody_13 : decode b_Mod_isBody 13 = .ok (.ireturn, 1) := by decide +kernel
theorem d_Mod_of_0 : decode b_Mod_of 0 = .ok (.aload_n 0, 1) := by decide +kernel
theorem d_Mod_of_1 : decode b_Mod_of 1 = .ok (.getfield 9, 3) := by decide +kernel
theorem d_Mod_of_4 : decode b_Mod_of 4 = .ok (.iload_n 1, 1) := by decide +kernel
theorem d_Mod_of_5 : decode b_Mod_of 5 = .ok (.iload_n 2, 1) := by decide +kernel
theorem d_Mod_of_6 : decode b_Mod_of 6 = .ok (.invokestatic 59, 3) := by decide +kernel
theorem d_Mod_of_9 : decode b_Mod_of 9 = .ok (.iaload, 1) := by decide +kernel
theorem d_Mod_of_10 : decode b_Mod_of 10 = .ok (.ireturn, 1) := by decide +kernel
theorem d_Mod_roomOf_0 : decode b_Mod_roomOf 0 = .ok (.aload_n 0, 1) := by decide +kernel
theorem d_Mod_roomOf_1 : decode b_Mod_roomOf 1 = .ok (.getfield 9, 3) := by decide +kernel
theorem d_Mod_roomOf_4 : decode b_Mod_roomOf 4 = .ok (.iload_n 1, 1) := by decide +kernel
theorem d_Mod_roomOf_5 : decode b_Mod_roomOf 5 = .ok (.iconst 1, 1) := by decide +kernel
theorem d_Mod_roomOf_6 : decode b_Mod_roomOf 6 = .ok (.invokestatic 63, 3) := by decide +kernel
theorem d_Mod_roomOf_9 : decode b_Mod_roomOf 9 = .ok (.iaload, 1) := by decide +kernel
theorem d_Mod_roomOf_10 : decode b_Mod_roomOf 10 = .ok (.istore_n 3, 1) := by decide +kernel
theorem d_Mod_roomOf_11 : decode b_Mod_roomOf 11 = .ok (.aload_n 0, 1) := by decide +kernel
theorem d_Mod_roomOf_12 : decode b_Mod_roomOf 12 = .ok (.getfield 9, 3) := by decide +kernel
theorem d_Mod_roomOf_15 : decode b_Mod_roomOf 15 = .ok (.iload_n 1, 1) := by decide +kernel
theorem d_Mod_roomOf_16 : decode b_Mod_roomOf 16 = .ok (.iconst 2, 1) := by decide +kernel
theorem d_Mod_roomOf_17 : decode b_Mod_roomOf 17 = .ok (.invokestatic 63, 3) := by decide +kernel
theorem d_Mod_roomOf_20 : decode b_Mod_roomOf 20 = .ok (.iaload, 1) := by decide +kernel
theorem d_Mod_roomOf_21 : decode b_Mod_roomOf 21 = .ok (.istore 4, 2) := by decide +kernel
theorem d_Mod_roomOf_23 : decode b_Mod_roomOf 23 = .ok (.aload_n 0, 1) := by decide +kernel
theorem d_Mod_roomOf_24 : decode b_Mod_roomOf 24 = .ok (.getfield 9, 3) := by decide +kernel
theorem d_Mod_roomOf_27 : decode b_Mod_roomOf 27 = .ok (.iload_n 1, 1) := by decide +kernel
theorem d_Mod_roomOf_28 : decode b_Mod_roomOf 28 = .ok (.iconst 0, 1) := by decide +kernel
theorem d_Mod_roomOf_29 : decode b_Mod_roomOf 29 = .ok (.invokestatic 63, 3) := by decide +kernel
theorem d_Mod_roomOf_32 : decode b_Mod_roomOf 32 = .ok (.iaload, 1) := by decide +kernel
theorem d_Mod_roomOf_33 : decode b_Mod_roomOf 33 = .ok (.tableswitch 95 1 7 #[43, 48, 48, 95, 59, 75, 88], 43) := by decide +kernel
theorem d_Mod_roomOf_76 : decode b_Mod_roomOf 76 = .ok (.iload 4, 2) := by decide +kernel
theorem d_Mod_roomOf_78 : decode b_Mod_roomOf 78 = .ok (.iconst 4, 1) := by decide +kernel
theorem d_Mod_roomOf_79 : decode b_Mod_roomOf 79 = .ok (.iadd, 1) := by decide +kernel
theorem d_Mod_roomOf_80 : decode b_Mod_roomOf 80 = .ok (.ireturn, 1) := by decide +kernel
theorem d_Mod_roomOf_81 : decode b_Mod_roomOf 81 = .ok (.iconst 0, 1) := by decide +kernel
theorem d_Mod_roomOf_82 : decode b_Mod_roomOf 82 = .ok (.iload 4, 2) := by decide +kernel
theorem d_Mod_roomOf_84 : decode b_Mod_roomOf 84 = .ok (.iload_n 3, 1) := by decide +kernel
theorem d_Mod_roomOf_85 : decode b_Mod_roomOf 85 = .ok (.iconst 3, 1) := by decide +kernel
theorem d_Mod_roomOf_86 : decode b_Mod_roomOf 86 = .ok (.idiv, 1) := by decide +kernel
theorem d_Mod_roomOf_87 : decode b_Mod_roomOf 87 = .ok (.isub, 1) := by decide +kernel
theorem d_Mod_roomOf_88 : decode b_Mod_roomOf 88 = .ok (.invokestatic 66, 3) := by decide +kernel
theorem d_Mod_roomOf_91 : decode b_Mod_roomOf 91 = .ok (.ireturn, 1) := by decide +kernel
theorem d_Mod_roomOf_92 : decode b_Mod_roomOf 92 = .ok (.iconst 0, 1) := by decide +kernel
theorem d_Mod_roomOf_93 : decode b_Mod_roomOf 93 = .ok (.iload 4, 2) := by decide +kernel
theorem d_Mod_roomOf_95 : decode b_Mod_roomOf 95 = .ok (.iload_n 2, 1) := by decide +kernel
theorem d_Mod_roomOf_96 : decode b_Mod_roomOf 96 = .ok (.aload_n 0, 1) := by decide +kernel
theorem d_Mod_roomOf_97 : decode b_Mod_roomOf 97 = .ok (.getfield 9, 3) := by decide +kernel
theorem d_Mod_roomOf_100 : decode b_Mod_roomOf 100 = .ok (.iconst 3, 1) := by decide +kernel
theorem d_Mod_roomOf_101 : decode b_Mod_roomOf 101 = .ok (.iaload, 1) := by decide +kernel
theorem d_Mod_roomOf_102 : decode b_Mod_roomOf 102 = .ok (.imul, 1) := by decide +kernel
theorem d_Mod_roomOf_103 : decode b_Mod_roomOf 103 = .ok (.isub, 1) := by decide +kernel
theorem d_Mod_roomOf_104 : decode b_Mod_roomOf 104 = .ok (.invokestatic 66, 3) := by decide +kernel
theorem d_Mod_roomOf_107 : decode b_Mod_roomOf 107 = .ok (.ireturn, 1) := by decide +kernel
theorem d_Mod_roomOf_108 : decode b_Mod_roomOf 108 = .ok (.iconst 0, 1) := by decide +kernel
theorem d_Mod_roomOf_109 : decode b_Mod_roomOf 109 = .ok (.iload 4, 2) := by decide +kernel
theorem d_Mod_roomOf_111 : decode b_Mod_roomOf 111 = .ok (.iload_n 3, 1) := by decide +kernel
theorem d_Mod_roomOf_112 : decode b_Mod_roomOf 112 = .ok (.iconst 3, 1) := by decide +kernel
theorem d_Mod_roomOf_113 : decode b_Mod_roomOf 113 = .ok (.idiv, 1) := by decide +kernel
theorem d_Mod_roomOf_114 : decode b_Mod_roomOf 114 = .ok (.isub, 1) := by decide +kernel
theorem d_Mod_roomOf_115 : decode b_Mod_roomOf 115 = .ok (.iconst 1, 1) := by decide +kernel
theorem d_Mod_roomOf_116 : decode b_Mod_roomOf 116 = .ok (.isub, 1) := by decide +kernel
theorem d_Mod_roomOf_117 : decode b_Mod_roomOf 117 = .ok (.invokestatic 66, 3) := by decide +kernel
theorem d_Mod_roomOf_120 : decode b_Mod_roomOf 120 = .ok (.ireturn, 1) := by decide +kernel
theorem d_Mod_roomOf_121 : decode b_Mod_roomOf 121 = .ok (.iconst 2, 1) := by decide +kernel
theorem d_Mod_roomOf_122 : decode b_Mod_roomOf 122 = .ok (.iload 4, 2) := by decide +kernel
theorem d_Mod_roomOf_124 : decode b_Mod_roomOf 124 = .ok (.iconst 4, 1) := by decide +kernel
theorem d_Mod_roomOf_125 : decode b_Mod_roomOf 125 = .ok (.iadd, 1) := by decide +kernel
theorem d_Mod_roomOf_126 : decode b_Mod_roomOf 126 = .ok (.imul, 1) := by decide +kernel
theorem d_Mod_roomOf_127 : decode b_Mod_roomOf 127 = .ok (.ireturn, 1) := by decide +kernel
theorem d_Mod_roomOf_128 : decode b_Mod_roomOf 128 = .ok (.iload 4, 2) := by decide +kernel
theorem d_Mod_roomOf_130 : decode b_Mod_roomOf 130 = .ok (.ireturn, 1) := by decide +kernel
theorem d_Mod_minutesOf_0 : decode b_Mod_minutesOf 0 = .ok (.aload_n 0, 1) := by decide +kernel
theorem d_Mod_minutesOf_1 : decode b_Mod_minutesOf 1 = .ok (.getfield 9, 3) := by decide +kernel
theorem d_Mod_minutesOf_4 : decode b_Mod_minutesOf 4 = .ok (.iload_n 1, 1) := by decide +kernel
theorem d_Mod_minutesOf_5 : decode b_Mod_minutesOf 5 = .ok (.iconst 1, 1) := by decide +kernel
theorem d_Mod_minutesOf_6 : decode b_Mod_minutesOf 6 = .ok (.invokestatic 63, 3) := by decide +kernel
theorem d_Mod_minutesOf_9 : decode b_Mod_minutesOf 9 = .ok (.iaload, 1) := by decide +kernel
theorem d_Mod_minutesOf_10 : decode b_Mod_minutesOf 10 = .ok (.istore_n 3, 1) := by decide +kernel
theorem d_Mod_minutesOf_11 : decode b_Mod_minutesOf 11 = .ok (.aload_n 0, 1) := by decide +kernel
theorem d_Mod_minutesOf_12 : decode b_Mod_minutesOf 12 = .ok (.getfield 9, 3) := by decide +kernel
theorem d_Mod_minutesOf_15 : decode b_Mod_minutesOf 15 = .ok (.iload_n 1, 1) := by decide +kernel
theorem d_Mod_minutesOf_16 : decode b_Mod_minutesOf 16 = .ok (.iconst 0, 1) := by decide +kernel
theorem d_Mod_minutesOf_17 : decode b_Mod_minutesOf 17 = .ok (.invokestatic 63, 3) := by decide +kernel
theorem d_Mod_minutesOf_20 : decode b_Mod_minutesOf 20 = .ok (.iaload, 1) := by decide +kernel
theorem d_Mod_minutesOf_21 : decode b_Mod_minutesOf 21 = .ok (.tableswitch 64 1 7 #[43, 45, 45, 49, 64, 59, 43], 43) := by decide +kernel
theorem d_Mod_minutesOf_64 : decode b_Mod_minutesOf 64 = .ok (.iconst 1, 1) := by decide +kernel
theorem d_Mod_minutesOf_65 : decode b_Mod_minutesOf 65 = .ok (.ireturn, 1) := by decide +kernel
theorem d_Mod_minutesOf_66 : decode b_Mod_minutesOf 66 = .ok (.iconst 2, 1) := by decide +kernel
theorem d_Mod_minutesOf_67 : decode b_Mod_minutesOf 67 = .ok (.iload_n 3, 1) := by decide +kernel
theorem d_Mod_minutesOf_68 : decode b_Mod_minutesOf 68 = .ok (.iadd, 1) := by decide +kernel
theorem d_Mod_minutesOf_69 : decode b_Mod_minutesOf 69 = .ok (.ireturn, 1) := by decide +kernel
theorem d_Mod_minutesOf_70 : decode b_Mod_minutesOf 70 = .ok (.iload_n 2, 1) := by decide +kernel
theorem d_Mod_minutesOf_71 : decode b_Mod_minutesOf 71 = .ok (.ifCond .eq 7, 3) := by decide +kernel
theorem d_Mod_minutesOf_74 : decode b_Mod_minutesOf 74 = .ok (.iconst 5, 1) := by decide +kernel
theorem d_Mod_minutesOf_75 : decode b_Mod_minutesOf 75 = .ok (.goto 4, 3) := by decide +kernel
theorem d_Mod_minutesOf_78 : decode b_Mod_minutesOf 78 = .ok (.iconst 1, 1) := by decide +kernel
theorem d_Mod_minutesOf_79 : decode b_Mod_minutesOf 79 = .ok (.ireturn, 1) := by decide +kernel
theorem d_Mod_minutesOf_80 : decode b_Mod_minutesOf 80 = .ok (.bipush 7, 2) := by decide +kernel
theorem d_Mod_minutesOf_82 : decode b_Mod_minutesOf 82 = .ok (.iload_n 3, 1) := by decide +kernel
theorem d_Mod_minutesOf_83 : decode b_Mod_minutesOf 83 = .ok (.iadd, 1) := by decide +kernel
theorem d_Mod_minutesOf_84 : decode b_Mod_minutesOf 84 = .ok (.ireturn, 1) := by decide +kernel
theorem d_Mod_minutesOf_85 : decode b_Mod_minutesOf 85 = .ok (.iconst 2, 1) := by decide +kernel
theorem d_Mod_minutesOf_86 : decode b_Mod_minutesOf 86 = .ok (.ireturn, 1) := by decide +kernel
theorem d_Mod_isFeetFirst_0 : decode b_Mod_isFeetFirst 0 = .ok (.iload_n 0, 1) := by decide +kernel
theorem d_Mod_isFeetFirst_1 : decode b_Mod_isFeetFirst 1 = .ok (.iconst 1, 1) := by decide +kernel
theorem d_Mod_isFeetFirst_2 : decode b_Mod_isFeetFirst 2 = .ok (.if_icmp .le 7, 3) := by decide +kernel
theorem d_Mod_isFeetFirst_5 : decode b_Mod_isFeetFirst 5 = .ok (.iconst 1, 1) := by decide +kernel
theorem d_Mod_isFeetFirst_6 : decode b_Mod_isFeetFirst 6 = .ok (.goto 4, 3) := by decide +kernel
theorem d_Mod_isFeetFirst_9 : decode b_Mod_isFeetFirst 9 = .ok (.iconst 0, 1) := by decide +kernel
theorem d_Mod_isFeetFirst_10 : decode b_Mod_isFeetFirst 10 = .ok (.ireturn, 1) := by decide +kernel
theorem d_Mod_sizeOf_0 : decode b_Mod_sizeOf 0 = .ok (.aload_n 0, 1) := by decide +kernel
theorem d_Mod_sizeOf_1 : decode b_Mod_sizeOf 1 = .ok (.getfield 9, 3) := by decide +kernel
theorem d_Mod_sizeOf_4 : decode b_Mod_sizeOf 4 = .ok (.iload_n 2, 1) := by decide +kernel
theorem d_Mod_sizeOf_5 : decode b_Mod_sizeOf 5 = .ok (.iconst 0, 1) := by decide +kernel
theorem d_Mod_sizeOf_6 : decode b_Mod_sizeOf 6 = .ok (.invokestatic 63, 3) := by decide +kernel
theorem d_Mod_sizeOf_9 : decode b_Mod_sizeOf 9 = .ok (.iaload, 1) := by decide +kernel
theorem d_Mod_sizeOf_10 : decode b_Mod_sizeOf 10 = .ok (.istore 5, 2) := by decide +kernel
theorem d_Mod_sizeOf_12 : decode b_Mod_sizeOf 12 = .ok (.iload 5, 2) := by decide +kernel
theorem d_Mod_sizeOf_14 : decode b_Mod_sizeOf 14 = .ok (.iconst 3, 1) := by decide +kernel
theorem d_Mod_sizeOf_15 : decode b_Mod_sizeOf 15 = .ok (.if_icmp .ne 14, 3) := by decide +kernel
theorem d_Mod_sizeOf_18 : decode b_Mod_sizeOf 18 = .ok (.iload_n 3, 1) := by decide +kernel
theorem d_Mod_sizeOf_19 : decode b_Mod_sizeOf 19 = .ok (.invokestatic 69, 3) := by decide +kernel
theorem d_Mod_sizeOf_22 : decode b_Mod_sizeOf 22 = .ok (.ifCond .ne 7, 3) := by decide +kernel
theorem d_Mod_sizeOf_25 : decode b_Mod_sizeOf 25 = .ok (.iconst 2, 1) := by decide +kernel
theorem d_Mod_sizeOf_26 : decode b_Mod_sizeOf 26 = .ok (.goto 21, 3) := by decide +kernel
theorem d_Mod_sizeOf_29 : decode b_Mod_sizeOf 29 = .ok (.iload 5, 2) := by decide +kernel
theorem d_Mod_sizeOf_31 : decode b_Mod_sizeOf 31 = .ok (.iconst 4, 1) := by decide +kernel
theorem d_Mod_sizeOf_32 : decode b_Mod_sizeOf 32 = .ok (.if_icmp .ne 14, 3) := by decide +kernel
theorem d_Mod_sizeOf_35 : decode b_Mod_sizeOf 35 = .ok (.iload_n 3, 1) := by decide +kernel
theorem d_Mod_sizeOf_36 : decode b_Mod_sizeOf 36 = .ok (.invokestatic 69, 3) := by decide +kernel
theorem d_Mod_sizeOf_39 : decode b_Mod_sizeOf 39 = .ok (.ifCond .eq 7, 3) := by decide +kernel
theorem d_Mod_sizeOf_42 : decode b_Mod_sizeOf 42 = .ok (.iconst 1, 1) := by decide +kernel
theorem d_Mod_sizeOf_43 : decode b_Mod_sizeOf 43 = .ok (.goto 4, 3) := by decide +kernel
theorem d_Mod_sizeOf_46 : decode b_Mod_sizeOf 46 = .ok (.iconst 0, 1) := by decide +kernel
theorem d_Mod_sizeOf_47 : decode b_Mod_sizeOf 47 = .ok (.istore 6, 2) := by decide +kernel
theorem d_Mod_sizeOf_49 : decode b_Mod_sizeOf 49 = .ok (.aload_n 0, 1) := by decide +kernel
theorem d_Mod_sizeOf_50 : decode b_Mod_sizeOf 50 = .ok (.iload_n 1, 1) := by decide +kernel
theorem d_Mod_sizeOf_51 : decode b_Mod_sizeOf 51 = .ok (.iconst 0, 1) := by decide +kernel
theorem d_Mod_sizeOf_52 : decode b_Mod_sizeOf 52 = .ok (.invokevirtual 73, 3) := by decide +kernel
theorem d_Mod_sizeOf_55 : decode b_Mod_sizeOf 55 = .ok (.iload 4, 2) := by decide +kernel
theorem d_Mod_sizeOf_57 : decode b_Mod_sizeOf 57 = .ok (.ifCond .eq 12, 3) := by decide +kernel
theorem d_Mod_sizeOf_60 : decode b_Mod_sizeOf 60 = .ok (.aload_n 0, 1) := by decide +kernel
theorem d_Mod_sizeOf_61 : decode b_Mod_sizeOf 61 = .ok (.iload_n 1, 1) := by decide +kernel
theorem d_Mod_sizeOf_62 : decode b_Mod_sizeOf 62 = .ok (.iconst 1, 1) := by decide +kernel
theorem d_Mod_sizeOf_63 : decode b_Mod_sizeOf 63 = .ok (.invokevirtual 73, 3) := by decide +kernel
theorem d_Mod_sizeOf_66 : decode b_Mod_sizeOf 66 = .ok (.goto 4, 3) := by decide +kernel
theorem d_Mod_sizeOf_69 : decode b_Mod_sizeOf 69 = .ok (.iconst 0, 1) := by decide +kernel
theorem d_Mod_sizeOf_70 : decode b_Mod_sizeOf 70 = .ok (.isub, 1) := by decide +kernel
theorem d_Mod_sizeOf_71 : decode b_Mod_sizeOf 71 = .ok (.aload_n 0, 1) := by decide +kernel
theorem d_Mod_sizeOf_72 : decode b_Mod_sizeOf 72 = .ok (.iload_n 1, 1) := by decide +kernel
theorem d_Mod_sizeOf_73 : decode b_Mod_sizeOf 73 = .ok (.iconst 2, 1) := by decide +kernel
theorem d_Mod_sizeOf_74 : decode b_Mod_sizeOf 74 = .ok (.invokevirtual 73, 3) := by decide +kernel
theorem d_Mod_sizeOf_77 : decode b_Mod_sizeOf 77 = .ok (.iconst 3, 1) := by decide +kernel
theorem d_Mod_sizeOf_78 : decode b_Mod_sizeOf 78 = .ok (.idiv, 1) := by decide +kernel
theorem d_Mod_sizeOf_79 : decode b_Mod_sizeOf 79 = .ok (.iadd, 1) := by decide +kernel
theorem d_Mod_sizeOf_80 : decode b_Mod_sizeOf 80 = .ok (.iload_n 3, 1) := by decide +kernel
theorem d_Mod_sizeOf_81 : decode b_Mod_sizeOf 81 = .ok (.iconst 2, 1) := by decide +kernel
theorem d_Mod_sizeOf_82 : decode b_Mod_sizeOf 82 = .ok (.irem, 1) := by decide +kernel
theorem d_Mod_sizeOf_83 : decode b_Mod_sizeOf 83 = .ok (.ifCond .ne 7, 3) := by decide +kernel
theorem d_Mod_sizeOf_86 : decode b_Mod_sizeOf 86 = .ok (.iconst 1, 1) := by decide +kernel
theorem d_Mod_sizeOf_87 : decode b_Mod_sizeOf 87 = .ok (.goto 4, 3) := by decide +kernel
theorem d_Mod_sizeOf_90 : decode b_Mod_sizeOf 90 = .ok (.iconst 0, 1) := by decide +kernel
theorem d_Mod_sizeOf_91 : decode b_Mod_sizeOf 91 = .ok (.isub, 1) := by decide +kernel
theorem d_Mod_sizeOf_92 : decode b_Mod_sizeOf 92 = .ok (.iload 6, 2) := by decide +kernel
theorem d_Mod_sizeOf_94 : decode b_Mod_sizeOf 94 = .ok (.iadd, 1) := by decide +kernel
theorem d_Mod_sizeOf_95 : decode b_Mod_sizeOf 95 = .ok (.ireturn, 1) := by decide +kernel
theorem d_Mod_sizeNow_0 : decode b_Mod_sizeNow 0 = .ok (.aload_n 0, 1) := by decide +kernel
theorem d_Mod_sizeNow_1 : decode b_Mod_sizeNow 1 = .ok (.iload_n 1, 1) := by decide +kernel
theorem d_Mod_sizeNow_2 : decode b_Mod_sizeNow 2 = .ok (.iload_n 2, 1) := by decide +kernel
theorem d_Mod_sizeNow_3 : decode b_Mod_sizeNow 3 = .ok (.aload_n 0, 1) := by decide +kernel
theorem d_Mod_sizeNow_4 : decode b_Mod_sizeNow 4 = .ok (.iload_n 1, 1) := by decide +kernel
theorem d_Mod_sizeNow_5 : decode b_Mod_sizeNow 5 = .ok (.iconst 4, 1) := by decide +kernel
theorem d_Mod_sizeNow_6 : decode b_Mod_sizeNow 6 = .ok (.invokevirtual 73, 3) := by decide +kernel
theorem d_Mod_sizeNow_9 : decode b_Mod_sizeNow 9 = .ok (.iload_n 3, 1) := by decide +kernel
theorem d_Mod_sizeNow_10 : decode b_Mod_sizeNow 10 = .ok (.invokevirtual 76, 3) := by decide +kernel
theorem d_Mod_sizeNow_13 : decode b_Mod_sizeNow 13 = .ok (.ireturn, 1) := by decide +kernel
theorem d_Mod_hour_0 : decode b_Mod_hour 0 = .ok (.aload_n 0, 1) := by decide +kernel
theorem d_Mod_hour_1 : decode b_Mod_hour 1 = .ok (.getfield 9, 3) := by decide +kernel
theorem d_Mod_hour_4 : decode b_Mod_hour 4 = .ok (.iconst 2, 1) := by decide +kernel
theorem d_Mod_hour_5 : decode b_Mod_hour 5 = .ok (.iaload, 1) := by decide +kernel
theorem d_Mod_hour_6 : decode b_Mod_hour 6 = .ok (.bipush 60, 2) := by decide +kernel
theorem d_Mod_hour_8 : decode b_Mod_hour 8 = .ok (.idiv, 1) := by decide +kernel
theorem d_Mod_hour_9 : decode b_Mod_hour 9 = .ok (.ireturn, 1) := by decide +kernel
theorem d_Mod_fitsIn_0 : decode b_Mod_fitsIn 0 = .ok (.aload_n 0, 1) := by decide +kernel
theorem d_Mod_fitsIn_1 : decode b_Mod_fitsIn 1 = .ok (.iload_n 1, 1) := by decide +kernel
theorem d_Mod_fitsIn_2 : decode b_Mod_fitsIn 2 = .ok (.iload_n 2, 1) := by decide +kernel
theorem d_Mod_fitsIn_3 : decode b_Mod_fitsIn 3 = .ok (.iconst 0, 1) := by decide +kernel
theorem d_Mod_fitsIn_4 : decode b_Mod_fitsIn 4 = .ok (.invokevirtual 80, 3) := by decide +kernel
theorem d_Mod_fitsIn_7 : decode b_Mod_fitsIn 7 = .ok (.aload_n 0, 1) := by decide +kernel
theorem d_Mod_fitsIn_8 : decode b_Mod_fitsIn 8 = .ok (.iload_n 2, 1) := by decide +kernel
theorem d_Mod_fitsIn_9 : decode b_Mod_fitsIn 9 = .ok (.iload_n 3, 1) := by decide +kernel
theorem d_Mod_fitsIn_10 : decode b_Mod_fitsIn 10 = .ok (.invokevirtual 84, 3) := by decide +kernel
theorem d_Mod_fitsIn_13 : decode b_Mod_fitsIn 13 = .ok (.if_icmp .gt 7, 3) := by decide +kernel
theorem d_Mod_fitsIn_16 : decode b_Mod_fitsIn 16 = .ok (.iconst 0, 1) := by decide +kernel
theorem d_Mod_fitsIn_17 : decode b_Mod_fitsIn 17 = .ok (.goto 24, 3) := by decide +kernel
theorem d_Mod_fitsIn_20 : decode b_Mod_fitsIn 20 = .ok (.aload_n 0, 1) := by decide +kernel
theorem d_Mod_fitsIn_21 : decode b_Mod_fitsIn 21 = .ok (.iload_n 1, 1) := by decide +kernel
theorem d_Mod_fitsIn_22 : decode b_Mod_fitsIn 22 = .ok (.iload_n 2, 1) := by decide +kernel
theorem d_Mod_fitsIn_23 : decode b_Mod_fitsIn 23 = .ok (.iconst 1, 1) := by decide +kernel
theorem d_Mod_fitsIn_24 : decode b_Mod_fitsIn 24 = .ok (.invokevirtual 80, 3) := by decide +kernel
theorem d_Mod_fitsIn_27 : decode b_Mod_fitsIn 27 = .ok (.aload_n 0, 1) := by decide +kernel
theorem d_Mod_fitsIn_28 : decode b_Mod_fitsIn 28 = .ok (.iload_n 2, 1) := by decide +kernel
theorem d_Mod_fitsIn_29 : decode b_Mod_fitsIn 29 = .ok (.iload_n 3, 1) := by decide +kernel
theorem d_Mod_fitsIn_30 : decode b_Mod_fitsIn 30 = .ok (.invokevirtual 84, 3) := by decide +kernel
theorem d_Mod_fitsIn_33 : decode b_Mod_fitsIn 33 = .ok (.if_icmp .gt 7, 3) := by decide +kernel
theorem d_Mod_fitsIn_36 : decode b_Mod_fitsIn 36 = .ok (.iconst 1, 1) := by decide +kernel
theorem d_Mod_fitsIn_37 : decode b_Mod_fitsIn 37 = .ok (.goto 4, 3) := by decide +kernel
theorem d_Mod_fitsIn_40 : decode b_Mod_fitsIn 40 = .ok (.iconst 2, 1) := by decide +kernel
theorem d_Mod_fitsIn_41 : decode b_Mod_fitsIn 41 = .ok (.ireturn, 1) := by decide +kernel
theorem d_Mod_goesWay_0 : decode b_Mod_goesWay 0 = .ok (.aload_n 0, 1) := by decide +kernel
theorem d_Mod_goesWay_1 : decode b_Mod_goesWay 1 = .ok (.bipush (-4), 2) := by decide +kernel
theorem d_Mod_goesWay_3 : decode b_Mod_goesWay 3 = .ok (.putfield 87, 3) := by decide +kernel
theorem d_Mod_goesWay_6 : decode b_Mod_goesWay 6 = .ok (.iconst 0, 1) := by decide +kernel
theorem d_Mod_goesWay_7 : decode b_Mod_goesWay 7 = .ok (.istore 4, 2) := by decide +kernel
theorem d_Mod_goesWay_9 : decode b_Mod_goesWay 9 = .ok (.iload 4, 2) := by decide +kernel
theorem d_Mod_goesWay_11 : decode b_Mod_goesWay 11 = .ok (.aload_n 0, 1) := by decide +kernel
theorem d_Mod_goesWay_12 : decode b_Mod_goesWay 12 = .ok (.getfield 9, 3) := by decide +kernel
theorem d_Mod_goesWay_15 : decode b_Mod_goesWay 15 = .ok (.iconst 0, 1) := by decide +kernel
theorem d_Mod_goesWay_16 : decode b_Mod_goesWay 16 = .ok (.iaload, 1) := by decide +kernel
theorem d_Mod_goesWay_17 : decode b_Mod_goesWay 17 = .ok (.if_icmp .ge 145, 3) := by decide +kernel
theorem d_Mod_goesWay_20 : decode b_Mod_goesWay 20 = .ok (.iload_n 2, 1) := by decide +kernel
theorem d_Mod_goesWay_21 : decode b_Mod_goesWay 21 = .ok (.ifCond .eq 17, 3) := by decide +kernel
theorem d_Mod_goesWay_24 : decode b_Mod_goesWay 24 = .ok (.aload_n 0, 1) := by decide +kernel
theorem d_Mod_goesWay_25 : decode b_Mod_goesWay 25 = .ok (.getfield 9, 3) := by decide +kernel
theorem d_Mod_goesWay_28 : decode b_Mod_goesWay 28 = .ok (.iconst 0, 1) := by decide +kernel
theorem d_Mod_goesWay_29 : decode b_Mod_goesWay 29 = .ok (.iaload, 1) := by decide +kernel
theorem d_Mod_goesWay_30 : decode b_Mod_goesWay 30 = .ok (.iconst 1, 1) := by decide +kernel
theorem d_Mod_goesWay_31 : decode b_Mod_goesWay 31 = .ok (.isub, 1) := by decide +kernel
theorem d_Mod_goesWay_32 : decode b_Mod_goesWay 32 = .ok (.iload 4, 2) := by decide +kernel
theorem d_Mod_goesWay_34 : decode b_Mod_goesWay 34 = .ok (.isub, 1) := by decide +kernel
theorem d_Mod_goesWay_35 : decode b_Mod_goesWay 35 = .ok (.goto 5, 3) := by decide +kernel
theorem d_Mod_goesWay_38 : decode b_Mod_goesWay 38 = .ok (.iload 4, 2) := by decide +kernel
theorem d_Mod_goesWay_40 : decode b_Mod_goesWay 40 = .ok (.istore 5, 2) := by decide +kernel
theorem d_Mod_goesWay_42 : decode b_Mod_goesWay 42 = .ok (.aload_n 0, 1) := by decide +kernel
theorem d_Mod_goesWay_43 : decode b_Mod_goesWay 43 = .ok (.iload_n 1, 1) := by decide +kernel
theorem d_Mod_goesWay_44 : decode b_Mod_goesWay 44 = .ok (.iload 5, 2) := by decide +kernel
theorem d_Mod_goesWay_46 : decode b_Mod_goesWay 46 = .ok (.aload_n 0, 1) := by decide +kernel
theorem d_Mod_goesWay_47 : decode b_Mod_goesWay 47 = .ok (.getfield 91, 3) := by decide +kernel
theorem d_Mod_goesWay_50 : decode b_Mod_goesWay 50 = .ok (.bipush 60, 2) := by decide +kernel
theorem d_Mod_goesWay_52 : decode b_Mod_goesWay 52 = .ok (.idiv, 1) := by decide +kernel
theorem d_Mod_goesWay_53 : decode b_Mod_goesWay 53 = .ok (.invokevirtual 94, 3) := by decide +kernel
theorem d_Mod_goesWay_56 : decode b_Mod_goesWay 56 = .ok (.istore 6, 2) := by decide +kernel
theorem d_Mod_goesWay_58 : decode b_Mod_goesWay 58 = .ok (.iload 6, 2) := by decide +kernel
theorem d_Mod_goesWay_60 : decode b_Mod_goesWay 60 = .ok (.iconst 2, 1) := by decide +kernel
theorem d_Mod_goesWay_61 : decode b_Mod_goesWay 61 = .ok (.if_icmp .ne 36, 3) := by decide +kernel
theorem d_Mod_goesWay_64 : decode b_Mod_goesWay 64 = .ok (.aload_n 0, 1) := by decide +kernel
theorem d_Mod_goesWay_65 : decode b_Mod_goesWay 65 = .ok (.iload_n 1, 1) := by decide +kernel
theorem d_Mod_goesWay_66 : decode b_Mod_goesWay 66 = .ok (.iload 5, 2) := by decide +kernel
theorem d_Mod_goesWay_68 : decode b_Mod_goesWay 68 = .ok (.iconst 1, 1) := by decide +kernel
theorem d_Mod_goesWay_69 : decode b_Mod_goesWay 69 = .ok (.invokevirtual 80, 3) := by decide +kernel
theorem d_Mod_goesWay_72 : decode b_Mod_goesWay 72 = .ok (.aload_n 0, 1) := by decide +kernel
theorem d_Mod_goesWay_73 : decode b_Mod_goesWay 73 = .ok (.iload 5, 2) := by decide +kernel
theorem d_Mod_goesWay_75 : decode b_Mod_goesWay 75 = .ok (.aload_n 0, 1) := by decide +kernel
theorem d_Mod_goesWay_76 : decode b_Mod_goesWay 76 = .ok (.getfield 91, 3) := by decide +kernel
theorem d_Mod_goesWay_79 : decode b_Mod_goesWay 79 = .ok (.bipush 60, 2) := by decide +kernel
theorem d_Mod_goesWay_81 : decode b_Mod_goesWay 81 = .ok (.idiv, 1) := by decide +kernel
theorem d_Mod_goesWay_82 : decode b_Mod_goesWay 82 = .ok (.invokevirtual 84, 3) := by decide +kernel
theorem d_Mod_goesWay_85 : decode b_Mod_goesWay 85 = .ok (.isub, 1) := by decide +kernel
theorem d_Mod_goesWay_86 : decode b_Mod_goesWay 86 = .ok (.iload_n 3, 1) := by decide +kernel
theorem d_Mod_goesWay_87 : decode b_Mod_goesWay 87 = .ok (.if_icmp .le 10, 3) := by decide +kernel
theorem d_Mod_goesWay_90 : decode b_Mod_goesWay 90 = .ok (.aload_n 0, 1) := by decide +kernel
theorem d_Mod_goesWay_91 : decode b_Mod_goesWay 91 = .ok (.iload 5, 2) := by decide +kernel
theorem d_Mod_goesWay_93 : decode b_Mod_goesWay 93 = .ok (.putfield 87, 3) := by decide +kernel
theorem d_Mod_goesWay_96 : decode b_Mod_goesWay 96 = .ok (.return_, 1) := by decide +kernel
theorem d_Mod_goesWay_97 : decode b_Mod_goesWay 97 = .ok (.aload_n 0, 1) := by decide +kernel
theorem d_Mod_goesWay_98 : decode b_Mod_goesWay 98 = .ok (.dup, 1) := by decide +kernel
theorem d_Mod_goesWay_99 : decode b_Mod_goesWay 99 = .ok (.getfield 98, 3) := by decide +kernel
theorem d_Mod_goesWay_102 : decode b_Mod_goesWay 102 = .ok (.iload 6, 2) := by decide +kernel
theorem d_Mod_goesWay_104 : decode b_Mod_goesWay 104 = .ok (.iconst 1, 1) := by decide +kernel
theorem d_Mod_goesWay_105 : decode b_Mod_goesWay 105 = .ok (.if_icmp .ne 7, 3) := by decide +kernel
theorem d_Mod_goesWay_108 : decode b_Mod_goesWay 108 = .ok (.iconst 1, 1) := by decide +kernel
theorem d_Mod_goesWay_109 : decode b_Mod_goesWay 109 = .ok (.goto 4, 3) := by decide +kernel
theorem d_Mod_goesWay_112 : decode b_Mod_goesWay 112 = .ok (.iconst 0, 1) := by decide +kernel
theorem d_Mod_goesWay_113 : decode b_Mod_goesWay 113 = .ok (.iadd, 1) := by decide +kernel
theorem d_Mod_goesWay_114 : decode b_Mod_goesWay 114 = .ok (.putfield 98, 3) := by decide +kernel
theorem d_Mod_goesWay_117 : decode b_Mod_goesWay 117 = .ok (.aload_n 0, 1) := by decide +kernel
theorem d_Mod_goesWay_118 : decode b_Mod_goesWay 118 = .ok (.dup, 1) := by decide +kernel
theorem d_Mod_goesWay_119 : decode b_Mod_goesWay 119 = .ok (.getfield 91, 3) := by decide +kernel
theorem d_Mod_goesWay_122 : decode b_Mod_goesWay 122 = .ok (.aload_n 0, 1) := by decide +kernel
theorem d_Mod_goesWay_123 : decode b_Mod_goesWay 123 = .ok (.iload 5, 2) := by decide +kernel
theorem d_Mod_goesWay_125 : decode b_Mod_goesWay 125 = .ok (.iload_n 2, 1) := by decide +kernel
theorem d_Mod_goesWay_126 : decode b_Mod_goesWay 126 = .ok (.invokevirtual 101, 3) := by decide +kernel
theorem d_Mod_goesWay_129 : decode b_Mod_goesWay 129 = .ok (.iload 6, 2) := by decide +kernel
theorem d_Mod_goesWay_131 : decode b_Mod_goesWay 131 = .ok (.iconst 1, 1) := by decide +kernel
theorem d_Mod_goesWay_132 : decode b_Mod_goesWay 132 = .ok (.if_icmp .ne 7, 3) := by decide +kernel
theorem d_Mod_goesWay_135 : decode b_Mod_goesWay 135 = .ok (.iconst 1, 1) := by decide +kernel
theorem d_Mod_goesWay_136 : decode b_Mod_goesWay 136 = .ok (.goto 15, 3) := by decide +kernel
theorem d_Mod_goesWay_139 : decode b_Mod_goesWay 139 = .ok (.iload 6, 2) := by decide +kernel
theorem d_Mod_goesWay_141 : decode b_Mod_goesWay 141 = .ok (.iconst 2, 1) := by decide +kernel
theorem d_Mod_goesWay_142 : decode b_Mod_goesWay 142 = .ok (.if_icmp .ne 8, 3) := by decide +kernel
theorem d_Mod_goesWay_145 : decode b_Mod_goesWay 145 = .ok (.bipush 10, 2) := by decide +kernel
theorem d_Mod_goesWay_147 : decode b_Mod_goesWay 147 = .ok (.goto 4, 3) := by decide +kernel
theorem d_Mod_goesWay_150 : decode b_Mod_goesWay 150 = .ok (.iconst 0, 1) := by decide +kernel
theorem d_Mod_goesWay_151 : decode b_Mod_goesWay 151 = .ok (.iadd, 1) := by decide +kernel
theorem d_Mod_goesWay_152 : decode b_Mod_goesWay 152 = .ok (.iadd, 1) := by decide +kernel
theorem d_Mod_goesWay_153 : decode b_Mod_goesWay 153 = .ok (.putfield 91, 3) := by decide +kernel
theorem d_Mod_goesWay_156 : decode b_Mod_goesWay 156 = .ok (.iinc 4 1, 3) := by decide +kernel
theorem d_Mod_goesWay_159 : decode b_Mod_goesWay 159 = .ok (.goto (-150), 3) := by decide +kernel
theorem d_Mod_goesWay_162 : decode b_Mod_goesWay 162 = .ok (.return_, 1) := by decide +kernel
theorem d_Mod_wayAlone_0 : decode b_Mod_wayAlone 0 = .ok (.aload_n 0, 1) := by decide +kernel
theorem d_Mod_wayAlone_1 : decode b_Mod_wayAlone 1 = .ok (.aload_n 0, 1) := by decide +kernel
theorem d_Mod_wayAlone_2 : decode b_Mod_wayAlone 2 = .ok (.getfield 9, 3) := by decide +kernel
theorem d_Mod_wayAlone_5 : decode b_Mod_wayAlone 5 = .ok (.iconst 2, 1) := by decide +kernel
theorem d_Mod_wayAlone_6 : decode b_Mod_wayAlone 6 = .ok (.iaload, 1) := by decide +kernel
theorem d_Mod_wayAlone_7 : decode b_Mod_wayAlone 7 = .ok (.putfield 91, 3) := by decide +kernel
theorem d_Mod_wayAlone_10 : decode b_Mod_wayAlone 10 = .ok (.aload_n 0, 1) := by decide +kernel
theorem d_Mod_wayAlone_11 : decode b_Mod_wayAlone 11 = .ok (.iconst 0, 1) := by decide +kernel
theorem d_Mod_wayAlone_12 : decode b_Mod_wayAlone 12 = .ok (.putfield 98, 3) := by decide +kernel
theorem d_Mod_wayAlone_15 : decode b_Mod_wayAlone 15 = .ok (.aload_n 0, 1) := by decide +kernel
theorem d_Mod_wayAlone_16 : decode b_Mod_wayAlone 16 = .ok (.iload_n 1, 1) := by decide +kernel
theorem d_Mod_wayAlone_17 : decode b_Mod_wayAlone 17 = .ok (.iload_n 2, 1) := by decide +kernel
theorem d_Mod_wayAlone_18 : decode b_Mod_wayAlone 18 = .ok (.iconst 0, 1) := by decide +kernel
theorem d_Mod_wayAlone_19 : decode b_Mod_wayAlone 19 = .ok (.invokevirtual 105, 3) := by decide +kernel
theorem d_Mod_wayAlone_22 : decode b_Mod_wayAlone 22 = .ok (.return_, 1) := by decide +kernel
theorem d_Mod_lines_0 : decode b_Mod_lines 0 = .ok (.aload_n 0, 1) := by decide +kernel
theorem d_Mod_lines_1 : decode b_Mod_lines 1 = .ok (.iconst 0, 1) := by decide +kernel
theorem d_Mod_lines_2 : decode b_Mod_lines 2 = .ok (.putfield 109, 3) := by decide +kernel
theorem d_Mod_lines_5 : decode b_Mod_lines 5 = .ok (.iconst 0, 1) := by decide +kernel
theorem d_Mod_lines_6 : decode b_Mod_lines 6 = .ok (.istore_n 1, 1) := by decide +kernel
theorem d_Mod_lines_7 : decode b_Mod_lines 7 = .ok (.iload_n 1, 1) := by decide +kernel
theorem d_Mod_lines_8 : decode b_Mod_lines 8 = .ok (.aload_n 0, 1) := by decide +kernel
theorem d_Mod_lines_9 : decode b_Mod_lines 9 = .ok (.getfield 9, 3) := by decide +kernel
theorem d_Mod_lines_12 : decode b_Mod_lines 12 = .ok (.iconst 1, 1) := by decide +kernel
theorem d_Mod_lines_13 : decode b_Mod_lines 13 = .ok (.iaload, 1) := by decide +kernel
theorem d_Mod_lines_14 : decode b_Mod_lines 14 = .ok (.if_icmp .ge 60, 3) := by decide +kernel
theorem d_Mod_lines_17 : decode b_Mod_lines 17 = .ok (.aload_n 0, 1) := by decide +kernel
theorem d_Mod_lines_18 : decode b_Mod_lines 18 = .ok (.getfield 112, 3) := by decide +kernel
theorem d_Mod_lines_21 : decode b_Mod_lines 21 = .ok (.aload_n 0, 1) := by decide +kernel
theorem d_Mod_lines_22 : decode b_Mod_lines 22 = .ok (.getfield 9, 3) := by decide +kernel
theorem d_Mod_lines_25 : decode b_Mod_lines 25 = .ok (.bipush 72, 2) := by decide +kernel
theorem d_Mod_lines_27 : decode b_Mod_lines 27 = .ok (.iload_n 1, 1) := by decide +kernel
theorem d_Mod_lines_28 : decode b_Mod_lines 28 = .ok (.iadd, 1) := by decide +kernel
theorem d_Mod_lines_29 : decode b_Mod_lines 29 = .ok (.iaload, 1) := by decide +kernel
theorem d_Mod_lines_30 : decode b_Mod_lines 30 = .ok (.ishr, 1) := by decide +kernel
theorem d_Mod_lines_31 : decode b_Mod_lines 31 = .ok (.iconst 1, 1) := by decide +kernel
theorem d_Mod_lines_32 : decode b_Mod_lines 32 = .ok (.iand, 1) := by decide +kernel
theorem d_Mod_lines_33 : decode b_Mod_lines 33 = .ok (.iconst 1, 1) := by decide +kernel
theorem d_Mod_lines_34 : decode b_Mod_lines 34 = .ok (.if_icmp .ne 6, 3) := by decide +kernel
theorem d_Mod_lines_37 : decode b_Mod_lines 37 = .ok (.goto 31, 3) := by decide +kernel
theorem d_Mod_lines_40 : decode b_Mod_lines 40 = .ok (.aload_n 0, 1) := by decide +kernel
theorem d_Mod_lines_41 : decode b_Mod_lines 41 = .ok (.getfield 22, 3) := by decide +kernel
theorem d_Mod_lines_44 : decode b_Mod_lines 44 = .ok (.aload_n 0, 1) := by decide +kernel
theorem d_Mod_lines_45 : decode b_Mod_lines 45 = .ok (.getfield 109, 3) := by decide +kernel
theorem d_Mod_lines_48 : decode b_Mod_lines 48 = .ok (.aload_n 0, 1) := by decide +kernel
theorem d_Mod_lines_49 : decode b_Mod_lines 49 = .ok (.getfield 9, 3) := by decide +kernel
theorem d_Mod_lines_52 : decode b_Mod_lines 52 = .ok (.bipush 72, 2) := by decide +kernel
theorem d_Mod_lines_54 : decode b_Mod_lines 54 = .ok (.iload_n 1, 1) := by decide +kernel
theorem d_Mod_lines_55 : decode b_Mod_lines 55 = .ok (.iadd, 1) := by decide +kernel
theorem d_Mod_lines_56 : decode b_Mod_lines 56 = .ok (.iaload, 1) := by decide +kernel
theorem d_Mod_lines_57 : decode b_Mod_lines 57 = .ok (.iastore, 1) := by decide +kernel
theorem d_Mod_lines_58 : decode b_Mod_lines 58 = .ok (.aload_n 0, 1) := by decide +kernel
theorem d_Mod_lines_59 : decode b_Mod_lines 59 = .ok (.dup, 1) := by decide +kernel
theorem d_Mod_lines_60 : decode b_Mod_lines 60 = .ok (.getfield 109, 3) := by decide +kernel
theorem d_Mod_lines_63 : decode b_Mod_lines 63 = .ok (.iconst 1, 1) := by decide +kernel
theorem d_Mod_lines_64 : decode b_Mod_lines 64 = .ok (.iadd, 1) := by decide +kernel
theorem d_Mod_lines_65 : decode b_Mod_lines 65 = .ok (.putfield 109, 3) := by decide +kernel
theorem d_Mod_lines_68 : decode b_Mod_lines 68 = .ok (.iinc 1 1, 3) := by decide +kernel
theorem d_Mod_lines_71 : decode b_Mod_lines 71 = .ok (.goto (-64), 3) := by decide +kernel
theorem d_Mod_lines_74 : decode b_Mod_lines 74 = .ok (.return_, 1) := by decide +kernel
theorem d_Mod_pulled_0 : decode b_Mod_pulled 0 = .ok (.iconst 0, 1) := by decide +kernel
theorem d_Mod_pulled_1 : decode b_Mod_pulled 1 = .ok (.istore_n 3, 1) := by decide +kernel
theorem d_Mod_pulled_2 : decode b_Mod_pulled 2 = .ok (.iload_n 1, 1) := by decide +kernel
theorem d_Mod_pulled_3 : decode b_Mod_pulled 3 = .ok (.istore 4, 2) := by decide +kernel
theorem d_Mod_pulled_5 : decode b_Mod_pulled 5 = .ok (.iload 4, 2) := by decide +kernel
theorem d_Mod_pulled_7 : decode b_Mod_pulled 7 = .ok (.iload_n 2, 1) := by decide +kernel
theorem d_Mod_pulled_8 : decode b_Mod_pulled 8 = .ok (.if_icmp .ge 26, 3) := by decide +kernel
theorem d_Mod_pulled_11 : decode b_Mod_pulled 11 = .ok (.iload_n 3, 1) := by decide +kernel
theorem d_Mod_pulled_12 : decode b_Mod_pulled 12 = .ok (.aload_n 0, 1) := by decide +kernel
theorem d_Mod_pulled_13 : decode b_Mod_pulled 13 = .ok (.aload_n 0, 1) := by decide +kernel
theorem d_Mod_pulled_14 : decode b_Mod_pulled 14 = .ok (.getfield 22, 3) := by decide +kernel
theorem d_Mod_pulled_17 : decode b_Mod_pulled 17 = .ok (.iload 4, 2) := by decide +kernel
theorem d_Mod_pulled_19 : decode b_Mod_pulled 19 = .ok (.iaload, 1) := by decide +kernel
theorem d_Mod_pulled_20 : decode b_Mod_pulled 20 = .ok (.iconst 3, 1) := by decide +kernel
theorem d_Mod_pulled_21 : decode b_Mod_pulled 21 = .ok (.invokevirtual 73, 3) := by decide +kernel
theorem d_Mod_pulled_24 : decode b_Mod_pulled 24 = .ok (.invokestatic 66, 3) := by decide +kernel
theorem d_Mod_pulled_27 : decode b_Mod_pulled 27 = .ok (.istore_n 3, 1) := by decide +kernel
theorem d_Mod_pulled_28 : decode b_Mod_pulled 28 = .ok (.iinc 4 1, 3) := by decide +kernel
theorem d_Mod_pulled_31 : decode b_Mod_pulled 31 = .ok (.goto (-26), 3) := by decide +kernel
theorem d_Mod_pulled_34 : decode b_Mod_pulled 34 = .ok (.iload_n 3, 1) := by decide +kernel
theorem d_Mod_pulled_35 : decode b_Mod_pulled 35 = .ok (.iconst 3, 1) := by decide +kernel
theorem d_Mod_pulled_36 : decode b_Mod_pulled 36 = .ok (.idiv, 1) := by decide +kernel
theorem d_Mod_pulled_37 : decode b_Mod_pulled 37 = .ok (.ireturn, 1) := by decide +kernel
theorem d_Mod_goesThere_0 : decode b_Mod_goesThere 0 = .ok (.aload_n 0, 1) := by decide +kernel
theorem d_Mod_goesThere_1 : decode b_Mod_goesThere 1 = .ok (.invokevirtual 115, 3) := by decide +kernel
theorem d_Mod_goesThere_4 : decode b_Mod_goesThere 4 = .ok (.aload_n 0, 1) := by decide +kernel
theorem d_Mod_goesThere_5 : decode b_Mod_goesThere 5 = .ok (.iconst 0, 1) := by decide +kernel
theorem d_Mod_goesThere_6 : decode b_Mod_goesThere 6 = .ok (.putfield 118, 3) := by decide +kernel
theorem d_Mod_goesThere_9 : decode b_Mod_goesThere 9 = .ok (.aload_n 0, 1) := by decide +kernel
theorem d_Mod_goesThere_10 : decode b_Mod_goesThere 10 = .ok (.bipush (-4), 2) := by decide +kernel
theorem d_Mod_goesThere_12 : decode b_Mod_goesThere 12 = .ok (.putfield 121, 3) := by decide +kernel
theorem d_Mod_goesThere_15 : decode b_Mod_goesThere 15 = .ok (.aload_n 0, 1) := by decide +kernel
theorem d_Mod_goesThere_16 : decode b_Mod_goesThere 16 = .ok (.bipush (-4), 2) := by decide +kernel
theorem d_Mod_goesThere_18 : decode b_Mod_goesThere 18 = .ok (.putfield 124, 3) := by decide +kernel
theorem d_Mod_goesThere_21 : decode b_Mod_goesThere 21 = .ok (.aload_n 0, 1) := by decide +kernel
theorem d_Mod_goesThere_22 : decode b_Mod_goesThere 22 = .ok (.aload_n 0, 1) := by decide +kernel
theorem d_Mod_goesThere_23 : decode b_Mod_goesThere 23 = .ok (.getfield 9, 3) := by decide +kernel
theorem d_Mod_goesThere_26 : decode b_Mod_goesThere 26 = .ok (.iconst 2, 1) := by decide +kernel
theorem d_Mod_goesThere_27 : decode b_Mod_goesThere 27 = .ok (.iaload, 1) := by decide +kernel
theorem d_Mod_goesThere_28 : decode b_Mod_goesThere 28 = .ok (.putfield 91, 3) := by decide +kernel
theorem d_Mod_goesThere_31 : decode b_Mod_goesThere 31 = .ok (.aload_n 0, 1) := by decide +kernel
theorem d_Mod_goesThere_32 : decode b_Mod_goesThere 32 = .ok (.iconst 0, 1) := by decide +kernel
theorem d_Mod_goesThere_33 : decode b_Mod_goesThere 33 = .ok (.putfield 98, 3) := by decide +kernel
theorem d_Mod_goesThere_36 : decode b_Mod_goesThere 36 = .ok (.iconst 0, 1) := by decide +kernel
theorem d_Mod_goesThere_37 : decode b_Mod_goesThere 37 = .ok (.istore_n 1, 1) := by decide +kernel
theorem d_Mod_goesThere_38 : decode b_Mod_goesThere 38 = .ok (.iload_n 1, 1) := by decide +kernel
theorem d_Mod_goesThere_39 : decode b_Mod_goesThere 39 = .ok (.aload_n 0, 1) := by decide +kernel
theorem d_Mod_goesThere_40 : decode b_Mod_goesThere 40 = .ok (.getfield 109, 3) := by decide +kernel
theorem d_Mod_goesThere_43 : decode b_Mod_goesThere 43 = .ok (.if_icmp .ge 120, 3) := by decide +kernel
theorem d_Mod_goesThere_46 : decode b_Mod_goesThere 46 = .ok (.aload_n 0, 1) := by decide +kernel
theorem d_Mod_goesThere_47 : decode b_Mod_goesThere 47 = .ok (.getfield 121, 3) := by decide +kernel
theorem d_Mod_goesThere_50 : decode b_Mod_goesThere 50 = .ok (.ifCond .ge 113, 3) := by decide +kernel
theorem d_Mod_goesThere_53 : decode b_Mod_goesThere 53 = .ok (.iload_n 1, 1) := by decide +kernel
theorem d_Mod_goesThere_54 : decode b_Mod_goesThere 54 = .ok (.iconst 1, 1) := by decide +kernel
theorem d_Mod_goesThere_55 : decode b_Mod_goesThere 55 = .ok (.iadd, 1) := by decide +kernel
theorem d_Mod_goesThere_56 : decode b_Mod_goesThere 56 = .ok (.aload_n 0, 1) := by decide +kernel
theorem d_Mod_goesThere_57 : decode b_Mod_goesThere 57 = .ok (.getfield 109, 3) := by decide +kernel
theorem d_Mod_goesThere_60 : decode b_Mod_goesThere 60 = .ok (.if_icmp .ge 21, 3) := by decide +kernel
theorem d_Mod_goesThere_63 : decode b_Mod_goesThere 63 = .ok (.aload_n 0, 1) := by decide +kernel
theorem d_Mod_goesThere_64 : decode b_Mod_goesThere 64 = .ok (.aload_n 0, 1) := by decide +kernel
theorem d_Mod_goesThere_65 : decode b_Mod_goesThere 65 = .ok (.getfield 22, 3) := by decide +kernel
theorem d_Mod_goesThere_68 : decode b_Mod_goesThere 68 = .ok (.iload_n 1, 1) := by decide +kernel
theorem d_Mod_goesThere_69 : decode b_Mod_goesThere 69 = .ok (.iconst 1, 1) := by decide +kernel
theorem d_Mod_goesThere_70 : decode b_Mod_goesThere 70 = .ok (.iadd, 1) := by decide +kernel
theorem d_Mod_goesThere_71 : decode b_Mod_goesThere 71 = .ok (.iaload, 1) := by decide +kernel
theorem d_Mod_goesThere_72 : decode b_Mod_goesThere 72 = .ok (.iconst 3, 1) := by decide +kernel
theorem d_Mod_goesThere_73 : decode b_Mod_goesThere 73 = .ok (.invokevirtual 73, 3) := by decide +kernel
theorem d_Mod_goesThere_76 : decode b_Mod_goesThere 76 = .ok (.iconst 3, 1) := by decide +kernel
theorem d_Mod_goesThere_77 : decode b_Mod_goesThere 77 = .ok (.idiv, 1) := by decide +kernel
theorem d_Mod_goesThere_78 : decode b_Mod_goesThere 78 = .ok (.goto 4, 3) := by decide +kernel
theorem d_Mod_goesThere_81 : decode b_Mod_goesThere 81 = .ok (.iconst 0, 1) := by decide +kernel
theorem d_Mod_goesThere_82 : decode b_Mod_goesThere 82 = .ok (.istore_n 2, 1) := by decide +kernel
theorem d_Mod_goesThere_83 : decode b_Mod_goesThere 83 = .ok (.aload_n 0, 1) := by decide +kernel
theorem d_Mod_goesThere_84 : decode b_Mod_goesThere 84 = .ok (.aload_n 0, 1) := by decide +kernel
theorem d_Mod_goesThere_85 : decode b_Mod_goesThere 85 = .ok (.getfield 22, 3) := by decide +kernel
theorem d_Mod_goesThere_88 : decode b_Mod_goesThere 88 = .ok (.iload_n 1, 1) := by decide +kernel
theorem d_Mod_goesThere_89 : decode b_Mod_goesThere 89 = .ok (.iaload, 1) := by decide +kernel
theorem d_Mod_goesThere_90 : decode b_Mod_goesThere 90 = .ok (.iconst 0, 1) := by decide +kernel
theorem d_Mod_goesThere_91 : decode b_Mod_goesThere 91 = .ok (.aload_n 0, 1) := by decide +kernel
theorem d_Mod_goesThere_92 : decode b_Mod_goesThere 92 = .ok (.iconst 0, 1) := by decide +kernel
theorem d_Mod_goesThere_93 : decode b_Mod_goesThere 93 = .ok (.iload_n 1, 1) := by decide +kernel
theorem d_Mod_goesThere_94 : decode b_Mod_goesThere 94 = .ok (.invokevirtual 127, 3) := by decide +kernel
theorem d_Mod_goesThere_97 : decode b_Mod_goesThere 97 = .ok (.iload_n 2, 1) := by decide +kernel
theorem d_Mod_goesThere_98 : decode b_Mod_goesThere 98 = .ok (.iadd, 1) := by decide +kernel
theorem d_Mod_goesThere_99 : decode b_Mod_goesThere 99 = .ok (.invokevirtual 105, 3) := by decide +kernel
theorem d_Mod_goesThere_102 : decode b_Mod_goesThere 102 = .ok (.aload_n 0, 1) := by decide +kernel
theorem d_Mod_goesThere_103 : decode b_Mod_goesThere 103 = .ok (.getfield 87, 3) := by decide +kernel
theorem d_Mod_goesThere_106 : decode b_Mod_goesThere 106 = .ok (.ifCond .lt 24, 3) := by decide +kernel
theorem d_Mod_goesThere_109 : decode b_Mod_goesThere 109 = .ok (.aload_n 0, 1) := by decide +kernel
theorem d_Mod_goesThere_110 : decode b_Mod_goesThere 110 = .ok (.aload_n 0, 1) := by decide +kernel
theorem d_Mod_goesThere_111 : decode b_Mod_goesThere 111 = .ok (.getfield 22, 3) := by decide +kernel
theorem d_Mod_goesThere_114 : decode b_Mod_goesThere 114 = .ok (.iload_n 1, 1) := by decide +kernel
theorem d_Mod_goesThere_115 : decode b_Mod_goesThere 115 = .ok (.iaload, 1) := by decide +kernel
theorem d_Mod_goesThere_116 : decode b_Mod_goesThere 116 = .ok (.putfield 121, 3) := by decide +kernel
theorem d_Mod_goesThere_119 : decode b_Mod_goesThere 119 = .ok (.aload_n 0, 1) := by decide +kernel
theorem d_Mod_goesThere_120 : decode b_Mod_goesThere 120 = .ok (.aload_n 0, 1) := by decide +kernel
theorem d_Mod_goesThere_121 : decode b_Mod_goesThere 121 = .ok (.getfield 87, 3) := by decide +kernel
theorem d_Mod_goesThere_124 : decode b_Mod_goesThere 124 = .ok (.putfield 124, 3) := by decide +kernel
theorem d_Mod_goesThere_127 : decode b_Mod_goesThere 127 = .ok (.goto 30, 3) := by decide +kernel
theorem d_Mod_goesThere_130 : decode b_Mod_goesThere 130 = .ok (.aload_n 0, 1) := by decide +kernel
theorem d_Mod_goesThere_131 : decode b_Mod_goesThere 131 = .ok (.dup, 1) := by decide +kernel
theorem d_Mod_goesThere_132 : decode b_Mod_goesThere 132 = .ok (.getfield 118, 3) := by decide +kernel
theorem d_Mod_goesThere_135 : decode b_Mod_goesThere 135 = .ok (.iconst 1, 1) := by decide +kernel
theorem d_Mod_goesThere_136 : decode b_Mod_goesThere 136 = .ok (.aload_n 0, 1) := by decide +kernel
theorem d_Mod_goesThere_137 : decode b_Mod_goesThere 137 = .ok (.getfield 22, 3) := by decide +kernel
theorem d_Mod_goesThere_140 : decode b_Mod_goesThere 140 = .ok (.iload_n 1, 1) := by decide +kernel
theorem d_Mod_goesThere_141 : decode b_Mod_goesThere 141 = .ok (.iaload, 1) := by decide +kernel
theorem d_Mod_goesThere_142 : decode b_Mod_goesThere 142 = .ok (.ishl, 1) := by decide +kernel
theorem d_Mod_goesThere_143 : decode b_Mod_goesThere 143 = .ok (.ior, 1) := by decide +kernel
theorem d_Mod_goesThere_144 : decode b_Mod_goesThere 144 = .ok (.putfield 118, 3) := by decide +kernel
theorem d_Mod_goesThere_147 : decode b_Mod_goesThere 147 = .ok (.aload_n 0, 1) := by decide +kernel
theorem d_Mod_goesThere_148 : decode b_Mod_goesThere 148 = .ok (.getfield 19, 3) := by decide +kernel
theorem d_Mod_goesThere_151 : decode b_Mod_goesThere 151 = .ok (.iload_n 1, 1) := by decide +kernel
theorem d_Mod_goesThere_152 : decode b_Mod_goesThere 152 = .ok (.aload_n 0, 1) := by decide +kernel
theorem d_Mod_goesThere_153 : decode b_Mod_goesThere 153 = .ok (.getfield 91, 3) := by decide +kernel
theorem d_Mod_goesThere_156 : decode b_Mod_goesThere 156 = .ok (.iastore, 1) := by decide +kernel
theorem d_Mod_goesThere_157 : decode b_Mod_goesThere 157 = .ok (.iinc 1 1, 3) := by decide +kernel
theorem d_Mod_goesThere_160 : decode b_Mod_goesThere 160 = .ok (.goto (-122), 3) := by decide +kernel
theorem d_Mod_goesThere_163 : decode b_Mod_goesThere 163 = .ok (.aload_n 0, 1) := by decide +kernel
theorem d_Mod_goesThere_164 : decode b_Mod_goesThere 164 = .ok (.aload_n 0, 1) := by decide +kernel
theorem d_Mod_goesThere_165 : decode b_Mod_goesThere 165 = .ok (.getfield 91, 3) := by decide +kernel
theorem d_Mod_goesThere_168 : decode b_Mod_goesThere 168 = .ok (.putfield 130, 3) := by decide +kernel
theorem d_Mod_goesThere_171 : decode b_Mod_goesThere 171 = .ok (.aload_n 0, 1) := by decide +kernel
theorem d_Mod_goesThere_172 : decode b_Mod_goesThere 172 = .ok (.aload_n 0, 1) := by decide +kernel
theorem d_Mod_goesThere_173 : decode b_Mod_goesThere 173 = .ok (.getfield 98, 3) := by decide +kernel
theorem d_Mod_goesThere_176 : decode b_Mod_goesThere 176 = .ok (.putfield 133, 3) := by decide +kernel
theorem d_Mod_goesThere_179 : decode b_Mod_goesThere 179 = .ok (.return_, 1) := by decide +kernel
theorem d_Mod_goesThereAndBack_0 : decode b_Mod_goesThereAndBack 0 = .ok (.aload_n 0, 1) := by decide +kernel
theorem d_Mod_goesThereAndBack_1 : decode b_Mod_goesThereAndBack 1 = .ok (.invokevirtual 136, 3) := by decide +kernel
theorem d_Mod_goesThereAndBack_4 : decode b_Mod_goesThereAndBack 4 = .ok (.aload_n 0, 1) := by decide +kernel
theorem d_Mod_goesThereAndBack_5 : decode b_Mod_goesThereAndBack 5 = .ok (.iconst 0, 1) := by decide +kernel
theorem d_Mod_goesThereAndBack_6 : decode b_Mod_goesThereAndBack 6 = .ok (.putfield 139, 3) := by decide +kernel
theorem d_Mod_goesThereAndBack_9 : decode b_Mod_goesThereAndBack 9 = .ok (.aload_n 0, 1) := by decide +kernel
theorem d_Mod_goesThereAndBack_10 : decode b_Mod_goesThereAndBack 10 = .ok (.bipush (-4), 2) := by decide +kernel
theorem d_Mod_goesThereAndBack_12 : decode b_Mod_goesThereAndBack 12 = .ok (.putfield 142, 3) := by decide +kernel
theorem d_Mod_goesThereAndBack_15 : decode b_Mod_goesThereAndBack 15 = .ok (.aload_n 0, 1) := by decide +kernel
theorem d_Mod_goesThereAndBack_16 : decode b_Mod_goesThereAndBack 16 = .ok (.aload_n 0, 1) := by decide +kernel
theorem d_Mod_goesThereAndBack_17 : decode b_Mod_goesThereAndBack 17 = .ok (.getfield 130, 3) := by decide +kernel
theorem d_Mod_goesThereAndBack_20 : decode b_Mod_goesThereAndBack 20 = .ok (.putfield 145, 3) := by decide +kernel
theorem d_Mod_goesThereAndBack_23 : decode b_Mod_goesThereAndBack 23 = .ok (.aload_n 0, 1) := by decide +kernel
theorem d_Mod_goesThereAndBack_24 : decode b_Mod_goesThereAndBack 24 = .ok (.getfield 121, 3) := by decide +kernel
theorem d_Mod_goesThereAndBack_27 : decode b_Mod_goesThereAndBack 27 = .ok (.ifCond .lt 4, 3) := by decide +kernel
theorem d_Mod_goesThereAndBack_30 : decode b_Mod_goesThereAndBack 30 = .ok (.return_, 1) := by decide +kernel
theorem d_Mod_goesThereAndBack_31 : decode b_Mod_goesThereAndBack 31 = .ok (.aload_n 0, 1) := by decide +kernel
theorem d_Mod_goesThereAndBack_32 : decode b_Mod_goesThereAndBack 32 = .ok (.getfield 109, 3) := by decide +kernel
theorem d_Mod_goesThereAndBack_35 : decode b_Mod_goesThereAndBack 35 = .ok (.iconst 1, 1) := by decide +kernel
theorem d_Mod_goesThereAndBack_36 : decode b_Mod_goesThereAndBack 36 = .ok (.isub, 1) := by decide +kernel
theorem d_Mod_goesThereAndBack_37 : decode b_Mod_goesThereAndBack 37 = .ok (.istore_n 1, 1) := by decide +kernel
theorem d_Mod_goesThereAndBack_38 : decode b_Mod_goesThereAndBack 38 = .ok (.iload_n 1, 1) := by decide +kernel
theorem d_Mod_goesThereAndBack_39 : decode b_Mod_goesThereAndBack 39 = .ok (.ifCond .lt 101, 3) := by decide +kernel
theorem d_Mod_goesThereAndBack_42 : decode b_Mod_goesThereAndBack 42 = .ok (.aload_n 0, 1) := by decide +kernel
theorem d_Mod_goesThereAndBack_43 : decode b_Mod_goesThereAndBack 43 = .ok (.getfield 142, 3) := by decide +kernel
theorem d_Mod_goesThereAndBack_46 : decode b_Mod_goesThereAndBack 46 = .ok (.ifCond .ge 94, 3) := by decide +kernel
theorem d_Mod_goesThereAndBack_49 : decode b_Mod_goesThereAndBack 49 = .ok (.iload_n 1, 1) := by decide +kernel
theorem d_Mod_goesThereAndBack_50 : decode b_Mod_goesThereAndBack 50 = .ok (.ifCond .le 21, 3) := by decide +kernel
theorem d_Mod_goesThereAndBack_53 : decode b_Mod_goesThereAndBack 53 = .ok (.aload_n 0, 1) := by decide +kernel
theorem d_Mod_goesThereAndBack_54 : decode b_Mod_goesThereAndBack 54 = .ok (.aload_n 0, 1) := by decide +kernel
theorem d_Mod_goesThereAndBack_55 : decode b_Mod_goesThereAndBack 55 = .ok (.getfield 22, 3) := by decide +kernel
theorem d_Mod_goesThereAndBack_58 : decode b_Mod_goesThereAndBack 58 = .ok (.iload_n 1, 1) := by decide +kernel
theorem d_Mod_goesThereAndBack_59 : decode b_Mod_goesThereAndBack 59 = .ok (.iconst 1, 1) := by decide +kernel
theorem d_Mod_goesThereAndBack_60 : decode b_Mod_goesThereAndBack 60 = .ok (.isub, 1) := by decide +kernel
theorem d_Mod_goesThereAndBack_61 : decode b_Mod_goesThereAndBack 61 = .ok (.iaload, 1) := by decide +kernel
theorem d_Mod_goesThereAndBack_62 : decode b_Mod_goesThereAndBack 62 = .ok (.iconst 3, 1) := by decide +kernel
theorem d_Mod_goesThereAndBack_63 : decode b_Mod_goesThereAndBack 63 = .ok (.invokevirtual 73, 3) := by decide +kernel
theorem d_Mod_goesThereAndBack_66 : decode b_Mod_goesThereAndBack 66 = .ok (.iconst 3, 1) := by decide +kernel
theorem d_Mod_goesThereAndBack_67 : decode b_Mod_goesThereAndBack 67 = .ok (.idiv, 1) := by decide +kernel
theorem d_Mod_goesThereAndBack_68 : decode b_Mod_goesThereAndBack 68 = .ok (.goto 4, 3) := by decide +kernel
theorem d_Mod_goesThereAndBack_71 : decode b_Mod_goesThereAndBack 71 = .ok (.iconst 0, 1) := by decide +kernel
theorem d_Mod_goesThereAndBack_72 : decode b_Mod_goesThereAndBack 72 = .ok (.istore_n 2, 1) := by decide +kernel
theorem d_Mod_goesThereAndBack_73 : decode b_Mod_goesThereAndBack 73 = .ok (.aload_n 0, 1) := by decide +kernel
theorem d_Mod_goesThereAndBack_74 : decode b_Mod_goesThereAndBack 74 = .ok (.aload_n 0, 1) := by decide +kernel
theorem d_Mod_goesThereAndBack_75 : decode b_Mod_goesThereAndBack 75 = .ok (.getfield 22, 3) := by decide +kernel
theorem d_Mod_goesThereAndBack_78 : decode b_Mod_goesThereAndBack 78 = .ok (.iload_n 1, 1) := by decide +kernel
theorem d_Mod_goesThereAndBack_79 : decode b_Mod_goesThereAndBack 79 = .ok (.iaload, 1) := by decide +kernel
theorem d_Mod_goesThereAndBack_80 : decode b_Mod_goesThereAndBack 80 = .ok (.iconst 1, 1) := by decide +kernel
theorem d_Mod_goesThereAndBack_81 : decode b_Mod_goesThereAndBack 81 = .ok (.aload_n 0, 1) := by decide +kernel
theorem d_Mod_goesThereAndBack_82 : decode b_Mod_goesThereAndBack 82 = .ok (.iload_n 1, 1) := by decide +kernel
theorem d_Mod_goesThereAndBack_83 : decode b_Mod_goesThereAndBack 83 = .ok (.iconst 1, 1) := by decide +kernel
theorem d_Mod_goesThereAndBack_84 : decode b_Mod_goesThereAndBack 84 = .ok (.iadd, 1) := by decide +kernel
theorem d_Mod_goesThereAndBack_85 : decode b_Mod_goesThereAndBack 85 = .ok (.aload_n 0, 1) := by decide +kernel
theorem d_Mod_goesThereAndBack_86 : decode b_Mod_goesThereAndBack 86 = .ok (.getfield 109, 3) := by decide +kernel
theorem d_Mod_goesThereAndBack_89 : decode b_Mod_goesThereAndBack 89 = .ok (.invokevirtual 127, 3) := by decide +kernel
theorem d_Mod_goesThereAndBack_92 : decode b_Mod_goesThereAndBack 92 = .ok (.iload_n 2, 1) := by decide +kernel
theorem d_Mod_goesThereAndBack_93 : decode b_Mod_goesThereAndBack 93 = .ok (.iadd, 1) := by decide +kernel
theorem d_Mod_goesThereAndBack_94 : decode b_Mod_goesThereAndBack 94 = .ok (.invokevirtual 105, 3) := by decide +kernel
theorem d_Mod_goesThereAndBack_97 : decode b_Mod_goesThereAndBack 97 = .ok (.aload_n 0, 1) := by decide +kernel
theorem d_Mod_goesThereAndBack_98 : decode b_Mod_goesThereAndBack 98 = .ok (.getfield 87, 3) := by decide +kernel
theorem d_Mod_goesThereAndBack_101 : decode b_Mod_goesThereAndBack 101 = .ok (.ifCond .lt 16, 3) := by decide +kernel
theorem d_Mod_goesThereAndBack_104 : decode b_Mod_goesThereAndBack 104 = .ok (.aload_n 0, 1) := by decide +kernel
theorem d_Mod_goesThereAndBack_105 : decode b_Mod_goesThereAndBack 105 = .ok (.aload_n 0, 1) := by decide +kernel
theorem d_Mod_goesThereAndBack_106 : decode b_Mod_goesThereAndBack 106 = .ok (.getfield 22, 3) := by decide +kernel
theorem d_Mod_goesThereAndBack_109 : decode b_Mod_goesThereAndBack 109 = .ok (.iload_n 1, 1) := by decide +kernel
theorem d_Mod_goesThereAndBack_110 : decode b_Mod_goesThereAndBack 110 = .ok (.iaload, 1) := by decide +kernel
theorem d_Mod_goesThereAndBack_111 : decode b_Mod_goesThereAndBack 111 = .ok (.putfield 142, 3) := by decide +kernel
theorem d_Mod_goesThereAndBack_114 : decode b_Mod_goesThereAndBack 114 = .ok (.goto 20, 3) := by decide +kernel
theorem d_Mod_goesThereAndBack_117 : decode b_Mod_goesThereAndBack 117 = .ok (.aload_n 0, 1) := by decide +kernel
theorem d_Mod_goesThereAndBack_118 : decode b_Mod_goesThereAndBack 118 = .ok (.dup, 1) := by decide +kernel
theorem d_Mod_goesThereAndBack_119 : decode b_Mod_goesThereAndBack 119 = .ok (.getfield 139, 3) := by decide +kernel
theorem d_Mod_goesThereAndBack_122 : decode b_Mod_goesThereAndBack 122 = .ok (.iconst 1, 1) := by decide +kernel
theorem d_Mod_goesThereAndBack_123 : decode b_Mod_goesThereAndBack 123 = .ok (.aload_n 0, 1) := by decide +kernel
theorem d_Mod_goesThereAndBack_124 : decode b_Mod_goesThereAndBack 124 = .ok (.getfield 22, 3) := by decide +kernel
theorem d_Mod_goesThereAndBack_127 : decode b_Mod_goesThereAndBack 127 = .ok (.iload_n 1, 1) := by decide +kernel
theorem d_Mod_goesThereAndBack_128 : decode b_Mod_goesThereAndBack 128 = .ok (.iaload, 1) := by decide +kernel
theorem d_Mod_goesThereAndBack_129 : decode b_Mod_goesThereAndBack 129 = .ok (.ishl, 1) := by decide +kernel
theorem d_Mod_goesThereAndBack_130 : decode b_Mod_goesThereAndBack 130 = .ok (.ior, 1) := by decide +kernel
theorem d_Mod_goesThereAndBack_131 : decode b_Mod_goesThereAndBack 131 = .ok (.putfield 139, 3) := by decide +kernel
theorem d_Mod_goesThereAndBack_134 : decode b_Mod_goesThereAndBack 134 = .ok (.iinc 1 (-1), 3) := by decide +kernel
theorem d_Mod_goesThereAndBack_137 : decode b_Mod_goesThereAndBack 137 = .ok (.goto (-99), 3) := by decide +kernel
theorem d_Mod_goesThereAndBack_140 : decode b_Mod_goesThereAndBack 140 = .ok (.aload_n 0, 1) := by decide +kernel
theorem d_Mod_goesThereAndBack_141 : decode b_Mod_goesThereAndBack 141 = .ok (.aload_n 0, 1) := by decide +kernel
theorem d_Mod_goesThereAndBack_142 : decode b_Mod_goesThereAndBack 142 = .ok (.getfield 91, 3) := by decide +kernel
theorem d_Mod_goesThereAndBack_145 : decode b_Mod_goesThereAndBack 145 = .ok (.putfield 145, 3) := by decide +kernel
theorem d_Mod_goesThereAndBack_148 : decode b_Mod_goesThereAndBack 148 = .ok (.return_, 1) := by decide +kernel
theorem d_Mod_bits_0 : decode b_Mod_bits 0 = .ok (.iconst 0, 1) := by decide +kernel
theorem d_Mod_bits_1 : decode b_Mod_bits 1 = .ok (.istore_n 1, 1) := by decide +kernel
theorem d_Mod_bits_2 : decode b_Mod_bits 2 = .ok (.iconst 0, 1) := by decide +kernel
theorem d_Mod_bits_3 : decode b_Mod_bits 3 = .ok (.istore_n 2, 1) := by decide +kernel
theorem d_Mod_bits_4 : decode b_Mod_bits 4 = .ok (.iload_n 2, 1) := by decide +kernel
theorem d_Mod_bits_5 : decode b_Mod_bits 5 = .ok (.bipush 6, 2) := by decide +kernel
theorem d_Mod_bits_7 : decode b_Mod_bits 7 = .ok (.if_icmp .ge 17, 3) := by decide +kernel
theorem d_Mod_bits_10 : decode b_Mod_bits 10 = .ok (.iload_n 1, 1) := by decide +kernel
theorem d_Mod_bits_11 : decode b_Mod_bits 11 = .ok (.iload_n 0, 1) := by decide +kernel
theorem d_Mod_bits_12 : decode b_Mod_bits 12 = .ok (.iload_n 2, 1) := by decide +kernel
theorem d_Mod_bits_13 : decode b_Mod_bits 13 = .ok (.ishr, 1) := by decide +kernel
theorem d_Mod_bits_14 : decode b_Mod_bits 14 = .ok (.iconst 1, 1) := by decide +kernel
theorem d_Mod_bits_15 : decode b_Mod_bits 15 = .ok (.iand, 1) := by decide +kernel
theorem d_Mod_bits_16 : decode b_Mod_bits 16 = .ok (.iadd, 1) := by decide +kernel
theorem d_Mod_bits_17 : decode b_Mod_bits 17 = .ok (.istore_n 1, 1) := by decide +kernel
theorem d_Mod_bits_18 : decode b_Mod_bits 18 = .ok (.iinc 2 1, 3) := by decide +kernel
theorem d_Mod_bits_21 : decode b_Mod_bits 21 = .ok (.goto (-17), 3) := by decide +kernel
theorem d_Mod_bits_24 : decode b_Mod_bits 24 = .ok (.iload_n 1, 1) := by decide +kernel
theorem d_Mod_bits_25 : decode b_Mod_bits 25 = .ok (.ireturn, 1) := by decide +kernel
theorem d_Mod_areAllBack_0 : decode b_Mod_areAllBack 0 = .ok (.aload_n 0, 1) := by decide +kernel
theorem d_Mod_areAllBack_1 : decode b_Mod_areAllBack 1 = .ok (.invokevirtual 148, 3) := by decide +kernel
theorem d_Mod_areAllBack_4 : decode b_Mod_areAllBack 4 = .ok (.aload_n 0, 1) := by decide +kernel
theorem d_Mod_areAllBack_5 : decode b_Mod_areAllBack 5 = .ok (.getfield 139, 3) := by decide +kernel
theorem d_Mod_areAllBack_8 : decode b_Mod_areAllBack 8 = .ok (.invokestatic 151, 3) := by decide +kernel
theorem d_Mod_areAllBack_11 : decode b_Mod_areAllBack 11 = .ok (.aload_n 0, 1) := by decide +kernel
theorem d_Mod_areAllBack_12 : decode b_Mod_areAllBack 12 = .ok (.getfield 109, 3) := by decide +kernel
theorem d_Mod_areAllBack_15 : decode b_Mod_areAllBack 15 = .ok (.if_icmp .ne 7, 3) := by decide +kernel
theorem d_Mod_areAllBack_18 : decode b_Mod_areAllBack 18 = .ok (.iconst 1, 1) := by decide +kernel
theorem d_Mod_areAllBack_19 : decode b_Mod_areAllBack 19 = .ok (.goto 4, 3) := by decide +kernel
theorem d_Mod_areAllBack_22 : decode b_Mod_areAllBack 22 = .ok (.iconst 0, 1) := by decide +kernel
theorem d_Mod_areAllBack_23 : decode b_Mod_areAllBack 23 = .ok (.ireturn, 1) := by decide +kernel
theorem d_Mod_here_0 : decode b_Mod_here 0 = .ok (.aload_n 0, 1) := by decide +kernel
theorem d_Mod_here_1 : decode b_Mod_here 1 = .ok (.getfield 155, 3) := by decide +kernel
theorem d_Mod_here_4 : decode b_Mod_here 4 = .ok (.aload_n 0, 1) := by decide +kernel
theorem d_Mod_here_5 : decode b_Mod_here 5 = .ok (.getfield 158, 3) := by decide +kernel
theorem d_Mod_here_8 : decode b_Mod_here 8 = .ok (.if_icmp .ge 24, 3) := by decide +kernel
theorem d_Mod_here_11 : decode b_Mod_here 11 = .ok (.aload_n 0, 1) := by decide +kernel
theorem d_Mod_here_12 : decode b_Mod_here 12 = .ok (.getfield 52, 3) := by decide +kernel
theorem d_Mod_here_15 : decode b_Mod_here 15 = .ok (.aload_n 0, 1) := by decide +kernel
theorem d_Mod_here_16 : decode b_Mod_here 16 = .ok (.getfield 161, 3) := by decide +kernel
theorem d_Mod_here_19 : decode b_Mod_here 19 = .ok (.aload_n 0, 1) := by decide +kernel
theorem d_Mod_here_20 : decode b_Mod_here 20 = .ok (.getfield 155, 3) := by decide +kernel
theorem d_Mod_here_23 : decode b_Mod_here 23 = .ok (.iadd, 1) := by decide +kernel
theorem d_Mod_here_24 : decode b_Mod_here 24 = .ok (.iaload, 1) := by decide +kernel
theorem d_Mod_here_25 : decode b_Mod_here 25 = .ok (.sipush 255, 3) := by decide +kernel
theorem d_Mod_here_28 : decode b_Mod_here 28 = .ok (.iand, 1) := by decide +kernel
theorem d_Mod_here_29 : decode b_Mod_here 29 = .ok (.goto 4, 3) := by decide +kernel
theorem d_Mod_here_32 : decode b_Mod_here 32 = .ok (.iconst (-1), 1) := by decide +kernel
theorem d_Mod_here_33 : decode b_Mod_here 33 = .ok (.ireturn, 1) := by decide +kernel
set_option maxRecDepth 100000 in
theorem cw_Mod_atBody : CwS y_Mod_atBody b_Mod_atBody 2 (some FieldType.int) 2 := ⟨tbl_at 1157 (by decide +kernel) rfl, tbl_at 57 (by decide +kernel) rfl, tbl_at 1158 rfl rfl, by decide +kernel, by decide +kernel, by decide +kernel⟩
set_option maxRecDepth 100000 in
theorem cw_Mod_atYard : CwS y_Mod_atYard b_Mod_atYard 2 (some FieldType.int) 2 := ⟨tbl_at 1154 (by decide +kernel) rfl, tbl_at 57 (by decide +kernel) rfl, tbl_at 1155 rfl rfl, by decide +kernel, by decide +kernel, by decide +kernel⟩
set_option maxRecDepth 100000 in
theorem cw_Mod_bits : CwS y_Mod_bits b_Mod_bits 3 (some FieldType.int) 1 := ⟨tbl_at 1315 (by decide +kernel) rfl, tbl_at 57 (by decide +kernel) rfl, tbl_at 1316 rfl rfl, by decide +kernel, by decide +kernel, by decide +kernel⟩
set_option maxRecDepth 100000 in
theorem cw_Mod_fitsIn : CwV y_Mod_fitsIn b_Mod_fitsIn 4 (some FieldType.int) 3 := ⟨tbl_at 1247 (by decide +kernel) rfl, tbl_at 33 (by decide +kernel) rfl, tbl_at 57 (by decide +kernel) rfl, tbl_at 1248 rfl rfl, by decide +kernel, by decide +kernel, by decide +kernel⟩
set_option maxRecDepth 100000 in
theorem cw_Mod_goesThere : CwV y_Mod_goesThere b_Mod_goesThere 3 (none) 0 := ⟨tbl_at 1284 (by decide +kernel) rfl, tbl_at 37 (by decide +kernel) rfl, tbl_at 57 (by decide +kernel) rfl, tbl_at 1285 rfl rfl, by decide +kernel, by decide +kernel, by decide +kernel⟩
set_option maxRecDepth 100000 in
theorem cw_Mod_goesThereAndBack : CwV y_Mod_goesThereAndBack b_Mod_goesThereAndBack 3 (none) 0 := ⟨tbl_at 1300 (by decide +kernel) rfl, tbl_at 40 (by decide +kernel) rfl, tbl_at 57 (by decide +kernel) rfl, tbl_at 1301 rfl rfl, by decide +kernel, by decide +kernel, by decide +kernel⟩
set_option maxRecDepth 100000 in
theorem cw_Mod_goesWay : CwV y_Mod_goesWay b_Mod_goesWay 7 (none) 3 := ⟨tbl_at 1263 (by decide +kernel) rfl, tbl_at 36 (by decide +kernel) rfl, tbl_at 57 (by decide +kernel) rfl, tbl_at 1264 rfl rfl, by decide +kernel, by decide +kernel, by decide +kernel⟩
set_option maxRecDepth 100000 in
theorem cw_Mod_isFeetFirst : CwS y_Mod_isFeetFirst b_Mod_isFeetFirst 1 (some FieldType.boolean) 1 := ⟨tbl_at 1239 (by decide +kernel) rfl, tbl_at 57 (by decide +kernel) rfl, tbl_at 1240 rfl rfl, by decide +kernel, by decide +kernel, by decide +kernel⟩
set_option maxRecDepth 100000 in
theorem cw_Mod_isIn : CwS y_Mod_isIn b_Mod_isIn 3 (some FieldType.boolean) 3 := ⟨tbl_at 1128 (by decide +kernel) rfl, tbl_at 57 (by decide +kernel) rfl, tbl_at 1129 rfl rfl, by decide +kernel, by decide +kernel, by decide +kernel⟩
set_option maxRecDepth 100000 in
theorem cw_Mod_lines : CwV y_Mod_lines b_Mod_lines 2 (none) 0 := ⟨tbl_at 1288 (by decide +kernel) rfl, tbl_at 38 (by decide +kernel) rfl, tbl_at 57 (by decide +kernel) rfl, tbl_at 1289 rfl rfl, by decide +kernel, by decide +kernel, by decide +kernel⟩
set_option maxRecDepth 100000 in
theorem cw_Mod_minutesOf : CwV y_Mod_minutesOf b_Mod_minutesOf 4 (some FieldType.int) 2 := ⟨tbl_at 1192 (by decide +kernel) rfl, tbl_at 29 (by decide +kernel) rfl, tbl_at 57 (by decide +kernel) rfl, tbl_at 1193 rfl rfl, by decide +kernel, by decide +kernel, by decide +kernel⟩
set_option maxRecDepth 100000 in
theorem cw_Mod_most : CwS y_Mod_most b_Mod_most 2 (some FieldType.int) 2 := ⟨tbl_at 1188 (by decide +kernel) rfl, tbl_at 57 (by decide +kernel) rfl, tbl_at 1189 rfl rfl, by decide +kernel, by decide +kernel, by decide +kernel⟩
set_option maxRecDepth 100000 in
theorem cw_Mod_of : CwV y_Mod_of b_Mod_of 3 (some FieldType.int) 2 := ⟨tbl_at 1200 (by decide +kernel) rfl, tbl_at 30 (by decide +kernel) rfl, tbl_at 57 (by decide +kernel) rfl, tbl_at 1201 rfl rfl, by decide +kernel, by decide +kernel, by decide +kernel⟩
set_option maxRecDepth 100000 in
theorem cw_Mod_pulled : CwV y_Mod_pulled b_Mod_pulled 5 (some FieldType.int) 2 := ⟨tbl_at 1292 (by decide +kernel) rfl, tbl_at 39 (by decide +kernel) rfl, tbl_at 57 (by decide +kernel) rfl, tbl_at 1293 rfl rfl, by decide +kernel, by decide +kernel, by decide +kernel⟩
set_option maxRecDepth 100000 in
theorem cw_Mod_roomOf : CwV y_Mod_roomOf b_Mod_roomOf 5 (some FieldType.int) 2 := ⟨tbl_at 1185 (by decide +kernel) rfl, tbl_at 28 (by decide +kernel) rfl, tbl_at 57 (by decide +kernel) rfl, tbl_at 1186 rfl rfl, by decide +kernel, by decide +kernel, by decide +kernel⟩
set_option maxRecDepth 100000 in
theorem cw_Mod_sizeNow : CwV y_Mod_sizeNow b_Mod_sizeNow 4 (some FieldType.int) 3 := ⟨tbl_at 1251 (by decide +kernel) rfl, tbl_at 34 (by decide +kernel) rfl, tbl_at 57 (by decide +kernel) rfl, tbl_at 1252 rfl rfl, by decide +kernel, by decide +kernel, by decide +kernel⟩
set_option maxRecDepth 100000 in
theorem cw_Mod_sizeOf : CwV y_Mod_sizeOf b_Mod_sizeOf 7 (some FieldType.int) 4 := ⟨tbl_at 1236 (by decide +kernel) rfl, tbl_at 32 (by decide +kernel) rfl, tbl_at 57 (by decide +kernel) rfl, tbl_at 1237 rfl rfl, by decide +kernel, by decide +kernel, by decide +kernel⟩
theorem fl_Mod_109 : Cond.fieldLink R_Mod 109 "BreatheOutModel" "lineMany" "I" ∈ tbl := tbl_at 1013 (by decide +kernel) rfl
theorem fl_Mod_112 : Cond.fieldLink R_Mod 112 "BreatheOutModel" "away" "I" ∈ tbl := tbl_at 1002 (by decide +kernel) rfl
theorem fl_Mod_118 : Cond.fieldLink R_Mod 118 "BreatheOutModel" "through" "I" ∈ tbl := tbl_at 1003 (by decide +kernel) rfl
theorem fl_Mod_121 : Cond.fieldLink R_Mod 121 "BreatheOutModel" "stuck" "I" ∈ tbl := tbl_at 1004 (by decide +kernel) rfl
theorem fl_Mod_124 : Cond.fieldLink R_Mod 124 "BreatheOutModel" "where" "I" ∈ tbl := tbl_at 1005 (by decide +kernel) rfl
theorem fl_Mod_130 : Cond.fieldLink R_Mod 130 "BreatheOutModel" "goClock" "I" ∈ tbl := tbl_at 1008 (by decide +kernel) rfl
theorem fl_Mod_133 : Cond.fieldLink R_Mod 133 "BreatheOutModel" "goBreaths" "I" ∈ tbl := tbl_at 1009 (by decide +kernel) rfl
theorem fl_Mod_139 : Cond.fieldLink R_Mod 139 "BreatheOutModel" "came" "I" ∈ tbl := tbl_at 1006 (by decide +kernel) rfl
theorem fl_Mod_142 : Cond.fieldLink R_Mod 142 "BreatheOutModel" "stuckBack" "I" ∈ tbl := tbl_at 1007 (by decide +kernel) rfl
theorem fl_Mod_145 : Cond.fieldLink R_Mod 145 "BreatheOutModel" "backClock" "I" ∈ tbl := tbl_at 1010 (by decide +kernel) rfl
theorem fl_Mod_155 : Cond.fieldLink R_Mod 155 "BreatheOutModel" "at" "I" ∈ tbl := tbl_at 1014 (by decide +kernel) rfl
theorem fl_Mod_158 : Cond.fieldLink R_Mod 158 "BreatheOutModel" "rowEnd" "I" ∈ tbl := tbl_at 1016 (by decide +kernel) rfl
theorem fl_Mod_161 : Cond.fieldLink R_Mod 161 "BreatheOutModel" "rowAt" "I" ∈ tbl := tbl_at 1015 (by decide +kernel) rfl
theorem fl_Mod_19 : Cond.fieldLink R_Mod 19 "BreatheOutModel" "throughAt" "[I" ∈ tbl := tbl_at 1011 (by decide +kernel) rfl
theorem fl_Mod_22 : Cond.fieldLink R_Mod 22 "BreatheOutModel" "line" "[I" ∈ tbl := tbl_at 1012 (by decide +kernel) rfl
theorem fl_Mod_52 : Cond.fieldLink R_Mod 52 "BreatheOutModel" "element" "[I" ∈ tbl := tbl_at 1033 (by decide +kernel) rfl
theorem fl_Mod_87 : Cond.fieldLink R_Mod 87 "BreatheOutModel" "stuckAt" "I" ∈ tbl := tbl_at 1001 (by decide +kernel) rfl
theorem fl_Mod_9 : Cond.fieldLink R_Mod 9 "BreatheOutModel" "s" "[I" ∈ tbl := tbl_at 995 (by decide +kernel) rfl
theorem fl_Mod_91 : Cond.fieldLink R_Mod 91 "BreatheOutModel" "clock" "I" ∈ tbl := tbl_at 999 (by decide +kernel) rfl
theorem fl_Mod_98 : Cond.fieldLink R_Mod 98 "BreatheOutModel" "breaths" "I" ∈ tbl := tbl_at 1000 (by decide +kernel) rfl
theorem ml_Mod_101 : Cond.methodLink R_Mod 101 y_Mod_minutesOf ∈ tbl := tbl_at 1190 (by decide +kernel) rfl
theorem ml_Mod_105 : Cond.methodLink R_Mod 105 y_Mod_goesWay ∈ tbl := tbl_at 1261 (by decide +kernel) rfl
theorem ml_Mod_115 : Cond.methodLink R_Mod 115 y_Mod_lines ∈ tbl := tbl_at 1286 (by decide +kernel) rfl
theorem ml_Mod_127 : Cond.methodLink R_Mod 127 y_Mod_pulled ∈ tbl := tbl_at 1290 (by decide +kernel) rfl
theorem ml_Mod_136 : Cond.methodLink R_Mod 136 y_Mod_goesThere ∈ tbl := tbl_at 1282 (by decide +kernel) rfl
theorem ml_Mod_148 : Cond.methodLink R_Mod 148 y_Mod_goesThereAndBack ∈ tbl := tbl_at 1298 (by decide +kernel) rfl
theorem ml_Mod_151 : Cond.methodLink R_Mod 151 y_Mod_bits ∈ tbl := tbl_at 1314 (by decide +kernel) rfl
theorem ml_Mod_55 : Cond.methodLink R_Mod 55 y_Mod_isIn ∈ tbl := tbl_at 1127 (by decide +kernel) rfl
theorem ml_Mod_59 : Cond.methodLink R_Mod 59 y_Mod_atBody ∈ tbl := tbl_at 1156 (by decide +kernel) rfl
theorem ml_Mod_63 : Cond.methodLink R_Mod 63 y_Mod_atYard ∈ tbl := tbl_at 1153 (by decide +kernel) rfl
theorem ml_Mod_66 : Cond.methodLink R_Mod 66 y_Mod_most ∈ tbl := tbl_at 1187 (by decide +kernel) rfl
theorem ml_Mod_69 : Cond.methodLink R_Mod 69 y_Mod_isFeetFirst ∈ tbl := tbl_at 1238 (by decide +kernel) rfl
theorem ml_Mod_73 : Cond.methodLink R_Mod 73 y_Mod_of ∈ tbl := tbl_at 1198 (by decide +kernel) rfl
theorem ml_Mod_76 : Cond.methodLink R_Mod 76 y_Mod_sizeOf ∈ tbl := tbl_at 1234 (by decide +kernel) rfl
theorem ml_Mod_80 : Cond.methodLink R_Mod 80 y_Mod_sizeNow ∈ tbl := tbl_at 1249 (by decide +kernel) rfl
theorem ml_Mod_84 : Cond.methodLink R_Mod 84 y_Mod_roomOf ∈ tbl := tbl_at 1183 (by decide +kernel) rfl
theorem ml_Mod_94 : Cond.methodLink R_Mod 94 y_Mod_fitsIn ∈ tbl := tbl_at 1245 (by decide +kernel) rfl
def vc_Mod_isIn (x0 : Int32) (x1 : Int32) (x2 : Int32) (Q : Bool → Prop) : Prop :=
    ((x0 < x1 → Q false) ∧ (¬ x0 < x1 → ((x2 < x0 → Q false) ∧ (¬ x2 < x0 → Q true))))
def rm_Mod_isIn : Room := { frames := 0, cells := 0, slots := 0, locals := 0 }
set_option maxHeartbeats 4000000 in
set_option maxRecDepth 20000 in
theorem m_Mod_isIn (g : Gx) (hg : gOk g) (x0 : Int32) (x1 : Int32) (x2 : Int32)  (s : St) (Q : Bool → Prop) (hw : vc_Mod_isIn x0 x1 x2 Q) : Mc g y_Mod_isIn b_Mod_isIn 3 (some FieldType.boolean) rm_Mod_isIn [.int x0, .int x1, .int x2] s (fun v s' => ∃ r : Bool, v = some (.int (bi r)) ∧ s = s' ∧ Q r) := by
  refine mc_ofV (j := 0) (L := [some (.int x0), some (.int x1), some (.int x2)]) hg (by decide) (Nat.le_of_ble_eq_true rfl) rfl ?_
  intro X hX C
  subst hX
  unfold vc_Mod_isIn at hw
  refine x_iload_n C d_Mod_isIn_0 rfl ?_
  refine x_iload_n C d_Mod_isIn_1 rfl ?_
  refine x_icmp_lt (tgt := 14) C d_Mod_isIn_2 (by decide) (fun c10 => ?_) (fun c10 => ?_)
  · have hw := hw.1 c10
    refine x_iconst (v := 0) C d_Mod_isIn_14 rfl ?_
    exact x_zreturn (b := false) C d_Mod_isIn_15 ⟨_, rfl, rfl, hw⟩
  · have hw := hw.2 c10
    refine x_iload_n C d_Mod_isIn_5 rfl ?_
    refine x_iload_n C d_Mod_isIn_6 rfl ?_
    refine x_icmp_gt (tgt := 14) C d_Mod_isIn_7 (by decide) (fun c11 => ?_) (fun c11 => ?_)
    · have hw := hw.1 c11
      refine x_iconst (v := 0) C d_Mod_isIn_14 rfl ?_
      exact x_zreturn (b := false) C d_Mod_isIn_15 ⟨_, rfl, rfl, hw⟩
    · have hw := hw.2 c11
      refine x_iconst (v := 1) C d_Mod_isIn_10 rfl ?_
      refine x_goto (tgt := 15) C d_Mod_isIn_11 (by decide) ?_
      exact x_zreturn (b := true) C d_Mod_isIn_15 ⟨_, rfl, rfl, hw⟩
def vc_Mod_least (x0 : Int32) (x1 : Int32) (Q : Int32 → Prop) : Prop :=
    ((x1 ≤ x0 → Q x1) ∧ (¬ x1 ≤ x0 → Q x0))
def rm_Mod_least : Room := { frames := 0, cells := 0, slots := 0, locals := 0 }
set_option maxHeartbeats 4000000 in
set_option maxRecDepth 20000 in
theorem m_Mod_least (g : Gx) (hg : gOk g) (x0 : Int32) (x1 : Int32)  (s : St) (Q : Int32 → Prop) (hw : vc_Mod_least x0 x1 Q) : Mc g y_Mod_least b_Mod_least 2 (some FieldType.int) rm_Mod_least [.int x0, .int x1] s (fun v s' => ∃ r : Int32, v = some (.int r) ∧ s = s' ∧ Q r) := by
  refine mc_ofV (j := 0) (L := [some (.int x0), some (.int x1)]) hg (by decide) (Nat.le_of_ble_eq_true rfl) rfl ?_
  intro X hX C
  subst hX
  unfold vc_Mod_least at hw
  refine x_iload_n C d_Mod_least_0 rfl ?_
  refine x_iload_n C d_Mod_least_1 rfl ?_
  refine x_icmp_ge (tgt := 9) C d_Mod_least_2 (by decide) (fun c10 => ?_) (fun c10 => ?_)
  · have hw := hw.1 c10
    refine x_iload_n C d_Mod_least_9 rfl ?_
    exact x_ireturn C d_Mod_least_10 ⟨_, rfl, rfl, hw⟩
  · have hw := hw.2 c10
    refine x_iload_n C d_Mod_least_5 rfl ?_
    refine x_goto (tgt := 10) C d_Mod_least_6 (by decide) ?_
    exact x_ireturn C d_Mod_least_10 ⟨_, rfl, rfl, hw⟩
def vc_Mod_most (x0 : Int32) (x1 : Int32) (Q : Int32 → Prop) : Prop :=
    ((x0 ≤ x1 → Q x1) ∧ (¬ x0 ≤ x1 → Q x0))
def rm_Mod_most : Room := { frames := 0, cells := 0, slots := 0, locals := 0 }
set_option maxHeartbeats 4000000 in
set_option maxRecDepth 20000 in
theorem m_Mod_most (g : Gx) (hg : gOk g) (x0 : Int32) (x1 : Int32)  (s : St) (Q : Int32 → Prop) (hw : vc_Mod_most x0 x1 Q) : Mc g y_Mod_most b_Mod_most 2 (some FieldType.int) rm_Mod_most [.int x0, .int x1] s (fun v s' => ∃ r : Int32, v = some (.int r) ∧ s = s' ∧ Q r) := by
  refine mc_ofV (j := 0) (L := [some (.int x0), some (.int x1)]) hg (by decide) (Nat.le_of_ble_eq_true rfl) rfl ?_
  intro X hX C
  subst hX
  unfold vc_Mod_most at hw
  refine x_iload_n C d_Mod_most_0 rfl ?_
  refine x_iload_n C d_Mod_most_1 rfl ?_
  refine x_icmp_le (tgt := 9) C d_Mod_most_2 (by decide) (fun c10 => ?_) (fun c10 => ?_)
  · have hw := hw.1 c10
    refine x_iload_n C d_Mod_most_9 rfl ?_
    exact x_ireturn C d_Mod_most_10 ⟨_, rfl, rfl, hw⟩
  · have hw := hw.2 c10
    refine x_iload_n C d_Mod_most_5 rfl ?_
    refine x_goto (tgt := 10) C d_Mod_most_6 (by decide) ?_
    exact x_ireturn C d_Mod_most_10 ⟨_, rfl, rfl, hw⟩
def vc_Mod_copies (p0 : Nat) (n0 : Nat) (p1 : Nat) (n1 : Nat) (s : St) (Q : St → Prop) : Prop :=
    (∃ I12 : Nat → Int32 → St → Prop, (∃ n13, I12 n13 0 s) ∧ ∀ (nI12 : Nat) (x10 : Int32) (s11 : St), I12 nI12 x10 s11 → ((78 ≤ x10 → Q s11) ∧ (¬ 78 ≤ x10 → (vp_in x10 n0 ∧ (vp_in x10 n1 ∧ (∀ s17 : St, s17 = wr s11 p1 (Int32.toNatClampNeg x10) (s11 p0 (Int32.toNatClampNeg x10)) → (∀ x18 : Int32, x18 = x10 + 1 → ∃ m19, m19 < nI12 ∧ I12 m19 x18 s17)))))))
def rm_Mod_copies : Room := { frames := 0, cells := 0, slots := 0, locals := 0 }
set_option maxHeartbeats 4000000 in
set_option maxRecDepth 20000 in
theorem m_Mod_copies (g : Gx) (hg : gOk g) (p0 : Nat) (n0 : Nat) (p1 : Nat) (n1 : Nat) (hk0 : kd p0 = 100 + n0) (hk1 : kd p1 = 100 + n1) (s : St) (Q : St → Prop) (hw : vc_Mod_copies p0 n0 p1 n1 s Q) : Mc g y_Mod_copies b_Mod_copies 3 (none) rm_Mod_copies [.ref (ga g p0), .ref (ga g p1)] s (fun v s' => v = none ∧ Q s') := by
  refine mc_ofV (j := 1) (L := [some (.ref (ga g p0)), some (.ref (ga g p1)), none]) hg (by decide) (Nat.le_of_ble_eq_true rfl) rfl ?_
  intro X hX C
  subst hX
  unfold vc_Mod_copies at hw
  refine x_iconst (v := 0) C d_Mod_copies_0 rfl ?_
  refine x_istore_n (L' := [some (.ref (xa X p0)), some (.ref (xa X p1)), some (.int 0)]) C d_Mod_copies_1 (Nat.le_of_ble_eq_true rfl) rfl ?_
  obtain ⟨I12, ⟨n13, hn13⟩, hI12⟩ := hw
  have lI12 : ∀ (nI12 : Nat) (x10 : Int32) (s11 : St), I12 nI12 x10 s11 → V X (xQ X (fun v s' => v = none ∧ Q s')) 0 0 s11 2 [some (.ref (xa X p0)), some (.ref (xa X p1)), some (.int x10)] [] := by
    intro nI12
    induction nI12 using Nat.strongRecOn with
    | ind nI12 ihI12 =>
      intro x10 s11 hv
      have hw := hI12 nI12 x10 s11 hv
      refine x_iload_n C d_Mod_copies_2 rfl ?_
      refine x_bipush (v := 78) C d_Mod_copies_3 rfl ?_
      refine x_icmp_ge (tgt := 20) C d_Mod_copies_5 (by decide) (fun c14 => ?_) (fun c14 => ?_)
      · have hw := hw.1 c14
        exact x_return C d_Mod_copies_20 ⟨rfl, hw⟩
      · have hw := hw.2 c14
        refine x_aload_n C d_Mod_copies_8 rfl ?_
        refine x_iload_n C d_Mod_copies_9 rfl ?_
        refine x_aload_n C d_Mod_copies_10 rfl ?_
        refine x_iload_n C d_Mod_copies_11 rfl ?_
        obtain ⟨h15, hw⟩ := hw
        refine x_iald (p := p0) (n := n0) C hk0 h15 d_Mod_copies_12 ?_
        obtain ⟨h16, hw⟩ := hw
        refine x_iast (p := p1) (n := n1) C hk1 h16 d_Mod_copies_13 ?_
        refine x_st (fun s17 hs17 => ?_)
        have hw := hw s17 hs17
        obtain ⟨x18, hx18⟩ : ∃ z : Int32, z = x10 + 1 := ⟨_, rfl⟩
        refine x_iinc (v := x18) (L' := [some (.ref (xa X p0)), some (.ref (xa X p1)), some (.int x18)]) C d_Mod_copies_14 (Nat.le_of_ble_eq_true rfl) rfl (by rw [hx18]; rfl) rfl ?_
        have hw := hw x18 hx18
        refine x_goto (tgt := 2) C d_Mod_copies_17 (by decide) ?_
        obtain ⟨m19, hm19, hw⟩ := hw
        exact x_wk (ihI12 m19 hm19 x18 s17 hw) (And.intro rfl (And.intro rfl (And.intro rfl (trivial))))
  exact x_wk (lI12 n13 0 s hn13) (And.intro rfl (And.intro rfl (And.intro rfl (trivial))))
def vc_Mod_atYard (x0 : Int32) (x1 : Int32) (Q : Int32 → Prop) : Prop :=
    Q ((6 + (3 * x0)) + x1)
def rm_Mod_atYard : Room := { frames := 0, cells := 0, slots := 0, locals := 0 }
set_option maxHeartbeats 4000000 in
set_option maxRecDepth 20000 in
theorem m_Mod_atYard (g : Gx) (hg : gOk g) (x0 : Int32) (x1 : Int32)  (s : St) (Q : Int32 → Prop) (hw : vc_Mod_atYard x0 x1 Q) : Mc g y_Mod_atYard b_Mod_atYard 2 (some FieldType.int) rm_Mod_atYard [.int x0, .int x1] s (fun v s' => ∃ r : Int32, v = some (.int r) ∧ s = s' ∧ Q r) := by
  refine mc_ofV (j := 0) (L := [some (.int x0), some (.int x1)]) hg (by decide) (Nat.le_of_ble_eq_true rfl) rfl ?_
  intro X hX C
  subst hX
  unfold vc_Mod_atYard at hw
  refine x_bipush (v := 6) C d_Mod_atYard_0 rfl ?_
  refine x_iconst (v := 3) C d_Mod_atYard_2 rfl ?_
  refine x_iload_n C d_Mod_atYard_3 rfl ?_
  refine x_imul C d_Mod_atYard_4 ?_
  refine x_iadd C d_Mod_atYard_5 ?_
  refine x_iload_n C d_Mod_atYard_6 rfl ?_
  refine x_iadd C d_Mod_atYard_7 ?_
  exact x_ireturn C d_Mod_atYard_8 ⟨_, rfl, rfl, hw⟩
def vc_Mod_atBody (x0 : Int32) (x1 : Int32) (Q : Int32 → Prop) : Prop :=
    Q ((42 + (5 * x0)) + x1)
def rm_Mod_atBody : Room := { frames := 0, cells := 0, slots := 0, locals := 0 }
set_option maxHeartbeats 4000000 in
set_option maxRecDepth 20000 in
theorem m_Mod_atBody (g : Gx) (hg : gOk g) (x0 : Int32) (x1 : Int32)  (s : St) (Q : Int32 → Prop) (hw : vc_Mod_atBody x0 x1 Q) : Mc g y_Mod_atBody b_Mod_atBody 2 (some FieldType.int) rm_Mod_atBody [.int x0, .int x1] s (fun v s' => ∃ r : Int32, v = some (.int r) ∧ s = s' ∧ Q r) := by
  refine mc_ofV (j := 0) (L := [some (.int x0), some (.int x1)]) hg (by decide) (Nat.le_of_ble_eq_true rfl) rfl ?_
  intro X hX C
  subst hX
  unfold vc_Mod_atBody at hw
  refine x_bipush (v := 42) C d_Mod_atBody_0 rfl ?_
  refine x_iconst (v := 5) C d_Mod_atBody_2 rfl ?_
  refine x_iload_n C d_Mod_atBody_3 rfl ?_
  refine x_imul C d_Mod_atBody_4 ?_
  refine x_iadd C d_Mod_atBody_5 ?_
  refine x_iload_n C d_Mod_atBody_6 rfl ?_
  refine x_iadd C d_Mod_atBody_7 ?_
  exact x_ireturn C d_Mod_atBody_8 ⟨_, rfl, rfl, hw⟩
def vc_Mod_isYard (x1 : Int32) (s : St) (Q : Bool → Prop) : Prop :=
    (vp_in 0 78 ∧ vc_Mod_isIn x1 0 ((s 83 (Int32.toNatClampNeg 0)) - 1) (fun b11 => Q b11))
def rm_Mod_isYard : Room := { frames := 1, cells := 0, slots := 0, locals := 22 }
set_option maxHeartbeats 4000000 in
set_option maxRecDepth 20000 in
theorem m_Mod_isYard (g : Gx) (hg : gOk g) (x1 : Int32)  (s : St) (Q : Bool → Prop) (hw : vc_Mod_isYard x1 s Q) : Mc g y_Mod_isYard b_Mod_isYard 2 (some FieldType.boolean) rm_Mod_isYard [.ref (ga g 82), .int x1] s (fun v s' => ∃ r : Bool, v = some (.int (bi r)) ∧ s = s' ∧ Q r) := by
  refine mc_ofV (j := 0) (L := [some (.ref (ga g 82)), some (.int x1)]) hg (by decide) (Nat.le_of_ble_eq_true rfl) rfl ?_
  intro X hX C
  subst hX
  unfold vc_Mod_isYard at hw
  refine x_iload_n C d_Mod_isYard_0 rfl ?_
  refine x_iconst (v := 0) C d_Mod_isYard_1 rfl ?_
  refine x_aload_n C d_Mod_isYard_2 rfl ?_
  refine g_Mod_0 (p := 82) C rfl fl_Mod_9 d_Mod_isYard_3 ?_
  refine x_iconst (v := 0) C d_Mod_isYard_6 rfl ?_
  obtain ⟨h10, hw⟩ := hw
  refine x_iald (p := 83) (n := 78) C rfl h10 d_Mod_isYard_7 ?_
  refine x_iconst (v := 1) C d_Mod_isYard_8 rfl ?_
  refine x_isub C d_Mod_isYard_9 ?_
  refine x_callS (As := [.int x1, .int 0, .int ((s 83 (Int32.toNatClampNeg 0)) - 1)]) (rest := []) C (m_Mod_isIn (xg X) C.2.2.2.2.2.2.1 x1 0 ((s 83 (Int32.toNatClampNeg 0)) - 1) s _ hw) cw_Mod_isIn ml_Mod_55 rfl ⟨rfl, rfl, Nat.le_of_ble_eq_true rfl, Nat.le_of_ble_eq_true rfl⟩ ⟨Nat.zero_le _, Nat.zero_le _⟩ rfl (Nat.le_of_ble_eq_true rfl) d_Mod_isYard_10 ?_
  rintro _ _ ⟨b11, rfl, rfl, hw⟩
  show V X _ _ _ _ 13 [some (.ref (xa X 82)), some (.int x1)] [.int (bi b11)]
  exact x_zreturn (b := b11) C d_Mod_isYard_13 ⟨_, rfl, rfl, hw⟩
def vc_Mod_isBody (x1 : Int32) (s : St) (Q : Bool → Prop) : Prop :=
    (vp_in 1 78 ∧ vc_Mod_isIn x1 0 ((s 83 (Int32.toNatClampNeg 1)) - 1) (fun b11 => Q b11))
def rm_Mod_isBody : Room := { frames := 1, cells := 0, slots := 0, locals := 22 }
set_option maxHeartbeats 4000000 in
set_option maxRecDepth 20000 in
theorem m_Mod_isBody (g : Gx) (hg : gOk g) (x1 : Int32)  (s : St) (Q : Bool → Prop) (hw : vc_Mod_isBody x1 s Q) : Mc g y_Mod_isBody b_Mod_isBody 2 (some FieldType.boolean) rm_Mod_isBody [.ref (ga g 82), .int x1] s (fun v s' => ∃ r : Bool, v = some (.int (bi r)) ∧ s = s' ∧ Q r) := by
  refine mc_ofV (j := 0) (L := [some (.ref (ga g 82)), some (.int x1)]) hg (by decide) (Nat.le_of_ble_eq_true rfl) rfl ?_
  intro X hX C
  subst hX
  unfold vc_Mod_isBody at hw
  refine x_iload_n C d_Mod_isBody_0 rfl ?_
  refine x_iconst (v := 0) C d_Mod_isBody_1 rfl ?_
  refine x_aload_n C d_Mod_isBody_2 rfl ?_
  refine g_Mod_0 (p := 82) C rfl fl_Mod_9 d_Mod_isBody_3 ?_
  refine x_iconst (v := 1) C d_Mod_isBody_6 rfl ?_
  obtain ⟨h10, hw⟩ := hw
  refine x_iald (p := 83) (n := 78) C rfl h10 d_Mod_isBody_7 ?_
  refine x_iconst (v := 1) C d_Mod_isBody_8 rfl ?_
  refine x_isub C d_Mod_isBody_9 ?_
  refine x_callS (As := [.int x1, .int 0, .int ((s 83 (Int32.toNatClampNeg 1)) - 1)]) (rest := []) C (m_Mod_isIn (xg X) C.2.2.2.2.2.2.1 x1 0 ((s 83 (Int32.toNatClampNeg 1)) - 1) s _ hw) cw_Mod_isIn ml_Mod_55 rfl ⟨rfl, rfl, Nat.le_of_ble_eq_true rfl, Nat.le_of_ble_eq_true rfl⟩ ⟨Nat.zero_le _, Nat.zero_le _⟩ rfl (Nat.le_of_ble_eq_true rfl) d_Mod_isBody_10 ?_
  rintro _ _ ⟨b11, rfl, rfl, hw⟩
  show V X _ _ _ _ 13 [some (.ref (xa X 82)), some (.int x1)] [.int (bi b11)]
  exact x_zreturn (b := b11) C d_Mod_isBody_13 ⟨_, rfl, rfl, hw⟩
def vc_Mod_of (x1 : Int32) (x2 : Int32) (s : St) (Q : Int32 → Prop) : Prop :=
    vc_Mod_atBody x1 x2 (fun x10 => (vp_in x10 78 ∧ Q (s 83 (Int32.toNatClampNeg x10))))
def rm_Mod_of : Room := { frames := 1, cells := 0, slots := 0, locals := 21 }
set_option maxHeartbeats 4000000 in
set_option maxRecDepth 20000 in
theorem m_Mod_of (g : Gx) (hg : gOk g) (x1 : Int32) (x2 : Int32)  (s : St) (Q : Int32 → Prop) (hw : vc_Mod_of x1 x2 s Q) : Mc g y_Mod_of b_Mod_of 3 (some FieldType.int) rm_Mod_of [.ref (ga g 82), .int x1, .int x2] s (fun v s' => ∃ r : Int32, v = some (.int r) ∧ s = s' ∧ Q r) := by
  refine mc_ofV (j := 0) (L := [some (.ref (ga g 82)), some (.int x1), some (.int x2)]) hg (by decide) (Nat.le_of_ble_eq_true rfl) rfl ?_
  intro X hX C
  subst hX
  unfold vc_Mod_of at hw
  refine x_aload_n C d_Mod_of_0 rfl ?_
  refine g_Mod_0 (p := 82) C rfl fl_Mod_9 d_Mod_of_1 ?_
  refine x_iload_n C d_Mod_of_4 rfl ?_
  refine x_iload_n C d_Mod_of_5 rfl ?_
  refine x_callS (As := [.int x1, .int x2]) (rest := [.ref (xa X 83)]) C (m_Mod_atBody (xg X) C.2.2.2.2.2.2.1 x1 x2 s _ hw) cw_Mod_atBody ml_Mod_59 rfl ⟨rfl, rfl, Nat.le_of_ble_eq_true rfl, Nat.le_of_ble_eq_true rfl⟩ ⟨Nat.zero_le _, Nat.zero_le _⟩ rfl (Nat.le_of_ble_eq_true rfl) d_Mod_of_6 ?_
  rintro _ _ ⟨x10, rfl, rfl, hw⟩
  show V X _ _ _ _ 9 [some (.ref (xa X 82)), some (.int x1), some (.int x2)] [.int x10, .ref (xa X 83)]
  obtain ⟨h12, hw⟩ := hw
  refine x_iald (p := 83) (n := 78) C rfl h12 d_Mod_of_9 ?_
  exact x_ireturn C d_Mod_of_10 ⟨_, rfl, rfl, hw⟩
def vc_Mod_roomOf (x1 : Int32) (x2 : Int32) (s : St) (Q : Int32 → Prop) : Prop :=
    vc_Mod_atYard x1 1 (fun x10 => (vp_in x10 78 ∧ (∀ x13 : Int32, x13 = s 83 (Int32.toNatClampNeg x10) → vc_Mod_atYard x1 2 (fun x14 => (vp_in x14 78 ∧ (∀ x17 : Int32, x17 = s 83 (Int32.toNatClampNeg x14) → vc_Mod_atYard x1 0 (fun x18 => (vp_in x18 78 ∧ (∃ J21 : Prop, (J21 → vc_Mod_most 0 (x17 - (x13 / 3)) (fun x22 => Q x22)) ∧ (((s 83 (Int32.toNatClampNeg x18)) = 1 → Q (x17 + 4)) ∧ (¬ (s 83 (Int32.toNatClampNeg x18)) = 1 → (((s 83 (Int32.toNatClampNeg x18)) = 2 → J21) ∧ (¬ (s 83 (Int32.toNatClampNeg x18)) = 2 → (((s 83 (Int32.toNatClampNeg x18)) = 3 → J21) ∧ (¬ (s 83 (Int32.toNatClampNeg x18)) = 3 → (((s 83 (Int32.toNatClampNeg x18)) = 5 → (vp_in 3 78 ∧ vc_Mod_most 0 (x17 - (x2 * (s 83 (Int32.toNatClampNeg 3)))) (fun x29 => Q x29))) ∧ (¬ (s 83 (Int32.toNatClampNeg x18)) = 5 → (((s 83 (Int32.toNatClampNeg x18)) = 6 → vc_Mod_most 0 ((x17 - (x13 / 3)) - 1) (fun x32 => Q x32)) ∧ (¬ (s 83 (Int32.toNatClampNeg x18)) = 6 → (((s 83 (Int32.toNatClampNeg x18)) = 7 → Q (2 * (x17 + 4))) ∧ (¬ (s 83 (Int32.toNatClampNeg x18)) = 7 → Q x17)))))))))))))))))))))
def rm_Mod_roomOf : Room := { frames := 1, cells := 0, slots := 0, locals := 21 }
set_option maxHeartbeats 4000000 in
set_option maxRecDepth 20000 in
theorem m_Mod_roomOf (g : Gx) (hg : gOk g) (x1 : Int32) (x2 : Int32)  (s : St) (Q : Int32 → Prop) (hw : vc_Mod_roomOf x1 x2 s Q) : Mc g y_Mod_roomOf b_Mod_roomOf 5 (some FieldType.int) rm_Mod_roomOf [.ref (ga g 82), .int x1, .int x2] s (fun v s' => ∃ r : Int32, v = some (.int r) ∧ s = s' ∧ Q r) := by
  refine mc_ofV (j := 2) (L := [some (.ref (ga g 82)), some (.int x1), some (.int x2), none, none]) hg (by decide) (Nat.le_of_ble_eq_true rfl) rfl ?_
  intro X hX C
  subst hX
  unfold vc_Mod_roomOf at hw
  refine x_aload_n C d_Mod_roomOf_0 rfl ?_
  refine g_Mod_0 (p := 82) C rfl fl_Mod_9 d_Mod_roomOf_1 ?_
  refine x_iload_n C d_Mod_roomOf_4 rfl ?_
  refine x_iconst (v := 1) C d_Mod_roomOf_5 rfl ?_
  refine x_callS (As := [.int x1, .int 1]) (rest := [.ref (xa X 83)]) C (m_Mod_atYard (xg X) C.2.2.2.2.2.2.1 x1 1 s _ hw) cw_Mod_atYard ml_Mod_63 rfl ⟨rfl, rfl, Nat.le_of_ble_eq_true rfl, Nat.le_of_ble_eq_true rfl⟩ ⟨Nat.zero_le _, Nat.zero_le _⟩ rfl (Nat.le_of_ble_eq_true rfl) d_Mod_roomOf_6 ?_
  rintro _ _ ⟨x10, rfl, rfl, hw⟩
  show V X _ _ _ _ 9 [some (.ref (xa X 82)), some (.int x1), some (.int x2), none, none] [.int x10, .ref (xa X 83)]
  obtain ⟨h12, hw⟩ := hw
  refine x_iald (p := 83) (n := 78) C rfl h12 d_Mod_roomOf_9 ?_
  refine x_nm (fun x13 hx13 => ?_)
  have hw := hw x13 hx13
  refine x_istore_n (L' := [some (.ref (xa X 82)), some (.int x1), some (.int x2), some (.int x13), none]) C d_Mod_roomOf_10 (Nat.le_of_ble_eq_true rfl) rfl ?_
  refine x_aload_n C d_Mod_roomOf_11 rfl ?_
  refine g_Mod_0 (p := 82) C rfl fl_Mod_9 d_Mod_roomOf_12 ?_
  refine x_iload_n C d_Mod_roomOf_15 rfl ?_
  refine x_iconst (v := 2) C d_Mod_roomOf_16 rfl ?_
  refine x_callS (As := [.int x1, .int 2]) (rest := [.ref (xa X 83)]) C (m_Mod_atYard (xg X) C.2.2.2.2.2.2.1 x1 2 s _ hw) cw_Mod_atYard ml_Mod_63 rfl ⟨rfl, rfl, Nat.le_of_ble_eq_true rfl, Nat.le_of_ble_eq_true rfl⟩ ⟨Nat.zero_le _, Nat.zero_le _⟩ rfl (Nat.le_of_ble_eq_true rfl) d_Mod_roomOf_17 ?_
  rintro _ _ ⟨x14, rfl, rfl, hw⟩
  show V X _ _ _ _ 20 [some (.ref (xa X 82)), some (.int x1), some (.int x2), some (.int x13), none] [.int x14, .ref (xa X 83)]
  obtain ⟨h16, hw⟩ := hw
  refine x_iald (p := 83) (n := 78) C rfl h16 d_Mod_roomOf_20 ?_
  refine x_nm (fun x17 hx17 => ?_)
  have hw := hw x17 hx17
  refine x_istore (L' := [some (.ref (xa X 82)), some (.int x1), some (.int x2), some (.int x13), some (.int x17)]) C d_Mod_roomOf_21 (Nat.le_of_ble_eq_true rfl) rfl ?_
  refine x_aload_n C d_Mod_roomOf_23 rfl ?_
  refine g_Mod_0 (p := 82) C rfl fl_Mod_9 d_Mod_roomOf_24 ?_
  refine x_iload_n C d_Mod_roomOf_27 rfl ?_
  refine x_iconst (v := 0) C d_Mod_roomOf_28 rfl ?_
  refine x_callS (As := [.int x1, .int 0]) (rest := [.ref (xa X 83)]) C (m_Mod_atYard (xg X) C.2.2.2.2.2.2.1 x1 0 s _ hw) cw_Mod_atYard ml_Mod_63 rfl ⟨rfl, rfl, Nat.le_of_ble_eq_true rfl, Nat.le_of_ble_eq_true rfl⟩ ⟨Nat.zero_le _, Nat.zero_le _⟩ rfl (Nat.le_of_ble_eq_true rfl) d_Mod_roomOf_29 ?_
  rintro _ _ ⟨x18, rfl, rfl, hw⟩
  show V X _ _ _ _ 32 [some (.ref (xa X 82)), some (.int x1), some (.int x2), some (.int x13), some (.int x17)] [.int x18, .ref (xa X 83)]
  obtain ⟨h20, hw⟩ := hw
  refine x_iald (p := 83) (n := 78) C rfl h20 d_Mod_roomOf_32 ?_
  obtain ⟨J21, hJ21, hw⟩ := hw
  have kJ21 : J21 → V X (xQ X (fun v s' => ∃ r : Int32, v = some (.int r) ∧ s = s' ∧ Q r)) 0 0 s 81 [some (.ref (xa X 82)), some (.int x1), some (.int x2), some (.int x13), some (.int x17)] [] := by
    intro  hv
    have hw := hJ21  hv
    refine x_iconst (v := 0) C d_Mod_roomOf_81 rfl ?_
    refine x_iload C d_Mod_roomOf_82 rfl ?_
    refine x_iload_n C d_Mod_roomOf_84 rfl ?_
    refine x_iconst (v := 3) C d_Mod_roomOf_85 rfl ?_
    refine x_idiv C d_Mod_roomOf_86 (by decide) ?_
    refine x_isub C d_Mod_roomOf_87 ?_
    refine x_callS (As := [.int 0, .int (x17 - (x13 / 3))]) (rest := []) C (m_Mod_most (xg X) C.2.2.2.2.2.2.1 0 (x17 - (x13 / 3)) s _ hw) cw_Mod_most ml_Mod_66 rfl ⟨rfl, rfl, Nat.le_of_ble_eq_true rfl, Nat.le_of_ble_eq_true rfl⟩ ⟨Nat.zero_le _, Nat.zero_le _⟩ rfl (Nat.le_of_ble_eq_true rfl) d_Mod_roomOf_88 ?_
    rintro _ _ ⟨x22, rfl, rfl, hw⟩
    show V X _ _ _ _ 91 [some (.ref (xa X 82)), some (.int x1), some (.int x2), some (.int x13), some (.int x17)] [.int x22]
    exact x_ireturn C d_Mod_roomOf_91 ⟨_, rfl, rfl, hw⟩
  by_cases c24 : (s 83 (Int32.toNatClampNeg x18)) = 1
  · have hw := hw.1 c24
    refine x_tswIn (v := 1) (off := 43) (tgt := 76) C d_Mod_roomOf_33 c24 (by decide) (by decide) rfl (by decide) ?_
    refine x_iload C d_Mod_roomOf_76 rfl ?_
    refine x_iconst (v := 4) C d_Mod_roomOf_78 rfl ?_
    refine x_iadd C d_Mod_roomOf_79 ?_
    exact x_ireturn C d_Mod_roomOf_80 ⟨_, rfl, rfl, hw⟩
  have hw := hw.2 c24
  by_cases c25 : (s 83 (Int32.toNatClampNeg x18)) = 2
  · have hw := hw.1 c25
    refine x_tswIn (v := 2) (off := 48) (tgt := 81) C d_Mod_roomOf_33 c25 (by decide) (by decide) rfl (by decide) ?_
    exact x_wk (kJ21  hw) (And.intro rfl (And.intro rfl (And.intro rfl (And.intro rfl (And.intro rfl (trivial))))))
  have hw := hw.2 c25
  by_cases c26 : (s 83 (Int32.toNatClampNeg x18)) = 3
  · have hw := hw.1 c26
    refine x_tswIn (v := 3) (off := 48) (tgt := 81) C d_Mod_roomOf_33 c26 (by decide) (by decide) rfl (by decide) ?_
    exact x_wk (kJ21  hw) (And.intro rfl (And.intro rfl (And.intro rfl (And.intro rfl (And.intro rfl (trivial))))))
  have hw := hw.2 c26
  by_cases c27 : (s 83 (Int32.toNatClampNeg x18)) = 5
  · have hw := hw.1 c27
    refine x_tswIn (v := 5) (off := 59) (tgt := 92) C d_Mod_roomOf_33 c27 (by decide) (by decide) rfl (by decide) ?_
    refine x_iconst (v := 0) C d_Mod_roomOf_92 rfl ?_
    refine x_iload C d_Mod_roomOf_93 rfl ?_
    refine x_iload_n C d_Mod_roomOf_95 rfl ?_
    refine x_aload_n C d_Mod_roomOf_96 rfl ?_
    refine g_Mod_0 (p := 82) C rfl fl_Mod_9 d_Mod_roomOf_97 ?_
    refine x_iconst (v := 3) C d_Mod_roomOf_100 rfl ?_
    obtain ⟨h28, hw⟩ := hw
    refine x_iald (p := 83) (n := 78) C rfl h28 d_Mod_roomOf_101 ?_
    refine x_imul C d_Mod_roomOf_102 ?_
    refine x_isub C d_Mod_roomOf_103 ?_
    refine x_callS (As := [.int 0, .int (x17 - (x2 * (s 83 (Int32.toNatClampNeg 3))))]) (rest := []) C (m_Mod_most (xg X) C.2.2.2.2.2.2.1 0 (x17 - (x2 * (s 83 (Int32.toNatClampNeg 3)))) s _ hw) cw_Mod_most ml_Mod_66 rfl ⟨rfl, rfl, Nat.le_of_ble_eq_true rfl, Nat.le_of_ble_eq_true rfl⟩ ⟨Nat.zero_le _, Nat.zero_le _⟩ rfl (Nat.le_of_ble_eq_true rfl) d_Mod_roomOf_104 ?_
    rintro _ _ ⟨x29, rfl, rfl, hw⟩
    show V X _ _ _ _ 107 [some (.ref (xa X 82)), some (.int x1), some (.int x2), some (.int x13), some (.int x17)] [.int x29]
    exact x_ireturn C d_Mod_roomOf_107 ⟨_, rfl, rfl, hw⟩
  have hw := hw.2 c27
  by_cases c31 : (s 83 (Int32.toNatClampNeg x18)) = 6
  · have hw := hw.1 c31
    refine x_tswIn (v := 6) (off := 75) (tgt := 108) C d_Mod_roomOf_33 c31 (by decide) (by decide) rfl (by decide) ?_
    refine x_iconst (v := 0) C d_Mod_roomOf_108 rfl ?_
    refine x_iload C d_Mod_roomOf_109 rfl ?_
    refine x_iload_n C d_Mod_roomOf_111 rfl ?_
    refine x_iconst (v := 3) C d_Mod_roomOf_112 rfl ?_
    refine x_idiv C d_Mod_roomOf_113 (by decide) ?_
    refine x_isub C d_Mod_roomOf_114 ?_
    refine x_iconst (v := 1) C d_Mod_roomOf_115 rfl ?_
    refine x_isub C d_Mod_roomOf_116 ?_
    refine x_callS (As := [.int 0, .int ((x17 - (x13 / 3)) - 1)]) (rest := []) C (m_Mod_most (xg X) C.2.2.2.2.2.2.1 0 ((x17 - (x13 / 3)) - 1) s _ hw) cw_Mod_most ml_Mod_66 rfl ⟨rfl, rfl, Nat.le_of_ble_eq_true rfl, Nat.le_of_ble_eq_true rfl⟩ ⟨Nat.zero_le _, Nat.zero_le _⟩ rfl (Nat.le_of_ble_eq_true rfl) d_Mod_roomOf_117 ?_
    rintro _ _ ⟨x32, rfl, rfl, hw⟩
    show V X _ _ _ _ 120 [some (.ref (xa X 82)), some (.int x1), some (.int x2), some (.int x13), some (.int x17)] [.int x32]
    exact x_ireturn C d_Mod_roomOf_120 ⟨_, rfl, rfl, hw⟩
  have hw := hw.2 c31
  by_cases c34 : (s 83 (Int32.toNatClampNeg x18)) = 7
  · have hw := hw.1 c34
    refine x_tswIn (v := 7) (off := 88) (tgt := 121) C d_Mod_roomOf_33 c34 (by decide) (by decide) rfl (by decide) ?_
    refine x_iconst (v := 2) C d_Mod_roomOf_121 rfl ?_
    refine x_iload C d_Mod_roomOf_122 rfl ?_
    refine x_iconst (v := 4) C d_Mod_roomOf_124 rfl ?_
    refine x_iadd C d_Mod_roomOf_125 ?_
    refine x_imul C d_Mod_roomOf_126 ?_
    exact x_ireturn C d_Mod_roomOf_127 ⟨_, rfl, rfl, hw⟩
  have hw := hw.2 c34
  refine x_tswD (tgt := 128) C d_Mod_roomOf_33 (fun j hj => by match j, hj with | 0, _ => exact Or.inr c24 | 1, _ => exact Or.inr c25 | 2, _ => exact Or.inr c26 | 3, _ => exact Or.inl rfl | 4, _ => exact Or.inr c27 | 5, _ => exact Or.inr c31 | 6, _ => exact Or.inr c34 | j + 7, hj => exact absurd hj (by omega)) (by decide) ?_
  refine x_iload C d_Mod_roomOf_128 rfl ?_
  exact x_ireturn C d_Mod_roomOf_130 ⟨_, rfl, rfl, hw⟩
def vc_Mod_minutesOf (x1 : Int32) (x2 : Int32) (s : St) (Q : Int32 → Prop) : Prop :=
    vc_Mod_atYard x1 1 (fun x10 => (vp_in x10 78 ∧ (∀ x13 : Int32, x13 = s 83 (Int32.toNatClampNeg x10) → vc_Mod_atYard x1 0 (fun x14 => (vp_in x14 78 ∧ (∃ J17 : Prop, (J17 → Q (2 + x13)) ∧ (((s 83 (Int32.toNatClampNeg x14)) = 1 → Q 1) ∧ (¬ (s 83 (Int32.toNatClampNeg x14)) = 1 → (((s 83 (Int32.toNatClampNeg x14)) = 2 → J17) ∧ (¬ (s 83 (Int32.toNatClampNeg x14)) = 2 → (((s 83 (Int32.toNatClampNeg x14)) = 3 → J17) ∧ (¬ (s 83 (Int32.toNatClampNeg x14)) = 3 → (((s 83 (Int32.toNatClampNeg x14)) = 4 → ((x2 = 0 → Q 1) ∧ (¬ x2 = 0 → Q 5))) ∧ (¬ (s 83 (Int32.toNatClampNeg x14)) = 4 → (((s 83 (Int32.toNatClampNeg x14)) = 6 → Q (7 + x13)) ∧ (¬ (s 83 (Int32.toNatClampNeg x14)) = 6 → (((s 83 (Int32.toNatClampNeg x14)) = 7 → Q 1) ∧ (¬ (s 83 (Int32.toNatClampNeg x14)) = 7 → Q 2))))))))))))))))))
def rm_Mod_minutesOf : Room := { frames := 1, cells := 0, slots := 0, locals := 21 }
set_option maxHeartbeats 4000000 in
set_option maxRecDepth 20000 in
theorem m_Mod_minutesOf (g : Gx) (hg : gOk g) (x1 : Int32) (x2 : Int32)  (s : St) (Q : Int32 → Prop) (hw : vc_Mod_minutesOf x1 x2 s Q) : Mc g y_Mod_minutesOf b_Mod_minutesOf 4 (some FieldType.int) rm_Mod_minutesOf [.ref (ga g 82), .int x1, .int x2] s (fun v s' => ∃ r : Int32, v = some (.int r) ∧ s = s' ∧ Q r) := by
  refine mc_ofV (j := 1) (L := [some (.ref (ga g 82)), some (.int x1), some (.int x2), none]) hg (by decide) (Nat.le_of_ble_eq_true rfl) rfl ?_
  intro X hX C
  subst hX
  unfold vc_Mod_minutesOf at hw
  refine x_aload_n C d_Mod_minutesOf_0 rfl ?_
  refine g_Mod_0 (p := 82) C rfl fl_Mod_9 d_Mod_minutesOf_1 ?_
  refine x_iload_n C d_Mod_minutesOf_4 rfl ?_
  refine x_iconst (v := 1) C d_Mod_minutesOf_5 rfl ?_
  refine x_callS (As := [.int x1, .int 1]) (rest := [.ref (xa X 83)]) C (m_Mod_atYard (xg X) C.2.2.2.2.2.2.1 x1 1 s _ hw) cw_Mod_atYard ml_Mod_63 rfl ⟨rfl, rfl, Nat.le_of_ble_eq_true rfl, Nat.le_of_ble_eq_true rfl⟩ ⟨Nat.zero_le _, Nat.zero_le _⟩ rfl (Nat.le_of_ble_eq_true rfl) d_Mod_minutesOf_6 ?_
  rintro _ _ ⟨x10, rfl, rfl, hw⟩
  show V X _ _ _ _ 9 [some (.ref (xa X 82)), some (.int x1), some (.int x2), none] [.int x10, .ref (xa X 83)]
  obtain ⟨h12, hw⟩ := hw
  refine x_iald (p := 83) (n := 78) C rfl h12 d_Mod_minutesOf_9 ?_
  refine x_nm (fun x13 hx13 => ?_)
  have hw := hw x13 hx13
  refine x_istore_n (L' := [some (.ref (xa X 82)), some (.int x1), some (.int x2), some (.int x13)]) C d_Mod_minutesOf_10 (Nat.le_of_ble_eq_true rfl) rfl ?_
  refine x_aload_n C d_Mod_minutesOf_11 rfl ?_
  refine g_Mod_0 (p := 82) C rfl fl_Mod_9 d_Mod_minutesOf_12 ?_
  refine x_iload_n C d_Mod_minutesOf_15 rfl ?_
  refine x_iconst (v := 0) C d_Mod_minutesOf_16 rfl ?_
  refine x_callS (As := [.int x1, .int 0]) (rest := [.ref (xa X 83)]) C (m_Mod_atYard (xg X) C.2.2.2.2.2.2.1 x1 0 s _ hw) cw_Mod_atYard ml_Mod_63 rfl ⟨rfl, rfl, Nat.le_of_ble_eq_true rfl, Nat.le_of_ble_eq_true rfl⟩ ⟨Nat.zero_le _, Nat.zero_le _⟩ rfl (Nat.le_of_ble_eq_true rfl) d_Mod_minutesOf_17 ?_
  rintro _ _ ⟨x14, rfl, rfl, hw⟩
  show V X _ _ _ _ 20 [some (.ref (xa X 82)), some (.int x1), some (.int x2), some (.int x13)] [.int x14, .ref (xa X 83)]
  obtain ⟨h16, hw⟩ := hw
  refine x_iald (p := 83) (n := 78) C rfl h16 d_Mod_minutesOf_20 ?_
  obtain ⟨J17, hJ17, hw⟩ := hw
  have kJ17 : J17 → V X (xQ X (fun v s' => ∃ r : Int32, v = some (.int r) ∧ s = s' ∧ Q r)) 0 0 s 66 [some (.ref (xa X 82)), some (.int x1), some (.int x2), some (.int x13)] [] := by
    intro  hv
    have hw := hJ17  hv
    refine x_iconst (v := 2) C d_Mod_minutesOf_66 rfl ?_
    refine x_iload_n C d_Mod_minutesOf_67 rfl ?_
    refine x_iadd C d_Mod_minutesOf_68 ?_
    exact x_ireturn C d_Mod_minutesOf_69 ⟨_, rfl, rfl, hw⟩
  by_cases c18 : (s 83 (Int32.toNatClampNeg x14)) = 1
  · have hw := hw.1 c18
    refine x_tswIn (v := 1) (off := 43) (tgt := 64) C d_Mod_minutesOf_21 c18 (by decide) (by decide) rfl (by decide) ?_
    refine x_iconst (v := 1) C d_Mod_minutesOf_64 rfl ?_
    exact x_ireturn C d_Mod_minutesOf_65 ⟨_, rfl, rfl, hw⟩
  have hw := hw.2 c18
  by_cases c19 : (s 83 (Int32.toNatClampNeg x14)) = 2
  · have hw := hw.1 c19
    refine x_tswIn (v := 2) (off := 45) (tgt := 66) C d_Mod_minutesOf_21 c19 (by decide) (by decide) rfl (by decide) ?_
    exact x_wk (kJ17  hw) (And.intro rfl (And.intro rfl (And.intro rfl (And.intro rfl (trivial)))))
  have hw := hw.2 c19
  by_cases c20 : (s 83 (Int32.toNatClampNeg x14)) = 3
  · have hw := hw.1 c20
    refine x_tswIn (v := 3) (off := 45) (tgt := 66) C d_Mod_minutesOf_21 c20 (by decide) (by decide) rfl (by decide) ?_
    exact x_wk (kJ17  hw) (And.intro rfl (And.intro rfl (And.intro rfl (And.intro rfl (trivial)))))
  have hw := hw.2 c20
  by_cases c21 : (s 83 (Int32.toNatClampNeg x14)) = 4
  · have hw := hw.1 c21
    refine x_tswIn (v := 4) (off := 49) (tgt := 70) C d_Mod_minutesOf_21 c21 (by decide) (by decide) rfl (by decide) ?_
    refine x_iload_n C d_Mod_minutesOf_70 rfl ?_
    refine x_if_eq (tgt := 78) C d_Mod_minutesOf_71 (by decide) (fun c22 => ?_) (fun c22 => ?_)
    · have hw := hw.1 c22
      refine x_iconst (v := 1) C d_Mod_minutesOf_78 rfl ?_
      exact x_ireturn C d_Mod_minutesOf_79 ⟨_, rfl, rfl, hw⟩
    · have hw := hw.2 c22
      refine x_iconst (v := 5) C d_Mod_minutesOf_74 rfl ?_
      refine x_goto (tgt := 79) C d_Mod_minutesOf_75 (by decide) ?_
      exact x_ireturn C d_Mod_minutesOf_79 ⟨_, rfl, rfl, hw⟩
  have hw := hw.2 c21
  by_cases c23 : (s 83 (Int32.toNatClampNeg x14)) = 6
  · have hw := hw.1 c23
    refine x_tswIn (v := 6) (off := 59) (tgt := 80) C d_Mod_minutesOf_21 c23 (by decide) (by decide) rfl (by decide) ?_
    refine x_bipush (v := 7) C d_Mod_minutesOf_80 rfl ?_
    refine x_iload_n C d_Mod_minutesOf_82 rfl ?_
    refine x_iadd C d_Mod_minutesOf_83 ?_
    exact x_ireturn C d_Mod_minutesOf_84 ⟨_, rfl, rfl, hw⟩
  have hw := hw.2 c23
  by_cases c24 : (s 83 (Int32.toNatClampNeg x14)) = 7
  · have hw := hw.1 c24
    refine x_tswIn (v := 7) (off := 43) (tgt := 64) C d_Mod_minutesOf_21 c24 (by decide) (by decide) rfl (by decide) ?_
    refine x_iconst (v := 1) C d_Mod_minutesOf_64 rfl ?_
    exact x_ireturn C d_Mod_minutesOf_65 ⟨_, rfl, rfl, hw⟩
  have hw := hw.2 c24
  refine x_tswD (tgt := 85) C d_Mod_minutesOf_21 (fun j hj => by match j, hj with | 0, _ => exact Or.inr c18 | 1, _ => exact Or.inr c19 | 2, _ => exact Or.inr c20 | 3, _ => exact Or.inr c21 | 4, _ => exact Or.inl rfl | 5, _ => exact Or.inr c23 | 6, _ => exact Or.inr c24 | j + 7, hj => exact absurd hj (by omega)) (by decide) ?_
  refine x_iconst (v := 2) C d_Mod_minutesOf_85 rfl ?_
  exact x_ireturn C d_Mod_minutesOf_86 ⟨_, rfl, rfl, hw⟩
def vc_Mod_isFeetFirst (x0 : Int32) (Q : Bool → Prop) : Prop :=
    ((x0 ≤ 1 → Q false) ∧ (¬ x0 ≤ 1 → Q true))
def rm_Mod_isFeetFirst : Room := { frames := 0, cells := 0, slots := 0, locals := 0 }
set_option maxHeartbeats 4000000 in
set_option maxRecDepth 20000 in
theorem m_Mod_isFeetFirst (g : Gx) (hg : gOk g) (x0 : Int32)  (s : St) (Q : Bool → Prop) (hw : vc_Mod_isFeetFirst x0 Q) : Mc g y_Mod_isFeetFirst b_Mod_isFeetFirst 1 (some FieldType.boolean) rm_Mod_isFeetFirst [.int x0] s (fun v s' => ∃ r : Bool, v = some (.int (bi r)) ∧ s = s' ∧ Q r) := by
  refine mc_ofV (j := 0) (L := [some (.int x0)]) hg (by decide) (Nat.le_of_ble_eq_true rfl) rfl ?_
  intro X hX C
  subst hX
  unfold vc_Mod_isFeetFirst at hw
  refine x_iload_n C d_Mod_isFeetFirst_0 rfl ?_
  refine x_iconst (v := 1) C d_Mod_isFeetFirst_1 rfl ?_
  refine x_icmp_le (tgt := 9) C d_Mod_isFeetFirst_2 (by decide) (fun c10 => ?_) (fun c10 => ?_)
  · have hw := hw.1 c10
    refine x_iconst (v := 0) C d_Mod_isFeetFirst_9 rfl ?_
    exact x_zreturn (b := false) C d_Mod_isFeetFirst_10 ⟨_, rfl, rfl, hw⟩
  · have hw := hw.2 c10
    refine x_iconst (v := 1) C d_Mod_isFeetFirst_5 rfl ?_
    refine x_goto (tgt := 10) C d_Mod_isFeetFirst_6 (by decide) ?_
    exact x_zreturn (b := true) C d_Mod_isFeetFirst_10 ⟨_, rfl, rfl, hw⟩
def vc_Mod_sizeOf (x1 : Int32) (x2 : Int32) (x3 : Int32) (x4 : Int32) (s : St) (Q : Int32 → Prop) : Prop :=
    vc_Mod_atYard x2 0 (fun x10 => (vp_in x10 78 ∧ (∀ x13 : Int32, x13 = s 83 (Int32.toNatClampNeg x10) → (∃ J15 : Int32 → Prop, (∀ (x14 : Int32), J15 x14 → vc_Mod_of x1 0 s (fun x16 => (∃ J19 : Int32 → Prop, (∀ (x18 : Int32), J19 x18 → vc_Mod_of x1 2 s (fun x20 => (∃ J23 : Int32 → Prop, (∀ (x22 : Int32), J23 x22 → Q ((((x16 - x18) + (x20 / 3)) - x22) + x14)) ∧ ((¬ (x3 - x3 / 2 * 2) = 0 → J23 0) ∧ ((x3 - x3 / 2 * 2) = 0 → J23 1))))) ∧ ((x4 = 0 → J19 0) ∧ (¬ x4 = 0 → vc_Mod_of x1 1 s (fun x26 => J19 x26)))))) ∧ (∃ J28 : Prop, (J28 → (∃ J29 : Prop, (J29 → J15 0) ∧ ((¬ x13 = 4 → J29) ∧ (x13 = 4 → vc_Mod_isFeetFirst x3 (fun b31 => (((bi b31) = 0 → J29) ∧ (¬ (bi b31) = 0 → J15 1))))))) ∧ ((¬ x13 = 3 → J28) ∧ (x13 = 3 → vc_Mod_isFeetFirst x3 (fun b35 => ((¬ (bi b35) = 0 → J28) ∧ ((bi b35) = 0 → J15 2))))))))))
def rm_Mod_sizeOf : Room := { frames := 2, cells := 0, slots := 0, locals := 43 }
set_option maxHeartbeats 4000000 in
set_option maxRecDepth 20000 in
theorem m_Mod_sizeOf (g : Gx) (hg : gOk g) (x1 : Int32) (x2 : Int32) (x3 : Int32) (x4 : Int32)  (s : St) (Q : Int32 → Prop) (hw : vc_Mod_sizeOf x1 x2 x3 x4 s Q) : Mc g y_Mod_sizeOf b_Mod_sizeOf 7 (some FieldType.int) rm_Mod_sizeOf [.ref (ga g 82), .int x1, .int x2, .int x3, .int x4] s (fun v s' => ∃ r : Int32, v = some (.int r) ∧ s = s' ∧ Q r) := by
  refine mc_ofV (j := 2) (L := [some (.ref (ga g 82)), some (.int x1), some (.int x2), some (.int x3), some (.int x4), none, none]) hg (by decide) (Nat.le_of_ble_eq_true rfl) rfl ?_
  intro X hX C
  subst hX
  unfold vc_Mod_sizeOf at hw
  refine x_aload_n C d_Mod_sizeOf_0 rfl ?_
  refine g_Mod_0 (p := 82) C rfl fl_Mod_9 d_Mod_sizeOf_1 ?_
  refine x_iload_n C d_Mod_sizeOf_4 rfl ?_
  refine x_iconst (v := 0) C d_Mod_sizeOf_5 rfl ?_
  refine x_callS (As := [.int x2, .int 0]) (rest := [.ref (xa X 83)]) C (m_Mod_atYard (xg X) C.2.2.2.2.2.2.1 x2 0 s _ hw) cw_Mod_atYard ml_Mod_63 rfl ⟨rfl, rfl, Nat.le_of_ble_eq_true rfl, Nat.le_of_ble_eq_true rfl⟩ ⟨Nat.zero_le _, Nat.zero_le _⟩ rfl (Nat.le_of_ble_eq_true rfl) d_Mod_sizeOf_6 ?_
  rintro _ _ ⟨x10, rfl, rfl, hw⟩
  show V X _ _ _ _ 9 [some (.ref (xa X 82)), some (.int x1), some (.int x2), some (.int x3), some (.int x4), none, none] [.int x10, .ref (xa X 83)]
  obtain ⟨h12, hw⟩ := hw
  refine x_iald (p := 83) (n := 78) C rfl h12 d_Mod_sizeOf_9 ?_
  refine x_nm (fun x13 hx13 => ?_)
  have hw := hw x13 hx13
  refine x_istore (L' := [some (.ref (xa X 82)), some (.int x1), some (.int x2), some (.int x3), some (.int x4), some (.int x13), none]) C d_Mod_sizeOf_10 (Nat.le_of_ble_eq_true rfl) rfl ?_
  refine x_iload C d_Mod_sizeOf_12 rfl ?_
  refine x_iconst (v := 3) C d_Mod_sizeOf_14 rfl ?_
  obtain ⟨J15, hJ15, hw⟩ := hw
  have kJ15 : ∀ (x14 : Int32), J15 x14 → V X (xQ X (fun v s' => ∃ r : Int32, v = some (.int r) ∧ s = s' ∧ Q r)) 0 0 s 47 [some (.ref (xa X 82)), some (.int x1), some (.int x2), some (.int x3), some (.int x4), some (.int x13), none] [.int x14] := by
    intro x14 hv
    have hw := hJ15 x14 hv
    refine x_istore (L' := [some (.ref (xa X 82)), some (.int x1), some (.int x2), some (.int x3), some (.int x4), some (.int x13), some (.int x14)]) C d_Mod_sizeOf_47 (Nat.le_of_ble_eq_true rfl) rfl ?_
    refine x_aload_n C d_Mod_sizeOf_49 rfl ?_
    refine x_iload_n C d_Mod_sizeOf_50 rfl ?_
    refine x_iconst (v := 0) C d_Mod_sizeOf_51 rfl ?_
    refine x_callV (As := [.int x1, .int 0]) (rest := []) (p := 82) C (m_Mod_of (xg X) C.2.2.2.2.2.2.1 x1 0 s _ hw) cw_Mod_of ml_Mod_73 rfl (by decide) (by decide) rfl rfl rfl ⟨rfl, rfl, Nat.le_of_ble_eq_true rfl, Nat.le_of_ble_eq_true rfl⟩ ⟨Nat.zero_le _, Nat.zero_le _⟩ rfl (Nat.le_of_ble_eq_true rfl) d_Mod_sizeOf_52 ?_
    rintro _ _ ⟨x16, rfl, rfl, hw⟩
    show V X _ _ _ _ 55 [some (.ref (xa X 82)), some (.int x1), some (.int x2), some (.int x3), some (.int x4), some (.int x13), some (.int x14)] [.int x16]
    refine x_iload C d_Mod_sizeOf_55 rfl ?_
    obtain ⟨J19, hJ19, hw⟩ := hw
    have kJ19 : ∀ (x18 : Int32), J19 x18 → V X (xQ X (fun v s' => ∃ r : Int32, v = some (.int r) ∧ s = s' ∧ Q r)) 0 0 s 70 [some (.ref (xa X 82)), some (.int x1), some (.int x2), some (.int x3), some (.int x4), some (.int x13), some (.int x14)] [.int x18, .int x16] := by
      intro x18 hv
      have hw := hJ19 x18 hv
      refine x_isub C d_Mod_sizeOf_70 ?_
      refine x_aload_n C d_Mod_sizeOf_71 rfl ?_
      refine x_iload_n C d_Mod_sizeOf_72 rfl ?_
      refine x_iconst (v := 2) C d_Mod_sizeOf_73 rfl ?_
      refine x_callV (As := [.int x1, .int 2]) (rest := [.int (x16 - x18)]) (p := 82) C (m_Mod_of (xg X) C.2.2.2.2.2.2.1 x1 2 s _ hw) cw_Mod_of ml_Mod_73 rfl (by decide) (by decide) rfl rfl rfl ⟨rfl, rfl, Nat.le_of_ble_eq_true rfl, Nat.le_of_ble_eq_true rfl⟩ ⟨Nat.zero_le _, Nat.zero_le _⟩ rfl (Nat.le_of_ble_eq_true rfl) d_Mod_sizeOf_74 ?_
      rintro _ _ ⟨x20, rfl, rfl, hw⟩
      show V X _ _ _ _ 77 [some (.ref (xa X 82)), some (.int x1), some (.int x2), some (.int x3), some (.int x4), some (.int x13), some (.int x14)] [.int x20, .int (x16 - x18)]
      refine x_iconst (v := 3) C d_Mod_sizeOf_77 rfl ?_
      refine x_idiv C d_Mod_sizeOf_78 (by decide) ?_
      refine x_iadd C d_Mod_sizeOf_79 ?_
      refine x_iload_n C d_Mod_sizeOf_80 rfl ?_
      refine x_iconst (v := 2) C d_Mod_sizeOf_81 rfl ?_
      refine x_irem C d_Mod_sizeOf_82 (by decide) ?_
      obtain ⟨J23, hJ23, hw⟩ := hw
      have kJ23 : ∀ (x22 : Int32), J23 x22 → V X (xQ X (fun v s' => ∃ r : Int32, v = some (.int r) ∧ s = s' ∧ Q r)) 0 0 s 91 [some (.ref (xa X 82)), some (.int x1), some (.int x2), some (.int x3), some (.int x4), some (.int x13), some (.int x14)] [.int x22, .int ((x16 - x18) + (x20 / 3))] := by
        intro x22 hv
        have hw := hJ23 x22 hv
        refine x_isub C d_Mod_sizeOf_91 ?_
        refine x_iload C d_Mod_sizeOf_92 rfl ?_
        refine x_iadd C d_Mod_sizeOf_94 ?_
        exact x_ireturn C d_Mod_sizeOf_95 ⟨_, rfl, rfl, hw⟩
      refine x_if_ne (tgt := 90) C d_Mod_sizeOf_83 (by decide) (fun c24 => ?_) (fun c24 => ?_)
      · have hw := hw.1 c24
        refine x_iconst (v := 0) C d_Mod_sizeOf_90 rfl ?_
        exact x_wk (kJ23 0 hw) (And.intro rfl (And.intro rfl (And.intro rfl (And.intro rfl (And.intro rfl (And.intro rfl (And.intro rfl (trivial))))))))
      · have hw := hw.2 c24
        refine x_iconst (v := 1) C d_Mod_sizeOf_86 rfl ?_
        refine x_goto (tgt := 91) C d_Mod_sizeOf_87 (by decide) ?_
        exact x_wk (kJ23 1 hw) (And.intro rfl (And.intro rfl (And.intro rfl (And.intro rfl (And.intro rfl (And.intro rfl (And.intro rfl (trivial))))))))
    refine x_if_eq (tgt := 69) C d_Mod_sizeOf_57 (by decide) (fun c25 => ?_) (fun c25 => ?_)
    · have hw := hw.1 c25
      refine x_iconst (v := 0) C d_Mod_sizeOf_69 rfl ?_
      exact x_wk (kJ19 0 hw) (And.intro rfl (And.intro rfl (And.intro rfl (And.intro rfl (And.intro rfl (And.intro rfl (And.intro rfl (trivial))))))))
    · have hw := hw.2 c25
      refine x_aload_n C d_Mod_sizeOf_60 rfl ?_
      refine x_iload_n C d_Mod_sizeOf_61 rfl ?_
      refine x_iconst (v := 1) C d_Mod_sizeOf_62 rfl ?_
      refine x_callV (As := [.int x1, .int 1]) (rest := [.int x16]) (p := 82) C (m_Mod_of (xg X) C.2.2.2.2.2.2.1 x1 1 s _ hw) cw_Mod_of ml_Mod_73 rfl (by decide) (by decide) rfl rfl rfl ⟨rfl, rfl, Nat.le_of_ble_eq_true rfl, Nat.le_of_ble_eq_true rfl⟩ ⟨Nat.zero_le _, Nat.zero_le _⟩ rfl (Nat.le_of_ble_eq_true rfl) d_Mod_sizeOf_63 ?_
      rintro _ _ ⟨x26, rfl, rfl, hw⟩
      show V X _ _ _ _ 66 [some (.ref (xa X 82)), some (.int x1), some (.int x2), some (.int x3), some (.int x4), some (.int x13), some (.int x14)] [.int x26, .int x16]
      refine x_goto (tgt := 70) C d_Mod_sizeOf_66 (by decide) ?_
      exact x_wk (kJ19 x26 hw) (And.intro rfl (And.intro rfl (And.intro rfl (And.intro rfl (And.intro rfl (And.intro rfl (And.intro rfl (trivial))))))))
  obtain ⟨J28, hJ28, hw⟩ := hw
  have kJ28 : J28 → V X (xQ X (fun v s' => ∃ r : Int32, v = some (.int r) ∧ s = s' ∧ Q r)) 0 0 s 29 [some (.ref (xa X 82)), some (.int x1), some (.int x2), some (.int x3), some (.int x4), some (.int x13), none] [] := by
    intro  hv
    have hw := hJ28  hv
    refine x_iload C d_Mod_sizeOf_29 rfl ?_
    refine x_iconst (v := 4) C d_Mod_sizeOf_31 rfl ?_
    obtain ⟨J29, hJ29, hw⟩ := hw
    have kJ29 : J29 → V X (xQ X (fun v s' => ∃ r : Int32, v = some (.int r) ∧ s = s' ∧ Q r)) 0 0 s 46 [some (.ref (xa X 82)), some (.int x1), some (.int x2), some (.int x3), some (.int x4), some (.int x13), none] [] := by
      intro  hv
      have hw := hJ29  hv
      refine x_iconst (v := 0) C d_Mod_sizeOf_46 rfl ?_
      exact x_wk (kJ15 0 hw) (And.intro rfl (And.intro rfl (And.intro rfl (And.intro rfl (And.intro rfl (And.intro rfl (trivial)))))))
    refine x_icmp_ne (tgt := 46) C d_Mod_sizeOf_32 (by decide) (fun c30 => ?_) (fun c30 => ?_)
    · have hw := hw.1 c30
      exact x_wk (kJ29  hw) (And.intro rfl (And.intro rfl (And.intro rfl (And.intro rfl (And.intro rfl (And.intro rfl (trivial)))))))
    · have hw := hw.2 c30
      refine x_iload_n C d_Mod_sizeOf_35 rfl ?_
      refine x_callS (As := [.int x3]) (rest := []) C (m_Mod_isFeetFirst (xg X) C.2.2.2.2.2.2.1 x3 s _ hw) cw_Mod_isFeetFirst ml_Mod_69 rfl ⟨rfl, rfl, Nat.le_of_ble_eq_true rfl, Nat.le_of_ble_eq_true rfl⟩ ⟨Nat.zero_le _, Nat.zero_le _⟩ rfl (Nat.le_of_ble_eq_true rfl) d_Mod_sizeOf_36 ?_
      rintro _ _ ⟨b31, rfl, rfl, hw⟩
      show V X _ _ _ _ 39 [some (.ref (xa X 82)), some (.int x1), some (.int x2), some (.int x3), some (.int x4), some (.int x13), none] [.int (bi b31)]
      refine x_if_eq (tgt := 46) C d_Mod_sizeOf_39 (by decide) (fun c33 => ?_) (fun c33 => ?_)
      · have hw := hw.1 c33
        exact x_wk (kJ29  hw) (And.intro rfl (And.intro rfl (And.intro rfl (And.intro rfl (And.intro rfl (And.intro rfl (trivial)))))))
      · have hw := hw.2 c33
        refine x_iconst (v := 1) C d_Mod_sizeOf_42 rfl ?_
        refine x_goto (tgt := 47) C d_Mod_sizeOf_43 (by decide) ?_
        exact x_wk (kJ15 1 hw) (And.intro rfl (And.intro rfl (And.intro rfl (And.intro rfl (And.intro rfl (And.intro rfl (trivial)))))))
  refine x_icmp_ne (tgt := 29) C d_Mod_sizeOf_15 (by decide) (fun c34 => ?_) (fun c34 => ?_)
  · have hw := hw.1 c34
    exact x_wk (kJ28  hw) (And.intro rfl (And.intro rfl (And.intro rfl (And.intro rfl (And.intro rfl (And.intro rfl (trivial)))))))
  · have hw := hw.2 c34
    refine x_iload_n C d_Mod_sizeOf_18 rfl ?_
    refine x_callS (As := [.int x3]) (rest := []) C (m_Mod_isFeetFirst (xg X) C.2.2.2.2.2.2.1 x3 s _ hw) cw_Mod_isFeetFirst ml_Mod_69 rfl ⟨rfl, rfl, Nat.le_of_ble_eq_true rfl, Nat.le_of_ble_eq_true rfl⟩ ⟨Nat.zero_le _, Nat.zero_le _⟩ rfl (Nat.le_of_ble_eq_true rfl) d_Mod_sizeOf_19 ?_
    rintro _ _ ⟨b35, rfl, rfl, hw⟩
    show V X _ _ _ _ 22 [some (.ref (xa X 82)), some (.int x1), some (.int x2), some (.int x3), some (.int x4), some (.int x13), none] [.int (bi b35)]
    refine x_if_ne (tgt := 29) C d_Mod_sizeOf_22 (by decide) (fun c37 => ?_) (fun c37 => ?_)
    · have hw := hw.1 c37
      exact x_wk (kJ28  hw) (And.intro rfl (And.intro rfl (And.intro rfl (And.intro rfl (And.intro rfl (And.intro rfl (trivial)))))))
    · have hw := hw.2 c37
      refine x_iconst (v := 2) C d_Mod_sizeOf_25 rfl ?_
      refine x_goto (tgt := 47) C d_Mod_sizeOf_26 (by decide) ?_
      exact x_wk (kJ15 2 hw) (And.intro rfl (And.intro rfl (And.intro rfl (And.intro rfl (And.intro rfl (And.intro rfl (trivial)))))))
def vc_Mod_sizeNow (x1 : Int32) (x2 : Int32) (x3 : Int32) (s : St) (Q : Int32 → Prop) : Prop :=
    vc_Mod_of x1 4 s (fun x10 => vc_Mod_sizeOf x1 x2 x10 x3 s (fun x12 => Q x12))
def rm_Mod_sizeNow : Room := { frames := 3, cells := 0, slots := 0, locals := 69 }
set_option maxHeartbeats 4000000 in
set_option maxRecDepth 20000 in
theorem m_Mod_sizeNow (g : Gx) (hg : gOk g) (x1 : Int32) (x2 : Int32) (x3 : Int32)  (s : St) (Q : Int32 → Prop) (hw : vc_Mod_sizeNow x1 x2 x3 s Q) : Mc g y_Mod_sizeNow b_Mod_sizeNow 4 (some FieldType.int) rm_Mod_sizeNow [.ref (ga g 82), .int x1, .int x2, .int x3] s (fun v s' => ∃ r : Int32, v = some (.int r) ∧ s = s' ∧ Q r) := by
  refine mc_ofV (j := 0) (L := [some (.ref (ga g 82)), some (.int x1), some (.int x2), some (.int x3)]) hg (by decide) (Nat.le_of_ble_eq_true rfl) rfl ?_
  intro X hX C
  subst hX
  unfold vc_Mod_sizeNow at hw
  refine x_aload_n C d_Mod_sizeNow_0 rfl ?_
  refine x_iload_n C d_Mod_sizeNow_1 rfl ?_
  refine x_iload_n C d_Mod_sizeNow_2 rfl ?_
  refine x_aload_n C d_Mod_sizeNow_3 rfl ?_
  refine x_iload_n C d_Mod_sizeNow_4 rfl ?_
  refine x_iconst (v := 4) C d_Mod_sizeNow_5 rfl ?_
  refine x_callV (As := [.int x1, .int 4]) (rest := [.int x2, .int x1, .ref (xa X 82)]) (p := 82) C (m_Mod_of (xg X) C.2.2.2.2.2.2.1 x1 4 s _ hw) cw_Mod_of ml_Mod_73 rfl (by decide) (by decide) rfl rfl rfl ⟨rfl, rfl, Nat.le_of_ble_eq_true rfl, Nat.le_of_ble_eq_true rfl⟩ ⟨Nat.zero_le _, Nat.zero_le _⟩ rfl (Nat.le_of_ble_eq_true rfl) d_Mod_sizeNow_6 ?_
  rintro _ _ ⟨x10, rfl, rfl, hw⟩
  show V X _ _ _ _ 9 [some (.ref (xa X 82)), some (.int x1), some (.int x2), some (.int x3)] [.int x10, .int x2, .int x1, .ref (xa X 82)]
  refine x_iload_n C d_Mod_sizeNow_9 rfl ?_
  refine x_callV (As := [.int x1, .int x2, .int x10, .int x3]) (rest := []) (p := 82) C (m_Mod_sizeOf (xg X) C.2.2.2.2.2.2.1 x1 x2 x10 x3 s _ hw) cw_Mod_sizeOf ml_Mod_76 rfl (by decide) (by decide) rfl rfl rfl ⟨rfl, rfl, Nat.le_of_ble_eq_true rfl, Nat.le_of_ble_eq_true rfl⟩ ⟨Nat.zero_le _, Nat.zero_le _⟩ rfl (Nat.le_of_ble_eq_true rfl) d_Mod_sizeNow_10 ?_
  rintro _ _ ⟨x12, rfl, rfl, hw⟩
  show V X _ _ _ _ 13 [some (.ref (xa X 82)), some (.int x1), some (.int x2), some (.int x3)] [.int x12]
  exact x_ireturn C d_Mod_sizeNow_13 ⟨_, rfl, rfl, hw⟩
def vc_Mod_hour  (s : St) (Q : Int32 → Prop) : Prop :=
    (vp_in 2 78 ∧ Q ((s 83 (Int32.toNatClampNeg 2)) / 60))
def rm_Mod_hour : Room := { frames := 0, cells := 0, slots := 0, locals := 0 }
set_option maxHeartbeats 4000000 in
set_option maxRecDepth 20000 in
theorem m_Mod_hour (g : Gx) (hg : gOk g)   (s : St) (Q : Int32 → Prop) (hw : vc_Mod_hour  s Q) : Mc g y_Mod_hour b_Mod_hour 1 (some FieldType.int) rm_Mod_hour [.ref (ga g 82)] s (fun v s' => ∃ r : Int32, v = some (.int r) ∧ s = s' ∧ Q r) := by
  refine mc_ofV (j := 0) (L := [some (.ref (ga g 82))]) hg (by decide) (Nat.le_of_ble_eq_true rfl) rfl ?_
  intro X hX C
  subst hX
  unfold vc_Mod_hour at hw
  refine x_aload_n C d_Mod_hour_0 rfl ?_
  refine g_Mod_0 (p := 82) C rfl fl_Mod_9 d_Mod_hour_1 ?_
  refine x_iconst (v := 2) C d_Mod_hour_4 rfl ?_
  obtain ⟨h10, hw⟩ := hw
  refine x_iald (p := 83) (n := 78) C rfl h10 d_Mod_hour_5 ?_
  refine x_bipush (v := 60) C d_Mod_hour_6 rfl ?_
  refine x_idiv C d_Mod_hour_8 (by decide) ?_
  exact x_ireturn C d_Mod_hour_9 ⟨_, rfl, rfl, hw⟩
def vc_Mod_fitsIn (x1 : Int32) (x2 : Int32) (x3 : Int32) (s : St) (Q : Int32 → Prop) : Prop :=
    vc_Mod_sizeNow x1 x2 0 s (fun x10 => vc_Mod_roomOf x2 x3 s (fun x12 => ((x12 < x10 → vc_Mod_sizeNow x1 x2 1 s (fun x15 => vc_Mod_roomOf x2 x3 s (fun x17 => ((x17 < x15 → Q 2) ∧ (¬ x17 < x15 → Q 1))))) ∧ (¬ x12 < x10 → Q 0))))
def rm_Mod_fitsIn : Room := { frames := 4, cells := 0, slots := 0, locals := 92 }
set_option maxHeartbeats 4000000 in
set_option maxRecDepth 20000 in
theorem m_Mod_fitsIn (g : Gx) (hg : gOk g) (x1 : Int32) (x2 : Int32) (x3 : Int32)  (s : St) (Q : Int32 → Prop) (hw : vc_Mod_fitsIn x1 x2 x3 s Q) : Mc g y_Mod_fitsIn b_Mod_fitsIn 4 (some FieldType.int) rm_Mod_fitsIn [.ref (ga g 82), .int x1, .int x2, .int x3] s (fun v s' => ∃ r : Int32, v = some (.int r) ∧ s = s' ∧ Q r) := by
  refine mc_ofV (j := 0) (L := [some (.ref (ga g 82)), some (.int x1), some (.int x2), some (.int x3)]) hg (by decide) (Nat.le_of_ble_eq_true rfl) rfl ?_
  intro X hX C
  subst hX
  unfold vc_Mod_fitsIn at hw
  refine x_aload_n C d_Mod_fitsIn_0 rfl ?_
  refine x_iload_n C d_Mod_fitsIn_1 rfl ?_
  refine x_iload_n C d_Mod_fitsIn_2 rfl ?_
  refine x_iconst (v := 0) C d_Mod_fitsIn_3 rfl ?_
  refine x_callV (As := [.int x1, .int x2, .int 0]) (rest := []) (p := 82) C (m_Mod_sizeNow (xg X) C.2.2.2.2.2.2.1 x1 x2 0 s _ hw) cw_Mod_sizeNow ml_Mod_80 rfl (by decide) (by decide) rfl rfl rfl ⟨rfl, rfl, Nat.le_of_ble_eq_true rfl, Nat.le_of_ble_eq_true rfl⟩ ⟨Nat.zero_le _, Nat.zero_le _⟩ rfl (Nat.le_of_ble_eq_true rfl) d_Mod_fitsIn_4 ?_
  rintro _ _ ⟨x10, rfl, rfl, hw⟩
  show V X _ _ _ _ 7 [some (.ref (xa X 82)), some (.int x1), some (.int x2), some (.int x3)] [.int x10]
  refine x_aload_n C d_Mod_fitsIn_7 rfl ?_
  refine x_iload_n C d_Mod_fitsIn_8 rfl ?_
  refine x_iload_n C d_Mod_fitsIn_9 rfl ?_
  refine x_callV (As := [.int x2, .int x3]) (rest := [.int x10]) (p := 82) C (m_Mod_roomOf (xg X) C.2.2.2.2.2.2.1 x2 x3 s _ hw) cw_Mod_roomOf ml_Mod_84 rfl (by decide) (by decide) rfl rfl rfl ⟨rfl, rfl, Nat.le_of_ble_eq_true rfl, Nat.le_of_ble_eq_true rfl⟩ ⟨Nat.zero_le _, Nat.zero_le _⟩ rfl (Nat.le_of_ble_eq_true rfl) d_Mod_fitsIn_10 ?_
  rintro _ _ ⟨x12, rfl, rfl, hw⟩
  show V X _ _ _ _ 13 [some (.ref (xa X 82)), some (.int x1), some (.int x2), some (.int x3)] [.int x12, .int x10]
  refine x_icmp_gt (tgt := 20) C d_Mod_fitsIn_13 (by decide) (fun c14 => ?_) (fun c14 => ?_)
  · have hw := hw.1 c14
    refine x_aload_n C d_Mod_fitsIn_20 rfl ?_
    refine x_iload_n C d_Mod_fitsIn_21 rfl ?_
    refine x_iload_n C d_Mod_fitsIn_22 rfl ?_
    refine x_iconst (v := 1) C d_Mod_fitsIn_23 rfl ?_
    refine x_callV (As := [.int x1, .int x2, .int 1]) (rest := []) (p := 82) C (m_Mod_sizeNow (xg X) C.2.2.2.2.2.2.1 x1 x2 1 s _ hw) cw_Mod_sizeNow ml_Mod_80 rfl (by decide) (by decide) rfl rfl rfl ⟨rfl, rfl, Nat.le_of_ble_eq_true rfl, Nat.le_of_ble_eq_true rfl⟩ ⟨Nat.zero_le _, Nat.zero_le _⟩ rfl (Nat.le_of_ble_eq_true rfl) d_Mod_fitsIn_24 ?_
    rintro _ _ ⟨x15, rfl, rfl, hw⟩
    show V X _ _ _ _ 27 [some (.ref (xa X 82)), some (.int x1), some (.int x2), some (.int x3)] [.int x15]
    refine x_aload_n C d_Mod_fitsIn_27 rfl ?_
    refine x_iload_n C d_Mod_fitsIn_28 rfl ?_
    refine x_iload_n C d_Mod_fitsIn_29 rfl ?_
    refine x_callV (As := [.int x2, .int x3]) (rest := [.int x15]) (p := 82) C (m_Mod_roomOf (xg X) C.2.2.2.2.2.2.1 x2 x3 s _ hw) cw_Mod_roomOf ml_Mod_84 rfl (by decide) (by decide) rfl rfl rfl ⟨rfl, rfl, Nat.le_of_ble_eq_true rfl, Nat.le_of_ble_eq_true rfl⟩ ⟨Nat.zero_le _, Nat.zero_le _⟩ rfl (Nat.le_of_ble_eq_true rfl) d_Mod_fitsIn_30 ?_
    rintro _ _ ⟨x17, rfl, rfl, hw⟩
    show V X _ _ _ _ 33 [some (.ref (xa X 82)), some (.int x1), some (.int x2), some (.int x3)] [.int x17, .int x15]
    refine x_icmp_gt (tgt := 40) C d_Mod_fitsIn_33 (by decide) (fun c19 => ?_) (fun c19 => ?_)
    · have hw := hw.1 c19
      refine x_iconst (v := 2) C d_Mod_fitsIn_40 rfl ?_
      exact x_ireturn C d_Mod_fitsIn_41 ⟨_, rfl, rfl, hw⟩
    · have hw := hw.2 c19
      refine x_iconst (v := 1) C d_Mod_fitsIn_36 rfl ?_
      refine x_goto (tgt := 41) C d_Mod_fitsIn_37 (by decide) ?_
      exact x_ireturn C d_Mod_fitsIn_41 ⟨_, rfl, rfl, hw⟩
  · have hw := hw.2 c14
    refine x_iconst (v := 0) C d_Mod_fitsIn_16 rfl ?_
    refine x_goto (tgt := 41) C d_Mod_fitsIn_17 (by decide) ?_
    exact x_ireturn C d_Mod_fitsIn_41 ⟨_, rfl, rfl, hw⟩
def vc_Mod_goesWay (x1 : Int32) (x2 : Int32) (x3 : Int32) (s : St) (Q : St → Prop) : Prop :=
    (∀ s10 : St, s10 = wr s 82 6 (-4) → (∃ I13 : Nat → Int32 → St → Prop, (∃ n14, I13 n14 0 s10) ∧ ∀ (nI13 : Nat) (x11 : Int32) (s12 : St), I13 nI13 x11 s12 → (vp_in 0 78 ∧ (((s12 83 (Int32.toNatClampNeg 0)) ≤ x11 → Q s12) ∧ (¬ (s12 83 (Int32.toNatClampNeg 0)) ≤ x11 → (∃ J18 : Int32 → Prop, (∀ (x17 : Int32), J18 x17 → vc_Mod_fitsIn x1 x17 ((s12 82 4) / 60) s12 (fun x19 => (∃ J21 : Prop, (J21 → (∃ J23 : Int32 → Prop, (∀ (x22 : Int32), J23 x22 → (∀ s24 : St, s24 = wr s12 82 5 ((s12 82 5) + x22) → vc_Mod_minutesOf x17 x2 s24 (fun x25 => (∃ J28 : Int32 → Prop, (∀ (x27 : Int32), J28 x27 → (∀ s29 : St, s29 = wr s24 82 4 ((s24 82 4) + (x25 + x27)) → (∀ x30 : Int32, x30 = x11 + 1 → ∃ m31, m31 < nI13 ∧ I13 m31 x30 s29))) ∧ ((¬ x19 = 1 → ((¬ x19 = 2 → J28 0) ∧ (x19 = 2 → J28 10))) ∧ (x19 = 1 → J28 1)))))) ∧ ((¬ x19 = 1 → J23 0) ∧ (x19 = 1 → J23 1)))) ∧ ((¬ x19 = 2 → J21) ∧ (x19 = 2 → vc_Mod_sizeNow x1 x17 1 s12 (fun x36 => vc_Mod_roomOf x17 ((s12 82 4) / 60) s12 (fun x38 => (((x36 - x38) ≤ x3 → J21) ∧ (¬ (x36 - x38) ≤ x3 → (∀ s41 : St, s41 = wr s12 82 6 x17 → Q s41)))))))))) ∧ ((x2 = 0 → J18 x11) ∧ (¬ x2 = 0 → (vp_in 0 78 ∧ J18 (((s12 83 (Int32.toNatClampNeg 0)) - 1) - x11))))))))))
def rm_Mod_goesWay : Room := { frames := 5, cells := 0, slots := 0, locals := 115 }
set_option maxHeartbeats 4000000 in
set_option maxRecDepth 20000 in
theorem m_Mod_goesWay (g : Gx) (hg : gOk g) (x1 : Int32) (x2 : Int32) (x3 : Int32)  (s : St) (Q : St → Prop) (hw : vc_Mod_goesWay x1 x2 x3 s Q) : Mc g y_Mod_goesWay b_Mod_goesWay 7 (none) rm_Mod_goesWay [.ref (ga g 82), .int x1, .int x2, .int x3] s (fun v s' => v = none ∧ Q s') := by
  refine mc_ofV (j := 3) (L := [some (.ref (ga g 82)), some (.int x1), some (.int x2), some (.int x3), none, none, none]) hg (by decide) (Nat.le_of_ble_eq_true rfl) rfl ?_
  intro X hX C
  subst hX
  unfold vc_Mod_goesWay at hw
  refine x_aload_n C d_Mod_goesWay_0 rfl ?_
  refine x_bipush (v := (-4)) C d_Mod_goesWay_1 rfl ?_
  refine p_Mod_6 (p := 82) C rfl fl_Mod_87 d_Mod_goesWay_3 ?_
  refine x_st (fun s10 hs10 => ?_)
  have hw := hw s10 hs10
  refine x_iconst (v := 0) C d_Mod_goesWay_6 rfl ?_
  refine x_istore (L' := [some (.ref (xa X 82)), some (.int x1), some (.int x2), some (.int x3), some (.int 0), none, none]) C d_Mod_goesWay_7 (Nat.le_of_ble_eq_true rfl) rfl ?_
  obtain ⟨I13, ⟨n14, hn14⟩, hI13⟩ := hw
  have lI13 : ∀ (nI13 : Nat) (x11 : Int32) (s12 : St), I13 nI13 x11 s12 → V X (xQ X (fun v s' => v = none ∧ Q s')) 0 0 s12 9 [some (.ref (xa X 82)), some (.int x1), some (.int x2), some (.int x3), some (.int x11), none, none] [] := by
    intro nI13
    induction nI13 using Nat.strongRecOn with
    | ind nI13 ihI13 =>
      intro x11 s12 hv
      have hw := hI13 nI13 x11 s12 hv
      refine x_iload C d_Mod_goesWay_9 rfl ?_
      refine x_aload_n C d_Mod_goesWay_11 rfl ?_
      refine g_Mod_0 (p := 82) C rfl fl_Mod_9 d_Mod_goesWay_12 ?_
      refine x_iconst (v := 0) C d_Mod_goesWay_15 rfl ?_
      obtain ⟨h15, hw⟩ := hw
      refine x_iald (p := 83) (n := 78) C rfl h15 d_Mod_goesWay_16 ?_
      refine x_icmp_ge (tgt := 162) C d_Mod_goesWay_17 (by decide) (fun c16 => ?_) (fun c16 => ?_)
      · have hw := hw.1 c16
        exact x_return C d_Mod_goesWay_162 ⟨rfl, hw⟩
      · have hw := hw.2 c16
        refine x_iload_n C d_Mod_goesWay_20 rfl ?_
        obtain ⟨J18, hJ18, hw⟩ := hw
        have kJ18 : ∀ (x17 : Int32), J18 x17 → V X (xQ X (fun v s' => v = none ∧ Q s')) 0 0 s12 40 [some (.ref (xa X 82)), some (.int x1), some (.int x2), some (.int x3), some (.int x11), none, none] [.int x17] := by
          intro x17 hv
          have hw := hJ18 x17 hv
          refine x_istore (L' := [some (.ref (xa X 82)), some (.int x1), some (.int x2), some (.int x3), some (.int x11), some (.int x17), none]) C d_Mod_goesWay_40 (Nat.le_of_ble_eq_true rfl) rfl ?_
          refine x_aload_n C d_Mod_goesWay_42 rfl ?_
          refine x_iload_n C d_Mod_goesWay_43 rfl ?_
          refine x_iload C d_Mod_goesWay_44 rfl ?_
          refine x_aload_n C d_Mod_goesWay_46 rfl ?_
          refine g_Mod_4 (p := 82) C rfl fl_Mod_91 d_Mod_goesWay_47 ?_
          refine x_bipush (v := 60) C d_Mod_goesWay_50 rfl ?_
          refine x_idiv C d_Mod_goesWay_52 (by decide) ?_
          refine x_callV (As := [.int x1, .int x17, .int ((s12 82 4) / 60)]) (rest := []) (p := 82) C (m_Mod_fitsIn (xg X) C.2.2.2.2.2.2.1 x1 x17 ((s12 82 4) / 60) s12 _ hw) cw_Mod_fitsIn ml_Mod_94 rfl (by decide) (by decide) rfl rfl rfl ⟨rfl, rfl, Nat.le_of_ble_eq_true rfl, Nat.le_of_ble_eq_true rfl⟩ ⟨Nat.zero_le _, Nat.zero_le _⟩ rfl (Nat.le_of_ble_eq_true rfl) d_Mod_goesWay_53 ?_
          rintro _ _ ⟨x19, rfl, rfl, hw⟩
          show V X _ _ _ _ 56 [some (.ref (xa X 82)), some (.int x1), some (.int x2), some (.int x3), some (.int x11), some (.int x17), none] [.int x19]
          refine x_istore (L' := [some (.ref (xa X 82)), some (.int x1), some (.int x2), some (.int x3), some (.int x11), some (.int x17), some (.int x19)]) C d_Mod_goesWay_56 (Nat.le_of_ble_eq_true rfl) rfl ?_
          refine x_iload C d_Mod_goesWay_58 rfl ?_
          refine x_iconst (v := 2) C d_Mod_goesWay_60 rfl ?_
          obtain ⟨J21, hJ21, hw⟩ := hw
          have kJ21 : J21 → V X (xQ X (fun v s' => v = none ∧ Q s')) 0 0 s12 97 [some (.ref (xa X 82)), some (.int x1), some (.int x2), some (.int x3), some (.int x11), some (.int x17), some (.int x19)] [] := by
            intro  hv
            have hw := hJ21  hv
            refine x_aload_n C d_Mod_goesWay_97 rfl ?_
            refine x_dup C d_Mod_goesWay_98 rfl ?_
            refine g_Mod_5 (p := 82) C rfl fl_Mod_98 d_Mod_goesWay_99 ?_
            refine x_iload C d_Mod_goesWay_102 rfl ?_
            refine x_iconst (v := 1) C d_Mod_goesWay_104 rfl ?_
            obtain ⟨J23, hJ23, hw⟩ := hw
            have kJ23 : ∀ (x22 : Int32), J23 x22 → V X (xQ X (fun v s' => v = none ∧ Q s')) 0 0 s12 113 [some (.ref (xa X 82)), some (.int x1), some (.int x2), some (.int x3), some (.int x11), some (.int x17), some (.int x19)] [.int x22, .int (s12 82 5), .ref (xa X 82)] := by
              intro x22 hv
              have hw := hJ23 x22 hv
              refine x_iadd C d_Mod_goesWay_113 ?_
              refine p_Mod_5 (p := 82) C rfl fl_Mod_98 d_Mod_goesWay_114 ?_
              refine x_st (fun s24 hs24 => ?_)
              have hw := hw s24 hs24
              refine x_aload_n C d_Mod_goesWay_117 rfl ?_
              refine x_dup C d_Mod_goesWay_118 rfl ?_
              refine g_Mod_4 (p := 82) C rfl fl_Mod_91 d_Mod_goesWay_119 ?_
              refine x_aload_n C d_Mod_goesWay_122 rfl ?_
              refine x_iload C d_Mod_goesWay_123 rfl ?_
              refine x_iload_n C d_Mod_goesWay_125 rfl ?_
              refine x_callV (As := [.int x17, .int x2]) (rest := [.int (s24 82 4), .ref (xa X 82)]) (p := 82) C (m_Mod_minutesOf (xg X) C.2.2.2.2.2.2.1 x17 x2 s24 _ hw) cw_Mod_minutesOf ml_Mod_101 rfl (by decide) (by decide) rfl rfl rfl ⟨rfl, rfl, Nat.le_of_ble_eq_true rfl, Nat.le_of_ble_eq_true rfl⟩ ⟨Nat.zero_le _, Nat.zero_le _⟩ rfl (Nat.le_of_ble_eq_true rfl) d_Mod_goesWay_126 ?_
              rintro _ _ ⟨x25, rfl, rfl, hw⟩
              show V X _ _ _ _ 129 [some (.ref (xa X 82)), some (.int x1), some (.int x2), some (.int x3), some (.int x11), some (.int x17), some (.int x19)] [.int x25, .int (s24 82 4), .ref (xa X 82)]
              refine x_iload C d_Mod_goesWay_129 rfl ?_
              refine x_iconst (v := 1) C d_Mod_goesWay_131 rfl ?_
              obtain ⟨J28, hJ28, hw⟩ := hw
              have kJ28 : ∀ (x27 : Int32), J28 x27 → V X (xQ X (fun v s' => v = none ∧ Q s')) 0 0 s24 151 [some (.ref (xa X 82)), some (.int x1), some (.int x2), some (.int x3), some (.int x11), some (.int x17), some (.int x19)] [.int x27, .int x25, .int (s24 82 4), .ref (xa X 82)] := by
                intro x27 hv
                have hw := hJ28 x27 hv
                refine x_iadd C d_Mod_goesWay_151 ?_
                refine x_iadd C d_Mod_goesWay_152 ?_
                refine p_Mod_4 (p := 82) C rfl fl_Mod_91 d_Mod_goesWay_153 ?_
                refine x_st (fun s29 hs29 => ?_)
                have hw := hw s29 hs29
                obtain ⟨x30, hx30⟩ : ∃ z : Int32, z = x11 + 1 := ⟨_, rfl⟩
                refine x_iinc (v := x30) (L' := [some (.ref (xa X 82)), some (.int x1), some (.int x2), some (.int x3), some (.int x30), some (.int x17), some (.int x19)]) C d_Mod_goesWay_156 (Nat.le_of_ble_eq_true rfl) rfl (by rw [hx30]; rfl) rfl ?_
                have hw := hw x30 hx30
                refine x_goto (tgt := 9) C d_Mod_goesWay_159 (by decide) ?_
                obtain ⟨m31, hm31, hw⟩ := hw
                exact x_wk (ihI13 m31 hm31 x30 s29 hw) (And.intro rfl (And.intro rfl (And.intro rfl (And.intro rfl (And.intro rfl (trivial))))))
              refine x_icmp_ne (tgt := 139) C d_Mod_goesWay_132 (by decide) (fun c32 => ?_) (fun c32 => ?_)
              · have hw := hw.1 c32
                refine x_iload C d_Mod_goesWay_139 rfl ?_
                refine x_iconst (v := 2) C d_Mod_goesWay_141 rfl ?_
                refine x_icmp_ne (tgt := 150) C d_Mod_goesWay_142 (by decide) (fun c33 => ?_) (fun c33 => ?_)
                · have hw := hw.1 c33
                  refine x_iconst (v := 0) C d_Mod_goesWay_150 rfl ?_
                  exact x_wk (kJ28 0 hw) (And.intro rfl (And.intro rfl (And.intro rfl (And.intro rfl (And.intro rfl (And.intro rfl (And.intro rfl (trivial))))))))
                · have hw := hw.2 c33
                  refine x_bipush (v := 10) C d_Mod_goesWay_145 rfl ?_
                  refine x_goto (tgt := 151) C d_Mod_goesWay_147 (by decide) ?_
                  exact x_wk (kJ28 10 hw) (And.intro rfl (And.intro rfl (And.intro rfl (And.intro rfl (And.intro rfl (And.intro rfl (And.intro rfl (trivial))))))))
              · have hw := hw.2 c32
                refine x_iconst (v := 1) C d_Mod_goesWay_135 rfl ?_
                refine x_goto (tgt := 151) C d_Mod_goesWay_136 (by decide) ?_
                exact x_wk (kJ28 1 hw) (And.intro rfl (And.intro rfl (And.intro rfl (And.intro rfl (And.intro rfl (And.intro rfl (And.intro rfl (trivial))))))))
            refine x_icmp_ne (tgt := 112) C d_Mod_goesWay_105 (by decide) (fun c34 => ?_) (fun c34 => ?_)
            · have hw := hw.1 c34
              refine x_iconst (v := 0) C d_Mod_goesWay_112 rfl ?_
              exact x_wk (kJ23 0 hw) (And.intro rfl (And.intro rfl (And.intro rfl (And.intro rfl (And.intro rfl (And.intro rfl (And.intro rfl (trivial))))))))
            · have hw := hw.2 c34
              refine x_iconst (v := 1) C d_Mod_goesWay_108 rfl ?_
              refine x_goto (tgt := 113) C d_Mod_goesWay_109 (by decide) ?_
              exact x_wk (kJ23 1 hw) (And.intro rfl (And.intro rfl (And.intro rfl (And.intro rfl (And.intro rfl (And.intro rfl (And.intro rfl (trivial))))))))
          refine x_icmp_ne (tgt := 97) C d_Mod_goesWay_61 (by decide) (fun c35 => ?_) (fun c35 => ?_)
          · have hw := hw.1 c35
            exact x_wk (kJ21  hw) (And.intro rfl (And.intro rfl (And.intro rfl (And.intro rfl (And.intro rfl (And.intro rfl (And.intro rfl (trivial))))))))
          · have hw := hw.2 c35
            refine x_aload_n C d_Mod_goesWay_64 rfl ?_
            refine x_iload_n C d_Mod_goesWay_65 rfl ?_
            refine x_iload C d_Mod_goesWay_66 rfl ?_
            refine x_iconst (v := 1) C d_Mod_goesWay_68 rfl ?_
            refine x_callV (As := [.int x1, .int x17, .int 1]) (rest := []) (p := 82) C (m_Mod_sizeNow (xg X) C.2.2.2.2.2.2.1 x1 x17 1 s12 _ hw) cw_Mod_sizeNow ml_Mod_80 rfl (by decide) (by decide) rfl rfl rfl ⟨rfl, rfl, Nat.le_of_ble_eq_true rfl, Nat.le_of_ble_eq_true rfl⟩ ⟨Nat.zero_le _, Nat.zero_le _⟩ rfl (Nat.le_of_ble_eq_true rfl) d_Mod_goesWay_69 ?_
            rintro _ _ ⟨x36, rfl, rfl, hw⟩
            show V X _ _ _ _ 72 [some (.ref (xa X 82)), some (.int x1), some (.int x2), some (.int x3), some (.int x11), some (.int x17), some (.int x19)] [.int x36]
            refine x_aload_n C d_Mod_goesWay_72 rfl ?_
            refine x_iload C d_Mod_goesWay_73 rfl ?_
            refine x_aload_n C d_Mod_goesWay_75 rfl ?_
            refine g_Mod_4 (p := 82) C rfl fl_Mod_91 d_Mod_goesWay_76 ?_
            refine x_bipush (v := 60) C d_Mod_goesWay_79 rfl ?_
            refine x_idiv C d_Mod_goesWay_81 (by decide) ?_
            refine x_callV (As := [.int x17, .int ((s12 82 4) / 60)]) (rest := [.int x36]) (p := 82) C (m_Mod_roomOf (xg X) C.2.2.2.2.2.2.1 x17 ((s12 82 4) / 60) s12 _ hw) cw_Mod_roomOf ml_Mod_84 rfl (by decide) (by decide) rfl rfl rfl ⟨rfl, rfl, Nat.le_of_ble_eq_true rfl, Nat.le_of_ble_eq_true rfl⟩ ⟨Nat.zero_le _, Nat.zero_le _⟩ rfl (Nat.le_of_ble_eq_true rfl) d_Mod_goesWay_82 ?_
            rintro _ _ ⟨x38, rfl, rfl, hw⟩
            show V X _ _ _ _ 85 [some (.ref (xa X 82)), some (.int x1), some (.int x2), some (.int x3), some (.int x11), some (.int x17), some (.int x19)] [.int x38, .int x36]
            refine x_isub C d_Mod_goesWay_85 ?_
            refine x_iload_n C d_Mod_goesWay_86 rfl ?_
            refine x_icmp_le (tgt := 97) C d_Mod_goesWay_87 (by decide) (fun c40 => ?_) (fun c40 => ?_)
            · have hw := hw.1 c40
              exact x_wk (kJ21  hw) (And.intro rfl (And.intro rfl (And.intro rfl (And.intro rfl (And.intro rfl (And.intro rfl (And.intro rfl (trivial))))))))
            · have hw := hw.2 c40
              refine x_aload_n C d_Mod_goesWay_90 rfl ?_
              refine x_iload C d_Mod_goesWay_91 rfl ?_
              refine p_Mod_6 (p := 82) C rfl fl_Mod_87 d_Mod_goesWay_93 ?_
              refine x_st (fun s41 hs41 => ?_)
              have hw := hw s41 hs41
              exact x_return C d_Mod_goesWay_96 ⟨rfl, hw⟩
        refine x_if_eq (tgt := 38) C d_Mod_goesWay_21 (by decide) (fun c42 => ?_) (fun c42 => ?_)
        · have hw := hw.1 c42
          refine x_iload C d_Mod_goesWay_38 rfl ?_
          exact x_wk (kJ18 x11 hw) (And.intro rfl (And.intro rfl (And.intro rfl (And.intro rfl (And.intro rfl (trivial))))))
        · have hw := hw.2 c42
          refine x_aload_n C d_Mod_goesWay_24 rfl ?_
          refine g_Mod_0 (p := 82) C rfl fl_Mod_9 d_Mod_goesWay_25 ?_
          refine x_iconst (v := 0) C d_Mod_goesWay_28 rfl ?_
          obtain ⟨h43, hw⟩ := hw
          refine x_iald (p := 83) (n := 78) C rfl h43 d_Mod_goesWay_29 ?_
          refine x_iconst (v := 1) C d_Mod_goesWay_30 rfl ?_
          refine x_isub C d_Mod_goesWay_31 ?_
          refine x_iload C d_Mod_goesWay_32 rfl ?_
          refine x_isub C d_Mod_goesWay_34 ?_
          refine x_goto (tgt := 40) C d_Mod_goesWay_35 (by decide) ?_
          exact x_wk (kJ18 (((s12 83 (Int32.toNatClampNeg 0)) - 1) - x11) hw) (And.intro rfl (And.intro rfl (And.intro rfl (And.intro rfl (And.intro rfl (trivial))))))
  exact x_wk (lI13 n14 0 s10 hn14) (And.intro rfl (And.intro rfl (And.intro rfl (And.intro rfl (And.intro rfl (trivial))))))
def vc_Mod_wayAlone (x1 : Int32) (x2 : Int32) (s : St) (Q : St → Prop) : Prop :=
    (vp_in 2 78 ∧ (∀ s11 : St, s11 = wr s 82 4 (s 83 (Int32.toNatClampNeg 2)) → (∀ s12 : St, s12 = wr s11 82 5 0 → vc_Mod_goesWay x1 x2 0 s12 (fun s13 => Q s13))))
def rm_Mod_wayAlone : Room := { frames := 6, cells := 0, slots := 0, locals := 141 }
set_option maxHeartbeats 4000000 in
set_option maxRecDepth 20000 in
theorem m_Mod_wayAlone (g : Gx) (hg : gOk g) (x1 : Int32) (x2 : Int32)  (s : St) (Q : St → Prop) (hw : vc_Mod_wayAlone x1 x2 s Q) : Mc g y_Mod_wayAlone b_Mod_wayAlone 3 (none) rm_Mod_wayAlone [.ref (ga g 82), .int x1, .int x2] s (fun v s' => v = none ∧ Q s') := by
  refine mc_ofV (j := 0) (L := [some (.ref (ga g 82)), some (.int x1), some (.int x2)]) hg (by decide) (Nat.le_of_ble_eq_true rfl) rfl ?_
  intro X hX C
  subst hX
  unfold vc_Mod_wayAlone at hw
  refine x_aload_n C d_Mod_wayAlone_0 rfl ?_
  refine x_aload_n C d_Mod_wayAlone_1 rfl ?_
  refine g_Mod_0 (p := 82) C rfl fl_Mod_9 d_Mod_wayAlone_2 ?_
  refine x_iconst (v := 2) C d_Mod_wayAlone_5 rfl ?_
  obtain ⟨h10, hw⟩ := hw
  refine x_iald (p := 83) (n := 78) C rfl h10 d_Mod_wayAlone_6 ?_
  refine p_Mod_4 (p := 82) C rfl fl_Mod_91 d_Mod_wayAlone_7 ?_
  refine x_st (fun s11 hs11 => ?_)
  have hw := hw s11 hs11
  refine x_aload_n C d_Mod_wayAlone_10 rfl ?_
  refine x_iconst (v := 0) C d_Mod_wayAlone_11 rfl ?_
  refine p_Mod_5 (p := 82) C rfl fl_Mod_98 d_Mod_wayAlone_12 ?_
  refine x_st (fun s12 hs12 => ?_)
  have hw := hw s12 hs12
  refine x_aload_n C d_Mod_wayAlone_15 rfl ?_
  refine x_iload_n C d_Mod_wayAlone_16 rfl ?_
  refine x_iload_n C d_Mod_wayAlone_17 rfl ?_
  refine x_iconst (v := 0) C d_Mod_wayAlone_18 rfl ?_
  refine x_callV (As := [.int x1, .int x2, .int 0]) (rest := []) (p := 82) C (m_Mod_goesWay (xg X) C.2.2.2.2.2.2.1 x1 x2 0 s12 _ hw) cw_Mod_goesWay ml_Mod_105 rfl (by decide) (by decide) rfl rfl rfl ⟨rfl, rfl, Nat.le_of_ble_eq_true rfl, Nat.le_of_ble_eq_true rfl⟩ ⟨Nat.zero_le _, Nat.zero_le _⟩ rfl (Nat.le_of_ble_eq_true rfl) d_Mod_wayAlone_19 ?_
  rintro _ s13 ⟨rfl, hw⟩
  show V X _ _ _ _ 22 [some (.ref (xa X 82)), some (.int x1), some (.int x2)] []
  exact x_return C d_Mod_wayAlone_22 ⟨rfl, hw⟩
def vc_Mod_lines  (s : St) (Q : St → Prop) : Prop :=
    (∀ s10 : St, s10 = wr s 82 18 0 → (∃ I13 : Nat → Int32 → St → Prop, (∃ n14, I13 n14 0 s10) ∧ ∀ (nI13 : Nat) (x11 : Int32) (s12 : St), I13 nI13 x11 s12 → (vp_in 1 78 ∧ (((s12 83 (Int32.toNatClampNeg 1)) ≤ x11 → Q s12) ∧ (¬ (s12 83 (Int32.toNatClampNeg 1)) ≤ x11 → (vp_in (72 + x11) 78 ∧ (∃ J19 : St → Prop, (∀ (s18 : St), J19 s18 → (∀ x20 : Int32, x20 = x11 + 1 → ∃ m21, m21 < nI13 ∧ I13 m21 x20 s18)) ∧ ((¬ (((s12 82 7) >>> ((s12 83 (Int32.toNatClampNeg (72 + x11))) &&& 31)) &&& 1) = 1 → (vp_in (72 + x11) 78 ∧ (vp_in (s12 82 18) 6 ∧ (∀ s25 : St, s25 = wr s12 87 (Int32.toNatClampNeg (s12 82 18)) (s12 83 (Int32.toNatClampNeg (72 + x11))) → (∀ s26 : St, s26 = wr s25 82 18 ((s25 82 18) + 1) → J19 s26))))) ∧ ((((s12 82 7) >>> ((s12 83 (Int32.toNatClampNeg (72 + x11))) &&& 31)) &&& 1) = 1 → J19 s12)))))))))
def rm_Mod_lines : Room := { frames := 0, cells := 0, slots := 0, locals := 0 }
set_option maxHeartbeats 4000000 in
set_option maxRecDepth 20000 in
theorem m_Mod_lines (g : Gx) (hg : gOk g)   (s : St) (Q : St → Prop) (hw : vc_Mod_lines  s Q) : Mc g y_Mod_lines b_Mod_lines 2 (none) rm_Mod_lines [.ref (ga g 82)] s (fun v s' => v = none ∧ Q s') := by
  refine mc_ofV (j := 1) (L := [some (.ref (ga g 82)), none]) hg (by decide) (Nat.le_of_ble_eq_true rfl) rfl ?_
  intro X hX C
  subst hX
  unfold vc_Mod_lines at hw
  refine x_aload_n C d_Mod_lines_0 rfl ?_
  refine x_iconst (v := 0) C d_Mod_lines_1 rfl ?_
  refine p_Mod_18 (p := 82) C rfl fl_Mod_109 d_Mod_lines_2 ?_
  refine x_st (fun s10 hs10 => ?_)
  have hw := hw s10 hs10
  refine x_iconst (v := 0) C d_Mod_lines_5 rfl ?_
  refine x_istore_n (L' := [some (.ref (xa X 82)), some (.int 0)]) C d_Mod_lines_6 (Nat.le_of_ble_eq_true rfl) rfl ?_
  obtain ⟨I13, ⟨n14, hn14⟩, hI13⟩ := hw
  have lI13 : ∀ (nI13 : Nat) (x11 : Int32) (s12 : St), I13 nI13 x11 s12 → V X (xQ X (fun v s' => v = none ∧ Q s')) 0 0 s12 7 [some (.ref (xa X 82)), some (.int x11)] [] := by
    intro nI13
    induction nI13 using Nat.strongRecOn with
    | ind nI13 ihI13 =>
      intro x11 s12 hv
      have hw := hI13 nI13 x11 s12 hv
      refine x_iload_n C d_Mod_lines_7 rfl ?_
      refine x_aload_n C d_Mod_lines_8 rfl ?_
      refine g_Mod_0 (p := 82) C rfl fl_Mod_9 d_Mod_lines_9 ?_
      refine x_iconst (v := 1) C d_Mod_lines_12 rfl ?_
      obtain ⟨h15, hw⟩ := hw
      refine x_iald (p := 83) (n := 78) C rfl h15 d_Mod_lines_13 ?_
      refine x_icmp_ge (tgt := 74) C d_Mod_lines_14 (by decide) (fun c16 => ?_) (fun c16 => ?_)
      · have hw := hw.1 c16
        exact x_return C d_Mod_lines_74 ⟨rfl, hw⟩
      · have hw := hw.2 c16
        refine x_aload_n C d_Mod_lines_17 rfl ?_
        refine g_Mod_7 (p := 82) C rfl fl_Mod_112 d_Mod_lines_18 ?_
        refine x_aload_n C d_Mod_lines_21 rfl ?_
        refine g_Mod_0 (p := 82) C rfl fl_Mod_9 d_Mod_lines_22 ?_
        refine x_bipush (v := 72) C d_Mod_lines_25 rfl ?_
        refine x_iload_n C d_Mod_lines_27 rfl ?_
        refine x_iadd C d_Mod_lines_28 ?_
        obtain ⟨h17, hw⟩ := hw
        refine x_iald (p := 83) (n := 78) C rfl h17 d_Mod_lines_29 ?_
        refine x_ishr C d_Mod_lines_30 ?_
        refine x_iconst (v := 1) C d_Mod_lines_31 rfl ?_
        refine x_iand C d_Mod_lines_32 ?_
        refine x_iconst (v := 1) C d_Mod_lines_33 rfl ?_
        obtain ⟨J19, hJ19, hw⟩ := hw
        have kJ19 : ∀ (s18 : St), J19 s18 → V X (xQ X (fun v s' => v = none ∧ Q s')) 0 0 s18 68 [some (.ref (xa X 82)), some (.int x11)] [] := by
          intro s18 hv
          have hw := hJ19 s18 hv
          obtain ⟨x20, hx20⟩ : ∃ z : Int32, z = x11 + 1 := ⟨_, rfl⟩
          refine x_iinc (v := x20) (L' := [some (.ref (xa X 82)), some (.int x20)]) C d_Mod_lines_68 (Nat.le_of_ble_eq_true rfl) rfl (by rw [hx20]; rfl) rfl ?_
          have hw := hw x20 hx20
          refine x_goto (tgt := 7) C d_Mod_lines_71 (by decide) ?_
          obtain ⟨m21, hm21, hw⟩ := hw
          exact x_wk (ihI13 m21 hm21 x20 s18 hw) (And.intro rfl (And.intro rfl (trivial)))
        refine x_icmp_ne (tgt := 40) C d_Mod_lines_34 (by decide) (fun c22 => ?_) (fun c22 => ?_)
        · have hw := hw.1 c22
          refine x_aload_n C d_Mod_lines_40 rfl ?_
          refine g_Mod_17 (p := 82) C rfl fl_Mod_22 d_Mod_lines_41 ?_
          refine x_aload_n C d_Mod_lines_44 rfl ?_
          refine g_Mod_18 (p := 82) C rfl fl_Mod_109 d_Mod_lines_45 ?_
          refine x_aload_n C d_Mod_lines_48 rfl ?_
          refine g_Mod_0 (p := 82) C rfl fl_Mod_9 d_Mod_lines_49 ?_
          refine x_bipush (v := 72) C d_Mod_lines_52 rfl ?_
          refine x_iload_n C d_Mod_lines_54 rfl ?_
          refine x_iadd C d_Mod_lines_55 ?_
          obtain ⟨h23, hw⟩ := hw
          refine x_iald (p := 83) (n := 78) C rfl h23 d_Mod_lines_56 ?_
          obtain ⟨h24, hw⟩ := hw
          refine x_iast (p := 87) (n := 6) C rfl h24 d_Mod_lines_57 ?_
          refine x_st (fun s25 hs25 => ?_)
          have hw := hw s25 hs25
          refine x_aload_n C d_Mod_lines_58 rfl ?_
          refine x_dup C d_Mod_lines_59 rfl ?_
          refine g_Mod_18 (p := 82) C rfl fl_Mod_109 d_Mod_lines_60 ?_
          refine x_iconst (v := 1) C d_Mod_lines_63 rfl ?_
          refine x_iadd C d_Mod_lines_64 ?_
          refine p_Mod_18 (p := 82) C rfl fl_Mod_109 d_Mod_lines_65 ?_
          refine x_st (fun s26 hs26 => ?_)
          have hw := hw s26 hs26
          exact x_wk (kJ19 s26 hw) (And.intro rfl (And.intro rfl (trivial)))
        · have hw := hw.2 c22
          refine x_goto (tgt := 68) C d_Mod_lines_37 (by decide) ?_
          exact x_wk (kJ19 s12 hw) (And.intro rfl (And.intro rfl (trivial)))
  exact x_wk (lI13 n14 0 s10 hn14) (And.intro rfl (And.intro rfl (trivial)))
def vc_Mod_pulled (x1 : Int32) (x2 : Int32) (s : St) (Q : Int32 → Prop) : Prop :=
    (∃ I12 : Nat → Int32 → Int32 → Prop, (∃ n13, I12 n13 0 x1) ∧ ∀ (nI12 : Nat) (x10 : Int32) (x11 : Int32), I12 nI12 x10 x11 → ((x2 ≤ x11 → Q (x10 / 3)) ∧ (¬ x2 ≤ x11 → (vp_in x11 6 ∧ vc_Mod_of (s 87 (Int32.toNatClampNeg x11)) 3 s (fun x16 => vc_Mod_most x10 x16 (fun x18 => (∀ x20 : Int32, x20 = x11 + 1 → ∃ m21, m21 < nI12 ∧ I12 m21 x18 x20)))))))
def rm_Mod_pulled : Room := { frames := 2, cells := 0, slots := 0, locals := 43 }
set_option maxHeartbeats 4000000 in
set_option maxRecDepth 20000 in
theorem m_Mod_pulled (g : Gx) (hg : gOk g) (x1 : Int32) (x2 : Int32)  (s : St) (Q : Int32 → Prop) (hw : vc_Mod_pulled x1 x2 s Q) : Mc g y_Mod_pulled b_Mod_pulled 5 (some FieldType.int) rm_Mod_pulled [.ref (ga g 82), .int x1, .int x2] s (fun v s' => ∃ r : Int32, v = some (.int r) ∧ s = s' ∧ Q r) := by
  refine mc_ofV (j := 2) (L := [some (.ref (ga g 82)), some (.int x1), some (.int x2), none, none]) hg (by decide) (Nat.le_of_ble_eq_true rfl) rfl ?_
  intro X hX C
  subst hX
  unfold vc_Mod_pulled at hw
  refine x_iconst (v := 0) C d_Mod_pulled_0 rfl ?_
  refine x_istore_n (L' := [some (.ref (xa X 82)), some (.int x1), some (.int x2), some (.int 0), none]) C d_Mod_pulled_1 (Nat.le_of_ble_eq_true rfl) rfl ?_
  refine x_iload_n C d_Mod_pulled_2 rfl ?_
  refine x_istore (L' := [some (.ref (xa X 82)), some (.int x1), some (.int x2), some (.int 0), some (.int x1)]) C d_Mod_pulled_3 (Nat.le_of_ble_eq_true rfl) rfl ?_
  obtain ⟨I12, ⟨n13, hn13⟩, hI12⟩ := hw
  have lI12 : ∀ (nI12 : Nat) (x10 : Int32) (x11 : Int32), I12 nI12 x10 x11 → V X (xQ X (fun v s' => ∃ r : Int32, v = some (.int r) ∧ s = s' ∧ Q r)) 0 0 s 5 [some (.ref (xa X 82)), some (.int x1), some (.int x2), some (.int x10), some (.int x11)] [] := by
    intro nI12
    induction nI12 using Nat.strongRecOn with
    | ind nI12 ihI12 =>
      intro x10 x11 hv
      have hw := hI12 nI12 x10 x11 hv
      refine x_iload C d_Mod_pulled_5 rfl ?_
      refine x_iload_n C d_Mod_pulled_7 rfl ?_
      refine x_icmp_ge (tgt := 34) C d_Mod_pulled_8 (by decide) (fun c14 => ?_) (fun c14 => ?_)
      · have hw := hw.1 c14
        refine x_iload_n C d_Mod_pulled_34 rfl ?_
        refine x_iconst (v := 3) C d_Mod_pulled_35 rfl ?_
        refine x_idiv C d_Mod_pulled_36 (by decide) ?_
        exact x_ireturn C d_Mod_pulled_37 ⟨_, rfl, rfl, hw⟩
      · have hw := hw.2 c14
        refine x_iload_n C d_Mod_pulled_11 rfl ?_
        refine x_aload_n C d_Mod_pulled_12 rfl ?_
        refine x_aload_n C d_Mod_pulled_13 rfl ?_
        refine g_Mod_17 (p := 82) C rfl fl_Mod_22 d_Mod_pulled_14 ?_
        refine x_iload C d_Mod_pulled_17 rfl ?_
        obtain ⟨h15, hw⟩ := hw
        refine x_iald (p := 87) (n := 6) C rfl h15 d_Mod_pulled_19 ?_
        refine x_iconst (v := 3) C d_Mod_pulled_20 rfl ?_
        refine x_callV (As := [.int (s 87 (Int32.toNatClampNeg x11)), .int 3]) (rest := [.int x10]) (p := 82) C (m_Mod_of (xg X) C.2.2.2.2.2.2.1 (s 87 (Int32.toNatClampNeg x11)) 3 s _ hw) cw_Mod_of ml_Mod_73 rfl (by decide) (by decide) rfl rfl rfl ⟨rfl, rfl, Nat.le_of_ble_eq_true rfl, Nat.le_of_ble_eq_true rfl⟩ ⟨Nat.zero_le _, Nat.zero_le _⟩ rfl (Nat.le_of_ble_eq_true rfl) d_Mod_pulled_21 ?_
        rintro _ _ ⟨x16, rfl, rfl, hw⟩
        show V X _ _ _ _ 24 [some (.ref (xa X 82)), some (.int x1), some (.int x2), some (.int x10), some (.int x11)] [.int x16, .int x10]
        refine x_callS (As := [.int x10, .int x16]) (rest := []) C (m_Mod_most (xg X) C.2.2.2.2.2.2.1 x10 x16 s _ hw) cw_Mod_most ml_Mod_66 rfl ⟨rfl, rfl, Nat.le_of_ble_eq_true rfl, Nat.le_of_ble_eq_true rfl⟩ ⟨Nat.zero_le _, Nat.zero_le _⟩ rfl (Nat.le_of_ble_eq_true rfl) d_Mod_pulled_24 ?_
        rintro _ _ ⟨x18, rfl, rfl, hw⟩
        show V X _ _ _ _ 27 [some (.ref (xa X 82)), some (.int x1), some (.int x2), some (.int x10), some (.int x11)] [.int x18]
        refine x_istore_n (L' := [some (.ref (xa X 82)), some (.int x1), some (.int x2), some (.int x18), some (.int x11)]) C d_Mod_pulled_27 (Nat.le_of_ble_eq_true rfl) rfl ?_
        obtain ⟨x20, hx20⟩ : ∃ z : Int32, z = x11 + 1 := ⟨_, rfl⟩
        refine x_iinc (v := x20) (L' := [some (.ref (xa X 82)), some (.int x1), some (.int x2), some (.int x18), some (.int x20)]) C d_Mod_pulled_28 (Nat.le_of_ble_eq_true rfl) rfl (by rw [hx20]; rfl) rfl ?_
        have hw := hw x20 hx20
        refine x_goto (tgt := 5) C d_Mod_pulled_31 (by decide) ?_
        obtain ⟨m21, hm21, hw⟩ := hw
        exact x_wk (ihI12 m21 hm21 x18 x20 hw) (And.intro rfl (And.intro rfl (And.intro rfl (And.intro rfl (And.intro rfl (trivial))))))
  exact x_wk (lI12 n13 0 x1 hn13) (And.intro rfl (And.intro rfl (And.intro rfl (And.intro rfl (And.intro rfl (trivial))))))
def vc_Mod_goesThere  (s : St) (Q : St → Prop) : Prop :=
    vc_Mod_lines  s (fun s10 => (∀ s11 : St, s11 = wr s10 82 8 0 → (∀ s12 : St, s12 = wr s11 82 9 (-4) → (∀ s13 : St, s13 = wr s12 82 10 (-4) → (vp_in 2 78 ∧ (∀ s15 : St, s15 = wr s13 82 4 (s13 83 (Int32.toNatClampNeg 2)) → (∀ s16 : St, s16 = wr s15 82 5 0 → (∃ I19 : Nat → Int32 → St → Prop, (∃ n20, I19 n20 0 s16) ∧ ∀ (nI19 : Nat) (x17 : Int32) (s18 : St), I19 nI19 x17 s18 → (∃ J21 : Prop, (J21 → (∀ s22 : St, s22 = wr s18 82 13 (s18 82 4) → (∀ s23 : St, s23 = wr s22 82 14 (s22 82 5) → Q s23))) ∧ (((s18 82 18) ≤ x17 → J21) ∧ (¬ (s18 82 18) ≤ x17 → ((0 ≤ (s18 82 9) → J21) ∧ (¬ 0 ≤ (s18 82 9) → (∃ J27 : Int32 → Prop, (∀ (x26 : Int32), J27 x26 → (vp_in x17 6 ∧ vc_Mod_pulled 0 x17 s18 (fun x29 => vc_Mod_goesWay (s18 87 (Int32.toNatClampNeg x17)) 0 (x29 + x26) s18 (fun s31 => (∃ J33 : St → Prop, (∀ (s32 : St), J33 s32 → (∀ x34 : Int32, x34 = x17 + 1 → ∃ m35, m35 < nI19 ∧ I19 m35 x34 s32)) ∧ (((s31 82 6) < 0 → (vp_in x17 6 ∧ (∀ s38 : St, s38 = wr s31 82 8 ((s31 82 8) ||| (1 <<< ((s31 87 (Int32.toNatClampNeg x17)) &&& 31))) → (vp_in x17 6 ∧ (∀ s40 : St, s40 = wr s38 86 (Int32.toNatClampNeg x17) (s38 82 4) → J33 s40))))) ∧ (¬ (s31 82 6) < 0 → (vp_in x17 6 ∧ (∀ s42 : St, s42 = wr s31 82 9 (s31 87 (Int32.toNatClampNeg x17)) → (∀ s43 : St, s43 = wr s42 82 10 (s42 82 6) → J33 s43)))))))))) ∧ (((s18 82 18) ≤ (x17 + 1) → J27 0) ∧ (¬ (s18 82 18) ≤ (x17 + 1) → (vp_in (x17 + 1) 6 ∧ vc_Mod_of (s18 87 (Int32.toNatClampNeg (x17 + 1))) 3 s18 (fun x46 => J27 (x46 / 3)))))))))))))))))))
def rm_Mod_goesThere : Room := { frames := 6, cells := 0, slots := 0, locals := 141 }
set_option maxHeartbeats 4000000 in
set_option maxRecDepth 20000 in
theorem m_Mod_goesThere (g : Gx) (hg : gOk g)   (s : St) (Q : St → Prop) (hw : vc_Mod_goesThere  s Q) : Mc g y_Mod_goesThere b_Mod_goesThere 3 (none) rm_Mod_goesThere [.ref (ga g 82)] s (fun v s' => v = none ∧ Q s') := by
  refine mc_ofV (j := 2) (L := [some (.ref (ga g 82)), none, none]) hg (by decide) (Nat.le_of_ble_eq_true rfl) rfl ?_
  intro X hX C
  subst hX
  unfold vc_Mod_goesThere at hw
  refine x_aload_n C d_Mod_goesThere_0 rfl ?_
  refine x_callV (As := []) (rest := []) (p := 82) C (m_Mod_lines (xg X) C.2.2.2.2.2.2.1  s _ hw) cw_Mod_lines ml_Mod_115 rfl (by decide) (by decide) rfl rfl rfl ⟨rfl, rfl, Nat.le_of_ble_eq_true rfl, Nat.le_of_ble_eq_true rfl⟩ ⟨Nat.zero_le _, Nat.zero_le _⟩ rfl (Nat.le_of_ble_eq_true rfl) d_Mod_goesThere_1 ?_
  rintro _ s10 ⟨rfl, hw⟩
  show V X _ _ _ _ 4 [some (.ref (xa X 82)), none, none] []
  refine x_aload_n C d_Mod_goesThere_4 rfl ?_
  refine x_iconst (v := 0) C d_Mod_goesThere_5 rfl ?_
  refine p_Mod_8 (p := 82) C rfl fl_Mod_118 d_Mod_goesThere_6 ?_
  refine x_st (fun s11 hs11 => ?_)
  have hw := hw s11 hs11
  refine x_aload_n C d_Mod_goesThere_9 rfl ?_
  refine x_bipush (v := (-4)) C d_Mod_goesThere_10 rfl ?_
  refine p_Mod_9 (p := 82) C rfl fl_Mod_121 d_Mod_goesThere_12 ?_
  refine x_st (fun s12 hs12 => ?_)
  have hw := hw s12 hs12
  refine x_aload_n C d_Mod_goesThere_15 rfl ?_
  refine x_bipush (v := (-4)) C d_Mod_goesThere_16 rfl ?_
  refine p_Mod_10 (p := 82) C rfl fl_Mod_124 d_Mod_goesThere_18 ?_
  refine x_st (fun s13 hs13 => ?_)
  have hw := hw s13 hs13
  refine x_aload_n C d_Mod_goesThere_21 rfl ?_
  refine x_aload_n C d_Mod_goesThere_22 rfl ?_
  refine g_Mod_0 (p := 82) C rfl fl_Mod_9 d_Mod_goesThere_23 ?_
  refine x_iconst (v := 2) C d_Mod_goesThere_26 rfl ?_
  obtain ⟨h14, hw⟩ := hw
  refine x_iald (p := 83) (n := 78) C rfl h14 d_Mod_goesThere_27 ?_
  refine p_Mod_4 (p := 82) C rfl fl_Mod_91 d_Mod_goesThere_28 ?_
  refine x_st (fun s15 hs15 => ?_)
  have hw := hw s15 hs15
  refine x_aload_n C d_Mod_goesThere_31 rfl ?_
  refine x_iconst (v := 0) C d_Mod_goesThere_32 rfl ?_
  refine p_Mod_5 (p := 82) C rfl fl_Mod_98 d_Mod_goesThere_33 ?_
  refine x_st (fun s16 hs16 => ?_)
  have hw := hw s16 hs16
  refine x_iconst (v := 0) C d_Mod_goesThere_36 rfl ?_
  refine x_istore_n (L' := [some (.ref (xa X 82)), some (.int 0), none]) C d_Mod_goesThere_37 (Nat.le_of_ble_eq_true rfl) rfl ?_
  obtain ⟨I19, ⟨n20, hn20⟩, hI19⟩ := hw
  have lI19 : ∀ (nI19 : Nat) (x17 : Int32) (s18 : St), I19 nI19 x17 s18 → V X (xQ X (fun v s' => v = none ∧ Q s')) 0 0 s18 38 [some (.ref (xa X 82)), some (.int x17), none] [] := by
    intro nI19
    induction nI19 using Nat.strongRecOn with
    | ind nI19 ihI19 =>
      intro x17 s18 hv
      have hw := hI19 nI19 x17 s18 hv
      refine x_iload_n C d_Mod_goesThere_38 rfl ?_
      refine x_aload_n C d_Mod_goesThere_39 rfl ?_
      refine g_Mod_18 (p := 82) C rfl fl_Mod_109 d_Mod_goesThere_40 ?_
      obtain ⟨J21, hJ21, hw⟩ := hw
      have kJ21 : J21 → V X (xQ X (fun v s' => v = none ∧ Q s')) 0 0 s18 163 [some (.ref (xa X 82)), some (.int x17), none] [] := by
        intro  hv
        have hw := hJ21  hv
        refine x_aload_n C d_Mod_goesThere_163 rfl ?_
        refine x_aload_n C d_Mod_goesThere_164 rfl ?_
        refine g_Mod_4 (p := 82) C rfl fl_Mod_91 d_Mod_goesThere_165 ?_
        refine p_Mod_13 (p := 82) C rfl fl_Mod_130 d_Mod_goesThere_168 ?_
        refine x_st (fun s22 hs22 => ?_)
        have hw := hw s22 hs22
        refine x_aload_n C d_Mod_goesThere_171 rfl ?_
        refine x_aload_n C d_Mod_goesThere_172 rfl ?_
        refine g_Mod_5 (p := 82) C rfl fl_Mod_98 d_Mod_goesThere_173 ?_
        refine p_Mod_14 (p := 82) C rfl fl_Mod_133 d_Mod_goesThere_176 ?_
        refine x_st (fun s23 hs23 => ?_)
        have hw := hw s23 hs23
        exact x_return C d_Mod_goesThere_179 ⟨rfl, hw⟩
      refine x_icmp_ge (tgt := 163) C d_Mod_goesThere_43 (by decide) (fun c24 => ?_) (fun c24 => ?_)
      · have hw := hw.1 c24
        exact x_wk (kJ21  hw) (And.intro rfl (And.intro rfl (trivial)))
      · have hw := hw.2 c24
        refine x_aload_n C d_Mod_goesThere_46 rfl ?_
        refine g_Mod_9 (p := 82) C rfl fl_Mod_121 d_Mod_goesThere_47 ?_
        refine x_if_ge (tgt := 163) C d_Mod_goesThere_50 (by decide) (fun c25 => ?_) (fun c25 => ?_)
        · have hw := hw.1 c25
          exact x_wk (kJ21  hw) (And.intro rfl (And.intro rfl (trivial)))
        · have hw := hw.2 c25
          refine x_iload_n C d_Mod_goesThere_53 rfl ?_
          refine x_iconst (v := 1) C d_Mod_goesThere_54 rfl ?_
          refine x_iadd C d_Mod_goesThere_55 ?_
          refine x_aload_n C d_Mod_goesThere_56 rfl ?_
          refine g_Mod_18 (p := 82) C rfl fl_Mod_109 d_Mod_goesThere_57 ?_
          obtain ⟨J27, hJ27, hw⟩ := hw
          have kJ27 : ∀ (x26 : Int32), J27 x26 → V X (xQ X (fun v s' => v = none ∧ Q s')) 0 0 s18 82 [some (.ref (xa X 82)), some (.int x17), none] [.int x26] := by
            intro x26 hv
            have hw := hJ27 x26 hv
            refine x_istore_n (L' := [some (.ref (xa X 82)), some (.int x17), some (.int x26)]) C d_Mod_goesThere_82 (Nat.le_of_ble_eq_true rfl) rfl ?_
            refine x_aload_n C d_Mod_goesThere_83 rfl ?_
            refine x_aload_n C d_Mod_goesThere_84 rfl ?_
            refine g_Mod_17 (p := 82) C rfl fl_Mod_22 d_Mod_goesThere_85 ?_
            refine x_iload_n C d_Mod_goesThere_88 rfl ?_
            obtain ⟨h28, hw⟩ := hw
            refine x_iald (p := 87) (n := 6) C rfl h28 d_Mod_goesThere_89 ?_
            refine x_iconst (v := 0) C d_Mod_goesThere_90 rfl ?_
            refine x_aload_n C d_Mod_goesThere_91 rfl ?_
            refine x_iconst (v := 0) C d_Mod_goesThere_92 rfl ?_
            refine x_iload_n C d_Mod_goesThere_93 rfl ?_
            refine x_callV (As := [.int 0, .int x17]) (rest := [.int 0, .int (s18 87 (Int32.toNatClampNeg x17)), .ref (xa X 82)]) (p := 82) C (m_Mod_pulled (xg X) C.2.2.2.2.2.2.1 0 x17 s18 _ hw) cw_Mod_pulled ml_Mod_127 rfl (by decide) (by decide) rfl rfl rfl ⟨rfl, rfl, Nat.le_of_ble_eq_true rfl, Nat.le_of_ble_eq_true rfl⟩ ⟨Nat.zero_le _, Nat.zero_le _⟩ rfl (Nat.le_of_ble_eq_true rfl) d_Mod_goesThere_94 ?_
            rintro _ _ ⟨x29, rfl, rfl, hw⟩
            show V X _ _ _ _ 97 [some (.ref (xa X 82)), some (.int x17), some (.int x26)] [.int x29, .int 0, .int (s18 87 (Int32.toNatClampNeg x17)), .ref (xa X 82)]
            refine x_iload_n C d_Mod_goesThere_97 rfl ?_
            refine x_iadd C d_Mod_goesThere_98 ?_
            refine x_callV (As := [.int (s18 87 (Int32.toNatClampNeg x17)), .int 0, .int (x29 + x26)]) (rest := []) (p := 82) C (m_Mod_goesWay (xg X) C.2.2.2.2.2.2.1 (s18 87 (Int32.toNatClampNeg x17)) 0 (x29 + x26) s18 _ hw) cw_Mod_goesWay ml_Mod_105 rfl (by decide) (by decide) rfl rfl rfl ⟨rfl, rfl, Nat.le_of_ble_eq_true rfl, Nat.le_of_ble_eq_true rfl⟩ ⟨Nat.zero_le _, Nat.zero_le _⟩ rfl (Nat.le_of_ble_eq_true rfl) d_Mod_goesThere_99 ?_
            rintro _ s31 ⟨rfl, hw⟩
            show V X _ _ _ _ 102 [some (.ref (xa X 82)), some (.int x17), some (.int x26)] []
            refine x_aload_n C d_Mod_goesThere_102 rfl ?_
            refine g_Mod_6 (p := 82) C rfl fl_Mod_87 d_Mod_goesThere_103 ?_
            obtain ⟨J33, hJ33, hw⟩ := hw
            have kJ33 : ∀ (s32 : St), J33 s32 → V X (xQ X (fun v s' => v = none ∧ Q s')) 0 0 s32 157 [some (.ref (xa X 82)), some (.int x17), some (.int x26)] [] := by
              intro s32 hv
              have hw := hJ33 s32 hv
              obtain ⟨x34, hx34⟩ : ∃ z : Int32, z = x17 + 1 := ⟨_, rfl⟩
              refine x_iinc (v := x34) (L' := [some (.ref (xa X 82)), some (.int x34), some (.int x26)]) C d_Mod_goesThere_157 (Nat.le_of_ble_eq_true rfl) rfl (by rw [hx34]; rfl) rfl ?_
              have hw := hw x34 hx34
              refine x_goto (tgt := 38) C d_Mod_goesThere_160 (by decide) ?_
              obtain ⟨m35, hm35, hw⟩ := hw
              exact x_wk (ihI19 m35 hm35 x34 s32 hw) (And.intro rfl (And.intro rfl (trivial)))
            refine x_if_lt (tgt := 130) C d_Mod_goesThere_106 (by decide) (fun c36 => ?_) (fun c36 => ?_)
            · have hw := hw.1 c36
              refine x_aload_n C d_Mod_goesThere_130 rfl ?_
              refine x_dup C d_Mod_goesThere_131 rfl ?_
              refine g_Mod_8 (p := 82) C rfl fl_Mod_118 d_Mod_goesThere_132 ?_
              refine x_iconst (v := 1) C d_Mod_goesThere_135 rfl ?_
              refine x_aload_n C d_Mod_goesThere_136 rfl ?_
              refine g_Mod_17 (p := 82) C rfl fl_Mod_22 d_Mod_goesThere_137 ?_
              refine x_iload_n C d_Mod_goesThere_140 rfl ?_
              obtain ⟨h37, hw⟩ := hw
              refine x_iald (p := 87) (n := 6) C rfl h37 d_Mod_goesThere_141 ?_
              refine x_ishl C d_Mod_goesThere_142 ?_
              refine x_ior C d_Mod_goesThere_143 ?_
              refine p_Mod_8 (p := 82) C rfl fl_Mod_118 d_Mod_goesThere_144 ?_
              refine x_st (fun s38 hs38 => ?_)
              have hw := hw s38 hs38
              refine x_aload_n C d_Mod_goesThere_147 rfl ?_
              refine g_Mod_16 (p := 82) C rfl fl_Mod_19 d_Mod_goesThere_148 ?_
              refine x_iload_n C d_Mod_goesThere_151 rfl ?_
              refine x_aload_n C d_Mod_goesThere_152 rfl ?_
              refine g_Mod_4 (p := 82) C rfl fl_Mod_91 d_Mod_goesThere_153 ?_
              obtain ⟨h39, hw⟩ := hw
              refine x_iast (p := 86) (n := 6) C rfl h39 d_Mod_goesThere_156 ?_
              refine x_st (fun s40 hs40 => ?_)
              have hw := hw s40 hs40
              exact x_wk (kJ33 s40 hw) (And.intro rfl (And.intro rfl (And.intro rfl (trivial))))
            · have hw := hw.2 c36
              refine x_aload_n C d_Mod_goesThere_109 rfl ?_
              refine x_aload_n C d_Mod_goesThere_110 rfl ?_
              refine g_Mod_17 (p := 82) C rfl fl_Mod_22 d_Mod_goesThere_111 ?_
              refine x_iload_n C d_Mod_goesThere_114 rfl ?_
              obtain ⟨h41, hw⟩ := hw
              refine x_iald (p := 87) (n := 6) C rfl h41 d_Mod_goesThere_115 ?_
              refine p_Mod_9 (p := 82) C rfl fl_Mod_121 d_Mod_goesThere_116 ?_
              refine x_st (fun s42 hs42 => ?_)
              have hw := hw s42 hs42
              refine x_aload_n C d_Mod_goesThere_119 rfl ?_
              refine x_aload_n C d_Mod_goesThere_120 rfl ?_
              refine g_Mod_6 (p := 82) C rfl fl_Mod_87 d_Mod_goesThere_121 ?_
              refine p_Mod_10 (p := 82) C rfl fl_Mod_124 d_Mod_goesThere_124 ?_
              refine x_st (fun s43 hs43 => ?_)
              have hw := hw s43 hs43
              refine x_goto (tgt := 157) C d_Mod_goesThere_127 (by decide) ?_
              exact x_wk (kJ33 s43 hw) (And.intro rfl (And.intro rfl (And.intro rfl (trivial))))
          refine x_icmp_ge (tgt := 81) C d_Mod_goesThere_60 (by decide) (fun c44 => ?_) (fun c44 => ?_)
          · have hw := hw.1 c44
            refine x_iconst (v := 0) C d_Mod_goesThere_81 rfl ?_
            exact x_wk (kJ27 0 hw) (And.intro rfl (And.intro rfl (trivial)))
          · have hw := hw.2 c44
            refine x_aload_n C d_Mod_goesThere_63 rfl ?_
            refine x_aload_n C d_Mod_goesThere_64 rfl ?_
            refine g_Mod_17 (p := 82) C rfl fl_Mod_22 d_Mod_goesThere_65 ?_
            refine x_iload_n C d_Mod_goesThere_68 rfl ?_
            refine x_iconst (v := 1) C d_Mod_goesThere_69 rfl ?_
            refine x_iadd C d_Mod_goesThere_70 ?_
            obtain ⟨h45, hw⟩ := hw
            refine x_iald (p := 87) (n := 6) C rfl h45 d_Mod_goesThere_71 ?_
            refine x_iconst (v := 3) C d_Mod_goesThere_72 rfl ?_
            refine x_callV (As := [.int (s18 87 (Int32.toNatClampNeg (x17 + 1))), .int 3]) (rest := []) (p := 82) C (m_Mod_of (xg X) C.2.2.2.2.2.2.1 (s18 87 (Int32.toNatClampNeg (x17 + 1))) 3 s18 _ hw) cw_Mod_of ml_Mod_73 rfl (by decide) (by decide) rfl rfl rfl ⟨rfl, rfl, Nat.le_of_ble_eq_true rfl, Nat.le_of_ble_eq_true rfl⟩ ⟨Nat.zero_le _, Nat.zero_le _⟩ rfl (Nat.le_of_ble_eq_true rfl) d_Mod_goesThere_73 ?_
            rintro _ _ ⟨x46, rfl, rfl, hw⟩
            show V X _ _ _ _ 76 [some (.ref (xa X 82)), some (.int x17), none] [.int x46]
            refine x_iconst (v := 3) C d_Mod_goesThere_76 rfl ?_
            refine x_idiv C d_Mod_goesThere_77 (by decide) ?_
            refine x_goto (tgt := 82) C d_Mod_goesThere_78 (by decide) ?_
            exact x_wk (kJ27 (x46 / 3) hw) (And.intro rfl (And.intro rfl (trivial)))
  exact x_wk (lI19 n20 0 s16 hn20) (And.intro rfl (And.intro rfl (trivial)))
def vc_Mod_goesThereAndBack  (s : St) (Q : St → Prop) : Prop :=
    vc_Mod_goesThere  s (fun s10 => (∀ s11 : St, s11 = wr s10 82 11 0 → (∀ s12 : St, s12 = wr s11 82 12 (-4) → (∀ s13 : St, s13 = wr s12 82 15 (s12 82 13) → (((s13 82 9) < 0 → (∀ x15 : Int32, x15 = (s13 82 18) - 1 → (∃ I18 : Nat → Int32 → St → Prop, (∃ n19, I18 n19 x15 s13) ∧ ∀ (nI18 : Nat) (x16 : Int32) (s17 : St), I18 nI18 x16 s17 → (∃ J20 : Prop, (J20 → (∀ s21 : St, s21 = wr s17 82 15 (s17 82 4) → Q s21)) ∧ ((x16 < 0 → J20) ∧ (¬ x16 < 0 → ((0 ≤ (s17 82 12) → J20) ∧ (¬ 0 ≤ (s17 82 12) → (∃ J25 : Int32 → Prop, (∀ (x24 : Int32), J25 x24 → (vp_in x16 6 ∧ vc_Mod_pulled (x16 + 1) (s17 82 18) s17 (fun x27 => vc_Mod_goesWay (s17 87 (Int32.toNatClampNeg x16)) 1 (x27 + x24) s17 (fun s29 => (∃ J31 : St → Prop, (∀ (s30 : St), J31 s30 → (∀ x32 : Int32, x32 = x16 + (-1) → ∃ m33, m33 < nI18 ∧ I18 m33 x32 s30)) ∧ (((s29 82 6) < 0 → (vp_in x16 6 ∧ (∀ s36 : St, s36 = wr s29 82 11 ((s29 82 11) ||| (1 <<< ((s29 87 (Int32.toNatClampNeg x16)) &&& 31))) → J31 s36))) ∧ (¬ (s29 82 6) < 0 → (vp_in x16 6 ∧ (∀ s38 : St, s38 = wr s29 82 12 (s29 87 (Int32.toNatClampNeg x16)) → J31 s38))))))))) ∧ ((x16 ≤ 0 → J25 0) ∧ (¬ x16 ≤ 0 → (vp_in (x16 - 1) 6 ∧ vc_Mod_of (s17 87 (Int32.toNatClampNeg (x16 - 1))) 3 s17 (fun x41 => J25 (x41 / 3)))))))))))))) ∧ (¬ (s13 82 9) < 0 → Q s13))))))
def rm_Mod_goesThereAndBack : Room := { frames := 7, cells := 0, slots := 0, locals := 163 }
set_option maxHeartbeats 4000000 in
set_option maxRecDepth 20000 in
theorem m_Mod_goesThereAndBack (g : Gx) (hg : gOk g)   (s : St) (Q : St → Prop) (hw : vc_Mod_goesThereAndBack  s Q) : Mc g y_Mod_goesThereAndBack b_Mod_goesThereAndBack 3 (none) rm_Mod_goesThereAndBack [.ref (ga g 82)] s (fun v s' => v = none ∧ Q s') := by
  refine mc_ofV (j := 2) (L := [some (.ref (ga g 82)), none, none]) hg (by decide) (Nat.le_of_ble_eq_true rfl) rfl ?_
  intro X hX C
  subst hX
  unfold vc_Mod_goesThereAndBack at hw
  refine x_aload_n C d_Mod_goesThereAndBack_0 rfl ?_
  refine x_callV (As := []) (rest := []) (p := 82) C (m_Mod_goesThere (xg X) C.2.2.2.2.2.2.1  s _ hw) cw_Mod_goesThere ml_Mod_136 rfl (by decide) (by decide) rfl rfl rfl ⟨rfl, rfl, Nat.le_of_ble_eq_true rfl, Nat.le_of_ble_eq_true rfl⟩ ⟨Nat.zero_le _, Nat.zero_le _⟩ rfl (Nat.le_of_ble_eq_true rfl) d_Mod_goesThereAndBack_1 ?_
  rintro _ s10 ⟨rfl, hw⟩
  show V X _ _ _ _ 4 [some (.ref (xa X 82)), none, none] []
  refine x_aload_n C d_Mod_goesThereAndBack_4 rfl ?_
  refine x_iconst (v := 0) C d_Mod_goesThereAndBack_5 rfl ?_
  refine p_Mod_11 (p := 82) C rfl fl_Mod_139 d_Mod_goesThereAndBack_6 ?_
  refine x_st (fun s11 hs11 => ?_)
  have hw := hw s11 hs11
  refine x_aload_n C d_Mod_goesThereAndBack_9 rfl ?_
  refine x_bipush (v := (-4)) C d_Mod_goesThereAndBack_10 rfl ?_
  refine p_Mod_12 (p := 82) C rfl fl_Mod_142 d_Mod_goesThereAndBack_12 ?_
  refine x_st (fun s12 hs12 => ?_)
  have hw := hw s12 hs12
  refine x_aload_n C d_Mod_goesThereAndBack_15 rfl ?_
  refine x_aload_n C d_Mod_goesThereAndBack_16 rfl ?_
  refine g_Mod_13 (p := 82) C rfl fl_Mod_130 d_Mod_goesThereAndBack_17 ?_
  refine p_Mod_15 (p := 82) C rfl fl_Mod_145 d_Mod_goesThereAndBack_20 ?_
  refine x_st (fun s13 hs13 => ?_)
  have hw := hw s13 hs13
  refine x_aload_n C d_Mod_goesThereAndBack_23 rfl ?_
  refine g_Mod_9 (p := 82) C rfl fl_Mod_121 d_Mod_goesThereAndBack_24 ?_
  refine x_if_lt (tgt := 31) C d_Mod_goesThereAndBack_27 (by decide) (fun c14 => ?_) (fun c14 => ?_)
  · have hw := hw.1 c14
    refine x_aload_n C d_Mod_goesThereAndBack_31 rfl ?_
    refine g_Mod_18 (p := 82) C rfl fl_Mod_109 d_Mod_goesThereAndBack_32 ?_
    refine x_iconst (v := 1) C d_Mod_goesThereAndBack_35 rfl ?_
    refine x_isub C d_Mod_goesThereAndBack_36 ?_
    refine x_nm (fun x15 hx15 => ?_)
    have hw := hw x15 hx15
    refine x_istore_n (L' := [some (.ref (xa X 82)), some (.int x15), none]) C d_Mod_goesThereAndBack_37 (Nat.le_of_ble_eq_true rfl) rfl ?_
    obtain ⟨I18, ⟨n19, hn19⟩, hI18⟩ := hw
    have lI18 : ∀ (nI18 : Nat) (x16 : Int32) (s17 : St), I18 nI18 x16 s17 → V X (xQ X (fun v s' => v = none ∧ Q s')) 0 0 s17 38 [some (.ref (xa X 82)), some (.int x16), none] [] := by
      intro nI18
      induction nI18 using Nat.strongRecOn with
      | ind nI18 ihI18 =>
        intro x16 s17 hv
        have hw := hI18 nI18 x16 s17 hv
        refine x_iload_n C d_Mod_goesThereAndBack_38 rfl ?_
        obtain ⟨J20, hJ20, hw⟩ := hw
        have kJ20 : J20 → V X (xQ X (fun v s' => v = none ∧ Q s')) 0 0 s17 140 [some (.ref (xa X 82)), some (.int x16), none] [] := by
          intro  hv
          have hw := hJ20  hv
          refine x_aload_n C d_Mod_goesThereAndBack_140 rfl ?_
          refine x_aload_n C d_Mod_goesThereAndBack_141 rfl ?_
          refine g_Mod_4 (p := 82) C rfl fl_Mod_91 d_Mod_goesThereAndBack_142 ?_
          refine p_Mod_15 (p := 82) C rfl fl_Mod_145 d_Mod_goesThereAndBack_145 ?_
          refine x_st (fun s21 hs21 => ?_)
          have hw := hw s21 hs21
          exact x_return C d_Mod_goesThereAndBack_148 ⟨rfl, hw⟩
        refine x_if_lt (tgt := 140) C d_Mod_goesThereAndBack_39 (by decide) (fun c22 => ?_) (fun c22 => ?_)
        · have hw := hw.1 c22
          exact x_wk (kJ20  hw) (And.intro rfl (And.intro rfl (trivial)))
        · have hw := hw.2 c22
          refine x_aload_n C d_Mod_goesThereAndBack_42 rfl ?_
          refine g_Mod_12 (p := 82) C rfl fl_Mod_142 d_Mod_goesThereAndBack_43 ?_
          refine x_if_ge (tgt := 140) C d_Mod_goesThereAndBack_46 (by decide) (fun c23 => ?_) (fun c23 => ?_)
          · have hw := hw.1 c23
            exact x_wk (kJ20  hw) (And.intro rfl (And.intro rfl (trivial)))
          · have hw := hw.2 c23
            refine x_iload_n C d_Mod_goesThereAndBack_49 rfl ?_
            obtain ⟨J25, hJ25, hw⟩ := hw
            have kJ25 : ∀ (x24 : Int32), J25 x24 → V X (xQ X (fun v s' => v = none ∧ Q s')) 0 0 s17 72 [some (.ref (xa X 82)), some (.int x16), none] [.int x24] := by
              intro x24 hv
              have hw := hJ25 x24 hv
              refine x_istore_n (L' := [some (.ref (xa X 82)), some (.int x16), some (.int x24)]) C d_Mod_goesThereAndBack_72 (Nat.le_of_ble_eq_true rfl) rfl ?_
              refine x_aload_n C d_Mod_goesThereAndBack_73 rfl ?_
              refine x_aload_n C d_Mod_goesThereAndBack_74 rfl ?_
              refine g_Mod_17 (p := 82) C rfl fl_Mod_22 d_Mod_goesThereAndBack_75 ?_
              refine x_iload_n C d_Mod_goesThereAndBack_78 rfl ?_
              obtain ⟨h26, hw⟩ := hw
              refine x_iald (p := 87) (n := 6) C rfl h26 d_Mod_goesThereAndBack_79 ?_
              refine x_iconst (v := 1) C d_Mod_goesThereAndBack_80 rfl ?_
              refine x_aload_n C d_Mod_goesThereAndBack_81 rfl ?_
              refine x_iload_n C d_Mod_goesThereAndBack_82 rfl ?_
              refine x_iconst (v := 1) C d_Mod_goesThereAndBack_83 rfl ?_
              refine x_iadd C d_Mod_goesThereAndBack_84 ?_
              refine x_aload_n C d_Mod_goesThereAndBack_85 rfl ?_
              refine g_Mod_18 (p := 82) C rfl fl_Mod_109 d_Mod_goesThereAndBack_86 ?_
              refine x_callV (As := [.int (x16 + 1), .int (s17 82 18)]) (rest := [.int 1, .int (s17 87 (Int32.toNatClampNeg x16)), .ref (xa X 82)]) (p := 82) C (m_Mod_pulled (xg X) C.2.2.2.2.2.2.1 (x16 + 1) (s17 82 18) s17 _ hw) cw_Mod_pulled ml_Mod_127 rfl (by decide) (by decide) rfl rfl rfl ⟨rfl, rfl, Nat.le_of_ble_eq_true rfl, Nat.le_of_ble_eq_true rfl⟩ ⟨Nat.zero_le _, Nat.zero_le _⟩ rfl (Nat.le_of_ble_eq_true rfl) d_Mod_goesThereAndBack_89 ?_
              rintro _ _ ⟨x27, rfl, rfl, hw⟩
              show V X _ _ _ _ 92 [some (.ref (xa X 82)), some (.int x16), some (.int x24)] [.int x27, .int 1, .int (s17 87 (Int32.toNatClampNeg x16)), .ref (xa X 82)]
              refine x_iload_n C d_Mod_goesThereAndBack_92 rfl ?_
              refine x_iadd C d_Mod_goesThereAndBack_93 ?_
              refine x_callV (As := [.int (s17 87 (Int32.toNatClampNeg x16)), .int 1, .int (x27 + x24)]) (rest := []) (p := 82) C (m_Mod_goesWay (xg X) C.2.2.2.2.2.2.1 (s17 87 (Int32.toNatClampNeg x16)) 1 (x27 + x24) s17 _ hw) cw_Mod_goesWay ml_Mod_105 rfl (by decide) (by decide) rfl rfl rfl ⟨rfl, rfl, Nat.le_of_ble_eq_true rfl, Nat.le_of_ble_eq_true rfl⟩ ⟨Nat.zero_le _, Nat.zero_le _⟩ rfl (Nat.le_of_ble_eq_true rfl) d_Mod_goesThereAndBack_94 ?_
              rintro _ s29 ⟨rfl, hw⟩
              show V X _ _ _ _ 97 [some (.ref (xa X 82)), some (.int x16), some (.int x24)] []
              refine x_aload_n C d_Mod_goesThereAndBack_97 rfl ?_
              refine g_Mod_6 (p := 82) C rfl fl_Mod_87 d_Mod_goesThereAndBack_98 ?_
              obtain ⟨J31, hJ31, hw⟩ := hw
              have kJ31 : ∀ (s30 : St), J31 s30 → V X (xQ X (fun v s' => v = none ∧ Q s')) 0 0 s30 134 [some (.ref (xa X 82)), some (.int x16), some (.int x24)] [] := by
                intro s30 hv
                have hw := hJ31 s30 hv
                obtain ⟨x32, hx32⟩ : ∃ z : Int32, z = x16 + (-1) := ⟨_, rfl⟩
                refine x_iinc (v := x32) (L' := [some (.ref (xa X 82)), some (.int x32), some (.int x24)]) C d_Mod_goesThereAndBack_134 (Nat.le_of_ble_eq_true rfl) rfl (by rw [hx32]; rfl) rfl ?_
                have hw := hw x32 hx32
                refine x_goto (tgt := 38) C d_Mod_goesThereAndBack_137 (by decide) ?_
                obtain ⟨m33, hm33, hw⟩ := hw
                exact x_wk (ihI18 m33 hm33 x32 s30 hw) (And.intro rfl (And.intro rfl (trivial)))
              refine x_if_lt (tgt := 117) C d_Mod_goesThereAndBack_101 (by decide) (fun c34 => ?_) (fun c34 => ?_)
              · have hw := hw.1 c34
                refine x_aload_n C d_Mod_goesThereAndBack_117 rfl ?_
                refine x_dup C d_Mod_goesThereAndBack_118 rfl ?_
                refine g_Mod_11 (p := 82) C rfl fl_Mod_139 d_Mod_goesThereAndBack_119 ?_
                refine x_iconst (v := 1) C d_Mod_goesThereAndBack_122 rfl ?_
                refine x_aload_n C d_Mod_goesThereAndBack_123 rfl ?_
                refine g_Mod_17 (p := 82) C rfl fl_Mod_22 d_Mod_goesThereAndBack_124 ?_
                refine x_iload_n C d_Mod_goesThereAndBack_127 rfl ?_
                obtain ⟨h35, hw⟩ := hw
                refine x_iald (p := 87) (n := 6) C rfl h35 d_Mod_goesThereAndBack_128 ?_
                refine x_ishl C d_Mod_goesThereAndBack_129 ?_
                refine x_ior C d_Mod_goesThereAndBack_130 ?_
                refine p_Mod_11 (p := 82) C rfl fl_Mod_139 d_Mod_goesThereAndBack_131 ?_
                refine x_st (fun s36 hs36 => ?_)
                have hw := hw s36 hs36
                exact x_wk (kJ31 s36 hw) (And.intro rfl (And.intro rfl (And.intro rfl (trivial))))
              · have hw := hw.2 c34
                refine x_aload_n C d_Mod_goesThereAndBack_104 rfl ?_
                refine x_aload_n C d_Mod_goesThereAndBack_105 rfl ?_
                refine g_Mod_17 (p := 82) C rfl fl_Mod_22 d_Mod_goesThereAndBack_106 ?_
                refine x_iload_n C d_Mod_goesThereAndBack_109 rfl ?_
                obtain ⟨h37, hw⟩ := hw
                refine x_iald (p := 87) (n := 6) C rfl h37 d_Mod_goesThereAndBack_110 ?_
                refine p_Mod_12 (p := 82) C rfl fl_Mod_142 d_Mod_goesThereAndBack_111 ?_
                refine x_st (fun s38 hs38 => ?_)
                have hw := hw s38 hs38
                refine x_goto (tgt := 134) C d_Mod_goesThereAndBack_114 (by decide) ?_
                exact x_wk (kJ31 s38 hw) (And.intro rfl (And.intro rfl (And.intro rfl (trivial))))
            refine x_if_le (tgt := 71) C d_Mod_goesThereAndBack_50 (by decide) (fun c39 => ?_) (fun c39 => ?_)
            · have hw := hw.1 c39
              refine x_iconst (v := 0) C d_Mod_goesThereAndBack_71 rfl ?_
              exact x_wk (kJ25 0 hw) (And.intro rfl (And.intro rfl (trivial)))
            · have hw := hw.2 c39
              refine x_aload_n C d_Mod_goesThereAndBack_53 rfl ?_
              refine x_aload_n C d_Mod_goesThereAndBack_54 rfl ?_
              refine g_Mod_17 (p := 82) C rfl fl_Mod_22 d_Mod_goesThereAndBack_55 ?_
              refine x_iload_n C d_Mod_goesThereAndBack_58 rfl ?_
              refine x_iconst (v := 1) C d_Mod_goesThereAndBack_59 rfl ?_
              refine x_isub C d_Mod_goesThereAndBack_60 ?_
              obtain ⟨h40, hw⟩ := hw
              refine x_iald (p := 87) (n := 6) C rfl h40 d_Mod_goesThereAndBack_61 ?_
              refine x_iconst (v := 3) C d_Mod_goesThereAndBack_62 rfl ?_
              refine x_callV (As := [.int (s17 87 (Int32.toNatClampNeg (x16 - 1))), .int 3]) (rest := []) (p := 82) C (m_Mod_of (xg X) C.2.2.2.2.2.2.1 (s17 87 (Int32.toNatClampNeg (x16 - 1))) 3 s17 _ hw) cw_Mod_of ml_Mod_73 rfl (by decide) (by decide) rfl rfl rfl ⟨rfl, rfl, Nat.le_of_ble_eq_true rfl, Nat.le_of_ble_eq_true rfl⟩ ⟨Nat.zero_le _, Nat.zero_le _⟩ rfl (Nat.le_of_ble_eq_true rfl) d_Mod_goesThereAndBack_63 ?_
              rintro _ _ ⟨x41, rfl, rfl, hw⟩
              show V X _ _ _ _ 66 [some (.ref (xa X 82)), some (.int x16), none] [.int x41]
              refine x_iconst (v := 3) C d_Mod_goesThereAndBack_66 rfl ?_
              refine x_idiv C d_Mod_goesThereAndBack_67 (by decide) ?_
              refine x_goto (tgt := 72) C d_Mod_goesThereAndBack_68 (by decide) ?_
              exact x_wk (kJ25 (x41 / 3) hw) (And.intro rfl (And.intro rfl (trivial)))
    exact x_wk (lI18 n19 x15 s13 hn19) (And.intro rfl (And.intro rfl (trivial)))
  · have hw := hw.2 c14
    exact x_return C d_Mod_goesThereAndBack_30 ⟨rfl, hw⟩
def vc_Mod_bits (x0 : Int32) (Q : Int32 → Prop) : Prop :=
    (∃ I12 : Nat → Int32 → Int32 → Prop, (∃ n13, I12 n13 0 0) ∧ ∀ (nI12 : Nat) (x10 : Int32) (x11 : Int32), I12 nI12 x10 x11 → ((6 ≤ x11 → Q x10) ∧ (¬ 6 ≤ x11 → (∀ x15 : Int32, x15 = x10 + ((x0 >>> (x11 &&& 31)) &&& 1) → (∀ x16 : Int32, x16 = x11 + 1 → ∃ m17, m17 < nI12 ∧ I12 m17 x15 x16)))))
def rm_Mod_bits : Room := { frames := 0, cells := 0, slots := 0, locals := 0 }
set_option maxHeartbeats 4000000 in
set_option maxRecDepth 20000 in
theorem m_Mod_bits (g : Gx) (hg : gOk g) (x0 : Int32)  (s : St) (Q : Int32 → Prop) (hw : vc_Mod_bits x0 Q) : Mc g y_Mod_bits b_Mod_bits 3 (some FieldType.int) rm_Mod_bits [.int x0] s (fun v s' => ∃ r : Int32, v = some (.int r) ∧ s = s' ∧ Q r) := by
  refine mc_ofV (j := 2) (L := [some (.int x0), none, none]) hg (by decide) (Nat.le_of_ble_eq_true rfl) rfl ?_
  intro X hX C
  subst hX
  unfold vc_Mod_bits at hw
  refine x_iconst (v := 0) C d_Mod_bits_0 rfl ?_
  refine x_istore_n (L' := [some (.int x0), some (.int 0), none]) C d_Mod_bits_1 (Nat.le_of_ble_eq_true rfl) rfl ?_
  refine x_iconst (v := 0) C d_Mod_bits_2 rfl ?_
  refine x_istore_n (L' := [some (.int x0), some (.int 0), some (.int 0)]) C d_Mod_bits_3 (Nat.le_of_ble_eq_true rfl) rfl ?_
  obtain ⟨I12, ⟨n13, hn13⟩, hI12⟩ := hw
  have lI12 : ∀ (nI12 : Nat) (x10 : Int32) (x11 : Int32), I12 nI12 x10 x11 → V X (xQ X (fun v s' => ∃ r : Int32, v = some (.int r) ∧ s = s' ∧ Q r)) 0 0 s 4 [some (.int x0), some (.int x10), some (.int x11)] [] := by
    intro nI12
    induction nI12 using Nat.strongRecOn with
    | ind nI12 ihI12 =>
      intro x10 x11 hv
      have hw := hI12 nI12 x10 x11 hv
      refine x_iload_n C d_Mod_bits_4 rfl ?_
      refine x_bipush (v := 6) C d_Mod_bits_5 rfl ?_
      refine x_icmp_ge (tgt := 24) C d_Mod_bits_7 (by decide) (fun c14 => ?_) (fun c14 => ?_)
      · have hw := hw.1 c14
        refine x_iload_n C d_Mod_bits_24 rfl ?_
        exact x_ireturn C d_Mod_bits_25 ⟨_, rfl, rfl, hw⟩
      · have hw := hw.2 c14
        refine x_iload_n C d_Mod_bits_10 rfl ?_
        refine x_iload_n C d_Mod_bits_11 rfl ?_
        refine x_iload_n C d_Mod_bits_12 rfl ?_
        refine x_ishr C d_Mod_bits_13 ?_
        refine x_iconst (v := 1) C d_Mod_bits_14 rfl ?_
        refine x_iand C d_Mod_bits_15 ?_
        refine x_iadd C d_Mod_bits_16 ?_
        refine x_nm (fun x15 hx15 => ?_)
        have hw := hw x15 hx15
        refine x_istore_n (L' := [some (.int x0), some (.int x15), some (.int x11)]) C d_Mod_bits_17 (Nat.le_of_ble_eq_true rfl) rfl ?_
        obtain ⟨x16, hx16⟩ : ∃ z : Int32, z = x11 + 1 := ⟨_, rfl⟩
        refine x_iinc (v := x16) (L' := [some (.int x0), some (.int x15), some (.int x16)]) C d_Mod_bits_18 (Nat.le_of_ble_eq_true rfl) rfl (by rw [hx16]; rfl) rfl ?_
        have hw := hw x16 hx16
        refine x_goto (tgt := 4) C d_Mod_bits_21 (by decide) ?_
        obtain ⟨m17, hm17, hw⟩ := hw
        exact x_wk (ihI12 m17 hm17 x15 x16 hw) (And.intro rfl (And.intro rfl (And.intro rfl (trivial))))
  exact x_wk (lI12 n13 0 0 hn13) (And.intro rfl (And.intro rfl (And.intro rfl (trivial))))
def vc_Mod_areAllBack  (s : St) (Q : Bool → St → Prop) : Prop :=
    vc_Mod_goesThereAndBack  s (fun s10 => vc_Mod_bits (s10 82 11) (fun x11 => ((¬ x11 = (s10 82 18) → Q false s10) ∧ (x11 = (s10 82 18) → Q true s10))))
def rm_Mod_areAllBack : Room := { frames := 8, cells := 0, slots := 0, locals := 185 }
set_option maxHeartbeats 4000000 in
set_option maxRecDepth 20000 in
theorem m_Mod_areAllBack (g : Gx) (hg : gOk g)   (s : St) (Q : Bool → St → Prop) (hw : vc_Mod_areAllBack  s Q) : Mc g y_Mod_areAllBack b_Mod_areAllBack 1 (some FieldType.boolean) rm_Mod_areAllBack [.ref (ga g 82)] s (fun v s' => ∃ r : Bool, v = some (.int (bi r)) ∧ Q r s') := by
  refine mc_ofV (j := 0) (L := [some (.ref (ga g 82))]) hg (by decide) (Nat.le_of_ble_eq_true rfl) rfl ?_
  intro X hX C
  subst hX
  unfold vc_Mod_areAllBack at hw
  refine x_aload_n C d_Mod_areAllBack_0 rfl ?_
  refine x_callV (As := []) (rest := []) (p := 82) C (m_Mod_goesThereAndBack (xg X) C.2.2.2.2.2.2.1  s _ hw) cw_Mod_goesThereAndBack ml_Mod_148 rfl (by decide) (by decide) rfl rfl rfl ⟨rfl, rfl, Nat.le_of_ble_eq_true rfl, Nat.le_of_ble_eq_true rfl⟩ ⟨Nat.zero_le _, Nat.zero_le _⟩ rfl (Nat.le_of_ble_eq_true rfl) d_Mod_areAllBack_1 ?_
  rintro _ s10 ⟨rfl, hw⟩
  show V X _ _ _ _ 4 [some (.ref (xa X 82))] []
  refine x_aload_n C d_Mod_areAllBack_4 rfl ?_
  refine g_Mod_11 (p := 82) C rfl fl_Mod_139 d_Mod_areAllBack_5 ?_
  refine x_callS (As := [.int (s10 82 11)]) (rest := []) C (m_Mod_bits (xg X) C.2.2.2.2.2.2.1 (s10 82 11) s10 _ hw) cw_Mod_bits ml_Mod_151 rfl ⟨rfl, rfl, Nat.le_of_ble_eq_true rfl, Nat.le_of_ble_eq_true rfl⟩ ⟨Nat.zero_le _, Nat.zero_le _⟩ rfl (Nat.le_of_ble_eq_true rfl) d_Mod_areAllBack_8 ?_
  rintro _ _ ⟨x11, rfl, rfl, hw⟩
  show V X _ _ _ _ 11 [some (.ref (xa X 82))] [.int x11]
  refine x_aload_n C d_Mod_areAllBack_11 rfl ?_
  refine g_Mod_18 (p := 82) C rfl fl_Mod_109 d_Mod_areAllBack_12 ?_
  refine x_icmp_ne (tgt := 22) C d_Mod_areAllBack_15 (by decide) (fun c13 => ?_) (fun c13 => ?_)
  · have hw := hw.1 c13
    refine x_iconst (v := 0) C d_Mod_areAllBack_22 rfl ?_
    exact x_zreturn (b := false) C d_Mod_areAllBack_23 ⟨_, rfl, hw⟩
  · have hw := hw.2 c13
    refine x_iconst (v := 1) C d_Mod_areAllBack_18 rfl ?_
    refine x_goto (tgt := 23) C d_Mod_areAllBack_19 (by decide) ?_
    exact x_zreturn (b := true) C d_Mod_areAllBack_23 ⟨_, rfl, hw⟩
def vc_Mod_here  (s : St) (Q : Int32 → Prop) : Prop :=
    (((s 82 21) ≤ (s 82 19) → Q (-1)) ∧ (¬ (s 82 21) ≤ (s 82 19) → (vp_in ((s 82 20) + (s 82 19)) 800 ∧ Q ((s 97 (Int32.toNatClampNeg ((s 82 20) + (s 82 19)))) &&& 255))))
def rm_Mod_here : Room := { frames := 0, cells := 0, slots := 0, locals := 0 }
set_option maxHeartbeats 4000000 in
set_option maxRecDepth 20000 in
theorem m_Mod_here (g : Gx) (hg : gOk g)   (s : St) (Q : Int32 → Prop) (hw : vc_Mod_here  s Q) : Mc g y_Mod_here b_Mod_here 1 (some FieldType.int) rm_Mod_here [.ref (ga g 82)] s (fun v s' => ∃ r : Int32, v = some (.int r) ∧ s = s' ∧ Q r) := by
  refine mc_ofV (j := 0) (L := [some (.ref (ga g 82))]) hg (by decide) (Nat.le_of_ble_eq_true rfl) rfl ?_
  intro X hX C
  subst hX
  unfold vc_Mod_here at hw
  refine x_aload_n C d_Mod_here_0 rfl ?_
  refine g_Mod_19 (p := 82) C rfl fl_Mod_155 d_Mod_here_1 ?_
  refine x_aload_n C d_Mod_here_4 rfl ?_
  refine g_Mod_21 (p := 82) C rfl fl_Mod_158 d_Mod_here_5 ?_
  refine x_icmp_ge (tgt := 32) C d_Mod_here_8 (by decide) (fun c10 => ?_) (fun c10 => ?_)
  · have hw := hw.1 c10
    refine x_iconst (v := (-1)) C d_Mod_here_32 rfl ?_
    exact x_ireturn C d_Mod_here_33 ⟨_, rfl, rfl, hw⟩
  · have hw := hw.2 c10
    refine x_aload_n C d_Mod_here_11 rfl ?_
    refine g_Mod_38 (p := 82) C rfl fl_Mod_52 d_Mod_here_12 ?_
    refine x_aload_n C d_Mod_here_15 rfl ?_
    refine g_Mod_20 (p := 82) C rfl fl_Mod_161 d_Mod_here_16 ?_
    refine x_aload_n C d_Mod_here_19 rfl ?_
    refine g_Mod_19 (p := 82) C rfl fl_Mod_155 d_Mod_here_20 ?_
    refine x_iadd C d_Mod_here_23 ?_
    obtain ⟨h11, hw⟩ := hw
    refine x_iald (p := 97) (n := 800) C rfl h11 d_Mod_here_24 ?_
    refine x_sipush (v := 255) C d_Mod_here_25 rfl ?_
    refine x_iand C d_Mod_here_28 ?_
    refine x_goto (tgt := 33) C d_Mod_here_29 (by decide) ?_
    exact x_ireturn C d_Mod_here_33 ⟨_, rfl, rfl, hw⟩
