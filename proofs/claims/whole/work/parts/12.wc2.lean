theorem d_She_holdRow_0 : decode b_She_holdRow 0 = .ok (.aload_n 0, 1) := by decide +kernel
theorem d_She_holdRow_1 : decode b_She_holdRow 1 = .ok (.iconst 2, 1) := by decide +kernel
theorem d_She_holdRow_2 : decode b_She_holdRow 2 = .ok (.putfield 9, 3) := by decide +kernel
theorem d_She_holdRow_5 : decode b_She_holdRow 5 = .ok (.aload_n 0, 1) := by decide +kernel
theorem d_She_holdRow_6 : decode b_She_holdRow 6 = .ok (.iload_n 1, 1) := by decide +kernel
theorem d_She_holdRow_7 : decode b_She_holdRow 7 = .ok (.putfield 21, 3) := by decide +kernel
theorem d_She_holdRow_10 : decode b_She_holdRow 10 = .ok (.aload_n 0, 1) := by decide +kernel
theorem d_She_holdRow_11 : decode b_She_holdRow 11 = .ok (.iload_n 2, 1) := by decide +kernel
theorem d_She_holdRow_12 : decode b_She_holdRow 12 = .ok (.putfield 24, 3) := by decide +kernel
theorem d_She_holdRow_15 : decode b_She_holdRow 15 = .ok (.aload_n 0, 1) := by decide +kernel
theorem d_She_holdRow_16 : decode b_She_holdRow 16 = .ok (.getfield 27, 3) := by decide +kernel
theorem d_She_holdRow_19 : decode b_She_holdRow 19 = .ok (.iconst 0, 1) := by decide +kernel
theorem d_She_holdRow_20 : decode b_She_holdRow 20 = .ok (.invokestatic 31, 3) := by decide +kernel
theorem d_She_holdRow_23 : decode b_She_holdRow 23 = .ok (.return_, 1) := by decide +kernel
theorem d_She_hasPlace_0 : decode b_She_hasPlace 0 = .ok (.iload_n 1, 1) := by decide +kernel
theorem d_She_hasPlace_1 : decode b_She_hasPlace 1 = .ok (.iconst 0, 1) := by decide +kernel
theorem d_She_hasPlace_2 : decode b_She_hasPlace 2 = .ok (.aload_n 0, 1) := by decide +kernel
theorem d_She_hasPlace_3 : decode b_She_hasPlace 3 = .ok (.getfield 24, 3) := by decide +kernel
theorem d_She_hasPlace_6 : decode b_She_hasPlace 6 = .ok (.iconst 1, 1) := by decide +kernel
theorem d_She_hasPlace_7 : decode b_She_hasPlace 7 = .ok (.isub, 1) := by decide +kernel
theorem d_She_hasPlace_8 : decode b_She_hasPlace 8 = .ok (.invokestatic 37, 3) := by decide +kernel
theorem d_She_hasPlace_11 : decode b_She_hasPlace 11 = .ok (.ireturn, 1) := by decide +kernel
theorem d_She_hasPlaces_0 : decode b_She_hasPlaces 0 = .ok (.iload_n 1, 1) := by decide +kernel
theorem d_She_hasPlaces_1 : decode b_She_hasPlaces 1 = .ok (.iconst 0, 1) := by decide +kernel
theorem d_She_hasPlaces_2 : decode b_She_hasPlaces 2 = .ok (.aload_n 0, 1) := by decide +kernel
theorem d_She_hasPlaces_3 : decode b_She_hasPlaces 3 = .ok (.getfield 24, 3) := by decide +kernel
theorem d_She_hasPlaces_6 : decode b_She_hasPlaces 6 = .ok (.invokestatic 37, 3) := by decide +kernel
theorem d_She_hasPlaces_9 : decode b_She_hasPlaces 9 = .ok (.ifCond .eq 17, 3) := by decide +kernel
theorem d_She_hasPlaces_12 : decode b_She_hasPlaces 12 = .ok (.iload_n 2, 1) := by decide +kernel
theorem d_She_hasPlaces_13 : decode b_She_hasPlaces 13 = .ok (.aload_n 0, 1) := by decide +kernel
theorem d_She_hasPlaces_14 : decode b_She_hasPlaces 14 = .ok (.getfield 24, 3) := by decide +kernel
theorem d_She_hasPlaces_17 : decode b_She_hasPlaces 17 = .ok (.iload_n 1, 1) := by decide +kernel
theorem d_She_hasPlaces_18 : decode b_She_hasPlaces 18 = .ok (.isub, 1) := by decide +kernel
theorem d_She_hasPlaces_19 : decode b_She_hasPlaces 19 = .ok (.if_icmp .gt 7, 3) := by decide +kernel
theorem d_She_hasPlaces_22 : decode b_She_hasPlaces 22 = .ok (.iconst 1, 1) := by decide +kernel
theorem d_She_hasPlaces_23 : decode b_She_hasPlaces 23 = .ok (.goto 4, 3) := by decide +kernel
theorem d_She_hasPlaces_26 : decode b_She_hasPlaces 26 = .ok (.iconst 0, 1) := by decide +kernel
theorem d_She_hasPlaces_27 : decode b_She_hasPlaces 27 = .ok (.ireturn, 1) := by decide +kernel
theorem d_She_write_0 : decode b_She_write 0 = .ok (.aload_n 0, 1) := by decide +kernel
theorem d_She_write_1 : decode b_She_write 1 = .ok (.getfield 27, 3) := by decide +kernel
theorem d_She_write_4 : decode b_She_write 4 = .ok (.iload_n 1, 1) := by decide +kernel
theorem d_She_write_5 : decode b_She_write 5 = .ok (.aload_n 0, 1) := by decide +kernel
theorem d_She_write_6 : decode b_She_write 6 = .ok (.getfield 21, 3) := by decide +kernel
theorem d_She_write_9 : decode b_She_write 9 = .ok (.ifCond .ne 8, 3) := by decide +kernel
theorem d_She_write_12 : decode b_She_write 12 = .ok (.iload_n 2, 1) := by decide +kernel
theorem d_She_write_13 : decode b_She_write 13 = .ok (.i2b, 1) := by decide +kernel
theorem d_She_write_14 : decode b_She_write 14 = .ok (.goto 17, 3) := by decide +kernel
theorem d_She_write_17 : decode b_She_write 17 = .ok (.aload_n 0, 1) := by decide +kernel
theorem d_She_write_18 : decode b_She_write 18 = .ok (.getfield 21, 3) := by decide +kernel
theorem d_She_write_21 : decode b_She_write 21 = .ok (.iconst 1, 1) := by decide +kernel
theorem d_She_write_22 : decode b_She_write 22 = .ok (.if_icmp .ne 8, 3) := by decide +kernel
theorem d_She_write_25 : decode b_She_write 25 = .ok (.iload_n 2, 1) := by decide +kernel
theorem d_She_write_26 : decode b_She_write 26 = .ok (.i2s, 1) := by decide +kernel
theorem d_She_write_27 : decode b_She_write 27 = .ok (.goto 4, 3) := by decide +kernel
theorem d_She_write_30 : decode b_She_write 30 = .ok (.iload_n 2, 1) := by decide +kernel
theorem d_She_write_31 : decode b_She_write 31 = .ok (.iastore, 1) := by decide +kernel
theorem d_She_write_32 : decode b_She_write 32 = .ok (.return_, 1) := by decide +kernel
theorem d_She_isSkipped_0 : decode b_She_isSkipped 0 = .ok (.aload_n 0, 1) := by decide +kernel
theorem d_She_isSkipped_1 : decode b_She_isSkipped 1 = .ok (.getfield 27, 3) := by decide +kernel
theorem d_She_isSkipped_4 : decode b_She_isSkipped 4 = .ok (.iload_n 1, 1) := by decide +kernel
theorem d_She_isSkipped_5 : decode b_She_isSkipped 5 = .ok (.iaload, 1) := by decide +kernel
theorem d_She_isSkipped_6 : decode b_She_isSkipped 6 = .ok (.aload_n 0, 1) := by decide +kernel
theorem d_She_isSkipped_7 : decode b_She_isSkipped 7 = .ok (.getfield 21, 3) := by decide +kernel
theorem d_She_isSkipped_10 : decode b_She_isSkipped 10 = .ok (.ifCond .ne 8, 3) := by decide +kernel
theorem d_She_isSkipped_13 : decode b_She_isSkipped 13 = .ok (.bipush (-128), 2) := by decide +kernel
theorem d_She_isSkipped_15 : decode b_She_isSkipped 15 = .ok (.goto 19, 3) := by decide +kernel
theorem d_She_isSkipped_18 : decode b_She_isSkipped 18 = .ok (.aload_n 0, 1) := by decide +kernel
theorem d_She_isSkipped_19 : decode b_She_isSkipped 19 = .ok (.getfield 21, 3) := by decide +kernel
theorem d_She_isSkipped_22 : decode b_She_isSkipped 22 = .ok (.iconst 1, 1) := by decide +kernel
theorem d_She_isSkipped_23 : decode b_She_isSkipped 23 = .ok (.if_icmp .ne 9, 3) := by decide +kernel
theorem d_She_isSkipped_26 : decode b_She_isSkipped 26 = .ok (.sipush (-32768), 3) := by decide +kernel
theorem d_She_isSkipped_29 : decode b_She_isSkipped 29 = .ok (.goto 5, 3) := by decide +kernel
theorem d_She_isSkipped_32 : decode b_She_isSkipped 32 = .ok (.ldc 41, 2) := by decide +kernel
theorem d_She_isSkipped_34 : decode b_She_isSkipped 34 = .ok (.if_icmp .ne 7, 3) := by decide +kernel
theorem d_She_isSkipped_37 : decode b_She_isSkipped 37 = .ok (.iconst 1, 1) := by decide +kernel
theorem d_She_isSkipped_38 : decode b_She_isSkipped 38 = .ok (.goto 4, 3) := by decide +kernel
theorem d_She_isSkipped_41 : decode b_She_isSkipped 41 = .ok (.iconst 0, 1) := by decide +kernel
theorem d_She_isSkipped_42 : decode b_She_isSkipped 42 = .ok (.ireturn, 1) := by decide +kernel
theorem d_Tex_digitsBehind_0 : decode b_Tex_digitsBehind 0 = .ok (.iload_n 0, 1) := by decide +kernel
theorem d_Tex_digitsBehind_1 : decode b_Tex_digitsBehind 1 = .ok (.tableswitch 121 98 121 #[119, 113, 121, 121, 121, 121, 121, 121, 121, 121, 115, 121, 121, 121, 113, 121, 111, 121, 113, 121, 121, 121, 113, 117], 111) := by decide +kernel
theorem d_Tex_digitsBehind_112 : decode b_Tex_digitsBehind 112 = .ok (.iconst 1, 1) := by decide +kernel
theorem d_Tex_digitsBehind_113 : decode b_Tex_digitsBehind 113 = .ok (.ireturn, 1) := by decide +kernel
theorem d_Tex_digitsBehind_114 : decode b_Tex_digitsBehind 114 = .ok (.iconst 2, 1) := by decide +kernel
theorem d_Tex_digitsBehind_115 : decode b_Tex_digitsBehind 115 = .ok (.ireturn, 1) := by decide +kernel
theorem d_Tex_digitsBehind_116 : decode b_Tex_digitsBehind 116 = .ok (.iconst 3, 1) := by decide +kernel
theorem d_Tex_digitsBehind_117 : decode b_Tex_digitsBehind 117 = .ok (.ireturn, 1) := by decide +kernel
theorem d_Tex_digitsBehind_118 : decode b_Tex_digitsBehind 118 = .ok (.iconst 4, 1) := by decide +kernel
theorem d_Tex_digitsBehind_119 : decode b_Tex_digitsBehind 119 = .ok (.ireturn, 1) := by decide +kernel
theorem d_Tex_digitsBehind_120 : decode b_Tex_digitsBehind 120 = .ok (.iconst 5, 1) := by decide +kernel
theorem d_Tex_digitsBehind_121 : decode b_Tex_digitsBehind 121 = .ok (.ireturn, 1) := by decide +kernel
theorem d_Tex_digitsBehind_122 : decode b_Tex_digitsBehind 122 = .ok (.iconst 0, 1) := by decide +kernel
theorem d_Tex_digitsBehind_123 : decode b_Tex_digitsBehind 123 = .ok (.ireturn, 1) := by decide +kernel
theorem d_Tex_brokenAt_0 : decode b_Tex_brokenAt 0 = .ok (.aload_n 0, 1) := by decide +kernel
theorem d_Tex_brokenAt_1 : decode b_Tex_brokenAt 1 = .ok (.getfield 9, 3) := by decide +kernel
theorem d_Tex_brokenAt_4 : decode b_Tex_brokenAt 4 = .ok (.ifCond .ne 5, 3) := by decide +kernel
theorem d_Tex_brokenAt_7 : decode b_Tex_brokenAt 7 = .ok (.iconst 0, 1) := by decide +kernel
theorem d_Tex_brokenAt_8 : decode b_Tex_brokenAt 8 = .ok (.ireturn, 1) := by decide +kernel
theorem d_Tex_brokenAt_9 : decode b_Tex_brokenAt 9 = .ok (.iconst 0, 1) := by decide +kernel
theorem d_Tex_brokenAt_10 : decode b_Tex_brokenAt 10 = .ok (.istore_n 1, 1) := by decide +kernel
theorem d_Tex_brokenAt_11 : decode b_Tex_brokenAt 11 = .ok (.iload_n 1, 1) := by decide +kernel
theorem d_Tex_brokenAt_12 : decode b_Tex_brokenAt 12 = .ok (.aload_n 0, 1) := by decide +kernel
theorem d_Tex_brokenAt_13 : decode b_Tex_brokenAt 13 = .ok (.getfield 9, 3) := by decide +kernel
theorem d_Tex_brokenAt_16 : decode b_Tex_brokenAt 16 = .ok (.if_icmp .ge 92, 3) := by decide +kernel
theorem d_Tex_brokenAt_19 : decode b_Tex_brokenAt 19 = .ok (.aload_n 0, 1) := by decide +kernel
theorem d_Tex_brokenAt_20 : decode b_Tex_brokenAt 20 = .ok (.getfield 15, 3) := by decide +kernel
theorem d_Tex_brokenAt_23 : decode b_Tex_brokenAt 23 = .ok (.iload_n 1, 1) := by decide +kernel
theorem d_Tex_brokenAt_24 : decode b_Tex_brokenAt 24 = .ok (.iaload, 1) := by decide +kernel
theorem d_Tex_brokenAt_25 : decode b_Tex_brokenAt 25 = .ok (.invokestatic 19, 3) := by decide +kernel
theorem d_Tex_brokenAt_28 : decode b_Tex_brokenAt 28 = .ok (.istore_n 2, 1) := by decide +kernel
theorem d_Tex_brokenAt_29 : decode b_Tex_brokenAt 29 = .ok (.iload_n 2, 1) := by decide +kernel
theorem d_Tex_brokenAt_30 : decode b_Tex_brokenAt 30 = .ok (.ifCond .ne 5, 3) := by decide +kernel
theorem d_Tex_brokenAt_33 : decode b_Tex_brokenAt 33 = .ok (.iload_n 1, 1) := by decide +kernel
theorem d_Tex_brokenAt_34 : decode b_Tex_brokenAt 34 = .ok (.ireturn, 1) := by decide +kernel
theorem d_Tex_brokenAt_35 : decode b_Tex_brokenAt 35 = .ok (.iload_n 1, 1) := by decide +kernel
theorem d_Tex_brokenAt_36 : decode b_Tex_brokenAt 36 = .ok (.iconst 1, 1) := by decide +kernel
theorem d_Tex_brokenAt_37 : decode b_Tex_brokenAt 37 = .ok (.iadd, 1) := by decide +kernel
theorem d_Tex_brokenAt_38 : decode b_Tex_brokenAt 38 = .ok (.iload_n 2, 1) := by decide +kernel
theorem d_Tex_brokenAt_39 : decode b_Tex_brokenAt 39 = .ok (.iadd, 1) := by decide +kernel
theorem d_Tex_brokenAt_40 : decode b_Tex_brokenAt 40 = .ok (.istore_n 3, 1) := by decide +kernel
theorem d_Tex_brokenAt_41 : decode b_Tex_brokenAt 41 = .ok (.iinc 1 1, 3) := by decide +kernel
theorem d_Tex_brokenAt_44 : decode b_Tex_brokenAt 44 = .ok (.iload_n 1, 1) := by decide +kernel
theorem d_Tex_brokenAt_45 : decode b_Tex_brokenAt 45 = .ok (.iload_n 3, 1) := by decide +kernel
theorem d_Tex_brokenAt_46 : decode b_Tex_brokenAt 46 = .ok (.if_icmp .ge 35, 3) := by decide +kernel
theorem d_Tex_brokenAt_49 : decode b_Tex_brokenAt 49 = .ok (.iload_n 1, 1) := by decide +kernel
theorem d_Tex_brokenAt_50 : decode b_Tex_brokenAt 50 = .ok (.aload_n 0, 1) := by decide +kernel
theorem d_Tex_brokenAt_51 : decode b_Tex_brokenAt 51 = .ok (.getfield 9, 3) := by decide +kernel
theorem d_Tex_brokenAt_54 : decode b_Tex_brokenAt 54 = .ok (.if_icmp .ge 19, 3) := by decide +kernel
theorem d_Tex_brokenAt_57 : decode b_Tex_brokenAt 57 = .ok (.aload_n 0, 1) := by decide +kernel
theorem d_Tex_brokenAt_58 : decode b_Tex_brokenAt 58 = .ok (.getfield 15, 3) := by decide +kernel
theorem d_Tex_brokenAt_61 : decode b_Tex_brokenAt 61 = .ok (.iload_n 1, 1) := by decide +kernel
theorem d_Tex_brokenAt_62 : decode b_Tex_brokenAt 62 = .ok (.iaload, 1) := by decide +kernel
theorem d_Tex_brokenAt_63 : decode b_Tex_brokenAt 63 = .ok (.bipush 48, 2) := by decide +kernel
theorem d_Tex_brokenAt_65 : decode b_Tex_brokenAt 65 = .ok (.bipush 57, 2) := by decide +kernel
theorem d_Tex_brokenAt_67 : decode b_Tex_brokenAt 67 = .ok (.invokestatic 25, 3) := by decide +kernel
theorem d_Tex_brokenAt_70 : decode b_Tex_brokenAt 70 = .ok (.ifCond .ne 5, 3) := by decide +kernel
theorem d_Tex_brokenAt_73 : decode b_Tex_brokenAt 73 = .ok (.iload_n 1, 1) := by decide +kernel
theorem d_Tex_brokenAt_74 : decode b_Tex_brokenAt 74 = .ok (.ireturn, 1) := by decide +kernel
theorem d_Tex_brokenAt_75 : decode b_Tex_brokenAt 75 = .ok (.iinc 1 1, 3) := by decide +kernel
theorem d_Tex_brokenAt_78 : decode b_Tex_brokenAt 78 = .ok (.goto (-34), 3) := by decide +kernel
theorem d_Tex_brokenAt_81 : decode b_Tex_brokenAt 81 = .ok (.iload_n 1, 1) := by decide +kernel
theorem d_Tex_brokenAt_82 : decode b_Tex_brokenAt 82 = .ok (.aload_n 0, 1) := by decide +kernel
theorem d_Tex_brokenAt_83 : decode b_Tex_brokenAt 83 = .ok (.getfield 9, 3) := by decide +kernel
theorem d_Tex_brokenAt_86 : decode b_Tex_brokenAt 86 = .ok (.if_icmp .ge 14, 3) := by decide +kernel
theorem d_Tex_brokenAt_89 : decode b_Tex_brokenAt 89 = .ok (.aload_n 0, 1) := by decide +kernel
theorem d_Tex_brokenAt_90 : decode b_Tex_brokenAt 90 = .ok (.getfield 15, 3) := by decide +kernel
theorem d_Tex_brokenAt_93 : decode b_Tex_brokenAt 93 = .ok (.iload_n 1, 1) := by decide +kernel
theorem d_Tex_brokenAt_94 : decode b_Tex_brokenAt 94 = .ok (.iaload, 1) := by decide +kernel
theorem d_Tex_brokenAt_95 : decode b_Tex_brokenAt 95 = .ok (.bipush 59, 2) := by decide +kernel
theorem d_Tex_brokenAt_97 : decode b_Tex_brokenAt 97 = .ok (.if_icmp .eq 5, 3) := by decide +kernel
theorem d_Tex_brokenAt_100 : decode b_Tex_brokenAt 100 = .ok (.iload_n 1, 1) := by decide +kernel
theorem d_Tex_brokenAt_101 : decode b_Tex_brokenAt 101 = .ok (.ireturn, 1) := by decide +kernel
theorem d_Tex_brokenAt_102 : decode b_Tex_brokenAt 102 = .ok (.iinc 1 1, 3) := by decide +kernel
theorem d_Tex_brokenAt_105 : decode b_Tex_brokenAt 105 = .ok (.goto (-94), 3) := by decide +kernel
theorem d_Tex_brokenAt_108 : decode b_Tex_brokenAt 108 = .ok (.iconst (-1), 1) := by decide +kernel
theorem d_Tex_brokenAt_109 : decode b_Tex_brokenAt 109 = .ok (.ireturn, 1) := by decide +kernel
theorem d_Tex_number_0 : decode b_Tex_number 0 = .ok (.iconst 0, 1) := by decide +kernel
theorem d_Tex_number_1 : decode b_Tex_number 1 = .ok (.istore_n 3, 1) := by decide +kernel
theorem d_Tex_number_2 : decode b_Tex_number 2 = .ok (.iload_n 1, 1) := by decide +kernel
theorem d_Tex_number_3 : decode b_Tex_number 3 = .ok (.istore 4, 2) := by decide +kernel
theorem d_Tex_number_5 : decode b_Tex_number 5 = .ok (.iload 4, 2) := by decide +kernel
theorem d_Tex_number_7 : decode b_Tex_number 7 = .ok (.iload_n 1, 1) := by decide +kernel
theorem d_Tex_number_8 : decode b_Tex_number 8 = .ok (.iload_n 2, 1) := by decide +kernel
theorem d_Tex_number_9 : decode b_Tex_number 9 = .ok (.iadd, 1) := by decide +kernel
theorem d_Tex_number_10 : decode b_Tex_number 10 = .ok (.if_icmp .ge 34, 3) := by decide +kernel
theorem d_Tex_number_13 : decode b_Tex_number 13 = .ok (.iload 4, 2) := by decide +kernel
theorem d_Tex_number_15 : decode b_Tex_number 15 = .ok (.aload_n 0, 1) := by decide +kernel
theorem d_Tex_number_16 : decode b_Tex_number 16 = .ok (.getfield 9, 3) := by decide +kernel
theorem d_Tex_number_19 : decode b_Tex_number 19 = .ok (.if_icmp .ge 25, 3) := by decide +kernel
theorem d_Tex_number_22 : decode b_Tex_number 22 = .ok (.iload_n 3, 1) := by decide +kernel
theorem d_Tex_number_23 : decode b_Tex_number 23 = .ok (.bipush 10, 2) := by decide +kernel
theorem d_Tex_number_25 : decode b_Tex_number 25 = .ok (.imul, 1) := by decide +kernel
theorem d_Tex_number_26 : decode b_Tex_number 26 = .ok (.aload_n 0, 1) := by decide +kernel
theorem d_Tex_number_27 : decode b_Tex_number 27 = .ok (.getfield 15, 3) := by decide +kernel
theorem d_Tex_number_30 : decode b_Tex_number 30 = .ok (.iload 4, 2) := by decide +kernel
theorem d_Tex_number_32 : decode b_Tex_number 32 = .ok (.iaload, 1) := by decide +kernel
theorem d_Tex_number_33 : decode b_Tex_number 33 = .ok (.iadd, 1) := by decide +kernel
theorem d_Tex_number_34 : decode b_Tex_number 34 = .ok (.bipush 48, 2) := by decide +kernel
theorem d_Tex_number_36 : decode b_Tex_number 36 = .ok (.isub, 1) := by decide +kernel
theorem d_Tex_number_37 : decode b_Tex_number 37 = .ok (.istore_n 3, 1) := by decide +kernel
theorem d_Tex_number_38 : decode b_Tex_number 38 = .ok (.iinc 4 1, 3) := by decide +kernel
theorem d_Tex_number_41 : decode b_Tex_number 41 = .ok (.goto (-36), 3) := by decide +kernel
theorem d_Tex_number_44 : decode b_Tex_number 44 = .ok (.iload_n 3, 1) := by decide +kernel
theorem d_Tex_number_45 : decode b_Tex_number 45 = .ok (.ireturn, 1) := by decide +kernel
theorem d_Yar_widthIsRight_0 : decode b_Yar_widthIsRight 0 = .ok (.iload_n 0, 1) := by decide +kernel
theorem d_Yar_widthIsRight_1 : decode b_Yar_widthIsRight 1 = .ok (.bipush 6, 2) := by decide +kernel
theorem d_Yar_widthIsRight_3 : decode b_Yar_widthIsRight 3 = .ok (.bipush 40, 2) := by decide +kernel
theorem d_Yar_widthIsRight_5 : decode b_Yar_widthIsRight 5 = .ok (.invokestatic 40, 3) := by decide +kernel
theorem d_Yar_widthIsRight_8 : decode b_Yar_widthIsRight 8 = .ok (.ireturn, 1) := by decide +kernel
theorem d_Yar_add_0 : decode b_Yar_add 0 = .ok (.iload_n 1, 1) := by decide +kernel
theorem d_Yar_add_1 : decode b_Yar_add 1 = .ok (.iconst 0, 1) := by decide +kernel
theorem d_Yar_add_2 : decode b_Yar_add 2 = .ok (.bipush 7, 2) := by decide +kernel
theorem d_Yar_add_4 : decode b_Yar_add 4 = .ok (.invokestatic 40, 3) := by decide +kernel
theorem d_Yar_add_7 : decode b_Yar_add 7 = .ok (.ifCond .eq 29, 3) := by decide +kernel
theorem d_Yar_add_10 : decode b_Yar_add 10 = .ok (.iload_n 2, 1) := by decide +kernel
theorem d_Yar_add_11 : decode b_Yar_add 11 = .ok (.iconst 0, 1) := by decide +kernel
theorem d_Yar_add_12 : decode b_Yar_add 12 = .ok (.bipush 9, 2) := by decide +kernel
theorem d_Yar_add_14 : decode b_Yar_add 14 = .ok (.invokestatic 40, 3) := by decide +kernel
theorem d_Yar_add_17 : decode b_Yar_add 17 = .ok (.ifCond .eq 19, 3) := by decide +kernel
theorem d_Yar_add_20 : decode b_Yar_add 20 = .ok (.iload_n 3, 1) := by decide +kernel
theorem d_Yar_add_21 : decode b_Yar_add 21 = .ok (.invokestatic 44, 3) := by decide +kernel
theorem d_Yar_add_24 : decode b_Yar_add 24 = .ok (.ifCond .eq 12, 3) := by decide +kernel
theorem d_Yar_add_27 : decode b_Yar_add 27 = .ok (.aload_n 0, 1) := by decide +kernel
theorem d_Yar_add_28 : decode b_Yar_add 28 = .ok (.getfield 9, 3) := by decide +kernel
theorem d_Yar_add_31 : decode b_Yar_add 31 = .ok (.bipush 12, 2) := by decide +kernel
theorem d_Yar_add_33 : decode b_Yar_add 33 = .ok (.if_icmp .lt 5, 3) := by decide +kernel
theorem d_Yar_add_36 : decode b_Yar_add 36 = .ok (.iconst 0, 1) := by decide +kernel
theorem d_Yar_add_37 : decode b_Yar_add 37 = .ok (.ireturn, 1) := by decide +kernel
theorem d_Yar_add_38 : decode b_Yar_add 38 = .ok (.aload_n 0, 1) := by decide +kernel
theorem d_Yar_add_39 : decode b_Yar_add 39 = .ok (.getfield 15, 3) := by decide +kernel
theorem d_Yar_add_42 : decode b_Yar_add 42 = .ok (.aload_n 0, 1) := by decide +kernel
theorem d_Yar_add_43 : decode b_Yar_add 43 = .ok (.getfield 9, 3) := by decide +kernel
theorem d_Yar_add_46 : decode b_Yar_add 46 = .ok (.iload_n 1, 1) := by decide +kernel
theorem d_Yar_add_47 : decode b_Yar_add 47 = .ok (.iastore, 1) := by decide +kernel
theorem d_Yar_add_48 : decode b_Yar_add 48 = .ok (.aload_n 0, 1) := by decide +kernel
theorem d_Yar_add_49 : decode b_Yar_add 49 = .ok (.getfield 19, 3) := by decide +kernel
theorem d_Yar_add_52 : decode b_Yar_add 52 = .ok (.aload_n 0, 1) := by decide +kernel
theorem d_Yar_add_53 : decode b_Yar_add 53 = .ok (.getfield 9, 3) := by decide +kernel
theorem d_Yar_add_56 : decode b_Yar_add 56 = .ok (.iload_n 2, 1) := by decide +kernel
theorem d_Yar_add_57 : decode b_Yar_add 57 = .ok (.iastore, 1) := by decide +kernel
theorem d_Yar_add_58 : decode b_Yar_add 58 = .ok (.aload_n 0, 1) := by decide +kernel
theorem d_Yar_add_59 : decode b_Yar_add 59 = .ok (.getfield 22, 3) := by decide +kernel
theorem d_Yar_add_62 : decode b_Yar_add 62 = .ok (.aload_n 0, 1) := by decide +kernel
theorem d_Yar_add_63 : decode b_Yar_add 63 = .ok (.getfield 9, 3) := by decide +kernel
theorem d_Yar_add_66 : decode b_Yar_add 66 = .ok (.iload_n 3, 1) := by decide +kernel
theorem d_Yar_add_67 : decode b_Yar_add 67 = .ok (.iastore, 1) := by decide +kernel
theorem d_Yar_add_68 : decode b_Yar_add 68 = .ok (.aload_n 0, 1) := by decide +kernel
theorem d_Yar_add_69 : decode b_Yar_add 69 = .ok (.getfield 25, 3) := by decide +kernel
theorem d_Yar_add_72 : decode b_Yar_add 72 = .ok (.aload_n 0, 1) := by decide +kernel
theorem d_Yar_add_73 : decode b_Yar_add 73 = .ok (.getfield 9, 3) := by decide +kernel
theorem d_Yar_add_76 : decode b_Yar_add 76 = .ok (.iload_n 1, 1) := by decide +kernel
theorem d_Yar_add_77 : decode b_Yar_add 77 = .ok (.iload_n 2, 1) := by decide +kernel
theorem d_Yar_add_78 : decode b_Yar_add 78 = .ok (.iload_n 3, 1) := by decide +kernel
theorem d_Yar_add_79 : decode b_Yar_add 79 = .ok (.invokestatic 48, 3) := by decide +kernel
theorem d_Yar_add_82 : decode b_Yar_add 82 = .ok (.iastore, 1) := by decide +kernel
theorem d_Yar_add_83 : decode b_Yar_add 83 = .ok (.aload_n 0, 1) := by decide +kernel
theorem d_Yar_add_84 : decode b_Yar_add 84 = .ok (.getfield 28, 3) := by decide +kernel
theorem d_Yar_add_87 : decode b_Yar_add 87 = .ok (.aload_n 0, 1) := by decide +kernel
theorem d_Yar_add_88 : decode b_Yar_add 88 = .ok (.getfield 9, 3) := by decide +kernel
theorem d_Yar_add_91 : decode b_Yar_add 91 = .ok (.iload_n 1, 1) := by decide +kernel
theorem d_Yar_add_92 : decode b_Yar_add 92 = .ok (.iload_n 2, 1) := by decide +kernel
theorem d_Yar_add_93 : decode b_Yar_add 93 = .ok (.iconst 0, 1) := by decide +kernel
theorem d_Yar_add_94 : decode b_Yar_add 94 = .ok (.invokestatic 54, 3) := by decide +kernel
theorem d_Yar_add_97 : decode b_Yar_add 97 = .ok (.iastore, 1) := by decide +kernel
theorem d_Yar_add_98 : decode b_Yar_add 98 = .ok (.aload_n 0, 1) := by decide +kernel
theorem d_Yar_add_99 : decode b_Yar_add 99 = .ok (.getfield 31, 3) := by decide +kernel
theorem d_Yar_add_102 : decode b_Yar_add 102 = .ok (.aload_n 0, 1) := by decide +kernel
theorem d_Yar_add_103 : decode b_Yar_add 103 = .ok (.getfield 9, 3) := by decide +kernel
theorem d_Yar_add_106 : decode b_Yar_add 106 = .ok (.iload_n 1, 1) := by decide +kernel
theorem d_Yar_add_107 : decode b_Yar_add 107 = .ok (.iload_n 2, 1) := by decide +kernel
theorem d_Yar_add_108 : decode b_Yar_add 108 = .ok (.iconst 1, 1) := by decide +kernel
theorem d_Yar_add_109 : decode b_Yar_add 109 = .ok (.invokestatic 54, 3) := by decide +kernel
theorem d_Yar_add_112 : decode b_Yar_add 112 = .ok (.iastore, 1) := by decide +kernel
theorem d_Yar_add_113 : decode b_Yar_add 113 = .ok (.aload_n 0, 1) := by decide +kernel
theorem d_Yar_add_114 : decode b_Yar_add 114 = .ok (.getfield 34, 3) := by decide +kernel
theorem d_Yar_add_117 : decode b_Yar_add 117 = .ok (.aload_n 0, 1) := by decide +kernel
theorem d_Yar_add_118 : decode b_Yar_add 118 = .ok (.getfield 9, 3) := by decide +kernel
theorem d_Yar_add_121 : decode b_Yar_add 121 = .ok (.iload_n 1, 1) := by decide +kernel
theorem d_Yar_add_122 : decode b_Yar_add 122 = .ok (.iconst 0, 1) := by decide +kernel
theorem d_Yar_add_123 : decode b_Yar_add 123 = .ok (.invokestatic 58, 3) := by decide +kernel
theorem d_Yar_add_126 : decode b_Yar_add 126 = .ok (.iastore, 1) := by decide +kernel
theorem d_Yar_add_127 : decode b_Yar_add 127 = .ok (.aload_n 0, 1) := by decide +kernel
theorem d_Yar_add_128 : decode b_Yar_add 128 = .ok (.getfield 37, 3) := by decide +kernel
theorem d_Yar_add_131 : decode b_Yar_add 131 = .ok (.aload_n 0, 1) := by decide +kernel
theorem d_Yar_add_132 : decode b_Yar_add 132 = .ok (.getfield 9, 3) := by decide +kernel
theorem d_Yar_add_135 : decode b_Yar_add 135 = .ok (.iload_n 1, 1) := by decide +kernel
theorem d_Yar_add_136 : decode b_Yar_add 136 = .ok (.iconst 1, 1) := by decide +kernel
theorem d_Yar_add_137 : decode b_Yar_add 137 = .ok (.invokestatic 58, 3) := by decide +kernel
theorem d_Yar_add_140 : decode b_Yar_add 140 = .ok (.iastore, 1) := by decide +kernel
theorem d_Yar_add_141 : decode b_Yar_add 141 = .ok (.aload_n 0, 1) := by decide +kernel
theorem d_Yar_add_142 : decode b_Yar_add 142 = .ok (.dup, 1) := by decide +kernel
theorem d_Yar_add_143 : decode b_Yar_add 143 = .ok (.getfield 9, 3) := by decide +kernel
theorem d_Yar_add_146 : decode b_Yar_add 146 = .ok (.iconst 1, 1) := by decide +kernel
theorem d_Yar_add_147 : decode b_Yar_add 147 = .ok (.iadd, 1) := by decide +kernel
theorem d_Yar_add_148 : decode b_Yar_add 148 = .ok (.putfield 9, 3) := by decide +kernel
theorem d_Yar_add_151 : decode b_Yar_add 151 = .ok (.iconst 1, 1) := by decide +kernel
theorem d_Yar_add_152 : decode b_Yar_add 152 = .ok (.ireturn, 1) := by decide +kernel
theorem d_Tex_tell_0 : decode b_Tex_tell 0 = .ok (.aload_n 0, 1) := by decide +kernel
theorem d_Tex_tell_1 : decode b_Tex_tell 1 = .ok (.iload_n 1, 1) := by decide +kernel
theorem d_Tex_tell_2 : decode b_Tex_tell 2 = .ok (.iconst 1, 1) := by decide +kernel
theorem d_Tex_tell_3 : decode b_Tex_tell 3 = .ok (.iadd, 1) := by decide +kernel
theorem d_Tex_tell_4 : decode b_Tex_tell 4 = .ok (.iconst 1, 1) := by decide +kernel
theorem d_Tex_tell_5 : decode b_Tex_tell 5 = .ok (.invokestatic 29, 3) := by decide +kernel
theorem d_Tex_tell_8 : decode b_Tex_tell 8 = .ok (.istore_n 3, 1) := by decide +kernel
theorem d_Tex_tell_9 : decode b_Tex_tell 9 = .ok (.aload_n 0, 1) := by decide +kernel
theorem d_Tex_tell_10 : decode b_Tex_tell 10 = .ok (.iload_n 1, 1) := by decide +kernel
theorem d_Tex_tell_11 : decode b_Tex_tell 11 = .ok (.iconst 1, 1) := by decide +kernel
theorem d_Tex_tell_12 : decode b_Tex_tell 12 = .ok (.iadd, 1) := by decide +kernel
theorem d_Tex_tell_13 : decode b_Tex_tell 13 = .ok (.iconst 2, 1) := by decide +kernel
theorem d_Tex_tell_14 : decode b_Tex_tell 14 = .ok (.invokestatic 29, 3) := by decide +kernel
theorem d_Tex_tell_17 : decode b_Tex_tell 17 = .ok (.istore 4, 2) := by decide +kernel
theorem d_Tex_tell_19 : decode b_Tex_tell 19 = .ok (.aload_n 0, 1) := by decide +kernel
theorem d_Tex_tell_20 : decode b_Tex_tell 20 = .ok (.iload_n 1, 1) := by decide +kernel
theorem d_Tex_tell_21 : decode b_Tex_tell 21 = .ok (.iconst 2, 1) := by decide +kernel
theorem d_Tex_tell_22 : decode b_Tex_tell 22 = .ok (.iadd, 1) := by decide +kernel
theorem d_Tex_tell_23 : decode b_Tex_tell 23 = .ok (.iconst 1, 1) := by decide +kernel
theorem d_Tex_tell_24 : decode b_Tex_tell 24 = .ok (.invokestatic 29, 3) := by decide +kernel
theorem d_Tex_tell_27 : decode b_Tex_tell 27 = .ok (.istore 5, 2) := by decide +kernel
theorem d_Tex_tell_29 : decode b_Tex_tell 29 = .ok (.aload_n 0, 1) := by decide +kernel
theorem d_Tex_tell_30 : decode b_Tex_tell 30 = .ok (.getfield 15, 3) := by decide +kernel
theorem d_Tex_tell_33 : decode b_Tex_tell 33 = .ok (.iload_n 1, 1) := by decide +kernel
theorem d_Tex_tell_34 : decode b_Tex_tell 34 = .ok (.iaload, 1) := by decide +kernel
theorem d_Tex_tell_35 : decode b_Tex_tell 35 = .ok (.tableswitch 221 98 121 #[128, 192, 221, 221, 221, 221, 221, 221, 221, 221, 200, 221, 221, 221, 162, 221, 185, 221, 214, 221, 221, 221, 174, 109], 109) := by decide +kernel
theorem d_Tex_tell_144 : decode b_Tex_tell 144 = .ok (.aload_n 2, 1) := by decide +kernel
theorem d_Tex_tell_145 : decode b_Tex_tell 145 = .ok (.getfield 33, 3) := by decide +kernel
theorem d_Tex_tell_148 : decode b_Tex_tell 148 = .ok (.iload_n 3, 1) := by decide +kernel
theorem d_Tex_tell_149 : decode b_Tex_tell 149 = .ok (.iload 5, 2) := by decide +kernel
theorem d_Tex_tell_151 : decode b_Tex_tell 151 = .ok (.aload_n 0, 1) := by decide +kernel
theorem d_Tex_tell_152 : decode b_Tex_tell 152 = .ok (.iload_n 1, 1) := by decide +kernel
theorem d_Tex_tell_153 : decode b_Tex_tell 153 = .ok (.iconst 3, 1) := by decide +kernel
theorem d_Tex_tell_154 : decode b_Tex_tell 154 = .ok (.iadd, 1) := by decide +kernel
theorem d_Tex_tell_155 : decode b_Tex_tell 155 = .ok (.iconst 2, 1) := by decide +kernel
theorem d_Tex_tell_156 : decode b_Tex_tell 156 = .ok (.invokestatic 29, 3) := by decide +kernel
theorem d_Tex_tell_159 : decode b_Tex_tell 159 = .ok (.invokevirtual 39, 3) := by decide +kernel
theorem d_Tex_tell_162 : decode b_Tex_tell 162 = .ok (.ireturn, 1) := by decide +kernel
theorem d_Tex_tell_163 : decode b_Tex_tell 163 = .ok (.aload_n 2, 1) := by decide +kernel
theorem d_Tex_tell_164 : decode b_Tex_tell 164 = .ok (.getfield 44, 3) := by decide +kernel
theorem d_Tex_tell_167 : decode b_Tex_tell 167 = .ok (.iload 4, 2) := by decide +kernel
theorem d_Tex_tell_169 : decode b_Tex_tell 169 = .ok (.aload_n 0, 1) := by decide +kernel
theorem d_Tex_tell_170 : decode b_Tex_tell 170 = .ok (.iload_n 1, 1) := by decide +kernel
theorem d_Tex_tell_171 : decode b_Tex_tell 171 = .ok (.iconst 3, 1) := by decide +kernel
theorem d_Tex_tell_172 : decode b_Tex_tell 172 = .ok (.iadd, 1) := by decide +kernel
theorem d_Tex_tell_173 : decode b_Tex_tell 173 = .ok (.iconst 1, 1) := by decide +kernel
theorem d_Tex_tell_174 : decode b_Tex_tell 174 = .ok (.invokestatic 29, 3) := by decide +kernel
theorem d_Tex_tell_177 : decode b_Tex_tell 177 = .ok (.aload_n 0, 1) := by decide +kernel
theorem d_Tex_tell_178 : decode b_Tex_tell 178 = .ok (.iload_n 1, 1) := by decide +kernel
theorem d_Tex_tell_179 : decode b_Tex_tell 179 = .ok (.iconst 4, 1) := by decide +kernel
theorem d_Tex_tell_180 : decode b_Tex_tell 180 = .ok (.iadd, 1) := by decide +kernel
theorem d_Tex_tell_181 : decode b_Tex_tell 181 = .ok (.iconst 1, 1) := by decide +kernel
theorem d_Tex_tell_182 : decode b_Tex_tell 182 = .ok (.invokestatic 29, 3) := by decide +kernel
theorem d_Tex_tell_185 : decode b_Tex_tell 185 = .ok (.aload_n 0, 1) := by decide +kernel
theorem d_Tex_tell_186 : decode b_Tex_tell 186 = .ok (.iload_n 1, 1) := by decide +kernel
theorem d_Tex_tell_187 : decode b_Tex_tell 187 = .ok (.iconst 5, 1) := by decide +kernel
theorem d_Tex_tell_188 : decode b_Tex_tell 188 = .ok (.iadd, 1) := by decide +kernel
theorem d_Tex_tell_189 : decode b_Tex_tell 189 = .ok (.iconst 1, 1) := by decide +kernel
theorem d_Tex_tell_190 : decode b_Tex_tell 190 = .ok (.invokestatic 29, 3) := by decide +kernel
theorem d_Tex_tell_193 : decode b_Tex_tell 193 = .ok (.invokevirtual 48, 3) := by decide +kernel
theorem d_Tex_tell_196 : decode b_Tex_tell 196 = .ok (.ireturn, 1) := by decide +kernel
theorem d_Tex_tell_197 : decode b_Tex_tell 197 = .ok (.aload_n 2, 1) := by decide +kernel
theorem d_Tex_tell_198 : decode b_Tex_tell 198 = .ok (.getfield 44, 3) := by decide +kernel
theorem d_Tex_tell_201 : decode b_Tex_tell 201 = .ok (.iload_n 3, 1) := by decide +kernel
theorem d_Tex_tell_202 : decode b_Tex_tell 202 = .ok (.iconst 1, 1) := by decide +kernel
theorem d_Tex_tell_203 : decode b_Tex_tell 203 = .ok (.iload 5, 2) := by decide +kernel
theorem d_Tex_tell_205 : decode b_Tex_tell 205 = .ok (.invokevirtual 53, 3) := by decide +kernel
theorem d_Tex_tell_208 : decode b_Tex_tell 208 = .ok (.ireturn, 1) := by decide +kernel
theorem d_Tex_tell_209 : decode b_Tex_tell 209 = .ok (.aload_n 2, 1) := by decide +kernel
theorem d_Tex_tell_210 : decode b_Tex_tell 210 = .ok (.getfield 44, 3) := by decide +kernel
theorem d_Tex_tell_213 : decode b_Tex_tell 213 = .ok (.iload_n 3, 1) := by decide +kernel
theorem d_Tex_tell_214 : decode b_Tex_tell 214 = .ok (.iload 5, 2) := by decide +kernel
theorem d_Tex_tell_216 : decode b_Tex_tell 216 = .ok (.invokevirtual 56, 3) := by decide +kernel
theorem d_Tex_tell_219 : decode b_Tex_tell 219 = .ok (.ireturn, 1) := by decide +kernel
theorem d_Tex_tell_220 : decode b_Tex_tell 220 = .ok (.aload_n 2, 1) := by decide +kernel
theorem d_Tex_tell_221 : decode b_Tex_tell 221 = .ok (.iconst 0, 1) := by decide +kernel
theorem d_Tex_tell_222 : decode b_Tex_tell 222 = .ok (.iload_n 3, 1) := by decide +kernel
theorem d_Tex_tell_223 : decode b_Tex_tell 223 = .ok (.invokevirtual 60, 3) := by decide +kernel
theorem d_Tex_tell_226 : decode b_Tex_tell 226 = .ok (.ireturn, 1) := by decide +kernel
theorem d_Tex_tell_227 : decode b_Tex_tell 227 = .ok (.aload_n 2, 1) := by decide +kernel
theorem d_Tex_tell_228 : decode b_Tex_tell 228 = .ok (.iconst 1, 1) := by decide +kernel
theorem d_Tex_tell_229 : decode b_Tex_tell 229 = .ok (.iload 4, 2) := by decide +kernel
theorem d_Tex_tell_231 : decode b_Tex_tell 231 = .ok (.invokevirtual 60, 3) := by decide +kernel
theorem d_Tex_tell_234 : decode b_Tex_tell 234 = .ok (.ireturn, 1) := by decide +kernel
theorem d_Tex_tell_235 : decode b_Tex_tell 235 = .ok (.aload_n 2, 1) := by decide +kernel
theorem d_Tex_tell_236 : decode b_Tex_tell 236 = .ok (.iconst 2, 1) := by decide +kernel
theorem d_Tex_tell_237 : decode b_Tex_tell 237 = .ok (.aload_n 0, 1) := by decide +kernel
theorem d_Tex_tell_238 : decode b_Tex_tell 238 = .ok (.iload_n 1, 1) := by decide +kernel
theorem d_Tex_tell_239 : decode b_Tex_tell 239 = .ok (.iconst 1, 1) := by decide +kernel
theorem d_Tex_tell_240 : decode b_Tex_tell 240 = .ok (.iadd, 1) := by decide +kernel
theorem d_Tex_tell_241 : decode b_Tex_tell 241 = .ok (.iconst 3, 1) := by decide +kernel
theorem d_Tex_tell_242 : decode b_Tex_tell 242 = .ok (.invokestatic 29, 3) := by decide +kernel
theorem d_Tex_tell_245 : decode b_Tex_tell 245 = .ok (.invokevirtual 60, 3) := by decide +kernel
theorem d_Tex_tell_248 : decode b_Tex_tell 248 = .ok (.ireturn, 1) := by decide +kernel
theorem d_Tex_tell_249 : decode b_Tex_tell 249 = .ok (.aload_n 2, 1) := by decide +kernel
theorem d_Tex_tell_250 : decode b_Tex_tell 250 = .ok (.iload 4, 2) := by decide +kernel
theorem d_Tex_tell_252 : decode b_Tex_tell 252 = .ok (.invokevirtual 63, 3) := by decide +kernel
theorem d_Tex_tell_255 : decode b_Tex_tell 255 = .ok (.ireturn, 1) := by decide +kernel
theorem d_Tex_tell_256 : decode b_Tex_tell 256 = .ok (.iconst 0, 1) := by decide +kernel
theorem d_Tex_tell_257 : decode b_Tex_tell 257 = .ok (.ireturn, 1) := by decide +kernel
theorem d_Tri_alone_0 : decode b_Tri_alone 0 = .ok (.aload_n 0, 1) := by decide +kernel
theorem d_Tri_alone_1 : decode b_Tri_alone 1 = .ok (.getfield 21, 3) := by decide +kernel
theorem d_Tri_alone_4 : decode b_Tri_alone 4 = .ok (.iconst 0, 1) := by decide +kernel
theorem d_Tri_alone_5 : decode b_Tri_alone 5 = .ok (.iload_n 2, 1) := by decide +kernel
theorem d_Tri_alone_6 : decode b_Tri_alone 6 = .ok (.iastore, 1) := by decide +kernel
theorem d_Tri_alone_7 : decode b_Tri_alone 7 = .ok (.iload_n 3, 1) := by decide +kernel
theorem d_Tri_alone_8 : decode b_Tri_alone 8 = .ok (.ifCond .eq 10, 3) := by decide +kernel
theorem d_Tri_alone_11 : decode b_Tri_alone 11 = .ok (.aload_n 0, 1) := by decide +kernel
theorem d_Tri_alone_12 : decode b_Tri_alone 12 = .ok (.getfield 18, 3) := by decide +kernel
theorem d_Tri_alone_15 : decode b_Tri_alone 15 = .ok (.goto 7, 3) := by decide +kernel
theorem d_Tri_alone_18 : decode b_Tri_alone 18 = .ok (.aload_n 0, 1) := by decide +kernel
theorem d_Tri_alone_19 : decode b_Tri_alone 19 = .ok (.getfield 12, 3) := by decide +kernel
theorem d_Tri_alone_22 : decode b_Tri_alone 22 = .ok (.astore 4, 2) := by decide +kernel
theorem d_Tri_alone_24 : decode b_Tri_alone 24 = .ok (.aload 4, 2) := by decide +kernel
theorem d_Tri_alone_26 : decode b_Tri_alone 26 = .ok (.aload_n 1, 1) := by decide +kernel
theorem d_Tri_alone_27 : decode b_Tri_alone 27 = .ok (.aload_n 0, 1) := by decide +kernel
theorem d_Tri_alone_28 : decode b_Tri_alone 28 = .ok (.getfield 21, 3) := by decide +kernel
theorem d_Tri_alone_31 : decode b_Tri_alone 31 = .ok (.iconst 1, 1) := by decide +kernel
theorem d_Tri_alone_32 : decode b_Tri_alone 32 = .ok (.iload_n 3, 1) := by decide +kernel
theorem d_Tri_alone_33 : decode b_Tri_alone 33 = .ok (.aload_n 1, 1) := by decide +kernel
theorem d_Tri_alone_34 : decode b_Tri_alone 34 = .ok (.getfield 40, 3) := by decide +kernel
theorem d_Tri_alone_37 : decode b_Tri_alone 37 = .ok (.invokevirtual 25, 3) := by decide +kernel
theorem d_Tri_alone_40 : decode b_Tri_alone 40 = .ok (.aload 4, 2) := by decide +kernel
theorem d_Tri_alone_42 : decode b_Tri_alone 42 = .ok (.areturn, 1) := by decide +kernel
theorem d_Tri_shutIn_0 : decode b_Tri_shutIn 0 = .ok (.aload_n 0, 1) := by decide +kernel
theorem d_Tri_shutIn_1 : decode b_Tri_shutIn 1 = .ok (.getfield 18, 3) := by decide +kernel
theorem d_Tri_shutIn_4 : decode b_Tri_shutIn 4 = .ok (.getfield 29, 3) := by decide +kernel
theorem d_Tri_shutIn_7 : decode b_Tri_shutIn 7 = .ok (.bipush (-4), 2) := by decide +kernel
theorem d_Tri_shutIn_9 : decode b_Tri_shutIn 9 = .ok (.if_icmp .ne 7, 3) := by decide +kernel
theorem d_Tri_shutIn_12 : decode b_Tri_shutIn 12 = .ok (.iconst 0, 1) := by decide +kernel
theorem d_Tri_shutIn_13 : decode b_Tri_shutIn 13 = .ok (.goto 12, 3) := by decide +kernel
theorem d_Tri_shutIn_16 : decode b_Tri_shutIn 16 = .ok (.iconst 1, 1) := by decide +kernel
theorem d_Tri_shutIn_17 : decode b_Tri_shutIn 17 = .ok (.aload_n 0, 1) := by decide +kernel
theorem d_Tri_shutIn_18 : decode b_Tri_shutIn 18 = .ok (.getfield 18, 3) := by decide +kernel
theorem d_Tri_shutIn_21 : decode b_Tri_shutIn 21 = .ok (.getfield 29, 3) := by decide +kernel
theorem d_Tri_shutIn_24 : decode b_Tri_shutIn 24 = .ok (.ishl, 1) := by decide +kernel
theorem d_Tri_shutIn_25 : decode b_Tri_shutIn 25 = .ok (.istore_n 1, 1) := by decide +kernel
theorem d_Tri_shutIn_26 : decode b_Tri_shutIn 26 = .ok (.aload_n 0, 1) := by decide +kernel
theorem d_Tri_shutIn_27 : decode b_Tri_shutIn 27 = .ok (.getfield 12, 3) := by decide +kernel
theorem d_Tri_shutIn_30 : decode b_Tri_shutIn 30 = .ok (.getfield 43, 3) := by decide +kernel
theorem d_Tri_shutIn_33 : decode b_Tri_shutIn 33 = .ok (.aload_n 0, 1) := by decide +kernel
theorem d_Tri_shutIn_34 : decode b_Tri_shutIn 34 = .ok (.getfield 18, 3) := by decide +kernel
theorem d_Tri_shutIn_37 : decode b_Tri_shutIn 37 = .ok (.getfield 43, 3) := by decide +kernel
theorem d_Tri_shutIn_40 : decode b_Tri_shutIn 40 = .ok (.iconst (-1), 1) := by decide +kernel
theorem d_Tri_shutIn_41 : decode b_Tri_shutIn 41 = .ok (.ixor, 1) := by decide +kernel
theorem d_Tri_shutIn_42 : decode b_Tri_shutIn 42 = .ok (.iand, 1) := by decide +kernel
theorem d_Tri_shutIn_43 : decode b_Tri_shutIn 43 = .ok (.iload_n 1, 1) := by decide +kernel
theorem d_Tri_shutIn_44 : decode b_Tri_shutIn 44 = .ok (.iconst (-1), 1) := by decide +kernel
theorem d_Tri_shutIn_45 : decode b_Tri_shutIn 45 = .ok (.ixor, 1) := by decide +kernel
theorem d_Tri_shutIn_46 : decode b_Tri_shutIn 46 = .ok (.iand, 1) := by decide +kernel
theorem d_Tri_shutIn_47 : decode b_Tri_shutIn 47 = .ok (.ireturn, 1) := by decide +kernel
theorem d_Brt_isShelf_0 : decode b_Brt_isShelf 0 = .ok (.iload_n 0, 1) := by decide +kernel
theorem d_Brt_isShelf_1 : decode b_Brt_isShelf 1 = .ok (.iconst 0, 1) := by decide +kernel
theorem d_Brt_isShelf_2 : decode b_Brt_isShelf 2 = .ok (.bipush 7, 2) := by decide +kernel
theorem d_Brt_isShelf_4 : decode b_Brt_isShelf 4 = .ok (.invokestatic 185, 3) := by decide +kernel
theorem d_Brt_isShelf_7 : decode b_Brt_isShelf 7 = .ok (.ireturn, 1) := by decide +kernel
theorem d_Brt_refusalUnless_0 : decode b_Brt_refusalUnless 0 = .ok (.iload_n 1, 1) := by decide +kernel
theorem d_Brt_refusalUnless_1 : decode b_Brt_refusalUnless 1 = .ok (.invokestatic 343, 3) := by decide +kernel
theorem d_Brt_refusalUnless_4 : decode b_Brt_refusalUnless 4 = .ok (.ifCond .ne 5, 3) := by decide +kernel
theorem d_Brt_refusalUnless_7 : decode b_Brt_refusalUnless 7 = .ok (.iconst (-1), 1) := by decide +kernel
theorem d_Brt_refusalUnless_8 : decode b_Brt_refusalUnless 8 = .ok (.ireturn, 1) := by decide +kernel
theorem d_Brt_refusalUnless_9 : decode b_Brt_refusalUnless 9 = .ok (.aload_n 0, 1) := by decide +kernel
theorem d_Brt_refusalUnless_10 : decode b_Brt_refusalUnless 10 = .ok (.getfield 49, 3) := by decide +kernel
theorem d_Brt_refusalUnless_13 : decode b_Brt_refusalUnless 13 = .ok (.iload_n 1, 1) := by decide +kernel
theorem d_Brt_refusalUnless_14 : decode b_Brt_refusalUnless 14 = .ok (.aaload, 1) := by decide +kernel
theorem d_Brt_refusalUnless_15 : decode b_Brt_refusalUnless 15 = .ok (.getfield 346, 3) := by decide +kernel
theorem d_Brt_refusalUnless_18 : decode b_Brt_refusalUnless 18 = .ok (.ifCond .ne 6, 3) := by decide +kernel
theorem d_Brt_refusalUnless_21 : decode b_Brt_refusalUnless 21 = .ok (.bipush (-11), 2) := by decide +kernel
theorem d_Brt_refusalUnless_23 : decode b_Brt_refusalUnless 23 = .ok (.ireturn, 1) := by decide +kernel
theorem d_Brt_refusalUnless_24 : decode b_Brt_refusalUnless 24 = .ok (.aload_n 0, 1) := by decide +kernel
theorem d_Brt_refusalUnless_25 : decode b_Brt_refusalUnless 25 = .ok (.getfield 49, 3) := by decide +kernel
theorem d_Brt_refusalUnless_28 : decode b_Brt_refusalUnless 28 = .ok (.iload_n 1, 1) := by decide +kernel
theorem d_Brt_refusalUnless_29 : decode b_Brt_refusalUnless 29 = .ok (.aaload, 1) := by decide +kernel
theorem d_Brt_refusalUnless_30 : decode b_Brt_refusalUnless 30 = .ok (.getfield 346, 3) := by decide +kernel
theorem d_Brt_refusalUnless_33 : decode b_Brt_refusalUnless 33 = .ok (.iload_n 2, 1) := by decide +kernel
theorem d_Brt_refusalUnless_34 : decode b_Brt_refusalUnless 34 = .ok (.if_icmp .ne 7, 3) := by decide +kernel
theorem d_Brt_refusalUnless_37 : decode b_Brt_refusalUnless 37 = .ok (.iconst 0, 1) := by decide +kernel
theorem d_Brt_refusalUnless_38 : decode b_Brt_refusalUnless 38 = .ok (.goto 5, 3) := by decide +kernel
theorem d_Brt_refusalUnless_41 : decode b_Brt_refusalUnless 41 = .ok (.bipush (-12), 2) := by decide +kernel
theorem d_Brt_refusalUnless_43 : decode b_Brt_refusalUnless 43 = .ok (.ireturn, 1) := by decide +kernel
theorem d_Brt_refusalOfRow_0 : decode b_Brt_refusalOfRow 0 = .ok (.aload_n 0, 1) := by decide +kernel
theorem d_Brt_refusalOfRow_1 : decode b_Brt_refusalOfRow 1 = .ok (.iload_n 1, 1) := by decide +kernel
theorem d_Brt_refusalOfRow_2 : decode b_Brt_refusalOfRow 2 = .ok (.iconst 2, 1) := by decide +kernel
theorem d_Brt_refusalOfRow_3 : decode b_Brt_refusalOfRow 3 = .ok (.invokevirtual 395, 3) := by decide +kernel
theorem d_Brt_refusalOfRow_6 : decode b_Brt_refusalOfRow 6 = .ok (.ireturn, 1) := by decide +kernel
theorem d_Brt_cave_0 : decode b_Brt_cave 0 = .ok (.aload_n 0, 1) := by decide +kernel
theorem d_Brt_cave_1 : decode b_Brt_cave 1 = .ok (.iload_n 1, 1) := by decide +kernel
theorem d_Brt_cave_2 : decode b_Brt_cave 2 = .ok (.invokevirtual 58, 3) := by decide +kernel
theorem d_Brt_cave_5 : decode b_Brt_cave 5 = .ok (.istore_n 2, 1) := by decide +kernel
theorem d_Brt_cave_6 : decode b_Brt_cave 6 = .ok (.iload_n 2, 1) := by decide +kernel
theorem d_Brt_cave_7 : decode b_Brt_cave 7 = .ok (.ifCond .eq 5, 3) := by decide +kernel
theorem d_Brt_cave_10 : decode b_Brt_cave 10 = .ok (.iload_n 2, 1) := by decide +kernel
theorem d_Brt_cave_11 : decode b_Brt_cave 11 = .ok (.ireturn, 1) := by decide +kernel
theorem d_Brt_cave_12 : decode b_Brt_cave 12 = .ok (.aload_n 0, 1) := by decide +kernel
theorem d_Brt_cave_13 : decode b_Brt_cave 13 = .ok (.getfield 49, 3) := by decide +kernel
theorem d_Brt_cave_16 : decode b_Brt_cave 16 = .ok (.iload_n 1, 1) := by decide +kernel
theorem d_Brt_cave_17 : decode b_Brt_cave 17 = .ok (.aaload, 1) := by decide +kernel
theorem d_Brt_cave_18 : decode b_Brt_cave 18 = .ok (.astore_n 3, 1) := by decide +kernel
theorem d_Brt_cave_19 : decode b_Brt_cave 19 = .ok (.aload_n 3, 1) := by decide +kernel
theorem d_Brt_cave_20 : decode b_Brt_cave 20 = .ok (.getfield 62, 3) := by decide +kernel
theorem d_Brt_cave_23 : decode b_Brt_cave 23 = .ok (.ifCond .eq 6, 3) := by decide +kernel
theorem d_Brt_cave_26 : decode b_Brt_cave 26 = .ok (.bipush (-12), 2) := by decide +kernel
theorem d_Brt_cave_28 : decode b_Brt_cave 28 = .ok (.ireturn, 1) := by decide +kernel
theorem d_Brt_cave_29 : decode b_Brt_cave 29 = .ok (.aload_n 3, 1) := by decide +kernel
theorem d_Brt_cave_30 : decode b_Brt_cave 30 = .ok (.invokestatic 66, 3) := by decide +kernel
theorem d_Brt_cave_33 : decode b_Brt_cave 33 = .ok (.istore 4, 2) := by decide +kernel
theorem d_Brt_cave_35 : decode b_Brt_cave 35 = .ok (.iload 4, 2) := by decide +kernel
theorem d_Brt_cave_37 : decode b_Brt_cave 37 = .ok (.ifCond .lt 10, 3) := by decide +kernel
theorem d_Brt_cave_40 : decode b_Brt_cave 40 = .ok (.sipush (-1000), 3) := by decide +kernel
theorem d_Brt_cave_43 : decode b_Brt_cave 43 = .ok (.iload 4, 2) := by decide +kernel
theorem d_Brt_cave_45 : decode b_Brt_cave 45 = .ok (.isub, 1) := by decide +kernel
theorem d_Brt_cave_46 : decode b_Brt_cave 46 = .ok (.ireturn, 1) := by decide +kernel
theorem d_Brt_cave_47 : decode b_Brt_cave 47 = .ok (.aload_n 0, 1) := by decide +kernel
theorem d_Brt_cave_48 : decode b_Brt_cave 48 = .ok (.getfield 19, 3) := by decide +kernel
theorem d_Brt_cave_51 : decode b_Brt_cave 51 = .ok (.aload_n 0, 1) := by decide +kernel
theorem d_Brt_cave_52 : decode b_Brt_cave 52 = .ok (.getfield 10, 3) := by decide +kernel
theorem d_Brt_cave_55 : decode b_Brt_cave 55 = .ok (.invokevirtual 72, 3) := by decide +kernel
theorem d_Brt_cave_58 : decode b_Brt_cave 58 = .ok (.iconst 0, 1) := by decide +kernel
theorem d_Brt_cave_59 : decode b_Brt_cave 59 = .ok (.istore 5, 2) := by decide +kernel
theorem d_Brt_cave_61 : decode b_Brt_cave 61 = .ok (.iconst 0, 1) := by decide +kernel
theorem d_Brt_cave_62 : decode b_Brt_cave 62 = .ok (.istore 6, 2) := by decide +kernel
theorem d_Brt_cave_64 : decode b_Brt_cave 64 = .ok (.iload 6, 2) := by decide +kernel
theorem d_Brt_cave_66 : decode b_Brt_cave 66 = .ok (.aload_n 3, 1) := by decide +kernel
theorem d_Brt_cave_67 : decode b_Brt_cave 67 = .ok (.getfield 76, 3) := by decide +kernel
theorem d_Brt_cave_70 : decode b_Brt_cave 70 = .ok (.if_icmp .ge 46, 3) := by decide +kernel
theorem d_Brt_cave_73 : decode b_Brt_cave 73 = .ok (.aload_n 3, 1) := by decide +kernel
theorem d_Brt_cave_74 : decode b_Brt_cave 74 = .ok (.iload 6, 2) := by decide +kernel
theorem d_Brt_cave_76 : decode b_Brt_cave 76 = .ok (.aload_n 0, 1) := by decide +kernel
theorem d_Brt_cave_77 : decode b_Brt_cave 77 = .ok (.getfield 19, 3) := by decide +kernel
theorem d_Brt_cave_80 : decode b_Brt_cave 80 = .ok (.invokestatic 79, 3) := by decide +kernel
theorem d_Brt_cave_83 : decode b_Brt_cave 83 = .ok (.ifCond .ne 10, 3) := by decide +kernel
theorem d_Brt_cave_86 : decode b_Brt_cave 86 = .ok (.sipush (-2000), 3) := by decide +kernel
theorem d_Brt_cave_89 : decode b_Brt_cave 89 = .ok (.iload 6, 2) := by decide +kernel
theorem d_Brt_cave_91 : decode b_Brt_cave 91 = .ok (.isub, 1) := by decide +kernel
theorem d_Brt_cave_92 : decode b_Brt_cave 92 = .ok (.ireturn, 1) := by decide +kernel
theorem d_Brt_cave_93 : decode b_Brt_cave 93 = .ok (.iinc 5 1, 3) := by decide +kernel
theorem d_Brt_cave_96 : decode b_Brt_cave 96 = .ok (.iload 6, 2) := by decide +kernel
theorem d_Brt_cave_98 : decode b_Brt_cave 98 = .ok (.iconst 2, 1) := by decide +kernel
theorem d_Brt_cave_99 : decode b_Brt_cave 99 = .ok (.aload_n 3, 1) := by decide +kernel
theorem d_Brt_cave_100 : decode b_Brt_cave 100 = .ok (.getfield 83, 3) := by decide +kernel
theorem d_Brt_cave_103 : decode b_Brt_cave 103 = .ok (.iload 6, 2) := by decide +kernel
theorem d_Brt_cave_105 : decode b_Brt_cave 105 = .ok (.iaload, 1) := by decide +kernel
theorem d_Brt_cave_106 : decode b_Brt_cave 106 = .ok (.invokestatic 86, 3) := by decide +kernel
theorem d_Brt_cave_109 : decode b_Brt_cave 109 = .ok (.iadd, 1) := by decide +kernel
theorem d_Brt_cave_110 : decode b_Brt_cave 110 = .ok (.iadd, 1) := by decide +kernel
theorem d_Brt_cave_111 : decode b_Brt_cave 111 = .ok (.istore 6, 2) := by decide +kernel
theorem d_Brt_cave_113 : decode b_Brt_cave 113 = .ok (.goto (-49), 3) := by decide +kernel
theorem d_Brt_cave_116 : decode b_Brt_cave 116 = .ok (.aload_n 0, 1) := by decide +kernel
theorem d_Brt_cave_117 : decode b_Brt_cave 117 = .ok (.getfield 10, 3) := by decide +kernel
theorem d_Brt_cave_120 : decode b_Brt_cave 120 = .ok (.aload_n 0, 1) := by decide +kernel
theorem d_Brt_cave_121 : decode b_Brt_cave 121 = .ok (.getfield 19, 3) := by decide +kernel
theorem d_Brt_cave_124 : decode b_Brt_cave 124 = .ok (.invokevirtual 72, 3) := by decide +kernel
theorem d_Brt_cave_127 : decode b_Brt_cave 127 = .ok (.aload_n 0, 1) := by decide +kernel
theorem d_Brt_cave_128 : decode b_Brt_cave 128 = .ok (.getfield 32, 3) := by decide +kernel
theorem d_Brt_cave_131 : decode b_Brt_cave 131 = .ok (.invokevirtual 89, 3) := by decide +kernel
theorem d_Brt_cave_134 : decode b_Brt_cave 134 = .ok (.iload 5, 2) := by decide +kernel
theorem d_Brt_cave_136 : decode b_Brt_cave 136 = .ok (.ireturn, 1) := by decide +kernel
theorem d_Brt_yard_0 : decode b_Brt_yard 0 = .ok (.aload_n 0, 1) := by decide +kernel
theorem d_Brt_yard_1 : decode b_Brt_yard 1 = .ok (.getfield 10, 3) := by decide +kernel
theorem d_Brt_yard_4 : decode b_Brt_yard 4 = .ok (.getfield 92, 3) := by decide +kernel
theorem d_Brt_yard_7 : decode b_Brt_yard 7 = .ok (.astore_n 3, 1) := by decide +kernel
theorem d_Brt_yard_8 : decode b_Brt_yard 8 = .ok (.aload_n 3, 1) := by decide +kernel
theorem d_Brt_yard_9 : decode b_Brt_yard 9 = .ok (.iload_n 1, 1) := by decide +kernel
theorem d_Brt_yard_10 : decode b_Brt_yard 10 = .ok (.invokevirtual 96, 3) := by decide +kernel
theorem d_Brt_yard_13 : decode b_Brt_yard 13 = .ok (.ifCond .ne 5, 3) := by decide +kernel
theorem d_Brt_yard_16 : decode b_Brt_yard 16 = .ok (.iconst (-1), 1) := by decide +kernel
theorem d_Brt_yard_17 : decode b_Brt_yard 17 = .ok (.ireturn, 1) := by decide +kernel
theorem d_Brt_yard_18 : decode b_Brt_yard 18 = .ok (.iload_n 2, 1) := by decide +kernel
theorem d_Brt_yard_19 : decode b_Brt_yard 19 = .ok (.tableswitch 92 0 5 #[37, 44, 51, 58, 78, 85], 37) := by decide +kernel
theorem d_Brt_yard_56 : decode b_Brt_yard 56 = .ok (.aload_n 3, 1) := by decide +kernel
theorem d_Brt_yard_57 : decode b_Brt_yard 57 = .ok (.getfield 102, 3) := by decide +kernel
theorem d_Brt_yard_60 : decode b_Brt_yard 60 = .ok (.iload_n 1, 1) := by decide +kernel
theorem d_Brt_yard_61 : decode b_Brt_yard 61 = .ok (.iaload, 1) := by decide +kernel
theorem d_Brt_yard_62 : decode b_Brt_yard 62 = .ok (.ireturn, 1) := by decide +kernel
theorem d_Brt_yard_63 : decode b_Brt_yard 63 = .ok (.aload_n 3, 1) := by decide +kernel
theorem d_Brt_yard_64 : decode b_Brt_yard 64 = .ok (.getfield 105, 3) := by decide +kernel
theorem d_Brt_yard_67 : decode b_Brt_yard 67 = .ok (.iload_n 1, 1) := by decide +kernel
theorem d_Brt_yard_68 : decode b_Brt_yard 68 = .ok (.iaload, 1) := by decide +kernel
theorem d_Brt_yard_69 : decode b_Brt_yard 69 = .ok (.ireturn, 1) := by decide +kernel
theorem d_Brt_yard_70 : decode b_Brt_yard 70 = .ok (.aload_n 3, 1) := by decide +kernel
theorem d_Brt_yard_71 : decode b_Brt_yard 71 = .ok (.getfield 108, 3) := by decide +kernel
theorem d_Brt_yard_74 : decode b_Brt_yard 74 = .ok (.iload_n 1, 1) := by decide +kernel
theorem d_Brt_yard_75 : decode b_Brt_yard 75 = .ok (.iaload, 1) := by decide +kernel
theorem d_Brt_yard_76 : decode b_Brt_yard 76 = .ok (.ireturn, 1) := by decide +kernel
theorem d_Brt_yard_77 : decode b_Brt_yard 77 = .ok (.aload_n 3, 1) := by decide +kernel
theorem d_Brt_yard_78 : decode b_Brt_yard 78 = .ok (.iload_n 1, 1) := by decide +kernel
theorem d_Brt_yard_79 : decode b_Brt_yard 79 = .ok (.aload_n 0, 1) := by decide +kernel
theorem d_Brt_yard_80 : decode b_Brt_yard 80 = .ok (.getfield 10, 3) := by decide +kernel
theorem d_Brt_yard_83 : decode b_Brt_yard 83 = .ok (.aload_n 0, 1) := by decide +kernel
theorem d_Brt_yard_84 : decode b_Brt_yard 84 = .ok (.getfield 10, 3) := by decide +kernel
theorem d_Brt_yard_87 : decode b_Brt_yard 87 = .ok (.getfield 111, 3) := by decide +kernel
theorem d_Brt_yard_90 : decode b_Brt_yard 90 = .ok (.invokevirtual 114, 3) := by decide +kernel
theorem d_Brt_yard_93 : decode b_Brt_yard 93 = .ok (.invokevirtual 117, 3) := by decide +kernel
theorem d_Brt_yard_96 : decode b_Brt_yard 96 = .ok (.ireturn, 1) := by decide +kernel
theorem d_Brt_yard_97 : decode b_Brt_yard 97 = .ok (.aload_n 3, 1) := by decide +kernel
theorem d_Brt_yard_98 : decode b_Brt_yard 98 = .ok (.getfield 121, 3) := by decide +kernel
theorem d_Brt_yard_101 : decode b_Brt_yard 101 = .ok (.iload_n 1, 1) := by decide +kernel
theorem d_Brt_yard_102 : decode b_Brt_yard 102 = .ok (.iaload, 1) := by decide +kernel
theorem d_Brt_yard_103 : decode b_Brt_yard 103 = .ok (.ireturn, 1) := by decide +kernel
theorem d_Brt_yard_104 : decode b_Brt_yard 104 = .ok (.aload_n 3, 1) := by decide +kernel
theorem d_Brt_yard_105 : decode b_Brt_yard 105 = .ok (.getfield 124, 3) := by decide +kernel
theorem d_Brt_yard_108 : decode b_Brt_yard 108 = .ok (.iload_n 1, 1) := by decide +kernel
theorem d_Brt_yard_109 : decode b_Brt_yard 109 = .ok (.iaload, 1) := by decide +kernel
theorem d_Brt_yard_110 : decode b_Brt_yard 110 = .ok (.ireturn, 1) := by decide +kernel
theorem d_Brt_yard_111 : decode b_Brt_yard 111 = .ok (.iconst (-1), 1) := by decide +kernel
theorem d_Brt_yard_112 : decode b_Brt_yard 112 = .ok (.ireturn, 1) := by decide +kernel
theorem d_Brt_body_0 : decode b_Brt_body 0 = .ok (.aload_n 0, 1) := by decide +kernel
theorem d_Brt_body_1 : decode b_Brt_body 1 = .ok (.getfield 10, 3) := by decide +kernel
theorem d_Brt_body_4 : decode b_Brt_body 4 = .ok (.getfield 127, 3) := by decide +kernel
theorem d_Brt_body_7 : decode b_Brt_body 7 = .ok (.astore_n 3, 1) := by decide +kernel
theorem d_Brt_body_8 : decode b_Brt_body 8 = .ok (.aload_n 3, 1) := by decide +kernel
theorem d_Brt_body_9 : decode b_Brt_body 9 = .ok (.iload_n 1, 1) := by decide +kernel
theorem d_Brt_body_10 : decode b_Brt_body 10 = .ok (.invokevirtual 131, 3) := by decide +kernel
theorem d_Brt_body_13 : decode b_Brt_body 13 = .ok (.ifCond .ne 5, 3) := by decide +kernel
theorem d_Brt_body_16 : decode b_Brt_body 16 = .ok (.iconst (-1), 1) := by decide +kernel
theorem d_Brt_body_17 : decode b_Brt_body 17 = .ok (.ireturn, 1) := by decide +kernel
theorem d_Brt_body_18 : decode b_Brt_body 18 = .ok (.iload_n 2, 1) := by decide +kernel
theorem d_Brt_body_19 : decode b_Brt_body 19 = .ok (.tableswitch 78 0 5 #[37, 44, 51, 58, 65, 72], 37) := by decide +kernel
theorem d_Brt_body_56 : decode b_Brt_body 56 = .ok (.aload_n 3, 1) := by decide +kernel
theorem d_Brt_body_57 : decode b_Brt_body 57 = .ok (.getfield 134, 3) := by decide +kernel
theorem d_Brt_body_60 : decode b_Brt_body 60 = .ok (.iload_n 1, 1) := by decide +kernel
theorem d_Brt_body_61 : decode b_Brt_body 61 = .ok (.iaload, 1) := by decide +kernel
theorem d_Brt_body_62 : decode b_Brt_body 62 = .ok (.ireturn, 1) := by decide +kernel
theorem d_Brt_body_63 : decode b_Brt_body 63 = .ok (.aload_n 3, 1) := by decide +kernel
theorem d_Brt_body_64 : decode b_Brt_body 64 = .ok (.getfield 137, 3) := by decide +kernel
theorem d_Brt_body_67 : decode b_Brt_body 67 = .ok (.iload_n 1, 1) := by decide +kernel
theorem d_Brt_body_68 : decode b_Brt_body 68 = .ok (.iaload, 1) := by decide +kernel
theorem d_Brt_body_69 : decode b_Brt_body 69 = .ok (.ireturn, 1) := by decide +kernel
theorem d_Brt_body_70 : decode b_Brt_body 70 = .ok (.aload_n 3, 1) := by decide +kernel
theorem d_Brt_body_71 : decode b_Brt_body 71 = .ok (.getfield 140, 3) := by decide +kernel
theorem d_Brt_body_74 : decode b_Brt_body 74 = .ok (.iload_n 1, 1) := by decide +kernel
theorem d_Brt_body_75 : decode b_Brt_body 75 = .ok (.iaload, 1) := by decide +kernel
theorem d_Brt_body_76 : decode b_Brt_body 76 = .ok (.ireturn, 1) := by decide +kernel
theorem d_Brt_body_77 : decode b_Brt_body 77 = .ok (.aload_n 3, 1) := by decide +kernel
theorem d_Brt_body_78 : decode b_Brt_body 78 = .ok (.getfield 143, 3) := by decide +kernel
theorem d_Brt_body_81 : decode b_Brt_body 81 = .ok (.iload_n 1, 1) := by decide +kernel
theorem d_Brt_body_82 : decode b_Brt_body 82 = .ok (.iaload, 1) := by decide +kernel
theorem d_Brt_body_83 : decode b_Brt_body 83 = .ok (.ireturn, 1) := by decide +kernel
theorem d_Brt_body_84 : decode b_Brt_body 84 = .ok (.aload_n 3, 1) := by decide +kernel
theorem d_Brt_body_85 : decode b_Brt_body 85 = .ok (.getfield 146, 3) := by decide +kernel
theorem d_Brt_body_88 : decode b_Brt_body 88 = .ok (.iload_n 1, 1) := by decide +kernel
theorem d_Brt_body_89 : decode b_Brt_body 89 = .ok (.iaload, 1) := by decide +kernel
theorem d_Brt_body_90 : decode b_Brt_body 90 = .ok (.ireturn, 1) := by decide +kernel
theorem d_Brt_body_91 : decode b_Brt_body 91 = .ok (.aload_n 3, 1) := by decide +kernel
theorem d_Brt_body_92 : decode b_Brt_body 92 = .ok (.iload_n 1, 1) := by decide +kernel
theorem d_Brt_body_93 : decode b_Brt_body 93 = .ok (.invokevirtual 149, 3) := by decide +kernel
theorem d_Brt_body_96 : decode b_Brt_body 96 = .ok (.ireturn, 1) := by decide +kernel
theorem d_Brt_body_97 : decode b_Brt_body 97 = .ok (.iconst (-1), 1) := by decide +kernel
theorem d_Brt_body_98 : decode b_Brt_body 98 = .ok (.ireturn, 1) := by decide +kernel
theorem d_Brt_refusalOfKind_0 : decode b_Brt_refusalOfKind 0 = .ok (.aload_n 0, 1) := by decide +kernel
theorem d_Brt_refusalOfKind_1 : decode b_Brt_refusalOfKind 1 = .ok (.iload_n 1, 1) := by decide +kernel
theorem d_Brt_refusalOfKind_2 : decode b_Brt_refusalOfKind 2 = .ok (.iconst 1, 1) := by decide +kernel
theorem d_Brt_refusalOfKind_3 : decode b_Brt_refusalOfKind 3 = .ok (.invokevirtual 395, 3) := by decide +kernel
theorem d_Brt_refusalOfKind_6 : decode b_Brt_refusalOfKind 6 = .ok (.ireturn, 1) := by decide +kernel
theorem d_Brt_lays_0 : decode b_Brt_lays 0 = .ok (.iload_n 2, 1) := by decide +kernel
theorem d_Brt_lays_1 : decode b_Brt_lays 1 = .ok (.invokestatic 152, 3) := by decide +kernel
theorem d_Brt_lays_4 : decode b_Brt_lays 4 = .ok (.ifCond .ne 5, 3) := by decide +kernel
theorem d_Brt_lays_7 : decode b_Brt_lays 7 = .ok (.iconst (-1), 1) := by decide +kernel
theorem d_Brt_lays_8 : decode b_Brt_lays 8 = .ok (.ireturn, 1) := by decide +kernel
theorem d_Brt_lays_9 : decode b_Brt_lays 9 = .ok (.aload_n 0, 1) := by decide +kernel
theorem d_Brt_lays_10 : decode b_Brt_lays 10 = .ok (.iload_n 1, 1) := by decide +kernel
theorem d_Brt_lays_11 : decode b_Brt_lays 11 = .ok (.invokevirtual 155, 3) := by decide +kernel
theorem d_Brt_lays_14 : decode b_Brt_lays 14 = .ok (.istore_n 3, 1) := by decide +kernel
theorem d_Brt_lays_15 : decode b_Brt_lays 15 = .ok (.iload_n 3, 1) := by decide +kernel
theorem d_Brt_lays_16 : decode b_Brt_lays 16 = .ok (.ifCond .eq 5, 3) := by decide +kernel
theorem d_Brt_lays_19 : decode b_Brt_lays 19 = .ok (.iload_n 3, 1) := by decide +kernel
theorem d_Brt_lays_20 : decode b_Brt_lays 20 = .ok (.ireturn, 1) := by decide +kernel
theorem d_Brt_lays_21 : decode b_Brt_lays 21 = .ok (.aload_n 0, 1) := by decide +kernel
theorem d_Brt_lays_22 : decode b_Brt_lays 22 = .ok (.getfield 10, 3) := by decide +kernel
theorem d_Brt_lays_25 : decode b_Brt_lays 25 = .ok (.getfield 92, 3) := by decide +kernel
theorem d_Brt_lays_28 : decode b_Brt_lays 28 = .ok (.aload_n 0, 1) := by decide +kernel
theorem d_Brt_lays_29 : decode b_Brt_lays 29 = .ok (.getfield 49, 3) := by decide +kernel
theorem d_Brt_lays_32 : decode b_Brt_lays 32 = .ok (.iload_n 1, 1) := by decide +kernel
theorem d_Brt_lays_33 : decode b_Brt_lays 33 = .ok (.aaload, 1) := by decide +kernel
theorem d_Brt_lays_34 : decode b_Brt_lays 34 = .ok (.getfield 158, 3) := by decide +kernel
theorem d_Brt_lays_37 : decode b_Brt_lays 37 = .ok (.aload_n 0, 1) := by decide +kernel
theorem d_Brt_lays_38 : decode b_Brt_lays 38 = .ok (.getfield 49, 3) := by decide +kernel
theorem d_Brt_lays_41 : decode b_Brt_lays 41 = .ok (.iload_n 1, 1) := by decide +kernel
theorem d_Brt_lays_42 : decode b_Brt_lays 42 = .ok (.aaload, 1) := by decide +kernel
theorem d_Brt_lays_43 : decode b_Brt_lays 43 = .ok (.getfield 160, 3) := by decide +kernel
theorem d_Brt_lays_46 : decode b_Brt_lays 46 = .ok (.iload_n 2, 1) := by decide +kernel
theorem d_Brt_lays_47 : decode b_Brt_lays 47 = .ok (.invokevirtual 162, 3) := by decide +kernel
theorem d_Brt_lays_50 : decode b_Brt_lays 50 = .ok (.ifCond .ne 6, 3) := by decide +kernel
theorem d_Brt_lays_53 : decode b_Brt_lays 53 = .ok (.bipush (-2), 2) := by decide +kernel
theorem d_Brt_lays_55 : decode b_Brt_lays 55 = .ok (.ireturn, 1) := by decide +kernel
theorem d_Brt_lays_56 : decode b_Brt_lays 56 = .ok (.aload_n 0, 1) := by decide +kernel
theorem d_Brt_lays_57 : decode b_Brt_lays 57 = .ok (.getfield 32, 3) := by decide +kernel
theorem d_Brt_lays_60 : decode b_Brt_lays 60 = .ok (.invokevirtual 89, 3) := by decide +kernel
theorem d_Brt_lays_63 : decode b_Brt_lays 63 = .ok (.aload_n 0, 1) := by decide +kernel
theorem d_Brt_lays_64 : decode b_Brt_lays 64 = .ok (.getfield 10, 3) := by decide +kernel
theorem d_Brt_lays_67 : decode b_Brt_lays 67 = .ok (.getfield 92, 3) := by decide +kernel
theorem d_Brt_lays_70 : decode b_Brt_lays 70 = .ok (.getfield 166, 3) := by decide +kernel
theorem d_Brt_lays_73 : decode b_Brt_lays 73 = .ok (.iconst 1, 1) := by decide +kernel
theorem d_Brt_lays_74 : decode b_Brt_lays 74 = .ok (.isub, 1) := by decide +kernel
theorem d_Brt_lays_75 : decode b_Brt_lays 75 = .ok (.ireturn, 1) := by decide +kernel
theorem d_Brt_shorter_0 : decode b_Brt_shorter 0 = .ok (.aload_n 0, 1) := by decide +kernel
theorem d_Brt_shorter_1 : decode b_Brt_shorter 1 = .ok (.getfield 10, 3) := by decide +kernel
theorem d_Brt_shorter_4 : decode b_Brt_shorter 4 = .ok (.getfield 92, 3) := by decide +kernel
theorem d_Brt_shorter_7 : decode b_Brt_shorter 7 = .ok (.getfield 166, 3) := by decide +kernel
theorem d_Brt_shorter_10 : decode b_Brt_shorter 10 = .ok (.ifCond .ne 6, 3) := by decide +kernel
theorem d_Brt_shorter_13 : decode b_Brt_shorter 13 = .ok (.bipush (-3), 2) := by decide +kernel
theorem d_Brt_shorter_15 : decode b_Brt_shorter 15 = .ok (.ireturn, 1) := by decide +kernel
theorem d_Brt_shorter_16 : decode b_Brt_shorter 16 = .ok (.aload_n 0, 1) := by decide +kernel
theorem d_Brt_shorter_17 : decode b_Brt_shorter 17 = .ok (.getfield 10, 3) := by decide +kernel
theorem d_Brt_shorter_20 : decode b_Brt_shorter 20 = .ok (.getfield 92, 3) := by decide +kernel
theorem d_Brt_shorter_23 : decode b_Brt_shorter 23 = .ok (.dup, 1) := by decide +kernel
theorem d_Brt_shorter_24 : decode b_Brt_shorter 24 = .ok (.getfield 166, 3) := by decide +kernel
theorem d_Brt_shorter_27 : decode b_Brt_shorter 27 = .ok (.iconst 1, 1) := by decide +kernel
theorem d_Brt_shorter_28 : decode b_Brt_shorter 28 = .ok (.isub, 1) := by decide +kernel
theorem d_Brt_shorter_29 : decode b_Brt_shorter 29 = .ok (.putfield 166, 3) := by decide +kernel
theorem d_Brt_shorter_32 : decode b_Brt_shorter 32 = .ok (.aload_n 0, 1) := by decide +kernel
theorem d_Brt_shorter_33 : decode b_Brt_shorter 33 = .ok (.getfield 32, 3) := by decide +kernel
theorem d_Brt_shorter_36 : decode b_Brt_shorter 36 = .ok (.invokevirtual 89, 3) := by decide +kernel
theorem d_Brt_shorter_39 : decode b_Brt_shorter 39 = .ok (.aload_n 0, 1) := by decide +kernel
theorem d_Brt_shorter_40 : decode b_Brt_shorter 40 = .ok (.getfield 10, 3) := by decide +kernel
theorem d_Brt_shorter_43 : decode b_Brt_shorter 43 = .ok (.getfield 92, 3) := by decide +kernel
theorem d_Brt_shorter_46 : decode b_Brt_shorter 46 = .ok (.getfield 166, 3) := by decide +kernel
theorem d_Brt_shorter_49 : decode b_Brt_shorter 49 = .ok (.ireturn, 1) := by decide +kernel
set_option maxRecDepth 100000 in
theorem cw_Arr_fill : CwS y_Arr_fill b_Arr_fill 4 (none) 2 := ⟨tbl_at 749 (by decide +kernel) rfl, tbl_at 63 (by decide +kernel) rfl, tbl_at 750 rfl rfl, by decide +kernel, by decide +kernel, by decide +kernel⟩
set_option maxRecDepth 100000 in
theorem cw_Best_forget : CwV y_Best_forget b_Best_forget 1 (none) 0 := ⟨tbl_at 487 (by decide +kernel) rfl, tbl_at 488 (by decide +kernel) rfl, tbl_at 54 (by decide +kernel) rfl, tbl_at 489 rfl rfl, by decide +kernel, by decide +kernel, by decide +kernel⟩
set_option maxRecDepth 100000 in
theorem cw_Bod_add : CwV y_Bod_add b_Bod_add 5 (some FieldType.boolean) 4 := ⟨tbl_at 460 (by decide +kernel) rfl, tbl_at 461 (by decide +kernel) rfl, tbl_at 51 (by decide +kernel) rfl, tbl_at 462 rfl rfl, by decide +kernel, by decide +kernel, by decide +kernel⟩
set_option maxRecDepth 100000 in
theorem cw_Bod_alter : CwV y_Bod_alter b_Bod_alter 4 (some FieldType.boolean) 3 := ⟨tbl_at 465 (by decide +kernel) rfl, tbl_at 466 (by decide +kernel) rfl, tbl_at 51 (by decide +kernel) rfl, tbl_at 467 rfl rfl, by decide +kernel, by decide +kernel, by decide +kernel⟩
set_option maxRecDepth 100000 in
theorem cw_Bod_placeOf : CwV y_Bod_placeOf b_Bod_placeOf 3 (some FieldType.int) 1 := ⟨tbl_at 513 (by decide +kernel) rfl, tbl_at 514 (by decide +kernel) rfl, tbl_at 51 (by decide +kernel) rfl, tbl_at 515 rfl rfl, by decide +kernel, by decide +kernel, by decide +kernel⟩
set_option maxRecDepth 100000 in
theorem cw_Bod_swap : CwV y_Bod_swap b_Bod_swap 4 (some FieldType.boolean) 2 := ⟨tbl_at 473 (by decide +kernel) rfl, tbl_at 474 (by decide +kernel) rfl, tbl_at 51 (by decide +kernel) rfl, tbl_at 475 rfl rfl, by decide +kernel, by decide +kernel, by decide +kernel⟩
set_option maxRecDepth 100000 in
theorem cw_Brt_isShelf : CwS y_Brt_isShelf b_Brt_isShelf 1 (some FieldType.boolean) 1 := ⟨tbl_at 403 (by decide +kernel) rfl, tbl_at 48 (by decide +kernel) rfl, tbl_at 404 rfl rfl, by decide +kernel, by decide +kernel, by decide +kernel⟩
set_option maxRecDepth 100000 in
theorem cw_Brt_refusalOfKind : CwV y_Brt_refusalOfKind b_Brt_refusalOfKind 2 (some FieldType.int) 1 := ⟨tbl_at 523 (by decide +kernel) rfl, tbl_at 2 (by decide +kernel) rfl, tbl_at 48 (by decide +kernel) rfl, tbl_at 524 rfl rfl, by decide +kernel, by decide +kernel, by decide +kernel⟩
set_option maxRecDepth 100000 in
theorem cw_Brt_refusalOfRow : CwV y_Brt_refusalOfRow b_Brt_refusalOfRow 2 (some FieldType.int) 1 := ⟨tbl_at 396 (by decide +kernel) rfl, tbl_at 0 (by decide +kernel) rfl, tbl_at 48 (by decide +kernel) rfl, tbl_at 397 rfl rfl, by decide +kernel, by decide +kernel, by decide +kernel⟩
set_option maxRecDepth 100000 in
theorem cw_Brt_refusalUnless : CwV y_Brt_refusalUnless b_Brt_refusalUnless 3 (some FieldType.int) 2 := ⟨tbl_at 400 (by decide +kernel) rfl, tbl_at 1 (by decide +kernel) rfl, tbl_at 48 (by decide +kernel) rfl, tbl_at 401 rfl rfl, by decide +kernel, by decide +kernel, by decide +kernel⟩
set_option maxRecDepth 100000 in
theorem cw_Cav_adjust : CwV y_Cav_adjust b_Cav_adjust 3 (some FieldType.boolean) 2 := ⟨tbl_at 477 (by decide +kernel) rfl, tbl_at 478 (by decide +kernel) rfl, tbl_at 49 (by decide +kernel) rfl, tbl_at 479 rfl rfl, by decide +kernel, by decide +kernel, by decide +kernel⟩
set_option maxRecDepth 100000 in
theorem cw_Cav_become : CwV y_Cav_become b_Cav_become 2 (none) 1 := ⟨tbl_at 416 (by decide +kernel) rfl, tbl_at 417 (by decide +kernel) rfl, tbl_at 49 (by decide +kernel) rfl, tbl_at 418 rfl rfl, by decide +kernel, by decide +kernel, by decide +kernel⟩
set_option maxRecDepth 100000 in
theorem cw_Cav_goOn : CwV y_Cav_goOn b_Cav_goOn 2 (some FieldType.boolean) 1 := ⟨tbl_at 482 (by decide +kernel) rfl, tbl_at 483 (by decide +kernel) rfl, tbl_at 49 (by decide +kernel) rfl, tbl_at 484 rfl rfl, by decide +kernel, by decide +kernel, by decide +kernel⟩
set_option maxRecDepth 100000 in
theorem cw_Kin_moreOf : CwS y_Kin_moreOf b_Kin_moreOf 2 (some FieldType.int) 2 := ⟨tbl_at 457 (by decide +kernel) rfl, tbl_at 60 (by decide +kernel) rfl, tbl_at 458 rfl rfl, by decide +kernel, by decide +kernel, by decide +kernel⟩
set_option maxRecDepth 100000 in
theorem cw_Tex_brokenAt : CwS y_Tex_brokenAt b_Tex_brokenAt 4 (some FieldType.int) 1 := ⟨tbl_at 409 (by decide +kernel) rfl, tbl_at 58 (by decide +kernel) rfl, tbl_at 410 rfl rfl, by decide +kernel, by decide +kernel, by decide +kernel⟩
set_option maxRecDepth 100000 in
theorem cw_Tex_digitsBehind : CwS y_Tex_digitsBehind b_Tex_digitsBehind 1 (some FieldType.int) 1 := ⟨tbl_at 412 (by decide +kernel) rfl, tbl_at 58 (by decide +kernel) rfl, tbl_at 413 rfl rfl, by decide +kernel, by decide +kernel, by decide +kernel⟩
set_option maxRecDepth 100000 in
theorem cw_Tex_number : CwS y_Tex_number b_Tex_number 5 (some FieldType.int) 3 := ⟨tbl_at 435 (by decide +kernel) rfl, tbl_at 58 (by decide +kernel) rfl, tbl_at 436 rfl rfl, by decide +kernel, by decide +kernel, by decide +kernel⟩
set_option maxRecDepth 100000 in
theorem cw_Tex_tell : CwS y_Tex_tell b_Tex_tell 6 (some FieldType.boolean) 3 := ⟨tbl_at 432 (by decide +kernel) rfl, tbl_at 58 (by decide +kernel) rfl, tbl_at 433 rfl rfl, by decide +kernel, by decide +kernel, by decide +kernel⟩
set_option maxRecDepth 100000 in
theorem cw_Yar_add : CwV y_Yar_add b_Yar_add 4 (some FieldType.boolean) 3 := ⟨tbl_at 438 (by decide +kernel) rfl, tbl_at 439 (by decide +kernel) rfl, tbl_at 50 (by decide +kernel) rfl, tbl_at 440 rfl rfl, by decide +kernel, by decide +kernel, by decide +kernel⟩
set_option maxRecDepth 100000 in
theorem cw_Yar_widthIsRight : CwS y_Yar_widthIsRight b_Yar_widthIsRight 1 (some FieldType.boolean) 1 := ⟨tbl_at 443 (by decide +kernel) rfl, tbl_at 50 (by decide +kernel) rfl, tbl_at 444 rfl rfl, by decide +kernel, by decide +kernel, by decide +kernel⟩
theorem fl_Brt_10 : Cond.fieldLink R_Brt 10 "BreatheOut" "now" "LBreatheOut$Cave;" ∈ tbl := tbl_at 362 (by decide +kernel) rfl
theorem fl_Brt_102 : Cond.fieldLink R_Brt 102 "BreatheOut$Yards" "kind" "[I" ∈ tbl := tbl_at 94 (by decide +kernel) rfl
theorem fl_Brt_105 : Cond.fieldLink R_Brt 105 "BreatheOut$Yards" "figure" "[I" ∈ tbl := tbl_at 96 (by decide +kernel) rfl
theorem fl_Brt_108 : Cond.fieldLink R_Brt 108 "BreatheOut$Yards" "width" "[I" ∈ tbl := tbl_at 98 (by decide +kernel) rfl
theorem fl_Brt_111 : Cond.fieldLink R_Brt 111 "BreatheOut$Cave" "clock" "I" ∈ tbl := tbl_at 190 (by decide +kernel) rfl
theorem fl_Brt_121 : Cond.fieldLink R_Brt 121 "BreatheOut$Yards" "minutesThere" "[I" ∈ tbl := tbl_at 101 (by decide +kernel) rfl
theorem fl_Brt_124 : Cond.fieldLink R_Brt 124 "BreatheOut$Yards" "minutesBack" "[I" ∈ tbl := tbl_at 104 (by decide +kernel) rfl
theorem fl_Brt_127 : Cond.fieldLink R_Brt 127 "BreatheOut$Cave" "bodies" "LBreatheOut$Bodies;" ∈ tbl := tbl_at 178 (by decide +kernel) rfl
theorem fl_Brt_134 : Cond.fieldLink R_Brt 134 "BreatheOut$Bodies" "chest" "[I" ∈ tbl := tbl_at 138 (by decide +kernel) rfl
theorem fl_Brt_137 : Cond.fieldLink R_Brt 137 "BreatheOut$Bodies" "out" "[I" ∈ tbl := tbl_at 141 (by decide +kernel) rfl
theorem fl_Brt_140 : Cond.fieldLink R_Brt 140 "BreatheOut$Bodies" "fear" "[I" ∈ tbl := tbl_at 145 (by decide +kernel) rfl
theorem fl_Brt_143 : Cond.fieldLink R_Brt 143 "BreatheOut$Bodies" "pull" "[I" ∈ tbl := tbl_at 148 (by decide +kernel) rfl
theorem fl_Brt_146 : Cond.fieldLink R_Brt 146 "BreatheOut$Bodies" "posture" "[I" ∈ tbl := tbl_at 151 (by decide +kernel) rfl
theorem fl_Brt_158 : Cond.fieldLink R_Brt 158 "BreatheOut$Shelf" "kind" "I" ∈ tbl := tbl_at 338 (by decide +kernel) rfl
theorem fl_Brt_160 : Cond.fieldLink R_Brt 160 "BreatheOut$Shelf" "figure" "I" ∈ tbl := tbl_at 340 (by decide +kernel) rfl
theorem fl_Brt_166 : Cond.fieldLink R_Brt 166 "BreatheOut$Yards" "count" "I" ∈ tbl := tbl_at 92 (by decide +kernel) rfl
theorem fl_Brt_19 : Cond.fieldLink R_Brt 19 "BreatheOut" "trial" "LBreatheOut$Cave;" ∈ tbl := tbl_at 364 (by decide +kernel) rfl
theorem fl_Brt_32 : Cond.fieldLink R_Brt 32 "BreatheOut" "best" "LBreatheOut$BestOrder;" ∈ tbl := tbl_at 366 (by decide +kernel) rfl
theorem fl_Brt_346 : Cond.fieldLink R_Brt 346 "BreatheOut$Shelf" "holds" "I" ∈ tbl := tbl_at 336 (by decide +kernel) rfl
theorem fl_Brt_49 : Cond.fieldLink R_Brt 49 "BreatheOut" "shelves" "[LBreatheOut$Shelf;" ∈ tbl := tbl_at 369 (by decide +kernel) rfl
theorem fl_Brt_62 : Cond.fieldLink R_Brt 62 "BreatheOut$Shelf" "sort" "I" ∈ tbl := tbl_at 342 (by decide +kernel) rfl
theorem fl_Brt_76 : Cond.fieldLink R_Brt 76 "BreatheOut$Shelf" "length" "I" ∈ tbl := tbl_at 345 (by decide +kernel) rfl
theorem fl_Brt_83 : Cond.fieldLink R_Brt 83 "BreatheOut$Shelf" "cells" "[I" ∈ tbl := tbl_at 348 (by decide +kernel) rfl
theorem fl_Brt_92 : Cond.fieldLink R_Brt 92 "BreatheOut$Cave" "yards" "LBreatheOut$Yards;" ∈ tbl := tbl_at 171 (by decide +kernel) rfl
theorem fl_She_21 : Cond.fieldLink R_She 21 "BreatheOut$Shelf" "sort" "I" ∈ tbl := tbl_at 341 (by decide +kernel) rfl
theorem fl_She_24 : Cond.fieldLink R_She 24 "BreatheOut$Shelf" "length" "I" ∈ tbl := tbl_at 343 (by decide +kernel) rfl
theorem fl_She_27 : Cond.fieldLink R_She 27 "BreatheOut$Shelf" "cells" "[I" ∈ tbl := tbl_at 346 (by decide +kernel) rfl
theorem fl_Tex_15 : Cond.fieldLink R_Tex 15 "BreatheOut$Shelf" "cells" "[I" ∈ tbl := tbl_at 347 (by decide +kernel) rfl
theorem fl_Tex_33 : Cond.fieldLink R_Tex 33 "BreatheOut$Cave" "yards" "LBreatheOut$Yards;" ∈ tbl := tbl_at 173 (by decide +kernel) rfl
theorem fl_Tex_44 : Cond.fieldLink R_Tex 44 "BreatheOut$Cave" "bodies" "LBreatheOut$Bodies;" ∈ tbl := tbl_at 179 (by decide +kernel) rfl
theorem fl_Tex_9 : Cond.fieldLink R_Tex 9 "BreatheOut$Shelf" "length" "I" ∈ tbl := tbl_at 344 (by decide +kernel) rfl
theorem fl_Tri_21 : Cond.fieldLink R_Tri 21 "BreatheOut$Trip" "one" "[I" ∈ tbl := tbl_at 255 (by decide +kernel) rfl
theorem fl_Tri_40 : Cond.fieldLink R_Tri 40 "BreatheOut$Cave" "clock" "I" ∈ tbl := tbl_at 188 (by decide +kernel) rfl
theorem fl_Tri_43 : Cond.fieldLink R_Tri 43 "BreatheOut$Leg" "arrived" "I" ∈ tbl := tbl_at 217 (by decide +kernel) rfl
theorem lc_She_41 : Cond.constant R_She 41 (-2147483648) ∈ tbl := tbl_at 788 (by decide +kernel) rfl
theorem ml_Brt_114 : Cond.methodLink R_Brt 114 y_Cav_waterAt ∈ tbl := tbl_at 498 (by decide +kernel) rfl
theorem ml_Brt_117 : Cond.methodLink R_Brt 117 y_Yar_roomAt ∈ tbl := tbl_at 502 (by decide +kernel) rfl
theorem ml_Brt_131 : Cond.methodLink R_Brt 131 y_Bod_has ∈ tbl := tbl_at 511 (by decide +kernel) rfl
theorem ml_Brt_149 : Cond.methodLink R_Brt 149 y_Bod_placeOf ∈ tbl := tbl_at 512 (by decide +kernel) rfl
theorem ml_Brt_152 : Cond.methodLink R_Brt 152 y_Yar_widthIsRight ∈ tbl := tbl_at 520 (by decide +kernel) rfl
theorem ml_Brt_155 : Cond.methodLink R_Brt 155 y_Brt_refusalOfKind ∈ tbl := tbl_at 521 (by decide +kernel) rfl
theorem ml_Brt_162 : Cond.methodLink R_Brt 162 y_Yar_add ∈ tbl := tbl_at 525 (by decide +kernel) rfl
theorem ml_Brt_185 : Cond.methodLink R_Brt 185 y_Brt_within ∈ tbl := tbl_at 405 (by decide +kernel) rfl
theorem ml_Brt_343 : Cond.methodLink R_Brt 343 y_Brt_isShelf ∈ tbl := tbl_at 402 (by decide +kernel) rfl
theorem ml_Brt_395 : Cond.methodLink R_Brt 395 y_Brt_refusalUnless ∈ tbl := tbl_at 398 (by decide +kernel) rfl
theorem ml_Brt_58 : Cond.methodLink R_Brt 58 y_Brt_refusalOfRow ∈ tbl := tbl_at 394 (by decide +kernel) rfl
theorem ml_Brt_66 : Cond.methodLink R_Brt 66 y_Tex_brokenAt ∈ tbl := tbl_at 408 (by decide +kernel) rfl
theorem ml_Brt_72 : Cond.methodLink R_Brt 72 y_Cav_become ∈ tbl := tbl_at 415 (by decide +kernel) rfl
theorem ml_Brt_79 : Cond.methodLink R_Brt 79 y_Tex_tell ∈ tbl := tbl_at 431 (by decide +kernel) rfl
theorem ml_Brt_86 : Cond.methodLink R_Brt 86 y_Tex_digitsBehind ∈ tbl := tbl_at 485 (by decide +kernel) rfl
theorem ml_Brt_89 : Cond.methodLink R_Brt 89 y_Best_forget ∈ tbl := tbl_at 486 (by decide +kernel) rfl
theorem ml_Brt_96 : Cond.methodLink R_Brt 96 y_Yar_has ∈ tbl := tbl_at 494 (by decide +kernel) rfl
theorem ml_She_31 : Cond.methodLink R_She 31 y_Arr_fill ∈ tbl := tbl_at 834 (by decide +kernel) rfl
theorem ml_She_37 : (R_She, 37) ∈ nst := by decide +kernel
theorem ml_Tex_19 : Cond.methodLink R_Tex 19 y_Tex_digitsBehind ∈ tbl := tbl_at 411 (by decide +kernel) rfl
theorem ml_Tex_25 : (R_Tex, 25) ∈ nst := by decide +kernel
theorem ml_Tex_29 : Cond.methodLink R_Tex 29 y_Tex_number ∈ tbl := tbl_at 434 (by decide +kernel) rfl
theorem ml_Tex_39 : Cond.methodLink R_Tex 39 y_Yar_add ∈ tbl := tbl_at 437 (by decide +kernel) rfl
theorem ml_Tex_48 : Cond.methodLink R_Tex 48 y_Bod_add ∈ tbl := tbl_at 459 (by decide +kernel) rfl
theorem ml_Tex_53 : Cond.methodLink R_Tex 53 y_Bod_alter ∈ tbl := tbl_at 464 (by decide +kernel) rfl
theorem ml_Tex_56 : Cond.methodLink R_Tex 56 y_Bod_swap ∈ tbl := tbl_at 472 (by decide +kernel) rfl
theorem ml_Tex_60 : Cond.methodLink R_Tex 60 y_Cav_adjust ∈ tbl := tbl_at 476 (by decide +kernel) rfl
theorem ml_Tex_63 : Cond.methodLink R_Tex 63 y_Cav_goOn ∈ tbl := tbl_at 481 (by decide +kernel) rfl
theorem ml_Yar_44 : Cond.methodLink R_Yar 44 y_Yar_widthIsRight ∈ tbl := tbl_at 442 (by decide +kernel) rfl
theorem ml_Yar_48 : Cond.methodLink R_Yar 48 y_Kin_roomOf ∈ tbl := tbl_at 445 (by decide +kernel) rfl
theorem ml_Yar_54 : Cond.methodLink R_Yar 54 y_Kin_minutesOf ∈ tbl := tbl_at 452 (by decide +kernel) rfl
theorem ml_Yar_58 : Cond.methodLink R_Yar 58 y_Kin_moreOf ∈ tbl := tbl_at 456 (by decide +kernel) rfl
def vc_She_holdRow (p0 : Nat) (x1 : Int32) (x2 : Int32) (s : St) (Q : St → Prop) : Prop :=
    (∀ s10 : St, s10 = wr s p0 0 2 → (∀ s11 : St, s11 = wr s10 p0 3 x1 → (∀ s12 : St, s12 = wr s11 p0 4 x2 → vc_Arr_fill (p0 + 1) 100 0 s12 (fun s13 => Q s13))))
def rm_She_holdRow : Room := { frames := 1, cells := 0, slots := 0, locals := 23 }
set_option maxHeartbeats 4000000 in
set_option maxRecDepth 20000 in
theorem m_She_holdRow (g : Gx) (hg : gOk g) (p0 : Nat) (x1 : Int32) (x2 : Int32) (hk0 : kd p0 = 9) (s : St) (Q : St → Prop) (hw : vc_She_holdRow p0 x1 x2 s Q) : Mc g y_She_holdRow b_She_holdRow 3 (none) rm_She_holdRow [.ref (ga g p0), .int x1, .int x2] s (fun v s' => v = none ∧ Q s') := by
  refine mc_ofV (j := 0) (L := [some (.ref (ga g p0)), some (.int x1), some (.int x2)]) hg (by decide) (Nat.le_of_ble_eq_true rfl) rfl ?_
  intro X hX C
  subst hX
  unfold vc_She_holdRow at hw
  refine x_aload_n C d_She_holdRow_0 rfl ?_
  refine x_iconst (v := 2) C d_She_holdRow_1 rfl ?_
  refine p_She_0 (p := p0) C hk0 fl_She_9 d_She_holdRow_2 ?_
  refine x_st (fun s10 hs10 => ?_)
  have hw := hw s10 hs10
  refine x_aload_n C d_She_holdRow_5 rfl ?_
  refine x_iload_n C d_She_holdRow_6 rfl ?_
  refine p_She_3 (p := p0) C hk0 fl_She_21 d_She_holdRow_7 ?_
  refine x_st (fun s11 hs11 => ?_)
  have hw := hw s11 hs11
  refine x_aload_n C d_She_holdRow_10 rfl ?_
  refine x_iload_n C d_She_holdRow_11 rfl ?_
  refine p_She_4 (p := p0) C hk0 fl_She_24 d_She_holdRow_12 ?_
  refine x_st (fun s12 hs12 => ?_)
  have hw := hw s12 hs12
  refine x_aload_n C d_She_holdRow_15 rfl ?_
  refine g_She_5 (p := p0) C hk0 fl_She_27 d_She_holdRow_16 ?_
  refine x_iconst (v := 0) C d_She_holdRow_19 rfl ?_
  refine x_callS (As := [.ref (xa X (p0 + 1)), .int 0]) (rest := []) C (m_Arr_fill (xg X) C.2.2.2.2.2.2.1 (p0 + 1) 100 0 (ks_9_1 hk0) s12 _ hw) cw_Arr_fill ml_She_31 rfl ⟨rfl, rfl, Nat.le_of_ble_eq_true rfl, Nat.le_of_ble_eq_true rfl⟩ ⟨Nat.zero_le _, Nat.zero_le _⟩ rfl (Nat.le_of_ble_eq_true rfl) d_She_holdRow_20 ?_
  rintro _ s13 ⟨rfl, hw⟩
  show V X _ _ _ _ 23 [some (.ref (xa X p0)), some (.int x1), some (.int x2)] []
  exact x_return C d_She_holdRow_23 ⟨rfl, hw⟩
def vc_She_hasPlace (p0 : Nat) (x1 : Int32) (s : St) (Q : Bool → Prop) : Prop :=
    vc_Brt_within x1 0 ((s p0 4) - 1) (fun b10 => Q b10)
def rm_She_hasPlace : Room := { frames := 1, cells := 0, slots := 0, locals := 22 }
set_option maxHeartbeats 4000000 in
set_option maxRecDepth 20000 in
theorem m_She_hasPlace (g : Gx) (hg : gOk g) (p0 : Nat) (x1 : Int32) (hk0 : kd p0 = 9) (s : St) (Q : Bool → Prop) (hw : vc_She_hasPlace p0 x1 s Q) : Mc g y_She_hasPlace b_She_hasPlace 2 (some FieldType.boolean) rm_She_hasPlace [.ref (ga g p0), .int x1] s (fun v s' => ∃ r : Bool, v = some (.int (bi r)) ∧ s = s' ∧ Q r) := by
  refine mc_ofV (j := 0) (L := [some (.ref (ga g p0)), some (.int x1)]) hg (by decide) (Nat.le_of_ble_eq_true rfl) rfl ?_
  intro X hX C
  subst hX
  unfold vc_She_hasPlace at hw
  refine x_iload_n C d_She_hasPlace_0 rfl ?_
  refine x_iconst (v := 0) C d_She_hasPlace_1 rfl ?_
  refine x_aload_n C d_She_hasPlace_2 rfl ?_
  refine g_She_4 (p := p0) C hk0 fl_She_24 d_She_hasPlace_3 ?_
  refine x_iconst (v := 1) C d_She_hasPlace_6 rfl ?_
  refine x_isub C d_She_hasPlace_7 ?_
  refine x_callSN (As := [.int x1, .int 0, .int ((s p0 4) - 1)]) (rest := []) C (m_Brt_within (xg X) C.2.2.2.2.2.2.1 x1 0 ((s p0 4) - 1) s _ hw) cw_Brt_within ml_She_37 rfl rfl rfl ⟨rfl, rfl, Nat.le_of_ble_eq_true rfl, Nat.le_of_ble_eq_true rfl⟩ ⟨Nat.zero_le _, Nat.zero_le _⟩ rfl (Nat.le_of_ble_eq_true rfl) d_She_hasPlace_8 ?_
  rintro _ _ ⟨b10, rfl, rfl, hw⟩
  show V X _ _ _ _ 11 [some (.ref (xa X p0)), some (.int x1)] [.int (bi b10)]
  exact x_zreturn (b := b10) C d_She_hasPlace_11 ⟨_, rfl, rfl, hw⟩
def vc_She_hasPlaces (p0 : Nat) (x1 : Int32) (x2 : Int32) (s : St) (Q : Bool → Prop) : Prop :=
    vc_Brt_within x1 0 (s p0 4) (fun b10 => (((bi b10) = 0 → Q false) ∧ (¬ (bi b10) = 0 → ((((s p0 4) - x1) < x2 → Q false) ∧ (¬ ((s p0 4) - x1) < x2 → Q true)))))
def rm_She_hasPlaces : Room := { frames := 1, cells := 0, slots := 0, locals := 22 }
set_option maxHeartbeats 4000000 in
set_option maxRecDepth 20000 in
theorem m_She_hasPlaces (g : Gx) (hg : gOk g) (p0 : Nat) (x1 : Int32) (x2 : Int32) (hk0 : kd p0 = 9) (s : St) (Q : Bool → Prop) (hw : vc_She_hasPlaces p0 x1 x2 s Q) : Mc g y_She_hasPlaces b_She_hasPlaces 3 (some FieldType.boolean) rm_She_hasPlaces [.ref (ga g p0), .int x1, .int x2] s (fun v s' => ∃ r : Bool, v = some (.int (bi r)) ∧ s = s' ∧ Q r) := by
  refine mc_ofV (j := 0) (L := [some (.ref (ga g p0)), some (.int x1), some (.int x2)]) hg (by decide) (Nat.le_of_ble_eq_true rfl) rfl ?_
  intro X hX C
  subst hX
  unfold vc_She_hasPlaces at hw
  refine x_iload_n C d_She_hasPlaces_0 rfl ?_
  refine x_iconst (v := 0) C d_She_hasPlaces_1 rfl ?_
  refine x_aload_n C d_She_hasPlaces_2 rfl ?_
  refine g_She_4 (p := p0) C hk0 fl_She_24 d_She_hasPlaces_3 ?_
  refine x_callSN (As := [.int x1, .int 0, .int (s p0 4)]) (rest := []) C (m_Brt_within (xg X) C.2.2.2.2.2.2.1 x1 0 (s p0 4) s _ hw) cw_Brt_within ml_She_37 rfl rfl rfl ⟨rfl, rfl, Nat.le_of_ble_eq_true rfl, Nat.le_of_ble_eq_true rfl⟩ ⟨Nat.zero_le _, Nat.zero_le _⟩ rfl (Nat.le_of_ble_eq_true rfl) d_She_hasPlaces_6 ?_
  rintro _ _ ⟨b10, rfl, rfl, hw⟩
  show V X _ _ _ _ 9 [some (.ref (xa X p0)), some (.int x1), some (.int x2)] [.int (bi b10)]
  refine x_if_eq (tgt := 26) C d_She_hasPlaces_9 (by decide) (fun c12 => ?_) (fun c12 => ?_)
  · have hw := hw.1 c12
    refine x_iconst (v := 0) C d_She_hasPlaces_26 rfl ?_
    exact x_zreturn (b := false) C d_She_hasPlaces_27 ⟨_, rfl, rfl, hw⟩
  · have hw := hw.2 c12
    refine x_iload_n C d_She_hasPlaces_12 rfl ?_
    refine x_aload_n C d_She_hasPlaces_13 rfl ?_
    refine g_She_4 (p := p0) C hk0 fl_She_24 d_She_hasPlaces_14 ?_
    refine x_iload_n C d_She_hasPlaces_17 rfl ?_
    refine x_isub C d_She_hasPlaces_18 ?_
    refine x_icmp_gt (tgt := 26) C d_She_hasPlaces_19 (by decide) (fun c13 => ?_) (fun c13 => ?_)
    · have hw := hw.1 c13
      refine x_iconst (v := 0) C d_She_hasPlaces_26 rfl ?_
      exact x_zreturn (b := false) C d_She_hasPlaces_27 ⟨_, rfl, rfl, hw⟩
    · have hw := hw.2 c13
      refine x_iconst (v := 1) C d_She_hasPlaces_22 rfl ?_
      refine x_goto (tgt := 27) C d_She_hasPlaces_23 (by decide) ?_
      exact x_zreturn (b := true) C d_She_hasPlaces_27 ⟨_, rfl, rfl, hw⟩
def vc_She_write (p0 : Nat) (x1 : Int32) (x2 : Int32) (s : St) (Q : St → Prop) : Prop :=
    (∃ J11 : Int32 → Prop, (∀ (x10 : Int32), J11 x10 → (vp_in x1 100 ∧ (∀ s13 : St, s13 = wr s (p0 + 1) (Int32.toNatClampNeg x1) x10 → Q s13))) ∧ ((¬ (s p0 3) = 0 → ((¬ (s p0 3) = 1 → J11 x2) ∧ ((s p0 3) = 1 → J11 ((Int32.toInt16 x2).toInt32)))) ∧ ((s p0 3) = 0 → J11 ((Int32.toInt8 x2).toInt32))))
def rm_She_write : Room := { frames := 0, cells := 0, slots := 0, locals := 0 }
set_option maxHeartbeats 4000000 in
set_option maxRecDepth 20000 in
theorem m_She_write (g : Gx) (hg : gOk g) (p0 : Nat) (x1 : Int32) (x2 : Int32) (hk0 : kd p0 = 9) (s : St) (Q : St → Prop) (hw : vc_She_write p0 x1 x2 s Q) : Mc g y_She_write b_She_write 3 (none) rm_She_write [.ref (ga g p0), .int x1, .int x2] s (fun v s' => v = none ∧ Q s') := by
  refine mc_ofV (j := 0) (L := [some (.ref (ga g p0)), some (.int x1), some (.int x2)]) hg (by decide) (Nat.le_of_ble_eq_true rfl) rfl ?_
  intro X hX C
  subst hX
  unfold vc_She_write at hw
  refine x_aload_n C d_She_write_0 rfl ?_
  refine g_She_5 (p := p0) C hk0 fl_She_27 d_She_write_1 ?_
  refine x_iload_n C d_She_write_4 rfl ?_
  refine x_aload_n C d_She_write_5 rfl ?_
  refine g_She_3 (p := p0) C hk0 fl_She_21 d_She_write_6 ?_
  obtain ⟨J11, hJ11, hw⟩ := hw
  have kJ11 : ∀ (x10 : Int32), J11 x10 → V X (xQ X (fun v s' => v = none ∧ Q s')) 0 0 s 31 [some (.ref (xa X p0)), some (.int x1), some (.int x2)] [.int x10, .int x1, .ref (xa X (p0 + 1))] := by
    intro x10 hv
    have hw := hJ11 x10 hv
    obtain ⟨h12, hw⟩ := hw
    refine x_iast (p := (p0 + 1)) (n := 100) C (ks_9_1 hk0) h12 d_She_write_31 ?_
    refine x_st (fun s13 hs13 => ?_)
    have hw := hw s13 hs13
    exact x_return C d_She_write_32 ⟨rfl, hw⟩
  refine x_if_ne (tgt := 17) C d_She_write_9 (by decide) (fun c14 => ?_) (fun c14 => ?_)
  · have hw := hw.1 c14
    refine x_aload_n C d_She_write_17 rfl ?_
    refine g_She_3 (p := p0) C hk0 fl_She_21 d_She_write_18 ?_
    refine x_iconst (v := 1) C d_She_write_21 rfl ?_
    refine x_icmp_ne (tgt := 30) C d_She_write_22 (by decide) (fun c15 => ?_) (fun c15 => ?_)
    · have hw := hw.1 c15
      refine x_iload_n C d_She_write_30 rfl ?_
      exact x_wk (kJ11 x2 hw) (And.intro rfl (And.intro rfl (And.intro rfl (trivial))))
    · have hw := hw.2 c15
      refine x_iload_n C d_She_write_25 rfl ?_
      refine x_i2s C d_She_write_26 ?_
      refine x_goto (tgt := 31) C d_She_write_27 (by decide) ?_
      exact x_wk (kJ11 ((Int32.toInt16 x2).toInt32) hw) (And.intro rfl (And.intro rfl (And.intro rfl (trivial))))
  · have hw := hw.2 c14
    refine x_iload_n C d_She_write_12 rfl ?_
    refine x_i2b C d_She_write_13 ?_
    refine x_goto (tgt := 31) C d_She_write_14 (by decide) ?_
    exact x_wk (kJ11 ((Int32.toInt8 x2).toInt32) hw) (And.intro rfl (And.intro rfl (And.intro rfl (trivial))))
def vc_She_isSkipped (p0 : Nat) (x1 : Int32) (s : St) (Q : Bool → Prop) : Prop :=
    (vp_in x1 100 ∧ (∃ J12 : Int32 → Prop, (∀ (x11 : Int32), J12 x11 → ((¬ (s (p0 + 1) (Int32.toNatClampNeg x1)) = x11 → Q false) ∧ ((s (p0 + 1) (Int32.toNatClampNeg x1)) = x11 → Q true))) ∧ ((¬ (s p0 3) = 0 → ((¬ (s p0 3) = 1 → J12 (-2147483648)) ∧ ((s p0 3) = 1 → J12 (-32768)))) ∧ ((s p0 3) = 0 → J12 (-128)))))
def rm_She_isSkipped : Room := { frames := 0, cells := 0, slots := 0, locals := 0 }
set_option maxHeartbeats 4000000 in
set_option maxRecDepth 20000 in
theorem m_She_isSkipped (g : Gx) (hg : gOk g) (p0 : Nat) (x1 : Int32) (hk0 : kd p0 = 9) (s : St) (Q : Bool → Prop) (hw : vc_She_isSkipped p0 x1 s Q) : Mc g y_She_isSkipped b_She_isSkipped 2 (some FieldType.boolean) rm_She_isSkipped [.ref (ga g p0), .int x1] s (fun v s' => ∃ r : Bool, v = some (.int (bi r)) ∧ s = s' ∧ Q r) := by
  refine mc_ofV (j := 0) (L := [some (.ref (ga g p0)), some (.int x1)]) hg (by decide) (Nat.le_of_ble_eq_true rfl) rfl ?_
  intro X hX C
  subst hX
  unfold vc_She_isSkipped at hw
  refine x_aload_n C d_She_isSkipped_0 rfl ?_
  refine g_She_5 (p := p0) C hk0 fl_She_27 d_She_isSkipped_1 ?_
  refine x_iload_n C d_She_isSkipped_4 rfl ?_
  obtain ⟨h10, hw⟩ := hw
  refine x_iald (p := (p0 + 1)) (n := 100) C (ks_9_1 hk0) h10 d_She_isSkipped_5 ?_
  refine x_aload_n C d_She_isSkipped_6 rfl ?_
  refine g_She_3 (p := p0) C hk0 fl_She_21 d_She_isSkipped_7 ?_
  obtain ⟨J12, hJ12, hw⟩ := hw
  have kJ12 : ∀ (x11 : Int32), J12 x11 → V X (xQ X (fun v s' => ∃ r : Bool, v = some (.int (bi r)) ∧ s = s' ∧ Q r)) 0 0 s 34 [some (.ref (xa X p0)), some (.int x1)] [.int x11, .int (s (p0 + 1) (Int32.toNatClampNeg x1))] := by
    intro x11 hv
    have hw := hJ12 x11 hv
    refine x_icmp_ne (tgt := 41) C d_She_isSkipped_34 (by decide) (fun c13 => ?_) (fun c13 => ?_)
    · have hw := hw.1 c13
      refine x_iconst (v := 0) C d_She_isSkipped_41 rfl ?_
      exact x_zreturn (b := false) C d_She_isSkipped_42 ⟨_, rfl, rfl, hw⟩
    · have hw := hw.2 c13
      refine x_iconst (v := 1) C d_She_isSkipped_37 rfl ?_
      refine x_goto (tgt := 42) C d_She_isSkipped_38 (by decide) ?_
      exact x_zreturn (b := true) C d_She_isSkipped_42 ⟨_, rfl, rfl, hw⟩
  refine x_if_ne (tgt := 18) C d_She_isSkipped_10 (by decide) (fun c14 => ?_) (fun c14 => ?_)
  · have hw := hw.1 c14
    refine x_aload_n C d_She_isSkipped_18 rfl ?_
    refine g_She_3 (p := p0) C hk0 fl_She_21 d_She_isSkipped_19 ?_
    refine x_iconst (v := 1) C d_She_isSkipped_22 rfl ?_
    refine x_icmp_ne (tgt := 32) C d_She_isSkipped_23 (by decide) (fun c15 => ?_) (fun c15 => ?_)
    · have hw := hw.1 c15
      refine x_ldc (v := (-2147483648)) C d_She_isSkipped_32 lc_She_41 ?_
      exact x_wk (kJ12 (-2147483648) hw) (And.intro rfl (And.intro rfl (trivial)))
    · have hw := hw.2 c15
      refine x_sipush (v := (-32768)) C d_She_isSkipped_26 rfl ?_
      refine x_goto (tgt := 34) C d_She_isSkipped_29 (by decide) ?_
      exact x_wk (kJ12 (-32768) hw) (And.intro rfl (And.intro rfl (trivial)))
  · have hw := hw.2 c14
    refine x_bipush (v := (-128)) C d_She_isSkipped_13 rfl ?_
    refine x_goto (tgt := 34) C d_She_isSkipped_15 (by decide) ?_
    exact x_wk (kJ12 (-128) hw) (And.intro rfl (And.intro rfl (trivial)))
def vc_Tex_digitsBehind (x0 : Int32) (Q : Int32 → Prop) : Prop :=
    ((x0 = 98 → Q 5) ∧ (¬ x0 = 98 → ((x0 = 99 → Q 2) ∧ (¬ x0 = 99 → ((x0 = 108 → Q 3) ∧ (¬ x0 = 108 → ((x0 = 112 → Q 2) ∧ (¬ x0 = 112 → ((x0 = 114 → Q 1) ∧ (¬ x0 = 114 → ((x0 = 116 → Q 2) ∧ (¬ x0 = 116 → ((x0 = 120 → Q 2) ∧ (¬ x0 = 120 → ((x0 = 121 → Q 4) ∧ (¬ x0 = 121 → Q 0))))))))))))))))
def rm_Tex_digitsBehind : Room := { frames := 0, cells := 0, slots := 0, locals := 0 }
set_option maxHeartbeats 4000000 in
set_option maxRecDepth 20000 in
theorem m_Tex_digitsBehind (g : Gx) (hg : gOk g) (x0 : Int32)  (s : St) (Q : Int32 → Prop) (hw : vc_Tex_digitsBehind x0 Q) : Mc g y_Tex_digitsBehind b_Tex_digitsBehind 1 (some FieldType.int) rm_Tex_digitsBehind [.int x0] s (fun v s' => ∃ r : Int32, v = some (.int r) ∧ s = s' ∧ Q r) := by
  refine mc_ofV (j := 0) (L := [some (.int x0)]) hg (by decide) (Nat.le_of_ble_eq_true rfl) rfl ?_
  intro X hX C
  subst hX
  unfold vc_Tex_digitsBehind at hw
  refine x_iload_n C d_Tex_digitsBehind_0 rfl ?_
  by_cases c10 : x0 = 98
  · have hw := hw.1 c10
    refine x_tswIn (v := 98) (off := 119) (tgt := 120) C d_Tex_digitsBehind_1 c10 (by decide) (by decide) rfl (by decide) ?_
    refine x_iconst (v := 5) C d_Tex_digitsBehind_120 rfl ?_
    exact x_ireturn C d_Tex_digitsBehind_121 ⟨_, rfl, rfl, hw⟩
  have hw := hw.2 c10
  by_cases c11 : x0 = 99
  · have hw := hw.1 c11
    refine x_tswIn (v := 99) (off := 113) (tgt := 114) C d_Tex_digitsBehind_1 c11 (by decide) (by decide) rfl (by decide) ?_
    refine x_iconst (v := 2) C d_Tex_digitsBehind_114 rfl ?_
    exact x_ireturn C d_Tex_digitsBehind_115 ⟨_, rfl, rfl, hw⟩
  have hw := hw.2 c11
  by_cases c12 : x0 = 108
  · have hw := hw.1 c12
    refine x_tswIn (v := 108) (off := 115) (tgt := 116) C d_Tex_digitsBehind_1 c12 (by decide) (by decide) rfl (by decide) ?_
    refine x_iconst (v := 3) C d_Tex_digitsBehind_116 rfl ?_
    exact x_ireturn C d_Tex_digitsBehind_117 ⟨_, rfl, rfl, hw⟩
  have hw := hw.2 c12
  by_cases c13 : x0 = 112
  · have hw := hw.1 c13
    refine x_tswIn (v := 112) (off := 113) (tgt := 114) C d_Tex_digitsBehind_1 c13 (by decide) (by decide) rfl (by decide) ?_
    refine x_iconst (v := 2) C d_Tex_digitsBehind_114 rfl ?_
    exact x_ireturn C d_Tex_digitsBehind_115 ⟨_, rfl, rfl, hw⟩
  have hw := hw.2 c13
  by_cases c14 : x0 = 114
  · have hw := hw.1 c14
    refine x_tswIn (v := 114) (off := 111) (tgt := 112) C d_Tex_digitsBehind_1 c14 (by decide) (by decide) rfl (by decide) ?_
    refine x_iconst (v := 1) C d_Tex_digitsBehind_112 rfl ?_
    exact x_ireturn C d_Tex_digitsBehind_113 ⟨_, rfl, rfl, hw⟩
  have hw := hw.2 c14
  by_cases c15 : x0 = 116
  · have hw := hw.1 c15
    refine x_tswIn (v := 116) (off := 113) (tgt := 114) C d_Tex_digitsBehind_1 c15 (by decide) (by decide) rfl (by decide) ?_
    refine x_iconst (v := 2) C d_Tex_digitsBehind_114 rfl ?_
    exact x_ireturn C d_Tex_digitsBehind_115 ⟨_, rfl, rfl, hw⟩
  have hw := hw.2 c15
  by_cases c16 : x0 = 120
  · have hw := hw.1 c16
    refine x_tswIn (v := 120) (off := 113) (tgt := 114) C d_Tex_digitsBehind_1 c16 (by decide) (by decide) rfl (by decide) ?_
    refine x_iconst (v := 2) C d_Tex_digitsBehind_114 rfl ?_
    exact x_ireturn C d_Tex_digitsBehind_115 ⟨_, rfl, rfl, hw⟩
  have hw := hw.2 c16
  by_cases c17 : x0 = 121
  · have hw := hw.1 c17
    refine x_tswIn (v := 121) (off := 117) (tgt := 118) C d_Tex_digitsBehind_1 c17 (by decide) (by decide) rfl (by decide) ?_
    refine x_iconst (v := 4) C d_Tex_digitsBehind_118 rfl ?_
    exact x_ireturn C d_Tex_digitsBehind_119 ⟨_, rfl, rfl, hw⟩
  have hw := hw.2 c17
  refine x_tswD (tgt := 122) C d_Tex_digitsBehind_1 (fun j hj => by match j, hj with | 0, _ => exact Or.inr c10 | 1, _ => exact Or.inr c11 | 2, _ => exact Or.inl rfl | 3, _ => exact Or.inl rfl | 4, _ => exact Or.inl rfl | 5, _ => exact Or.inl rfl | 6, _ => exact Or.inl rfl | 7, _ => exact Or.inl rfl | 8, _ => exact Or.inl rfl | 9, _ => exact Or.inl rfl | 10, _ => exact Or.inr c12 | 11, _ => exact Or.inl rfl | 12, _ => exact Or.inl rfl | 13, _ => exact Or.inl rfl | 14, _ => exact Or.inr c13 | 15, _ => exact Or.inl rfl | 16, _ => exact Or.inr c14 | 17, _ => exact Or.inl rfl | 18, _ => exact Or.inr c15 | 19, _ => exact Or.inl rfl | 20, _ => exact Or.inl rfl | 21, _ => exact Or.inl rfl | 22, _ => exact Or.inr c16 | 23, _ => exact Or.inr c17 | j + 24, hj => exact absurd hj (by omega)) (by decide) ?_
  refine x_iconst (v := 0) C d_Tex_digitsBehind_122 rfl ?_
  exact x_ireturn C d_Tex_digitsBehind_123 ⟨_, rfl, rfl, hw⟩
def vc_Tex_brokenAt (p0 : Nat) (s : St) (Q : Int32 → Prop) : Prop :=
    ((¬ (s p0 4) = 0 → (∃ I12 : Nat → Int32 → Prop, (∃ n13, I12 n13 0) ∧ ∀ (nI12 : Nat) (x11 : Int32), I12 nI12 x11 → (((s p0 4) ≤ x11 → Q (-1)) ∧ (¬ (s p0 4) ≤ x11 → (vp_in x11 100 ∧ vc_Tex_digitsBehind (s (p0 + 1) (Int32.toNatClampNeg x11)) (fun x16 => ((¬ x16 = 0 → (∀ x19 : Int32, x19 = (x11 + 1) + x16 → (∀ x20 : Int32, x20 = x11 + 1 → (∃ I22 : Nat → Int32 → Prop, (∃ n23, I22 n23 x20) ∧ ∀ (nI22 : Nat) (x21 : Int32), I22 nI22 x21 → ((x19 ≤ x21 → (((s p0 4) ≤ x21 → Q x21) ∧ (¬ (s p0 4) ≤ x21 → (vp_in x21 100 ∧ (((s (p0 + 1) (Int32.toNatClampNeg x21)) = 59 → (∀ x28 : Int32, x28 = x21 + 1 → ∃ m29, m29 < nI12 ∧ I12 m29 x28)) ∧ (¬ (s (p0 + 1) (Int32.toNatClampNeg x21)) = 59 → Q x21)))))) ∧ (¬ x19 ≤ x21 → (((s p0 4) ≤ x21 → Q x21) ∧ (¬ (s p0 4) ≤ x21 → (vp_in x21 100 ∧ vc_Brt_within (s (p0 + 1) (Int32.toNatClampNeg x21)) 48 57 (fun b32 => ((¬ (bi b32) = 0 → (∀ x35 : Int32, x35 = x21 + 1 → ∃ m36, m36 < nI22 ∧ I22 m36 x35)) ∧ ((bi b32) = 0 → Q x21)))))))))))) ∧ (x16 = 0 → Q x11)))))))) ∧ ((s p0 4) = 0 → Q 0))
def rm_Tex_brokenAt : Room := { frames := 1, cells := 0, slots := 0, locals := 22 }
set_option maxHeartbeats 4000000 in
set_option maxRecDepth 20000 in
theorem m_Tex_brokenAt (g : Gx) (hg : gOk g) (p0 : Nat) (hk0 : kd p0 = 9) (s : St) (Q : Int32 → Prop) (hw : vc_Tex_brokenAt p0 s Q) : Mc g y_Tex_brokenAt b_Tex_brokenAt 4 (some FieldType.int) rm_Tex_brokenAt [.ref (ga g p0)] s (fun v s' => ∃ r : Int32, v = some (.int r) ∧ s = s' ∧ Q r) := by
  refine mc_ofV (j := 3) (L := [some (.ref (ga g p0)), none, none, none]) hg (by decide) (Nat.le_of_ble_eq_true rfl) rfl ?_
  intro X hX C
  subst hX
  unfold vc_Tex_brokenAt at hw
  refine x_aload_n C d_Tex_brokenAt_0 rfl ?_
  refine g_She_4 (p := p0) C hk0 fl_Tex_9 d_Tex_brokenAt_1 ?_
  refine x_if_ne (tgt := 9) C d_Tex_brokenAt_4 (by decide) (fun c10 => ?_) (fun c10 => ?_)
  · have hw := hw.1 c10
    refine x_iconst (v := 0) C d_Tex_brokenAt_9 rfl ?_
    refine x_istore_n (L' := [some (.ref (xa X p0)), some (.int 0), none, none]) C d_Tex_brokenAt_10 (Nat.le_of_ble_eq_true rfl) rfl ?_
    obtain ⟨I12, ⟨n13, hn13⟩, hI12⟩ := hw
    have lI12 : ∀ (nI12 : Nat) (x11 : Int32), I12 nI12 x11 → V X (xQ X (fun v s' => ∃ r : Int32, v = some (.int r) ∧ s = s' ∧ Q r)) 0 0 s 11 [some (.ref (xa X p0)), some (.int x11), none, none] [] := by
      intro nI12
      induction nI12 using Nat.strongRecOn with
      | ind nI12 ihI12 =>
        intro x11 hv
        have hw := hI12 nI12 x11 hv
        refine x_iload_n C d_Tex_brokenAt_11 rfl ?_
        refine x_aload_n C d_Tex_brokenAt_12 rfl ?_
        refine g_She_4 (p := p0) C hk0 fl_Tex_9 d_Tex_brokenAt_13 ?_
        refine x_icmp_ge (tgt := 108) C d_Tex_brokenAt_16 (by decide) (fun c14 => ?_) (fun c14 => ?_)
        · have hw := hw.1 c14
          refine x_iconst (v := (-1)) C d_Tex_brokenAt_108 rfl ?_
          exact x_ireturn C d_Tex_brokenAt_109 ⟨_, rfl, rfl, hw⟩
        · have hw := hw.2 c14
          refine x_aload_n C d_Tex_brokenAt_19 rfl ?_
          refine g_She_5 (p := p0) C hk0 fl_Tex_15 d_Tex_brokenAt_20 ?_
          refine x_iload_n C d_Tex_brokenAt_23 rfl ?_
          obtain ⟨h15, hw⟩ := hw
          refine x_iald (p := (p0 + 1)) (n := 100) C (ks_9_1 hk0) h15 d_Tex_brokenAt_24 ?_
          refine x_callS (As := [.int (s (p0 + 1) (Int32.toNatClampNeg x11))]) (rest := []) C (m_Tex_digitsBehind (xg X) C.2.2.2.2.2.2.1 (s (p0 + 1) (Int32.toNatClampNeg x11)) s _ hw) cw_Tex_digitsBehind ml_Tex_19 rfl ⟨rfl, rfl, Nat.le_of_ble_eq_true rfl, Nat.le_of_ble_eq_true rfl⟩ ⟨Nat.zero_le _, Nat.zero_le _⟩ rfl (Nat.le_of_ble_eq_true rfl) d_Tex_brokenAt_25 ?_
          rintro _ _ ⟨x16, rfl, rfl, hw⟩
          show V X _ _ _ _ 28 [some (.ref (xa X p0)), some (.int x11), none, none] [.int x16]
          refine x_istore_n (L' := [some (.ref (xa X p0)), some (.int x11), some (.int x16), none]) C d_Tex_brokenAt_28 (Nat.le_of_ble_eq_true rfl) rfl ?_
          refine x_iload_n C d_Tex_brokenAt_29 rfl ?_
          refine x_if_ne (tgt := 35) C d_Tex_brokenAt_30 (by decide) (fun c18 => ?_) (fun c18 => ?_)
          · have hw := hw.1 c18
            refine x_iload_n C d_Tex_brokenAt_35 rfl ?_
            refine x_iconst (v := 1) C d_Tex_brokenAt_36 rfl ?_
            refine x_iadd C d_Tex_brokenAt_37 ?_
            refine x_iload_n C d_Tex_brokenAt_38 rfl ?_
            refine x_iadd C d_Tex_brokenAt_39 ?_
            refine x_nm (fun x19 hx19 => ?_)
            have hw := hw x19 hx19
            refine x_istore_n (L' := [some (.ref (xa X p0)), some (.int x11), some (.int x16), some (.int x19)]) C d_Tex_brokenAt_40 (Nat.le_of_ble_eq_true rfl) rfl ?_
            obtain ⟨x20, hx20⟩ : ∃ z : Int32, z = x11 + 1 := ⟨_, rfl⟩
            refine x_iinc (v := x20) (L' := [some (.ref (xa X p0)), some (.int x20), some (.int x16), some (.int x19)]) C d_Tex_brokenAt_41 (Nat.le_of_ble_eq_true rfl) rfl (by rw [hx20]; rfl) rfl ?_
            have hw := hw x20 hx20
            obtain ⟨I22, ⟨n23, hn23⟩, hI22⟩ := hw
            have lI22 : ∀ (nI22 : Nat) (x21 : Int32), I22 nI22 x21 → V X (xQ X (fun v s' => ∃ r : Int32, v = some (.int r) ∧ s = s' ∧ Q r)) 0 0 s 44 [some (.ref (xa X p0)), some (.int x21), some (.int x16), some (.int x19)] [] := by
              intro nI22
              induction nI22 using Nat.strongRecOn with
              | ind nI22 ihI22 =>
                intro x21 hv
                have hw := hI22 nI22 x21 hv
                refine x_iload_n C d_Tex_brokenAt_44 rfl ?_
                refine x_iload_n C d_Tex_brokenAt_45 rfl ?_
                refine x_icmp_ge (tgt := 81) C d_Tex_brokenAt_46 (by decide) (fun c24 => ?_) (fun c24 => ?_)
                · have hw := hw.1 c24
                  refine x_iload_n C d_Tex_brokenAt_81 rfl ?_
                  refine x_aload_n C d_Tex_brokenAt_82 rfl ?_
                  refine g_She_4 (p := p0) C hk0 fl_Tex_9 d_Tex_brokenAt_83 ?_
                  refine x_icmp_ge (tgt := 100) C d_Tex_brokenAt_86 (by decide) (fun c25 => ?_) (fun c25 => ?_)
                  · have hw := hw.1 c25
                    refine x_iload_n C d_Tex_brokenAt_100 rfl ?_
                    exact x_ireturn C d_Tex_brokenAt_101 ⟨_, rfl, rfl, hw⟩
                  · have hw := hw.2 c25
                    refine x_aload_n C d_Tex_brokenAt_89 rfl ?_
                    refine g_She_5 (p := p0) C hk0 fl_Tex_15 d_Tex_brokenAt_90 ?_
                    refine x_iload_n C d_Tex_brokenAt_93 rfl ?_
                    obtain ⟨h26, hw⟩ := hw
                    refine x_iald (p := (p0 + 1)) (n := 100) C (ks_9_1 hk0) h26 d_Tex_brokenAt_94 ?_
                    refine x_bipush (v := 59) C d_Tex_brokenAt_95 rfl ?_
                    refine x_icmp_eq (tgt := 102) C d_Tex_brokenAt_97 (by decide) (fun c27 => ?_) (fun c27 => ?_)
                    · have hw := hw.1 c27
                      obtain ⟨x28, hx28⟩ : ∃ z : Int32, z = x21 + 1 := ⟨_, rfl⟩
                      refine x_iinc (v := x28) (L' := [some (.ref (xa X p0)), some (.int x28), some (.int x16), some (.int x19)]) C d_Tex_brokenAt_102 (Nat.le_of_ble_eq_true rfl) rfl (by rw [hx28]; rfl) rfl ?_
                      have hw := hw x28 hx28
                      refine x_goto (tgt := 11) C d_Tex_brokenAt_105 (by decide) ?_
                      obtain ⟨m29, hm29, hw⟩ := hw
                      exact x_wk (ihI12 m29 hm29 x28 hw) (And.intro rfl (And.intro rfl (trivial)))
                    · have hw := hw.2 c27
                      refine x_iload_n C d_Tex_brokenAt_100 rfl ?_
                      exact x_ireturn C d_Tex_brokenAt_101 ⟨_, rfl, rfl, hw⟩
                · have hw := hw.2 c24
                  refine x_iload_n C d_Tex_brokenAt_49 rfl ?_
                  refine x_aload_n C d_Tex_brokenAt_50 rfl ?_
                  refine g_She_4 (p := p0) C hk0 fl_Tex_9 d_Tex_brokenAt_51 ?_
                  refine x_icmp_ge (tgt := 73) C d_Tex_brokenAt_54 (by decide) (fun c30 => ?_) (fun c30 => ?_)
                  · have hw := hw.1 c30
                    refine x_iload_n C d_Tex_brokenAt_73 rfl ?_
                    exact x_ireturn C d_Tex_brokenAt_74 ⟨_, rfl, rfl, hw⟩
                  · have hw := hw.2 c30
                    refine x_aload_n C d_Tex_brokenAt_57 rfl ?_
                    refine g_She_5 (p := p0) C hk0 fl_Tex_15 d_Tex_brokenAt_58 ?_
                    refine x_iload_n C d_Tex_brokenAt_61 rfl ?_
                    obtain ⟨h31, hw⟩ := hw
                    refine x_iald (p := (p0 + 1)) (n := 100) C (ks_9_1 hk0) h31 d_Tex_brokenAt_62 ?_
                    refine x_bipush (v := 48) C d_Tex_brokenAt_63 rfl ?_
                    refine x_bipush (v := 57) C d_Tex_brokenAt_65 rfl ?_
                    refine x_callSN (As := [.int (s (p0 + 1) (Int32.toNatClampNeg x21)), .int 48, .int 57]) (rest := []) C (m_Brt_within (xg X) C.2.2.2.2.2.2.1 (s (p0 + 1) (Int32.toNatClampNeg x21)) 48 57 s _ hw) cw_Brt_within ml_Tex_25 rfl rfl rfl ⟨rfl, rfl, Nat.le_of_ble_eq_true rfl, Nat.le_of_ble_eq_true rfl⟩ ⟨Nat.zero_le _, Nat.zero_le _⟩ rfl (Nat.le_of_ble_eq_true rfl) d_Tex_brokenAt_67 ?_
                    rintro _ _ ⟨b32, rfl, rfl, hw⟩
                    show V X _ _ _ _ 70 [some (.ref (xa X p0)), some (.int x21), some (.int x16), some (.int x19)] [.int (bi b32)]
                    refine x_if_ne (tgt := 75) C d_Tex_brokenAt_70 (by decide) (fun c34 => ?_) (fun c34 => ?_)
                    · have hw := hw.1 c34
                      obtain ⟨x35, hx35⟩ : ∃ z : Int32, z = x21 + 1 := ⟨_, rfl⟩
                      refine x_iinc (v := x35) (L' := [some (.ref (xa X p0)), some (.int x35), some (.int x16), some (.int x19)]) C d_Tex_brokenAt_75 (Nat.le_of_ble_eq_true rfl) rfl (by rw [hx35]; rfl) rfl ?_
                      have hw := hw x35 hx35
                      refine x_goto (tgt := 44) C d_Tex_brokenAt_78 (by decide) ?_
                      obtain ⟨m36, hm36, hw⟩ := hw
                      exact x_wk (ihI22 m36 hm36 x35 hw) (And.intro rfl (And.intro rfl (And.intro rfl (And.intro rfl (trivial)))))
                    · have hw := hw.2 c34
                      refine x_iload_n C d_Tex_brokenAt_73 rfl ?_
                      exact x_ireturn C d_Tex_brokenAt_74 ⟨_, rfl, rfl, hw⟩
            exact x_wk (lI22 n23 x20 hn23) (And.intro rfl (And.intro rfl (And.intro rfl (And.intro rfl (trivial)))))
          · have hw := hw.2 c18
            refine x_iload_n C d_Tex_brokenAt_33 rfl ?_
            exact x_ireturn C d_Tex_brokenAt_34 ⟨_, rfl, rfl, hw⟩
    exact x_wk (lI12 n13 0 hn13) (And.intro rfl (And.intro rfl (trivial)))
  · have hw := hw.2 c10
    refine x_iconst (v := 0) C d_Tex_brokenAt_7 rfl ?_
    exact x_ireturn C d_Tex_brokenAt_8 ⟨_, rfl, rfl, hw⟩
def vc_Tex_number (p0 : Nat) (x1 : Int32) (x2 : Int32) (s : St) (Q : Int32 → Prop) : Prop :=
    (∃ I12 : Nat → Int32 → Int32 → Prop, (∃ n13, I12 n13 0 x1) ∧ ∀ (nI12 : Nat) (x10 : Int32) (x11 : Int32), I12 nI12 x10 x11 → (((x1 + x2) ≤ x11 → Q x10) ∧ (¬ (x1 + x2) ≤ x11 → (((s p0 4) ≤ x11 → Q x10) ∧ (¬ (s p0 4) ≤ x11 → (vp_in x11 100 ∧ (∀ x17 : Int32, x17 = ((x10 * 10) + (s (p0 + 1) (Int32.toNatClampNeg x11))) - 48 → (∀ x18 : Int32, x18 = x11 + 1 → ∃ m19, m19 < nI12 ∧ I12 m19 x17 x18))))))))
def rm_Tex_number : Room := { frames := 0, cells := 0, slots := 0, locals := 0 }
set_option maxHeartbeats 4000000 in
set_option maxRecDepth 20000 in
theorem m_Tex_number (g : Gx) (hg : gOk g) (p0 : Nat) (x1 : Int32) (x2 : Int32) (hk0 : kd p0 = 9) (s : St) (Q : Int32 → Prop) (hw : vc_Tex_number p0 x1 x2 s Q) : Mc g y_Tex_number b_Tex_number 5 (some FieldType.int) rm_Tex_number [.ref (ga g p0), .int x1, .int x2] s (fun v s' => ∃ r : Int32, v = some (.int r) ∧ s = s' ∧ Q r) := by
  refine mc_ofV (j := 2) (L := [some (.ref (ga g p0)), some (.int x1), some (.int x2), none, none]) hg (by decide) (Nat.le_of_ble_eq_true rfl) rfl ?_
  intro X hX C
  subst hX
  unfold vc_Tex_number at hw
  refine x_iconst (v := 0) C d_Tex_number_0 rfl ?_
  refine x_istore_n (L' := [some (.ref (xa X p0)), some (.int x1), some (.int x2), some (.int 0), none]) C d_Tex_number_1 (Nat.le_of_ble_eq_true rfl) rfl ?_
  refine x_iload_n C d_Tex_number_2 rfl ?_
  refine x_istore (L' := [some (.ref (xa X p0)), some (.int x1), some (.int x2), some (.int 0), some (.int x1)]) C d_Tex_number_3 (Nat.le_of_ble_eq_true rfl) rfl ?_
  obtain ⟨I12, ⟨n13, hn13⟩, hI12⟩ := hw
  have lI12 : ∀ (nI12 : Nat) (x10 : Int32) (x11 : Int32), I12 nI12 x10 x11 → V X (xQ X (fun v s' => ∃ r : Int32, v = some (.int r) ∧ s = s' ∧ Q r)) 0 0 s 5 [some (.ref (xa X p0)), some (.int x1), some (.int x2), some (.int x10), some (.int x11)] [] := by
    intro nI12
    induction nI12 using Nat.strongRecOn with
    | ind nI12 ihI12 =>
      intro x10 x11 hv
      have hw := hI12 nI12 x10 x11 hv
      refine x_iload C d_Tex_number_5 rfl ?_
      refine x_iload_n C d_Tex_number_7 rfl ?_
      refine x_iload_n C d_Tex_number_8 rfl ?_
      refine x_iadd C d_Tex_number_9 ?_
      refine x_icmp_ge (tgt := 44) C d_Tex_number_10 (by decide) (fun c14 => ?_) (fun c14 => ?_)
      · have hw := hw.1 c14
        refine x_iload_n C d_Tex_number_44 rfl ?_
        exact x_ireturn C d_Tex_number_45 ⟨_, rfl, rfl, hw⟩
      · have hw := hw.2 c14
        refine x_iload C d_Tex_number_13 rfl ?_
        refine x_aload_n C d_Tex_number_15 rfl ?_
        refine g_She_4 (p := p0) C hk0 fl_Tex_9 d_Tex_number_16 ?_
        refine x_icmp_ge (tgt := 44) C d_Tex_number_19 (by decide) (fun c15 => ?_) (fun c15 => ?_)
        · have hw := hw.1 c15
          refine x_iload_n C d_Tex_number_44 rfl ?_
          exact x_ireturn C d_Tex_number_45 ⟨_, rfl, rfl, hw⟩
        · have hw := hw.2 c15
          refine x_iload_n C d_Tex_number_22 rfl ?_
          refine x_bipush (v := 10) C d_Tex_number_23 rfl ?_
          refine x_imul C d_Tex_number_25 ?_
          refine x_aload_n C d_Tex_number_26 rfl ?_
          refine g_She_5 (p := p0) C hk0 fl_Tex_15 d_Tex_number_27 ?_
          refine x_iload C d_Tex_number_30 rfl ?_
          obtain ⟨h16, hw⟩ := hw
          refine x_iald (p := (p0 + 1)) (n := 100) C (ks_9_1 hk0) h16 d_Tex_number_32 ?_
          refine x_iadd C d_Tex_number_33 ?_
          refine x_bipush (v := 48) C d_Tex_number_34 rfl ?_
          refine x_isub C d_Tex_number_36 ?_
          refine x_nm (fun x17 hx17 => ?_)
          have hw := hw x17 hx17
          refine x_istore_n (L' := [some (.ref (xa X p0)), some (.int x1), some (.int x2), some (.int x17), some (.int x11)]) C d_Tex_number_37 (Nat.le_of_ble_eq_true rfl) rfl ?_
          obtain ⟨x18, hx18⟩ : ∃ z : Int32, z = x11 + 1 := ⟨_, rfl⟩
          refine x_iinc (v := x18) (L' := [some (.ref (xa X p0)), some (.int x1), some (.int x2), some (.int x17), some (.int x18)]) C d_Tex_number_38 (Nat.le_of_ble_eq_true rfl) rfl (by rw [hx18]; rfl) rfl ?_
          have hw := hw x18 hx18
          refine x_goto (tgt := 5) C d_Tex_number_41 (by decide) ?_
          obtain ⟨m19, hm19, hw⟩ := hw
          exact x_wk (ihI12 m19 hm19 x17 x18 hw) (And.intro rfl (And.intro rfl (And.intro rfl (And.intro rfl (And.intro rfl (trivial))))))
  exact x_wk (lI12 n13 0 x1 hn13) (And.intro rfl (And.intro rfl (And.intro rfl (And.intro rfl (And.intro rfl (trivial))))))
def vc_Yar_widthIsRight (x0 : Int32) (Q : Bool → Prop) : Prop :=
    vc_Brt_within x0 6 40 (fun b10 => Q b10)
def rm_Yar_widthIsRight : Room := { frames := 1, cells := 0, slots := 0, locals := 22 }
set_option maxHeartbeats 4000000 in
set_option maxRecDepth 20000 in
theorem m_Yar_widthIsRight (g : Gx) (hg : gOk g) (x0 : Int32)  (s : St) (Q : Bool → Prop) (hw : vc_Yar_widthIsRight x0 Q) : Mc g y_Yar_widthIsRight b_Yar_widthIsRight 1 (some FieldType.boolean) rm_Yar_widthIsRight [.int x0] s (fun v s' => ∃ r : Bool, v = some (.int (bi r)) ∧ s = s' ∧ Q r) := by
  refine mc_ofV (j := 0) (L := [some (.int x0)]) hg (by decide) (Nat.le_of_ble_eq_true rfl) rfl ?_
  intro X hX C
  subst hX
  unfold vc_Yar_widthIsRight at hw
  refine x_iload_n C d_Yar_widthIsRight_0 rfl ?_
  refine x_bipush (v := 6) C d_Yar_widthIsRight_1 rfl ?_
  refine x_bipush (v := 40) C d_Yar_widthIsRight_3 rfl ?_
  refine x_callSN (As := [.int x0, .int 6, .int 40]) (rest := []) C (m_Brt_within (xg X) C.2.2.2.2.2.2.1 x0 6 40 s _ hw) cw_Brt_within ml_Yar_40 rfl rfl rfl ⟨rfl, rfl, Nat.le_of_ble_eq_true rfl, Nat.le_of_ble_eq_true rfl⟩ ⟨Nat.zero_le _, Nat.zero_le _⟩ rfl (Nat.le_of_ble_eq_true rfl) d_Yar_widthIsRight_5 ?_
  rintro _ _ ⟨b10, rfl, rfl, hw⟩
  show V X _ _ _ _ 8 [some (.int x0)] [.int (bi b10)]
  exact x_zreturn (b := b10) C d_Yar_widthIsRight_8 ⟨_, rfl, rfl, hw⟩
def vc_Yar_add (p0 : Nat) (x1 : Int32) (x2 : Int32) (x3 : Int32) (s : St) (Q : Bool → St → Prop) : Prop :=
    vc_Brt_within x1 0 7 (fun b10 => (((bi b10) = 0 → Q false s) ∧ (¬ (bi b10) = 0 → vc_Brt_within x2 0 9 (fun b13 => (((bi b13) = 0 → Q false s) ∧ (¬ (bi b13) = 0 → vc_Yar_widthIsRight x3 (fun b16 => (((bi b16) = 0 → Q false s) ∧ (¬ (bi b16) = 0 → (((s p0 0) < 12 → (vp_in (s p0 0) 12 ∧ (∀ s21 : St, s21 = wr s (p0 + 1) (Int32.toNatClampNeg (s p0 0)) x1 → (vp_in (s21 p0 0) 12 ∧ (∀ s23 : St, s23 = wr s21 (p0 + 2) (Int32.toNatClampNeg (s21 p0 0)) x2 → (vp_in (s23 p0 0) 12 ∧ (∀ s25 : St, s25 = wr s23 (p0 + 3) (Int32.toNatClampNeg (s23 p0 0)) x3 → vc_Kin_roomOf 2 x1 x2 x3 (fun x26 => (vp_in (s25 p0 0) 12 ∧ (∀ s29 : St, s29 = wr s25 (p0 + 4) (Int32.toNatClampNeg (s25 p0 0)) x26 → vc_Kin_minutesOf 2 x1 x2 0 (fun x30 => (vp_in (s29 p0 0) 12 ∧ (∀ s33 : St, s33 = wr s29 (p0 + 5) (Int32.toNatClampNeg (s29 p0 0)) x30 → vc_Kin_minutesOf 2 x1 x2 1 (fun x34 => (vp_in (s33 p0 0) 12 ∧ (∀ s37 : St, s37 = wr s33 (p0 + 6) (Int32.toNatClampNeg (s33 p0 0)) x34 → vc_Kin_moreOf x1 0 (fun x38 => (vp_in (s37 p0 0) 12 ∧ (∀ s41 : St, s41 = wr s37 (p0 + 7) (Int32.toNatClampNeg (s37 p0 0)) x38 → vc_Kin_moreOf x1 1 (fun x42 => (vp_in (s41 p0 0) 12 ∧ (∀ s45 : St, s45 = wr s41 (p0 + 8) (Int32.toNatClampNeg (s41 p0 0)) x42 → (∀ s46 : St, s46 = wr s45 p0 0 ((s45 p0 0) + 1) → Q true s46))))))))))))))))))))))) ∧ (¬ (s p0 0) < 12 → Q false s)))))))))))
def rm_Yar_add : Room := { frames := 4, cells := 0, slots := 0, locals := 87 }
set_option maxHeartbeats 4000000 in
set_option maxRecDepth 20000 in
theorem m_Yar_add (g : Gx) (hg : gOk g) (p0 : Nat) (x1 : Int32) (x2 : Int32) (x3 : Int32) (hk0 : kd p0 = 3) (s : St) (Q : Bool → St → Prop) (hw : vc_Yar_add p0 x1 x2 x3 s Q) : Mc g y_Yar_add b_Yar_add 4 (some FieldType.boolean) rm_Yar_add [.ref (ga g p0), .int x1, .int x2, .int x3] s (fun v s' => ∃ r : Bool, v = some (.int (bi r)) ∧ Q r s') := by
  refine mc_ofV (j := 0) (L := [some (.ref (ga g p0)), some (.int x1), some (.int x2), some (.int x3)]) hg (by decide) (Nat.le_of_ble_eq_true rfl) rfl ?_
  intro X hX C
  subst hX
  unfold vc_Yar_add at hw
  refine x_iload_n C d_Yar_add_0 rfl ?_
  refine x_iconst (v := 0) C d_Yar_add_1 rfl ?_
  refine x_bipush (v := 7) C d_Yar_add_2 rfl ?_
  refine x_callSN (As := [.int x1, .int 0, .int 7]) (rest := []) C (m_Brt_within (xg X) C.2.2.2.2.2.2.1 x1 0 7 s _ hw) cw_Brt_within ml_Yar_40 rfl rfl rfl ⟨rfl, rfl, Nat.le_of_ble_eq_true rfl, Nat.le_of_ble_eq_true rfl⟩ ⟨Nat.zero_le _, Nat.zero_le _⟩ rfl (Nat.le_of_ble_eq_true rfl) d_Yar_add_4 ?_
  rintro _ _ ⟨b10, rfl, rfl, hw⟩
  show V X _ _ _ _ 7 [some (.ref (xa X p0)), some (.int x1), some (.int x2), some (.int x3)] [.int (bi b10)]
  refine x_if_eq (tgt := 36) C d_Yar_add_7 (by decide) (fun c12 => ?_) (fun c12 => ?_)
  · have hw := hw.1 c12
    refine x_iconst (v := 0) C d_Yar_add_36 rfl ?_
    exact x_zreturn (b := false) C d_Yar_add_37 ⟨_, rfl, hw⟩
  · have hw := hw.2 c12
    refine x_iload_n C d_Yar_add_10 rfl ?_
    refine x_iconst (v := 0) C d_Yar_add_11 rfl ?_
    refine x_bipush (v := 9) C d_Yar_add_12 rfl ?_
    refine x_callSN (As := [.int x2, .int 0, .int 9]) (rest := []) C (m_Brt_within (xg X) C.2.2.2.2.2.2.1 x2 0 9 s _ hw) cw_Brt_within ml_Yar_40 rfl rfl rfl ⟨rfl, rfl, Nat.le_of_ble_eq_true rfl, Nat.le_of_ble_eq_true rfl⟩ ⟨Nat.zero_le _, Nat.zero_le _⟩ rfl (Nat.le_of_ble_eq_true rfl) d_Yar_add_14 ?_
    rintro _ _ ⟨b13, rfl, rfl, hw⟩
    show V X _ _ _ _ 17 [some (.ref (xa X p0)), some (.int x1), some (.int x2), some (.int x3)] [.int (bi b13)]
    refine x_if_eq (tgt := 36) C d_Yar_add_17 (by decide) (fun c15 => ?_) (fun c15 => ?_)
    · have hw := hw.1 c15
      refine x_iconst (v := 0) C d_Yar_add_36 rfl ?_
      exact x_zreturn (b := false) C d_Yar_add_37 ⟨_, rfl, hw⟩
    · have hw := hw.2 c15
      refine x_iload_n C d_Yar_add_20 rfl ?_
      refine x_callS (As := [.int x3]) (rest := []) C (m_Yar_widthIsRight (xg X) C.2.2.2.2.2.2.1 x3 s _ hw) cw_Yar_widthIsRight ml_Yar_44 rfl ⟨rfl, rfl, Nat.le_of_ble_eq_true rfl, Nat.le_of_ble_eq_true rfl⟩ ⟨Nat.zero_le _, Nat.zero_le _⟩ rfl (Nat.le_of_ble_eq_true rfl) d_Yar_add_21 ?_
      rintro _ _ ⟨b16, rfl, rfl, hw⟩
      show V X _ _ _ _ 24 [some (.ref (xa X p0)), some (.int x1), some (.int x2), some (.int x3)] [.int (bi b16)]
      refine x_if_eq (tgt := 36) C d_Yar_add_24 (by decide) (fun c18 => ?_) (fun c18 => ?_)
      · have hw := hw.1 c18
        refine x_iconst (v := 0) C d_Yar_add_36 rfl ?_
        exact x_zreturn (b := false) C d_Yar_add_37 ⟨_, rfl, hw⟩
      · have hw := hw.2 c18
        refine x_aload_n C d_Yar_add_27 rfl ?_
        refine g_Yar_0 (p := p0) C hk0 fl_Yar_9 d_Yar_add_28 ?_
        refine x_bipush (v := 12) C d_Yar_add_31 rfl ?_
        refine x_icmp_lt (tgt := 38) C d_Yar_add_33 (by decide) (fun c19 => ?_) (fun c19 => ?_)
        · have hw := hw.1 c19
          refine x_aload_n C d_Yar_add_38 rfl ?_
          refine g_Yar_1 (p := p0) C hk0 fl_Yar_15 d_Yar_add_39 ?_
          refine x_aload_n C d_Yar_add_42 rfl ?_
          refine g_Yar_0 (p := p0) C hk0 fl_Yar_9 d_Yar_add_43 ?_
          refine x_iload_n C d_Yar_add_46 rfl ?_
          obtain ⟨h20, hw⟩ := hw
          refine x_iast (p := (p0 + 1)) (n := 12) C (ks_3_1 hk0) h20 d_Yar_add_47 ?_
          refine x_st (fun s21 hs21 => ?_)
          have hw := hw s21 hs21
          refine x_aload_n C d_Yar_add_48 rfl ?_
          refine g_Yar_2 (p := p0) C hk0 fl_Yar_19 d_Yar_add_49 ?_
          refine x_aload_n C d_Yar_add_52 rfl ?_
          refine g_Yar_0 (p := p0) C hk0 fl_Yar_9 d_Yar_add_53 ?_
          refine x_iload_n C d_Yar_add_56 rfl ?_
          obtain ⟨h22, hw⟩ := hw
          refine x_iast (p := (p0 + 2)) (n := 12) C (ks_3_2 hk0) h22 d_Yar_add_57 ?_
          refine x_st (fun s23 hs23 => ?_)
          have hw := hw s23 hs23
          refine x_aload_n C d_Yar_add_58 rfl ?_
          refine g_Yar_3 (p := p0) C hk0 fl_Yar_22 d_Yar_add_59 ?_
          refine x_aload_n C d_Yar_add_62 rfl ?_
          refine g_Yar_0 (p := p0) C hk0 fl_Yar_9 d_Yar_add_63 ?_
          refine x_iload_n C d_Yar_add_66 rfl ?_
          obtain ⟨h24, hw⟩ := hw
          refine x_iast (p := (p0 + 3)) (n := 12) C (ks_3_3 hk0) h24 d_Yar_add_67 ?_
          refine x_st (fun s25 hs25 => ?_)
          have hw := hw s25 hs25
          refine x_aload_n C d_Yar_add_68 rfl ?_
          refine g_Yar_4 (p := p0) C hk0 fl_Yar_25 d_Yar_add_69 ?_
          refine x_aload_n C d_Yar_add_72 rfl ?_
          refine g_Yar_0 (p := p0) C hk0 fl_Yar_9 d_Yar_add_73 ?_
          refine x_iload_n C d_Yar_add_76 rfl ?_
          refine x_iload_n C d_Yar_add_77 rfl ?_
          refine x_iload_n C d_Yar_add_78 rfl ?_
          refine x_callS (As := [.int x1, .int x2, .int x3]) (rest := [.int (s25 p0 0), .ref (xa X (p0 + 4))]) C (m_Kin_roomOf (xg X) C.2.2.2.2.2.2.1 2 x1 x2 x3 s25 _ hw) cw_Kin_roomOf ml_Yar_48 rfl ⟨rfl, rfl, Nat.le_of_ble_eq_true rfl, Nat.le_of_ble_eq_true rfl⟩ ⟨Nat.zero_le _, Nat.zero_le _⟩ rfl (Nat.le_of_ble_eq_true rfl) d_Yar_add_79 ?_
          rintro _ _ ⟨x26, rfl, rfl, hw⟩
          show V X _ _ _ _ 82 [some (.ref (xa X p0)), some (.int x1), some (.int x2), some (.int x3)] [.int x26, .int (s25 p0 0), .ref (xa X (p0 + 4))]
          obtain ⟨h28, hw⟩ := hw
          refine x_iast (p := (p0 + 4)) (n := 12) C (ks_3_4 hk0) h28 d_Yar_add_82 ?_
          refine x_st (fun s29 hs29 => ?_)
          have hw := hw s29 hs29
          refine x_aload_n C d_Yar_add_83 rfl ?_
          refine g_Yar_5 (p := p0) C hk0 fl_Yar_28 d_Yar_add_84 ?_
          refine x_aload_n C d_Yar_add_87 rfl ?_
          refine g_Yar_0 (p := p0) C hk0 fl_Yar_9 d_Yar_add_88 ?_
          refine x_iload_n C d_Yar_add_91 rfl ?_
          refine x_iload_n C d_Yar_add_92 rfl ?_
          refine x_iconst (v := 0) C d_Yar_add_93 rfl ?_
          refine x_callS (As := [.int x1, .int x2, .int 0]) (rest := [.int (s29 p0 0), .ref (xa X (p0 + 5))]) C (m_Kin_minutesOf (xg X) C.2.2.2.2.2.2.1 2 x1 x2 0 s29 _ hw) cw_Kin_minutesOf ml_Yar_54 rfl ⟨rfl, rfl, Nat.le_of_ble_eq_true rfl, Nat.le_of_ble_eq_true rfl⟩ ⟨Nat.zero_le _, Nat.zero_le _⟩ rfl (Nat.le_of_ble_eq_true rfl) d_Yar_add_94 ?_
          rintro _ _ ⟨x30, rfl, rfl, hw⟩
          show V X _ _ _ _ 97 [some (.ref (xa X p0)), some (.int x1), some (.int x2), some (.int x3)] [.int x30, .int (s29 p0 0), .ref (xa X (p0 + 5))]
          obtain ⟨h32, hw⟩ := hw
          refine x_iast (p := (p0 + 5)) (n := 12) C (ks_3_5 hk0) h32 d_Yar_add_97 ?_
          refine x_st (fun s33 hs33 => ?_)
          have hw := hw s33 hs33
          refine x_aload_n C d_Yar_add_98 rfl ?_
          refine g_Yar_6 (p := p0) C hk0 fl_Yar_31 d_Yar_add_99 ?_
          refine x_aload_n C d_Yar_add_102 rfl ?_
          refine g_Yar_0 (p := p0) C hk0 fl_Yar_9 d_Yar_add_103 ?_
          refine x_iload_n C d_Yar_add_106 rfl ?_
          refine x_iload_n C d_Yar_add_107 rfl ?_
          refine x_iconst (v := 1) C d_Yar_add_108 rfl ?_
          refine x_callS (As := [.int x1, .int x2, .int 1]) (rest := [.int (s33 p0 0), .ref (xa X (p0 + 6))]) C (m_Kin_minutesOf (xg X) C.2.2.2.2.2.2.1 2 x1 x2 1 s33 _ hw) cw_Kin_minutesOf ml_Yar_54 rfl ⟨rfl, rfl, Nat.le_of_ble_eq_true rfl, Nat.le_of_ble_eq_true rfl⟩ ⟨Nat.zero_le _, Nat.zero_le _⟩ rfl (Nat.le_of_ble_eq_true rfl) d_Yar_add_109 ?_
          rintro _ _ ⟨x34, rfl, rfl, hw⟩
          show V X _ _ _ _ 112 [some (.ref (xa X p0)), some (.int x1), some (.int x2), some (.int x3)] [.int x34, .int (s33 p0 0), .ref (xa X (p0 + 6))]
          obtain ⟨h36, hw⟩ := hw
          refine x_iast (p := (p0 + 6)) (n := 12) C (ks_3_6 hk0) h36 d_Yar_add_112 ?_
          refine x_st (fun s37 hs37 => ?_)
          have hw := hw s37 hs37
          refine x_aload_n C d_Yar_add_113 rfl ?_
          refine g_Yar_7 (p := p0) C hk0 fl_Yar_34 d_Yar_add_114 ?_
          refine x_aload_n C d_Yar_add_117 rfl ?_
          refine g_Yar_0 (p := p0) C hk0 fl_Yar_9 d_Yar_add_118 ?_
          refine x_iload_n C d_Yar_add_121 rfl ?_
          refine x_iconst (v := 0) C d_Yar_add_122 rfl ?_
          refine x_callS (As := [.int x1, .int 0]) (rest := [.int (s37 p0 0), .ref (xa X (p0 + 7))]) C (m_Kin_moreOf (xg X) C.2.2.2.2.2.2.1 x1 0 s37 _ hw) cw_Kin_moreOf ml_Yar_58 rfl ⟨rfl, rfl, Nat.le_of_ble_eq_true rfl, Nat.le_of_ble_eq_true rfl⟩ ⟨Nat.zero_le _, Nat.zero_le _⟩ rfl (Nat.le_of_ble_eq_true rfl) d_Yar_add_123 ?_
          rintro _ _ ⟨x38, rfl, rfl, hw⟩
          show V X _ _ _ _ 126 [some (.ref (xa X p0)), some (.int x1), some (.int x2), some (.int x3)] [.int x38, .int (s37 p0 0), .ref (xa X (p0 + 7))]
          obtain ⟨h40, hw⟩ := hw
          refine x_iast (p := (p0 + 7)) (n := 12) C (ks_3_7 hk0) h40 d_Yar_add_126 ?_
          refine x_st (fun s41 hs41 => ?_)
          have hw := hw s41 hs41
          refine x_aload_n C d_Yar_add_127 rfl ?_
          refine g_Yar_8 (p := p0) C hk0 fl_Yar_37 d_Yar_add_128 ?_
          refine x_aload_n C d_Yar_add_131 rfl ?_
          refine g_Yar_0 (p := p0) C hk0 fl_Yar_9 d_Yar_add_132 ?_
          refine x_iload_n C d_Yar_add_135 rfl ?_
          refine x_iconst (v := 1) C d_Yar_add_136 rfl ?_
          refine x_callS (As := [.int x1, .int 1]) (rest := [.int (s41 p0 0), .ref (xa X (p0 + 8))]) C (m_Kin_moreOf (xg X) C.2.2.2.2.2.2.1 x1 1 s41 _ hw) cw_Kin_moreOf ml_Yar_58 rfl ⟨rfl, rfl, Nat.le_of_ble_eq_true rfl, Nat.le_of_ble_eq_true rfl⟩ ⟨Nat.zero_le _, Nat.zero_le _⟩ rfl (Nat.le_of_ble_eq_true rfl) d_Yar_add_137 ?_
          rintro _ _ ⟨x42, rfl, rfl, hw⟩
          show V X _ _ _ _ 140 [some (.ref (xa X p0)), some (.int x1), some (.int x2), some (.int x3)] [.int x42, .int (s41 p0 0), .ref (xa X (p0 + 8))]
          obtain ⟨h44, hw⟩ := hw
          refine x_iast (p := (p0 + 8)) (n := 12) C (ks_3_8 hk0) h44 d_Yar_add_140 ?_
          refine x_st (fun s45 hs45 => ?_)
          have hw := hw s45 hs45
          refine x_aload_n C d_Yar_add_141 rfl ?_
          refine x_dup C d_Yar_add_142 rfl ?_
          refine g_Yar_0 (p := p0) C hk0 fl_Yar_9 d_Yar_add_143 ?_
          refine x_iconst (v := 1) C d_Yar_add_146 rfl ?_
          refine x_iadd C d_Yar_add_147 ?_
          refine p_Yar_0 (p := p0) C hk0 fl_Yar_9 d_Yar_add_148 ?_
          refine x_st (fun s46 hs46 => ?_)
          have hw := hw s46 hs46
          refine x_iconst (v := 1) C d_Yar_add_151 rfl ?_
          exact x_zreturn (b := true) C d_Yar_add_152 ⟨_, rfl, hw⟩
        · have hw := hw.2 c19
          refine x_iconst (v := 0) C d_Yar_add_36 rfl ?_
          exact x_zreturn (b := false) C d_Yar_add_37 ⟨_, rfl, hw⟩
def vc_Tex_tell (p0 : Nat) (x1 : Int32) (p2 : Nat) (s : St) (Q : Bool → St → Prop) : Prop :=
    vc_Tex_number p0 (x1 + 1) 1 s (fun x10 => vc_Tex_number p0 (x1 + 1) 2 s (fun x12 => vc_Tex_number p0 (x1 + 2) 1 s (fun x14 => (vp_in x1 100 ∧ (((s (p0 + 1) (Int32.toNatClampNeg x1)) = 98 → vc_Tex_number p0 (x1 + 3) 1 s (fun x18 => vc_Tex_number p0 (x1 + 4) 1 s (fun x20 => vc_Tex_number p0 (x1 + 5) 1 s (fun x22 => vc_Bod_add (p2 + 10) x12 x18 x20 x22 s (fun b24 s25 => Q b24 s25))))) ∧ (¬ (s (p0 + 1) (Int32.toNatClampNeg x1)) = 98 → (((s (p0 + 1) (Int32.toNatClampNeg x1)) = 99 → vc_Cav_adjust p2 1 x12 s (fun b27 s28 => Q b27 s28)) ∧ (¬ (s (p0 + 1) (Int32.toNatClampNeg x1)) = 99 → (((s (p0 + 1) (Int32.toNatClampNeg x1)) = 108 → vc_Tex_number p0 (x1 + 1) 3 s (fun x30 => vc_Cav_adjust p2 2 x30 s (fun b32 s33 => Q b32 s33))) ∧ (¬ (s (p0 + 1) (Int32.toNatClampNeg x1)) = 108 → (((s (p0 + 1) (Int32.toNatClampNeg x1)) = 112 → vc_Bod_alter (p2 + 10) x10 1 x14 s (fun b35 s36 => Q b35 s36)) ∧ (¬ (s (p0 + 1) (Int32.toNatClampNeg x1)) = 112 → (((s (p0 + 1) (Int32.toNatClampNeg x1)) = 114 → vc_Cav_adjust p2 0 x10 s (fun b38 s39 => Q b38 s39)) ∧ (¬ (s (p0 + 1) (Int32.toNatClampNeg x1)) = 114 → (((s (p0 + 1) (Int32.toNatClampNeg x1)) = 116 → vc_Cav_goOn p2 x12 s (fun b41 s42 => Q b41 s42)) ∧ (¬ (s (p0 + 1) (Int32.toNatClampNeg x1)) = 116 → (((s (p0 + 1) (Int32.toNatClampNeg x1)) = 120 → vc_Bod_swap (p2 + 10) x10 x14 s (fun b44 s45 => Q b44 s45)) ∧ (¬ (s (p0 + 1) (Int32.toNatClampNeg x1)) = 120 → (((s (p0 + 1) (Int32.toNatClampNeg x1)) = 121 → vc_Tex_number p0 (x1 + 3) 2 s (fun x47 => vc_Yar_add (p2 + 1) x10 x14 x47 s (fun b49 s50 => Q b49 s50))) ∧ (¬ (s (p0 + 1) (Int32.toNatClampNeg x1)) = 121 → Q false s))))))))))))))))))))
def rm_Tex_tell : Room := { frames := 5, cells := 0, slots := 0, locals := 110 }
set_option maxHeartbeats 4000000 in
set_option maxRecDepth 20000 in
theorem m_Tex_tell (g : Gx) (hg : gOk g) (p0 : Nat) (x1 : Int32) (p2 : Nat) (hk0 : kd p0 = 9) (hk2 : kd p2 = 2) (s : St) (Q : Bool → St → Prop) (hw : vc_Tex_tell p0 x1 p2 s Q) : Mc g y_Tex_tell b_Tex_tell 6 (some FieldType.boolean) rm_Tex_tell [.ref (ga g p0), .int x1, .ref (ga g p2)] s (fun v s' => ∃ r : Bool, v = some (.int (bi r)) ∧ Q r s') := by
  refine mc_ofV (j := 3) (L := [some (.ref (ga g p0)), some (.int x1), some (.ref (ga g p2)), none, none, none]) hg (by decide) (Nat.le_of_ble_eq_true rfl) rfl ?_
  intro X hX C
  subst hX
  unfold vc_Tex_tell at hw
  refine x_aload_n C d_Tex_tell_0 rfl ?_
  refine x_iload_n C d_Tex_tell_1 rfl ?_
  refine x_iconst (v := 1) C d_Tex_tell_2 rfl ?_
  refine x_iadd C d_Tex_tell_3 ?_
  refine x_iconst (v := 1) C d_Tex_tell_4 rfl ?_
  refine x_callS (As := [.ref (xa X p0), .int (x1 + 1), .int 1]) (rest := []) C (m_Tex_number (xg X) C.2.2.2.2.2.2.1 p0 (x1 + 1) 1 hk0 s _ hw) cw_Tex_number ml_Tex_29 rfl ⟨rfl, rfl, Nat.le_of_ble_eq_true rfl, Nat.le_of_ble_eq_true rfl⟩ ⟨Nat.zero_le _, Nat.zero_le _⟩ rfl (Nat.le_of_ble_eq_true rfl) d_Tex_tell_5 ?_
  rintro _ _ ⟨x10, rfl, rfl, hw⟩
  show V X _ _ _ _ 8 [some (.ref (xa X p0)), some (.int x1), some (.ref (xa X p2)), none, none, none] [.int x10]
  refine x_istore_n (L' := [some (.ref (xa X p0)), some (.int x1), some (.ref (xa X p2)), some (.int x10), none, none]) C d_Tex_tell_8 (Nat.le_of_ble_eq_true rfl) rfl ?_
  refine x_aload_n C d_Tex_tell_9 rfl ?_
  refine x_iload_n C d_Tex_tell_10 rfl ?_
  refine x_iconst (v := 1) C d_Tex_tell_11 rfl ?_
  refine x_iadd C d_Tex_tell_12 ?_
  refine x_iconst (v := 2) C d_Tex_tell_13 rfl ?_
  refine x_callS (As := [.ref (xa X p0), .int (x1 + 1), .int 2]) (rest := []) C (m_Tex_number (xg X) C.2.2.2.2.2.2.1 p0 (x1 + 1) 2 hk0 s _ hw) cw_Tex_number ml_Tex_29 rfl ⟨rfl, rfl, Nat.le_of_ble_eq_true rfl, Nat.le_of_ble_eq_true rfl⟩ ⟨Nat.zero_le _, Nat.zero_le _⟩ rfl (Nat.le_of_ble_eq_true rfl) d_Tex_tell_14 ?_
  rintro _ _ ⟨x12, rfl, rfl, hw⟩
  show V X _ _ _ _ 17 [some (.ref (xa X p0)), some (.int x1), some (.ref (xa X p2)), some (.int x10), none, none] [.int x12]
  refine x_istore (L' := [some (.ref (xa X p0)), some (.int x1), some (.ref (xa X p2)), some (.int x10), some (.int x12), none]) C d_Tex_tell_17 (Nat.le_of_ble_eq_true rfl) rfl ?_
  refine x_aload_n C d_Tex_tell_19 rfl ?_
  refine x_iload_n C d_Tex_tell_20 rfl ?_
  refine x_iconst (v := 2) C d_Tex_tell_21 rfl ?_
  refine x_iadd C d_Tex_tell_22 ?_
  refine x_iconst (v := 1) C d_Tex_tell_23 rfl ?_
  refine x_callS (As := [.ref (xa X p0), .int (x1 + 2), .int 1]) (rest := []) C (m_Tex_number (xg X) C.2.2.2.2.2.2.1 p0 (x1 + 2) 1 hk0 s _ hw) cw_Tex_number ml_Tex_29 rfl ⟨rfl, rfl, Nat.le_of_ble_eq_true rfl, Nat.le_of_ble_eq_true rfl⟩ ⟨Nat.zero_le _, Nat.zero_le _⟩ rfl (Nat.le_of_ble_eq_true rfl) d_Tex_tell_24 ?_
  rintro _ _ ⟨x14, rfl, rfl, hw⟩
  show V X _ _ _ _ 27 [some (.ref (xa X p0)), some (.int x1), some (.ref (xa X p2)), some (.int x10), some (.int x12), none] [.int x14]
  refine x_istore (L' := [some (.ref (xa X p0)), some (.int x1), some (.ref (xa X p2)), some (.int x10), some (.int x12), some (.int x14)]) C d_Tex_tell_27 (Nat.le_of_ble_eq_true rfl) rfl ?_
  refine x_aload_n C d_Tex_tell_29 rfl ?_
  refine g_She_5 (p := p0) C hk0 fl_Tex_15 d_Tex_tell_30 ?_
  refine x_iload_n C d_Tex_tell_33 rfl ?_
  obtain ⟨h16, hw⟩ := hw
  refine x_iald (p := (p0 + 1)) (n := 100) C (ks_9_1 hk0) h16 d_Tex_tell_34 ?_
  by_cases c17 : (s (p0 + 1) (Int32.toNatClampNeg x1)) = 98
  · have hw := hw.1 c17
    refine x_tswIn (v := 98) (off := 128) (tgt := 163) C d_Tex_tell_35 c17 (by decide) (by decide) rfl (by decide) ?_
    refine x_aload_n C d_Tex_tell_163 rfl ?_
    refine g_Cav_1 (p := p2) C hk2 fl_Tex_44 d_Tex_tell_164 ?_
    refine x_iload C d_Tex_tell_167 rfl ?_
    refine x_aload_n C d_Tex_tell_169 rfl ?_
    refine x_iload_n C d_Tex_tell_170 rfl ?_
    refine x_iconst (v := 3) C d_Tex_tell_171 rfl ?_
    refine x_iadd C d_Tex_tell_172 ?_
    refine x_iconst (v := 1) C d_Tex_tell_173 rfl ?_
    refine x_callS (As := [.ref (xa X p0), .int (x1 + 3), .int 1]) (rest := [.int x12, .ref (xa X (p2 + 10))]) C (m_Tex_number (xg X) C.2.2.2.2.2.2.1 p0 (x1 + 3) 1 hk0 s _ hw) cw_Tex_number ml_Tex_29 rfl ⟨rfl, rfl, Nat.le_of_ble_eq_true rfl, Nat.le_of_ble_eq_true rfl⟩ ⟨Nat.zero_le _, Nat.zero_le _⟩ rfl (Nat.le_of_ble_eq_true rfl) d_Tex_tell_174 ?_
    rintro _ _ ⟨x18, rfl, rfl, hw⟩
    show V X _ _ _ _ 177 [some (.ref (xa X p0)), some (.int x1), some (.ref (xa X p2)), some (.int x10), some (.int x12), some (.int x14)] [.int x18, .int x12, .ref (xa X (p2 + 10))]
    refine x_aload_n C d_Tex_tell_177 rfl ?_
    refine x_iload_n C d_Tex_tell_178 rfl ?_
    refine x_iconst (v := 4) C d_Tex_tell_179 rfl ?_
    refine x_iadd C d_Tex_tell_180 ?_
    refine x_iconst (v := 1) C d_Tex_tell_181 rfl ?_
    refine x_callS (As := [.ref (xa X p0), .int (x1 + 4), .int 1]) (rest := [.int x18, .int x12, .ref (xa X (p2 + 10))]) C (m_Tex_number (xg X) C.2.2.2.2.2.2.1 p0 (x1 + 4) 1 hk0 s _ hw) cw_Tex_number ml_Tex_29 rfl ⟨rfl, rfl, Nat.le_of_ble_eq_true rfl, Nat.le_of_ble_eq_true rfl⟩ ⟨Nat.zero_le _, Nat.zero_le _⟩ rfl (Nat.le_of_ble_eq_true rfl) d_Tex_tell_182 ?_
    rintro _ _ ⟨x20, rfl, rfl, hw⟩
    show V X _ _ _ _ 185 [some (.ref (xa X p0)), some (.int x1), some (.ref (xa X p2)), some (.int x10), some (.int x12), some (.int x14)] [.int x20, .int x18, .int x12, .ref (xa X (p2 + 10))]
    refine x_aload_n C d_Tex_tell_185 rfl ?_
    refine x_iload_n C d_Tex_tell_186 rfl ?_
    refine x_iconst (v := 5) C d_Tex_tell_187 rfl ?_
    refine x_iadd C d_Tex_tell_188 ?_
    refine x_iconst (v := 1) C d_Tex_tell_189 rfl ?_
    refine x_callS (As := [.ref (xa X p0), .int (x1 + 5), .int 1]) (rest := [.int x20, .int x18, .int x12, .ref (xa X (p2 + 10))]) C (m_Tex_number (xg X) C.2.2.2.2.2.2.1 p0 (x1 + 5) 1 hk0 s _ hw) cw_Tex_number ml_Tex_29 rfl ⟨rfl, rfl, Nat.le_of_ble_eq_true rfl, Nat.le_of_ble_eq_true rfl⟩ ⟨Nat.zero_le _, Nat.zero_le _⟩ rfl (Nat.le_of_ble_eq_true rfl) d_Tex_tell_190 ?_
    rintro _ _ ⟨x22, rfl, rfl, hw⟩
    show V X _ _ _ _ 193 [some (.ref (xa X p0)), some (.int x1), some (.ref (xa X p2)), some (.int x10), some (.int x12), some (.int x14)] [.int x22, .int x20, .int x18, .int x12, .ref (xa X (p2 + 10))]
    refine x_callV (As := [.int x12, .int x18, .int x20, .int x22]) (rest := []) (p := (p2 + 10)) C (m_Bod_add (xg X) C.2.2.2.2.2.2.1 (p2 + 10) x12 x18 x20 x22 (ks_2_10 hk2) s _ hw) cw_Bod_add ml_Tex_48 (ks_2_10 hk2) (by decide) (by decide) rfl rfl rfl ⟨rfl, rfl, Nat.le_of_ble_eq_true rfl, Nat.le_of_ble_eq_true rfl⟩ ⟨Nat.zero_le _, Nat.zero_le _⟩ rfl (Nat.le_of_ble_eq_true rfl) d_Tex_tell_193 ?_
    rintro _ s25 ⟨b24, rfl, hw⟩
    show V X _ _ _ _ 196 [some (.ref (xa X p0)), some (.int x1), some (.ref (xa X p2)), some (.int x10), some (.int x12), some (.int x14)] [.int (bi b24)]
    exact x_zreturn (b := b24) C d_Tex_tell_196 ⟨_, rfl, hw⟩
  have hw := hw.2 c17
  by_cases c26 : (s (p0 + 1) (Int32.toNatClampNeg x1)) = 99
  · have hw := hw.1 c26
    refine x_tswIn (v := 99) (off := 192) (tgt := 227) C d_Tex_tell_35 c26 (by decide) (by decide) rfl (by decide) ?_
    refine x_aload_n C d_Tex_tell_227 rfl ?_
    refine x_iconst (v := 1) C d_Tex_tell_228 rfl ?_
    refine x_iload C d_Tex_tell_229 rfl ?_
    refine x_callV (As := [.int 1, .int x12]) (rest := []) (p := p2) C (m_Cav_adjust (xg X) C.2.2.2.2.2.2.1 p2 1 x12 hk2 s _ hw) cw_Cav_adjust ml_Tex_60 hk2 (by decide) (by decide) rfl rfl rfl ⟨rfl, rfl, Nat.le_of_ble_eq_true rfl, Nat.le_of_ble_eq_true rfl⟩ ⟨Nat.zero_le _, Nat.zero_le _⟩ rfl (Nat.le_of_ble_eq_true rfl) d_Tex_tell_231 ?_
    rintro _ s28 ⟨b27, rfl, hw⟩
    show V X _ _ _ _ 234 [some (.ref (xa X p0)), some (.int x1), some (.ref (xa X p2)), some (.int x10), some (.int x12), some (.int x14)] [.int (bi b27)]
    exact x_zreturn (b := b27) C d_Tex_tell_234 ⟨_, rfl, hw⟩
  have hw := hw.2 c26
  by_cases c29 : (s (p0 + 1) (Int32.toNatClampNeg x1)) = 108
  · have hw := hw.1 c29
    refine x_tswIn (v := 108) (off := 200) (tgt := 235) C d_Tex_tell_35 c29 (by decide) (by decide) rfl (by decide) ?_
    refine x_aload_n C d_Tex_tell_235 rfl ?_
    refine x_iconst (v := 2) C d_Tex_tell_236 rfl ?_
    refine x_aload_n C d_Tex_tell_237 rfl ?_
    refine x_iload_n C d_Tex_tell_238 rfl ?_
    refine x_iconst (v := 1) C d_Tex_tell_239 rfl ?_
    refine x_iadd C d_Tex_tell_240 ?_
    refine x_iconst (v := 3) C d_Tex_tell_241 rfl ?_
    refine x_callS (As := [.ref (xa X p0), .int (x1 + 1), .int 3]) (rest := [.int 2, .ref (xa X p2)]) C (m_Tex_number (xg X) C.2.2.2.2.2.2.1 p0 (x1 + 1) 3 hk0 s _ hw) cw_Tex_number ml_Tex_29 rfl ⟨rfl, rfl, Nat.le_of_ble_eq_true rfl, Nat.le_of_ble_eq_true rfl⟩ ⟨Nat.zero_le _, Nat.zero_le _⟩ rfl (Nat.le_of_ble_eq_true rfl) d_Tex_tell_242 ?_
    rintro _ _ ⟨x30, rfl, rfl, hw⟩
    show V X _ _ _ _ 245 [some (.ref (xa X p0)), some (.int x1), some (.ref (xa X p2)), some (.int x10), some (.int x12), some (.int x14)] [.int x30, .int 2, .ref (xa X p2)]
    refine x_callV (As := [.int 2, .int x30]) (rest := []) (p := p2) C (m_Cav_adjust (xg X) C.2.2.2.2.2.2.1 p2 2 x30 hk2 s _ hw) cw_Cav_adjust ml_Tex_60 hk2 (by decide) (by decide) rfl rfl rfl ⟨rfl, rfl, Nat.le_of_ble_eq_true rfl, Nat.le_of_ble_eq_true rfl⟩ ⟨Nat.zero_le _, Nat.zero_le _⟩ rfl (Nat.le_of_ble_eq_true rfl) d_Tex_tell_245 ?_
    rintro _ s33 ⟨b32, rfl, hw⟩
    show V X _ _ _ _ 248 [some (.ref (xa X p0)), some (.int x1), some (.ref (xa X p2)), some (.int x10), some (.int x12), some (.int x14)] [.int (bi b32)]
    exact x_zreturn (b := b32) C d_Tex_tell_248 ⟨_, rfl, hw⟩
  have hw := hw.2 c29
  by_cases c34 : (s (p0 + 1) (Int32.toNatClampNeg x1)) = 112
  · have hw := hw.1 c34
    refine x_tswIn (v := 112) (off := 162) (tgt := 197) C d_Tex_tell_35 c34 (by decide) (by decide) rfl (by decide) ?_
    refine x_aload_n C d_Tex_tell_197 rfl ?_
    refine g_Cav_1 (p := p2) C hk2 fl_Tex_44 d_Tex_tell_198 ?_
    refine x_iload_n C d_Tex_tell_201 rfl ?_
    refine x_iconst (v := 1) C d_Tex_tell_202 rfl ?_
    refine x_iload C d_Tex_tell_203 rfl ?_
    refine x_callV (As := [.int x10, .int 1, .int x14]) (rest := []) (p := (p2 + 10)) C (m_Bod_alter (xg X) C.2.2.2.2.2.2.1 (p2 + 10) x10 1 x14 (ks_2_10 hk2) s _ hw) cw_Bod_alter ml_Tex_53 (ks_2_10 hk2) (by decide) (by decide) rfl rfl rfl ⟨rfl, rfl, Nat.le_of_ble_eq_true rfl, Nat.le_of_ble_eq_true rfl⟩ ⟨Nat.zero_le _, Nat.zero_le _⟩ rfl (Nat.le_of_ble_eq_true rfl) d_Tex_tell_205 ?_
    rintro _ s36 ⟨b35, rfl, hw⟩
    show V X _ _ _ _ 208 [some (.ref (xa X p0)), some (.int x1), some (.ref (xa X p2)), some (.int x10), some (.int x12), some (.int x14)] [.int (bi b35)]
    exact x_zreturn (b := b35) C d_Tex_tell_208 ⟨_, rfl, hw⟩
  have hw := hw.2 c34
  by_cases c37 : (s (p0 + 1) (Int32.toNatClampNeg x1)) = 114
  · have hw := hw.1 c37
    refine x_tswIn (v := 114) (off := 185) (tgt := 220) C d_Tex_tell_35 c37 (by decide) (by decide) rfl (by decide) ?_
    refine x_aload_n C d_Tex_tell_220 rfl ?_
    refine x_iconst (v := 0) C d_Tex_tell_221 rfl ?_
    refine x_iload_n C d_Tex_tell_222 rfl ?_
    refine x_callV (As := [.int 0, .int x10]) (rest := []) (p := p2) C (m_Cav_adjust (xg X) C.2.2.2.2.2.2.1 p2 0 x10 hk2 s _ hw) cw_Cav_adjust ml_Tex_60 hk2 (by decide) (by decide) rfl rfl rfl ⟨rfl, rfl, Nat.le_of_ble_eq_true rfl, Nat.le_of_ble_eq_true rfl⟩ ⟨Nat.zero_le _, Nat.zero_le _⟩ rfl (Nat.le_of_ble_eq_true rfl) d_Tex_tell_223 ?_
    rintro _ s39 ⟨b38, rfl, hw⟩
    show V X _ _ _ _ 226 [some (.ref (xa X p0)), some (.int x1), some (.ref (xa X p2)), some (.int x10), some (.int x12), some (.int x14)] [.int (bi b38)]
    exact x_zreturn (b := b38) C d_Tex_tell_226 ⟨_, rfl, hw⟩
  have hw := hw.2 c37
  by_cases c40 : (s (p0 + 1) (Int32.toNatClampNeg x1)) = 116
  · have hw := hw.1 c40
    refine x_tswIn (v := 116) (off := 214) (tgt := 249) C d_Tex_tell_35 c40 (by decide) (by decide) rfl (by decide) ?_
    refine x_aload_n C d_Tex_tell_249 rfl ?_
    refine x_iload C d_Tex_tell_250 rfl ?_
    refine x_callV (As := [.int x12]) (rest := []) (p := p2) C (m_Cav_goOn (xg X) C.2.2.2.2.2.2.1 p2 x12 hk2 s _ hw) cw_Cav_goOn ml_Tex_63 hk2 (by decide) (by decide) rfl rfl rfl ⟨rfl, rfl, Nat.le_of_ble_eq_true rfl, Nat.le_of_ble_eq_true rfl⟩ ⟨Nat.zero_le _, Nat.zero_le _⟩ rfl (Nat.le_of_ble_eq_true rfl) d_Tex_tell_252 ?_
    rintro _ s42 ⟨b41, rfl, hw⟩
    show V X _ _ _ _ 255 [some (.ref (xa X p0)), some (.int x1), some (.ref (xa X p2)), some (.int x10), some (.int x12), some (.int x14)] [.int (bi b41)]
    exact x_zreturn (b := b41) C d_Tex_tell_255 ⟨_, rfl, hw⟩
  have hw := hw.2 c40
  by_cases c43 : (s (p0 + 1) (Int32.toNatClampNeg x1)) = 120
  · have hw := hw.1 c43
    refine x_tswIn (v := 120) (off := 174) (tgt := 209) C d_Tex_tell_35 c43 (by decide) (by decide) rfl (by decide) ?_
    refine x_aload_n C d_Tex_tell_209 rfl ?_
    refine g_Cav_1 (p := p2) C hk2 fl_Tex_44 d_Tex_tell_210 ?_
    refine x_iload_n C d_Tex_tell_213 rfl ?_
    refine x_iload C d_Tex_tell_214 rfl ?_
    refine x_callV (As := [.int x10, .int x14]) (rest := []) (p := (p2 + 10)) C (m_Bod_swap (xg X) C.2.2.2.2.2.2.1 (p2 + 10) x10 x14 (ks_2_10 hk2) s _ hw) cw_Bod_swap ml_Tex_56 (ks_2_10 hk2) (by decide) (by decide) rfl rfl rfl ⟨rfl, rfl, Nat.le_of_ble_eq_true rfl, Nat.le_of_ble_eq_true rfl⟩ ⟨Nat.zero_le _, Nat.zero_le _⟩ rfl (Nat.le_of_ble_eq_true rfl) d_Tex_tell_216 ?_
    rintro _ s45 ⟨b44, rfl, hw⟩
    show V X _ _ _ _ 219 [some (.ref (xa X p0)), some (.int x1), some (.ref (xa X p2)), some (.int x10), some (.int x12), some (.int x14)] [.int (bi b44)]
    exact x_zreturn (b := b44) C d_Tex_tell_219 ⟨_, rfl, hw⟩
  have hw := hw.2 c43
  by_cases c46 : (s (p0 + 1) (Int32.toNatClampNeg x1)) = 121
  · have hw := hw.1 c46
    refine x_tswIn (v := 121) (off := 109) (tgt := 144) C d_Tex_tell_35 c46 (by decide) (by decide) rfl (by decide) ?_
    refine x_aload_n C d_Tex_tell_144 rfl ?_
    refine g_Cav_0 (p := p2) C hk2 fl_Tex_33 d_Tex_tell_145 ?_
    refine x_iload_n C d_Tex_tell_148 rfl ?_
    refine x_iload C d_Tex_tell_149 rfl ?_
    refine x_aload_n C d_Tex_tell_151 rfl ?_
    refine x_iload_n C d_Tex_tell_152 rfl ?_
    refine x_iconst (v := 3) C d_Tex_tell_153 rfl ?_
    refine x_iadd C d_Tex_tell_154 ?_
    refine x_iconst (v := 2) C d_Tex_tell_155 rfl ?_
    refine x_callS (As := [.ref (xa X p0), .int (x1 + 3), .int 2]) (rest := [.int x14, .int x10, .ref (xa X (p2 + 1))]) C (m_Tex_number (xg X) C.2.2.2.2.2.2.1 p0 (x1 + 3) 2 hk0 s _ hw) cw_Tex_number ml_Tex_29 rfl ⟨rfl, rfl, Nat.le_of_ble_eq_true rfl, Nat.le_of_ble_eq_true rfl⟩ ⟨Nat.zero_le _, Nat.zero_le _⟩ rfl (Nat.le_of_ble_eq_true rfl) d_Tex_tell_156 ?_
    rintro _ _ ⟨x47, rfl, rfl, hw⟩
    show V X _ _ _ _ 159 [some (.ref (xa X p0)), some (.int x1), some (.ref (xa X p2)), some (.int x10), some (.int x12), some (.int x14)] [.int x47, .int x14, .int x10, .ref (xa X (p2 + 1))]
    refine x_callV (As := [.int x10, .int x14, .int x47]) (rest := []) (p := (p2 + 1)) C (m_Yar_add (xg X) C.2.2.2.2.2.2.1 (p2 + 1) x10 x14 x47 (ks_2_1 hk2) s _ hw) cw_Yar_add ml_Tex_39 (ks_2_1 hk2) (by decide) (by decide) rfl rfl rfl ⟨rfl, rfl, Nat.le_of_ble_eq_true rfl, Nat.le_of_ble_eq_true rfl⟩ ⟨Nat.zero_le _, Nat.zero_le _⟩ rfl (Nat.le_of_ble_eq_true rfl) d_Tex_tell_159 ?_
    rintro _ s50 ⟨b49, rfl, hw⟩
    show V X _ _ _ _ 162 [some (.ref (xa X p0)), some (.int x1), some (.ref (xa X p2)), some (.int x10), some (.int x12), some (.int x14)] [.int (bi b49)]
    exact x_zreturn (b := b49) C d_Tex_tell_162 ⟨_, rfl, hw⟩
  have hw := hw.2 c46
  refine x_tswD (tgt := 256) C d_Tex_tell_35 (fun j hj => by match j, hj with | 0, _ => exact Or.inr c17 | 1, _ => exact Or.inr c26 | 2, _ => exact Or.inl rfl | 3, _ => exact Or.inl rfl | 4, _ => exact Or.inl rfl | 5, _ => exact Or.inl rfl | 6, _ => exact Or.inl rfl | 7, _ => exact Or.inl rfl | 8, _ => exact Or.inl rfl | 9, _ => exact Or.inl rfl | 10, _ => exact Or.inr c29 | 11, _ => exact Or.inl rfl | 12, _ => exact Or.inl rfl | 13, _ => exact Or.inl rfl | 14, _ => exact Or.inr c34 | 15, _ => exact Or.inl rfl | 16, _ => exact Or.inr c37 | 17, _ => exact Or.inl rfl | 18, _ => exact Or.inr c40 | 19, _ => exact Or.inl rfl | 20, _ => exact Or.inl rfl | 21, _ => exact Or.inl rfl | 22, _ => exact Or.inr c43 | 23, _ => exact Or.inr c46 | j + 24, hj => exact absurd hj (by omega)) (by decide) ?_
  refine x_iconst (v := 0) C d_Tex_tell_256 rfl ?_
  exact x_zreturn (b := false) C d_Tex_tell_257 ⟨_, rfl, hw⟩
def vc_Tri_alone (p0 : Nat) (p1 : Nat) (x2 : Int32) (x3 : Int32) (s : St) (Q : Nat → St → Prop) : Prop :=
    (vp_in 0 1 ∧ (∀ s11 : St, s11 = wr s (p0 + 5) (Int32.toNatClampNeg 0) x2 → (∃ J13 : Nat → Prop, (∀ (p12 : Nat), kd p12 = 6 → J13 p12 → vc_Leg_passAll p12 p1 (p0 + 5) 1 1 x3 (s11 p1 5) s11 (fun s14 => Q p12 s14)) ∧ ((x3 = 0 → J13 (p0 + 1)) ∧ (¬ x3 = 0 → J13 (p0 + 3))))))
def rm_Tri_alone : Room := { frames := 4, cells := 0, slots := 0, locals := 106 }
set_option maxHeartbeats 4000000 in
set_option maxRecDepth 20000 in
theorem m_Tri_alone (g : Gx) (hg : gOk g) (p0 : Nat) (p1 : Nat) (x2 : Int32) (x3 : Int32) (hk0 : kd p0 = 5) (hk1 : kd p1 = 2) (s : St) (Q : Nat → St → Prop) (hw : vc_Tri_alone p0 p1 x2 x3 s Q) : Mc g y_Tri_alone b_Tri_alone 5 (some (FieldType.object "BreatheOut$Leg")) rm_Tri_alone [.ref (ga g p0), .ref (ga g p1), .int x2, .int x3] s (fun v s' => ∃ r : Nat, v = some (.ref (ga g r)) ∧ kd r = 6 ∧ Q r s') := by
  refine mc_ofV (j := 1) (L := [some (.ref (ga g p0)), some (.ref (ga g p1)), some (.int x2), some (.int x3), none]) hg (by decide) (Nat.le_of_ble_eq_true rfl) rfl ?_
  intro X hX C
  subst hX
  unfold vc_Tri_alone at hw
  refine x_aload_n C d_Tri_alone_0 rfl ?_
  refine g_Tri_2 (p := p0) C hk0 fl_Tri_21 d_Tri_alone_1 ?_
  refine x_iconst (v := 0) C d_Tri_alone_4 rfl ?_
  refine x_iload_n C d_Tri_alone_5 rfl ?_
  obtain ⟨h10, hw⟩ := hw
  refine x_iast (p := (p0 + 5)) (n := 1) C (ks_5_5 hk0) h10 d_Tri_alone_6 ?_
  refine x_st (fun s11 hs11 => ?_)
  have hw := hw s11 hs11
  refine x_iload_n C d_Tri_alone_7 rfl ?_
  obtain ⟨J13, hJ13, hw⟩ := hw
  have kJ13 : ∀ (p12 : Nat) (hkp12 : kd p12 = 6), J13 p12 → V X (xQ X (fun v s' => ∃ r : Nat, v = some (.ref (ga (xg X) r)) ∧ kd r = 6 ∧ Q r s')) 0 0 s11 22 [some (.ref (xa X p0)), some (.ref (xa X p1)), some (.int x2), some (.int x3), none] [.ref (xa X p12)] := by
    intro p12 hkp12 hv
    have hw := hJ13 p12 hkp12 hv
    refine x_astore (L' := [some (.ref (xa X p0)), some (.ref (xa X p1)), some (.int x2), some (.int x3), some (.ref (xa X p12))]) C d_Tri_alone_22 (Nat.le_of_ble_eq_true rfl) rfl ?_
    refine x_aload C d_Tri_alone_24 rfl ?_
    refine x_aload_n C d_Tri_alone_26 rfl ?_
    refine x_aload_n C d_Tri_alone_27 rfl ?_
    refine g_Tri_2 (p := p0) C hk0 fl_Tri_21 d_Tri_alone_28 ?_
    refine x_iconst (v := 1) C d_Tri_alone_31 rfl ?_
    refine x_iload_n C d_Tri_alone_32 rfl ?_
    refine x_aload_n C d_Tri_alone_33 rfl ?_
    refine g_Cav_5 (p := p1) C hk1 fl_Tri_40 d_Tri_alone_34 ?_
    refine x_callV (As := [.ref (xa X p1), .ref (xa X (p0 + 5)), .int 1, .int x3, .int (s11 p1 5)]) (rest := []) (p := p12) C (m_Leg_passAll (xg X) C.2.2.2.2.2.2.1 p12 p1 (p0 + 5) 1 1 x3 (s11 p1 5) hkp12 hk1 (ks_5_5 hk0) s11 _ hw) cw_Leg_passAll ml_Tri_25 hkp12 (by decide) (by decide) rfl rfl rfl ⟨rfl, rfl, Nat.le_of_ble_eq_true rfl, Nat.le_of_ble_eq_true rfl⟩ ⟨Nat.zero_le _, Nat.zero_le _⟩ rfl (Nat.le_of_ble_eq_true rfl) d_Tri_alone_37 ?_
    rintro _ s14 ⟨rfl, hw⟩
    show V X _ _ _ _ 40 [some (.ref (xa X p0)), some (.ref (xa X p1)), some (.int x2), some (.int x3), some (.ref (xa X p12))] []
    refine x_aload C d_Tri_alone_40 rfl ?_
    exact x_areturn C (by first | exact Or.inl ⟨_, rfl⟩ | exact Or.inr ⟨_, rfl⟩) d_Tri_alone_42 ⟨_, rfl, hkp12, hw⟩
  refine x_if_eq (tgt := 18) C d_Tri_alone_8 (by decide) (fun c15 => ?_) (fun c15 => ?_)
  · have hw := hw.1 c15
    refine x_aload_n C d_Tri_alone_18 rfl ?_
    refine g_Tri_0 (p := p0) C hk0 fl_Tri_12 d_Tri_alone_19 ?_
    exact x_wk (kJ13 (p0 + 1) (ks_5_1 hk0) hw) (And.intro rfl (And.intro rfl (And.intro rfl (And.intro rfl (trivial)))))
  · have hw := hw.2 c15
    refine x_aload_n C d_Tri_alone_11 rfl ?_
    refine g_Tri_1 (p := p0) C hk0 fl_Tri_18 d_Tri_alone_12 ?_
    refine x_goto (tgt := 22) C d_Tri_alone_15 (by decide) ?_
    exact x_wk (kJ13 (p0 + 3) (ks_5_3 hk0) hw) (And.intro rfl (And.intro rfl (And.intro rfl (And.intro rfl (trivial)))))
def vc_Tri_shutIn (p0 : Nat) (s : St) (Q : Int32 → Prop) : Prop :=
    (∃ J11 : Int32 → Prop, (∀ (x10 : Int32), J11 x10 → Q (((s (p0 + 1) 0) &&& ((s (p0 + 3) 0) ^^^ (-1))) &&& (x10 ^^^ (-1)))) ∧ ((¬ (s (p0 + 3) 2) = (-4) → J11 (1 <<< ((s (p0 + 3) 2) &&& 31))) ∧ ((s (p0 + 3) 2) = (-4) → J11 0)))
def rm_Tri_shutIn : Room := { frames := 0, cells := 0, slots := 0, locals := 0 }
set_option maxHeartbeats 4000000 in
set_option maxRecDepth 20000 in
theorem m_Tri_shutIn (g : Gx) (hg : gOk g) (p0 : Nat) (hk0 : kd p0 = 5) (s : St) (Q : Int32 → Prop) (hw : vc_Tri_shutIn p0 s Q) : Mc g y_Tri_shutIn b_Tri_shutIn 2 (some FieldType.int) rm_Tri_shutIn [.ref (ga g p0)] s (fun v s' => ∃ r : Int32, v = some (.int r) ∧ s = s' ∧ Q r) := by
  refine mc_ofV (j := 1) (L := [some (.ref (ga g p0)), none]) hg (by decide) (Nat.le_of_ble_eq_true rfl) rfl ?_
  intro X hX C
  subst hX
  unfold vc_Tri_shutIn at hw
  refine x_aload_n C d_Tri_shutIn_0 rfl ?_
  refine g_Tri_1 (p := p0) C hk0 fl_Tri_18 d_Tri_shutIn_1 ?_
  refine g_Leg_2 (p := (p0 + 3)) C (ks_5_3 hk0) fl_Tri_29 d_Tri_shutIn_4 ?_
  refine x_bipush (v := (-4)) C d_Tri_shutIn_7 rfl ?_
  obtain ⟨J11, hJ11, hw⟩ := hw
  have kJ11 : ∀ (x10 : Int32), J11 x10 → V X (xQ X (fun v s' => ∃ r : Int32, v = some (.int r) ∧ s = s' ∧ Q r)) 0 0 s 25 [some (.ref (xa X p0)), none] [.int x10] := by
    intro x10 hv
    have hw := hJ11 x10 hv
    refine x_istore_n (L' := [some (.ref (xa X p0)), some (.int x10)]) C d_Tri_shutIn_25 (Nat.le_of_ble_eq_true rfl) rfl ?_
    refine x_aload_n C d_Tri_shutIn_26 rfl ?_
    refine g_Tri_0 (p := p0) C hk0 fl_Tri_12 d_Tri_shutIn_27 ?_
    refine g_Leg_0 (p := (p0 + 1)) C (ks_5_1 hk0) fl_Tri_43 d_Tri_shutIn_30 ?_
    refine x_aload_n C d_Tri_shutIn_33 rfl ?_
    refine g_Tri_1 (p := p0) C hk0 fl_Tri_18 d_Tri_shutIn_34 ?_
    refine g_Leg_0 (p := (p0 + 3)) C (ks_5_3 hk0) fl_Tri_43 d_Tri_shutIn_37 ?_
    refine x_iconst (v := (-1)) C d_Tri_shutIn_40 rfl ?_
    refine x_ixor C d_Tri_shutIn_41 ?_
    refine x_iand C d_Tri_shutIn_42 ?_
    refine x_iload_n C d_Tri_shutIn_43 rfl ?_
    refine x_iconst (v := (-1)) C d_Tri_shutIn_44 rfl ?_
    refine x_ixor C d_Tri_shutIn_45 ?_
    refine x_iand C d_Tri_shutIn_46 ?_
    exact x_ireturn C d_Tri_shutIn_47 ⟨_, rfl, rfl, hw⟩
  refine x_icmp_ne (tgt := 16) C d_Tri_shutIn_9 (by decide) (fun c12 => ?_) (fun c12 => ?_)
  · have hw := hw.1 c12
    refine x_iconst (v := 1) C d_Tri_shutIn_16 rfl ?_
    refine x_aload_n C d_Tri_shutIn_17 rfl ?_
    refine g_Tri_1 (p := p0) C hk0 fl_Tri_18 d_Tri_shutIn_18 ?_
    refine g_Leg_2 (p := (p0 + 3)) C (ks_5_3 hk0) fl_Tri_29 d_Tri_shutIn_21 ?_
    refine x_ishl C d_Tri_shutIn_24 ?_
    exact x_wk (kJ11 (1 <<< ((s (p0 + 3) 2) &&& 31)) hw) (And.intro rfl (trivial))
  · have hw := hw.2 c12
    refine x_iconst (v := 0) C d_Tri_shutIn_12 rfl ?_
    refine x_goto (tgt := 25) C d_Tri_shutIn_13 (by decide) ?_
    exact x_wk (kJ11 0 hw) (And.intro rfl (trivial))
def vc_Brt_isShelf (x0 : Int32) (Q : Bool → Prop) : Prop :=
    vc_Brt_within x0 0 7 (fun b10 => Q b10)
def rm_Brt_isShelf : Room := { frames := 1, cells := 0, slots := 0, locals := 22 }
set_option maxHeartbeats 4000000 in
set_option maxRecDepth 20000 in
theorem m_Brt_isShelf (g : Gx) (hg : gOk g) (x0 : Int32)  (s : St) (Q : Bool → Prop) (hw : vc_Brt_isShelf x0 Q) : Mc g y_Brt_isShelf b_Brt_isShelf 1 (some FieldType.boolean) rm_Brt_isShelf [.int x0] s (fun v s' => ∃ r : Bool, v = some (.int (bi r)) ∧ s = s' ∧ Q r) := by
  refine mc_ofV (j := 0) (L := [some (.int x0)]) hg (by decide) (Nat.le_of_ble_eq_true rfl) rfl ?_
  intro X hX C
  subst hX
  unfold vc_Brt_isShelf at hw
  refine x_iload_n C d_Brt_isShelf_0 rfl ?_
  refine x_iconst (v := 0) C d_Brt_isShelf_1 rfl ?_
  refine x_bipush (v := 7) C d_Brt_isShelf_2 rfl ?_
  refine x_callS (As := [.int x0, .int 0, .int 7]) (rest := []) C (m_Brt_within (xg X) C.2.2.2.2.2.2.1 x0 0 7 s _ hw) cw_Brt_within ml_Brt_185 rfl ⟨rfl, rfl, Nat.le_of_ble_eq_true rfl, Nat.le_of_ble_eq_true rfl⟩ ⟨Nat.zero_le _, Nat.zero_le _⟩ rfl (Nat.le_of_ble_eq_true rfl) d_Brt_isShelf_4 ?_
  rintro _ _ ⟨b10, rfl, rfl, hw⟩
  show V X _ _ _ _ 7 [some (.int x0)] [.int (bi b10)]
  exact x_zreturn (b := b10) C d_Brt_isShelf_7 ⟨_, rfl, rfl, hw⟩
def vc_Brt_refusalUnless (x1 : Int32) (x2 : Int32) (s : St) (Q : Int32 → Prop) : Prop :=
    vc_Brt_isShelf x1 (fun b10 => ((¬ (bi b10) = 0 → (vp_in x1 8 ∧ ((¬ (s (shp x1) 0) = 0 → (vp_in x1 8 ∧ ((¬ (s (shp x1) 0) = x2 → Q (-12)) ∧ ((s (shp x1) 0) = x2 → Q 0)))) ∧ ((s (shp x1) 0) = 0 → Q (-11))))) ∧ ((bi b10) = 0 → Q (-1))))
def rm_Brt_refusalUnless : Room := { frames := 2, cells := 0, slots := 0, locals := 42 }
set_option maxHeartbeats 4000000 in
set_option maxRecDepth 20000 in
theorem m_Brt_refusalUnless (g : Gx) (hg : gOk g) (x1 : Int32) (x2 : Int32)  (s : St) (Q : Int32 → Prop) (hw : vc_Brt_refusalUnless x1 x2 s Q) : Mc g y_Brt_refusalUnless b_Brt_refusalUnless 3 (some FieldType.int) rm_Brt_refusalUnless [.ref (ga g 0), .int x1, .int x2] s (fun v s' => ∃ r : Int32, v = some (.int r) ∧ s = s' ∧ Q r) := by
  refine mc_ofV (j := 0) (L := [some (.ref (ga g 0)), some (.int x1), some (.int x2)]) hg (by decide) (Nat.le_of_ble_eq_true rfl) rfl ?_
  intro X hX C
  subst hX
  unfold vc_Brt_refusalUnless at hw
  refine x_iload_n C d_Brt_refusalUnless_0 rfl ?_
  refine x_callS (As := [.int x1]) (rest := []) C (m_Brt_isShelf (xg X) C.2.2.2.2.2.2.1 x1 s _ hw) cw_Brt_isShelf ml_Brt_343 rfl ⟨rfl, rfl, Nat.le_of_ble_eq_true rfl, Nat.le_of_ble_eq_true rfl⟩ ⟨Nat.zero_le _, Nat.zero_le _⟩ rfl (Nat.le_of_ble_eq_true rfl) d_Brt_refusalUnless_1 ?_
  rintro _ _ ⟨b10, rfl, rfl, hw⟩
  show V X _ _ _ _ 4 [some (.ref (xa X 0)), some (.int x1), some (.int x2)] [.int (bi b10)]
  refine x_if_ne (tgt := 9) C d_Brt_refusalUnless_4 (by decide) (fun c12 => ?_) (fun c12 => ?_)
  · have hw := hw.1 c12
    refine x_aload_n C d_Brt_refusalUnless_9 rfl ?_
    refine g_Brt_7 (p := 0) C rfl fl_Brt_49 d_Brt_refusalUnless_10 ?_
    refine x_iload_n C d_Brt_refusalUnless_13 rfl ?_
    obtain ⟨h13, hw⟩ := hw
    refine x_aald C h13 d_Brt_refusalUnless_14 ?_
    refine g_She_0 (p := (shp x1)) C (shp_kd h13) fl_Brt_346 d_Brt_refusalUnless_15 ?_
    refine x_if_ne (tgt := 24) C d_Brt_refusalUnless_18 (by decide) (fun c14 => ?_) (fun c14 => ?_)
    · have hw := hw.1 c14
      refine x_aload_n C d_Brt_refusalUnless_24 rfl ?_
      refine g_Brt_7 (p := 0) C rfl fl_Brt_49 d_Brt_refusalUnless_25 ?_
      refine x_iload_n C d_Brt_refusalUnless_28 rfl ?_
      obtain ⟨h15, hw⟩ := hw
      refine x_aald C h15 d_Brt_refusalUnless_29 ?_
      refine g_She_0 (p := (shp x1)) C (shp_kd h15) fl_Brt_346 d_Brt_refusalUnless_30 ?_
      refine x_iload_n C d_Brt_refusalUnless_33 rfl ?_
      refine x_icmp_ne (tgt := 41) C d_Brt_refusalUnless_34 (by decide) (fun c16 => ?_) (fun c16 => ?_)
      · have hw := hw.1 c16
        refine x_bipush (v := (-12)) C d_Brt_refusalUnless_41 rfl ?_
        exact x_ireturn C d_Brt_refusalUnless_43 ⟨_, rfl, rfl, hw⟩
      · have hw := hw.2 c16
        refine x_iconst (v := 0) C d_Brt_refusalUnless_37 rfl ?_
        refine x_goto (tgt := 43) C d_Brt_refusalUnless_38 (by decide) ?_
        exact x_ireturn C d_Brt_refusalUnless_43 ⟨_, rfl, rfl, hw⟩
    · have hw := hw.2 c14
      refine x_bipush (v := (-11)) C d_Brt_refusalUnless_21 rfl ?_
      exact x_ireturn C d_Brt_refusalUnless_23 ⟨_, rfl, rfl, hw⟩
  · have hw := hw.2 c12
    refine x_iconst (v := (-1)) C d_Brt_refusalUnless_7 rfl ?_
    exact x_ireturn C d_Brt_refusalUnless_8 ⟨_, rfl, rfl, hw⟩
def vc_Brt_refusalOfRow (x1 : Int32) (s : St) (Q : Int32 → Prop) : Prop :=
    vc_Brt_refusalUnless x1 2 s (fun x10 => Q x10)
def rm_Brt_refusalOfRow : Room := { frames := 3, cells := 0, slots := 0, locals := 64 }
set_option maxHeartbeats 4000000 in
set_option maxRecDepth 20000 in
theorem m_Brt_refusalOfRow (g : Gx) (hg : gOk g) (x1 : Int32)  (s : St) (Q : Int32 → Prop) (hw : vc_Brt_refusalOfRow x1 s Q) : Mc g y_Brt_refusalOfRow b_Brt_refusalOfRow 2 (some FieldType.int) rm_Brt_refusalOfRow [.ref (ga g 0), .int x1] s (fun v s' => ∃ r : Int32, v = some (.int r) ∧ s = s' ∧ Q r) := by
  refine mc_ofV (j := 0) (L := [some (.ref (ga g 0)), some (.int x1)]) hg (by decide) (Nat.le_of_ble_eq_true rfl) rfl ?_
  intro X hX C
  subst hX
  unfold vc_Brt_refusalOfRow at hw
  refine x_aload_n C d_Brt_refusalOfRow_0 rfl ?_
  refine x_iload_n C d_Brt_refusalOfRow_1 rfl ?_
  refine x_iconst (v := 2) C d_Brt_refusalOfRow_2 rfl ?_
  refine x_callV (As := [.int x1, .int 2]) (rest := []) (p := 0) C (m_Brt_refusalUnless (xg X) C.2.2.2.2.2.2.1 x1 2 s _ hw) cw_Brt_refusalUnless ml_Brt_395 rfl (by decide) (by decide) rfl rfl rfl ⟨rfl, rfl, Nat.le_of_ble_eq_true rfl, Nat.le_of_ble_eq_true rfl⟩ ⟨Nat.zero_le _, Nat.zero_le _⟩ rfl (Nat.le_of_ble_eq_true rfl) d_Brt_refusalOfRow_3 ?_
  rintro _ _ ⟨x10, rfl, rfl, hw⟩
  show V X _ _ _ _ 6 [some (.ref (xa X 0)), some (.int x1)] [.int x10]
  exact x_ireturn C d_Brt_refusalOfRow_6 ⟨_, rfl, rfl, hw⟩
def vc_Brt_cave (x1 : Int32) (s : St) (Q : Int32 → St → Prop) : Prop :=
    vc_Brt_refusalOfRow x1 s (fun x10 => ((x10 = 0 → (vp_in x1 8 ∧ (((s (shp x1) 3) = 0 → vc_Tex_brokenAt (shp x1) s (fun x15 => ((x15 < 0 → vc_Cav_become 35 1 s (fun s18 => (∃ I22 : Nat → Int32 → Int32 → St → Prop, (∃ n23, I22 n23 0 0 s18) ∧ ∀ (nI22 : Nat) (x19 : Int32) (x20 : Int32) (s21 : St), I22 nI22 x19 x20 s21 → (((s21 (shp x1) 4) ≤ x20 → vc_Cav_become 1 35 s21 (fun s25 => vc_Best_forget 58 s25 (fun s26 => Q x19 s26))) ∧ (¬ (s21 (shp x1) 4) ≤ x20 → vc_Tex_tell (shp x1) x20 35 s21 (fun b27 s28 => ((¬ (bi b27) = 0 → (∀ x30 : Int32, x30 = x19 + 1 → (vp_in x20 100 ∧ vc_Tex_digitsBehind (s28 (shp x1 + 1) (Int32.toNatClampNeg x20)) (fun x32 => (∀ x34 : Int32, x34 = x20 + (2 + x32) → ∃ m35, m35 < nI22 ∧ I22 m35 x30 x34 s28))))) ∧ ((bi b27) = 0 → Q ((-2000) - x20) s28)))))))) ∧ (¬ x15 < 0 → Q ((-1000) - x15) s)))) ∧ (¬ (s (shp x1) 3) = 0 → Q (-12) s)))) ∧ (¬ x10 = 0 → Q x10 s)))
def rm_Brt_cave : Room := { frames := 6, cells := 0, slots := 0, locals := 135 }
set_option maxHeartbeats 4000000 in
set_option maxRecDepth 20000 in
theorem m_Brt_cave (g : Gx) (hg : gOk g) (x1 : Int32)  (s : St) (Q : Int32 → St → Prop) (hw : vc_Brt_cave x1 s Q) : Mc g y_Brt_cave b_Brt_cave 7 (some FieldType.int) rm_Brt_cave [.ref (ga g 0), .int x1] s (fun v s' => ∃ r : Int32, v = some (.int r) ∧ Q r s') := by
  refine mc_ofV (j := 5) (L := [some (.ref (ga g 0)), some (.int x1), none, none, none, none, none]) hg (by decide) (Nat.le_of_ble_eq_true rfl) rfl ?_
  intro X hX C
  subst hX
  unfold vc_Brt_cave at hw
  refine x_aload_n C d_Brt_cave_0 rfl ?_
  refine x_iload_n C d_Brt_cave_1 rfl ?_
  refine x_callV (As := [.int x1]) (rest := []) (p := 0) C (m_Brt_refusalOfRow (xg X) C.2.2.2.2.2.2.1 x1 s _ hw) cw_Brt_refusalOfRow ml_Brt_58 rfl (by decide) (by decide) rfl rfl rfl ⟨rfl, rfl, Nat.le_of_ble_eq_true rfl, Nat.le_of_ble_eq_true rfl⟩ ⟨Nat.zero_le _, Nat.zero_le _⟩ rfl (Nat.le_of_ble_eq_true rfl) d_Brt_cave_2 ?_
  rintro _ _ ⟨x10, rfl, rfl, hw⟩
  show V X _ _ _ _ 5 [some (.ref (xa X 0)), some (.int x1), none, none, none, none, none] [.int x10]
  refine x_istore_n (L' := [some (.ref (xa X 0)), some (.int x1), some (.int x10), none, none, none, none]) C d_Brt_cave_5 (Nat.le_of_ble_eq_true rfl) rfl ?_
  refine x_iload_n C d_Brt_cave_6 rfl ?_
  refine x_if_eq (tgt := 12) C d_Brt_cave_7 (by decide) (fun c12 => ?_) (fun c12 => ?_)
  · have hw := hw.1 c12
    refine x_aload_n C d_Brt_cave_12 rfl ?_
    refine g_Brt_7 (p := 0) C rfl fl_Brt_49 d_Brt_cave_13 ?_
    refine x_iload_n C d_Brt_cave_16 rfl ?_
    obtain ⟨h13, hw⟩ := hw
    refine x_aald C h13 d_Brt_cave_17 ?_
    refine x_astore_n (L' := [some (.ref (xa X 0)), some (.int x1), some (.int x10), some (.ref (xa X (shp x1))), none, none, none]) C d_Brt_cave_18 (Nat.le_of_ble_eq_true rfl) rfl ?_
    refine x_aload_n C d_Brt_cave_19 rfl ?_
    refine g_She_3 (p := (shp x1)) C (shp_kd h13) fl_Brt_62 d_Brt_cave_20 ?_
    refine x_if_eq (tgt := 29) C d_Brt_cave_23 (by decide) (fun c14 => ?_) (fun c14 => ?_)
    · have hw := hw.1 c14
      refine x_aload_n C d_Brt_cave_29 rfl ?_
      refine x_callS (As := [.ref (xa X (shp x1))]) (rest := []) C (m_Tex_brokenAt (xg X) C.2.2.2.2.2.2.1 (shp x1) (shp_kd h13) s _ hw) cw_Tex_brokenAt ml_Brt_66 rfl ⟨rfl, rfl, Nat.le_of_ble_eq_true rfl, Nat.le_of_ble_eq_true rfl⟩ ⟨Nat.zero_le _, Nat.zero_le _⟩ rfl (Nat.le_of_ble_eq_true rfl) d_Brt_cave_30 ?_
      rintro _ _ ⟨x15, rfl, rfl, hw⟩
      show V X _ _ _ _ 33 [some (.ref (xa X 0)), some (.int x1), some (.int x10), some (.ref (xa X (shp x1))), none, none, none] [.int x15]
      refine x_istore (L' := [some (.ref (xa X 0)), some (.int x1), some (.int x10), some (.ref (xa X (shp x1))), some (.int x15), none, none]) C d_Brt_cave_33 (Nat.le_of_ble_eq_true rfl) rfl ?_
      refine x_iload C d_Brt_cave_35 rfl ?_
      refine x_if_lt (tgt := 47) C d_Brt_cave_37 (by decide) (fun c17 => ?_) (fun c17 => ?_)
      · have hw := hw.1 c17
        refine x_aload_n C d_Brt_cave_47 rfl ?_
        refine g_Brt_2 (p := 0) C rfl fl_Brt_19 d_Brt_cave_48 ?_
        refine x_aload_n C d_Brt_cave_51 rfl ?_
        refine g_Brt_0 (p := 0) C rfl fl_Brt_10 d_Brt_cave_52 ?_
        refine x_callV (As := [.ref (xa X 1)]) (rest := []) (p := 35) C (m_Cav_become (xg X) C.2.2.2.2.2.2.1 35 1 rfl rfl s _ hw) cw_Cav_become ml_Brt_72 rfl (by decide) (by decide) rfl rfl rfl ⟨rfl, rfl, Nat.le_of_ble_eq_true rfl, Nat.le_of_ble_eq_true rfl⟩ ⟨Nat.zero_le _, Nat.zero_le _⟩ rfl (Nat.le_of_ble_eq_true rfl) d_Brt_cave_55 ?_
        rintro _ s18 ⟨rfl, hw⟩
        show V X _ _ _ _ 58 [some (.ref (xa X 0)), some (.int x1), some (.int x10), some (.ref (xa X (shp x1))), some (.int x15), none, none] []
        refine x_iconst (v := 0) C d_Brt_cave_58 rfl ?_
        refine x_istore (L' := [some (.ref (xa X 0)), some (.int x1), some (.int x10), some (.ref (xa X (shp x1))), some (.int x15), some (.int 0), none]) C d_Brt_cave_59 (Nat.le_of_ble_eq_true rfl) rfl ?_
        refine x_iconst (v := 0) C d_Brt_cave_61 rfl ?_
        refine x_istore (L' := [some (.ref (xa X 0)), some (.int x1), some (.int x10), some (.ref (xa X (shp x1))), some (.int x15), some (.int 0), some (.int 0)]) C d_Brt_cave_62 (Nat.le_of_ble_eq_true rfl) rfl ?_
        obtain ⟨I22, ⟨n23, hn23⟩, hI22⟩ := hw
        have lI22 : ∀ (nI22 : Nat) (x19 : Int32) (x20 : Int32) (s21 : St), I22 nI22 x19 x20 s21 → V X (xQ X (fun v s' => ∃ r : Int32, v = some (.int r) ∧ Q r s')) 0 0 s21 64 [some (.ref (xa X 0)), some (.int x1), some (.int x10), some (.ref (xa X (shp x1))), some (.int x15), some (.int x19), some (.int x20)] [] := by
          intro nI22
          induction nI22 using Nat.strongRecOn with
          | ind nI22 ihI22 =>
            intro x19 x20 s21 hv
            have hw := hI22 nI22 x19 x20 s21 hv
            refine x_iload C d_Brt_cave_64 rfl ?_
            refine x_aload_n C d_Brt_cave_66 rfl ?_
            refine g_She_4 (p := (shp x1)) C (shp_kd h13) fl_Brt_76 d_Brt_cave_67 ?_
            refine x_icmp_ge (tgt := 116) C d_Brt_cave_70 (by decide) (fun c24 => ?_) (fun c24 => ?_)
            · have hw := hw.1 c24
              refine x_aload_n C d_Brt_cave_116 rfl ?_
              refine g_Brt_0 (p := 0) C rfl fl_Brt_10 d_Brt_cave_117 ?_
              refine x_aload_n C d_Brt_cave_120 rfl ?_
              refine g_Brt_2 (p := 0) C rfl fl_Brt_19 d_Brt_cave_121 ?_
              refine x_callV (As := [.ref (xa X 35)]) (rest := []) (p := 1) C (m_Cav_become (xg X) C.2.2.2.2.2.2.1 1 35 rfl rfl s21 _ hw) cw_Cav_become ml_Brt_72 rfl (by decide) (by decide) rfl rfl rfl ⟨rfl, rfl, Nat.le_of_ble_eq_true rfl, Nat.le_of_ble_eq_true rfl⟩ ⟨Nat.zero_le _, Nat.zero_le _⟩ rfl (Nat.le_of_ble_eq_true rfl) d_Brt_cave_124 ?_
              rintro _ s25 ⟨rfl, hw⟩
              show V X _ _ _ _ 127 [some (.ref (xa X 0)), some (.int x1), some (.int x10), some (.ref (xa X (shp x1))), some (.int x15), some (.int x19), some (.int x20)] []
              refine x_aload_n C d_Brt_cave_127 rfl ?_
              refine g_Brt_4 (p := 0) C rfl fl_Brt_32 d_Brt_cave_128 ?_
              refine x_callV (As := []) (rest := []) (p := 58) C (m_Best_forget (xg X) C.2.2.2.2.2.2.1 58 rfl s25 _ hw) cw_Best_forget ml_Brt_89 rfl (by decide) (by decide) rfl rfl rfl ⟨rfl, rfl, Nat.le_of_ble_eq_true rfl, Nat.le_of_ble_eq_true rfl⟩ ⟨Nat.zero_le _, Nat.zero_le _⟩ rfl (Nat.le_of_ble_eq_true rfl) d_Brt_cave_131 ?_
              rintro _ s26 ⟨rfl, hw⟩
              show V X _ _ _ _ 134 [some (.ref (xa X 0)), some (.int x1), some (.int x10), some (.ref (xa X (shp x1))), some (.int x15), some (.int x19), some (.int x20)] []
              refine x_iload C d_Brt_cave_134 rfl ?_
              exact x_ireturn C d_Brt_cave_136 ⟨_, rfl, hw⟩
            · have hw := hw.2 c24
              refine x_aload_n C d_Brt_cave_73 rfl ?_
              refine x_iload C d_Brt_cave_74 rfl ?_
              refine x_aload_n C d_Brt_cave_76 rfl ?_
              refine g_Brt_2 (p := 0) C rfl fl_Brt_19 d_Brt_cave_77 ?_
              refine x_callS (As := [.ref (xa X (shp x1)), .int x20, .ref (xa X 35)]) (rest := []) C (m_Tex_tell (xg X) C.2.2.2.2.2.2.1 (shp x1) x20 35 (shp_kd h13) rfl s21 _ hw) cw_Tex_tell ml_Brt_79 rfl ⟨rfl, rfl, Nat.le_of_ble_eq_true rfl, Nat.le_of_ble_eq_true rfl⟩ ⟨Nat.zero_le _, Nat.zero_le _⟩ rfl (Nat.le_of_ble_eq_true rfl) d_Brt_cave_80 ?_
              rintro _ s28 ⟨b27, rfl, hw⟩
              show V X _ _ _ _ 83 [some (.ref (xa X 0)), some (.int x1), some (.int x10), some (.ref (xa X (shp x1))), some (.int x15), some (.int x19), some (.int x20)] [.int (bi b27)]
              refine x_if_ne (tgt := 93) C d_Brt_cave_83 (by decide) (fun c29 => ?_) (fun c29 => ?_)
              · have hw := hw.1 c29
                obtain ⟨x30, hx30⟩ : ∃ z : Int32, z = x19 + 1 := ⟨_, rfl⟩
                refine x_iinc (v := x30) (L' := [some (.ref (xa X 0)), some (.int x1), some (.int x10), some (.ref (xa X (shp x1))), some (.int x15), some (.int x30), some (.int x20)]) C d_Brt_cave_93 (Nat.le_of_ble_eq_true rfl) rfl (by rw [hx30]; rfl) rfl ?_
                have hw := hw x30 hx30
                refine x_iload C d_Brt_cave_96 rfl ?_
                refine x_iconst (v := 2) C d_Brt_cave_98 rfl ?_
                refine x_aload_n C d_Brt_cave_99 rfl ?_
                refine g_She_5 (p := (shp x1)) C (shp_kd h13) fl_Brt_83 d_Brt_cave_100 ?_
                refine x_iload C d_Brt_cave_103 rfl ?_
                obtain ⟨h31, hw⟩ := hw
                refine x_iald (p := (shp x1 + 1)) (n := 100) C (ks_9_1 (shp_kd h13)) h31 d_Brt_cave_105 ?_
                refine x_callS (As := [.int (s28 (shp x1 + 1) (Int32.toNatClampNeg x20))]) (rest := [.int 2, .int x20]) C (m_Tex_digitsBehind (xg X) C.2.2.2.2.2.2.1 (s28 (shp x1 + 1) (Int32.toNatClampNeg x20)) s28 _ hw) cw_Tex_digitsBehind ml_Brt_86 rfl ⟨rfl, rfl, Nat.le_of_ble_eq_true rfl, Nat.le_of_ble_eq_true rfl⟩ ⟨Nat.zero_le _, Nat.zero_le _⟩ rfl (Nat.le_of_ble_eq_true rfl) d_Brt_cave_106 ?_
                rintro _ _ ⟨x32, rfl, rfl, hw⟩
                show V X _ _ _ _ 109 [some (.ref (xa X 0)), some (.int x1), some (.int x10), some (.ref (xa X (shp x1))), some (.int x15), some (.int x30), some (.int x20)] [.int x32, .int 2, .int x20]
                refine x_iadd C d_Brt_cave_109 ?_
                refine x_iadd C d_Brt_cave_110 ?_
                refine x_nm (fun x34 hx34 => ?_)
                have hw := hw x34 hx34
                refine x_istore (L' := [some (.ref (xa X 0)), some (.int x1), some (.int x10), some (.ref (xa X (shp x1))), some (.int x15), some (.int x30), some (.int x34)]) C d_Brt_cave_111 (Nat.le_of_ble_eq_true rfl) rfl ?_
                refine x_goto (tgt := 64) C d_Brt_cave_113 (by decide) ?_
                obtain ⟨m35, hm35, hw⟩ := hw
                exact x_wk (ihI22 m35 hm35 x30 x34 s28 hw) (And.intro rfl (And.intro rfl (And.intro rfl (And.intro rfl (And.intro rfl (And.intro rfl (And.intro rfl (trivial))))))))
              · have hw := hw.2 c29
                refine x_sipush (v := (-2000)) C d_Brt_cave_86 rfl ?_
                refine x_iload C d_Brt_cave_89 rfl ?_
                refine x_isub C d_Brt_cave_91 ?_
                exact x_ireturn C d_Brt_cave_92 ⟨_, rfl, hw⟩
        exact x_wk (lI22 n23 0 0 s18 hn23) (And.intro rfl (And.intro rfl (And.intro rfl (And.intro rfl (And.intro rfl (And.intro rfl (And.intro rfl (trivial))))))))
      · have hw := hw.2 c17
        refine x_sipush (v := (-1000)) C d_Brt_cave_40 rfl ?_
        refine x_iload C d_Brt_cave_43 rfl ?_
        refine x_isub C d_Brt_cave_45 ?_
        exact x_ireturn C d_Brt_cave_46 ⟨_, rfl, hw⟩
    · have hw := hw.2 c14
      refine x_bipush (v := (-12)) C d_Brt_cave_26 rfl ?_
      exact x_ireturn C d_Brt_cave_28 ⟨_, rfl, hw⟩
  · have hw := hw.2 c12
    refine x_iload_n C d_Brt_cave_10 rfl ?_
    exact x_ireturn C d_Brt_cave_11 ⟨_, rfl, hw⟩
def vc_Brt_yard (x1 : Int32) (x2 : Int32) (s : St) (Q : Int32 → Prop) : Prop :=
    vc_Yar_has 2 x1 s (fun b10 => ((¬ (bi b10) = 0 → ((x2 = 0 → (vp_in x1 12 ∧ Q (s 3 (Int32.toNatClampNeg x1)))) ∧ (¬ x2 = 0 → ((x2 = 1 → (vp_in x1 12 ∧ Q (s 4 (Int32.toNatClampNeg x1)))) ∧ (¬ x2 = 1 → ((x2 = 2 → (vp_in x1 12 ∧ Q (s 5 (Int32.toNatClampNeg x1)))) ∧ (¬ x2 = 2 → ((x2 = 3 → vc_Cav_waterAt 1 (s 1 5) s (fun x20 => vc_Yar_roomAt 2 x1 x20 s (fun x22 => Q x22))) ∧ (¬ x2 = 3 → ((x2 = 4 → (vp_in x1 12 ∧ Q (s 7 (Int32.toNatClampNeg x1)))) ∧ (¬ x2 = 4 → ((x2 = 5 → (vp_in x1 12 ∧ Q (s 8 (Int32.toNatClampNeg x1)))) ∧ (¬ x2 = 5 → Q (-1)))))))))))))) ∧ ((bi b10) = 0 → Q (-1))))
def rm_Brt_yard : Room := { frames := 2, cells := 0, slots := 0, locals := 43 }
set_option maxHeartbeats 4000000 in
set_option maxRecDepth 20000 in
theorem m_Brt_yard (g : Gx) (hg : gOk g) (x1 : Int32) (x2 : Int32)  (s : St) (Q : Int32 → Prop) (hw : vc_Brt_yard x1 x2 s Q) : Mc g y_Brt_yard b_Brt_yard 4 (some FieldType.int) rm_Brt_yard [.ref (ga g 0), .int x1, .int x2] s (fun v s' => ∃ r : Int32, v = some (.int r) ∧ s = s' ∧ Q r) := by
  refine mc_ofV (j := 1) (L := [some (.ref (ga g 0)), some (.int x1), some (.int x2), none]) hg (by decide) (Nat.le_of_ble_eq_true rfl) rfl ?_
  intro X hX C
  subst hX
  unfold vc_Brt_yard at hw
  refine x_aload_n C d_Brt_yard_0 rfl ?_
  refine g_Brt_0 (p := 0) C rfl fl_Brt_10 d_Brt_yard_1 ?_
  refine g_Cav_0 (p := 1) C rfl fl_Brt_92 d_Brt_yard_4 ?_
  refine x_astore_n (L' := [some (.ref (xa X 0)), some (.int x1), some (.int x2), some (.ref (xa X 2))]) C d_Brt_yard_7 (Nat.le_of_ble_eq_true rfl) rfl ?_
  refine x_aload_n C d_Brt_yard_8 rfl ?_
  refine x_iload_n C d_Brt_yard_9 rfl ?_
  refine x_callV (As := [.int x1]) (rest := []) (p := 2) C (m_Yar_has (xg X) C.2.2.2.2.2.2.1 2 x1 rfl s _ hw) cw_Yar_has ml_Brt_96 rfl (by decide) (by decide) rfl rfl rfl ⟨rfl, rfl, Nat.le_of_ble_eq_true rfl, Nat.le_of_ble_eq_true rfl⟩ ⟨Nat.zero_le _, Nat.zero_le _⟩ rfl (Nat.le_of_ble_eq_true rfl) d_Brt_yard_10 ?_
  rintro _ _ ⟨b10, rfl, rfl, hw⟩
  show V X _ _ _ _ 13 [some (.ref (xa X 0)), some (.int x1), some (.int x2), some (.ref (xa X 2))] [.int (bi b10)]
  refine x_if_ne (tgt := 18) C d_Brt_yard_13 (by decide) (fun c12 => ?_) (fun c12 => ?_)
  · have hw := hw.1 c12
    refine x_iload_n C d_Brt_yard_18 rfl ?_
    by_cases c13 : x2 = 0
    · have hw := hw.1 c13
      refine x_tswIn (v := 0) (off := 37) (tgt := 56) C d_Brt_yard_19 c13 (by decide) (by decide) rfl (by decide) ?_
      refine x_aload_n C d_Brt_yard_56 rfl ?_
      refine g_Yar_1 (p := 2) C rfl fl_Brt_102 d_Brt_yard_57 ?_
      refine x_iload_n C d_Brt_yard_60 rfl ?_
      obtain ⟨h14, hw⟩ := hw
      refine x_iald (p := 3) (n := 12) C rfl h14 d_Brt_yard_61 ?_
      exact x_ireturn C d_Brt_yard_62 ⟨_, rfl, rfl, hw⟩
    have hw := hw.2 c13
    by_cases c15 : x2 = 1
    · have hw := hw.1 c15
      refine x_tswIn (v := 1) (off := 44) (tgt := 63) C d_Brt_yard_19 c15 (by decide) (by decide) rfl (by decide) ?_
      refine x_aload_n C d_Brt_yard_63 rfl ?_
      refine g_Yar_2 (p := 2) C rfl fl_Brt_105 d_Brt_yard_64 ?_
      refine x_iload_n C d_Brt_yard_67 rfl ?_
      obtain ⟨h16, hw⟩ := hw
      refine x_iald (p := 4) (n := 12) C rfl h16 d_Brt_yard_68 ?_
      exact x_ireturn C d_Brt_yard_69 ⟨_, rfl, rfl, hw⟩
    have hw := hw.2 c15
    by_cases c17 : x2 = 2
    · have hw := hw.1 c17
      refine x_tswIn (v := 2) (off := 51) (tgt := 70) C d_Brt_yard_19 c17 (by decide) (by decide) rfl (by decide) ?_
      refine x_aload_n C d_Brt_yard_70 rfl ?_
      refine g_Yar_3 (p := 2) C rfl fl_Brt_108 d_Brt_yard_71 ?_
      refine x_iload_n C d_Brt_yard_74 rfl ?_
      obtain ⟨h18, hw⟩ := hw
      refine x_iald (p := 5) (n := 12) C rfl h18 d_Brt_yard_75 ?_
      exact x_ireturn C d_Brt_yard_76 ⟨_, rfl, rfl, hw⟩
    have hw := hw.2 c17
    by_cases c19 : x2 = 3
    · have hw := hw.1 c19
      refine x_tswIn (v := 3) (off := 58) (tgt := 77) C d_Brt_yard_19 c19 (by decide) (by decide) rfl (by decide) ?_
      refine x_aload_n C d_Brt_yard_77 rfl ?_
      refine x_iload_n C d_Brt_yard_78 rfl ?_
      refine x_aload_n C d_Brt_yard_79 rfl ?_
      refine g_Brt_0 (p := 0) C rfl fl_Brt_10 d_Brt_yard_80 ?_
      refine x_aload_n C d_Brt_yard_83 rfl ?_
      refine g_Brt_0 (p := 0) C rfl fl_Brt_10 d_Brt_yard_84 ?_
      refine g_Cav_5 (p := 1) C rfl fl_Brt_111 d_Brt_yard_87 ?_
      refine x_callV (As := [.int (s 1 5)]) (rest := [.int x1, .ref (xa X 2)]) (p := 1) C (m_Cav_waterAt (xg X) C.2.2.2.2.2.2.1 1 (s 1 5) rfl s _ hw) cw_Cav_waterAt ml_Brt_114 rfl (by decide) (by decide) rfl rfl rfl ⟨rfl, rfl, Nat.le_of_ble_eq_true rfl, Nat.le_of_ble_eq_true rfl⟩ ⟨Nat.zero_le _, Nat.zero_le _⟩ rfl (Nat.le_of_ble_eq_true rfl) d_Brt_yard_90 ?_
      rintro _ _ ⟨x20, rfl, rfl, hw⟩
      show V X _ _ _ _ 93 [some (.ref (xa X 0)), some (.int x1), some (.int x2), some (.ref (xa X 2))] [.int x20, .int x1, .ref (xa X 2)]
      refine x_callV (As := [.int x1, .int x20]) (rest := []) (p := 2) C (m_Yar_roomAt (xg X) C.2.2.2.2.2.2.1 2 x1 x20 rfl s _ hw) cw_Yar_roomAt ml_Brt_117 rfl (by decide) (by decide) rfl rfl rfl ⟨rfl, rfl, Nat.le_of_ble_eq_true rfl, Nat.le_of_ble_eq_true rfl⟩ ⟨Nat.zero_le _, Nat.zero_le _⟩ rfl (Nat.le_of_ble_eq_true rfl) d_Brt_yard_93 ?_
      rintro _ _ ⟨x22, rfl, rfl, hw⟩
      show V X _ _ _ _ 96 [some (.ref (xa X 0)), some (.int x1), some (.int x2), some (.ref (xa X 2))] [.int x22]
      exact x_ireturn C d_Brt_yard_96 ⟨_, rfl, rfl, hw⟩
    have hw := hw.2 c19
    by_cases c24 : x2 = 4
    · have hw := hw.1 c24
      refine x_tswIn (v := 4) (off := 78) (tgt := 97) C d_Brt_yard_19 c24 (by decide) (by decide) rfl (by decide) ?_
      refine x_aload_n C d_Brt_yard_97 rfl ?_
      refine g_Yar_5 (p := 2) C rfl fl_Brt_121 d_Brt_yard_98 ?_
      refine x_iload_n C d_Brt_yard_101 rfl ?_
      obtain ⟨h25, hw⟩ := hw
      refine x_iald (p := 7) (n := 12) C rfl h25 d_Brt_yard_102 ?_
      exact x_ireturn C d_Brt_yard_103 ⟨_, rfl, rfl, hw⟩
    have hw := hw.2 c24
    by_cases c26 : x2 = 5
    · have hw := hw.1 c26
      refine x_tswIn (v := 5) (off := 85) (tgt := 104) C d_Brt_yard_19 c26 (by decide) (by decide) rfl (by decide) ?_
      refine x_aload_n C d_Brt_yard_104 rfl ?_
      refine g_Yar_6 (p := 2) C rfl fl_Brt_124 d_Brt_yard_105 ?_
      refine x_iload_n C d_Brt_yard_108 rfl ?_
      obtain ⟨h27, hw⟩ := hw
      refine x_iald (p := 8) (n := 12) C rfl h27 d_Brt_yard_109 ?_
      exact x_ireturn C d_Brt_yard_110 ⟨_, rfl, rfl, hw⟩
    have hw := hw.2 c26
    refine x_tswD (tgt := 111) C d_Brt_yard_19 (fun j hj => by match j, hj with | 0, _ => exact Or.inr c13 | 1, _ => exact Or.inr c15 | 2, _ => exact Or.inr c17 | 3, _ => exact Or.inr c19 | 4, _ => exact Or.inr c24 | 5, _ => exact Or.inr c26 | j + 6, hj => exact absurd hj (by omega)) (by decide) ?_
    refine x_iconst (v := (-1)) C d_Brt_yard_111 rfl ?_
    exact x_ireturn C d_Brt_yard_112 ⟨_, rfl, rfl, hw⟩
  · have hw := hw.2 c12
    refine x_iconst (v := (-1)) C d_Brt_yard_16 rfl ?_
    exact x_ireturn C d_Brt_yard_17 ⟨_, rfl, rfl, hw⟩
def vc_Brt_body (x1 : Int32) (x2 : Int32) (s : St) (Q : Int32 → Prop) : Prop :=
    vc_Bod_has 11 x1 s (fun b10 => ((¬ (bi b10) = 0 → ((x2 = 0 → (vp_in x1 6 ∧ Q (s 12 (Int32.toNatClampNeg x1)))) ∧ (¬ x2 = 0 → ((x2 = 1 → (vp_in x1 6 ∧ Q (s 13 (Int32.toNatClampNeg x1)))) ∧ (¬ x2 = 1 → ((x2 = 2 → (vp_in x1 6 ∧ Q (s 14 (Int32.toNatClampNeg x1)))) ∧ (¬ x2 = 2 → ((x2 = 3 → (vp_in x1 6 ∧ Q (s 15 (Int32.toNatClampNeg x1)))) ∧ (¬ x2 = 3 → ((x2 = 4 → (vp_in x1 6 ∧ Q (s 16 (Int32.toNatClampNeg x1)))) ∧ (¬ x2 = 4 → ((x2 = 5 → vc_Bod_placeOf 11 x1 s (fun x24 => Q x24)) ∧ (¬ x2 = 5 → Q (-1)))))))))))))) ∧ ((bi b10) = 0 → Q (-1))))
def rm_Brt_body : Room := { frames := 2, cells := 0, slots := 0, locals := 43 }
set_option maxHeartbeats 4000000 in
set_option maxRecDepth 20000 in
theorem m_Brt_body (g : Gx) (hg : gOk g) (x1 : Int32) (x2 : Int32)  (s : St) (Q : Int32 → Prop) (hw : vc_Brt_body x1 x2 s Q) : Mc g y_Brt_body b_Brt_body 4 (some FieldType.int) rm_Brt_body [.ref (ga g 0), .int x1, .int x2] s (fun v s' => ∃ r : Int32, v = some (.int r) ∧ s = s' ∧ Q r) := by
  refine mc_ofV (j := 1) (L := [some (.ref (ga g 0)), some (.int x1), some (.int x2), none]) hg (by decide) (Nat.le_of_ble_eq_true rfl) rfl ?_
  intro X hX C
  subst hX
  unfold vc_Brt_body at hw
  refine x_aload_n C d_Brt_body_0 rfl ?_
  refine g_Brt_0 (p := 0) C rfl fl_Brt_10 d_Brt_body_1 ?_
  refine g_Cav_1 (p := 1) C rfl fl_Brt_127 d_Brt_body_4 ?_
  refine x_astore_n (L' := [some (.ref (xa X 0)), some (.int x1), some (.int x2), some (.ref (xa X 11))]) C d_Brt_body_7 (Nat.le_of_ble_eq_true rfl) rfl ?_
  refine x_aload_n C d_Brt_body_8 rfl ?_
  refine x_iload_n C d_Brt_body_9 rfl ?_
  refine x_callV (As := [.int x1]) (rest := []) (p := 11) C (m_Bod_has (xg X) C.2.2.2.2.2.2.1 11 x1 rfl s _ hw) cw_Bod_has ml_Brt_131 rfl (by decide) (by decide) rfl rfl rfl ⟨rfl, rfl, Nat.le_of_ble_eq_true rfl, Nat.le_of_ble_eq_true rfl⟩ ⟨Nat.zero_le _, Nat.zero_le _⟩ rfl (Nat.le_of_ble_eq_true rfl) d_Brt_body_10 ?_
  rintro _ _ ⟨b10, rfl, rfl, hw⟩
  show V X _ _ _ _ 13 [some (.ref (xa X 0)), some (.int x1), some (.int x2), some (.ref (xa X 11))] [.int (bi b10)]
  refine x_if_ne (tgt := 18) C d_Brt_body_13 (by decide) (fun c12 => ?_) (fun c12 => ?_)
  · have hw := hw.1 c12
    refine x_iload_n C d_Brt_body_18 rfl ?_
    by_cases c13 : x2 = 0
    · have hw := hw.1 c13
      refine x_tswIn (v := 0) (off := 37) (tgt := 56) C d_Brt_body_19 c13 (by decide) (by decide) rfl (by decide) ?_
      refine x_aload_n C d_Brt_body_56 rfl ?_
      refine g_Bod_1 (p := 11) C rfl fl_Brt_134 d_Brt_body_57 ?_
      refine x_iload_n C d_Brt_body_60 rfl ?_
      obtain ⟨h14, hw⟩ := hw
      refine x_iald (p := 12) (n := 6) C rfl h14 d_Brt_body_61 ?_
      exact x_ireturn C d_Brt_body_62 ⟨_, rfl, rfl, hw⟩
    have hw := hw.2 c13
    by_cases c15 : x2 = 1
    · have hw := hw.1 c15
      refine x_tswIn (v := 1) (off := 44) (tgt := 63) C d_Brt_body_19 c15 (by decide) (by decide) rfl (by decide) ?_
      refine x_aload_n C d_Brt_body_63 rfl ?_
      refine g_Bod_2 (p := 11) C rfl fl_Brt_137 d_Brt_body_64 ?_
      refine x_iload_n C d_Brt_body_67 rfl ?_
      obtain ⟨h16, hw⟩ := hw
      refine x_iald (p := 13) (n := 6) C rfl h16 d_Brt_body_68 ?_
      exact x_ireturn C d_Brt_body_69 ⟨_, rfl, rfl, hw⟩
    have hw := hw.2 c15
    by_cases c17 : x2 = 2
    · have hw := hw.1 c17
      refine x_tswIn (v := 2) (off := 51) (tgt := 70) C d_Brt_body_19 c17 (by decide) (by decide) rfl (by decide) ?_
      refine x_aload_n C d_Brt_body_70 rfl ?_
      refine g_Bod_3 (p := 11) C rfl fl_Brt_140 d_Brt_body_71 ?_
      refine x_iload_n C d_Brt_body_74 rfl ?_
      obtain ⟨h18, hw⟩ := hw
      refine x_iald (p := 14) (n := 6) C rfl h18 d_Brt_body_75 ?_
      exact x_ireturn C d_Brt_body_76 ⟨_, rfl, rfl, hw⟩
    have hw := hw.2 c17
    by_cases c19 : x2 = 3
    · have hw := hw.1 c19
      refine x_tswIn (v := 3) (off := 58) (tgt := 77) C d_Brt_body_19 c19 (by decide) (by decide) rfl (by decide) ?_
      refine x_aload_n C d_Brt_body_77 rfl ?_
      refine g_Bod_4 (p := 11) C rfl fl_Brt_143 d_Brt_body_78 ?_
      refine x_iload_n C d_Brt_body_81 rfl ?_
      obtain ⟨h20, hw⟩ := hw
      refine x_iald (p := 15) (n := 6) C rfl h20 d_Brt_body_82 ?_
      exact x_ireturn C d_Brt_body_83 ⟨_, rfl, rfl, hw⟩
    have hw := hw.2 c19
    by_cases c21 : x2 = 4
    · have hw := hw.1 c21
      refine x_tswIn (v := 4) (off := 65) (tgt := 84) C d_Brt_body_19 c21 (by decide) (by decide) rfl (by decide) ?_
      refine x_aload_n C d_Brt_body_84 rfl ?_
      refine g_Bod_5 (p := 11) C rfl fl_Brt_146 d_Brt_body_85 ?_
      refine x_iload_n C d_Brt_body_88 rfl ?_
      obtain ⟨h22, hw⟩ := hw
      refine x_iald (p := 16) (n := 6) C rfl h22 d_Brt_body_89 ?_
      exact x_ireturn C d_Brt_body_90 ⟨_, rfl, rfl, hw⟩
    have hw := hw.2 c21
    by_cases c23 : x2 = 5
    · have hw := hw.1 c23
      refine x_tswIn (v := 5) (off := 72) (tgt := 91) C d_Brt_body_19 c23 (by decide) (by decide) rfl (by decide) ?_
      refine x_aload_n C d_Brt_body_91 rfl ?_
      refine x_iload_n C d_Brt_body_92 rfl ?_
      refine x_callV (As := [.int x1]) (rest := []) (p := 11) C (m_Bod_placeOf (xg X) C.2.2.2.2.2.2.1 11 x1 rfl s _ hw) cw_Bod_placeOf ml_Brt_149 rfl (by decide) (by decide) rfl rfl rfl ⟨rfl, rfl, Nat.le_of_ble_eq_true rfl, Nat.le_of_ble_eq_true rfl⟩ ⟨Nat.zero_le _, Nat.zero_le _⟩ rfl (Nat.le_of_ble_eq_true rfl) d_Brt_body_93 ?_
      rintro _ _ ⟨x24, rfl, rfl, hw⟩
      show V X _ _ _ _ 96 [some (.ref (xa X 0)), some (.int x1), some (.int x2), some (.ref (xa X 11))] [.int x24]
      exact x_ireturn C d_Brt_body_96 ⟨_, rfl, rfl, hw⟩
    have hw := hw.2 c23
    refine x_tswD (tgt := 97) C d_Brt_body_19 (fun j hj => by match j, hj with | 0, _ => exact Or.inr c13 | 1, _ => exact Or.inr c15 | 2, _ => exact Or.inr c17 | 3, _ => exact Or.inr c19 | 4, _ => exact Or.inr c21 | 5, _ => exact Or.inr c23 | j + 6, hj => exact absurd hj (by omega)) (by decide) ?_
    refine x_iconst (v := (-1)) C d_Brt_body_97 rfl ?_
    exact x_ireturn C d_Brt_body_98 ⟨_, rfl, rfl, hw⟩
  · have hw := hw.2 c12
    refine x_iconst (v := (-1)) C d_Brt_body_16 rfl ?_
    exact x_ireturn C d_Brt_body_17 ⟨_, rfl, rfl, hw⟩
def vc_Brt_refusalOfKind (x1 : Int32) (s : St) (Q : Int32 → Prop) : Prop :=
    vc_Brt_refusalUnless x1 1 s (fun x10 => Q x10)
def rm_Brt_refusalOfKind : Room := { frames := 3, cells := 0, slots := 0, locals := 64 }
set_option maxHeartbeats 4000000 in
set_option maxRecDepth 20000 in
theorem m_Brt_refusalOfKind (g : Gx) (hg : gOk g) (x1 : Int32)  (s : St) (Q : Int32 → Prop) (hw : vc_Brt_refusalOfKind x1 s Q) : Mc g y_Brt_refusalOfKind b_Brt_refusalOfKind 2 (some FieldType.int) rm_Brt_refusalOfKind [.ref (ga g 0), .int x1] s (fun v s' => ∃ r : Int32, v = some (.int r) ∧ s = s' ∧ Q r) := by
  refine mc_ofV (j := 0) (L := [some (.ref (ga g 0)), some (.int x1)]) hg (by decide) (Nat.le_of_ble_eq_true rfl) rfl ?_
  intro X hX C
  subst hX
  unfold vc_Brt_refusalOfKind at hw
  refine x_aload_n C d_Brt_refusalOfKind_0 rfl ?_
  refine x_iload_n C d_Brt_refusalOfKind_1 rfl ?_
  refine x_iconst (v := 1) C d_Brt_refusalOfKind_2 rfl ?_
  refine x_callV (As := [.int x1, .int 1]) (rest := []) (p := 0) C (m_Brt_refusalUnless (xg X) C.2.2.2.2.2.2.1 x1 1 s _ hw) cw_Brt_refusalUnless ml_Brt_395 rfl (by decide) (by decide) rfl rfl rfl ⟨rfl, rfl, Nat.le_of_ble_eq_true rfl, Nat.le_of_ble_eq_true rfl⟩ ⟨Nat.zero_le _, Nat.zero_le _⟩ rfl (Nat.le_of_ble_eq_true rfl) d_Brt_refusalOfKind_3 ?_
  rintro _ _ ⟨x10, rfl, rfl, hw⟩
  show V X _ _ _ _ 6 [some (.ref (xa X 0)), some (.int x1)] [.int x10]
  exact x_ireturn C d_Brt_refusalOfKind_6 ⟨_, rfl, rfl, hw⟩
def vc_Brt_lays (x1 : Int32) (x2 : Int32) (s : St) (Q : Int32 → St → Prop) : Prop :=
    vc_Yar_widthIsRight x2 (fun b10 => ((¬ (bi b10) = 0 → vc_Brt_refusalOfKind x1 s (fun x13 => ((x13 = 0 → (vp_in x1 8 ∧ (vp_in x1 8 ∧ vc_Yar_add 2 (s (shp x1) 1) (s (shp x1) 2) x2 s (fun b18 s19 => ((¬ (bi b18) = 0 → vc_Best_forget 58 s19 (fun s21 => Q ((s21 2 0) - 1) s21)) ∧ ((bi b18) = 0 → Q (-2) s19)))))) ∧ (¬ x13 = 0 → Q x13 s)))) ∧ ((bi b10) = 0 → Q (-1) s)))
def rm_Brt_lays : Room := { frames := 5, cells := 0, slots := 0, locals := 110 }
set_option maxHeartbeats 4000000 in
set_option maxRecDepth 20000 in
theorem m_Brt_lays (g : Gx) (hg : gOk g) (x1 : Int32) (x2 : Int32)  (s : St) (Q : Int32 → St → Prop) (hw : vc_Brt_lays x1 x2 s Q) : Mc g y_Brt_lays b_Brt_lays 4 (some FieldType.int) rm_Brt_lays [.ref (ga g 0), .int x1, .int x2] s (fun v s' => ∃ r : Int32, v = some (.int r) ∧ Q r s') := by
  refine mc_ofV (j := 1) (L := [some (.ref (ga g 0)), some (.int x1), some (.int x2), none]) hg (by decide) (Nat.le_of_ble_eq_true rfl) rfl ?_
  intro X hX C
  subst hX
  unfold vc_Brt_lays at hw
  refine x_iload_n C d_Brt_lays_0 rfl ?_
  refine x_callS (As := [.int x2]) (rest := []) C (m_Yar_widthIsRight (xg X) C.2.2.2.2.2.2.1 x2 s _ hw) cw_Yar_widthIsRight ml_Brt_152 rfl ⟨rfl, rfl, Nat.le_of_ble_eq_true rfl, Nat.le_of_ble_eq_true rfl⟩ ⟨Nat.zero_le _, Nat.zero_le _⟩ rfl (Nat.le_of_ble_eq_true rfl) d_Brt_lays_1 ?_
  rintro _ _ ⟨b10, rfl, rfl, hw⟩
  show V X _ _ _ _ 4 [some (.ref (xa X 0)), some (.int x1), some (.int x2), none] [.int (bi b10)]
  refine x_if_ne (tgt := 9) C d_Brt_lays_4 (by decide) (fun c12 => ?_) (fun c12 => ?_)
  · have hw := hw.1 c12
    refine x_aload_n C d_Brt_lays_9 rfl ?_
    refine x_iload_n C d_Brt_lays_10 rfl ?_
    refine x_callV (As := [.int x1]) (rest := []) (p := 0) C (m_Brt_refusalOfKind (xg X) C.2.2.2.2.2.2.1 x1 s _ hw) cw_Brt_refusalOfKind ml_Brt_155 rfl (by decide) (by decide) rfl rfl rfl ⟨rfl, rfl, Nat.le_of_ble_eq_true rfl, Nat.le_of_ble_eq_true rfl⟩ ⟨Nat.zero_le _, Nat.zero_le _⟩ rfl (Nat.le_of_ble_eq_true rfl) d_Brt_lays_11 ?_
    rintro _ _ ⟨x13, rfl, rfl, hw⟩
    show V X _ _ _ _ 14 [some (.ref (xa X 0)), some (.int x1), some (.int x2), none] [.int x13]
    refine x_istore_n (L' := [some (.ref (xa X 0)), some (.int x1), some (.int x2), some (.int x13)]) C d_Brt_lays_14 (Nat.le_of_ble_eq_true rfl) rfl ?_
    refine x_iload_n C d_Brt_lays_15 rfl ?_
    refine x_if_eq (tgt := 21) C d_Brt_lays_16 (by decide) (fun c15 => ?_) (fun c15 => ?_)
    · have hw := hw.1 c15
      refine x_aload_n C d_Brt_lays_21 rfl ?_
      refine g_Brt_0 (p := 0) C rfl fl_Brt_10 d_Brt_lays_22 ?_
      refine g_Cav_0 (p := 1) C rfl fl_Brt_92 d_Brt_lays_25 ?_
      refine x_aload_n C d_Brt_lays_28 rfl ?_
      refine g_Brt_7 (p := 0) C rfl fl_Brt_49 d_Brt_lays_29 ?_
      refine x_iload_n C d_Brt_lays_32 rfl ?_
      obtain ⟨h16, hw⟩ := hw
      refine x_aald C h16 d_Brt_lays_33 ?_
      refine g_She_1 (p := (shp x1)) C (shp_kd h16) fl_Brt_158 d_Brt_lays_34 ?_
      refine x_aload_n C d_Brt_lays_37 rfl ?_
      refine g_Brt_7 (p := 0) C rfl fl_Brt_49 d_Brt_lays_38 ?_
      refine x_iload_n C d_Brt_lays_41 rfl ?_
      obtain ⟨h17, hw⟩ := hw
      refine x_aald C h17 d_Brt_lays_42 ?_
      refine g_She_2 (p := (shp x1)) C (shp_kd h17) fl_Brt_160 d_Brt_lays_43 ?_
      refine x_iload_n C d_Brt_lays_46 rfl ?_
      refine x_callV (As := [.int (s (shp x1) 1), .int (s (shp x1) 2), .int x2]) (rest := []) (p := 2) C (m_Yar_add (xg X) C.2.2.2.2.2.2.1 2 (s (shp x1) 1) (s (shp x1) 2) x2 rfl s _ hw) cw_Yar_add ml_Brt_162 rfl (by decide) (by decide) rfl rfl rfl ⟨rfl, rfl, Nat.le_of_ble_eq_true rfl, Nat.le_of_ble_eq_true rfl⟩ ⟨Nat.zero_le _, Nat.zero_le _⟩ rfl (Nat.le_of_ble_eq_true rfl) d_Brt_lays_47 ?_
      rintro _ s19 ⟨b18, rfl, hw⟩
      show V X _ _ _ _ 50 [some (.ref (xa X 0)), some (.int x1), some (.int x2), some (.int x13)] [.int (bi b18)]
      refine x_if_ne (tgt := 56) C d_Brt_lays_50 (by decide) (fun c20 => ?_) (fun c20 => ?_)
      · have hw := hw.1 c20
        refine x_aload_n C d_Brt_lays_56 rfl ?_
        refine g_Brt_4 (p := 0) C rfl fl_Brt_32 d_Brt_lays_57 ?_
        refine x_callV (As := []) (rest := []) (p := 58) C (m_Best_forget (xg X) C.2.2.2.2.2.2.1 58 rfl s19 _ hw) cw_Best_forget ml_Brt_89 rfl (by decide) (by decide) rfl rfl rfl ⟨rfl, rfl, Nat.le_of_ble_eq_true rfl, Nat.le_of_ble_eq_true rfl⟩ ⟨Nat.zero_le _, Nat.zero_le _⟩ rfl (Nat.le_of_ble_eq_true rfl) d_Brt_lays_60 ?_
        rintro _ s21 ⟨rfl, hw⟩
        show V X _ _ _ _ 63 [some (.ref (xa X 0)), some (.int x1), some (.int x2), some (.int x13)] []
        refine x_aload_n C d_Brt_lays_63 rfl ?_
        refine g_Brt_0 (p := 0) C rfl fl_Brt_10 d_Brt_lays_64 ?_
        refine g_Cav_0 (p := 1) C rfl fl_Brt_92 d_Brt_lays_67 ?_
        refine g_Yar_0 (p := 2) C rfl fl_Brt_166 d_Brt_lays_70 ?_
        refine x_iconst (v := 1) C d_Brt_lays_73 rfl ?_
        refine x_isub C d_Brt_lays_74 ?_
        exact x_ireturn C d_Brt_lays_75 ⟨_, rfl, hw⟩
      · have hw := hw.2 c20
        refine x_bipush (v := (-2)) C d_Brt_lays_53 rfl ?_
        exact x_ireturn C d_Brt_lays_55 ⟨_, rfl, hw⟩
    · have hw := hw.2 c15
      refine x_iload_n C d_Brt_lays_19 rfl ?_
      exact x_ireturn C d_Brt_lays_20 ⟨_, rfl, hw⟩
  · have hw := hw.2 c12
    refine x_iconst (v := (-1)) C d_Brt_lays_7 rfl ?_
    exact x_ireturn C d_Brt_lays_8 ⟨_, rfl, hw⟩
def vc_Brt_shorter  (s : St) (Q : Int32 → St → Prop) : Prop :=
    ((¬ (s 2 0) = 0 → (∀ s11 : St, s11 = wr s 2 0 ((s 2 0) - 1) → vc_Best_forget 58 s11 (fun s12 => Q (s12 2 0) s12))) ∧ ((s 2 0) = 0 → Q (-3) s))
def rm_Brt_shorter : Room := { frames := 1, cells := 0, slots := 0, locals := 20 }
set_option maxHeartbeats 4000000 in
set_option maxRecDepth 20000 in
theorem m_Brt_shorter (g : Gx) (hg : gOk g)   (s : St) (Q : Int32 → St → Prop) (hw : vc_Brt_shorter  s Q) : Mc g y_Brt_shorter b_Brt_shorter 1 (some FieldType.int) rm_Brt_shorter [.ref (ga g 0)] s (fun v s' => ∃ r : Int32, v = some (.int r) ∧ Q r s') := by
  refine mc_ofV (j := 0) (L := [some (.ref (ga g 0))]) hg (by decide) (Nat.le_of_ble_eq_true rfl) rfl ?_
  intro X hX C
  subst hX
  unfold vc_Brt_shorter at hw
  refine x_aload_n C d_Brt_shorter_0 rfl ?_
  refine g_Brt_0 (p := 0) C rfl fl_Brt_10 d_Brt_shorter_1 ?_
  refine g_Cav_0 (p := 1) C rfl fl_Brt_92 d_Brt_shorter_4 ?_
  refine g_Yar_0 (p := 2) C rfl fl_Brt_166 d_Brt_shorter_7 ?_
  refine x_if_ne (tgt := 16) C d_Brt_shorter_10 (by decide) (fun c10 => ?_) (fun c10 => ?_)
  · have hw := hw.1 c10
    refine x_aload_n C d_Brt_shorter_16 rfl ?_
    refine g_Brt_0 (p := 0) C rfl fl_Brt_10 d_Brt_shorter_17 ?_
    refine g_Cav_0 (p := 1) C rfl fl_Brt_92 d_Brt_shorter_20 ?_
    refine x_dup C d_Brt_shorter_23 rfl ?_
    refine g_Yar_0 (p := 2) C rfl fl_Brt_166 d_Brt_shorter_24 ?_
    refine x_iconst (v := 1) C d_Brt_shorter_27 rfl ?_
    refine x_isub C d_Brt_shorter_28 ?_
    refine p_Yar_0 (p := 2) C rfl fl_Brt_166 d_Brt_shorter_29 ?_
    refine x_st (fun s11 hs11 => ?_)
    have hw := hw s11 hs11
    refine x_aload_n C d_Brt_shorter_32 rfl ?_
    refine g_Brt_4 (p := 0) C rfl fl_Brt_32 d_Brt_shorter_33 ?_
    refine x_callV (As := []) (rest := []) (p := 58) C (m_Best_forget (xg X) C.2.2.2.2.2.2.1 58 rfl s11 _ hw) cw_Best_forget ml_Brt_89 rfl (by decide) (by decide) rfl rfl rfl ⟨rfl, rfl, Nat.le_of_ble_eq_true rfl, Nat.le_of_ble_eq_true rfl⟩ ⟨Nat.zero_le _, Nat.zero_le _⟩ rfl (Nat.le_of_ble_eq_true rfl) d_Brt_shorter_36 ?_
    rintro _ s12 ⟨rfl, hw⟩
    show V X _ _ _ _ 39 [some (.ref (xa X 0))] []
    refine x_aload_n C d_Brt_shorter_39 rfl ?_
    refine g_Brt_0 (p := 0) C rfl fl_Brt_10 d_Brt_shorter_40 ?_
    refine g_Cav_0 (p := 1) C rfl fl_Brt_92 d_Brt_shorter_43 ?_
    refine g_Yar_0 (p := 2) C rfl fl_Brt_166 d_Brt_shorter_46 ?_
    exact x_ireturn C d_Brt_shorter_49 ⟨_, rfl, hw⟩
  · have hw := hw.2 c10
    refine x_bipush (v := (-3)) C d_Brt_shorter_13 rfl ?_
    exact x_ireturn C d_Brt_shorter_15 ⟨_, rfl, hw⟩
