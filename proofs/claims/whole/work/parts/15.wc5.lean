theorem d_Brt_judge_0 : decode b_Brt_judge 0 = .ok (.aload_n 0, 1) := by decide +kernel
theorem d_Brt_judge_1 : decode b_Brt_judge 1 = .ok (.iload_n 1, 1) := by decide +kernel
theorem d_Brt_judge_2 : decode b_Brt_judge 2 = .ok (.invokevirtual 58, 3) := by decide +kernel
theorem d_Brt_judge_5 : decode b_Brt_judge 5 = .ok (.istore_n 2, 1) := by decide +kernel
theorem d_Brt_judge_6 : decode b_Brt_judge 6 = .ok (.iload_n 2, 1) := by decide +kernel
theorem d_Brt_judge_7 : decode b_Brt_judge 7 = .ok (.ifCond .eq 5, 3) := by decide +kernel
theorem d_Brt_judge_10 : decode b_Brt_judge 10 = .ok (.iload_n 2, 1) := by decide +kernel
theorem d_Brt_judge_11 : decode b_Brt_judge 11 = .ok (.ireturn, 1) := by decide +kernel
theorem d_Brt_judge_12 : decode b_Brt_judge 12 = .ok (.aload_n 0, 1) := by decide +kernel
theorem d_Brt_judge_13 : decode b_Brt_judge 13 = .ok (.getfield 49, 3) := by decide +kernel
theorem d_Brt_judge_16 : decode b_Brt_judge 16 = .ok (.iload_n 1, 1) := by decide +kernel
theorem d_Brt_judge_17 : decode b_Brt_judge 17 = .ok (.aaload, 1) := by decide +kernel
theorem d_Brt_judge_18 : decode b_Brt_judge 18 = .ok (.astore_n 3, 1) := by decide +kernel
theorem d_Brt_judge_19 : decode b_Brt_judge 19 = .ok (.aload_n 0, 1) := by decide +kernel
theorem d_Brt_judge_20 : decode b_Brt_judge 20 = .ok (.invokevirtual 230, 3) := by decide +kernel
theorem d_Brt_judge_23 : decode b_Brt_judge 23 = .ok (.astore 4, 2) := by decide +kernel
theorem d_Brt_judge_25 : decode b_Brt_judge 25 = .ok (.iconst 0, 1) := by decide +kernel
theorem d_Brt_judge_26 : decode b_Brt_judge 26 = .ok (.istore 5, 2) := by decide +kernel
theorem d_Brt_judge_28 : decode b_Brt_judge 28 = .ok (.iload 5, 2) := by decide +kernel
theorem d_Brt_judge_30 : decode b_Brt_judge 30 = .ok (.aload_n 3, 1) := by decide +kernel
theorem d_Brt_judge_31 : decode b_Brt_judge 31 = .ok (.getfield 76, 3) := by decide +kernel
theorem d_Brt_judge_34 : decode b_Brt_judge 34 = .ok (.if_icmp .ge 69, 3) := by decide +kernel
theorem d_Brt_judge_37 : decode b_Brt_judge 37 = .ok (.iload 5, 2) := by decide +kernel
theorem d_Brt_judge_39 : decode b_Brt_judge 39 = .ok (.aload 4, 2) := by decide +kernel
theorem d_Brt_judge_41 : decode b_Brt_judge 41 = .ok (.getfield 318, 3) := by decide +kernel
theorem d_Brt_judge_44 : decode b_Brt_judge 44 = .ok (.if_icmp .ge 33, 3) := by decide +kernel
theorem d_Brt_judge_47 : decode b_Brt_judge 47 = .ok (.aload_n 3, 1) := by decide +kernel
theorem d_Brt_judge_48 : decode b_Brt_judge 48 = .ok (.getfield 83, 3) := by decide +kernel
theorem d_Brt_judge_51 : decode b_Brt_judge 51 = .ok (.iload 5, 2) := by decide +kernel
theorem d_Brt_judge_53 : decode b_Brt_judge 53 = .ok (.iaload, 1) := by decide +kernel
theorem d_Brt_judge_54 : decode b_Brt_judge 54 = .ok (.aload 4, 2) := by decide +kernel
theorem d_Brt_judge_56 : decode b_Brt_judge 56 = .ok (.getfield 328, 3) := by decide +kernel
theorem d_Brt_judge_59 : decode b_Brt_judge 59 = .ok (.iload 5, 2) := by decide +kernel
theorem d_Brt_judge_61 : decode b_Brt_judge 61 = .ok (.iaload, 1) := by decide +kernel
theorem d_Brt_judge_62 : decode b_Brt_judge 62 = .ok (.aload_n 0, 1) := by decide +kernel
theorem d_Brt_judge_63 : decode b_Brt_judge 63 = .ok (.getfield 10, 3) := by decide +kernel
theorem d_Brt_judge_66 : decode b_Brt_judge 66 = .ok (.getfield 111, 3) := by decide +kernel
theorem d_Brt_judge_69 : decode b_Brt_judge 69 = .ok (.isub, 1) := by decide +kernel
theorem d_Brt_judge_70 : decode b_Brt_judge 70 = .ok (.if_icmp .ne 7, 3) := by decide +kernel
theorem d_Brt_judge_73 : decode b_Brt_judge 73 = .ok (.iconst 1, 1) := by decide +kernel
theorem d_Brt_judge_74 : decode b_Brt_judge 74 = .ok (.goto 4, 3) := by decide +kernel
theorem d_Brt_judge_77 : decode b_Brt_judge 77 = .ok (.iconst 0, 1) := by decide +kernel
theorem d_Brt_judge_78 : decode b_Brt_judge 78 = .ok (.istore 6, 2) := by decide +kernel
theorem d_Brt_judge_80 : decode b_Brt_judge 80 = .ok (.iload 6, 2) := by decide +kernel
theorem d_Brt_judge_82 : decode b_Brt_judge 82 = .ok (.ifCond .ne 15, 3) := by decide +kernel
theorem d_Brt_judge_85 : decode b_Brt_judge 85 = .ok (.aload_n 3, 1) := by decide +kernel
theorem d_Brt_judge_86 : decode b_Brt_judge 86 = .ok (.iload 5, 2) := by decide +kernel
theorem d_Brt_judge_88 : decode b_Brt_judge 88 = .ok (.invokevirtual 331, 3) := by decide +kernel
theorem d_Brt_judge_91 : decode b_Brt_judge 91 = .ok (.ifCond .ne 6, 3) := by decide +kernel
theorem d_Brt_judge_94 : decode b_Brt_judge 94 = .ok (.iload 5, 2) := by decide +kernel
theorem d_Brt_judge_96 : decode b_Brt_judge 96 = .ok (.ireturn, 1) := by decide +kernel
theorem d_Brt_judge_97 : decode b_Brt_judge 97 = .ok (.iinc 5 1, 3) := by decide +kernel
theorem d_Brt_judge_100 : decode b_Brt_judge 100 = .ok (.goto (-72), 3) := by decide +kernel
theorem d_Brt_judge_103 : decode b_Brt_judge 103 = .ok (.bipush (-4), 2) := by decide +kernel
theorem d_Brt_judge_105 : decode b_Brt_judge 105 = .ok (.ireturn, 1) := by decide +kernel
theorem d_Brt_parties_0 : decode b_Brt_parties 0 = .ok (.iload_n 1, 1) := by decide +kernel
theorem d_Brt_parties_1 : decode b_Brt_parties 1 = .ok (.iconst 1, 1) := by decide +kernel
theorem d_Brt_parties_2 : decode b_Brt_parties 2 = .ok (.bipush 20, 2) := by decide +kernel
theorem d_Brt_parties_4 : decode b_Brt_parties 4 = .ok (.invokestatic 185, 3) := by decide +kernel
theorem d_Brt_parties_7 : decode b_Brt_parties 7 = .ok (.ifCond .eq 12, 3) := by decide +kernel
theorem d_Brt_parties_10 : decode b_Brt_parties 10 = .ok (.iload_n 3, 1) := by decide +kernel
theorem d_Brt_parties_11 : decode b_Brt_parties 11 = .ok (.iconst 0, 1) := by decide +kernel
theorem d_Brt_parties_12 : decode b_Brt_parties 12 = .ok (.iconst 1, 1) := by decide +kernel
theorem d_Brt_parties_13 : decode b_Brt_parties 13 = .ok (.invokestatic 185, 3) := by decide +kernel
theorem d_Brt_parties_16 : decode b_Brt_parties 16 = .ok (.ifCond .ne 5, 3) := by decide +kernel
theorem d_Brt_parties_19 : decode b_Brt_parties 19 = .ok (.iconst (-1), 1) := by decide +kernel
theorem d_Brt_parties_20 : decode b_Brt_parties 20 = .ok (.ireturn, 1) := by decide +kernel
theorem d_Brt_parties_21 : decode b_Brt_parties 21 = .ok (.aload_n 0, 1) := by decide +kernel
theorem d_Brt_parties_22 : decode b_Brt_parties 22 = .ok (.getfield 19, 3) := by decide +kernel
theorem d_Brt_parties_25 : decode b_Brt_parties 25 = .ok (.aload_n 0, 1) := by decide +kernel
theorem d_Brt_parties_26 : decode b_Brt_parties 26 = .ok (.getfield 10, 3) := by decide +kernel
theorem d_Brt_parties_29 : decode b_Brt_parties 29 = .ok (.invokevirtual 72, 3) := by decide +kernel
theorem d_Brt_parties_32 : decode b_Brt_parties 32 = .ok (.iload_n 2, 1) := by decide +kernel
theorem d_Brt_parties_33 : decode b_Brt_parties 33 = .ok (.istore 4, 2) := by decide +kernel
theorem d_Brt_parties_35 : decode b_Brt_parties 35 = .ok (.iconst 0, 1) := by decide +kernel
theorem d_Brt_parties_36 : decode b_Brt_parties 36 = .ok (.istore 5, 2) := by decide +kernel
theorem d_Brt_parties_38 : decode b_Brt_parties 38 = .ok (.iconst 0, 1) := by decide +kernel
theorem d_Brt_parties_39 : decode b_Brt_parties 39 = .ok (.istore 6, 2) := by decide +kernel
theorem d_Brt_parties_41 : decode b_Brt_parties 41 = .ok (.iconst 0, 1) := by decide +kernel
theorem d_Brt_parties_42 : decode b_Brt_parties 42 = .ok (.istore 7, 2) := by decide +kernel
theorem d_Brt_parties_44 : decode b_Brt_parties 44 = .ok (.iload 7, 2) := by decide +kernel
theorem d_Brt_parties_46 : decode b_Brt_parties 46 = .ok (.iload_n 1, 1) := by decide +kernel
theorem d_Brt_parties_47 : decode b_Brt_parties 47 = .ok (.if_icmp .ge 109, 3) := by decide +kernel
theorem d_Brt_parties_50 : decode b_Brt_parties 50 = .ok (.iconst 0, 1) := by decide +kernel
theorem d_Brt_parties_51 : decode b_Brt_parties 51 = .ok (.istore 8, 2) := by decide +kernel
theorem d_Brt_parties_53 : decode b_Brt_parties 53 = .ok (.iload 8, 2) := by decide +kernel
theorem d_Brt_parties_55 : decode b_Brt_parties 55 = .ok (.aload_n 0, 1) := by decide +kernel
theorem d_Brt_parties_56 : decode b_Brt_parties 56 = .ok (.getfield 19, 3) := by decide +kernel
theorem d_Brt_parties_59 : decode b_Brt_parties 59 = .ok (.getfield 127, 3) := by decide +kernel
theorem d_Brt_parties_62 : decode b_Brt_parties 62 = .ok (.getfield 250, 3) := by decide +kernel
theorem d_Brt_parties_65 : decode b_Brt_parties 65 = .ok (.if_icmp .ge 46, 3) := by decide +kernel
theorem d_Brt_parties_68 : decode b_Brt_parties 68 = .ok (.iload 4, 2) := by decide +kernel
theorem d_Brt_parties_70 : decode b_Brt_parties 70 = .ok (.ldc_w 334, 3) := by decide +kernel
theorem d_Brt_parties_73 : decode b_Brt_parties 73 = .ok (.imul, 1) := by decide +kernel
theorem d_Brt_parties_74 : decode b_Brt_parties 74 = .ok (.sipush 12345, 3) := by decide +kernel
theorem d_Brt_parties_77 : decode b_Brt_parties 77 = .ok (.iadd, 1) := by decide +kernel
theorem d_Brt_parties_78 : decode b_Brt_parties 78 = .ok (.istore 4, 2) := by decide +kernel
theorem d_Brt_parties_80 : decode b_Brt_parties 80 = .ok (.aload_n 0, 1) := by decide +kernel
theorem d_Brt_parties_81 : decode b_Brt_parties 81 = .ok (.getfield 19, 3) := by decide +kernel
theorem d_Brt_parties_84 : decode b_Brt_parties 84 = .ok (.getfield 127, 3) := by decide +kernel
theorem d_Brt_parties_87 : decode b_Brt_parties 87 = .ok (.getfield 140, 3) := by decide +kernel
theorem d_Brt_parties_90 : decode b_Brt_parties 90 = .ok (.iload 8, 2) := by decide +kernel
theorem d_Brt_parties_92 : decode b_Brt_parties 92 = .ok (.iload 4, 2) := by decide +kernel
theorem d_Brt_parties_94 : decode b_Brt_parties 94 = .ok (.ldc 218, 2) := by decide +kernel
theorem d_Brt_parties_96 : decode b_Brt_parties 96 = .ok (.iand, 1) := by decide +kernel
theorem d_Brt_parties_97 : decode b_Brt_parties 97 = .ok (.ldc_w 335, 3) := by decide +kernel
theorem d_Brt_parties_100 : decode b_Brt_parties 100 = .ok (.idiv, 1) := by decide +kernel
theorem d_Brt_parties_101 : decode b_Brt_parties 101 = .ok (.bipush 10, 2) := by decide +kernel
theorem d_Brt_parties_103 : decode b_Brt_parties 103 = .ok (.irem, 1) := by decide +kernel
theorem d_Brt_parties_104 : decode b_Brt_parties 104 = .ok (.iastore, 1) := by decide +kernel
theorem d_Brt_parties_105 : decode b_Brt_parties 105 = .ok (.iinc 8 1, 3) := by decide +kernel
theorem d_Brt_parties_108 : decode b_Brt_parties 108 = .ok (.goto (-55), 3) := by decide +kernel
theorem d_Brt_parties_111 : decode b_Brt_parties 111 = .ok (.aload_n 0, 1) := by decide +kernel
theorem d_Brt_parties_112 : decode b_Brt_parties 112 = .ok (.aload_n 0, 1) := by decide +kernel
theorem d_Brt_parties_113 : decode b_Brt_parties 113 = .ok (.getfield 19, 3) := by decide +kernel
theorem d_Brt_parties_116 : decode b_Brt_parties 116 = .ok (.invokevirtual 237, 3) := by decide +kernel
theorem d_Brt_parties_119 : decode b_Brt_parties 119 = .ok (.pop, 1) := by decide +kernel
theorem d_Brt_parties_120 : decode b_Brt_parties 120 = .ok (.iload 5, 2) := by decide +kernel
theorem d_Brt_parties_122 : decode b_Brt_parties 122 = .ok (.aload_n 0, 1) := by decide +kernel
theorem d_Brt_parties_123 : decode b_Brt_parties 123 = .ok (.getfield 25, 3) := by decide +kernel
theorem d_Brt_parties_126 : decode b_Brt_parties 126 = .ok (.getfield 336, 3) := by decide +kernel
theorem d_Brt_parties_129 : decode b_Brt_parties 129 = .ok (.getfield 318, 3) := by decide +kernel
theorem d_Brt_parties_132 : decode b_Brt_parties 132 = .ok (.iadd, 1) := by decide +kernel
theorem d_Brt_parties_133 : decode b_Brt_parties 133 = .ok (.istore 5, 2) := by decide +kernel
theorem d_Brt_parties_135 : decode b_Brt_parties 135 = .ok (.iload 6, 2) := by decide +kernel
theorem d_Brt_parties_137 : decode b_Brt_parties 137 = .ok (.aload_n 0, 1) := by decide +kernel
theorem d_Brt_parties_138 : decode b_Brt_parties 138 = .ok (.getfield 25, 3) := by decide +kernel
theorem d_Brt_parties_141 : decode b_Brt_parties 141 = .ok (.getfield 241, 3) := by decide +kernel
theorem d_Brt_parties_144 : decode b_Brt_parties 144 = .ok (.getfield 318, 3) := by decide +kernel
theorem d_Brt_parties_147 : decode b_Brt_parties 147 = .ok (.iadd, 1) := by decide +kernel
theorem d_Brt_parties_148 : decode b_Brt_parties 148 = .ok (.istore 6, 2) := by decide +kernel
theorem d_Brt_parties_150 : decode b_Brt_parties 150 = .ok (.iinc 7 1, 3) := by decide +kernel
theorem d_Brt_parties_153 : decode b_Brt_parties 153 = .ok (.goto (-109), 3) := by decide +kernel
theorem d_Brt_parties_156 : decode b_Brt_parties 156 = .ok (.iload_n 3, 1) := by decide +kernel
theorem d_Brt_parties_157 : decode b_Brt_parties 157 = .ok (.ifCond .ne 8, 3) := by decide +kernel
theorem d_Brt_parties_160 : decode b_Brt_parties 160 = .ok (.iload 5, 2) := by decide +kernel
theorem d_Brt_parties_162 : decode b_Brt_parties 162 = .ok (.goto 5, 3) := by decide +kernel
theorem d_Brt_parties_165 : decode b_Brt_parties 165 = .ok (.iload 6, 2) := by decide +kernel
theorem d_Brt_parties_167 : decode b_Brt_parties 167 = .ok (.ireturn, 1) := by decide +kernel
theorem d_Brt_image_0 : decode b_Brt_image 0 = .ok (.aload_n 0, 1) := by decide +kernel
theorem d_Brt_image_1 : decode b_Brt_image 1 = .ok (.getfield 16, 3) := by decide +kernel
theorem d_Brt_image_4 : decode b_Brt_image 4 = .ok (.aload_n 0, 1) := by decide +kernel
theorem d_Brt_image_5 : decode b_Brt_image 5 = .ok (.getfield 10, 3) := by decide +kernel
theorem d_Brt_image_8 : decode b_Brt_image 8 = .ok (.invokevirtual 72, 3) := by decide +kernel
theorem d_Brt_image_11 : decode b_Brt_image 11 = .ok (.aload_n 0, 1) := by decide +kernel
theorem d_Brt_image_12 : decode b_Brt_image 12 = .ok (.iconst 1, 1) := by decide +kernel
theorem d_Brt_image_13 : decode b_Brt_image 13 = .ok (.putfield 53, 3) := by decide +kernel
theorem d_Brt_image_16 : decode b_Brt_image 16 = .ok (.aload_n 0, 1) := by decide +kernel
theorem d_Brt_image_17 : decode b_Brt_image 17 = .ok (.getfield 10, 3) := by decide +kernel
theorem d_Brt_image_20 : decode b_Brt_image 20 = .ok (.getfield 111, 3) := by decide +kernel
theorem d_Brt_image_23 : decode b_Brt_image 23 = .ok (.ireturn, 1) := by decide +kernel
theorem d_Brt_restore_0 : decode b_Brt_restore 0 = .ok (.aload_n 0, 1) := by decide +kernel
theorem d_Brt_restore_1 : decode b_Brt_restore 1 = .ok (.getfield 53, 3) := by decide +kernel
theorem d_Brt_restore_4 : decode b_Brt_restore 4 = .ok (.ifCond .ne 6, 3) := by decide +kernel
theorem d_Brt_restore_7 : decode b_Brt_restore 7 = .ok (.bipush (-3), 2) := by decide +kernel
theorem d_Brt_restore_9 : decode b_Brt_restore 9 = .ok (.ireturn, 1) := by decide +kernel
theorem d_Brt_restore_10 : decode b_Brt_restore 10 = .ok (.aload_n 0, 1) := by decide +kernel
theorem d_Brt_restore_11 : decode b_Brt_restore 11 = .ok (.getfield 10, 3) := by decide +kernel
theorem d_Brt_restore_14 : decode b_Brt_restore 14 = .ok (.aload_n 0, 1) := by decide +kernel
theorem d_Brt_restore_15 : decode b_Brt_restore 15 = .ok (.getfield 16, 3) := by decide +kernel
theorem d_Brt_restore_18 : decode b_Brt_restore 18 = .ok (.invokevirtual 72, 3) := by decide +kernel
theorem d_Brt_restore_21 : decode b_Brt_restore 21 = .ok (.aload_n 0, 1) := by decide +kernel
theorem d_Brt_restore_22 : decode b_Brt_restore 22 = .ok (.getfield 32, 3) := by decide +kernel
theorem d_Brt_restore_25 : decode b_Brt_restore 25 = .ok (.invokevirtual 89, 3) := by decide +kernel
theorem d_Brt_restore_28 : decode b_Brt_restore 28 = .ok (.aload_n 0, 1) := by decide +kernel
theorem d_Brt_restore_29 : decode b_Brt_restore 29 = .ok (.getfield 10, 3) := by decide +kernel
theorem d_Brt_restore_32 : decode b_Brt_restore 32 = .ok (.getfield 111, 3) := by decide +kernel
theorem d_Brt_restore_35 : decode b_Brt_restore 35 = .ok (.ireturn, 1) := by decide +kernel
theorem d_Brt_sumOf_0 : decode b_Brt_sumOf 0 = .ok (.iconst 0, 1) := by decide +kernel
theorem d_Brt_sumOf_1 : decode b_Brt_sumOf 1 = .ok (.istore_n 2, 1) := by decide +kernel
theorem d_Brt_sumOf_2 : decode b_Brt_sumOf 2 = .ok (.iconst 0, 1) := by decide +kernel
theorem d_Brt_sumOf_3 : decode b_Brt_sumOf 3 = .ok (.istore_n 3, 1) := by decide +kernel
theorem d_Brt_sumOf_4 : decode b_Brt_sumOf 4 = .ok (.iload_n 3, 1) := by decide +kernel
theorem d_Brt_sumOf_5 : decode b_Brt_sumOf 5 = .ok (.iload_n 1, 1) := by decide +kernel
theorem d_Brt_sumOf_6 : decode b_Brt_sumOf 6 = .ok (.if_icmp .ge 21, 3) := by decide +kernel
theorem d_Brt_sumOf_9 : decode b_Brt_sumOf 9 = .ok (.iload_n 3, 1) := by decide +kernel
theorem d_Brt_sumOf_10 : decode b_Brt_sumOf 10 = .ok (.aload_n 0, 1) := by decide +kernel
theorem d_Brt_sumOf_11 : decode b_Brt_sumOf 11 = .ok (.arraylength, 1) := by decide +kernel
theorem d_Brt_sumOf_12 : decode b_Brt_sumOf 12 = .ok (.if_icmp .ge 15, 3) := by decide +kernel
theorem d_Brt_sumOf_15 : decode b_Brt_sumOf 15 = .ok (.iload_n 2, 1) := by decide +kernel
theorem d_Brt_sumOf_16 : decode b_Brt_sumOf 16 = .ok (.aload_n 0, 1) := by decide +kernel
theorem d_Brt_sumOf_17 : decode b_Brt_sumOf 17 = .ok (.iload_n 3, 1) := by decide +kernel
theorem d_Brt_sumOf_18 : decode b_Brt_sumOf 18 = .ok (.iaload, 1) := by decide +kernel
theorem d_Brt_sumOf_19 : decode b_Brt_sumOf 19 = .ok (.iadd, 1) := by decide +kernel
theorem d_Brt_sumOf_20 : decode b_Brt_sumOf 20 = .ok (.istore_n 2, 1) := by decide +kernel
theorem d_Brt_sumOf_21 : decode b_Brt_sumOf 21 = .ok (.iinc 3 1, 3) := by decide +kernel
theorem d_Brt_sumOf_24 : decode b_Brt_sumOf 24 = .ok (.goto (-20), 3) := by decide +kernel
theorem d_Brt_sumOf_27 : decode b_Brt_sumOf 27 = .ok (.iload_n 2, 1) := by decide +kernel
theorem d_Brt_sumOf_28 : decode b_Brt_sumOf 28 = .ok (.ireturn, 1) := by decide +kernel
theorem d_Brt_count_0 : decode b_Brt_count 0 = .ok (.iload_n 1, 1) := by decide +kernel
theorem d_Brt_count_1 : decode b_Brt_count 1 = .ok (.tableswitch 149 0 7 #[47, 58, 69, 77, 85, 93, 101, 125], 47) := by decide +kernel
theorem d_Brt_count_48 : decode b_Brt_count 48 = .ok (.aload_n 0, 1) := by decide +kernel
theorem d_Brt_count_49 : decode b_Brt_count 49 = .ok (.getfield 10, 3) := by decide +kernel
theorem d_Brt_count_52 : decode b_Brt_count 52 = .ok (.getfield 92, 3) := by decide +kernel
theorem d_Brt_count_55 : decode b_Brt_count 55 = .ok (.getfield 166, 3) := by decide +kernel
theorem d_Brt_count_58 : decode b_Brt_count 58 = .ok (.ireturn, 1) := by decide +kernel
theorem d_Brt_count_59 : decode b_Brt_count 59 = .ok (.aload_n 0, 1) := by decide +kernel
theorem d_Brt_count_60 : decode b_Brt_count 60 = .ok (.getfield 10, 3) := by decide +kernel
theorem d_Brt_count_63 : decode b_Brt_count 63 = .ok (.getfield 127, 3) := by decide +kernel
theorem d_Brt_count_66 : decode b_Brt_count 66 = .ok (.getfield 250, 3) := by decide +kernel
theorem d_Brt_count_69 : decode b_Brt_count 69 = .ok (.ireturn, 1) := by decide +kernel
theorem d_Brt_count_70 : decode b_Brt_count 70 = .ok (.aload_n 0, 1) := by decide +kernel
theorem d_Brt_count_71 : decode b_Brt_count 71 = .ok (.getfield 10, 3) := by decide +kernel
theorem d_Brt_count_74 : decode b_Brt_count 74 = .ok (.getfield 111, 3) := by decide +kernel
theorem d_Brt_count_77 : decode b_Brt_count 77 = .ok (.ireturn, 1) := by decide +kernel
theorem d_Brt_count_78 : decode b_Brt_count 78 = .ok (.aload_n 0, 1) := by decide +kernel
theorem d_Brt_count_79 : decode b_Brt_count 79 = .ok (.getfield 10, 3) := by decide +kernel
theorem d_Brt_count_82 : decode b_Brt_count 82 = .ok (.getfield 294, 3) := by decide +kernel
theorem d_Brt_count_85 : decode b_Brt_count 85 = .ok (.ireturn, 1) := by decide +kernel
theorem d_Brt_count_86 : decode b_Brt_count 86 = .ok (.aload_n 0, 1) := by decide +kernel
theorem d_Brt_count_87 : decode b_Brt_count 87 = .ok (.getfield 10, 3) := by decide +kernel
theorem d_Brt_count_90 : decode b_Brt_count 90 = .ok (.getfield 267, 3) := by decide +kernel
theorem d_Brt_count_93 : decode b_Brt_count 93 = .ok (.ireturn, 1) := by decide +kernel
theorem d_Brt_count_94 : decode b_Brt_count 94 = .ok (.aload_n 0, 1) := by decide +kernel
theorem d_Brt_count_95 : decode b_Brt_count 95 = .ok (.getfield 10, 3) := by decide +kernel
theorem d_Brt_count_98 : decode b_Brt_count 98 = .ok (.getfield 285, 3) := by decide +kernel
theorem d_Brt_count_101 : decode b_Brt_count 101 = .ok (.ireturn, 1) := by decide +kernel
theorem d_Brt_count_102 : decode b_Brt_count 102 = .ok (.aload_n 0, 1) := by decide +kernel
theorem d_Brt_count_103 : decode b_Brt_count 103 = .ok (.getfield 10, 3) := by decide +kernel
theorem d_Brt_count_106 : decode b_Brt_count 106 = .ok (.getfield 92, 3) := by decide +kernel
theorem d_Brt_count_109 : decode b_Brt_count 109 = .ok (.getfield 108, 3) := by decide +kernel
theorem d_Brt_count_112 : decode b_Brt_count 112 = .ok (.aload_n 0, 1) := by decide +kernel
theorem d_Brt_count_113 : decode b_Brt_count 113 = .ok (.getfield 10, 3) := by decide +kernel
theorem d_Brt_count_116 : decode b_Brt_count 116 = .ok (.getfield 92, 3) := by decide +kernel
theorem d_Brt_count_119 : decode b_Brt_count 119 = .ok (.getfield 166, 3) := by decide +kernel
theorem d_Brt_count_122 : decode b_Brt_count 122 = .ok (.invokestatic 339, 3) := by decide +kernel
theorem d_Brt_count_125 : decode b_Brt_count 125 = .ok (.ireturn, 1) := by decide +kernel
theorem d_Brt_count_126 : decode b_Brt_count 126 = .ok (.aload_n 0, 1) := by decide +kernel
theorem d_Brt_count_127 : decode b_Brt_count 127 = .ok (.getfield 10, 3) := by decide +kernel
theorem d_Brt_count_130 : decode b_Brt_count 130 = .ok (.getfield 127, 3) := by decide +kernel
theorem d_Brt_count_133 : decode b_Brt_count 133 = .ok (.getfield 134, 3) := by decide +kernel
theorem d_Brt_count_136 : decode b_Brt_count 136 = .ok (.aload_n 0, 1) := by decide +kernel
theorem d_Brt_count_137 : decode b_Brt_count 137 = .ok (.getfield 10, 3) := by decide +kernel
theorem d_Brt_count_140 : decode b_Brt_count 140 = .ok (.getfield 127, 3) := by decide +kernel
theorem d_Brt_count_143 : decode b_Brt_count 143 = .ok (.getfield 250, 3) := by decide +kernel
theorem d_Brt_count_146 : decode b_Brt_count 146 = .ok (.invokestatic 339, 3) := by decide +kernel
theorem d_Brt_count_149 : decode b_Brt_count 149 = .ok (.ireturn, 1) := by decide +kernel
theorem d_Brt_count_150 : decode b_Brt_count 150 = .ok (.iconst (-1), 1) := by decide +kernel
theorem d_Brt_count_151 : decode b_Brt_count 151 = .ok (.ireturn, 1) := by decide +kernel
theorem d_Brt_keep_0 : decode b_Brt_keep 0 = .ok (.iload_n 1, 1) := by decide +kernel
theorem d_Brt_keep_1 : decode b_Brt_keep 1 = .ok (.invokestatic 343, 3) := by decide +kernel
theorem d_Brt_keep_4 : decode b_Brt_keep 4 = .ok (.ifCond .eq 12, 3) := by decide +kernel
theorem d_Brt_keep_7 : decode b_Brt_keep 7 = .ok (.iload_n 2, 1) := by decide +kernel
theorem d_Brt_keep_8 : decode b_Brt_keep 8 = .ok (.iconst 0, 1) := by decide +kernel
theorem d_Brt_keep_9 : decode b_Brt_keep 9 = .ok (.iconst 1, 1) := by decide +kernel
theorem d_Brt_keep_10 : decode b_Brt_keep 10 = .ok (.invokestatic 185, 3) := by decide +kernel
theorem d_Brt_keep_13 : decode b_Brt_keep 13 = .ok (.ifCond .ne 5, 3) := by decide +kernel
theorem d_Brt_keep_16 : decode b_Brt_keep 16 = .ok (.iconst (-1), 1) := by decide +kernel
theorem d_Brt_keep_17 : decode b_Brt_keep 17 = .ok (.ireturn, 1) := by decide +kernel
theorem d_Brt_keep_18 : decode b_Brt_keep 18 = .ok (.iload_n 2, 1) := by decide +kernel
theorem d_Brt_keep_19 : decode b_Brt_keep 19 = .ok (.ifCond .ne 15, 3) := by decide +kernel
theorem d_Brt_keep_22 : decode b_Brt_keep 22 = .ok (.aload_n 0, 1) := by decide +kernel
theorem d_Brt_keep_23 : decode b_Brt_keep 23 = .ok (.getfield 49, 3) := by decide +kernel
theorem d_Brt_keep_26 : decode b_Brt_keep 26 = .ok (.iload_n 1, 1) := by decide +kernel
theorem d_Brt_keep_27 : decode b_Brt_keep 27 = .ok (.aaload, 1) := by decide +kernel
theorem d_Brt_keep_28 : decode b_Brt_keep 28 = .ok (.iconst 0, 1) := by decide +kernel
theorem d_Brt_keep_29 : decode b_Brt_keep 29 = .ok (.putfield 346, 3) := by decide +kernel
theorem d_Brt_keep_32 : decode b_Brt_keep 32 = .ok (.iconst 0, 1) := by decide +kernel
theorem d_Brt_keep_33 : decode b_Brt_keep 33 = .ok (.ireturn, 1) := by decide +kernel
theorem d_Brt_keep_34 : decode b_Brt_keep 34 = .ok (.iload_n 3, 1) := by decide +kernel
theorem d_Brt_keep_35 : decode b_Brt_keep 35 = .ok (.iconst 0, 1) := by decide +kernel
theorem d_Brt_keep_36 : decode b_Brt_keep 36 = .ok (.bipush 7, 2) := by decide +kernel
theorem d_Brt_keep_38 : decode b_Brt_keep 38 = .ok (.invokestatic 185, 3) := by decide +kernel
theorem d_Brt_keep_41 : decode b_Brt_keep 41 = .ok (.ifCond .eq 14, 3) := by decide +kernel
theorem d_Brt_keep_44 : decode b_Brt_keep 44 = .ok (.iload 4, 2) := by decide +kernel
theorem d_Brt_keep_46 : decode b_Brt_keep 46 = .ok (.iconst 0, 1) := by decide +kernel
theorem d_Brt_keep_47 : decode b_Brt_keep 47 = .ok (.bipush 9, 2) := by decide +kernel
theorem d_Brt_keep_49 : decode b_Brt_keep 49 = .ok (.invokestatic 185, 3) := by decide +kernel
theorem d_Brt_keep_52 : decode b_Brt_keep 52 = .ok (.ifCond .ne 5, 3) := by decide +kernel
theorem d_Brt_keep_55 : decode b_Brt_keep 55 = .ok (.iconst (-1), 1) := by decide +kernel
theorem d_Brt_keep_56 : decode b_Brt_keep 56 = .ok (.ireturn, 1) := by decide +kernel
theorem d_Brt_keep_57 : decode b_Brt_keep 57 = .ok (.aload_n 0, 1) := by decide +kernel
theorem d_Brt_keep_58 : decode b_Brt_keep 58 = .ok (.getfield 49, 3) := by decide +kernel
theorem d_Brt_keep_61 : decode b_Brt_keep 61 = .ok (.iload_n 1, 1) := by decide +kernel
theorem d_Brt_keep_62 : decode b_Brt_keep 62 = .ok (.aaload, 1) := by decide +kernel
theorem d_Brt_keep_63 : decode b_Brt_keep 63 = .ok (.iload_n 3, 1) := by decide +kernel
theorem d_Brt_keep_64 : decode b_Brt_keep 64 = .ok (.iload 4, 2) := by decide +kernel
theorem d_Brt_keep_66 : decode b_Brt_keep 66 = .ok (.invokevirtual 349, 3) := by decide +kernel
theorem d_Brt_keep_69 : decode b_Brt_keep 69 = .ok (.iconst 0, 1) := by decide +kernel
theorem d_Brt_keep_70 : decode b_Brt_keep 70 = .ok (.ireturn, 1) := by decide +kernel
theorem d_Brt_row_0 : decode b_Brt_row 0 = .ok (.iload_n 1, 1) := by decide +kernel
theorem d_Brt_row_1 : decode b_Brt_row 1 = .ok (.invokestatic 343, 3) := by decide +kernel
theorem d_Brt_row_4 : decode b_Brt_row 4 = .ok (.ifCond .eq 18, 3) := by decide +kernel
theorem d_Brt_row_7 : decode b_Brt_row 7 = .ok (.iload_n 2, 1) := by decide +kernel
theorem d_Brt_row_8 : decode b_Brt_row 8 = .ok (.iconst 0, 1) := by decide +kernel
theorem d_Brt_row_9 : decode b_Brt_row 9 = .ok (.iconst 2, 1) := by decide +kernel
theorem d_Brt_row_10 : decode b_Brt_row 10 = .ok (.invokestatic 185, 3) := by decide +kernel
theorem d_Brt_row_13 : decode b_Brt_row 13 = .ok (.ifCond .eq 9, 3) := by decide +kernel
theorem d_Brt_row_16 : decode b_Brt_row 16 = .ok (.iload_n 3, 1) := by decide +kernel
theorem d_Brt_row_17 : decode b_Brt_row 17 = .ok (.bipush 100, 2) := by decide +kernel
theorem d_Brt_row_19 : decode b_Brt_row 19 = .ok (.if_icmp .le 5, 3) := by decide +kernel
theorem d_Brt_row_22 : decode b_Brt_row 22 = .ok (.iconst (-1), 1) := by decide +kernel
theorem d_Brt_row_23 : decode b_Brt_row 23 = .ok (.ireturn, 1) := by decide +kernel
theorem d_Brt_row_24 : decode b_Brt_row 24 = .ok (.iload_n 3, 1) := by decide +kernel
theorem d_Brt_row_25 : decode b_Brt_row 25 = .ok (.ifCond .ge 6, 3) := by decide +kernel
theorem d_Brt_row_28 : decode b_Brt_row 28 = .ok (.bipush (-14), 2) := by decide +kernel
theorem d_Brt_row_30 : decode b_Brt_row 30 = .ok (.ireturn, 1) := by decide +kernel
theorem d_Brt_row_31 : decode b_Brt_row 31 = .ok (.aload_n 0, 1) := by decide +kernel
theorem d_Brt_row_32 : decode b_Brt_row 32 = .ok (.getfield 49, 3) := by decide +kernel
theorem d_Brt_row_35 : decode b_Brt_row 35 = .ok (.iload_n 1, 1) := by decide +kernel
theorem d_Brt_row_36 : decode b_Brt_row 36 = .ok (.aaload, 1) := by decide +kernel
theorem d_Brt_row_37 : decode b_Brt_row 37 = .ok (.iload_n 2, 1) := by decide +kernel
theorem d_Brt_row_38 : decode b_Brt_row 38 = .ok (.iload_n 3, 1) := by decide +kernel
theorem d_Brt_row_39 : decode b_Brt_row 39 = .ok (.invokevirtual 353, 3) := by decide +kernel
theorem d_Brt_row_42 : decode b_Brt_row 42 = .ok (.iconst 0, 1) := by decide +kernel
theorem d_Brt_row_43 : decode b_Brt_row 43 = .ok (.ireturn, 1) := by decide +kernel
theorem d_Brt_put_0 : decode b_Brt_put 0 = .ok (.aload_n 0, 1) := by decide +kernel
theorem d_Brt_put_1 : decode b_Brt_put 1 = .ok (.iload_n 1, 1) := by decide +kernel
theorem d_Brt_put_2 : decode b_Brt_put 2 = .ok (.invokevirtual 58, 3) := by decide +kernel
theorem d_Brt_put_5 : decode b_Brt_put 5 = .ok (.istore 4, 2) := by decide +kernel
theorem d_Brt_put_7 : decode b_Brt_put 7 = .ok (.iload 4, 2) := by decide +kernel
theorem d_Brt_put_9 : decode b_Brt_put 9 = .ok (.ifCond .eq 6, 3) := by decide +kernel
theorem d_Brt_put_12 : decode b_Brt_put 12 = .ok (.iload 4, 2) := by decide +kernel
theorem d_Brt_put_14 : decode b_Brt_put 14 = .ok (.ireturn, 1) := by decide +kernel
theorem d_Brt_put_15 : decode b_Brt_put 15 = .ok (.aload_n 0, 1) := by decide +kernel
theorem d_Brt_put_16 : decode b_Brt_put 16 = .ok (.getfield 49, 3) := by decide +kernel
theorem d_Brt_put_19 : decode b_Brt_put 19 = .ok (.iload_n 1, 1) := by decide +kernel
theorem d_Brt_put_20 : decode b_Brt_put 20 = .ok (.aaload, 1) := by decide +kernel
theorem d_Brt_put_21 : decode b_Brt_put 21 = .ok (.iload_n 2, 1) := by decide +kernel
theorem d_Brt_put_22 : decode b_Brt_put 22 = .ok (.invokevirtual 356, 3) := by decide +kernel
theorem d_Brt_put_25 : decode b_Brt_put 25 = .ok (.ifCond .ne 6, 3) := by decide +kernel
theorem d_Brt_put_28 : decode b_Brt_put 28 = .ok (.bipush (-13), 2) := by decide +kernel
theorem d_Brt_put_30 : decode b_Brt_put 30 = .ok (.ireturn, 1) := by decide +kernel
theorem d_Brt_put_31 : decode b_Brt_put 31 = .ok (.aload_n 0, 1) := by decide +kernel
theorem d_Brt_put_32 : decode b_Brt_put 32 = .ok (.getfield 49, 3) := by decide +kernel
theorem d_Brt_put_35 : decode b_Brt_put 35 = .ok (.iload_n 1, 1) := by decide +kernel
theorem d_Brt_put_36 : decode b_Brt_put 36 = .ok (.aaload, 1) := by decide +kernel
theorem d_Brt_put_37 : decode b_Brt_put 37 = .ok (.iload_n 2, 1) := by decide +kernel
theorem d_Brt_put_38 : decode b_Brt_put 38 = .ok (.iload_n 3, 1) := by decide +kernel
theorem d_Brt_put_39 : decode b_Brt_put 39 = .ok (.invokevirtual 359, 3) := by decide +kernel
theorem d_Brt_put_42 : decode b_Brt_put 42 = .ok (.iconst 0, 1) := by decide +kernel
theorem d_Brt_put_43 : decode b_Brt_put 43 = .ok (.ireturn, 1) := by decide +kernel
theorem d_Brt_copy_0 : decode b_Brt_copy 0 = .ok (.iload_n 1, 1) := by decide +kernel
theorem d_Brt_copy_1 : decode b_Brt_copy 1 = .ok (.invokestatic 343, 3) := by decide +kernel
theorem d_Brt_copy_4 : decode b_Brt_copy 4 = .ok (.ifCond .eq 10, 3) := by decide +kernel
theorem d_Brt_copy_7 : decode b_Brt_copy 7 = .ok (.iload_n 3, 1) := by decide +kernel
theorem d_Brt_copy_8 : decode b_Brt_copy 8 = .ok (.invokestatic 343, 3) := by decide +kernel
theorem d_Brt_copy_11 : decode b_Brt_copy 11 = .ok (.ifCond .ne 5, 3) := by decide +kernel
theorem d_Brt_copy_14 : decode b_Brt_copy 14 = .ok (.iconst (-1), 1) := by decide +kernel
theorem d_Brt_copy_15 : decode b_Brt_copy 15 = .ok (.ireturn, 1) := by decide +kernel
theorem d_Brt_copy_16 : decode b_Brt_copy 16 = .ok (.aload_n 0, 1) := by decide +kernel
theorem d_Brt_copy_17 : decode b_Brt_copy 17 = .ok (.getfield 49, 3) := by decide +kernel
theorem d_Brt_copy_20 : decode b_Brt_copy 20 = .ok (.iload_n 1, 1) := by decide +kernel
theorem d_Brt_copy_21 : decode b_Brt_copy 21 = .ok (.aaload, 1) := by decide +kernel
theorem d_Brt_copy_22 : decode b_Brt_copy 22 = .ok (.astore 6, 2) := by decide +kernel
theorem d_Brt_copy_24 : decode b_Brt_copy 24 = .ok (.aload_n 0, 1) := by decide +kernel
theorem d_Brt_copy_25 : decode b_Brt_copy 25 = .ok (.getfield 49, 3) := by decide +kernel
theorem d_Brt_copy_28 : decode b_Brt_copy 28 = .ok (.iload_n 3, 1) := by decide +kernel
theorem d_Brt_copy_29 : decode b_Brt_copy 29 = .ok (.aaload, 1) := by decide +kernel
theorem d_Brt_copy_30 : decode b_Brt_copy 30 = .ok (.astore 7, 2) := by decide +kernel
theorem d_Brt_copy_32 : decode b_Brt_copy 32 = .ok (.aload 6, 2) := by decide +kernel
theorem d_Brt_copy_34 : decode b_Brt_copy 34 = .ok (.getfield 346, 3) := by decide +kernel
theorem d_Brt_copy_37 : decode b_Brt_copy 37 = .ok (.ifCond .eq 11, 3) := by decide +kernel
theorem d_Brt_copy_40 : decode b_Brt_copy 40 = .ok (.aload 7, 2) := by decide +kernel
theorem d_Brt_copy_42 : decode b_Brt_copy 42 = .ok (.getfield 346, 3) := by decide +kernel
theorem d_Brt_copy_45 : decode b_Brt_copy 45 = .ok (.ifCond .ne 6, 3) := by decide +kernel
theorem d_Brt_copy_48 : decode b_Brt_copy 48 = .ok (.bipush (-11), 2) := by decide +kernel
theorem d_Brt_copy_50 : decode b_Brt_copy 50 = .ok (.ireturn, 1) := by decide +kernel
theorem d_Brt_copy_51 : decode b_Brt_copy 51 = .ok (.aload 6, 2) := by decide +kernel
theorem d_Brt_copy_53 : decode b_Brt_copy 53 = .ok (.getfield 346, 3) := by decide +kernel
theorem d_Brt_copy_56 : decode b_Brt_copy 56 = .ok (.iconst 2, 1) := by decide +kernel
theorem d_Brt_copy_57 : decode b_Brt_copy 57 = .ok (.if_icmp .ne 25, 3) := by decide +kernel
theorem d_Brt_copy_60 : decode b_Brt_copy 60 = .ok (.aload 7, 2) := by decide +kernel
theorem d_Brt_copy_62 : decode b_Brt_copy 62 = .ok (.getfield 346, 3) := by decide +kernel
theorem d_Brt_copy_65 : decode b_Brt_copy 65 = .ok (.iconst 2, 1) := by decide +kernel
theorem d_Brt_copy_66 : decode b_Brt_copy 66 = .ok (.if_icmp .ne 16, 3) := by decide +kernel
theorem d_Brt_copy_69 : decode b_Brt_copy 69 = .ok (.aload 6, 2) := by decide +kernel
theorem d_Brt_copy_71 : decode b_Brt_copy 71 = .ok (.getfield 62, 3) := by decide +kernel
theorem d_Brt_copy_74 : decode b_Brt_copy 74 = .ok (.aload 7, 2) := by decide +kernel
theorem d_Brt_copy_76 : decode b_Brt_copy 76 = .ok (.getfield 62, 3) := by decide +kernel
theorem d_Brt_copy_79 : decode b_Brt_copy 79 = .ok (.if_icmp .eq 6, 3) := by decide +kernel
theorem d_Brt_copy_82 : decode b_Brt_copy 82 = .ok (.bipush (-12), 2) := by decide +kernel
theorem d_Brt_copy_84 : decode b_Brt_copy 84 = .ok (.ireturn, 1) := by decide +kernel
theorem d_Brt_copy_85 : decode b_Brt_copy 85 = .ok (.iload 5, 2) := by decide +kernel
theorem d_Brt_copy_87 : decode b_Brt_copy 87 = .ok (.ifCond .lt 26, 3) := by decide +kernel
theorem d_Brt_copy_90 : decode b_Brt_copy 90 = .ok (.aload 6, 2) := by decide +kernel
theorem d_Brt_copy_92 : decode b_Brt_copy 92 = .ok (.iload_n 2, 1) := by decide +kernel
theorem d_Brt_copy_93 : decode b_Brt_copy 93 = .ok (.iload 5, 2) := by decide +kernel
theorem d_Brt_copy_95 : decode b_Brt_copy 95 = .ok (.invokevirtual 376, 3) := by decide +kernel
theorem d_Brt_copy_98 : decode b_Brt_copy 98 = .ok (.ifCond .eq 15, 3) := by decide +kernel
theorem d_Brt_copy_101 : decode b_Brt_copy 101 = .ok (.aload 7, 2) := by decide +kernel
theorem d_Brt_copy_103 : decode b_Brt_copy 103 = .ok (.iload 4, 2) := by decide +kernel
theorem d_Brt_copy_105 : decode b_Brt_copy 105 = .ok (.iload 5, 2) := by decide +kernel
theorem d_Brt_copy_107 : decode b_Brt_copy 107 = .ok (.invokevirtual 376, 3) := by decide +kernel
theorem d_Brt_copy_110 : decode b_Brt_copy 110 = .ok (.ifCond .ne 6, 3) := by decide +kernel
theorem d_Brt_copy_113 : decode b_Brt_copy 113 = .ok (.bipush (-13), 2) := by decide +kernel
theorem d_Brt_copy_115 : decode b_Brt_copy 115 = .ok (.ireturn, 1) := by decide +kernel
theorem d_Brt_copy_116 : decode b_Brt_copy 116 = .ok (.aload 6, 2) := by decide +kernel
theorem d_Brt_copy_118 : decode b_Brt_copy 118 = .ok (.getfield 83, 3) := by decide +kernel
theorem d_Brt_copy_121 : decode b_Brt_copy 121 = .ok (.iload_n 2, 1) := by decide +kernel
theorem d_Brt_copy_122 : decode b_Brt_copy 122 = .ok (.aload 7, 2) := by decide +kernel
theorem d_Brt_copy_124 : decode b_Brt_copy 124 = .ok (.getfield 83, 3) := by decide +kernel
theorem d_Brt_copy_127 : decode b_Brt_copy 127 = .ok (.iload 4, 2) := by decide +kernel
theorem d_Brt_copy_129 : decode b_Brt_copy 129 = .ok (.iload 5, 2) := by decide +kernel
theorem d_Brt_copy_131 : decode b_Brt_copy 131 = .ok (.invokestatic 379, 3) := by decide +kernel
theorem d_Brt_copy_134 : decode b_Brt_copy 134 = .ok (.iload 5, 2) := by decide +kernel
theorem d_Brt_copy_136 : decode b_Brt_copy 136 = .ok (.ireturn, 1) := by decide +kernel
theorem d_Brt_cost_0 : decode b_Brt_cost 0 = .ok (.aload_n 0, 1) := by decide +kernel
theorem d_Brt_cost_1 : decode b_Brt_cost 1 = .ok (.iload_n 1, 1) := by decide +kernel
theorem d_Brt_cost_2 : decode b_Brt_cost 2 = .ok (.invokevirtual 155, 3) := by decide +kernel
theorem d_Brt_cost_5 : decode b_Brt_cost 5 = .ok (.istore_n 2, 1) := by decide +kernel
theorem d_Brt_cost_6 : decode b_Brt_cost 6 = .ok (.iload_n 2, 1) := by decide +kernel
theorem d_Brt_cost_7 : decode b_Brt_cost 7 = .ok (.ifCond .eq 7, 3) := by decide +kernel
theorem d_Brt_cost_10 : decode b_Brt_cost 10 = .ok (.iload_n 2, 1) := by decide +kernel
theorem d_Brt_cost_11 : decode b_Brt_cost 11 = .ok (.goto 24, 3) := by decide +kernel
theorem d_Brt_cost_14 : decode b_Brt_cost 14 = .ok (.aload_n 0, 1) := by decide +kernel
theorem d_Brt_cost_15 : decode b_Brt_cost 15 = .ok (.getfield 49, 3) := by decide +kernel
theorem d_Brt_cost_18 : decode b_Brt_cost 18 = .ok (.iload_n 1, 1) := by decide +kernel
theorem d_Brt_cost_19 : decode b_Brt_cost 19 = .ok (.aaload, 1) := by decide +kernel
theorem d_Brt_cost_20 : decode b_Brt_cost 20 = .ok (.getfield 158, 3) := by decide +kernel
theorem d_Brt_cost_23 : decode b_Brt_cost 23 = .ok (.aload_n 0, 1) := by decide +kernel
theorem d_Brt_cost_24 : decode b_Brt_cost 24 = .ok (.getfield 49, 3) := by decide +kernel
theorem d_Brt_cost_27 : decode b_Brt_cost 27 = .ok (.iload_n 1, 1) := by decide +kernel
theorem d_Brt_cost_28 : decode b_Brt_cost 28 = .ok (.aaload, 1) := by decide +kernel
theorem d_Brt_cost_29 : decode b_Brt_cost 29 = .ok (.getfield 160, 3) := by decide +kernel
theorem d_Brt_cost_32 : decode b_Brt_cost 32 = .ok (.invokestatic 385, 3) := by decide +kernel
theorem d_Brt_cost_35 : decode b_Brt_cost 35 = .ok (.ireturn, 1) := by decide +kernel
set_option maxRecDepth 100000 in
theorem cw_Brt_sumOf : CwS y_Brt_sumOf b_Brt_sumOf 4 (some FieldType.int) 2 := ⟨tbl_at 816 (by decide +kernel) rfl, tbl_at 48 (by decide +kernel) rfl, tbl_at 817 rfl rfl, by decide +kernel, by decide +kernel, by decide +kernel⟩
set_option maxRecDepth 100000 in
theorem cw_She_hasPlace : CwV y_She_hasPlace b_She_hasPlace 2 (some FieldType.boolean) 1 := ⟨tbl_at 840 (by decide +kernel) rfl, tbl_at 841 (by decide +kernel) rfl, tbl_at 56 (by decide +kernel) rfl, tbl_at 842 rfl rfl, by decide +kernel, by decide +kernel, by decide +kernel⟩
set_option maxRecDepth 100000 in
theorem cw_She_hasPlaces : CwV y_She_hasPlaces b_She_hasPlaces 3 (some FieldType.boolean) 2 := ⟨tbl_at 853 (by decide +kernel) rfl, tbl_at 854 (by decide +kernel) rfl, tbl_at 56 (by decide +kernel) rfl, tbl_at 855 rfl rfl, by decide +kernel, by decide +kernel, by decide +kernel⟩
set_option maxRecDepth 100000 in
theorem cw_She_holdKind : CwV y_She_holdKind b_She_holdKind 3 (none) 2 := ⟨tbl_at 823 (by decide +kernel) rfl, tbl_at 824 (by decide +kernel) rfl, tbl_at 56 (by decide +kernel) rfl, tbl_at 825 rfl rfl, by decide +kernel, by decide +kernel, by decide +kernel⟩
set_option maxRecDepth 100000 in
theorem cw_She_holdRow : CwV y_She_holdRow b_She_holdRow 3 (none) 2 := ⟨tbl_at 831 (by decide +kernel) rfl, tbl_at 832 (by decide +kernel) rfl, tbl_at 56 (by decide +kernel) rfl, tbl_at 833 rfl rfl, by decide +kernel, by decide +kernel, by decide +kernel⟩
set_option maxRecDepth 100000 in
theorem cw_She_write : CwV y_She_write b_She_write 3 (none) 2 := ⟨tbl_at 845 (by decide +kernel) rfl, tbl_at 846 (by decide +kernel) rfl, tbl_at 56 (by decide +kernel) rfl, tbl_at 847 rfl rfl, by decide +kernel, by decide +kernel, by decide +kernel⟩
theorem fl_Brt_16 : Cond.fieldLink R_Brt 16 "BreatheOut" "kept" "LBreatheOut$Cave;" ∈ tbl := tbl_at 363 (by decide +kernel) rfl
theorem fl_Brt_328 : Cond.fieldLink R_Brt 328 "BreatheOut$Leg" "times" "[I" ∈ tbl := tbl_at 234 (by decide +kernel) rfl
theorem fl_Brt_53 : Cond.fieldLink R_Brt 53 "BreatheOut" "imageTaken" "Z" ∈ tbl := tbl_at 370 (by decide +kernel) rfl
theorem lc_Brt_334 : Cond.constant R_Brt 334 (1103515245) ∈ tbl := tbl_at 801 (by decide +kernel) rfl
theorem lc_Brt_335 : Cond.constant R_Brt 335 (65536) ∈ tbl := tbl_at 802 (by decide +kernel) rfl
theorem ml_Brt_339 : Cond.methodLink R_Brt 339 y_Brt_sumOf ∈ tbl := tbl_at 815 (by decide +kernel) rfl
theorem ml_Brt_349 : Cond.methodLink R_Brt 349 y_She_holdKind ∈ tbl := tbl_at 822 (by decide +kernel) rfl
theorem ml_Brt_353 : Cond.methodLink R_Brt 353 y_She_holdRow ∈ tbl := tbl_at 830 (by decide +kernel) rfl
theorem ml_Brt_356 : Cond.methodLink R_Brt 356 y_She_hasPlace ∈ tbl := tbl_at 839 (by decide +kernel) rfl
theorem ml_Brt_359 : Cond.methodLink R_Brt 359 y_She_write ∈ tbl := tbl_at 844 (by decide +kernel) rfl
theorem ml_Brt_376 : Cond.methodLink R_Brt 376 y_She_hasPlaces ∈ tbl := tbl_at 852 (by decide +kernel) rfl
theorem ml_Brt_379 : Cond.methodLink R_Brt 379 arraycopyName ∈ tbl := tbl_at 856 (by decide +kernel) rfl
theorem ml_Brt_385 : Cond.methodLink R_Brt 385 y_Kin_costOf ∈ tbl := tbl_at 861 (by decide +kernel) rfl
def vc_Brt_judge (x1 : Int32) (s : St) (Q : Int32 → St → Prop) : Prop :=
    vc_Brt_refusalOfRow x1 s (fun x10 => ((x10 = 0 → (vp_in x1 8 ∧ vc_Brt_allGo  s (fun p14 s15 => kd p14 = 6 → (∃ I17 : Nat → Int32 → Prop, (∃ n18, I17 n18 0) ∧ ∀ (nI17 : Nat) (x16 : Int32), I17 nI17 x16 → (((s15 (shp x1) 4) ≤ x16 → Q (-4) s15) ∧ (¬ (s15 (shp x1) 4) ≤ x16 → (∃ J21 : Int32 → Prop, (∀ (x20 : Int32), J21 x20 → (∃ J22 : Prop, (J22 → (∀ x23 : Int32, x23 = x16 + 1 → ∃ m24, m24 < nI17 ∧ I17 m24 x23)) ∧ ((¬ x20 = 0 → J22) ∧ (x20 = 0 → vc_She_isSkipped (shp x1) x16 s15 (fun b26 => ((¬ (bi b26) = 0 → J22) ∧ ((bi b26) = 0 → Q x16 s15))))))) ∧ (∃ J29 : Prop, (J29 → J21 0) ∧ (((s15 p14 1) ≤ x16 → J29) ∧ (¬ (s15 p14 1) ≤ x16 → (vp_in x16 100 ∧ (vp_in x16 6 ∧ ((¬ (s15 (shp x1 + 1) (Int32.toNatClampNeg x16)) = ((s15 (p14 + 1) (Int32.toNatClampNeg x16)) - (s15 1 5)) → J29) ∧ ((s15 (shp x1 + 1) (Int32.toNatClampNeg x16)) = ((s15 (p14 + 1) (Int32.toNatClampNeg x16)) - (s15 1 5)) → J21 1)))))))))))))) ∧ (¬ x10 = 0 → Q x10 s)))
def rm_Brt_judge : Room := { frames := 5, cells := 0, slots := 0, locals := 126 }
set_option maxHeartbeats 4000000 in
set_option maxRecDepth 20000 in
theorem m_Brt_judge (g : Gx) (hg : gOk g) (x1 : Int32)  (s : St) (Q : Int32 → St → Prop) (hw : vc_Brt_judge x1 s Q) : Mc g y_Brt_judge b_Brt_judge 7 (some FieldType.int) rm_Brt_judge [.ref (ga g 0), .int x1] s (fun v s' => ∃ r : Int32, v = some (.int r) ∧ Q r s') := by
  refine mc_ofV (j := 5) (L := [some (.ref (ga g 0)), some (.int x1), none, none, none, none, none]) hg (by decide) (Nat.le_of_ble_eq_true rfl) rfl ?_
  intro X hX C
  subst hX
  unfold vc_Brt_judge at hw
  refine x_aload_n C d_Brt_judge_0 rfl ?_
  refine x_iload_n C d_Brt_judge_1 rfl ?_
  refine x_callV (As := [.int x1]) (rest := []) (p := 0) C (m_Brt_refusalOfRow (xg X) C.2.2.2.2.2.2.1 x1 s _ hw) cw_Brt_refusalOfRow ml_Brt_58 rfl (by decide) (by decide) rfl rfl rfl ⟨rfl, rfl, Nat.le_of_ble_eq_true rfl, Nat.le_of_ble_eq_true rfl⟩ ⟨Nat.zero_le _, Nat.zero_le _⟩ rfl (Nat.le_of_ble_eq_true rfl) d_Brt_judge_2 ?_
  rintro _ _ ⟨x10, rfl, rfl, hw⟩
  show V X _ _ _ _ 5 [some (.ref (xa X 0)), some (.int x1), none, none, none, none, none] [.int x10]
  refine x_istore_n (L' := [some (.ref (xa X 0)), some (.int x1), some (.int x10), none, none, none, none]) C d_Brt_judge_5 (Nat.le_of_ble_eq_true rfl) rfl ?_
  refine x_iload_n C d_Brt_judge_6 rfl ?_
  refine x_if_eq (tgt := 12) C d_Brt_judge_7 (by decide) (fun c12 => ?_) (fun c12 => ?_)
  · have hw := hw.1 c12
    refine x_aload_n C d_Brt_judge_12 rfl ?_
    refine g_Brt_7 (p := 0) C rfl fl_Brt_49 d_Brt_judge_13 ?_
    refine x_iload_n C d_Brt_judge_16 rfl ?_
    obtain ⟨h13, hw⟩ := hw
    refine x_aald C h13 d_Brt_judge_17 ?_
    refine x_astore_n (L' := [some (.ref (xa X 0)), some (.int x1), some (.int x10), some (.ref (xa X (shp x1))), none, none, none]) C d_Brt_judge_18 (Nat.le_of_ble_eq_true rfl) rfl ?_
    refine x_aload_n C d_Brt_judge_19 rfl ?_
    refine x_callV (As := []) (rest := []) (p := 0) C (m_Brt_allGo (xg X) C.2.2.2.2.2.2.1  s _ hw) cw_Brt_allGo ml_Brt_230 rfl (by decide) (by decide) rfl rfl rfl ⟨rfl, rfl, Nat.le_of_ble_eq_true rfl, Nat.le_of_ble_eq_true rfl⟩ ⟨Nat.zero_le _, Nat.zero_le _⟩ rfl (Nat.le_of_ble_eq_true rfl) d_Brt_judge_20 ?_
    rintro _ s15 ⟨p14, rfl, hkp14, hw⟩
    have hw := hw hkp14
    show V X _ _ _ _ 23 [some (.ref (xa X 0)), some (.int x1), some (.int x10), some (.ref (xa X (shp x1))), none, none, none] [.ref (xa X p14)]
    refine x_astore (L' := [some (.ref (xa X 0)), some (.int x1), some (.int x10), some (.ref (xa X (shp x1))), some (.ref (xa X p14)), none, none]) C d_Brt_judge_23 (Nat.le_of_ble_eq_true rfl) rfl ?_
    refine x_iconst (v := 0) C d_Brt_judge_25 rfl ?_
    refine x_istore (L' := [some (.ref (xa X 0)), some (.int x1), some (.int x10), some (.ref (xa X (shp x1))), some (.ref (xa X p14)), some (.int 0), none]) C d_Brt_judge_26 (Nat.le_of_ble_eq_true rfl) rfl ?_
    obtain ⟨I17, ⟨n18, hn18⟩, hI17⟩ := hw
    have lI17 : ∀ (nI17 : Nat) (x16 : Int32), I17 nI17 x16 → V X (xQ X (fun v s' => ∃ r : Int32, v = some (.int r) ∧ Q r s')) 0 0 s15 28 [some (.ref (xa X 0)), some (.int x1), some (.int x10), some (.ref (xa X (shp x1))), some (.ref (xa X p14)), some (.int x16), none] [] := by
      intro nI17
      induction nI17 using Nat.strongRecOn with
      | ind nI17 ihI17 =>
        intro x16 hv
        have hw := hI17 nI17 x16 hv
        refine x_iload C d_Brt_judge_28 rfl ?_
        refine x_aload_n C d_Brt_judge_30 rfl ?_
        refine g_She_4 (p := (shp x1)) C (shp_kd h13) fl_Brt_76 d_Brt_judge_31 ?_
        refine x_icmp_ge (tgt := 103) C d_Brt_judge_34 (by decide) (fun c19 => ?_) (fun c19 => ?_)
        · have hw := hw.1 c19
          refine x_bipush (v := (-4)) C d_Brt_judge_103 rfl ?_
          exact x_ireturn C d_Brt_judge_105 ⟨_, rfl, hw⟩
        · have hw := hw.2 c19
          refine x_iload C d_Brt_judge_37 rfl ?_
          refine x_aload C d_Brt_judge_39 rfl ?_
          refine g_Leg_1 (p := p14) C hkp14 fl_Brt_318 d_Brt_judge_41 ?_
          obtain ⟨J21, hJ21, hw⟩ := hw
          have kJ21 : ∀ (x20 : Int32), J21 x20 → V X (xQ X (fun v s' => ∃ r : Int32, v = some (.int r) ∧ Q r s')) 0 0 s15 78 [some (.ref (xa X 0)), some (.int x1), some (.int x10), some (.ref (xa X (shp x1))), some (.ref (xa X p14)), some (.int x16), none] [.int x20] := by
            intro x20 hv
            have hw := hJ21 x20 hv
            refine x_istore (L' := [some (.ref (xa X 0)), some (.int x1), some (.int x10), some (.ref (xa X (shp x1))), some (.ref (xa X p14)), some (.int x16), some (.int x20)]) C d_Brt_judge_78 (Nat.le_of_ble_eq_true rfl) rfl ?_
            refine x_iload C d_Brt_judge_80 rfl ?_
            obtain ⟨J22, hJ22, hw⟩ := hw
            have kJ22 : J22 → V X (xQ X (fun v s' => ∃ r : Int32, v = some (.int r) ∧ Q r s')) 0 0 s15 97 [some (.ref (xa X 0)), some (.int x1), some (.int x10), some (.ref (xa X (shp x1))), some (.ref (xa X p14)), some (.int x16), some (.int x20)] [] := by
              intro  hv
              have hw := hJ22  hv
              obtain ⟨x23, hx23⟩ : ∃ z : Int32, z = x16 + 1 := ⟨_, rfl⟩
              refine x_iinc (v := x23) (L' := [some (.ref (xa X 0)), some (.int x1), some (.int x10), some (.ref (xa X (shp x1))), some (.ref (xa X p14)), some (.int x23), some (.int x20)]) C d_Brt_judge_97 (Nat.le_of_ble_eq_true rfl) rfl (by rw [hx23]; rfl) rfl ?_
              have hw := hw x23 hx23
              refine x_goto (tgt := 28) C d_Brt_judge_100 (by decide) ?_
              obtain ⟨m24, hm24, hw⟩ := hw
              exact x_wk (ihI17 m24 hm24 x23 hw) (And.intro rfl (And.intro rfl (And.intro rfl (And.intro rfl (And.intro rfl (And.intro rfl (trivial)))))))
            refine x_if_ne (tgt := 97) C d_Brt_judge_82 (by decide) (fun c25 => ?_) (fun c25 => ?_)
            · have hw := hw.1 c25
              exact x_wk (kJ22  hw) (And.intro rfl (And.intro rfl (And.intro rfl (And.intro rfl (And.intro rfl (And.intro rfl (And.intro rfl (trivial))))))))
            · have hw := hw.2 c25
              refine x_aload_n C d_Brt_judge_85 rfl ?_
              refine x_iload C d_Brt_judge_86 rfl ?_
              refine x_callV (As := [.int x16]) (rest := []) (p := (shp x1)) C (m_She_isSkipped (xg X) C.2.2.2.2.2.2.1 (shp x1) x16 (shp_kd h13) s15 _ hw) cw_She_isSkipped ml_Brt_331 (shp_kd h13) (by decide) (by decide) rfl rfl rfl ⟨rfl, rfl, Nat.le_of_ble_eq_true rfl, Nat.le_of_ble_eq_true rfl⟩ ⟨Nat.zero_le _, Nat.zero_le _⟩ rfl (Nat.le_of_ble_eq_true rfl) d_Brt_judge_88 ?_
              rintro _ _ ⟨b26, rfl, rfl, hw⟩
              show V X _ _ _ _ 91 [some (.ref (xa X 0)), some (.int x1), some (.int x10), some (.ref (xa X (shp x1))), some (.ref (xa X p14)), some (.int x16), some (.int x20)] [.int (bi b26)]
              refine x_if_ne (tgt := 97) C d_Brt_judge_91 (by decide) (fun c28 => ?_) (fun c28 => ?_)
              · have hw := hw.1 c28
                exact x_wk (kJ22  hw) (And.intro rfl (And.intro rfl (And.intro rfl (And.intro rfl (And.intro rfl (And.intro rfl (And.intro rfl (trivial))))))))
              · have hw := hw.2 c28
                refine x_iload C d_Brt_judge_94 rfl ?_
                exact x_ireturn C d_Brt_judge_96 ⟨_, rfl, hw⟩
          obtain ⟨J29, hJ29, hw⟩ := hw
          have kJ29 : J29 → V X (xQ X (fun v s' => ∃ r : Int32, v = some (.int r) ∧ Q r s')) 0 0 s15 77 [some (.ref (xa X 0)), some (.int x1), some (.int x10), some (.ref (xa X (shp x1))), some (.ref (xa X p14)), some (.int x16), none] [] := by
            intro  hv
            have hw := hJ29  hv
            refine x_iconst (v := 0) C d_Brt_judge_77 rfl ?_
            exact x_wk (kJ21 0 hw) (And.intro rfl (And.intro rfl (And.intro rfl (And.intro rfl (And.intro rfl (And.intro rfl (trivial)))))))
          refine x_icmp_ge (tgt := 77) C d_Brt_judge_44 (by decide) (fun c30 => ?_) (fun c30 => ?_)
          · have hw := hw.1 c30
            exact x_wk (kJ29  hw) (And.intro rfl (And.intro rfl (And.intro rfl (And.intro rfl (And.intro rfl (And.intro rfl (trivial)))))))
          · have hw := hw.2 c30
            refine x_aload_n C d_Brt_judge_47 rfl ?_
            refine g_She_5 (p := (shp x1)) C (shp_kd h13) fl_Brt_83 d_Brt_judge_48 ?_
            refine x_iload C d_Brt_judge_51 rfl ?_
            obtain ⟨h31, hw⟩ := hw
            refine x_iald (p := (shp x1 + 1)) (n := 100) C (ks_9_1 (shp_kd h13)) h31 d_Brt_judge_53 ?_
            refine x_aload C d_Brt_judge_54 rfl ?_
            refine g_Leg_6 (p := p14) C hkp14 fl_Brt_328 d_Brt_judge_56 ?_
            refine x_iload C d_Brt_judge_59 rfl ?_
            obtain ⟨h32, hw⟩ := hw
            refine x_iald (p := (p14 + 1)) (n := 6) C (ks_6_1 hkp14) h32 d_Brt_judge_61 ?_
            refine x_aload_n C d_Brt_judge_62 rfl ?_
            refine g_Brt_0 (p := 0) C rfl fl_Brt_10 d_Brt_judge_63 ?_
            refine g_Cav_5 (p := 1) C rfl fl_Brt_111 d_Brt_judge_66 ?_
            refine x_isub C d_Brt_judge_69 ?_
            refine x_icmp_ne (tgt := 77) C d_Brt_judge_70 (by decide) (fun c33 => ?_) (fun c33 => ?_)
            · have hw := hw.1 c33
              exact x_wk (kJ29  hw) (And.intro rfl (And.intro rfl (And.intro rfl (And.intro rfl (And.intro rfl (And.intro rfl (trivial)))))))
            · have hw := hw.2 c33
              refine x_iconst (v := 1) C d_Brt_judge_73 rfl ?_
              refine x_goto (tgt := 78) C d_Brt_judge_74 (by decide) ?_
              exact x_wk (kJ21 1 hw) (And.intro rfl (And.intro rfl (And.intro rfl (And.intro rfl (And.intro rfl (And.intro rfl (trivial)))))))
    exact x_wk (lI17 n18 0 hn18) (And.intro rfl (And.intro rfl (And.intro rfl (And.intro rfl (And.intro rfl (And.intro rfl (trivial)))))))
  · have hw := hw.2 c12
    refine x_iload_n C d_Brt_judge_10 rfl ?_
    exact x_ireturn C d_Brt_judge_11 ⟨_, rfl, hw⟩
def vc_Brt_parties (x1 : Int32) (x2 : Int32) (x3 : Int32) (s : St) (Q : Int32 → St → Prop) : Prop :=
    vc_Brt_within x1 1 20 (fun b10 => (((bi b10) = 0 → Q (-1) s) ∧ (¬ (bi b10) = 0 → vc_Brt_within x3 0 1 (fun b13 => ((¬ (bi b13) = 0 → vc_Cav_become 35 1 s (fun s16 => (∃ I22 : Nat → Int32 → Int32 → Int32 → Int32 → St → Prop, (∃ n23, I22 n23 x2 0 0 0 s16) ∧ ∀ (nI22 : Nat) (x17 : Int32) (x18 : Int32) (x19 : Int32) (x20 : Int32) (s21 : St), I22 nI22 x17 x18 x19 x20 s21 → ((x1 ≤ x20 → ((¬ x3 = 0 → Q x19 s21) ∧ (x3 = 0 → Q x18 s21))) ∧ (¬ x1 ≤ x20 → (∃ I29 : Nat → Int32 → Int32 → St → Prop, (∃ n30, I29 n30 x17 0 s21) ∧ ∀ (nI29 : Nat) (x26 : Int32) (x27 : Int32) (s28 : St), I29 nI29 x26 x27 s28 → (((s28 45 0) ≤ x27 → vc_Brt_allReturn 35 s28 (fun b32 s33 => (∀ x34 : Int32, x34 = x18 + (s33 53 1) → (∀ x35 : Int32, x35 = x19 + (s33 55 1) → (∀ x36 : Int32, x36 = x20 + 1 → ∃ m37, m37 < nI22 ∧ I22 m37 x26 x34 x35 x36 s33))))) ∧ (¬ (s28 45 0) ≤ x27 → (∀ x38 : Int32, x38 = (x26 * 1103515245) + 12345 → (vp_in x27 6 ∧ (∀ s40 : St, s40 = wr s28 48 (Int32.toNatClampNeg x27) (((x38 &&& 2147483647) / 65536) - ((x38 &&& 2147483647) / 65536) / 10 * 10) → (∀ x41 : Int32, x41 = x27 + 1 → ∃ m42, m42 < nI29 ∧ I29 m42 x38 x41 s40)))))))))))) ∧ ((bi b13) = 0 → Q (-1) s))))))
def rm_Brt_parties : Room := { frames := 6, cells := 0, slots := 0, locals := 151 }
set_option maxHeartbeats 4000000 in
set_option maxRecDepth 20000 in
theorem m_Brt_parties (g : Gx) (hg : gOk g) (x1 : Int32) (x2 : Int32) (x3 : Int32)  (s : St) (Q : Int32 → St → Prop) (hw : vc_Brt_parties x1 x2 x3 s Q) : Mc g y_Brt_parties b_Brt_parties 9 (some FieldType.int) rm_Brt_parties [.ref (ga g 0), .int x1, .int x2, .int x3] s (fun v s' => ∃ r : Int32, v = some (.int r) ∧ Q r s') := by
  refine mc_ofV (j := 5) (L := [some (.ref (ga g 0)), some (.int x1), some (.int x2), some (.int x3), none, none, none, none, none]) hg (by decide) (Nat.le_of_ble_eq_true rfl) rfl ?_
  intro X hX C
  subst hX
  unfold vc_Brt_parties at hw
  refine x_iload_n C d_Brt_parties_0 rfl ?_
  refine x_iconst (v := 1) C d_Brt_parties_1 rfl ?_
  refine x_bipush (v := 20) C d_Brt_parties_2 rfl ?_
  refine x_callS (As := [.int x1, .int 1, .int 20]) (rest := []) C (m_Brt_within (xg X) C.2.2.2.2.2.2.1 x1 1 20 s _ hw) cw_Brt_within ml_Brt_185 rfl ⟨rfl, rfl, Nat.le_of_ble_eq_true rfl, Nat.le_of_ble_eq_true rfl⟩ ⟨Nat.zero_le _, Nat.zero_le _⟩ rfl (Nat.le_of_ble_eq_true rfl) d_Brt_parties_4 ?_
  rintro _ _ ⟨b10, rfl, rfl, hw⟩
  show V X _ _ _ _ 7 [some (.ref (xa X 0)), some (.int x1), some (.int x2), some (.int x3), none, none, none, none, none] [.int (bi b10)]
  refine x_if_eq (tgt := 19) C d_Brt_parties_7 (by decide) (fun c12 => ?_) (fun c12 => ?_)
  · have hw := hw.1 c12
    refine x_iconst (v := (-1)) C d_Brt_parties_19 rfl ?_
    exact x_ireturn C d_Brt_parties_20 ⟨_, rfl, hw⟩
  · have hw := hw.2 c12
    refine x_iload_n C d_Brt_parties_10 rfl ?_
    refine x_iconst (v := 0) C d_Brt_parties_11 rfl ?_
    refine x_iconst (v := 1) C d_Brt_parties_12 rfl ?_
    refine x_callS (As := [.int x3, .int 0, .int 1]) (rest := []) C (m_Brt_within (xg X) C.2.2.2.2.2.2.1 x3 0 1 s _ hw) cw_Brt_within ml_Brt_185 rfl ⟨rfl, rfl, Nat.le_of_ble_eq_true rfl, Nat.le_of_ble_eq_true rfl⟩ ⟨Nat.zero_le _, Nat.zero_le _⟩ rfl (Nat.le_of_ble_eq_true rfl) d_Brt_parties_13 ?_
    rintro _ _ ⟨b13, rfl, rfl, hw⟩
    show V X _ _ _ _ 16 [some (.ref (xa X 0)), some (.int x1), some (.int x2), some (.int x3), none, none, none, none, none] [.int (bi b13)]
    refine x_if_ne (tgt := 21) C d_Brt_parties_16 (by decide) (fun c15 => ?_) (fun c15 => ?_)
    · have hw := hw.1 c15
      refine x_aload_n C d_Brt_parties_21 rfl ?_
      refine g_Brt_2 (p := 0) C rfl fl_Brt_19 d_Brt_parties_22 ?_
      refine x_aload_n C d_Brt_parties_25 rfl ?_
      refine g_Brt_0 (p := 0) C rfl fl_Brt_10 d_Brt_parties_26 ?_
      refine x_callV (As := [.ref (xa X 1)]) (rest := []) (p := 35) C (m_Cav_become (xg X) C.2.2.2.2.2.2.1 35 1 rfl rfl s _ hw) cw_Cav_become ml_Brt_72 rfl (by decide) (by decide) rfl rfl rfl ⟨rfl, rfl, Nat.le_of_ble_eq_true rfl, Nat.le_of_ble_eq_true rfl⟩ ⟨Nat.zero_le _, Nat.zero_le _⟩ rfl (Nat.le_of_ble_eq_true rfl) d_Brt_parties_29 ?_
      rintro _ s16 ⟨rfl, hw⟩
      show V X _ _ _ _ 32 [some (.ref (xa X 0)), some (.int x1), some (.int x2), some (.int x3), none, none, none, none, none] []
      refine x_iload_n C d_Brt_parties_32 rfl ?_
      refine x_istore (L' := [some (.ref (xa X 0)), some (.int x1), some (.int x2), some (.int x3), some (.int x2), none, none, none, none]) C d_Brt_parties_33 (Nat.le_of_ble_eq_true rfl) rfl ?_
      refine x_iconst (v := 0) C d_Brt_parties_35 rfl ?_
      refine x_istore (L' := [some (.ref (xa X 0)), some (.int x1), some (.int x2), some (.int x3), some (.int x2), some (.int 0), none, none, none]) C d_Brt_parties_36 (Nat.le_of_ble_eq_true rfl) rfl ?_
      refine x_iconst (v := 0) C d_Brt_parties_38 rfl ?_
      refine x_istore (L' := [some (.ref (xa X 0)), some (.int x1), some (.int x2), some (.int x3), some (.int x2), some (.int 0), some (.int 0), none, none]) C d_Brt_parties_39 (Nat.le_of_ble_eq_true rfl) rfl ?_
      refine x_iconst (v := 0) C d_Brt_parties_41 rfl ?_
      refine x_istore (L' := [some (.ref (xa X 0)), some (.int x1), some (.int x2), some (.int x3), some (.int x2), some (.int 0), some (.int 0), some (.int 0), none]) C d_Brt_parties_42 (Nat.le_of_ble_eq_true rfl) rfl ?_
      obtain ⟨I22, ⟨n23, hn23⟩, hI22⟩ := hw
      have lI22 : ∀ (nI22 : Nat) (x17 : Int32) (x18 : Int32) (x19 : Int32) (x20 : Int32) (s21 : St), I22 nI22 x17 x18 x19 x20 s21 → V X (xQ X (fun v s' => ∃ r : Int32, v = some (.int r) ∧ Q r s')) 0 0 s21 44 [some (.ref (xa X 0)), some (.int x1), some (.int x2), some (.int x3), some (.int x17), some (.int x18), some (.int x19), some (.int x20), none] [] := by
        intro nI22
        induction nI22 using Nat.strongRecOn with
        | ind nI22 ihI22 =>
          intro x17 x18 x19 x20 s21 hv
          have hw := hI22 nI22 x17 x18 x19 x20 s21 hv
          refine x_iload C d_Brt_parties_44 rfl ?_
          refine x_iload_n C d_Brt_parties_46 rfl ?_
          refine x_icmp_ge (tgt := 156) C d_Brt_parties_47 (by decide) (fun c24 => ?_) (fun c24 => ?_)
          · have hw := hw.1 c24
            refine x_iload_n C d_Brt_parties_156 rfl ?_
            refine x_if_ne (tgt := 165) C d_Brt_parties_157 (by decide) (fun c25 => ?_) (fun c25 => ?_)
            · have hw := hw.1 c25
              refine x_iload C d_Brt_parties_165 rfl ?_
              exact x_ireturn C d_Brt_parties_167 ⟨_, rfl, hw⟩
            · have hw := hw.2 c25
              refine x_iload C d_Brt_parties_160 rfl ?_
              refine x_goto (tgt := 167) C d_Brt_parties_162 (by decide) ?_
              exact x_ireturn C d_Brt_parties_167 ⟨_, rfl, hw⟩
          · have hw := hw.2 c24
            refine x_iconst (v := 0) C d_Brt_parties_50 rfl ?_
            refine x_istore (L' := [some (.ref (xa X 0)), some (.int x1), some (.int x2), some (.int x3), some (.int x17), some (.int x18), some (.int x19), some (.int x20), some (.int 0)]) C d_Brt_parties_51 (Nat.le_of_ble_eq_true rfl) rfl ?_
            obtain ⟨I29, ⟨n30, hn30⟩, hI29⟩ := hw
            have lI29 : ∀ (nI29 : Nat) (x26 : Int32) (x27 : Int32) (s28 : St), I29 nI29 x26 x27 s28 → V X (xQ X (fun v s' => ∃ r : Int32, v = some (.int r) ∧ Q r s')) 0 0 s28 53 [some (.ref (xa X 0)), some (.int x1), some (.int x2), some (.int x3), some (.int x26), some (.int x18), some (.int x19), some (.int x20), some (.int x27)] [] := by
              intro nI29
              induction nI29 using Nat.strongRecOn with
              | ind nI29 ihI29 =>
                intro x26 x27 s28 hv
                have hw := hI29 nI29 x26 x27 s28 hv
                refine x_iload C d_Brt_parties_53 rfl ?_
                refine x_aload_n C d_Brt_parties_55 rfl ?_
                refine g_Brt_2 (p := 0) C rfl fl_Brt_19 d_Brt_parties_56 ?_
                refine g_Cav_1 (p := 35) C rfl fl_Brt_127 d_Brt_parties_59 ?_
                refine g_Bod_0 (p := 45) C rfl fl_Brt_250 d_Brt_parties_62 ?_
                refine x_icmp_ge (tgt := 111) C d_Brt_parties_65 (by decide) (fun c31 => ?_) (fun c31 => ?_)
                · have hw := hw.1 c31
                  refine x_aload_n C d_Brt_parties_111 rfl ?_
                  refine x_aload_n C d_Brt_parties_112 rfl ?_
                  refine g_Brt_2 (p := 0) C rfl fl_Brt_19 d_Brt_parties_113 ?_
                  refine x_callV (As := [.ref (xa X 35)]) (rest := []) (p := 0) C (m_Brt_allReturn (xg X) C.2.2.2.2.2.2.1 35 rfl s28 _ hw) cw_Brt_allReturn ml_Brt_237 rfl (by decide) (by decide) rfl rfl rfl ⟨rfl, rfl, Nat.le_of_ble_eq_true rfl, Nat.le_of_ble_eq_true rfl⟩ ⟨Nat.zero_le _, Nat.zero_le _⟩ rfl (Nat.le_of_ble_eq_true rfl) d_Brt_parties_116 ?_
                  rintro _ s33 ⟨b32, rfl, hw⟩
                  show V X _ _ _ _ 119 [some (.ref (xa X 0)), some (.int x1), some (.int x2), some (.int x3), some (.int x26), some (.int x18), some (.int x19), some (.int x20), some (.int x27)] [.int (bi b32)]
                  refine x_pop C d_Brt_parties_119 rfl ?_
                  refine x_iload C d_Brt_parties_120 rfl ?_
                  refine x_aload_n C d_Brt_parties_122 rfl ?_
                  refine g_Brt_3 (p := 0) C rfl fl_Brt_25 d_Brt_parties_123 ?_
                  refine g_Tri_0 (p := 52) C rfl fl_Brt_336 d_Brt_parties_126 ?_
                  refine g_Leg_1 (p := 53) C rfl fl_Brt_318 d_Brt_parties_129 ?_
                  refine x_iadd C d_Brt_parties_132 ?_
                  refine x_nm (fun x34 hx34 => ?_)
                  have hw := hw x34 hx34
                  refine x_istore (L' := [some (.ref (xa X 0)), some (.int x1), some (.int x2), some (.int x3), some (.int x26), some (.int x34), some (.int x19), some (.int x20), some (.int x27)]) C d_Brt_parties_133 (Nat.le_of_ble_eq_true rfl) rfl ?_
                  refine x_iload C d_Brt_parties_135 rfl ?_
                  refine x_aload_n C d_Brt_parties_137 rfl ?_
                  refine g_Brt_3 (p := 0) C rfl fl_Brt_25 d_Brt_parties_138 ?_
                  refine g_Tri_1 (p := 52) C rfl fl_Brt_241 d_Brt_parties_141 ?_
                  refine g_Leg_1 (p := 55) C rfl fl_Brt_318 d_Brt_parties_144 ?_
                  refine x_iadd C d_Brt_parties_147 ?_
                  refine x_nm (fun x35 hx35 => ?_)
                  have hw := hw x35 hx35
                  refine x_istore (L' := [some (.ref (xa X 0)), some (.int x1), some (.int x2), some (.int x3), some (.int x26), some (.int x34), some (.int x35), some (.int x20), some (.int x27)]) C d_Brt_parties_148 (Nat.le_of_ble_eq_true rfl) rfl ?_
                  obtain ⟨x36, hx36⟩ : ∃ z : Int32, z = x20 + 1 := ⟨_, rfl⟩
                  refine x_iinc (v := x36) (L' := [some (.ref (xa X 0)), some (.int x1), some (.int x2), some (.int x3), some (.int x26), some (.int x34), some (.int x35), some (.int x36), some (.int x27)]) C d_Brt_parties_150 (Nat.le_of_ble_eq_true rfl) rfl (by rw [hx36]; rfl) rfl ?_
                  have hw := hw x36 hx36
                  refine x_goto (tgt := 44) C d_Brt_parties_153 (by decide) ?_
                  obtain ⟨m37, hm37, hw⟩ := hw
                  exact x_wk (ihI22 m37 hm37 x26 x34 x35 x36 s33 hw) (And.intro rfl (And.intro rfl (And.intro rfl (And.intro rfl (And.intro rfl (And.intro rfl (And.intro rfl (And.intro rfl (trivial)))))))))
                · have hw := hw.2 c31
                  refine x_iload C d_Brt_parties_68 rfl ?_
                  refine x_ldcw (v := 1103515245) C d_Brt_parties_70 lc_Brt_334 ?_
                  refine x_imul C d_Brt_parties_73 ?_
                  refine x_sipush (v := 12345) C d_Brt_parties_74 rfl ?_
                  refine x_iadd C d_Brt_parties_77 ?_
                  refine x_nm (fun x38 hx38 => ?_)
                  have hw := hw x38 hx38
                  refine x_istore (L' := [some (.ref (xa X 0)), some (.int x1), some (.int x2), some (.int x3), some (.int x38), some (.int x18), some (.int x19), some (.int x20), some (.int x27)]) C d_Brt_parties_78 (Nat.le_of_ble_eq_true rfl) rfl ?_
                  refine x_aload_n C d_Brt_parties_80 rfl ?_
                  refine g_Brt_2 (p := 0) C rfl fl_Brt_19 d_Brt_parties_81 ?_
                  refine g_Cav_1 (p := 35) C rfl fl_Brt_127 d_Brt_parties_84 ?_
                  refine g_Bod_3 (p := 45) C rfl fl_Brt_140 d_Brt_parties_87 ?_
                  refine x_iload C d_Brt_parties_90 rfl ?_
                  refine x_iload C d_Brt_parties_92 rfl ?_
                  refine x_ldc (v := 2147483647) C d_Brt_parties_94 lc_Brt_218 ?_
                  refine x_iand C d_Brt_parties_96 ?_
                  refine x_ldcw (v := 65536) C d_Brt_parties_97 lc_Brt_335 ?_
                  refine x_idiv C d_Brt_parties_100 (by decide) ?_
                  refine x_bipush (v := 10) C d_Brt_parties_101 rfl ?_
                  refine x_irem C d_Brt_parties_103 (by decide) ?_
                  obtain ⟨h39, hw⟩ := hw
                  refine x_iast (p := 48) (n := 6) C rfl h39 d_Brt_parties_104 ?_
                  refine x_st (fun s40 hs40 => ?_)
                  have hw := hw s40 hs40
                  obtain ⟨x41, hx41⟩ : ∃ z : Int32, z = x27 + 1 := ⟨_, rfl⟩
                  refine x_iinc (v := x41) (L' := [some (.ref (xa X 0)), some (.int x1), some (.int x2), some (.int x3), some (.int x38), some (.int x18), some (.int x19), some (.int x20), some (.int x41)]) C d_Brt_parties_105 (Nat.le_of_ble_eq_true rfl) rfl (by rw [hx41]; rfl) rfl ?_
                  have hw := hw x41 hx41
                  refine x_goto (tgt := 53) C d_Brt_parties_108 (by decide) ?_
                  obtain ⟨m42, hm42, hw⟩ := hw
                  exact x_wk (ihI29 m42 hm42 x38 x41 s40 hw) (And.intro rfl (And.intro rfl (And.intro rfl (And.intro rfl (And.intro rfl (And.intro rfl (And.intro rfl (And.intro rfl (And.intro rfl (trivial))))))))))
            exact x_wk (lI29 n30 x17 0 s21 hn30) (And.intro rfl (And.intro rfl (And.intro rfl (And.intro rfl (And.intro rfl (And.intro rfl (And.intro rfl (And.intro rfl (And.intro rfl (trivial))))))))))
      exact x_wk (lI22 n23 x2 0 0 0 s16 hn23) (And.intro rfl (And.intro rfl (And.intro rfl (And.intro rfl (And.intro rfl (And.intro rfl (And.intro rfl (And.intro rfl (trivial)))))))))
    · have hw := hw.2 c15
      refine x_iconst (v := (-1)) C d_Brt_parties_19 rfl ?_
      exact x_ireturn C d_Brt_parties_20 ⟨_, rfl, hw⟩
def vc_Brt_image  (s : St) (Q : Int32 → St → Prop) : Prop :=
    vc_Cav_become 18 1 s (fun s10 => (∀ s11 : St, s11 = wr s10 0 8 1 → Q (s11 1 5) s11))
def rm_Brt_image : Room := { frames := 3, cells := 0, slots := 0, locals := 68 }
set_option maxHeartbeats 4000000 in
set_option maxRecDepth 20000 in
theorem m_Brt_image (g : Gx) (hg : gOk g)   (s : St) (Q : Int32 → St → Prop) (hw : vc_Brt_image  s Q) : Mc g y_Brt_image b_Brt_image 1 (some FieldType.int) rm_Brt_image [.ref (ga g 0)] s (fun v s' => ∃ r : Int32, v = some (.int r) ∧ Q r s') := by
  refine mc_ofV (j := 0) (L := [some (.ref (ga g 0))]) hg (by decide) (Nat.le_of_ble_eq_true rfl) rfl ?_
  intro X hX C
  subst hX
  unfold vc_Brt_image at hw
  refine x_aload_n C d_Brt_image_0 rfl ?_
  refine g_Brt_1 (p := 0) C rfl fl_Brt_16 d_Brt_image_1 ?_
  refine x_aload_n C d_Brt_image_4 rfl ?_
  refine g_Brt_0 (p := 0) C rfl fl_Brt_10 d_Brt_image_5 ?_
  refine x_callV (As := [.ref (xa X 1)]) (rest := []) (p := 18) C (m_Cav_become (xg X) C.2.2.2.2.2.2.1 18 1 rfl rfl s _ hw) cw_Cav_become ml_Brt_72 rfl (by decide) (by decide) rfl rfl rfl ⟨rfl, rfl, Nat.le_of_ble_eq_true rfl, Nat.le_of_ble_eq_true rfl⟩ ⟨Nat.zero_le _, Nat.zero_le _⟩ rfl (Nat.le_of_ble_eq_true rfl) d_Brt_image_8 ?_
  rintro _ s10 ⟨rfl, hw⟩
  show V X _ _ _ _ 11 [some (.ref (xa X 0))] []
  refine x_aload_n C d_Brt_image_11 rfl ?_
  refine x_iconst (v := 1) C d_Brt_image_12 rfl ?_
  refine p_Brt_8 (p := 0) C rfl fl_Brt_53 ⟨rfl, rfl⟩ d_Brt_image_13 ?_
  refine x_st (fun s11 hs11 => ?_)
  have hw := hw s11 hs11
  refine x_aload_n C d_Brt_image_16 rfl ?_
  refine g_Brt_0 (p := 0) C rfl fl_Brt_10 d_Brt_image_17 ?_
  refine g_Cav_5 (p := 1) C rfl fl_Brt_111 d_Brt_image_20 ?_
  exact x_ireturn C d_Brt_image_23 ⟨_, rfl, hw⟩
def vc_Brt_restore  (s : St) (Q : Int32 → St → Prop) : Prop :=
    ((¬ (s 0 8) = 0 → vc_Cav_become 1 18 s (fun s11 => vc_Best_forget 58 s11 (fun s12 => Q (s12 1 5) s12))) ∧ ((s 0 8) = 0 → Q (-3) s))
def rm_Brt_restore : Room := { frames := 3, cells := 0, slots := 0, locals := 68 }
set_option maxHeartbeats 4000000 in
set_option maxRecDepth 20000 in
theorem m_Brt_restore (g : Gx) (hg : gOk g)   (s : St) (Q : Int32 → St → Prop) (hw : vc_Brt_restore  s Q) : Mc g y_Brt_restore b_Brt_restore 1 (some FieldType.int) rm_Brt_restore [.ref (ga g 0)] s (fun v s' => ∃ r : Int32, v = some (.int r) ∧ Q r s') := by
  refine mc_ofV (j := 0) (L := [some (.ref (ga g 0))]) hg (by decide) (Nat.le_of_ble_eq_true rfl) rfl ?_
  intro X hX C
  subst hX
  unfold vc_Brt_restore at hw
  refine x_aload_n C d_Brt_restore_0 rfl ?_
  refine g_Brt_8 (p := 0) C rfl fl_Brt_53 d_Brt_restore_1 ?_
  refine x_if_ne (tgt := 10) C d_Brt_restore_4 (by decide) (fun c10 => ?_) (fun c10 => ?_)
  · have hw := hw.1 c10
    refine x_aload_n C d_Brt_restore_10 rfl ?_
    refine g_Brt_0 (p := 0) C rfl fl_Brt_10 d_Brt_restore_11 ?_
    refine x_aload_n C d_Brt_restore_14 rfl ?_
    refine g_Brt_1 (p := 0) C rfl fl_Brt_16 d_Brt_restore_15 ?_
    refine x_callV (As := [.ref (xa X 18)]) (rest := []) (p := 1) C (m_Cav_become (xg X) C.2.2.2.2.2.2.1 1 18 rfl rfl s _ hw) cw_Cav_become ml_Brt_72 rfl (by decide) (by decide) rfl rfl rfl ⟨rfl, rfl, Nat.le_of_ble_eq_true rfl, Nat.le_of_ble_eq_true rfl⟩ ⟨Nat.zero_le _, Nat.zero_le _⟩ rfl (Nat.le_of_ble_eq_true rfl) d_Brt_restore_18 ?_
    rintro _ s11 ⟨rfl, hw⟩
    show V X _ _ _ _ 21 [some (.ref (xa X 0))] []
    refine x_aload_n C d_Brt_restore_21 rfl ?_
    refine g_Brt_4 (p := 0) C rfl fl_Brt_32 d_Brt_restore_22 ?_
    refine x_callV (As := []) (rest := []) (p := 58) C (m_Best_forget (xg X) C.2.2.2.2.2.2.1 58 rfl s11 _ hw) cw_Best_forget ml_Brt_89 rfl (by decide) (by decide) rfl rfl rfl ⟨rfl, rfl, Nat.le_of_ble_eq_true rfl, Nat.le_of_ble_eq_true rfl⟩ ⟨Nat.zero_le _, Nat.zero_le _⟩ rfl (Nat.le_of_ble_eq_true rfl) d_Brt_restore_25 ?_
    rintro _ s12 ⟨rfl, hw⟩
    show V X _ _ _ _ 28 [some (.ref (xa X 0))] []
    refine x_aload_n C d_Brt_restore_28 rfl ?_
    refine g_Brt_0 (p := 0) C rfl fl_Brt_10 d_Brt_restore_29 ?_
    refine g_Cav_5 (p := 1) C rfl fl_Brt_111 d_Brt_restore_32 ?_
    exact x_ireturn C d_Brt_restore_35 ⟨_, rfl, hw⟩
  · have hw := hw.2 c10
    refine x_bipush (v := (-3)) C d_Brt_restore_7 rfl ?_
    exact x_ireturn C d_Brt_restore_9 ⟨_, rfl, hw⟩
def vc_Brt_sumOf (p0 : Nat) (n0 : Nat) (x1 : Int32) (s : St) (Q : Int32 → Prop) : Prop :=
    (∃ I12 : Nat → Int32 → Int32 → Prop, (∃ n13, I12 n13 0 0) ∧ ∀ (nI12 : Nat) (x10 : Int32) (x11 : Int32), I12 nI12 x10 x11 → ((x1 ≤ x11 → Q x10) ∧ (¬ x1 ≤ x11 → (((nI n0) ≤ x11 → Q x10) ∧ (¬ (nI n0) ≤ x11 → (vp_in x11 n0 ∧ (∀ x17 : Int32, x17 = x10 + (s p0 (Int32.toNatClampNeg x11)) → (∀ x18 : Int32, x18 = x11 + 1 → ∃ m19, m19 < nI12 ∧ I12 m19 x17 x18))))))))
def rm_Brt_sumOf : Room := { frames := 0, cells := 0, slots := 0, locals := 0 }
set_option maxHeartbeats 4000000 in
set_option maxRecDepth 20000 in
theorem m_Brt_sumOf (g : Gx) (hg : gOk g) (p0 : Nat) (n0 : Nat) (x1 : Int32) (hk0 : kd p0 = 100 + n0) (s : St) (Q : Int32 → Prop) (hw : vc_Brt_sumOf p0 n0 x1 s Q) : Mc g y_Brt_sumOf b_Brt_sumOf 4 (some FieldType.int) rm_Brt_sumOf [.ref (ga g p0), .int x1] s (fun v s' => ∃ r : Int32, v = some (.int r) ∧ s = s' ∧ Q r) := by
  refine mc_ofV (j := 2) (L := [some (.ref (ga g p0)), some (.int x1), none, none]) hg (by decide) (Nat.le_of_ble_eq_true rfl) rfl ?_
  intro X hX C
  subst hX
  unfold vc_Brt_sumOf at hw
  refine x_iconst (v := 0) C d_Brt_sumOf_0 rfl ?_
  refine x_istore_n (L' := [some (.ref (xa X p0)), some (.int x1), some (.int 0), none]) C d_Brt_sumOf_1 (Nat.le_of_ble_eq_true rfl) rfl ?_
  refine x_iconst (v := 0) C d_Brt_sumOf_2 rfl ?_
  refine x_istore_n (L' := [some (.ref (xa X p0)), some (.int x1), some (.int 0), some (.int 0)]) C d_Brt_sumOf_3 (Nat.le_of_ble_eq_true rfl) rfl ?_
  obtain ⟨I12, ⟨n13, hn13⟩, hI12⟩ := hw
  have lI12 : ∀ (nI12 : Nat) (x10 : Int32) (x11 : Int32), I12 nI12 x10 x11 → V X (xQ X (fun v s' => ∃ r : Int32, v = some (.int r) ∧ s = s' ∧ Q r)) 0 0 s 4 [some (.ref (xa X p0)), some (.int x1), some (.int x10), some (.int x11)] [] := by
    intro nI12
    induction nI12 using Nat.strongRecOn with
    | ind nI12 ihI12 =>
      intro x10 x11 hv
      have hw := hI12 nI12 x10 x11 hv
      refine x_iload_n C d_Brt_sumOf_4 rfl ?_
      refine x_iload_n C d_Brt_sumOf_5 rfl ?_
      refine x_icmp_ge (tgt := 27) C d_Brt_sumOf_6 (by decide) (fun c14 => ?_) (fun c14 => ?_)
      · have hw := hw.1 c14
        refine x_iload_n C d_Brt_sumOf_27 rfl ?_
        exact x_ireturn C d_Brt_sumOf_28 ⟨_, rfl, rfl, hw⟩
      · have hw := hw.2 c14
        refine x_iload_n C d_Brt_sumOf_9 rfl ?_
        refine x_aload_n C d_Brt_sumOf_10 rfl ?_
        refine x_alen (p := p0) (n := n0) C hk0 d_Brt_sumOf_11 ?_
        refine x_icmp_ge (tgt := 27) C d_Brt_sumOf_12 (by decide) (fun c15 => ?_) (fun c15 => ?_)
        · have hw := hw.1 c15
          refine x_iload_n C d_Brt_sumOf_27 rfl ?_
          exact x_ireturn C d_Brt_sumOf_28 ⟨_, rfl, rfl, hw⟩
        · have hw := hw.2 c15
          refine x_iload_n C d_Brt_sumOf_15 rfl ?_
          refine x_aload_n C d_Brt_sumOf_16 rfl ?_
          refine x_iload_n C d_Brt_sumOf_17 rfl ?_
          obtain ⟨h16, hw⟩ := hw
          refine x_iald (p := p0) (n := n0) C hk0 h16 d_Brt_sumOf_18 ?_
          refine x_iadd C d_Brt_sumOf_19 ?_
          refine x_nm (fun x17 hx17 => ?_)
          have hw := hw x17 hx17
          refine x_istore_n (L' := [some (.ref (xa X p0)), some (.int x1), some (.int x17), some (.int x11)]) C d_Brt_sumOf_20 (Nat.le_of_ble_eq_true rfl) rfl ?_
          obtain ⟨x18, hx18⟩ : ∃ z : Int32, z = x11 + 1 := ⟨_, rfl⟩
          refine x_iinc (v := x18) (L' := [some (.ref (xa X p0)), some (.int x1), some (.int x17), some (.int x18)]) C d_Brt_sumOf_21 (Nat.le_of_ble_eq_true rfl) rfl (by rw [hx18]; rfl) rfl ?_
          have hw := hw x18 hx18
          refine x_goto (tgt := 4) C d_Brt_sumOf_24 (by decide) ?_
          obtain ⟨m19, hm19, hw⟩ := hw
          exact x_wk (ihI12 m19 hm19 x17 x18 hw) (And.intro rfl (And.intro rfl (And.intro rfl (And.intro rfl (trivial)))))
  exact x_wk (lI12 n13 0 0 hn13) (And.intro rfl (And.intro rfl (And.intro rfl (And.intro rfl (trivial)))))
def vc_Brt_count (x1 : Int32) (s : St) (Q : Int32 → Prop) : Prop :=
    ((x1 = 0 → Q (s 2 0)) ∧ (¬ x1 = 0 → ((x1 = 1 → Q (s 11 0)) ∧ (¬ x1 = 1 → ((x1 = 2 → Q (s 1 5)) ∧ (¬ x1 = 2 → ((x1 = 3 → Q (s 1 2)) ∧ (¬ x1 = 3 → ((x1 = 4 → Q (s 1 3)) ∧ (¬ x1 = 4 → ((x1 = 5 → Q (s 1 4)) ∧ (¬ x1 = 5 → ((x1 = 6 → vc_Brt_sumOf 5 12 (s 2 0) s (fun x17 => Q x17)) ∧ (¬ x1 = 6 → ((x1 = 7 → vc_Brt_sumOf 12 6 (s 11 0) s (fun x20 => Q x20)) ∧ (¬ x1 = 7 → Q (-1)))))))))))))))))
def rm_Brt_count : Room := { frames := 1, cells := 0, slots := 0, locals := 23 }
set_option maxHeartbeats 4000000 in
set_option maxRecDepth 20000 in
theorem m_Brt_count (g : Gx) (hg : gOk g) (x1 : Int32)  (s : St) (Q : Int32 → Prop) (hw : vc_Brt_count x1 s Q) : Mc g y_Brt_count b_Brt_count 2 (some FieldType.int) rm_Brt_count [.ref (ga g 0), .int x1] s (fun v s' => ∃ r : Int32, v = some (.int r) ∧ s = s' ∧ Q r) := by
  refine mc_ofV (j := 0) (L := [some (.ref (ga g 0)), some (.int x1)]) hg (by decide) (Nat.le_of_ble_eq_true rfl) rfl ?_
  intro X hX C
  subst hX
  unfold vc_Brt_count at hw
  refine x_iload_n C d_Brt_count_0 rfl ?_
  by_cases c10 : x1 = 0
  · have hw := hw.1 c10
    refine x_tswIn (v := 0) (off := 47) (tgt := 48) C d_Brt_count_1 c10 (by decide) (by decide) rfl (by decide) ?_
    refine x_aload_n C d_Brt_count_48 rfl ?_
    refine g_Brt_0 (p := 0) C rfl fl_Brt_10 d_Brt_count_49 ?_
    refine g_Cav_0 (p := 1) C rfl fl_Brt_92 d_Brt_count_52 ?_
    refine g_Yar_0 (p := 2) C rfl fl_Brt_166 d_Brt_count_55 ?_
    exact x_ireturn C d_Brt_count_58 ⟨_, rfl, rfl, hw⟩
  have hw := hw.2 c10
  by_cases c11 : x1 = 1
  · have hw := hw.1 c11
    refine x_tswIn (v := 1) (off := 58) (tgt := 59) C d_Brt_count_1 c11 (by decide) (by decide) rfl (by decide) ?_
    refine x_aload_n C d_Brt_count_59 rfl ?_
    refine g_Brt_0 (p := 0) C rfl fl_Brt_10 d_Brt_count_60 ?_
    refine g_Cav_1 (p := 1) C rfl fl_Brt_127 d_Brt_count_63 ?_
    refine g_Bod_0 (p := 11) C rfl fl_Brt_250 d_Brt_count_66 ?_
    exact x_ireturn C d_Brt_count_69 ⟨_, rfl, rfl, hw⟩
  have hw := hw.2 c11
  by_cases c12 : x1 = 2
  · have hw := hw.1 c12
    refine x_tswIn (v := 2) (off := 69) (tgt := 70) C d_Brt_count_1 c12 (by decide) (by decide) rfl (by decide) ?_
    refine x_aload_n C d_Brt_count_70 rfl ?_
    refine g_Brt_0 (p := 0) C rfl fl_Brt_10 d_Brt_count_71 ?_
    refine g_Cav_5 (p := 1) C rfl fl_Brt_111 d_Brt_count_74 ?_
    exact x_ireturn C d_Brt_count_77 ⟨_, rfl, rfl, hw⟩
  have hw := hw.2 c12
  by_cases c13 : x1 = 3
  · have hw := hw.1 c13
    refine x_tswIn (v := 3) (off := 77) (tgt := 78) C d_Brt_count_1 c13 (by decide) (by decide) rfl (by decide) ?_
    refine x_aload_n C d_Brt_count_78 rfl ?_
    refine g_Brt_0 (p := 0) C rfl fl_Brt_10 d_Brt_count_79 ?_
    refine g_Cav_2 (p := 1) C rfl fl_Brt_294 d_Brt_count_82 ?_
    exact x_ireturn C d_Brt_count_85 ⟨_, rfl, rfl, hw⟩
  have hw := hw.2 c13
  by_cases c14 : x1 = 4
  · have hw := hw.1 c14
    refine x_tswIn (v := 4) (off := 85) (tgt := 86) C d_Brt_count_1 c14 (by decide) (by decide) rfl (by decide) ?_
    refine x_aload_n C d_Brt_count_86 rfl ?_
    refine g_Brt_0 (p := 0) C rfl fl_Brt_10 d_Brt_count_87 ?_
    refine g_Cav_3 (p := 1) C rfl fl_Brt_267 d_Brt_count_90 ?_
    exact x_ireturn C d_Brt_count_93 ⟨_, rfl, rfl, hw⟩
  have hw := hw.2 c14
  by_cases c15 : x1 = 5
  · have hw := hw.1 c15
    refine x_tswIn (v := 5) (off := 93) (tgt := 94) C d_Brt_count_1 c15 (by decide) (by decide) rfl (by decide) ?_
    refine x_aload_n C d_Brt_count_94 rfl ?_
    refine g_Brt_0 (p := 0) C rfl fl_Brt_10 d_Brt_count_95 ?_
    refine g_Cav_4 (p := 1) C rfl fl_Brt_285 d_Brt_count_98 ?_
    exact x_ireturn C d_Brt_count_101 ⟨_, rfl, rfl, hw⟩
  have hw := hw.2 c15
  by_cases c16 : x1 = 6
  · have hw := hw.1 c16
    refine x_tswIn (v := 6) (off := 101) (tgt := 102) C d_Brt_count_1 c16 (by decide) (by decide) rfl (by decide) ?_
    refine x_aload_n C d_Brt_count_102 rfl ?_
    refine g_Brt_0 (p := 0) C rfl fl_Brt_10 d_Brt_count_103 ?_
    refine g_Cav_0 (p := 1) C rfl fl_Brt_92 d_Brt_count_106 ?_
    refine g_Yar_3 (p := 2) C rfl fl_Brt_108 d_Brt_count_109 ?_
    refine x_aload_n C d_Brt_count_112 rfl ?_
    refine g_Brt_0 (p := 0) C rfl fl_Brt_10 d_Brt_count_113 ?_
    refine g_Cav_0 (p := 1) C rfl fl_Brt_92 d_Brt_count_116 ?_
    refine g_Yar_0 (p := 2) C rfl fl_Brt_166 d_Brt_count_119 ?_
    refine x_callS (As := [.ref (xa X 5), .int (s 2 0)]) (rest := []) C (m_Brt_sumOf (xg X) C.2.2.2.2.2.2.1 5 12 (s 2 0) rfl s _ hw) cw_Brt_sumOf ml_Brt_339 rfl ⟨rfl, rfl, Nat.le_of_ble_eq_true rfl, Nat.le_of_ble_eq_true rfl⟩ ⟨Nat.zero_le _, Nat.zero_le _⟩ rfl (Nat.le_of_ble_eq_true rfl) d_Brt_count_122 ?_
    rintro _ _ ⟨x17, rfl, rfl, hw⟩
    show V X _ _ _ _ 125 [some (.ref (xa X 0)), some (.int x1)] [.int x17]
    exact x_ireturn C d_Brt_count_125 ⟨_, rfl, rfl, hw⟩
  have hw := hw.2 c16
  by_cases c19 : x1 = 7
  · have hw := hw.1 c19
    refine x_tswIn (v := 7) (off := 125) (tgt := 126) C d_Brt_count_1 c19 (by decide) (by decide) rfl (by decide) ?_
    refine x_aload_n C d_Brt_count_126 rfl ?_
    refine g_Brt_0 (p := 0) C rfl fl_Brt_10 d_Brt_count_127 ?_
    refine g_Cav_1 (p := 1) C rfl fl_Brt_127 d_Brt_count_130 ?_
    refine g_Bod_1 (p := 11) C rfl fl_Brt_134 d_Brt_count_133 ?_
    refine x_aload_n C d_Brt_count_136 rfl ?_
    refine g_Brt_0 (p := 0) C rfl fl_Brt_10 d_Brt_count_137 ?_
    refine g_Cav_1 (p := 1) C rfl fl_Brt_127 d_Brt_count_140 ?_
    refine g_Bod_0 (p := 11) C rfl fl_Brt_250 d_Brt_count_143 ?_
    refine x_callS (As := [.ref (xa X 12), .int (s 11 0)]) (rest := []) C (m_Brt_sumOf (xg X) C.2.2.2.2.2.2.1 12 6 (s 11 0) rfl s _ hw) cw_Brt_sumOf ml_Brt_339 rfl ⟨rfl, rfl, Nat.le_of_ble_eq_true rfl, Nat.le_of_ble_eq_true rfl⟩ ⟨Nat.zero_le _, Nat.zero_le _⟩ rfl (Nat.le_of_ble_eq_true rfl) d_Brt_count_146 ?_
    rintro _ _ ⟨x20, rfl, rfl, hw⟩
    show V X _ _ _ _ 149 [some (.ref (xa X 0)), some (.int x1)] [.int x20]
    exact x_ireturn C d_Brt_count_149 ⟨_, rfl, rfl, hw⟩
  have hw := hw.2 c19
  refine x_tswD (tgt := 150) C d_Brt_count_1 (fun j hj => by match j, hj with | 0, _ => exact Or.inr c10 | 1, _ => exact Or.inr c11 | 2, _ => exact Or.inr c12 | 3, _ => exact Or.inr c13 | 4, _ => exact Or.inr c14 | 5, _ => exact Or.inr c15 | 6, _ => exact Or.inr c16 | 7, _ => exact Or.inr c19 | j + 8, hj => exact absurd hj (by omega)) (by decide) ?_
  refine x_iconst (v := (-1)) C d_Brt_count_150 rfl ?_
  exact x_ireturn C d_Brt_count_151 ⟨_, rfl, rfl, hw⟩
def vc_Brt_keep (x1 : Int32) (x2 : Int32) (x3 : Int32) (x4 : Int32) (s : St) (Q : Int32 → St → Prop) : Prop :=
    vc_Brt_isShelf x1 (fun b10 => (((bi b10) = 0 → Q (-1) s) ∧ (¬ (bi b10) = 0 → vc_Brt_within x2 0 1 (fun b13 => ((¬ (bi b13) = 0 → ((¬ x2 = 0 → vc_Brt_within x3 0 7 (fun b17 => (((bi b17) = 0 → Q (-1) s) ∧ (¬ (bi b17) = 0 → vc_Brt_within x4 0 9 (fun b20 => ((¬ (bi b20) = 0 → (vp_in x1 8 ∧ vc_She_holdKind (shp x1) x3 x4 s (fun s24 => Q 0 s24))) ∧ ((bi b20) = 0 → Q (-1) s))))))) ∧ (x2 = 0 → (vp_in x1 8 ∧ (∀ s26 : St, s26 = wr s (shp x1) 0 0 → Q 0 s26))))) ∧ ((bi b13) = 0 → Q (-1) s))))))
def rm_Brt_keep : Room := { frames := 2, cells := 0, slots := 0, locals := 42 }
set_option maxHeartbeats 4000000 in
set_option maxRecDepth 20000 in
theorem m_Brt_keep (g : Gx) (hg : gOk g) (x1 : Int32) (x2 : Int32) (x3 : Int32) (x4 : Int32)  (s : St) (Q : Int32 → St → Prop) (hw : vc_Brt_keep x1 x2 x3 x4 s Q) : Mc g y_Brt_keep b_Brt_keep 5 (some FieldType.int) rm_Brt_keep [.ref (ga g 0), .int x1, .int x2, .int x3, .int x4] s (fun v s' => ∃ r : Int32, v = some (.int r) ∧ Q r s') := by
  refine mc_ofV (j := 0) (L := [some (.ref (ga g 0)), some (.int x1), some (.int x2), some (.int x3), some (.int x4)]) hg (by decide) (Nat.le_of_ble_eq_true rfl) rfl ?_
  intro X hX C
  subst hX
  unfold vc_Brt_keep at hw
  refine x_iload_n C d_Brt_keep_0 rfl ?_
  refine x_callS (As := [.int x1]) (rest := []) C (m_Brt_isShelf (xg X) C.2.2.2.2.2.2.1 x1 s _ hw) cw_Brt_isShelf ml_Brt_343 rfl ⟨rfl, rfl, Nat.le_of_ble_eq_true rfl, Nat.le_of_ble_eq_true rfl⟩ ⟨Nat.zero_le _, Nat.zero_le _⟩ rfl (Nat.le_of_ble_eq_true rfl) d_Brt_keep_1 ?_
  rintro _ _ ⟨b10, rfl, rfl, hw⟩
  show V X _ _ _ _ 4 [some (.ref (xa X 0)), some (.int x1), some (.int x2), some (.int x3), some (.int x4)] [.int (bi b10)]
  refine x_if_eq (tgt := 16) C d_Brt_keep_4 (by decide) (fun c12 => ?_) (fun c12 => ?_)
  · have hw := hw.1 c12
    refine x_iconst (v := (-1)) C d_Brt_keep_16 rfl ?_
    exact x_ireturn C d_Brt_keep_17 ⟨_, rfl, hw⟩
  · have hw := hw.2 c12
    refine x_iload_n C d_Brt_keep_7 rfl ?_
    refine x_iconst (v := 0) C d_Brt_keep_8 rfl ?_
    refine x_iconst (v := 1) C d_Brt_keep_9 rfl ?_
    refine x_callS (As := [.int x2, .int 0, .int 1]) (rest := []) C (m_Brt_within (xg X) C.2.2.2.2.2.2.1 x2 0 1 s _ hw) cw_Brt_within ml_Brt_185 rfl ⟨rfl, rfl, Nat.le_of_ble_eq_true rfl, Nat.le_of_ble_eq_true rfl⟩ ⟨Nat.zero_le _, Nat.zero_le _⟩ rfl (Nat.le_of_ble_eq_true rfl) d_Brt_keep_10 ?_
    rintro _ _ ⟨b13, rfl, rfl, hw⟩
    show V X _ _ _ _ 13 [some (.ref (xa X 0)), some (.int x1), some (.int x2), some (.int x3), some (.int x4)] [.int (bi b13)]
    refine x_if_ne (tgt := 18) C d_Brt_keep_13 (by decide) (fun c15 => ?_) (fun c15 => ?_)
    · have hw := hw.1 c15
      refine x_iload_n C d_Brt_keep_18 rfl ?_
      refine x_if_ne (tgt := 34) C d_Brt_keep_19 (by decide) (fun c16 => ?_) (fun c16 => ?_)
      · have hw := hw.1 c16
        refine x_iload_n C d_Brt_keep_34 rfl ?_
        refine x_iconst (v := 0) C d_Brt_keep_35 rfl ?_
        refine x_bipush (v := 7) C d_Brt_keep_36 rfl ?_
        refine x_callS (As := [.int x3, .int 0, .int 7]) (rest := []) C (m_Brt_within (xg X) C.2.2.2.2.2.2.1 x3 0 7 s _ hw) cw_Brt_within ml_Brt_185 rfl ⟨rfl, rfl, Nat.le_of_ble_eq_true rfl, Nat.le_of_ble_eq_true rfl⟩ ⟨Nat.zero_le _, Nat.zero_le _⟩ rfl (Nat.le_of_ble_eq_true rfl) d_Brt_keep_38 ?_
        rintro _ _ ⟨b17, rfl, rfl, hw⟩
        show V X _ _ _ _ 41 [some (.ref (xa X 0)), some (.int x1), some (.int x2), some (.int x3), some (.int x4)] [.int (bi b17)]
        refine x_if_eq (tgt := 55) C d_Brt_keep_41 (by decide) (fun c19 => ?_) (fun c19 => ?_)
        · have hw := hw.1 c19
          refine x_iconst (v := (-1)) C d_Brt_keep_55 rfl ?_
          exact x_ireturn C d_Brt_keep_56 ⟨_, rfl, hw⟩
        · have hw := hw.2 c19
          refine x_iload C d_Brt_keep_44 rfl ?_
          refine x_iconst (v := 0) C d_Brt_keep_46 rfl ?_
          refine x_bipush (v := 9) C d_Brt_keep_47 rfl ?_
          refine x_callS (As := [.int x4, .int 0, .int 9]) (rest := []) C (m_Brt_within (xg X) C.2.2.2.2.2.2.1 x4 0 9 s _ hw) cw_Brt_within ml_Brt_185 rfl ⟨rfl, rfl, Nat.le_of_ble_eq_true rfl, Nat.le_of_ble_eq_true rfl⟩ ⟨Nat.zero_le _, Nat.zero_le _⟩ rfl (Nat.le_of_ble_eq_true rfl) d_Brt_keep_49 ?_
          rintro _ _ ⟨b20, rfl, rfl, hw⟩
          show V X _ _ _ _ 52 [some (.ref (xa X 0)), some (.int x1), some (.int x2), some (.int x3), some (.int x4)] [.int (bi b20)]
          refine x_if_ne (tgt := 57) C d_Brt_keep_52 (by decide) (fun c22 => ?_) (fun c22 => ?_)
          · have hw := hw.1 c22
            refine x_aload_n C d_Brt_keep_57 rfl ?_
            refine g_Brt_7 (p := 0) C rfl fl_Brt_49 d_Brt_keep_58 ?_
            refine x_iload_n C d_Brt_keep_61 rfl ?_
            obtain ⟨h23, hw⟩ := hw
            refine x_aald C h23 d_Brt_keep_62 ?_
            refine x_iload_n C d_Brt_keep_63 rfl ?_
            refine x_iload C d_Brt_keep_64 rfl ?_
            refine x_callV (As := [.int x3, .int x4]) (rest := []) (p := (shp x1)) C (m_She_holdKind (xg X) C.2.2.2.2.2.2.1 (shp x1) x3 x4 (shp_kd h23) s _ hw) cw_She_holdKind ml_Brt_349 (shp_kd h23) (by decide) (by decide) rfl rfl rfl ⟨rfl, rfl, Nat.le_of_ble_eq_true rfl, Nat.le_of_ble_eq_true rfl⟩ ⟨Nat.zero_le _, Nat.zero_le _⟩ rfl (Nat.le_of_ble_eq_true rfl) d_Brt_keep_66 ?_
            rintro _ s24 ⟨rfl, hw⟩
            show V X _ _ _ _ 69 [some (.ref (xa X 0)), some (.int x1), some (.int x2), some (.int x3), some (.int x4)] []
            refine x_iconst (v := 0) C d_Brt_keep_69 rfl ?_
            exact x_ireturn C d_Brt_keep_70 ⟨_, rfl, hw⟩
          · have hw := hw.2 c22
            refine x_iconst (v := (-1)) C d_Brt_keep_55 rfl ?_
            exact x_ireturn C d_Brt_keep_56 ⟨_, rfl, hw⟩
      · have hw := hw.2 c16
        refine x_aload_n C d_Brt_keep_22 rfl ?_
        refine g_Brt_7 (p := 0) C rfl fl_Brt_49 d_Brt_keep_23 ?_
        refine x_iload_n C d_Brt_keep_26 rfl ?_
        obtain ⟨h25, hw⟩ := hw
        refine x_aald C h25 d_Brt_keep_27 ?_
        refine x_iconst (v := 0) C d_Brt_keep_28 rfl ?_
        refine p_She_0 (p := (shp x1)) C (shp_kd h25) fl_Brt_346 d_Brt_keep_29 ?_
        refine x_st (fun s26 hs26 => ?_)
        have hw := hw s26 hs26
        refine x_iconst (v := 0) C d_Brt_keep_32 rfl ?_
        exact x_ireturn C d_Brt_keep_33 ⟨_, rfl, hw⟩
    · have hw := hw.2 c15
      refine x_iconst (v := (-1)) C d_Brt_keep_16 rfl ?_
      exact x_ireturn C d_Brt_keep_17 ⟨_, rfl, hw⟩
def vc_Brt_row (x1 : Int32) (x2 : Int32) (x3 : Int32) (s : St) (Q : Int32 → St → Prop) : Prop :=
    vc_Brt_isShelf x1 (fun b10 => (((bi b10) = 0 → Q (-1) s) ∧ (¬ (bi b10) = 0 → vc_Brt_within x2 0 2 (fun b13 => (((bi b13) = 0 → Q (-1) s) ∧ (¬ (bi b13) = 0 → ((x3 ≤ 100 → ((0 ≤ x3 → (vp_in x1 8 ∧ vc_She_holdRow (shp x1) x2 x3 s (fun s19 => Q 0 s19))) ∧ (¬ 0 ≤ x3 → Q (-14) s))) ∧ (¬ x3 ≤ 100 → Q (-1) s))))))))
def rm_Brt_row : Room := { frames := 2, cells := 0, slots := 0, locals := 45 }
set_option maxHeartbeats 4000000 in
set_option maxRecDepth 20000 in
theorem m_Brt_row (g : Gx) (hg : gOk g) (x1 : Int32) (x2 : Int32) (x3 : Int32)  (s : St) (Q : Int32 → St → Prop) (hw : vc_Brt_row x1 x2 x3 s Q) : Mc g y_Brt_row b_Brt_row 4 (some FieldType.int) rm_Brt_row [.ref (ga g 0), .int x1, .int x2, .int x3] s (fun v s' => ∃ r : Int32, v = some (.int r) ∧ Q r s') := by
  refine mc_ofV (j := 0) (L := [some (.ref (ga g 0)), some (.int x1), some (.int x2), some (.int x3)]) hg (by decide) (Nat.le_of_ble_eq_true rfl) rfl ?_
  intro X hX C
  subst hX
  unfold vc_Brt_row at hw
  refine x_iload_n C d_Brt_row_0 rfl ?_
  refine x_callS (As := [.int x1]) (rest := []) C (m_Brt_isShelf (xg X) C.2.2.2.2.2.2.1 x1 s _ hw) cw_Brt_isShelf ml_Brt_343 rfl ⟨rfl, rfl, Nat.le_of_ble_eq_true rfl, Nat.le_of_ble_eq_true rfl⟩ ⟨Nat.zero_le _, Nat.zero_le _⟩ rfl (Nat.le_of_ble_eq_true rfl) d_Brt_row_1 ?_
  rintro _ _ ⟨b10, rfl, rfl, hw⟩
  show V X _ _ _ _ 4 [some (.ref (xa X 0)), some (.int x1), some (.int x2), some (.int x3)] [.int (bi b10)]
  refine x_if_eq (tgt := 22) C d_Brt_row_4 (by decide) (fun c12 => ?_) (fun c12 => ?_)
  · have hw := hw.1 c12
    refine x_iconst (v := (-1)) C d_Brt_row_22 rfl ?_
    exact x_ireturn C d_Brt_row_23 ⟨_, rfl, hw⟩
  · have hw := hw.2 c12
    refine x_iload_n C d_Brt_row_7 rfl ?_
    refine x_iconst (v := 0) C d_Brt_row_8 rfl ?_
    refine x_iconst (v := 2) C d_Brt_row_9 rfl ?_
    refine x_callS (As := [.int x2, .int 0, .int 2]) (rest := []) C (m_Brt_within (xg X) C.2.2.2.2.2.2.1 x2 0 2 s _ hw) cw_Brt_within ml_Brt_185 rfl ⟨rfl, rfl, Nat.le_of_ble_eq_true rfl, Nat.le_of_ble_eq_true rfl⟩ ⟨Nat.zero_le _, Nat.zero_le _⟩ rfl (Nat.le_of_ble_eq_true rfl) d_Brt_row_10 ?_
    rintro _ _ ⟨b13, rfl, rfl, hw⟩
    show V X _ _ _ _ 13 [some (.ref (xa X 0)), some (.int x1), some (.int x2), some (.int x3)] [.int (bi b13)]
    refine x_if_eq (tgt := 22) C d_Brt_row_13 (by decide) (fun c15 => ?_) (fun c15 => ?_)
    · have hw := hw.1 c15
      refine x_iconst (v := (-1)) C d_Brt_row_22 rfl ?_
      exact x_ireturn C d_Brt_row_23 ⟨_, rfl, hw⟩
    · have hw := hw.2 c15
      refine x_iload_n C d_Brt_row_16 rfl ?_
      refine x_bipush (v := 100) C d_Brt_row_17 rfl ?_
      refine x_icmp_le (tgt := 24) C d_Brt_row_19 (by decide) (fun c16 => ?_) (fun c16 => ?_)
      · have hw := hw.1 c16
        refine x_iload_n C d_Brt_row_24 rfl ?_
        refine x_if_ge (tgt := 31) C d_Brt_row_25 (by decide) (fun c17 => ?_) (fun c17 => ?_)
        · have hw := hw.1 c17
          refine x_aload_n C d_Brt_row_31 rfl ?_
          refine g_Brt_7 (p := 0) C rfl fl_Brt_49 d_Brt_row_32 ?_
          refine x_iload_n C d_Brt_row_35 rfl ?_
          obtain ⟨h18, hw⟩ := hw
          refine x_aald C h18 d_Brt_row_36 ?_
          refine x_iload_n C d_Brt_row_37 rfl ?_
          refine x_iload_n C d_Brt_row_38 rfl ?_
          refine x_callV (As := [.int x2, .int x3]) (rest := []) (p := (shp x1)) C (m_She_holdRow (xg X) C.2.2.2.2.2.2.1 (shp x1) x2 x3 (shp_kd h18) s _ hw) cw_She_holdRow ml_Brt_353 (shp_kd h18) (by decide) (by decide) rfl rfl rfl ⟨rfl, rfl, Nat.le_of_ble_eq_true rfl, Nat.le_of_ble_eq_true rfl⟩ ⟨Nat.zero_le _, Nat.zero_le _⟩ rfl (Nat.le_of_ble_eq_true rfl) d_Brt_row_39 ?_
          rintro _ s19 ⟨rfl, hw⟩
          show V X _ _ _ _ 42 [some (.ref (xa X 0)), some (.int x1), some (.int x2), some (.int x3)] []
          refine x_iconst (v := 0) C d_Brt_row_42 rfl ?_
          exact x_ireturn C d_Brt_row_43 ⟨_, rfl, hw⟩
        · have hw := hw.2 c17
          refine x_bipush (v := (-14)) C d_Brt_row_28 rfl ?_
          exact x_ireturn C d_Brt_row_30 ⟨_, rfl, hw⟩
      · have hw := hw.2 c16
        refine x_iconst (v := (-1)) C d_Brt_row_22 rfl ?_
        exact x_ireturn C d_Brt_row_23 ⟨_, rfl, hw⟩
def vc_Brt_put (x1 : Int32) (x2 : Int32) (x3 : Int32) (s : St) (Q : Int32 → St → Prop) : Prop :=
    vc_Brt_refusalOfRow x1 s (fun x10 => ((x10 = 0 → (vp_in x1 8 ∧ vc_She_hasPlace (shp x1) x2 s (fun b14 => ((¬ (bi b14) = 0 → (vp_in x1 8 ∧ vc_She_write (shp x1) x2 x3 s (fun s18 => Q 0 s18))) ∧ ((bi b14) = 0 → Q (-13) s))))) ∧ (¬ x10 = 0 → Q x10 s)))
def rm_Brt_put : Room := { frames := 4, cells := 0, slots := 0, locals := 85 }
set_option maxHeartbeats 4000000 in
set_option maxRecDepth 20000 in
theorem m_Brt_put (g : Gx) (hg : gOk g) (x1 : Int32) (x2 : Int32) (x3 : Int32)  (s : St) (Q : Int32 → St → Prop) (hw : vc_Brt_put x1 x2 x3 s Q) : Mc g y_Brt_put b_Brt_put 5 (some FieldType.int) rm_Brt_put [.ref (ga g 0), .int x1, .int x2, .int x3] s (fun v s' => ∃ r : Int32, v = some (.int r) ∧ Q r s') := by
  refine mc_ofV (j := 1) (L := [some (.ref (ga g 0)), some (.int x1), some (.int x2), some (.int x3), none]) hg (by decide) (Nat.le_of_ble_eq_true rfl) rfl ?_
  intro X hX C
  subst hX
  unfold vc_Brt_put at hw
  refine x_aload_n C d_Brt_put_0 rfl ?_
  refine x_iload_n C d_Brt_put_1 rfl ?_
  refine x_callV (As := [.int x1]) (rest := []) (p := 0) C (m_Brt_refusalOfRow (xg X) C.2.2.2.2.2.2.1 x1 s _ hw) cw_Brt_refusalOfRow ml_Brt_58 rfl (by decide) (by decide) rfl rfl rfl ⟨rfl, rfl, Nat.le_of_ble_eq_true rfl, Nat.le_of_ble_eq_true rfl⟩ ⟨Nat.zero_le _, Nat.zero_le _⟩ rfl (Nat.le_of_ble_eq_true rfl) d_Brt_put_2 ?_
  rintro _ _ ⟨x10, rfl, rfl, hw⟩
  show V X _ _ _ _ 5 [some (.ref (xa X 0)), some (.int x1), some (.int x2), some (.int x3), none] [.int x10]
  refine x_istore (L' := [some (.ref (xa X 0)), some (.int x1), some (.int x2), some (.int x3), some (.int x10)]) C d_Brt_put_5 (Nat.le_of_ble_eq_true rfl) rfl ?_
  refine x_iload C d_Brt_put_7 rfl ?_
  refine x_if_eq (tgt := 15) C d_Brt_put_9 (by decide) (fun c12 => ?_) (fun c12 => ?_)
  · have hw := hw.1 c12
    refine x_aload_n C d_Brt_put_15 rfl ?_
    refine g_Brt_7 (p := 0) C rfl fl_Brt_49 d_Brt_put_16 ?_
    refine x_iload_n C d_Brt_put_19 rfl ?_
    obtain ⟨h13, hw⟩ := hw
    refine x_aald C h13 d_Brt_put_20 ?_
    refine x_iload_n C d_Brt_put_21 rfl ?_
    refine x_callV (As := [.int x2]) (rest := []) (p := (shp x1)) C (m_She_hasPlace (xg X) C.2.2.2.2.2.2.1 (shp x1) x2 (shp_kd h13) s _ hw) cw_She_hasPlace ml_Brt_356 (shp_kd h13) (by decide) (by decide) rfl rfl rfl ⟨rfl, rfl, Nat.le_of_ble_eq_true rfl, Nat.le_of_ble_eq_true rfl⟩ ⟨Nat.zero_le _, Nat.zero_le _⟩ rfl (Nat.le_of_ble_eq_true rfl) d_Brt_put_22 ?_
    rintro _ _ ⟨b14, rfl, rfl, hw⟩
    show V X _ _ _ _ 25 [some (.ref (xa X 0)), some (.int x1), some (.int x2), some (.int x3), some (.int x10)] [.int (bi b14)]
    refine x_if_ne (tgt := 31) C d_Brt_put_25 (by decide) (fun c16 => ?_) (fun c16 => ?_)
    · have hw := hw.1 c16
      refine x_aload_n C d_Brt_put_31 rfl ?_
      refine g_Brt_7 (p := 0) C rfl fl_Brt_49 d_Brt_put_32 ?_
      refine x_iload_n C d_Brt_put_35 rfl ?_
      obtain ⟨h17, hw⟩ := hw
      refine x_aald C h17 d_Brt_put_36 ?_
      refine x_iload_n C d_Brt_put_37 rfl ?_
      refine x_iload_n C d_Brt_put_38 rfl ?_
      refine x_callV (As := [.int x2, .int x3]) (rest := []) (p := (shp x1)) C (m_She_write (xg X) C.2.2.2.2.2.2.1 (shp x1) x2 x3 (shp_kd h17) s _ hw) cw_She_write ml_Brt_359 (shp_kd h17) (by decide) (by decide) rfl rfl rfl ⟨rfl, rfl, Nat.le_of_ble_eq_true rfl, Nat.le_of_ble_eq_true rfl⟩ ⟨Nat.zero_le _, Nat.zero_le _⟩ rfl (Nat.le_of_ble_eq_true rfl) d_Brt_put_39 ?_
      rintro _ s18 ⟨rfl, hw⟩
      show V X _ _ _ _ 42 [some (.ref (xa X 0)), some (.int x1), some (.int x2), some (.int x3), some (.int x10)] []
      refine x_iconst (v := 0) C d_Brt_put_42 rfl ?_
      exact x_ireturn C d_Brt_put_43 ⟨_, rfl, hw⟩
    · have hw := hw.2 c16
      refine x_bipush (v := (-13)) C d_Brt_put_28 rfl ?_
      exact x_ireturn C d_Brt_put_30 ⟨_, rfl, hw⟩
  · have hw := hw.2 c12
    refine x_iload C d_Brt_put_12 rfl ?_
    exact x_ireturn C d_Brt_put_14 ⟨_, rfl, hw⟩
def vc_Brt_copy (x1 : Int32) (x2 : Int32) (x3 : Int32) (x4 : Int32) (x5 : Int32) (s : St) (Q : Int32 → St → Prop) : Prop :=
    vc_Brt_isShelf x1 (fun b10 => (((bi b10) = 0 → Q (-1) s) ∧ (¬ (bi b10) = 0 → vc_Brt_isShelf x3 (fun b13 => ((¬ (bi b13) = 0 → (vp_in x1 8 ∧ (vp_in x3 8 ∧ (((s (shp x1) 0) = 0 → Q (-11) s) ∧ (¬ (s (shp x1) 0) = 0 → ((¬ (s (shp x3) 0) = 0 → ((¬ (s (shp x1) 0) = 2 → Q (-12) s) ∧ ((s (shp x1) 0) = 2 → ((¬ (s (shp x3) 0) = 2 → Q (-12) s) ∧ ((s (shp x3) 0) = 2 → (((s (shp x1) 3) = (s (shp x3) 3) → ((x5 < 0 → Q (-13) s) ∧ (¬ x5 < 0 → vc_She_hasPlaces (shp x1) x2 x5 s (fun b24 => (((bi b24) = 0 → Q (-13) s) ∧ (¬ (bi b24) = 0 → vc_She_hasPlaces (shp x3) x4 x5 s (fun b27 => ((¬ (bi b27) = 0 → (cpok x2 x4 x5 100 100 ∧ (∀ s31 : St, s31 = wcp s (shp x1 + 1) (shp x3 + 1) (Int32.toNatClampNeg x2) (Int32.toNatClampNeg x4) (Int32.toNatClampNeg x5) → Q x5 s31))) ∧ ((bi b27) = 0 → Q (-13) s))))))))) ∧ (¬ (s (shp x1) 3) = (s (shp x3) 3) → Q (-12) s))))))) ∧ ((s (shp x3) 0) = 0 → Q (-11) s))))))) ∧ ((bi b13) = 0 → Q (-1) s))))))
def rm_Brt_copy : Room := { frames := 2, cells := 0, slots := 0, locals := 44 }
set_option maxHeartbeats 4000000 in
set_option maxRecDepth 20000 in
theorem m_Brt_copy (g : Gx) (hg : gOk g) (x1 : Int32) (x2 : Int32) (x3 : Int32) (x4 : Int32) (x5 : Int32)  (s : St) (Q : Int32 → St → Prop) (hw : vc_Brt_copy x1 x2 x3 x4 x5 s Q) : Mc g y_Brt_copy b_Brt_copy 8 (some FieldType.int) rm_Brt_copy [.ref (ga g 0), .int x1, .int x2, .int x3, .int x4, .int x5] s (fun v s' => ∃ r : Int32, v = some (.int r) ∧ Q r s') := by
  refine mc_ofV (j := 2) (L := [some (.ref (ga g 0)), some (.int x1), some (.int x2), some (.int x3), some (.int x4), some (.int x5), none, none]) hg (by decide) (Nat.le_of_ble_eq_true rfl) rfl ?_
  intro X hX C
  subst hX
  unfold vc_Brt_copy at hw
  refine x_iload_n C d_Brt_copy_0 rfl ?_
  refine x_callS (As := [.int x1]) (rest := []) C (m_Brt_isShelf (xg X) C.2.2.2.2.2.2.1 x1 s _ hw) cw_Brt_isShelf ml_Brt_343 rfl ⟨rfl, rfl, Nat.le_of_ble_eq_true rfl, Nat.le_of_ble_eq_true rfl⟩ ⟨Nat.zero_le _, Nat.zero_le _⟩ rfl (Nat.le_of_ble_eq_true rfl) d_Brt_copy_1 ?_
  rintro _ _ ⟨b10, rfl, rfl, hw⟩
  show V X _ _ _ _ 4 [some (.ref (xa X 0)), some (.int x1), some (.int x2), some (.int x3), some (.int x4), some (.int x5), none, none] [.int (bi b10)]
  refine x_if_eq (tgt := 14) C d_Brt_copy_4 (by decide) (fun c12 => ?_) (fun c12 => ?_)
  · have hw := hw.1 c12
    refine x_iconst (v := (-1)) C d_Brt_copy_14 rfl ?_
    exact x_ireturn C d_Brt_copy_15 ⟨_, rfl, hw⟩
  · have hw := hw.2 c12
    refine x_iload_n C d_Brt_copy_7 rfl ?_
    refine x_callS (As := [.int x3]) (rest := []) C (m_Brt_isShelf (xg X) C.2.2.2.2.2.2.1 x3 s _ hw) cw_Brt_isShelf ml_Brt_343 rfl ⟨rfl, rfl, Nat.le_of_ble_eq_true rfl, Nat.le_of_ble_eq_true rfl⟩ ⟨Nat.zero_le _, Nat.zero_le _⟩ rfl (Nat.le_of_ble_eq_true rfl) d_Brt_copy_8 ?_
    rintro _ _ ⟨b13, rfl, rfl, hw⟩
    show V X _ _ _ _ 11 [some (.ref (xa X 0)), some (.int x1), some (.int x2), some (.int x3), some (.int x4), some (.int x5), none, none] [.int (bi b13)]
    refine x_if_ne (tgt := 16) C d_Brt_copy_11 (by decide) (fun c15 => ?_) (fun c15 => ?_)
    · have hw := hw.1 c15
      refine x_aload_n C d_Brt_copy_16 rfl ?_
      refine g_Brt_7 (p := 0) C rfl fl_Brt_49 d_Brt_copy_17 ?_
      refine x_iload_n C d_Brt_copy_20 rfl ?_
      obtain ⟨h16, hw⟩ := hw
      refine x_aald C h16 d_Brt_copy_21 ?_
      refine x_astore (L' := [some (.ref (xa X 0)), some (.int x1), some (.int x2), some (.int x3), some (.int x4), some (.int x5), some (.ref (xa X (shp x1))), none]) C d_Brt_copy_22 (Nat.le_of_ble_eq_true rfl) rfl ?_
      refine x_aload_n C d_Brt_copy_24 rfl ?_
      refine g_Brt_7 (p := 0) C rfl fl_Brt_49 d_Brt_copy_25 ?_
      refine x_iload_n C d_Brt_copy_28 rfl ?_
      obtain ⟨h17, hw⟩ := hw
      refine x_aald C h17 d_Brt_copy_29 ?_
      refine x_astore (L' := [some (.ref (xa X 0)), some (.int x1), some (.int x2), some (.int x3), some (.int x4), some (.int x5), some (.ref (xa X (shp x1))), some (.ref (xa X (shp x3)))]) C d_Brt_copy_30 (Nat.le_of_ble_eq_true rfl) rfl ?_
      refine x_aload C d_Brt_copy_32 rfl ?_
      refine g_She_0 (p := (shp x1)) C (shp_kd h16) fl_Brt_346 d_Brt_copy_34 ?_
      refine x_if_eq (tgt := 48) C d_Brt_copy_37 (by decide) (fun c18 => ?_) (fun c18 => ?_)
      · have hw := hw.1 c18
        refine x_bipush (v := (-11)) C d_Brt_copy_48 rfl ?_
        exact x_ireturn C d_Brt_copy_50 ⟨_, rfl, hw⟩
      · have hw := hw.2 c18
        refine x_aload C d_Brt_copy_40 rfl ?_
        refine g_She_0 (p := (shp x3)) C (shp_kd h17) fl_Brt_346 d_Brt_copy_42 ?_
        refine x_if_ne (tgt := 51) C d_Brt_copy_45 (by decide) (fun c19 => ?_) (fun c19 => ?_)
        · have hw := hw.1 c19
          refine x_aload C d_Brt_copy_51 rfl ?_
          refine g_She_0 (p := (shp x1)) C (shp_kd h16) fl_Brt_346 d_Brt_copy_53 ?_
          refine x_iconst (v := 2) C d_Brt_copy_56 rfl ?_
          refine x_icmp_ne (tgt := 82) C d_Brt_copy_57 (by decide) (fun c20 => ?_) (fun c20 => ?_)
          · have hw := hw.1 c20
            refine x_bipush (v := (-12)) C d_Brt_copy_82 rfl ?_
            exact x_ireturn C d_Brt_copy_84 ⟨_, rfl, hw⟩
          · have hw := hw.2 c20
            refine x_aload C d_Brt_copy_60 rfl ?_
            refine g_She_0 (p := (shp x3)) C (shp_kd h17) fl_Brt_346 d_Brt_copy_62 ?_
            refine x_iconst (v := 2) C d_Brt_copy_65 rfl ?_
            refine x_icmp_ne (tgt := 82) C d_Brt_copy_66 (by decide) (fun c21 => ?_) (fun c21 => ?_)
            · have hw := hw.1 c21
              refine x_bipush (v := (-12)) C d_Brt_copy_82 rfl ?_
              exact x_ireturn C d_Brt_copy_84 ⟨_, rfl, hw⟩
            · have hw := hw.2 c21
              refine x_aload C d_Brt_copy_69 rfl ?_
              refine g_She_3 (p := (shp x1)) C (shp_kd h16) fl_Brt_62 d_Brt_copy_71 ?_
              refine x_aload C d_Brt_copy_74 rfl ?_
              refine g_She_3 (p := (shp x3)) C (shp_kd h17) fl_Brt_62 d_Brt_copy_76 ?_
              refine x_icmp_eq (tgt := 85) C d_Brt_copy_79 (by decide) (fun c22 => ?_) (fun c22 => ?_)
              · have hw := hw.1 c22
                refine x_iload C d_Brt_copy_85 rfl ?_
                refine x_if_lt (tgt := 113) C d_Brt_copy_87 (by decide) (fun c23 => ?_) (fun c23 => ?_)
                · have hw := hw.1 c23
                  refine x_bipush (v := (-13)) C d_Brt_copy_113 rfl ?_
                  exact x_ireturn C d_Brt_copy_115 ⟨_, rfl, hw⟩
                · have hw := hw.2 c23
                  refine x_aload C d_Brt_copy_90 rfl ?_
                  refine x_iload_n C d_Brt_copy_92 rfl ?_
                  refine x_iload C d_Brt_copy_93 rfl ?_
                  refine x_callV (As := [.int x2, .int x5]) (rest := []) (p := (shp x1)) C (m_She_hasPlaces (xg X) C.2.2.2.2.2.2.1 (shp x1) x2 x5 (shp_kd h16) s _ hw) cw_She_hasPlaces ml_Brt_376 (shp_kd h16) (by decide) (by decide) rfl rfl rfl ⟨rfl, rfl, Nat.le_of_ble_eq_true rfl, Nat.le_of_ble_eq_true rfl⟩ ⟨Nat.zero_le _, Nat.zero_le _⟩ rfl (Nat.le_of_ble_eq_true rfl) d_Brt_copy_95 ?_
                  rintro _ _ ⟨b24, rfl, rfl, hw⟩
                  show V X _ _ _ _ 98 [some (.ref (xa X 0)), some (.int x1), some (.int x2), some (.int x3), some (.int x4), some (.int x5), some (.ref (xa X (shp x1))), some (.ref (xa X (shp x3)))] [.int (bi b24)]
                  refine x_if_eq (tgt := 113) C d_Brt_copy_98 (by decide) (fun c26 => ?_) (fun c26 => ?_)
                  · have hw := hw.1 c26
                    refine x_bipush (v := (-13)) C d_Brt_copy_113 rfl ?_
                    exact x_ireturn C d_Brt_copy_115 ⟨_, rfl, hw⟩
                  · have hw := hw.2 c26
                    refine x_aload C d_Brt_copy_101 rfl ?_
                    refine x_iload C d_Brt_copy_103 rfl ?_
                    refine x_iload C d_Brt_copy_105 rfl ?_
                    refine x_callV (As := [.int x4, .int x5]) (rest := []) (p := (shp x3)) C (m_She_hasPlaces (xg X) C.2.2.2.2.2.2.1 (shp x3) x4 x5 (shp_kd h17) s _ hw) cw_She_hasPlaces ml_Brt_376 (shp_kd h17) (by decide) (by decide) rfl rfl rfl ⟨rfl, rfl, Nat.le_of_ble_eq_true rfl, Nat.le_of_ble_eq_true rfl⟩ ⟨Nat.zero_le _, Nat.zero_le _⟩ rfl (Nat.le_of_ble_eq_true rfl) d_Brt_copy_107 ?_
                    rintro _ _ ⟨b27, rfl, rfl, hw⟩
                    show V X _ _ _ _ 110 [some (.ref (xa X 0)), some (.int x1), some (.int x2), some (.int x3), some (.int x4), some (.int x5), some (.ref (xa X (shp x1))), some (.ref (xa X (shp x3)))] [.int (bi b27)]
                    refine x_if_ne (tgt := 116) C d_Brt_copy_110 (by decide) (fun c29 => ?_) (fun c29 => ?_)
                    · have hw := hw.1 c29
                      refine x_aload C d_Brt_copy_116 rfl ?_
                      refine g_She_5 (p := (shp x1)) C (shp_kd h16) fl_Brt_83 d_Brt_copy_118 ?_
                      refine x_iload_n C d_Brt_copy_121 rfl ?_
                      refine x_aload C d_Brt_copy_122 rfl ?_
                      refine g_She_5 (p := (shp x3)) C (shp_kd h17) fl_Brt_83 d_Brt_copy_124 ?_
                      refine x_iload C d_Brt_copy_127 rfl ?_
                      refine x_iload C d_Brt_copy_129 rfl ?_
                      obtain ⟨h30, hw⟩ := hw
                      refine x_copy (d := (shp x1 + 1)) (e := (shp x3 + 1)) (n0 := 100) (n1 := 100) C (ks_9_1 (shp_kd h16)) (ks_9_1 (shp_kd h17)) h30 ml_Brt_379 (Nat.le_of_ble_eq_true rfl) (Nat.le_of_ble_eq_true rfl) d_Brt_copy_131 ?_
                      refine x_st (fun s31 hs31 => ?_)
                      have hw := hw s31 hs31
                      refine x_iload C d_Brt_copy_134 rfl ?_
                      exact x_ireturn C d_Brt_copy_136 ⟨_, rfl, hw⟩
                    · have hw := hw.2 c29
                      refine x_bipush (v := (-13)) C d_Brt_copy_113 rfl ?_
                      exact x_ireturn C d_Brt_copy_115 ⟨_, rfl, hw⟩
              · have hw := hw.2 c22
                refine x_bipush (v := (-12)) C d_Brt_copy_82 rfl ?_
                exact x_ireturn C d_Brt_copy_84 ⟨_, rfl, hw⟩
        · have hw := hw.2 c19
          refine x_bipush (v := (-11)) C d_Brt_copy_48 rfl ?_
          exact x_ireturn C d_Brt_copy_50 ⟨_, rfl, hw⟩
    · have hw := hw.2 c15
      refine x_iconst (v := (-1)) C d_Brt_copy_14 rfl ?_
      exact x_ireturn C d_Brt_copy_15 ⟨_, rfl, hw⟩
def vc_Brt_cost (x1 : Int32) (s : St) (Q : Int32 → Prop) : Prop :=
    vc_Brt_refusalOfKind x1 s (fun x10 => ((x10 = 0 → (vp_in x1 8 ∧ (vp_in x1 8 ∧ vc_Kin_costOf 2 (s (shp x1) 1) (s (shp x1) 2) (fun x15 => Q x15)))) ∧ (¬ x10 = 0 → Q x10)))
def rm_Brt_cost : Room := { frames := 4, cells := 0, slots := 0, locals := 85 }
set_option maxHeartbeats 4000000 in
set_option maxRecDepth 20000 in
theorem m_Brt_cost (g : Gx) (hg : gOk g) (x1 : Int32)  (s : St) (Q : Int32 → Prop) (hw : vc_Brt_cost x1 s Q) : Mc g y_Brt_cost b_Brt_cost 3 (some FieldType.int) rm_Brt_cost [.ref (ga g 0), .int x1] s (fun v s' => ∃ r : Int32, v = some (.int r) ∧ s = s' ∧ Q r) := by
  refine mc_ofV (j := 1) (L := [some (.ref (ga g 0)), some (.int x1), none]) hg (by decide) (Nat.le_of_ble_eq_true rfl) rfl ?_
  intro X hX C
  subst hX
  unfold vc_Brt_cost at hw
  refine x_aload_n C d_Brt_cost_0 rfl ?_
  refine x_iload_n C d_Brt_cost_1 rfl ?_
  refine x_callV (As := [.int x1]) (rest := []) (p := 0) C (m_Brt_refusalOfKind (xg X) C.2.2.2.2.2.2.1 x1 s _ hw) cw_Brt_refusalOfKind ml_Brt_155 rfl (by decide) (by decide) rfl rfl rfl ⟨rfl, rfl, Nat.le_of_ble_eq_true rfl, Nat.le_of_ble_eq_true rfl⟩ ⟨Nat.zero_le _, Nat.zero_le _⟩ rfl (Nat.le_of_ble_eq_true rfl) d_Brt_cost_2 ?_
  rintro _ _ ⟨x10, rfl, rfl, hw⟩
  show V X _ _ _ _ 5 [some (.ref (xa X 0)), some (.int x1), none] [.int x10]
  refine x_istore_n (L' := [some (.ref (xa X 0)), some (.int x1), some (.int x10)]) C d_Brt_cost_5 (Nat.le_of_ble_eq_true rfl) rfl ?_
  refine x_iload_n C d_Brt_cost_6 rfl ?_
  refine x_if_eq (tgt := 14) C d_Brt_cost_7 (by decide) (fun c12 => ?_) (fun c12 => ?_)
  · have hw := hw.1 c12
    refine x_aload_n C d_Brt_cost_14 rfl ?_
    refine g_Brt_7 (p := 0) C rfl fl_Brt_49 d_Brt_cost_15 ?_
    refine x_iload_n C d_Brt_cost_18 rfl ?_
    obtain ⟨h13, hw⟩ := hw
    refine x_aald C h13 d_Brt_cost_19 ?_
    refine g_She_1 (p := (shp x1)) C (shp_kd h13) fl_Brt_158 d_Brt_cost_20 ?_
    refine x_aload_n C d_Brt_cost_23 rfl ?_
    refine g_Brt_7 (p := 0) C rfl fl_Brt_49 d_Brt_cost_24 ?_
    refine x_iload_n C d_Brt_cost_27 rfl ?_
    obtain ⟨h14, hw⟩ := hw
    refine x_aald C h14 d_Brt_cost_28 ?_
    refine g_She_2 (p := (shp x1)) C (shp_kd h14) fl_Brt_160 d_Brt_cost_29 ?_
    refine x_callS (As := [.int (s (shp x1) 1), .int (s (shp x1) 2)]) (rest := []) C (m_Kin_costOf (xg X) C.2.2.2.2.2.2.1 2 (s (shp x1) 1) (s (shp x1) 2) s _ hw) cw_Kin_costOf ml_Brt_385 rfl ⟨rfl, rfl, Nat.le_of_ble_eq_true rfl, Nat.le_of_ble_eq_true rfl⟩ ⟨Nat.zero_le _, Nat.zero_le _⟩ rfl (Nat.le_of_ble_eq_true rfl) d_Brt_cost_32 ?_
    rintro _ _ ⟨x15, rfl, rfl, hw⟩
    show V X _ _ _ _ 35 [some (.ref (xa X 0)), some (.int x1), some (.int x10)] [.int x15]
    exact x_ireturn C d_Brt_cost_35 ⟨_, rfl, rfl, hw⟩
  · have hw := hw.2 c12
    refine x_iload_n C d_Brt_cost_10 rfl ?_
    refine x_goto (tgt := 35) C d_Brt_cost_11 (by decide) ?_
    exact x_ireturn C d_Brt_cost_35 ⟨_, rfl, rfl, hw⟩
