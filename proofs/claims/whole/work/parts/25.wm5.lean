theorem d_Mod_copy_0 : decode b_Mod_copy 0 = .ok (.iload_n 1, 1) := by decide +kernel
theorem d_Mod_copy_1 : decode b_Mod_copy 1 = .ok (.invokestatic 206, 3) := by decide +kernel
theorem d_Mod_copy_4 : decode b_Mod_copy 4 = .ok (.ifCond .eq 10, 3) := by decide +kernel
theorem d_Mod_copy_7 : decode b_Mod_copy 7 = .ok (.iload_n 3, 1) := by decide +kernel
theorem d_Mod_copy_8 : decode b_Mod_copy 8 = .ok (.invokestatic 206, 3) := by decide +kernel
theorem d_Mod_copy_11 : decode b_Mod_copy 11 = .ok (.ifCond .ne 5, 3) := by decide +kernel
theorem d_Mod_copy_14 : decode b_Mod_copy 14 = .ok (.iconst (-1), 1) := by decide +kernel
theorem d_Mod_copy_15 : decode b_Mod_copy 15 = .ok (.ireturn, 1) := by decide +kernel
theorem d_Mod_copy_16 : decode b_Mod_copy 16 = .ok (.aload_n 0, 1) := by decide +kernel
theorem d_Mod_copy_17 : decode b_Mod_copy 17 = .ok (.getfield 37, 3) := by decide +kernel
theorem d_Mod_copy_20 : decode b_Mod_copy 20 = .ok (.iload_n 1, 1) := by decide +kernel
theorem d_Mod_copy_21 : decode b_Mod_copy 21 = .ok (.iaload, 1) := by decide +kernel
theorem d_Mod_copy_22 : decode b_Mod_copy 22 = .ok (.ifCond .eq 12, 3) := by decide +kernel
theorem d_Mod_copy_25 : decode b_Mod_copy 25 = .ok (.aload_n 0, 1) := by decide +kernel
theorem d_Mod_copy_26 : decode b_Mod_copy 26 = .ok (.getfield 37, 3) := by decide +kernel
theorem d_Mod_copy_29 : decode b_Mod_copy 29 = .ok (.iload_n 3, 1) := by decide +kernel
theorem d_Mod_copy_30 : decode b_Mod_copy 30 = .ok (.iaload, 1) := by decide +kernel
theorem d_Mod_copy_31 : decode b_Mod_copy 31 = .ok (.ifCond .ne 6, 3) := by decide +kernel
theorem d_Mod_copy_34 : decode b_Mod_copy 34 = .ok (.bipush (-11), 2) := by decide +kernel
theorem d_Mod_copy_36 : decode b_Mod_copy 36 = .ok (.ireturn, 1) := by decide +kernel
theorem d_Mod_copy_37 : decode b_Mod_copy 37 = .ok (.aload_n 0, 1) := by decide +kernel
theorem d_Mod_copy_38 : decode b_Mod_copy 38 = .ok (.getfield 37, 3) := by decide +kernel
theorem d_Mod_copy_41 : decode b_Mod_copy 41 = .ok (.iload_n 1, 1) := by decide +kernel
theorem d_Mod_copy_42 : decode b_Mod_copy 42 = .ok (.iaload, 1) := by decide +kernel
theorem d_Mod_copy_43 : decode b_Mod_copy 43 = .ok (.iconst 2, 1) := by decide +kernel
theorem d_Mod_copy_44 : decode b_Mod_copy 44 = .ok (.if_icmp .ne 28, 3) := by decide +kernel
theorem d_Mod_copy_47 : decode b_Mod_copy 47 = .ok (.aload_n 0, 1) := by decide +kernel
theorem d_Mod_copy_48 : decode b_Mod_copy 48 = .ok (.getfield 37, 3) := by decide +kernel
theorem d_Mod_copy_51 : decode b_Mod_copy 51 = .ok (.iload_n 3, 1) := by decide +kernel
theorem d_Mod_copy_52 : decode b_Mod_copy 52 = .ok (.iaload, 1) := by decide +kernel
theorem d_Mod_copy_53 : decode b_Mod_copy 53 = .ok (.iconst 2, 1) := by decide +kernel
theorem d_Mod_copy_54 : decode b_Mod_copy 54 = .ok (.if_icmp .ne 18, 3) := by decide +kernel
theorem d_Mod_copy_57 : decode b_Mod_copy 57 = .ok (.aload_n 0, 1) := by decide +kernel
theorem d_Mod_copy_58 : decode b_Mod_copy 58 = .ok (.getfield 46, 3) := by decide +kernel
theorem d_Mod_copy_61 : decode b_Mod_copy 61 = .ok (.iload_n 1, 1) := by decide +kernel
theorem d_Mod_copy_62 : decode b_Mod_copy 62 = .ok (.iaload, 1) := by decide +kernel
theorem d_Mod_copy_63 : decode b_Mod_copy 63 = .ok (.aload_n 0, 1) := by decide +kernel
theorem d_Mod_copy_64 : decode b_Mod_copy 64 = .ok (.getfield 46, 3) := by decide +kernel
theorem d_Mod_copy_67 : decode b_Mod_copy 67 = .ok (.iload_n 3, 1) := by decide +kernel
theorem d_Mod_copy_68 : decode b_Mod_copy 68 = .ok (.iaload, 1) := by decide +kernel
theorem d_Mod_copy_69 : decode b_Mod_copy 69 = .ok (.if_icmp .eq 6, 3) := by decide +kernel
theorem d_Mod_copy_72 : decode b_Mod_copy 72 = .ok (.bipush (-12), 2) := by decide +kernel
theorem d_Mod_copy_74 : decode b_Mod_copy 74 = .ok (.ireturn, 1) := by decide +kernel
theorem d_Mod_copy_75 : decode b_Mod_copy 75 = .ok (.iload 5, 2) := by decide +kernel
theorem d_Mod_copy_77 : decode b_Mod_copy 77 = .ok (.ifCond .lt 39, 3) := by decide +kernel
theorem d_Mod_copy_80 : decode b_Mod_copy 80 = .ok (.iload_n 2, 1) := by decide +kernel
theorem d_Mod_copy_81 : decode b_Mod_copy 81 = .ok (.ifCond .lt 35, 3) := by decide +kernel
theorem d_Mod_copy_84 : decode b_Mod_copy 84 = .ok (.iload 4, 2) := by decide +kernel
theorem d_Mod_copy_86 : decode b_Mod_copy 86 = .ok (.ifCond .lt 30, 3) := by decide +kernel
theorem d_Mod_copy_89 : decode b_Mod_copy 89 = .ok (.iload 5, 2) := by decide +kernel
theorem d_Mod_copy_91 : decode b_Mod_copy 91 = .ok (.aload_n 0, 1) := by decide +kernel
theorem d_Mod_copy_92 : decode b_Mod_copy 92 = .ok (.getfield 49, 3) := by decide +kernel
theorem d_Mod_copy_95 : decode b_Mod_copy 95 = .ok (.iload_n 1, 1) := by decide +kernel
theorem d_Mod_copy_96 : decode b_Mod_copy 96 = .ok (.iaload, 1) := by decide +kernel
theorem d_Mod_copy_97 : decode b_Mod_copy 97 = .ok (.iload_n 2, 1) := by decide +kernel
theorem d_Mod_copy_98 : decode b_Mod_copy 98 = .ok (.isub, 1) := by decide +kernel
theorem d_Mod_copy_99 : decode b_Mod_copy 99 = .ok (.if_icmp .gt 17, 3) := by decide +kernel
theorem d_Mod_copy_102 : decode b_Mod_copy 102 = .ok (.iload 5, 2) := by decide +kernel
theorem d_Mod_copy_104 : decode b_Mod_copy 104 = .ok (.aload_n 0, 1) := by decide +kernel
theorem d_Mod_copy_105 : decode b_Mod_copy 105 = .ok (.getfield 49, 3) := by decide +kernel
theorem d_Mod_copy_108 : decode b_Mod_copy 108 = .ok (.iload_n 3, 1) := by decide +kernel
theorem d_Mod_copy_109 : decode b_Mod_copy 109 = .ok (.iaload, 1) := by decide +kernel
theorem d_Mod_copy_110 : decode b_Mod_copy 110 = .ok (.iload 4, 2) := by decide +kernel
theorem d_Mod_copy_112 : decode b_Mod_copy 112 = .ok (.isub, 1) := by decide +kernel
theorem d_Mod_copy_113 : decode b_Mod_copy 113 = .ok (.if_icmp .le 6, 3) := by decide +kernel
theorem d_Mod_copy_116 : decode b_Mod_copy 116 = .ok (.bipush (-13), 2) := by decide +kernel
theorem d_Mod_copy_118 : decode b_Mod_copy 118 = .ok (.ireturn, 1) := by decide +kernel
theorem d_Mod_copy_119 : decode b_Mod_copy 119 = .ok (.iconst 0, 1) := by decide +kernel
theorem d_Mod_copy_120 : decode b_Mod_copy 120 = .ok (.istore 6, 2) := by decide +kernel
theorem d_Mod_copy_122 : decode b_Mod_copy 122 = .ok (.iload 6, 2) := by decide +kernel
theorem d_Mod_copy_124 : decode b_Mod_copy 124 = .ok (.iload 5, 2) := by decide +kernel
theorem d_Mod_copy_126 : decode b_Mod_copy 126 = .ok (.if_icmp .ge 58, 3) := by decide +kernel
theorem d_Mod_copy_129 : decode b_Mod_copy 129 = .ok (.iload_n 2, 1) := by decide +kernel
theorem d_Mod_copy_130 : decode b_Mod_copy 130 = .ok (.iload 4, 2) := by decide +kernel
theorem d_Mod_copy_132 : decode b_Mod_copy 132 = .ok (.if_icmp .le 8, 3) := by decide +kernel
theorem d_Mod_copy_135 : decode b_Mod_copy 135 = .ok (.iload 6, 2) := by decide +kernel
theorem d_Mod_copy_137 : decode b_Mod_copy 137 = .ok (.goto 10, 3) := by decide +kernel
theorem d_Mod_copy_140 : decode b_Mod_copy 140 = .ok (.iload 5, 2) := by decide +kernel
theorem d_Mod_copy_142 : decode b_Mod_copy 142 = .ok (.iconst 1, 1) := by decide +kernel
theorem d_Mod_copy_143 : decode b_Mod_copy 143 = .ok (.isub, 1) := by decide +kernel
theorem d_Mod_copy_144 : decode b_Mod_copy 144 = .ok (.iload 6, 2) := by decide +kernel
theorem d_Mod_copy_146 : decode b_Mod_copy 146 = .ok (.isub, 1) := by decide +kernel
theorem d_Mod_copy_147 : decode b_Mod_copy 147 = .ok (.istore 7, 2) := by decide +kernel
theorem d_Mod_copy_149 : decode b_Mod_copy 149 = .ok (.aload_n 0, 1) := by decide +kernel
theorem d_Mod_copy_150 : decode b_Mod_copy 150 = .ok (.getfield 52, 3) := by decide +kernel
theorem d_Mod_copy_153 : decode b_Mod_copy 153 = .ok (.bipush 100, 2) := by decide +kernel
theorem d_Mod_copy_155 : decode b_Mod_copy 155 = .ok (.iload_n 3, 1) := by decide +kernel
theorem d_Mod_copy_156 : decode b_Mod_copy 156 = .ok (.imul, 1) := by decide +kernel
theorem d_Mod_copy_157 : decode b_Mod_copy 157 = .ok (.iload 4, 2) := by decide +kernel
theorem d_Mod_copy_159 : decode b_Mod_copy 159 = .ok (.iadd, 1) := by decide +kernel
theorem d_Mod_copy_160 : decode b_Mod_copy 160 = .ok (.iload 7, 2) := by decide +kernel
theorem d_Mod_copy_162 : decode b_Mod_copy 162 = .ok (.iadd, 1) := by decide +kernel
theorem d_Mod_copy_163 : decode b_Mod_copy 163 = .ok (.aload_n 0, 1) := by decide +kernel
theorem d_Mod_copy_164 : decode b_Mod_copy 164 = .ok (.getfield 52, 3) := by decide +kernel
theorem d_Mod_copy_167 : decode b_Mod_copy 167 = .ok (.bipush 100, 2) := by decide +kernel
theorem d_Mod_copy_169 : decode b_Mod_copy 169 = .ok (.iload_n 1, 1) := by decide +kernel
theorem d_Mod_copy_170 : decode b_Mod_copy 170 = .ok (.imul, 1) := by decide +kernel
theorem d_Mod_copy_171 : decode b_Mod_copy 171 = .ok (.iload_n 2, 1) := by decide +kernel
theorem d_Mod_copy_172 : decode b_Mod_copy 172 = .ok (.iadd, 1) := by decide +kernel
theorem d_Mod_copy_173 : decode b_Mod_copy 173 = .ok (.iload 7, 2) := by decide +kernel
theorem d_Mod_copy_175 : decode b_Mod_copy 175 = .ok (.iadd, 1) := by decide +kernel
theorem d_Mod_copy_176 : decode b_Mod_copy 176 = .ok (.iaload, 1) := by decide +kernel
theorem d_Mod_copy_177 : decode b_Mod_copy 177 = .ok (.iastore, 1) := by decide +kernel
theorem d_Mod_copy_178 : decode b_Mod_copy 178 = .ok (.iinc 6 1, 3) := by decide +kernel
theorem d_Mod_copy_181 : decode b_Mod_copy 181 = .ok (.goto (-59), 3) := by decide +kernel
theorem d_Mod_copy_184 : decode b_Mod_copy 184 = .ok (.iload 5, 2) := by decide +kernel
theorem d_Mod_copy_186 : decode b_Mod_copy 186 = .ok (.ireturn, 1) := by decide +kernel
theorem d_Mod_costBy_0 : decode b_Mod_costBy 0 = .ok (.iload_n 0, 1) := by decide +kernel
theorem d_Mod_costBy_1 : decode b_Mod_costBy 1 = .ok (.tableswitch 69 1 7 #[43, 45, 49, 55, 58, 60, 65], 43) := by decide +kernel
theorem d_Mod_costBy_44 : decode b_Mod_costBy 44 = .ok (.iconst 1, 1) := by decide +kernel
theorem d_Mod_costBy_45 : decode b_Mod_costBy 45 = .ok (.ireturn, 1) := by decide +kernel
theorem d_Mod_costBy_46 : decode b_Mod_costBy 46 = .ok (.iconst 3, 1) := by decide +kernel
theorem d_Mod_costBy_47 : decode b_Mod_costBy 47 = .ok (.iload_n 1, 1) := by decide +kernel
theorem d_Mod_costBy_48 : decode b_Mod_costBy 48 = .ok (.iadd, 1) := by decide +kernel
theorem d_Mod_costBy_49 : decode b_Mod_costBy 49 = .ok (.ireturn, 1) := by decide +kernel
theorem d_Mod_costBy_50 : decode b_Mod_costBy 50 = .ok (.iconst 2, 1) := by decide +kernel
theorem d_Mod_costBy_51 : decode b_Mod_costBy 51 = .ok (.iconst 3, 1) := by decide +kernel
theorem d_Mod_costBy_52 : decode b_Mod_costBy 52 = .ok (.iload_n 1, 1) := by decide +kernel
theorem d_Mod_costBy_53 : decode b_Mod_costBy 53 = .ok (.iadd, 1) := by decide +kernel
theorem d_Mod_costBy_54 : decode b_Mod_costBy 54 = .ok (.imul, 1) := by decide +kernel
theorem d_Mod_costBy_55 : decode b_Mod_costBy 55 = .ok (.ireturn, 1) := by decide +kernel
theorem d_Mod_costBy_56 : decode b_Mod_costBy 56 = .ok (.bipush 9, 2) := by decide +kernel
theorem d_Mod_costBy_58 : decode b_Mod_costBy 58 = .ok (.ireturn, 1) := by decide +kernel
theorem d_Mod_costBy_59 : decode b_Mod_costBy 59 = .ok (.iconst 4, 1) := by decide +kernel
theorem d_Mod_costBy_60 : decode b_Mod_costBy 60 = .ok (.ireturn, 1) := by decide +kernel
theorem d_Mod_costBy_61 : decode b_Mod_costBy 61 = .ok (.bipush 12, 2) := by decide +kernel
theorem d_Mod_costBy_63 : decode b_Mod_costBy 63 = .ok (.iload_n 1, 1) := by decide +kernel
theorem d_Mod_costBy_64 : decode b_Mod_costBy 64 = .ok (.iadd, 1) := by decide +kernel
theorem d_Mod_costBy_65 : decode b_Mod_costBy 65 = .ok (.ireturn, 1) := by decide +kernel
theorem d_Mod_costBy_66 : decode b_Mod_costBy 66 = .ok (.iconst 1, 1) := by decide +kernel
theorem d_Mod_costBy_67 : decode b_Mod_costBy 67 = .ok (.iload_n 1, 1) := by decide +kernel
theorem d_Mod_costBy_68 : decode b_Mod_costBy 68 = .ok (.iadd, 1) := by decide +kernel
theorem d_Mod_costBy_69 : decode b_Mod_costBy 69 = .ok (.ireturn, 1) := by decide +kernel
theorem d_Mod_costBy_70 : decode b_Mod_costBy 70 = .ok (.iconst 3, 1) := by decide +kernel
theorem d_Mod_costBy_71 : decode b_Mod_costBy 71 = .ok (.ireturn, 1) := by decide +kernel
theorem d_Mod_cost_0 : decode b_Mod_cost 0 = .ok (.aload_n 0, 1) := by decide +kernel
theorem d_Mod_cost_1 : decode b_Mod_cost 1 = .ok (.iload_n 1, 1) := by decide +kernel
theorem d_Mod_cost_2 : decode b_Mod_cost 2 = .ok (.invokevirtual 209, 3) := by decide +kernel
theorem d_Mod_cost_5 : decode b_Mod_cost 5 = .ok (.istore_n 2, 1) := by decide +kernel
theorem d_Mod_cost_6 : decode b_Mod_cost 6 = .ok (.iload_n 2, 1) := by decide +kernel
theorem d_Mod_cost_7 : decode b_Mod_cost 7 = .ok (.ifCond .eq 7, 3) := by decide +kernel
theorem d_Mod_cost_10 : decode b_Mod_cost 10 = .ok (.iload_n 2, 1) := by decide +kernel
theorem d_Mod_cost_11 : decode b_Mod_cost 11 = .ok (.goto 18, 3) := by decide +kernel
theorem d_Mod_cost_14 : decode b_Mod_cost 14 = .ok (.aload_n 0, 1) := by decide +kernel
theorem d_Mod_cost_15 : decode b_Mod_cost 15 = .ok (.getfield 40, 3) := by decide +kernel
theorem d_Mod_cost_18 : decode b_Mod_cost 18 = .ok (.iload_n 1, 1) := by decide +kernel
theorem d_Mod_cost_19 : decode b_Mod_cost 19 = .ok (.iaload, 1) := by decide +kernel
theorem d_Mod_cost_20 : decode b_Mod_cost 20 = .ok (.aload_n 0, 1) := by decide +kernel
theorem d_Mod_cost_21 : decode b_Mod_cost 21 = .ok (.getfield 43, 3) := by decide +kernel
theorem d_Mod_cost_24 : decode b_Mod_cost 24 = .ok (.iload_n 1, 1) := by decide +kernel
theorem d_Mod_cost_25 : decode b_Mod_cost 25 = .ok (.iaload, 1) := by decide +kernel
theorem d_Mod_cost_26 : decode b_Mod_cost 26 = .ok (.invokestatic 282, 3) := by decide +kernel
theorem d_Mod_cost_29 : decode b_Mod_cost 29 = .ok (.ireturn, 1) := by decide +kernel
theorem d_Mod_toss_0 : decode b_Mod_toss 0 = .ok (.aload_n 0, 1) := by decide +kernel
theorem d_Mod_toss_1 : decode b_Mod_toss 1 = .ok (.iload_n 1, 1) := by decide +kernel
theorem d_Mod_toss_2 : decode b_Mod_toss 2 = .ok (.invokevirtual 209, 3) := by decide +kernel
theorem d_Mod_toss_5 : decode b_Mod_toss 5 = .ok (.istore_n 2, 1) := by decide +kernel
theorem d_Mod_toss_6 : decode b_Mod_toss 6 = .ok (.iload_n 2, 1) := by decide +kernel
theorem d_Mod_toss_7 : decode b_Mod_toss 7 = .ok (.ifCond .eq 5, 3) := by decide +kernel
theorem d_Mod_toss_10 : decode b_Mod_toss 10 = .ok (.iload_n 2, 1) := by decide +kernel
theorem d_Mod_toss_11 : decode b_Mod_toss 11 = .ok (.ireturn, 1) := by decide +kernel
theorem d_Mod_toss_12 : decode b_Mod_toss 12 = .ok (.aload_n 0, 1) := by decide +kernel
theorem d_Mod_toss_13 : decode b_Mod_toss 13 = .ok (.getfield 40, 3) := by decide +kernel
theorem d_Mod_toss_16 : decode b_Mod_toss 16 = .ok (.iload_n 1, 1) := by decide +kernel
theorem d_Mod_toss_17 : decode b_Mod_toss 17 = .ok (.iaload, 1) := by decide +kernel
theorem d_Mod_toss_18 : decode b_Mod_toss 18 = .ok (.istore_n 3, 1) := by decide +kernel
theorem d_Mod_toss_19 : decode b_Mod_toss 19 = .ok (.aload_n 0, 1) := by decide +kernel
theorem d_Mod_toss_20 : decode b_Mod_toss 20 = .ok (.getfield 43, 3) := by decide +kernel
theorem d_Mod_toss_23 : decode b_Mod_toss 23 = .ok (.iload_n 1, 1) := by decide +kernel
theorem d_Mod_toss_24 : decode b_Mod_toss 24 = .ok (.iaload, 1) := by decide +kernel
theorem d_Mod_toss_25 : decode b_Mod_toss 25 = .ok (.istore 4, 2) := by decide +kernel
theorem d_Mod_toss_27 : decode b_Mod_toss 27 = .ok (.iload_n 3, 1) := by decide +kernel
theorem d_Mod_toss_28 : decode b_Mod_toss 28 = .ok (.bipush 7, 2) := by decide +kernel
theorem d_Mod_toss_30 : decode b_Mod_toss 30 = .ok (.if_icmp .eq 8, 3) := by decide +kernel
theorem d_Mod_toss_33 : decode b_Mod_toss 33 = .ok (.iload 4, 2) := by decide +kernel
theorem d_Mod_toss_35 : decode b_Mod_toss 35 = .ok (.ifCond .ne 6, 3) := by decide +kernel
theorem d_Mod_toss_38 : decode b_Mod_toss 38 = .ok (.bipush (-15), 2) := by decide +kernel
theorem d_Mod_toss_40 : decode b_Mod_toss 40 = .ok (.ireturn, 1) := by decide +kernel
theorem d_Mod_toss_41 : decode b_Mod_toss 41 = .ok (.iload_n 3, 1) := by decide +kernel
theorem d_Mod_toss_42 : decode b_Mod_toss 42 = .ok (.bipush 6, 2) := by decide +kernel
theorem d_Mod_toss_44 : decode b_Mod_toss 44 = .ok (.if_icmp .ne 16, 3) := by decide +kernel
theorem d_Mod_toss_47 : decode b_Mod_toss 47 = .ok (.sipush 200, 3) := by decide +kernel
theorem d_Mod_toss_50 : decode b_Mod_toss 50 = .ok (.iload_n 3, 1) := by decide +kernel
theorem d_Mod_toss_51 : decode b_Mod_toss 51 = .ok (.iload 4, 2) := by decide +kernel
theorem d_Mod_toss_53 : decode b_Mod_toss 53 = .ok (.invokestatic 282, 3) := by decide +kernel
theorem d_Mod_toss_56 : decode b_Mod_toss 56 = .ok (.iadd, 1) := by decide +kernel
theorem d_Mod_toss_57 : decode b_Mod_toss 57 = .ok (.goto 23, 3) := by decide +kernel
theorem d_Mod_toss_60 : decode b_Mod_toss 60 = .ok (.iload_n 3, 1) := by decide +kernel
theorem d_Mod_toss_61 : decode b_Mod_toss 61 = .ok (.iconst 2, 1) := by decide +kernel
theorem d_Mod_toss_62 : decode b_Mod_toss 62 = .ok (.if_icmp .eq 8, 3) := by decide +kernel
theorem d_Mod_toss_65 : decode b_Mod_toss 65 = .ok (.iload_n 3, 1) := by decide +kernel
theorem d_Mod_toss_66 : decode b_Mod_toss 66 = .ok (.iconst 3, 1) := by decide +kernel
theorem d_Mod_toss_67 : decode b_Mod_toss 67 = .ok (.if_icmp .ne 11, 3) := by decide +kernel
theorem d_Mod_toss_70 : decode b_Mod_toss 70 = .ok (.bipush 100, 2) := by decide +kernel
theorem d_Mod_toss_72 : decode b_Mod_toss 72 = .ok (.iload 4, 2) := by decide +kernel
theorem d_Mod_toss_74 : decode b_Mod_toss 74 = .ok (.iadd, 1) := by decide +kernel
theorem d_Mod_toss_75 : decode b_Mod_toss 75 = .ok (.goto 5, 3) := by decide +kernel
theorem d_Mod_toss_78 : decode b_Mod_toss 78 = .ok (.iload 4, 2) := by decide +kernel
theorem d_Mod_toss_80 : decode b_Mod_toss 80 = .ok (.ireturn, 1) := by decide +kernel
set_option maxRecDepth 100000 in
theorem cw_Mod_costBy : CwS y_Mod_costBy b_Mod_costBy 2 (some FieldType.int) 2 := ⟨tbl_at 1441 (by decide +kernel) rfl, tbl_at 57 (by decide +kernel) rfl, tbl_at 1442 rfl rfl, by decide +kernel, by decide +kernel, by decide +kernel⟩
theorem ml_Mod_282 : Cond.methodLink R_Mod 282 y_Mod_costBy ∈ tbl := tbl_at 1440 (by decide +kernel) rfl
def vc_Mod_copy (x1 : Int32) (x2 : Int32) (x3 : Int32) (x4 : Int32) (x5 : Int32) (s : St) (Q : Int32 → St → Prop) : Prop :=
    vc_Mod_isShelf x1 (fun b10 => (((bi b10) = 0 → Q (-1) s) ∧ (¬ (bi b10) = 0 → vc_Mod_isShelf x3 (fun b13 => ((¬ (bi b13) = 0 → (vp_in x1 8 ∧ (((s 92 (Int32.toNatClampNeg x1)) = 0 → Q (-11) s) ∧ (¬ (s 92 (Int32.toNatClampNeg x1)) = 0 → (vp_in x3 8 ∧ ((¬ (s 92 (Int32.toNatClampNeg x3)) = 0 → (vp_in x1 8 ∧ ((¬ (s 92 (Int32.toNatClampNeg x1)) = 2 → Q (-12) s) ∧ ((s 92 (Int32.toNatClampNeg x1)) = 2 → (vp_in x3 8 ∧ ((¬ (s 92 (Int32.toNatClampNeg x3)) = 2 → Q (-12) s) ∧ ((s 92 (Int32.toNatClampNeg x3)) = 2 → (vp_in x1 8 ∧ (vp_in x3 8 ∧ (((s 95 (Int32.toNatClampNeg x1)) = (s 95 (Int32.toNatClampNeg x3)) → ((x5 < 0 → Q (-13) s) ∧ (¬ x5 < 0 → ((x2 < 0 → Q (-13) s) ∧ (¬ x2 < 0 → ((x4 < 0 → Q (-13) s) ∧ (¬ x4 < 0 → (vp_in x1 8 ∧ ((((s 96 (Int32.toNatClampNeg x1)) - x2) < x5 → Q (-13) s) ∧ (¬ ((s 96 (Int32.toNatClampNeg x1)) - x2) < x5 → (vp_in x3 8 ∧ ((x5 ≤ ((s 96 (Int32.toNatClampNeg x3)) - x4) → (∃ I36 : Nat → Int32 → St → Prop, (∃ n37, I36 n37 0 s) ∧ ∀ (nI36 : Nat) (x34 : Int32) (s35 : St), I36 nI36 x34 s35 → ((x5 ≤ x34 → Q x5 s35) ∧ (¬ x5 ≤ x34 → (∃ J40 : Int32 → Prop, (∀ (x39 : Int32), J40 x39 → (vp_in (((100 * x1) + x2) + x39) 800 ∧ (vp_in (((100 * x3) + x4) + x39) 800 ∧ (∀ s43 : St, s43 = wr s35 97 (Int32.toNatClampNeg (((100 * x3) + x4) + x39)) (s35 97 (Int32.toNatClampNeg (((100 * x1) + x2) + x39))) → (∀ x44 : Int32, x44 = x34 + 1 → ∃ m45, m45 < nI36 ∧ I36 m45 x44 s43))))) ∧ ((x2 ≤ x4 → J40 ((x5 - 1) - x34)) ∧ (¬ x2 ≤ x4 → J40 x34))))))) ∧ (¬ x5 ≤ ((s 96 (Int32.toNatClampNeg x3)) - x4) → Q (-13) s))))))))))))) ∧ (¬ (s 95 (Int32.toNatClampNeg x1)) = (s 95 (Int32.toNatClampNeg x3)) → Q (-12) s))))))))))) ∧ ((s 92 (Int32.toNatClampNeg x3)) = 0 → Q (-11) s))))))) ∧ ((bi b13) = 0 → Q (-1) s))))))
def rm_Mod_copy : Room := { frames := 2, cells := 0, slots := 0, locals := 42 }
set_option maxHeartbeats 4000000 in
set_option maxRecDepth 20000 in
theorem m_Mod_copy (g : Gx) (hg : gOk g) (x1 : Int32) (x2 : Int32) (x3 : Int32) (x4 : Int32) (x5 : Int32)  (s : St) (Q : Int32 → St → Prop) (hw : vc_Mod_copy x1 x2 x3 x4 x5 s Q) : Mc g y_Mod_copy b_Mod_copy 8 (some FieldType.int) rm_Mod_copy [.ref (ga g 82), .int x1, .int x2, .int x3, .int x4, .int x5] s (fun v s' => ∃ r : Int32, v = some (.int r) ∧ Q r s') := by
  refine mc_ofV (j := 2) (L := [some (.ref (ga g 82)), some (.int x1), some (.int x2), some (.int x3), some (.int x4), some (.int x5), none, none]) hg (by decide) (Nat.le_of_ble_eq_true rfl) rfl ?_
  intro X hX C
  subst hX
  unfold vc_Mod_copy at hw
  refine x_iload_n C d_Mod_copy_0 rfl ?_
  refine x_callS (As := [.int x1]) (rest := []) C (m_Mod_isShelf (xg X) C.2.2.2.2.2.2.1 x1 s _ hw) cw_Mod_isShelf ml_Mod_206 rfl ⟨rfl, rfl, Nat.le_of_ble_eq_true rfl, Nat.le_of_ble_eq_true rfl⟩ ⟨Nat.zero_le _, Nat.zero_le _⟩ rfl (Nat.le_of_ble_eq_true rfl) d_Mod_copy_1 ?_
  rintro _ _ ⟨b10, rfl, rfl, hw⟩
  show V X _ _ _ _ 4 [some (.ref (xa X 82)), some (.int x1), some (.int x2), some (.int x3), some (.int x4), some (.int x5), none, none] [.int (bi b10)]
  refine x_if_eq (tgt := 14) C d_Mod_copy_4 (by decide) (fun c12 => ?_) (fun c12 => ?_)
  · have hw := hw.1 c12
    refine x_iconst (v := (-1)) C d_Mod_copy_14 rfl ?_
    exact x_ireturn C d_Mod_copy_15 ⟨_, rfl, hw⟩
  · have hw := hw.2 c12
    refine x_iload_n C d_Mod_copy_7 rfl ?_
    refine x_callS (As := [.int x3]) (rest := []) C (m_Mod_isShelf (xg X) C.2.2.2.2.2.2.1 x3 s _ hw) cw_Mod_isShelf ml_Mod_206 rfl ⟨rfl, rfl, Nat.le_of_ble_eq_true rfl, Nat.le_of_ble_eq_true rfl⟩ ⟨Nat.zero_le _, Nat.zero_le _⟩ rfl (Nat.le_of_ble_eq_true rfl) d_Mod_copy_8 ?_
    rintro _ _ ⟨b13, rfl, rfl, hw⟩
    show V X _ _ _ _ 11 [some (.ref (xa X 82)), some (.int x1), some (.int x2), some (.int x3), some (.int x4), some (.int x5), none, none] [.int (bi b13)]
    refine x_if_ne (tgt := 16) C d_Mod_copy_11 (by decide) (fun c15 => ?_) (fun c15 => ?_)
    · have hw := hw.1 c15
      refine x_aload_n C d_Mod_copy_16 rfl ?_
      refine g_Mod_33 (p := 82) C rfl fl_Mod_37 d_Mod_copy_17 ?_
      refine x_iload_n C d_Mod_copy_20 rfl ?_
      obtain ⟨h16, hw⟩ := hw
      refine x_iald (p := 92) (n := 8) C rfl h16 d_Mod_copy_21 ?_
      refine x_if_eq (tgt := 34) C d_Mod_copy_22 (by decide) (fun c17 => ?_) (fun c17 => ?_)
      · have hw := hw.1 c17
        refine x_bipush (v := (-11)) C d_Mod_copy_34 rfl ?_
        exact x_ireturn C d_Mod_copy_36 ⟨_, rfl, hw⟩
      · have hw := hw.2 c17
        refine x_aload_n C d_Mod_copy_25 rfl ?_
        refine g_Mod_33 (p := 82) C rfl fl_Mod_37 d_Mod_copy_26 ?_
        refine x_iload_n C d_Mod_copy_29 rfl ?_
        obtain ⟨h18, hw⟩ := hw
        refine x_iald (p := 92) (n := 8) C rfl h18 d_Mod_copy_30 ?_
        refine x_if_ne (tgt := 37) C d_Mod_copy_31 (by decide) (fun c19 => ?_) (fun c19 => ?_)
        · have hw := hw.1 c19
          refine x_aload_n C d_Mod_copy_37 rfl ?_
          refine g_Mod_33 (p := 82) C rfl fl_Mod_37 d_Mod_copy_38 ?_
          refine x_iload_n C d_Mod_copy_41 rfl ?_
          obtain ⟨h20, hw⟩ := hw
          refine x_iald (p := 92) (n := 8) C rfl h20 d_Mod_copy_42 ?_
          refine x_iconst (v := 2) C d_Mod_copy_43 rfl ?_
          refine x_icmp_ne (tgt := 72) C d_Mod_copy_44 (by decide) (fun c21 => ?_) (fun c21 => ?_)
          · have hw := hw.1 c21
            refine x_bipush (v := (-12)) C d_Mod_copy_72 rfl ?_
            exact x_ireturn C d_Mod_copy_74 ⟨_, rfl, hw⟩
          · have hw := hw.2 c21
            refine x_aload_n C d_Mod_copy_47 rfl ?_
            refine g_Mod_33 (p := 82) C rfl fl_Mod_37 d_Mod_copy_48 ?_
            refine x_iload_n C d_Mod_copy_51 rfl ?_
            obtain ⟨h22, hw⟩ := hw
            refine x_iald (p := 92) (n := 8) C rfl h22 d_Mod_copy_52 ?_
            refine x_iconst (v := 2) C d_Mod_copy_53 rfl ?_
            refine x_icmp_ne (tgt := 72) C d_Mod_copy_54 (by decide) (fun c23 => ?_) (fun c23 => ?_)
            · have hw := hw.1 c23
              refine x_bipush (v := (-12)) C d_Mod_copy_72 rfl ?_
              exact x_ireturn C d_Mod_copy_74 ⟨_, rfl, hw⟩
            · have hw := hw.2 c23
              refine x_aload_n C d_Mod_copy_57 rfl ?_
              refine g_Mod_36 (p := 82) C rfl fl_Mod_46 d_Mod_copy_58 ?_
              refine x_iload_n C d_Mod_copy_61 rfl ?_
              obtain ⟨h24, hw⟩ := hw
              refine x_iald (p := 95) (n := 8) C rfl h24 d_Mod_copy_62 ?_
              refine x_aload_n C d_Mod_copy_63 rfl ?_
              refine g_Mod_36 (p := 82) C rfl fl_Mod_46 d_Mod_copy_64 ?_
              refine x_iload_n C d_Mod_copy_67 rfl ?_
              obtain ⟨h25, hw⟩ := hw
              refine x_iald (p := 95) (n := 8) C rfl h25 d_Mod_copy_68 ?_
              refine x_icmp_eq (tgt := 75) C d_Mod_copy_69 (by decide) (fun c26 => ?_) (fun c26 => ?_)
              · have hw := hw.1 c26
                refine x_iload C d_Mod_copy_75 rfl ?_
                refine x_if_lt (tgt := 116) C d_Mod_copy_77 (by decide) (fun c27 => ?_) (fun c27 => ?_)
                · have hw := hw.1 c27
                  refine x_bipush (v := (-13)) C d_Mod_copy_116 rfl ?_
                  exact x_ireturn C d_Mod_copy_118 ⟨_, rfl, hw⟩
                · have hw := hw.2 c27
                  refine x_iload_n C d_Mod_copy_80 rfl ?_
                  refine x_if_lt (tgt := 116) C d_Mod_copy_81 (by decide) (fun c28 => ?_) (fun c28 => ?_)
                  · have hw := hw.1 c28
                    refine x_bipush (v := (-13)) C d_Mod_copy_116 rfl ?_
                    exact x_ireturn C d_Mod_copy_118 ⟨_, rfl, hw⟩
                  · have hw := hw.2 c28
                    refine x_iload C d_Mod_copy_84 rfl ?_
                    refine x_if_lt (tgt := 116) C d_Mod_copy_86 (by decide) (fun c29 => ?_) (fun c29 => ?_)
                    · have hw := hw.1 c29
                      refine x_bipush (v := (-13)) C d_Mod_copy_116 rfl ?_
                      exact x_ireturn C d_Mod_copy_118 ⟨_, rfl, hw⟩
                    · have hw := hw.2 c29
                      refine x_iload C d_Mod_copy_89 rfl ?_
                      refine x_aload_n C d_Mod_copy_91 rfl ?_
                      refine g_Mod_37 (p := 82) C rfl fl_Mod_49 d_Mod_copy_92 ?_
                      refine x_iload_n C d_Mod_copy_95 rfl ?_
                      obtain ⟨h30, hw⟩ := hw
                      refine x_iald (p := 96) (n := 8) C rfl h30 d_Mod_copy_96 ?_
                      refine x_iload_n C d_Mod_copy_97 rfl ?_
                      refine x_isub C d_Mod_copy_98 ?_
                      refine x_icmp_gt (tgt := 116) C d_Mod_copy_99 (by decide) (fun c31 => ?_) (fun c31 => ?_)
                      · have hw := hw.1 c31
                        refine x_bipush (v := (-13)) C d_Mod_copy_116 rfl ?_
                        exact x_ireturn C d_Mod_copy_118 ⟨_, rfl, hw⟩
                      · have hw := hw.2 c31
                        refine x_iload C d_Mod_copy_102 rfl ?_
                        refine x_aload_n C d_Mod_copy_104 rfl ?_
                        refine g_Mod_37 (p := 82) C rfl fl_Mod_49 d_Mod_copy_105 ?_
                        refine x_iload_n C d_Mod_copy_108 rfl ?_
                        obtain ⟨h32, hw⟩ := hw
                        refine x_iald (p := 96) (n := 8) C rfl h32 d_Mod_copy_109 ?_
                        refine x_iload C d_Mod_copy_110 rfl ?_
                        refine x_isub C d_Mod_copy_112 ?_
                        refine x_icmp_le (tgt := 119) C d_Mod_copy_113 (by decide) (fun c33 => ?_) (fun c33 => ?_)
                        · have hw := hw.1 c33
                          refine x_iconst (v := 0) C d_Mod_copy_119 rfl ?_
                          refine x_istore (L' := [some (.ref (xa X 82)), some (.int x1), some (.int x2), some (.int x3), some (.int x4), some (.int x5), some (.int 0), none]) C d_Mod_copy_120 (Nat.le_of_ble_eq_true rfl) rfl ?_
                          obtain ⟨I36, ⟨n37, hn37⟩, hI36⟩ := hw
                          have lI36 : ∀ (nI36 : Nat) (x34 : Int32) (s35 : St), I36 nI36 x34 s35 → V X (xQ X (fun v s' => ∃ r : Int32, v = some (.int r) ∧ Q r s')) 0 0 s35 122 [some (.ref (xa X 82)), some (.int x1), some (.int x2), some (.int x3), some (.int x4), some (.int x5), some (.int x34), none] [] := by
                            intro nI36
                            induction nI36 using Nat.strongRecOn with
                            | ind nI36 ihI36 =>
                              intro x34 s35 hv
                              have hw := hI36 nI36 x34 s35 hv
                              refine x_iload C d_Mod_copy_122 rfl ?_
                              refine x_iload C d_Mod_copy_124 rfl ?_
                              refine x_icmp_ge (tgt := 184) C d_Mod_copy_126 (by decide) (fun c38 => ?_) (fun c38 => ?_)
                              · have hw := hw.1 c38
                                refine x_iload C d_Mod_copy_184 rfl ?_
                                exact x_ireturn C d_Mod_copy_186 ⟨_, rfl, hw⟩
                              · have hw := hw.2 c38
                                refine x_iload_n C d_Mod_copy_129 rfl ?_
                                refine x_iload C d_Mod_copy_130 rfl ?_
                                obtain ⟨J40, hJ40, hw⟩ := hw
                                have kJ40 : ∀ (x39 : Int32), J40 x39 → V X (xQ X (fun v s' => ∃ r : Int32, v = some (.int r) ∧ Q r s')) 0 0 s35 147 [some (.ref (xa X 82)), some (.int x1), some (.int x2), some (.int x3), some (.int x4), some (.int x5), some (.int x34), none] [.int x39] := by
                                  intro x39 hv
                                  have hw := hJ40 x39 hv
                                  refine x_istore (L' := [some (.ref (xa X 82)), some (.int x1), some (.int x2), some (.int x3), some (.int x4), some (.int x5), some (.int x34), some (.int x39)]) C d_Mod_copy_147 (Nat.le_of_ble_eq_true rfl) rfl ?_
                                  refine x_aload_n C d_Mod_copy_149 rfl ?_
                                  refine g_Mod_38 (p := 82) C rfl fl_Mod_52 d_Mod_copy_150 ?_
                                  refine x_bipush (v := 100) C d_Mod_copy_153 rfl ?_
                                  refine x_iload_n C d_Mod_copy_155 rfl ?_
                                  refine x_imul C d_Mod_copy_156 ?_
                                  refine x_iload C d_Mod_copy_157 rfl ?_
                                  refine x_iadd C d_Mod_copy_159 ?_
                                  refine x_iload C d_Mod_copy_160 rfl ?_
                                  refine x_iadd C d_Mod_copy_162 ?_
                                  refine x_aload_n C d_Mod_copy_163 rfl ?_
                                  refine g_Mod_38 (p := 82) C rfl fl_Mod_52 d_Mod_copy_164 ?_
                                  refine x_bipush (v := 100) C d_Mod_copy_167 rfl ?_
                                  refine x_iload_n C d_Mod_copy_169 rfl ?_
                                  refine x_imul C d_Mod_copy_170 ?_
                                  refine x_iload_n C d_Mod_copy_171 rfl ?_
                                  refine x_iadd C d_Mod_copy_172 ?_
                                  refine x_iload C d_Mod_copy_173 rfl ?_
                                  refine x_iadd C d_Mod_copy_175 ?_
                                  obtain ⟨h41, hw⟩ := hw
                                  refine x_iald (p := 97) (n := 800) C rfl h41 d_Mod_copy_176 ?_
                                  obtain ⟨h42, hw⟩ := hw
                                  refine x_iast (p := 97) (n := 800) C rfl h42 d_Mod_copy_177 ?_
                                  refine x_st (fun s43 hs43 => ?_)
                                  have hw := hw s43 hs43
                                  obtain ⟨x44, hx44⟩ : ∃ z : Int32, z = x34 + 1 := ⟨_, rfl⟩
                                  refine x_iinc (v := x44) (L' := [some (.ref (xa X 82)), some (.int x1), some (.int x2), some (.int x3), some (.int x4), some (.int x5), some (.int x44), some (.int x39)]) C d_Mod_copy_178 (Nat.le_of_ble_eq_true rfl) rfl (by rw [hx44]; rfl) rfl ?_
                                  have hw := hw x44 hx44
                                  refine x_goto (tgt := 122) C d_Mod_copy_181 (by decide) ?_
                                  obtain ⟨m45, hm45, hw⟩ := hw
                                  exact x_wk (ihI36 m45 hm45 x44 s43 hw) (And.intro rfl (And.intro rfl (And.intro rfl (And.intro rfl (And.intro rfl (And.intro rfl (And.intro rfl (trivial))))))))
                                refine x_icmp_le (tgt := 140) C d_Mod_copy_132 (by decide) (fun c46 => ?_) (fun c46 => ?_)
                                · have hw := hw.1 c46
                                  refine x_iload C d_Mod_copy_140 rfl ?_
                                  refine x_iconst (v := 1) C d_Mod_copy_142 rfl ?_
                                  refine x_isub C d_Mod_copy_143 ?_
                                  refine x_iload C d_Mod_copy_144 rfl ?_
                                  refine x_isub C d_Mod_copy_146 ?_
                                  exact x_wk (kJ40 ((x5 - 1) - x34) hw) (And.intro rfl (And.intro rfl (And.intro rfl (And.intro rfl (And.intro rfl (And.intro rfl (And.intro rfl (trivial))))))))
                                · have hw := hw.2 c46
                                  refine x_iload C d_Mod_copy_135 rfl ?_
                                  refine x_goto (tgt := 147) C d_Mod_copy_137 (by decide) ?_
                                  exact x_wk (kJ40 x34 hw) (And.intro rfl (And.intro rfl (And.intro rfl (And.intro rfl (And.intro rfl (And.intro rfl (And.intro rfl (trivial))))))))
                          exact x_wk (lI36 n37 0 s hn37) (And.intro rfl (And.intro rfl (And.intro rfl (And.intro rfl (And.intro rfl (And.intro rfl (And.intro rfl (trivial))))))))
                        · have hw := hw.2 c33
                          refine x_bipush (v := (-13)) C d_Mod_copy_116 rfl ?_
                          exact x_ireturn C d_Mod_copy_118 ⟨_, rfl, hw⟩
              · have hw := hw.2 c26
                refine x_bipush (v := (-12)) C d_Mod_copy_72 rfl ?_
                exact x_ireturn C d_Mod_copy_74 ⟨_, rfl, hw⟩
        · have hw := hw.2 c19
          refine x_bipush (v := (-11)) C d_Mod_copy_34 rfl ?_
          exact x_ireturn C d_Mod_copy_36 ⟨_, rfl, hw⟩
    · have hw := hw.2 c15
      refine x_iconst (v := (-1)) C d_Mod_copy_14 rfl ?_
      exact x_ireturn C d_Mod_copy_15 ⟨_, rfl, hw⟩
def vc_Mod_costBy (x0 : Int32) (x1 : Int32) (Q : Int32 → Prop) : Prop :=
    ((x0 = 1 → Q 1) ∧ (¬ x0 = 1 → ((x0 = 2 → Q (3 + x1)) ∧ (¬ x0 = 2 → ((x0 = 3 → Q (2 * (3 + x1))) ∧ (¬ x0 = 3 → ((x0 = 4 → Q 9) ∧ (¬ x0 = 4 → ((x0 = 5 → Q 4) ∧ (¬ x0 = 5 → ((x0 = 6 → Q (12 + x1)) ∧ (¬ x0 = 6 → ((x0 = 7 → Q (1 + x1)) ∧ (¬ x0 = 7 → Q 3))))))))))))))
def rm_Mod_costBy : Room := { frames := 0, cells := 0, slots := 0, locals := 0 }
set_option maxHeartbeats 4000000 in
set_option maxRecDepth 20000 in
theorem m_Mod_costBy (g : Gx) (hg : gOk g) (x0 : Int32) (x1 : Int32)  (s : St) (Q : Int32 → Prop) (hw : vc_Mod_costBy x0 x1 Q) : Mc g y_Mod_costBy b_Mod_costBy 2 (some FieldType.int) rm_Mod_costBy [.int x0, .int x1] s (fun v s' => ∃ r : Int32, v = some (.int r) ∧ s = s' ∧ Q r) := by
  refine mc_ofV (j := 0) (L := [some (.int x0), some (.int x1)]) hg (by decide) (Nat.le_of_ble_eq_true rfl) rfl ?_
  intro X hX C
  subst hX
  unfold vc_Mod_costBy at hw
  refine x_iload_n C d_Mod_costBy_0 rfl ?_
  by_cases c10 : x0 = 1
  · have hw := hw.1 c10
    refine x_tswIn (v := 1) (off := 43) (tgt := 44) C d_Mod_costBy_1 c10 (by decide) (by decide) rfl (by decide) ?_
    refine x_iconst (v := 1) C d_Mod_costBy_44 rfl ?_
    exact x_ireturn C d_Mod_costBy_45 ⟨_, rfl, rfl, hw⟩
  have hw := hw.2 c10
  by_cases c11 : x0 = 2
  · have hw := hw.1 c11
    refine x_tswIn (v := 2) (off := 45) (tgt := 46) C d_Mod_costBy_1 c11 (by decide) (by decide) rfl (by decide) ?_
    refine x_iconst (v := 3) C d_Mod_costBy_46 rfl ?_
    refine x_iload_n C d_Mod_costBy_47 rfl ?_
    refine x_iadd C d_Mod_costBy_48 ?_
    exact x_ireturn C d_Mod_costBy_49 ⟨_, rfl, rfl, hw⟩
  have hw := hw.2 c11
  by_cases c12 : x0 = 3
  · have hw := hw.1 c12
    refine x_tswIn (v := 3) (off := 49) (tgt := 50) C d_Mod_costBy_1 c12 (by decide) (by decide) rfl (by decide) ?_
    refine x_iconst (v := 2) C d_Mod_costBy_50 rfl ?_
    refine x_iconst (v := 3) C d_Mod_costBy_51 rfl ?_
    refine x_iload_n C d_Mod_costBy_52 rfl ?_
    refine x_iadd C d_Mod_costBy_53 ?_
    refine x_imul C d_Mod_costBy_54 ?_
    exact x_ireturn C d_Mod_costBy_55 ⟨_, rfl, rfl, hw⟩
  have hw := hw.2 c12
  by_cases c13 : x0 = 4
  · have hw := hw.1 c13
    refine x_tswIn (v := 4) (off := 55) (tgt := 56) C d_Mod_costBy_1 c13 (by decide) (by decide) rfl (by decide) ?_
    refine x_bipush (v := 9) C d_Mod_costBy_56 rfl ?_
    exact x_ireturn C d_Mod_costBy_58 ⟨_, rfl, rfl, hw⟩
  have hw := hw.2 c13
  by_cases c14 : x0 = 5
  · have hw := hw.1 c14
    refine x_tswIn (v := 5) (off := 58) (tgt := 59) C d_Mod_costBy_1 c14 (by decide) (by decide) rfl (by decide) ?_
    refine x_iconst (v := 4) C d_Mod_costBy_59 rfl ?_
    exact x_ireturn C d_Mod_costBy_60 ⟨_, rfl, rfl, hw⟩
  have hw := hw.2 c14
  by_cases c15 : x0 = 6
  · have hw := hw.1 c15
    refine x_tswIn (v := 6) (off := 60) (tgt := 61) C d_Mod_costBy_1 c15 (by decide) (by decide) rfl (by decide) ?_
    refine x_bipush (v := 12) C d_Mod_costBy_61 rfl ?_
    refine x_iload_n C d_Mod_costBy_63 rfl ?_
    refine x_iadd C d_Mod_costBy_64 ?_
    exact x_ireturn C d_Mod_costBy_65 ⟨_, rfl, rfl, hw⟩
  have hw := hw.2 c15
  by_cases c16 : x0 = 7
  · have hw := hw.1 c16
    refine x_tswIn (v := 7) (off := 65) (tgt := 66) C d_Mod_costBy_1 c16 (by decide) (by decide) rfl (by decide) ?_
    refine x_iconst (v := 1) C d_Mod_costBy_66 rfl ?_
    refine x_iload_n C d_Mod_costBy_67 rfl ?_
    refine x_iadd C d_Mod_costBy_68 ?_
    exact x_ireturn C d_Mod_costBy_69 ⟨_, rfl, rfl, hw⟩
  have hw := hw.2 c16
  refine x_tswD (tgt := 70) C d_Mod_costBy_1 (fun j hj => by match j, hj with | 0, _ => exact Or.inr c10 | 1, _ => exact Or.inr c11 | 2, _ => exact Or.inr c12 | 3, _ => exact Or.inr c13 | 4, _ => exact Or.inr c14 | 5, _ => exact Or.inr c15 | 6, _ => exact Or.inr c16 | j + 7, hj => exact absurd hj (by omega)) (by decide) ?_
  refine x_iconst (v := 3) C d_Mod_costBy_70 rfl ?_
  exact x_ireturn C d_Mod_costBy_71 ⟨_, rfl, rfl, hw⟩
def vc_Mod_cost (x1 : Int32) (s : St) (Q : Int32 → Prop) : Prop :=
    vc_Mod_wrongKept x1 s (fun x10 => ((x10 = 0 → (vp_in x1 8 ∧ (vp_in x1 8 ∧ vc_Mod_costBy (s 93 (Int32.toNatClampNeg x1)) (s 94 (Int32.toNatClampNeg x1)) (fun x15 => Q x15)))) ∧ (¬ x10 = 0 → Q x10)))
def rm_Mod_cost : Room := { frames := 3, cells := 0, slots := 0, locals := 63 }
set_option maxHeartbeats 4000000 in
set_option maxRecDepth 20000 in
theorem m_Mod_cost (g : Gx) (hg : gOk g) (x1 : Int32)  (s : St) (Q : Int32 → Prop) (hw : vc_Mod_cost x1 s Q) : Mc g y_Mod_cost b_Mod_cost 3 (some FieldType.int) rm_Mod_cost [.ref (ga g 82), .int x1] s (fun v s' => ∃ r : Int32, v = some (.int r) ∧ s = s' ∧ Q r) := by
  refine mc_ofV (j := 1) (L := [some (.ref (ga g 82)), some (.int x1), none]) hg (by decide) (Nat.le_of_ble_eq_true rfl) rfl ?_
  intro X hX C
  subst hX
  unfold vc_Mod_cost at hw
  refine x_aload_n C d_Mod_cost_0 rfl ?_
  refine x_iload_n C d_Mod_cost_1 rfl ?_
  refine x_callV (As := [.int x1]) (rest := []) (p := 82) C (m_Mod_wrongKept (xg X) C.2.2.2.2.2.2.1 x1 s _ hw) cw_Mod_wrongKept ml_Mod_209 rfl (by decide) (by decide) rfl rfl rfl ⟨rfl, rfl, Nat.le_of_ble_eq_true rfl, Nat.le_of_ble_eq_true rfl⟩ ⟨Nat.zero_le _, Nat.zero_le _⟩ rfl (Nat.le_of_ble_eq_true rfl) d_Mod_cost_2 ?_
  rintro _ _ ⟨x10, rfl, rfl, hw⟩
  show V X _ _ _ _ 5 [some (.ref (xa X 82)), some (.int x1), none] [.int x10]
  refine x_istore_n (L' := [some (.ref (xa X 82)), some (.int x1), some (.int x10)]) C d_Mod_cost_5 (Nat.le_of_ble_eq_true rfl) rfl ?_
  refine x_iload_n C d_Mod_cost_6 rfl ?_
  refine x_if_eq (tgt := 14) C d_Mod_cost_7 (by decide) (fun c12 => ?_) (fun c12 => ?_)
  · have hw := hw.1 c12
    refine x_aload_n C d_Mod_cost_14 rfl ?_
    refine g_Mod_34 (p := 82) C rfl fl_Mod_40 d_Mod_cost_15 ?_
    refine x_iload_n C d_Mod_cost_18 rfl ?_
    obtain ⟨h13, hw⟩ := hw
    refine x_iald (p := 93) (n := 8) C rfl h13 d_Mod_cost_19 ?_
    refine x_aload_n C d_Mod_cost_20 rfl ?_
    refine g_Mod_35 (p := 82) C rfl fl_Mod_43 d_Mod_cost_21 ?_
    refine x_iload_n C d_Mod_cost_24 rfl ?_
    obtain ⟨h14, hw⟩ := hw
    refine x_iald (p := 94) (n := 8) C rfl h14 d_Mod_cost_25 ?_
    refine x_callS (As := [.int (s 93 (Int32.toNatClampNeg x1)), .int (s 94 (Int32.toNatClampNeg x1))]) (rest := []) C (m_Mod_costBy (xg X) C.2.2.2.2.2.2.1 (s 93 (Int32.toNatClampNeg x1)) (s 94 (Int32.toNatClampNeg x1)) s _ hw) cw_Mod_costBy ml_Mod_282 rfl ⟨rfl, rfl, Nat.le_of_ble_eq_true rfl, Nat.le_of_ble_eq_true rfl⟩ ⟨Nat.zero_le _, Nat.zero_le _⟩ rfl (Nat.le_of_ble_eq_true rfl) d_Mod_cost_26 ?_
    rintro _ _ ⟨x15, rfl, rfl, hw⟩
    show V X _ _ _ _ 29 [some (.ref (xa X 82)), some (.int x1), some (.int x10)] [.int x15]
    exact x_ireturn C d_Mod_cost_29 ⟨_, rfl, rfl, hw⟩
  · have hw := hw.2 c12
    refine x_iload_n C d_Mod_cost_10 rfl ?_
    refine x_goto (tgt := 29) C d_Mod_cost_11 (by decide) ?_
    exact x_ireturn C d_Mod_cost_29 ⟨_, rfl, rfl, hw⟩
def vc_Mod_toss (x1 : Int32) (s : St) (Q : Int32 → Prop) : Prop :=
    vc_Mod_wrongKept x1 s (fun x10 => ((x10 = 0 → (vp_in x1 8 ∧ (∀ x14 : Int32, x14 = s 93 (Int32.toNatClampNeg x1) → (vp_in x1 8 ∧ (∀ x16 : Int32, x16 = s 94 (Int32.toNatClampNeg x1) → ((x14 = 7 → Q (-15)) ∧ (¬ x14 = 7 → ((¬ x16 = 0 → ((¬ x14 = 6 → (∃ J20 : Prop, (J20 → Q (100 + x16)) ∧ ((x14 = 2 → J20) ∧ (¬ x14 = 2 → ((¬ x14 = 3 → Q x16) ∧ (x14 = 3 → J20)))))) ∧ (x14 = 6 → vc_Mod_costBy x14 x16 (fun x23 => Q (200 + x23))))) ∧ (x16 = 0 → Q (-15)))))))))) ∧ (¬ x10 = 0 → Q x10)))
def rm_Mod_toss : Room := { frames := 3, cells := 0, slots := 0, locals := 63 }
set_option maxHeartbeats 4000000 in
set_option maxRecDepth 20000 in
theorem m_Mod_toss (g : Gx) (hg : gOk g) (x1 : Int32)  (s : St) (Q : Int32 → Prop) (hw : vc_Mod_toss x1 s Q) : Mc g y_Mod_toss b_Mod_toss 5 (some FieldType.int) rm_Mod_toss [.ref (ga g 82), .int x1] s (fun v s' => ∃ r : Int32, v = some (.int r) ∧ s = s' ∧ Q r) := by
  refine mc_ofV (j := 3) (L := [some (.ref (ga g 82)), some (.int x1), none, none, none]) hg (by decide) (Nat.le_of_ble_eq_true rfl) rfl ?_
  intro X hX C
  subst hX
  unfold vc_Mod_toss at hw
  refine x_aload_n C d_Mod_toss_0 rfl ?_
  refine x_iload_n C d_Mod_toss_1 rfl ?_
  refine x_callV (As := [.int x1]) (rest := []) (p := 82) C (m_Mod_wrongKept (xg X) C.2.2.2.2.2.2.1 x1 s _ hw) cw_Mod_wrongKept ml_Mod_209 rfl (by decide) (by decide) rfl rfl rfl ⟨rfl, rfl, Nat.le_of_ble_eq_true rfl, Nat.le_of_ble_eq_true rfl⟩ ⟨Nat.zero_le _, Nat.zero_le _⟩ rfl (Nat.le_of_ble_eq_true rfl) d_Mod_toss_2 ?_
  rintro _ _ ⟨x10, rfl, rfl, hw⟩
  show V X _ _ _ _ 5 [some (.ref (xa X 82)), some (.int x1), none, none, none] [.int x10]
  refine x_istore_n (L' := [some (.ref (xa X 82)), some (.int x1), some (.int x10), none, none]) C d_Mod_toss_5 (Nat.le_of_ble_eq_true rfl) rfl ?_
  refine x_iload_n C d_Mod_toss_6 rfl ?_
  refine x_if_eq (tgt := 12) C d_Mod_toss_7 (by decide) (fun c12 => ?_) (fun c12 => ?_)
  · have hw := hw.1 c12
    refine x_aload_n C d_Mod_toss_12 rfl ?_
    refine g_Mod_34 (p := 82) C rfl fl_Mod_40 d_Mod_toss_13 ?_
    refine x_iload_n C d_Mod_toss_16 rfl ?_
    obtain ⟨h13, hw⟩ := hw
    refine x_iald (p := 93) (n := 8) C rfl h13 d_Mod_toss_17 ?_
    refine x_nm (fun x14 hx14 => ?_)
    have hw := hw x14 hx14
    refine x_istore_n (L' := [some (.ref (xa X 82)), some (.int x1), some (.int x10), some (.int x14), none]) C d_Mod_toss_18 (Nat.le_of_ble_eq_true rfl) rfl ?_
    refine x_aload_n C d_Mod_toss_19 rfl ?_
    refine g_Mod_35 (p := 82) C rfl fl_Mod_43 d_Mod_toss_20 ?_
    refine x_iload_n C d_Mod_toss_23 rfl ?_
    obtain ⟨h15, hw⟩ := hw
    refine x_iald (p := 94) (n := 8) C rfl h15 d_Mod_toss_24 ?_
    refine x_nm (fun x16 hx16 => ?_)
    have hw := hw x16 hx16
    refine x_istore (L' := [some (.ref (xa X 82)), some (.int x1), some (.int x10), some (.int x14), some (.int x16)]) C d_Mod_toss_25 (Nat.le_of_ble_eq_true rfl) rfl ?_
    refine x_iload_n C d_Mod_toss_27 rfl ?_
    refine x_bipush (v := 7) C d_Mod_toss_28 rfl ?_
    refine x_icmp_eq (tgt := 38) C d_Mod_toss_30 (by decide) (fun c17 => ?_) (fun c17 => ?_)
    · have hw := hw.1 c17
      refine x_bipush (v := (-15)) C d_Mod_toss_38 rfl ?_
      exact x_ireturn C d_Mod_toss_40 ⟨_, rfl, rfl, hw⟩
    · have hw := hw.2 c17
      refine x_iload C d_Mod_toss_33 rfl ?_
      refine x_if_ne (tgt := 41) C d_Mod_toss_35 (by decide) (fun c18 => ?_) (fun c18 => ?_)
      · have hw := hw.1 c18
        refine x_iload_n C d_Mod_toss_41 rfl ?_
        refine x_bipush (v := 6) C d_Mod_toss_42 rfl ?_
        refine x_icmp_ne (tgt := 60) C d_Mod_toss_44 (by decide) (fun c19 => ?_) (fun c19 => ?_)
        · have hw := hw.1 c19
          refine x_iload_n C d_Mod_toss_60 rfl ?_
          refine x_iconst (v := 2) C d_Mod_toss_61 rfl ?_
          obtain ⟨J20, hJ20, hw⟩ := hw
          have kJ20 : J20 → V X (xQ X (fun v s' => ∃ r : Int32, v = some (.int r) ∧ s = s' ∧ Q r)) 0 0 s 70 [some (.ref (xa X 82)), some (.int x1), some (.int x10), some (.int x14), some (.int x16)] [] := by
            intro  hv
            have hw := hJ20  hv
            refine x_bipush (v := 100) C d_Mod_toss_70 rfl ?_
            refine x_iload C d_Mod_toss_72 rfl ?_
            refine x_iadd C d_Mod_toss_74 ?_
            refine x_goto (tgt := 80) C d_Mod_toss_75 (by decide) ?_
            exact x_ireturn C d_Mod_toss_80 ⟨_, rfl, rfl, hw⟩
          refine x_icmp_eq (tgt := 70) C d_Mod_toss_62 (by decide) (fun c21 => ?_) (fun c21 => ?_)
          · have hw := hw.1 c21
            exact x_wk (kJ20  hw) (And.intro rfl (And.intro rfl (And.intro rfl (And.intro rfl (And.intro rfl (trivial))))))
          · have hw := hw.2 c21
            refine x_iload_n C d_Mod_toss_65 rfl ?_
            refine x_iconst (v := 3) C d_Mod_toss_66 rfl ?_
            refine x_icmp_ne (tgt := 78) C d_Mod_toss_67 (by decide) (fun c22 => ?_) (fun c22 => ?_)
            · have hw := hw.1 c22
              refine x_iload C d_Mod_toss_78 rfl ?_
              exact x_ireturn C d_Mod_toss_80 ⟨_, rfl, rfl, hw⟩
            · have hw := hw.2 c22
              exact x_wk (kJ20  hw) (And.intro rfl (And.intro rfl (And.intro rfl (And.intro rfl (And.intro rfl (trivial))))))
        · have hw := hw.2 c19
          refine x_sipush (v := 200) C d_Mod_toss_47 rfl ?_
          refine x_iload_n C d_Mod_toss_50 rfl ?_
          refine x_iload C d_Mod_toss_51 rfl ?_
          refine x_callS (As := [.int x14, .int x16]) (rest := [.int 200]) C (m_Mod_costBy (xg X) C.2.2.2.2.2.2.1 x14 x16 s _ hw) cw_Mod_costBy ml_Mod_282 rfl ⟨rfl, rfl, Nat.le_of_ble_eq_true rfl, Nat.le_of_ble_eq_true rfl⟩ ⟨Nat.zero_le _, Nat.zero_le _⟩ rfl (Nat.le_of_ble_eq_true rfl) d_Mod_toss_53 ?_
          rintro _ _ ⟨x23, rfl, rfl, hw⟩
          show V X _ _ _ _ 56 [some (.ref (xa X 82)), some (.int x1), some (.int x10), some (.int x14), some (.int x16)] [.int x23, .int 200]
          refine x_iadd C d_Mod_toss_56 ?_
          refine x_goto (tgt := 80) C d_Mod_toss_57 (by decide) ?_
          exact x_ireturn C d_Mod_toss_80 ⟨_, rfl, rfl, hw⟩
      · have hw := hw.2 c18
        refine x_bipush (v := (-15)) C d_Mod_toss_38 rfl ?_
        exact x_ireturn C d_Mod_toss_40 ⟨_, rfl, rfl, hw⟩
  · have hw := hw.2 c12
    refine x_iload_n C d_Mod_toss_10 rfl ?_
    exact x_ireturn C d_Mod_toss_11 ⟨_, rfl, rfl, hw⟩
