theorem d_Mod_calms_0 : decode b_Mod_calms 0 = .ok (.aload_n 0, 1) := by decide +kernel
theorem d_Mod_calms_1 : decode b_Mod_calms 1 = .ok (.iload_n 1, 1) := by decide +kernel
theorem d_Mod_calms_2 : decode b_Mod_calms 2 = .ok (.invokevirtual 179, 3) := by decide +kernel
theorem d_Mod_calms_5 : decode b_Mod_calms 5 = .ok (.ifCond .ne 5, 3) := by decide +kernel
theorem d_Mod_calms_8 : decode b_Mod_calms 8 = .ok (.iconst (-1), 1) := by decide +kernel
theorem d_Mod_calms_9 : decode b_Mod_calms 9 = .ok (.ireturn, 1) := by decide +kernel
theorem d_Mod_calms_10 : decode b_Mod_calms 10 = .ok (.aload_n 0, 1) := by decide +kernel
theorem d_Mod_calms_11 : decode b_Mod_calms 11 = .ok (.iload_n 1, 1) := by decide +kernel
theorem d_Mod_calms_12 : decode b_Mod_calms 12 = .ok (.iconst 2, 1) := by decide +kernel
theorem d_Mod_calms_13 : decode b_Mod_calms 13 = .ok (.invokevirtual 73, 3) := by decide +kernel
theorem d_Mod_calms_16 : decode b_Mod_calms 16 = .ok (.istore_n 2, 1) := by decide +kernel
theorem d_Mod_calms_17 : decode b_Mod_calms 17 = .ok (.bipush (-4), 2) := by decide +kernel
theorem d_Mod_calms_19 : decode b_Mod_calms 19 = .ok (.istore_n 3, 1) := by decide +kernel
theorem d_Mod_calms_20 : decode b_Mod_calms 20 = .ok (.iload_n 2, 1) := by decide +kernel
theorem d_Mod_calms_21 : decode b_Mod_calms 21 = .ok (.istore 4, 2) := by decide +kernel
theorem d_Mod_calms_23 : decode b_Mod_calms 23 = .ok (.iload 4, 2) := by decide +kernel
theorem d_Mod_calms_25 : decode b_Mod_calms 25 = .ok (.ifCond .lt 50, 3) := by decide +kernel
theorem d_Mod_calms_28 : decode b_Mod_calms 28 = .ok (.aload_n 0, 1) := by decide +kernel
theorem d_Mod_calms_29 : decode b_Mod_calms 29 = .ok (.getfield 9, 3) := by decide +kernel
theorem d_Mod_calms_32 : decode b_Mod_calms 32 = .ok (.iload_n 1, 1) := by decide +kernel
theorem d_Mod_calms_33 : decode b_Mod_calms 33 = .ok (.iconst 2, 1) := by decide +kernel
theorem d_Mod_calms_34 : decode b_Mod_calms 34 = .ok (.invokestatic 59, 3) := by decide +kernel
theorem d_Mod_calms_37 : decode b_Mod_calms 37 = .ok (.iload_n 2, 1) := by decide +kernel
theorem d_Mod_calms_38 : decode b_Mod_calms 38 = .ok (.iload 4, 2) := by decide +kernel
theorem d_Mod_calms_40 : decode b_Mod_calms 40 = .ok (.isub, 1) := by decide +kernel
theorem d_Mod_calms_41 : decode b_Mod_calms 41 = .ok (.iastore, 1) := by decide +kernel
theorem d_Mod_calms_42 : decode b_Mod_calms 42 = .ok (.aload_n 0, 1) := by decide +kernel
theorem d_Mod_calms_43 : decode b_Mod_calms 43 = .ok (.iload_n 1, 1) := by decide +kernel
theorem d_Mod_calms_44 : decode b_Mod_calms 44 = .ok (.iconst 0, 1) := by decide +kernel
theorem d_Mod_calms_45 : decode b_Mod_calms 45 = .ok (.invokevirtual 212, 3) := by decide +kernel
theorem d_Mod_calms_48 : decode b_Mod_calms 48 = .ok (.aload_n 0, 1) := by decide +kernel
theorem d_Mod_calms_49 : decode b_Mod_calms 49 = .ok (.getfield 87, 3) := by decide +kernel
theorem d_Mod_calms_52 : decode b_Mod_calms 52 = .ok (.ifCond .ge 15, 3) := by decide +kernel
theorem d_Mod_calms_55 : decode b_Mod_calms 55 = .ok (.iload 4, 2) := by decide +kernel
theorem d_Mod_calms_57 : decode b_Mod_calms 57 = .ok (.aload_n 0, 1) := by decide +kernel
theorem d_Mod_calms_58 : decode b_Mod_calms 58 = .ok (.getfield 9, 3) := by decide +kernel
theorem d_Mod_calms_61 : decode b_Mod_calms 61 = .ok (.iconst 4, 1) := by decide +kernel
theorem d_Mod_calms_62 : decode b_Mod_calms 62 = .ok (.iaload, 1) := by decide +kernel
theorem d_Mod_calms_63 : decode b_Mod_calms 63 = .ok (.imul, 1) := by decide +kernel
theorem d_Mod_calms_64 : decode b_Mod_calms 64 = .ok (.goto 4, 3) := by decide +kernel
theorem d_Mod_calms_67 : decode b_Mod_calms 67 = .ok (.iload_n 3, 1) := by decide +kernel
theorem d_Mod_calms_68 : decode b_Mod_calms 68 = .ok (.istore_n 3, 1) := by decide +kernel
theorem d_Mod_calms_69 : decode b_Mod_calms 69 = .ok (.iinc 4 (-1), 3) := by decide +kernel
theorem d_Mod_calms_72 : decode b_Mod_calms 72 = .ok (.goto (-49), 3) := by decide +kernel
theorem d_Mod_calms_75 : decode b_Mod_calms 75 = .ok (.aload_n 0, 1) := by decide +kernel
theorem d_Mod_calms_76 : decode b_Mod_calms 76 = .ok (.getfield 9, 3) := by decide +kernel
theorem d_Mod_calms_79 : decode b_Mod_calms 79 = .ok (.iload_n 1, 1) := by decide +kernel
theorem d_Mod_calms_80 : decode b_Mod_calms 80 = .ok (.iconst 2, 1) := by decide +kernel
theorem d_Mod_calms_81 : decode b_Mod_calms 81 = .ok (.invokestatic 59, 3) := by decide +kernel
theorem d_Mod_calms_84 : decode b_Mod_calms 84 = .ok (.iload_n 2, 1) := by decide +kernel
theorem d_Mod_calms_85 : decode b_Mod_calms 85 = .ok (.iastore, 1) := by decide +kernel
theorem d_Mod_calms_86 : decode b_Mod_calms 86 = .ok (.iload_n 3, 1) := by decide +kernel
theorem d_Mod_calms_87 : decode b_Mod_calms 87 = .ok (.ireturn, 1) := by decide +kernel
theorem d_Mod_eachDeed_0 : decode b_Mod_eachDeed 0 = .ok (.aload_n 0, 1) := by decide +kernel
theorem d_Mod_eachDeed_1 : decode b_Mod_eachDeed 1 = .ok (.iload_n 1, 1) := by decide +kernel
theorem d_Mod_eachDeed_2 : decode b_Mod_eachDeed 2 = .ok (.iload_n 2, 1) := by decide +kernel
theorem d_Mod_eachDeed_3 : decode b_Mod_eachDeed 3 = .ok (.iconst 1, 1) := by decide +kernel
theorem d_Mod_eachDeed_4 : decode b_Mod_eachDeed 4 = .ok (.invokevirtual 80, 3) := by decide +kernel
theorem d_Mod_eachDeed_7 : decode b_Mod_eachDeed 7 = .ok (.aload_n 0, 1) := by decide +kernel
theorem d_Mod_eachDeed_8 : decode b_Mod_eachDeed 8 = .ok (.iload_n 2, 1) := by decide +kernel
theorem d_Mod_eachDeed_9 : decode b_Mod_eachDeed 9 = .ok (.aload_n 0, 1) := by decide +kernel
theorem d_Mod_eachDeed_10 : decode b_Mod_eachDeed 10 = .ok (.invokevirtual 203, 3) := by decide +kernel
theorem d_Mod_eachDeed_13 : decode b_Mod_eachDeed 13 = .ok (.invokevirtual 84, 3) := by decide +kernel
theorem d_Mod_eachDeed_16 : decode b_Mod_eachDeed 16 = .ok (.isub, 1) := by decide +kernel
theorem d_Mod_eachDeed_17 : decode b_Mod_eachDeed 17 = .ok (.iload 5, 2) := by decide +kernel
theorem d_Mod_eachDeed_19 : decode b_Mod_eachDeed 19 = .ok (.if_icmp .gt 54, 3) := by decide +kernel
theorem d_Mod_eachDeed_22 : decode b_Mod_eachDeed 22 = .ok (.iload 6, 2) := by decide +kernel
theorem d_Mod_eachDeed_24 : decode b_Mod_eachDeed 24 = .ok (.aload_n 0, 1) := by decide +kernel
theorem d_Mod_eachDeed_25 : decode b_Mod_eachDeed 25 = .ok (.getfield 229, 3) := by decide +kernel
theorem d_Mod_eachDeed_28 : decode b_Mod_eachDeed 28 = .ok (.if_icmp .lt 4, 3) := by decide +kernel
theorem d_Mod_eachDeed_31 : decode b_Mod_eachDeed 31 = .ok (.return_, 1) := by decide +kernel
theorem d_Mod_eachDeed_32 : decode b_Mod_eachDeed 32 = .ok (.aload_n 0, 1) := by decide +kernel
theorem d_Mod_eachDeed_33 : decode b_Mod_eachDeed 33 = .ok (.iload 6, 2) := by decide +kernel
theorem d_Mod_eachDeed_35 : decode b_Mod_eachDeed 35 = .ok (.putfield 229, 3) := by decide +kernel
theorem d_Mod_eachDeed_38 : decode b_Mod_eachDeed 38 = .ok (.aload_n 0, 1) := by decide +kernel
theorem d_Mod_eachDeed_39 : decode b_Mod_eachDeed 39 = .ok (.iload_n 3, 1) := by decide +kernel
theorem d_Mod_eachDeed_40 : decode b_Mod_eachDeed 40 = .ok (.putfield 232, 3) := by decide +kernel
theorem d_Mod_eachDeed_43 : decode b_Mod_eachDeed 43 = .ok (.iconst 0, 1) := by decide +kernel
theorem d_Mod_eachDeed_44 : decode b_Mod_eachDeed 44 = .ok (.istore 7, 2) := by decide +kernel
theorem d_Mod_eachDeed_46 : decode b_Mod_eachDeed 46 = .ok (.iload 7, 2) := by decide +kernel
theorem d_Mod_eachDeed_48 : decode b_Mod_eachDeed 48 = .ok (.iload_n 3, 1) := by decide +kernel
theorem d_Mod_eachDeed_49 : decode b_Mod_eachDeed 49 = .ok (.if_icmp .ge 23, 3) := by decide +kernel
theorem d_Mod_eachDeed_52 : decode b_Mod_eachDeed 52 = .ok (.aload_n 0, 1) := by decide +kernel
theorem d_Mod_eachDeed_53 : decode b_Mod_eachDeed 53 = .ok (.getfield 34, 3) := by decide +kernel
theorem d_Mod_eachDeed_56 : decode b_Mod_eachDeed 56 = .ok (.iload 7, 2) := by decide +kernel
theorem d_Mod_eachDeed_58 : decode b_Mod_eachDeed 58 = .ok (.aload_n 0, 1) := by decide +kernel
theorem d_Mod_eachDeed_59 : decode b_Mod_eachDeed 59 = .ok (.getfield 31, 3) := by decide +kernel
theorem d_Mod_eachDeed_62 : decode b_Mod_eachDeed 62 = .ok (.iload 7, 2) := by decide +kernel
theorem d_Mod_eachDeed_64 : decode b_Mod_eachDeed 64 = .ok (.iaload, 1) := by decide +kernel
theorem d_Mod_eachDeed_65 : decode b_Mod_eachDeed 65 = .ok (.iastore, 1) := by decide +kernel
theorem d_Mod_eachDeed_66 : decode b_Mod_eachDeed 66 = .ok (.iinc 7 1, 3) := by decide +kernel
theorem d_Mod_eachDeed_69 : decode b_Mod_eachDeed 69 = .ok (.goto (-23), 3) := by decide +kernel
theorem d_Mod_eachDeed_72 : decode b_Mod_eachDeed 72 = .ok (.return_, 1) := by decide +kernel
theorem d_Mod_eachDeed_73 : decode b_Mod_eachDeed 73 = .ok (.iload_n 3, 1) := by decide +kernel
theorem d_Mod_eachDeed_74 : decode b_Mod_eachDeed 74 = .ok (.iload 4, 2) := by decide +kernel
theorem d_Mod_eachDeed_76 : decode b_Mod_eachDeed 76 = .ok (.if_icmp .ne 4, 3) := by decide +kernel
theorem d_Mod_eachDeed_79 : decode b_Mod_eachDeed 79 = .ok (.return_, 1) := by decide +kernel
theorem d_Mod_eachDeed_80 : decode b_Mod_eachDeed 80 = .ok (.aload_n 0, 1) := by decide +kernel
theorem d_Mod_eachDeed_81 : decode b_Mod_eachDeed 81 = .ok (.iload_n 1, 1) := by decide +kernel
theorem d_Mod_eachDeed_82 : decode b_Mod_eachDeed 82 = .ok (.iconst 2, 1) := by decide +kernel
theorem d_Mod_eachDeed_83 : decode b_Mod_eachDeed 83 = .ok (.invokevirtual 73, 3) := by decide +kernel
theorem d_Mod_eachDeed_86 : decode b_Mod_eachDeed 86 = .ok (.istore 7, 2) := by decide +kernel
theorem d_Mod_eachDeed_88 : decode b_Mod_eachDeed 88 = .ok (.iconst 0, 1) := by decide +kernel
theorem d_Mod_eachDeed_89 : decode b_Mod_eachDeed 89 = .ok (.istore 8, 2) := by decide +kernel
theorem d_Mod_eachDeed_91 : decode b_Mod_eachDeed 91 = .ok (.iload 8, 2) := by decide +kernel
theorem d_Mod_eachDeed_93 : decode b_Mod_eachDeed 93 = .ok (.iconst 4, 1) := by decide +kernel
theorem d_Mod_eachDeed_94 : decode b_Mod_eachDeed 94 = .ok (.if_icmp .ge 160, 3) := by decide +kernel
theorem d_Mod_eachDeed_97 : decode b_Mod_eachDeed 97 = .ok (.aload_n 0, 1) := by decide +kernel
theorem d_Mod_eachDeed_98 : decode b_Mod_eachDeed 98 = .ok (.getfield 31, 3) := by decide +kernel
theorem d_Mod_eachDeed_101 : decode b_Mod_eachDeed 101 = .ok (.iload_n 3, 1) := by decide +kernel
theorem d_Mod_eachDeed_102 : decode b_Mod_eachDeed 102 = .ok (.iload 8, 2) := by decide +kernel
theorem d_Mod_eachDeed_104 : decode b_Mod_eachDeed 104 = .ok (.iastore, 1) := by decide +kernel
theorem d_Mod_eachDeed_105 : decode b_Mod_eachDeed 105 = .ok (.aload_n 0, 1) := by decide +kernel
theorem d_Mod_eachDeed_106 : decode b_Mod_eachDeed 106 = .ok (.getfield 9, 3) := by decide +kernel
theorem d_Mod_eachDeed_109 : decode b_Mod_eachDeed 109 = .ok (.iload_n 1, 1) := by decide +kernel
theorem d_Mod_eachDeed_110 : decode b_Mod_eachDeed 110 = .ok (.iconst 2, 1) := by decide +kernel
theorem d_Mod_eachDeed_111 : decode b_Mod_eachDeed 111 = .ok (.invokestatic 59, 3) := by decide +kernel
theorem d_Mod_eachDeed_114 : decode b_Mod_eachDeed 114 = .ok (.iload 8, 2) := by decide +kernel
theorem d_Mod_eachDeed_116 : decode b_Mod_eachDeed 116 = .ok (.iconst 2, 1) := by decide +kernel
theorem d_Mod_eachDeed_117 : decode b_Mod_eachDeed 117 = .ok (.if_icmp .ne 14, 3) := by decide +kernel
theorem d_Mod_eachDeed_120 : decode b_Mod_eachDeed 120 = .ok (.iconst 0, 1) := by decide +kernel
theorem d_Mod_eachDeed_121 : decode b_Mod_eachDeed 121 = .ok (.iload 7, 2) := by decide +kernel
theorem d_Mod_eachDeed_123 : decode b_Mod_eachDeed 123 = .ok (.iconst 1, 1) := by decide +kernel
theorem d_Mod_eachDeed_124 : decode b_Mod_eachDeed 124 = .ok (.isub, 1) := by decide +kernel
theorem d_Mod_eachDeed_125 : decode b_Mod_eachDeed 125 = .ok (.invokestatic 66, 3) := by decide +kernel
theorem d_Mod_eachDeed_128 : decode b_Mod_eachDeed 128 = .ok (.goto 23, 3) := by decide +kernel
theorem d_Mod_eachDeed_131 : decode b_Mod_eachDeed 131 = .ok (.iload 8, 2) := by decide +kernel
theorem d_Mod_eachDeed_133 : decode b_Mod_eachDeed 133 = .ok (.iconst 3, 1) := by decide +kernel
theorem d_Mod_eachDeed_134 : decode b_Mod_eachDeed 134 = .ok (.if_icmp .ne 15, 3) := by decide +kernel
theorem d_Mod_eachDeed_137 : decode b_Mod_eachDeed 137 = .ok (.bipush 9, 2) := by decide +kernel
theorem d_Mod_eachDeed_139 : decode b_Mod_eachDeed 139 = .ok (.iload 7, 2) := by decide +kernel
theorem d_Mod_eachDeed_141 : decode b_Mod_eachDeed 141 = .ok (.iconst 1, 1) := by decide +kernel
theorem d_Mod_eachDeed_142 : decode b_Mod_eachDeed 142 = .ok (.iadd, 1) := by decide +kernel
theorem d_Mod_eachDeed_143 : decode b_Mod_eachDeed 143 = .ok (.invokestatic 235, 3) := by decide +kernel
theorem d_Mod_eachDeed_146 : decode b_Mod_eachDeed 146 = .ok (.goto 5, 3) := by decide +kernel
theorem d_Mod_eachDeed_149 : decode b_Mod_eachDeed 149 = .ok (.iload 7, 2) := by decide +kernel
theorem d_Mod_eachDeed_151 : decode b_Mod_eachDeed 151 = .ok (.iastore, 1) := by decide +kernel
theorem d_Mod_eachDeed_152 : decode b_Mod_eachDeed 152 = .ok (.aload_n 0, 1) := by decide +kernel
theorem d_Mod_eachDeed_153 : decode b_Mod_eachDeed 153 = .ok (.iload_n 1, 1) := by decide +kernel
theorem d_Mod_eachDeed_154 : decode b_Mod_eachDeed 154 = .ok (.iload_n 2, 1) := by decide +kernel
theorem d_Mod_eachDeed_155 : decode b_Mod_eachDeed 155 = .ok (.iload_n 3, 1) := by decide +kernel
theorem d_Mod_eachDeed_156 : decode b_Mod_eachDeed 156 = .ok (.iconst 1, 1) := by decide +kernel
theorem d_Mod_eachDeed_157 : decode b_Mod_eachDeed 157 = .ok (.iadd, 1) := by decide +kernel
theorem d_Mod_eachDeed_158 : decode b_Mod_eachDeed 158 = .ok (.iload 4, 2) := by decide +kernel
theorem d_Mod_eachDeed_160 : decode b_Mod_eachDeed 160 = .ok (.iload 5, 2) := by decide +kernel
theorem d_Mod_eachDeed_162 : decode b_Mod_eachDeed 162 = .ok (.iload 8, 2) := by decide +kernel
theorem d_Mod_eachDeed_164 : decode b_Mod_eachDeed 164 = .ok (.ifCond .ne 12, 3) := by decide +kernel
theorem d_Mod_eachDeed_167 : decode b_Mod_eachDeed 167 = .ok (.aload_n 0, 1) := by decide +kernel
theorem d_Mod_eachDeed_168 : decode b_Mod_eachDeed 168 = .ok (.getfield 238, 3) := by decide +kernel
theorem d_Mod_eachDeed_171 : decode b_Mod_eachDeed 171 = .ok (.iconst 3, 1) := by decide +kernel
theorem d_Mod_eachDeed_172 : decode b_Mod_eachDeed 172 = .ok (.idiv, 1) := by decide +kernel
theorem d_Mod_eachDeed_173 : decode b_Mod_eachDeed 173 = .ok (.goto 29, 3) := by decide +kernel
theorem d_Mod_eachDeed_176 : decode b_Mod_eachDeed 176 = .ok (.iload 8, 2) := by decide +kernel
theorem d_Mod_eachDeed_178 : decode b_Mod_eachDeed 178 = .ok (.iconst 1, 1) := by decide +kernel
theorem d_Mod_eachDeed_179 : decode b_Mod_eachDeed 179 = .ok (.if_icmp .ne 12, 3) := by decide +kernel
theorem d_Mod_eachDeed_182 : decode b_Mod_eachDeed 182 = .ok (.aload_n 0, 1) := by decide +kernel
theorem d_Mod_eachDeed_183 : decode b_Mod_eachDeed 183 = .ok (.getfield 241, 3) := by decide +kernel
theorem d_Mod_eachDeed_186 : decode b_Mod_eachDeed 186 = .ok (.iconst 3, 1) := by decide +kernel
theorem d_Mod_eachDeed_187 : decode b_Mod_eachDeed 187 = .ok (.idiv, 1) := by decide +kernel
theorem d_Mod_eachDeed_188 : decode b_Mod_eachDeed 188 = .ok (.goto 14, 3) := by decide +kernel
theorem d_Mod_eachDeed_191 : decode b_Mod_eachDeed 191 = .ok (.iload 8, 2) := by decide +kernel
theorem d_Mod_eachDeed_193 : decode b_Mod_eachDeed 193 = .ok (.iconst 3, 1) := by decide +kernel
theorem d_Mod_eachDeed_194 : decode b_Mod_eachDeed 194 = .ok (.if_icmp .ne 7, 3) := by decide +kernel
theorem d_Mod_eachDeed_197 : decode b_Mod_eachDeed 197 = .ok (.iconst 1, 1) := by decide +kernel
theorem d_Mod_eachDeed_198 : decode b_Mod_eachDeed 198 = .ok (.goto 4, 3) := by decide +kernel
theorem d_Mod_eachDeed_201 : decode b_Mod_eachDeed 201 = .ok (.iconst 0, 1) := by decide +kernel
theorem d_Mod_eachDeed_202 : decode b_Mod_eachDeed 202 = .ok (.iadd, 1) := by decide +kernel
theorem d_Mod_eachDeed_203 : decode b_Mod_eachDeed 203 = .ok (.iload 6, 2) := by decide +kernel
theorem d_Mod_eachDeed_205 : decode b_Mod_eachDeed 205 = .ok (.iload 8, 2) := by decide +kernel
theorem d_Mod_eachDeed_207 : decode b_Mod_eachDeed 207 = .ok (.iconst 2, 1) := by decide +kernel
theorem d_Mod_eachDeed_208 : decode b_Mod_eachDeed 208 = .ok (.if_icmp .ge 8, 3) := by decide +kernel
theorem d_Mod_eachDeed_211 : decode b_Mod_eachDeed 211 = .ok (.bipush 10, 2) := by decide +kernel
theorem d_Mod_eachDeed_213 : decode b_Mod_eachDeed 213 = .ok (.goto 19, 3) := by decide +kernel
theorem d_Mod_eachDeed_216 : decode b_Mod_eachDeed 216 = .ok (.iload 8, 2) := by decide +kernel
theorem d_Mod_eachDeed_218 : decode b_Mod_eachDeed 218 = .ok (.iconst 2, 1) := by decide +kernel
theorem d_Mod_eachDeed_219 : decode b_Mod_eachDeed 219 = .ok (.if_icmp .ne 12, 3) := by decide +kernel
theorem d_Mod_eachDeed_222 : decode b_Mod_eachDeed 222 = .ok (.aload_n 0, 1) := by decide +kernel
theorem d_Mod_eachDeed_223 : decode b_Mod_eachDeed 223 = .ok (.getfield 9, 3) := by decide +kernel
theorem d_Mod_eachDeed_226 : decode b_Mod_eachDeed 226 = .ok (.iconst 4, 1) := by decide +kernel
theorem d_Mod_eachDeed_227 : decode b_Mod_eachDeed 227 = .ok (.iaload, 1) := by decide +kernel
theorem d_Mod_eachDeed_228 : decode b_Mod_eachDeed 228 = .ok (.goto 4, 3) := by decide +kernel
theorem d_Mod_eachDeed_231 : decode b_Mod_eachDeed 231 = .ok (.iconst 2, 1) := by decide +kernel
theorem d_Mod_eachDeed_232 : decode b_Mod_eachDeed 232 = .ok (.iadd, 1) := by decide +kernel
theorem d_Mod_eachDeed_233 : decode b_Mod_eachDeed 233 = .ok (.invokevirtual 244, 3) := by decide +kernel
theorem d_Mod_eachDeed_236 : decode b_Mod_eachDeed 236 = .ok (.aload_n 0, 1) := by decide +kernel
theorem d_Mod_eachDeed_237 : decode b_Mod_eachDeed 237 = .ok (.getfield 9, 3) := by decide +kernel
theorem d_Mod_eachDeed_240 : decode b_Mod_eachDeed 240 = .ok (.iload_n 1, 1) := by decide +kernel
theorem d_Mod_eachDeed_241 : decode b_Mod_eachDeed 241 = .ok (.iconst 2, 1) := by decide +kernel
theorem d_Mod_eachDeed_242 : decode b_Mod_eachDeed 242 = .ok (.invokestatic 59, 3) := by decide +kernel
theorem d_Mod_eachDeed_245 : decode b_Mod_eachDeed 245 = .ok (.iload 7, 2) := by decide +kernel
theorem d_Mod_eachDeed_247 : decode b_Mod_eachDeed 247 = .ok (.iastore, 1) := by decide +kernel
theorem d_Mod_eachDeed_248 : decode b_Mod_eachDeed 248 = .ok (.iinc 8 1, 3) := by decide +kernel
theorem d_Mod_eachDeed_251 : decode b_Mod_eachDeed 251 = .ok (.goto (-160), 3) := by decide +kernel
theorem d_Mod_eachDeed_254 : decode b_Mod_eachDeed 254 = .ok (.return_, 1) := by decide +kernel
theorem d_Mod_rescue_0 : decode b_Mod_rescue 0 = .ok (.aload_n 0, 1) := by decide +kernel
theorem d_Mod_rescue_1 : decode b_Mod_rescue 1 = .ok (.iload_n 1, 1) := by decide +kernel
theorem d_Mod_rescue_2 : decode b_Mod_rescue 2 = .ok (.invokevirtual 179, 3) := by decide +kernel
theorem d_Mod_rescue_5 : decode b_Mod_rescue 5 = .ok (.ifCond .eq 27, 3) := by decide +kernel
theorem d_Mod_rescue_8 : decode b_Mod_rescue 8 = .ok (.aload_n 0, 1) := by decide +kernel
theorem d_Mod_rescue_9 : decode b_Mod_rescue 9 = .ok (.iload_n 2, 1) := by decide +kernel
theorem d_Mod_rescue_10 : decode b_Mod_rescue 10 = .ok (.invokevirtual 200, 3) := by decide +kernel
theorem d_Mod_rescue_13 : decode b_Mod_rescue 13 = .ok (.ifCond .eq 19, 3) := by decide +kernel
theorem d_Mod_rescue_16 : decode b_Mod_rescue 16 = .ok (.iload_n 3, 1) := by decide +kernel
theorem d_Mod_rescue_17 : decode b_Mod_rescue 17 = .ok (.iconst 0, 1) := by decide +kernel
theorem d_Mod_rescue_18 : decode b_Mod_rescue 18 = .ok (.bipush 6, 2) := by decide +kernel
theorem d_Mod_rescue_20 : decode b_Mod_rescue 20 = .ok (.invokestatic 55, 3) := by decide +kernel
theorem d_Mod_rescue_23 : decode b_Mod_rescue 23 = .ok (.ifCond .eq 9, 3) := by decide +kernel
theorem d_Mod_rescue_26 : decode b_Mod_rescue 26 = .ok (.iload 4, 2) := by decide +kernel
theorem d_Mod_rescue_28 : decode b_Mod_rescue 28 = .ok (.iconst (-1), 1) := by decide +kernel
theorem d_Mod_rescue_29 : decode b_Mod_rescue 29 = .ok (.if_icmp .ge 5, 3) := by decide +kernel
theorem d_Mod_rescue_32 : decode b_Mod_rescue 32 = .ok (.iconst (-1), 1) := by decide +kernel
theorem d_Mod_rescue_33 : decode b_Mod_rescue 33 = .ok (.ireturn, 1) := by decide +kernel
theorem d_Mod_rescue_34 : decode b_Mod_rescue 34 = .ok (.aload_n 0, 1) := by decide +kernel
theorem d_Mod_rescue_35 : decode b_Mod_rescue 35 = .ok (.iload_n 1, 1) := by decide +kernel
theorem d_Mod_rescue_36 : decode b_Mod_rescue 36 = .ok (.iload_n 2, 1) := by decide +kernel
theorem d_Mod_rescue_37 : decode b_Mod_rescue 37 = .ok (.aload_n 0, 1) := by decide +kernel
theorem d_Mod_rescue_38 : decode b_Mod_rescue 38 = .ok (.invokevirtual 203, 3) := by decide +kernel
theorem d_Mod_rescue_41 : decode b_Mod_rescue 41 = .ok (.invokevirtual 94, 3) := by decide +kernel
theorem d_Mod_rescue_44 : decode b_Mod_rescue 44 = .ok (.iconst 2, 1) := by decide +kernel
theorem d_Mod_rescue_45 : decode b_Mod_rescue 45 = .ok (.if_icmp .ge 6, 3) := by decide +kernel
theorem d_Mod_rescue_48 : decode b_Mod_rescue 48 = .ok (.bipush (-3), 2) := by decide +kernel
theorem d_Mod_rescue_50 : decode b_Mod_rescue 50 = .ok (.ireturn, 1) := by decide +kernel
theorem d_Mod_rescue_51 : decode b_Mod_rescue 51 = .ok (.aload_n 0, 1) := by decide +kernel
theorem d_Mod_rescue_52 : decode b_Mod_rescue 52 = .ok (.iconst 0, 1) := by decide +kernel
theorem d_Mod_rescue_53 : decode b_Mod_rescue 53 = .ok (.putfield 238, 3) := by decide +kernel
theorem d_Mod_rescue_56 : decode b_Mod_rescue 56 = .ok (.aload_n 0, 1) := by decide +kernel
theorem d_Mod_rescue_57 : decode b_Mod_rescue 57 = .ok (.aload_n 0, 1) := by decide +kernel
theorem d_Mod_rescue_58 : decode b_Mod_rescue 58 = .ok (.getfield 9, 3) := by decide +kernel
theorem d_Mod_rescue_61 : decode b_Mod_rescue 61 = .ok (.iconst 1, 1) := by decide +kernel
theorem d_Mod_rescue_62 : decode b_Mod_rescue 62 = .ok (.iaload, 1) := by decide +kernel
theorem d_Mod_rescue_63 : decode b_Mod_rescue 63 = .ok (.iconst 1, 1) := by decide +kernel
theorem d_Mod_rescue_64 : decode b_Mod_rescue 64 = .ok (.if_icmp .le 8, 3) := by decide +kernel
theorem d_Mod_rescue_67 : decode b_Mod_rescue 67 = .ok (.bipush 9, 2) := by decide +kernel
theorem d_Mod_rescue_69 : decode b_Mod_rescue 69 = .ok (.goto 4, 3) := by decide +kernel
theorem d_Mod_rescue_72 : decode b_Mod_rescue 72 = .ok (.iconst 0, 1) := by decide +kernel
theorem d_Mod_rescue_73 : decode b_Mod_rescue 73 = .ok (.putfield 241, 3) := by decide +kernel
theorem d_Mod_rescue_76 : decode b_Mod_rescue 76 = .ok (.iconst 0, 1) := by decide +kernel
theorem d_Mod_rescue_77 : decode b_Mod_rescue 77 = .ok (.istore 5, 2) := by decide +kernel
theorem d_Mod_rescue_79 : decode b_Mod_rescue 79 = .ok (.iload 5, 2) := by decide +kernel
theorem d_Mod_rescue_81 : decode b_Mod_rescue 81 = .ok (.aload_n 0, 1) := by decide +kernel
theorem d_Mod_rescue_82 : decode b_Mod_rescue 82 = .ok (.getfield 9, 3) := by decide +kernel
theorem d_Mod_rescue_85 : decode b_Mod_rescue 85 = .ok (.iconst 1, 1) := by decide +kernel
theorem d_Mod_rescue_86 : decode b_Mod_rescue 86 = .ok (.iaload, 1) := by decide +kernel
theorem d_Mod_rescue_87 : decode b_Mod_rescue 87 = .ok (.if_icmp .ge 54, 3) := by decide +kernel
theorem d_Mod_rescue_90 : decode b_Mod_rescue 90 = .ok (.iload 5, 2) := by decide +kernel
theorem d_Mod_rescue_92 : decode b_Mod_rescue 92 = .ok (.iload_n 1, 1) := by decide +kernel
theorem d_Mod_rescue_93 : decode b_Mod_rescue 93 = .ok (.if_icmp .ne 6, 3) := by decide +kernel
theorem d_Mod_rescue_96 : decode b_Mod_rescue 96 = .ok (.goto 39, 3) := by decide +kernel
theorem d_Mod_rescue_99 : decode b_Mod_rescue 99 = .ok (.aload_n 0, 1) := by decide +kernel
theorem d_Mod_rescue_100 : decode b_Mod_rescue 100 = .ok (.aload_n 0, 1) := by decide +kernel
theorem d_Mod_rescue_101 : decode b_Mod_rescue 101 = .ok (.getfield 238, 3) := by decide +kernel
theorem d_Mod_rescue_104 : decode b_Mod_rescue 104 = .ok (.aload_n 0, 1) := by decide +kernel
theorem d_Mod_rescue_105 : decode b_Mod_rescue 105 = .ok (.iload 5, 2) := by decide +kernel
theorem d_Mod_rescue_107 : decode b_Mod_rescue 107 = .ok (.iconst 3, 1) := by decide +kernel
theorem d_Mod_rescue_108 : decode b_Mod_rescue 108 = .ok (.invokevirtual 73, 3) := by decide +kernel
theorem d_Mod_rescue_111 : decode b_Mod_rescue 111 = .ok (.invokestatic 66, 3) := by decide +kernel
theorem d_Mod_rescue_114 : decode b_Mod_rescue 114 = .ok (.putfield 238, 3) := by decide +kernel
theorem d_Mod_rescue_117 : decode b_Mod_rescue 117 = .ok (.aload_n 0, 1) := by decide +kernel
theorem d_Mod_rescue_118 : decode b_Mod_rescue 118 = .ok (.aload_n 0, 1) := by decide +kernel
theorem d_Mod_rescue_119 : decode b_Mod_rescue 119 = .ok (.getfield 241, 3) := by decide +kernel
theorem d_Mod_rescue_122 : decode b_Mod_rescue 122 = .ok (.aload_n 0, 1) := by decide +kernel
theorem d_Mod_rescue_123 : decode b_Mod_rescue 123 = .ok (.iload 5, 2) := by decide +kernel
theorem d_Mod_rescue_125 : decode b_Mod_rescue 125 = .ok (.iconst 3, 1) := by decide +kernel
theorem d_Mod_rescue_126 : decode b_Mod_rescue 126 = .ok (.invokevirtual 73, 3) := by decide +kernel
theorem d_Mod_rescue_129 : decode b_Mod_rescue 129 = .ok (.invokestatic 235, 3) := by decide +kernel
theorem d_Mod_rescue_132 : decode b_Mod_rescue 132 = .ok (.putfield 241, 3) := by decide +kernel
theorem d_Mod_rescue_135 : decode b_Mod_rescue 135 = .ok (.iinc 5 1, 3) := by decide +kernel
theorem d_Mod_rescue_138 : decode b_Mod_rescue 138 = .ok (.goto (-59), 3) := by decide +kernel
theorem d_Mod_rescue_141 : decode b_Mod_rescue 141 = .ok (.aload_n 0, 1) := by decide +kernel
theorem d_Mod_rescue_142 : decode b_Mod_rescue 142 = .ok (.ldc 216, 2) := by decide +kernel
theorem d_Mod_rescue_144 : decode b_Mod_rescue 144 = .ok (.putfield 229, 3) := by decide +kernel
theorem d_Mod_rescue_147 : decode b_Mod_rescue 147 = .ok (.aload_n 0, 1) := by decide +kernel
theorem d_Mod_rescue_148 : decode b_Mod_rescue 148 = .ok (.iconst 0, 1) := by decide +kernel
theorem d_Mod_rescue_149 : decode b_Mod_rescue 149 = .ok (.putfield 232, 3) := by decide +kernel
theorem d_Mod_rescue_152 : decode b_Mod_rescue 152 = .ok (.aload_n 0, 1) := by decide +kernel
theorem d_Mod_rescue_153 : decode b_Mod_rescue 153 = .ok (.iload_n 1, 1) := by decide +kernel
theorem d_Mod_rescue_154 : decode b_Mod_rescue 154 = .ok (.iload_n 2, 1) := by decide +kernel
theorem d_Mod_rescue_155 : decode b_Mod_rescue 155 = .ok (.iconst 0, 1) := by decide +kernel
theorem d_Mod_rescue_156 : decode b_Mod_rescue 156 = .ok (.iload_n 3, 1) := by decide +kernel
theorem d_Mod_rescue_157 : decode b_Mod_rescue 157 = .ok (.iconst 0, 1) := by decide +kernel
theorem d_Mod_rescue_158 : decode b_Mod_rescue 158 = .ok (.iconst 0, 1) := by decide +kernel
theorem d_Mod_rescue_159 : decode b_Mod_rescue 159 = .ok (.invokevirtual 244, 3) := by decide +kernel
theorem d_Mod_rescue_162 : decode b_Mod_rescue 162 = .ok (.aload_n 0, 1) := by decide +kernel
theorem d_Mod_rescue_163 : decode b_Mod_rescue 163 = .ok (.getfield 229, 3) := by decide +kernel
theorem d_Mod_rescue_166 : decode b_Mod_rescue 166 = .ok (.ldc 216, 2) := by decide +kernel
theorem d_Mod_rescue_168 : decode b_Mod_rescue 168 = .ok (.if_icmp .ne 6, 3) := by decide +kernel
theorem d_Mod_rescue_171 : decode b_Mod_rescue 171 = .ok (.bipush (-4), 2) := by decide +kernel
theorem d_Mod_rescue_173 : decode b_Mod_rescue 173 = .ok (.ireturn, 1) := by decide +kernel
theorem d_Mod_rescue_174 : decode b_Mod_rescue 174 = .ok (.iload 4, 2) := by decide +kernel
theorem d_Mod_rescue_176 : decode b_Mod_rescue 176 = .ok (.ifCond .ge 10, 3) := by decide +kernel
theorem d_Mod_rescue_179 : decode b_Mod_rescue 179 = .ok (.aload_n 0, 1) := by decide +kernel
theorem d_Mod_rescue_180 : decode b_Mod_rescue 180 = .ok (.getfield 229, 3) := by decide +kernel
theorem d_Mod_rescue_183 : decode b_Mod_rescue 183 = .ok (.goto 24, 3) := by decide +kernel
theorem d_Mod_rescue_186 : decode b_Mod_rescue 186 = .ok (.iload 4, 2) := by decide +kernel
theorem d_Mod_rescue_188 : decode b_Mod_rescue 188 = .ok (.aload_n 0, 1) := by decide +kernel
theorem d_Mod_rescue_189 : decode b_Mod_rescue 189 = .ok (.getfield 232, 3) := by decide +kernel
theorem d_Mod_rescue_192 : decode b_Mod_rescue 192 = .ok (.if_icmp .ge 13, 3) := by decide +kernel
theorem d_Mod_rescue_195 : decode b_Mod_rescue 195 = .ok (.aload_n 0, 1) := by decide +kernel
theorem d_Mod_rescue_196 : decode b_Mod_rescue 196 = .ok (.getfield 34, 3) := by decide +kernel
theorem d_Mod_rescue_199 : decode b_Mod_rescue 199 = .ok (.iload 4, 2) := by decide +kernel
theorem d_Mod_rescue_201 : decode b_Mod_rescue 201 = .ok (.iaload, 1) := by decide +kernel
theorem d_Mod_rescue_202 : decode b_Mod_rescue 202 = .ok (.goto 5, 3) := by decide +kernel
theorem d_Mod_rescue_205 : decode b_Mod_rescue 205 = .ok (.bipush (-4), 2) := by decide +kernel
theorem d_Mod_rescue_207 : decode b_Mod_rescue 207 = .ok (.ireturn, 1) := by decide +kernel
theorem d_Mod_turns_0 : decode b_Mod_turns 0 = .ok (.aload_n 0, 1) := by decide +kernel
theorem d_Mod_turns_1 : decode b_Mod_turns 1 = .ok (.getfield 9, 3) := by decide +kernel
theorem d_Mod_turns_4 : decode b_Mod_turns 4 = .ok (.iconst 2, 1) := by decide +kernel
theorem d_Mod_turns_5 : decode b_Mod_turns 5 = .ok (.iaload, 1) := by decide +kernel
theorem d_Mod_turns_6 : decode b_Mod_turns 6 = .ok (.istore_n 1, 1) := by decide +kernel
theorem d_Mod_turns_7 : decode b_Mod_turns 7 = .ok (.bipush (-4), 2) := by decide +kernel
theorem d_Mod_turns_9 : decode b_Mod_turns 9 = .ok (.istore_n 2, 1) := by decide +kernel
theorem d_Mod_turns_10 : decode b_Mod_turns 10 = .ok (.aload_n 0, 1) := by decide +kernel
theorem d_Mod_turns_11 : decode b_Mod_turns 11 = .ok (.iconst 0, 1) := by decide +kernel
theorem d_Mod_turns_12 : decode b_Mod_turns 12 = .ok (.putfield 112, 3) := by decide +kernel
theorem d_Mod_turns_15 : decode b_Mod_turns 15 = .ok (.iconst 0, 1) := by decide +kernel
theorem d_Mod_turns_16 : decode b_Mod_turns 16 = .ok (.istore_n 3, 1) := by decide +kernel
theorem d_Mod_turns_17 : decode b_Mod_turns 17 = .ok (.iload_n 3, 1) := by decide +kernel
theorem d_Mod_turns_18 : decode b_Mod_turns 18 = .ok (.sipush 600, 3) := by decide +kernel
theorem d_Mod_turns_21 : decode b_Mod_turns 21 = .ok (.if_icmp .gt 40, 3) := by decide +kernel
theorem d_Mod_turns_24 : decode b_Mod_turns 24 = .ok (.aload_n 0, 1) := by decide +kernel
theorem d_Mod_turns_25 : decode b_Mod_turns 25 = .ok (.getfield 9, 3) := by decide +kernel
theorem d_Mod_turns_28 : decode b_Mod_turns 28 = .ok (.iconst 2, 1) := by decide +kernel
theorem d_Mod_turns_29 : decode b_Mod_turns 29 = .ok (.iload_n 1, 1) := by decide +kernel
theorem d_Mod_turns_30 : decode b_Mod_turns 30 = .ok (.iload_n 3, 1) := by decide +kernel
theorem d_Mod_turns_31 : decode b_Mod_turns 31 = .ok (.iadd, 1) := by decide +kernel
theorem d_Mod_turns_32 : decode b_Mod_turns 32 = .ok (.iastore, 1) := by decide +kernel
theorem d_Mod_turns_33 : decode b_Mod_turns 33 = .ok (.aload_n 0, 1) := by decide +kernel
theorem d_Mod_turns_34 : decode b_Mod_turns 34 = .ok (.invokevirtual 226, 3) := by decide +kernel
theorem d_Mod_turns_37 : decode b_Mod_turns 37 = .ok (.ifCond .eq 18, 3) := by decide +kernel
theorem d_Mod_turns_40 : decode b_Mod_turns 40 = .ok (.aload_n 0, 1) := by decide +kernel
theorem d_Mod_turns_41 : decode b_Mod_turns 41 = .ok (.getfield 145, 3) := by decide +kernel
theorem d_Mod_turns_44 : decode b_Mod_turns 44 = .ok (.aload_n 0, 1) := by decide +kernel
theorem d_Mod_turns_45 : decode b_Mod_turns 45 = .ok (.getfield 9, 3) := by decide +kernel
theorem d_Mod_turns_48 : decode b_Mod_turns 48 = .ok (.iconst 5, 1) := by decide +kernel
theorem d_Mod_turns_49 : decode b_Mod_turns 49 = .ok (.iaload, 1) := by decide +kernel
theorem d_Mod_turns_50 : decode b_Mod_turns 50 = .ok (.if_icmp .gt 5, 3) := by decide +kernel
theorem d_Mod_turns_53 : decode b_Mod_turns 53 = .ok (.iload_n 3, 1) := by decide +kernel
theorem d_Mod_turns_54 : decode b_Mod_turns 54 = .ok (.istore_n 2, 1) := by decide +kernel
theorem d_Mod_turns_55 : decode b_Mod_turns 55 = .ok (.iinc 3 1, 3) := by decide +kernel
theorem d_Mod_turns_58 : decode b_Mod_turns 58 = .ok (.goto (-41), 3) := by decide +kernel
theorem d_Mod_turns_61 : decode b_Mod_turns 61 = .ok (.aload_n 0, 1) := by decide +kernel
theorem d_Mod_turns_62 : decode b_Mod_turns 62 = .ok (.getfield 9, 3) := by decide +kernel
theorem d_Mod_turns_65 : decode b_Mod_turns 65 = .ok (.iconst 2, 1) := by decide +kernel
theorem d_Mod_turns_66 : decode b_Mod_turns 66 = .ok (.iload_n 1, 1) := by decide +kernel
theorem d_Mod_turns_67 : decode b_Mod_turns 67 = .ok (.iastore, 1) := by decide +kernel
theorem d_Mod_turns_68 : decode b_Mod_turns 68 = .ok (.iload_n 2, 1) := by decide +kernel
theorem d_Mod_turns_69 : decode b_Mod_turns 69 = .ok (.ireturn, 1) := by decide +kernel
theorem d_Mod_floods_0 : decode b_Mod_floods 0 = .ok (.aload_n 0, 1) := by decide +kernel
theorem d_Mod_floods_1 : decode b_Mod_floods 1 = .ok (.iload_n 1, 1) := by decide +kernel
theorem d_Mod_floods_2 : decode b_Mod_floods 2 = .ok (.invokevirtual 179, 3) := by decide +kernel
theorem d_Mod_floods_5 : decode b_Mod_floods 5 = .ok (.ifCond .eq 11, 3) := by decide +kernel
theorem d_Mod_floods_8 : decode b_Mod_floods 8 = .ok (.aload_n 0, 1) := by decide +kernel
theorem d_Mod_floods_9 : decode b_Mod_floods 9 = .ok (.iload_n 2, 1) := by decide +kernel
theorem d_Mod_floods_10 : decode b_Mod_floods 10 = .ok (.invokevirtual 200, 3) := by decide +kernel
theorem d_Mod_floods_13 : decode b_Mod_floods 13 = .ok (.ifCond .ne 5, 3) := by decide +kernel
theorem d_Mod_floods_16 : decode b_Mod_floods 16 = .ok (.iconst (-1), 1) := by decide +kernel
theorem d_Mod_floods_17 : decode b_Mod_floods 17 = .ok (.ireturn, 1) := by decide +kernel
theorem d_Mod_floods_18 : decode b_Mod_floods 18 = .ok (.bipush (-4), 2) := by decide +kernel
theorem d_Mod_floods_20 : decode b_Mod_floods 20 = .ok (.istore_n 3, 1) := by decide +kernel
theorem d_Mod_floods_21 : decode b_Mod_floods 21 = .ok (.bipush 99, 2) := by decide +kernel
theorem d_Mod_floods_23 : decode b_Mod_floods 23 = .ok (.istore 4, 2) := by decide +kernel
theorem d_Mod_floods_25 : decode b_Mod_floods 25 = .ok (.iload 4, 2) := by decide +kernel
theorem d_Mod_floods_27 : decode b_Mod_floods 27 = .ok (.ifCond .lt 29, 3) := by decide +kernel
theorem d_Mod_floods_30 : decode b_Mod_floods 30 = .ok (.aload_n 0, 1) := by decide +kernel
theorem d_Mod_floods_31 : decode b_Mod_floods 31 = .ok (.iload_n 1, 1) := by decide +kernel
theorem d_Mod_floods_32 : decode b_Mod_floods 32 = .ok (.iload_n 2, 1) := by decide +kernel
theorem d_Mod_floods_33 : decode b_Mod_floods 33 = .ok (.iconst 1, 1) := by decide +kernel
theorem d_Mod_floods_34 : decode b_Mod_floods 34 = .ok (.invokevirtual 80, 3) := by decide +kernel
theorem d_Mod_floods_37 : decode b_Mod_floods 37 = .ok (.aload_n 0, 1) := by decide +kernel
theorem d_Mod_floods_38 : decode b_Mod_floods 38 = .ok (.iload_n 2, 1) := by decide +kernel
theorem d_Mod_floods_39 : decode b_Mod_floods 39 = .ok (.iload 4, 2) := by decide +kernel
theorem d_Mod_floods_41 : decode b_Mod_floods 41 = .ok (.invokevirtual 84, 3) := by decide +kernel
theorem d_Mod_floods_44 : decode b_Mod_floods 44 = .ok (.if_icmp .le 12, 3) := by decide +kernel
theorem d_Mod_floods_47 : decode b_Mod_floods 47 = .ok (.iload 4, 2) := by decide +kernel
theorem d_Mod_floods_49 : decode b_Mod_floods 49 = .ok (.istore_n 3, 1) := by decide +kernel
theorem d_Mod_floods_50 : decode b_Mod_floods 50 = .ok (.iinc 4 (-1), 3) := by decide +kernel
theorem d_Mod_floods_53 : decode b_Mod_floods 53 = .ok (.goto (-28), 3) := by decide +kernel
theorem d_Mod_floods_56 : decode b_Mod_floods 56 = .ok (.iload_n 3, 1) := by decide +kernel
theorem d_Mod_floods_57 : decode b_Mod_floods 57 = .ok (.ireturn, 1) := by decide +kernel
theorem d_Mod_haste_0 : decode b_Mod_haste 0 = .ok (.aload_n 0, 1) := by decide +kernel
theorem d_Mod_haste_1 : decode b_Mod_haste 1 = .ok (.iconst 0, 1) := by decide +kernel
theorem d_Mod_haste_2 : decode b_Mod_haste 2 = .ok (.putfield 112, 3) := by decide +kernel
theorem d_Mod_haste_5 : decode b_Mod_haste 5 = .ok (.aload_n 0, 1) := by decide +kernel
theorem d_Mod_haste_6 : decode b_Mod_haste 6 = .ok (.invokevirtual 148, 3) := by decide +kernel
theorem d_Mod_haste_9 : decode b_Mod_haste 9 = .ok (.aload_n 0, 1) := by decide +kernel
theorem d_Mod_haste_10 : decode b_Mod_haste 10 = .ok (.getfield 145, 3) := by decide +kernel
theorem d_Mod_haste_13 : decode b_Mod_haste 13 = .ok (.istore_n 1, 1) := by decide +kernel
theorem d_Mod_haste_14 : decode b_Mod_haste 14 = .ok (.aload_n 0, 1) := by decide +kernel
theorem d_Mod_haste_15 : decode b_Mod_haste 15 = .ok (.getfield 9, 3) := by decide +kernel
theorem d_Mod_haste_18 : decode b_Mod_haste 18 = .ok (.aload_n 0, 1) := by decide +kernel
theorem d_Mod_haste_19 : decode b_Mod_haste 19 = .ok (.getfield 16, 3) := by decide +kernel
theorem d_Mod_haste_22 : decode b_Mod_haste 22 = .ok (.invokestatic 193, 3) := by decide +kernel
theorem d_Mod_haste_25 : decode b_Mod_haste 25 = .ok (.iconst 0, 1) := by decide +kernel
theorem d_Mod_haste_26 : decode b_Mod_haste 26 = .ok (.istore_n 2, 1) := by decide +kernel
theorem d_Mod_haste_27 : decode b_Mod_haste 27 = .ok (.iload_n 2, 1) := by decide +kernel
theorem d_Mod_haste_28 : decode b_Mod_haste 28 = .ok (.aload_n 0, 1) := by decide +kernel
theorem d_Mod_haste_29 : decode b_Mod_haste 29 = .ok (.getfield 9, 3) := by decide +kernel
theorem d_Mod_haste_32 : decode b_Mod_haste 32 = .ok (.iconst 1, 1) := by decide +kernel
theorem d_Mod_haste_33 : decode b_Mod_haste 33 = .ok (.iaload, 1) := by decide +kernel
theorem d_Mod_haste_34 : decode b_Mod_haste 34 = .ok (.if_icmp .ge 20, 3) := by decide +kernel
theorem d_Mod_haste_37 : decode b_Mod_haste 37 = .ok (.aload_n 0, 1) := by decide +kernel
theorem d_Mod_haste_38 : decode b_Mod_haste 38 = .ok (.getfield 9, 3) := by decide +kernel
theorem d_Mod_haste_41 : decode b_Mod_haste 41 = .ok (.iload_n 2, 1) := by decide +kernel
theorem d_Mod_haste_42 : decode b_Mod_haste 42 = .ok (.iconst 2, 1) := by decide +kernel
theorem d_Mod_haste_43 : decode b_Mod_haste 43 = .ok (.invokestatic 59, 3) := by decide +kernel
theorem d_Mod_haste_46 : decode b_Mod_haste 46 = .ok (.iconst 0, 1) := by decide +kernel
theorem d_Mod_haste_47 : decode b_Mod_haste 47 = .ok (.iastore, 1) := by decide +kernel
theorem d_Mod_haste_48 : decode b_Mod_haste 48 = .ok (.iinc 2 1, 3) := by decide +kernel
theorem d_Mod_haste_51 : decode b_Mod_haste 51 = .ok (.goto (-24), 3) := by decide +kernel
theorem d_Mod_haste_54 : decode b_Mod_haste 54 = .ok (.aload_n 0, 1) := by decide +kernel
theorem d_Mod_haste_55 : decode b_Mod_haste 55 = .ok (.invokevirtual 148, 3) := by decide +kernel
theorem d_Mod_haste_58 : decode b_Mod_haste 58 = .ok (.aload_n 0, 1) := by decide +kernel
theorem d_Mod_haste_59 : decode b_Mod_haste 59 = .ok (.getfield 16, 3) := by decide +kernel
theorem d_Mod_haste_62 : decode b_Mod_haste 62 = .ok (.aload_n 0, 1) := by decide +kernel
theorem d_Mod_haste_63 : decode b_Mod_haste 63 = .ok (.getfield 9, 3) := by decide +kernel
theorem d_Mod_haste_66 : decode b_Mod_haste 66 = .ok (.invokestatic 193, 3) := by decide +kernel
theorem d_Mod_haste_69 : decode b_Mod_haste 69 = .ok (.iconst 0, 1) := by decide +kernel
theorem d_Mod_haste_70 : decode b_Mod_haste 70 = .ok (.iload_n 1, 1) := by decide +kernel
theorem d_Mod_haste_71 : decode b_Mod_haste 71 = .ok (.aload_n 0, 1) := by decide +kernel
theorem d_Mod_haste_72 : decode b_Mod_haste 72 = .ok (.getfield 145, 3) := by decide +kernel
theorem d_Mod_haste_75 : decode b_Mod_haste 75 = .ok (.isub, 1) := by decide +kernel
theorem d_Mod_haste_76 : decode b_Mod_haste 76 = .ok (.invokestatic 66, 3) := by decide +kernel
theorem d_Mod_haste_79 : decode b_Mod_haste 79 = .ok (.ireturn, 1) := by decide +kernel
theorem d_Mod_gcd_0 : decode b_Mod_gcd 0 = .ok (.lload_n 0, 1) := by decide +kernel
theorem d_Mod_gcd_1 : decode b_Mod_gcd 1 = .ok (.lstore 4, 2) := by decide +kernel
theorem d_Mod_gcd_3 : decode b_Mod_gcd 3 = .ok (.lload_n 2, 1) := by decide +kernel
theorem d_Mod_gcd_4 : decode b_Mod_gcd 4 = .ok (.lstore 6, 2) := by decide +kernel
theorem d_Mod_gcd_6 : decode b_Mod_gcd 6 = .ok (.lload 6, 2) := by decide +kernel
theorem d_Mod_gcd_8 : decode b_Mod_gcd 8 = .ok (.lconst 0, 1) := by decide +kernel
theorem d_Mod_gcd_9 : decode b_Mod_gcd 9 = .ok (.lcmp, 1) := by decide +kernel
theorem d_Mod_gcd_10 : decode b_Mod_gcd 10 = .ok (.ifCond .eq 21, 3) := by decide +kernel
theorem d_Mod_gcd_13 : decode b_Mod_gcd 13 = .ok (.lload 4, 2) := by decide +kernel
theorem d_Mod_gcd_15 : decode b_Mod_gcd 15 = .ok (.lload 6, 2) := by decide +kernel
theorem d_Mod_gcd_17 : decode b_Mod_gcd 17 = .ok (.lrem, 1) := by decide +kernel
theorem d_Mod_gcd_18 : decode b_Mod_gcd 18 = .ok (.lstore 8, 2) := by decide +kernel
theorem d_Mod_gcd_20 : decode b_Mod_gcd 20 = .ok (.lload 6, 2) := by decide +kernel
theorem d_Mod_gcd_22 : decode b_Mod_gcd 22 = .ok (.lstore 4, 2) := by decide +kernel
theorem d_Mod_gcd_24 : decode b_Mod_gcd 24 = .ok (.lload 8, 2) := by decide +kernel
theorem d_Mod_gcd_26 : decode b_Mod_gcd 26 = .ok (.lstore 6, 2) := by decide +kernel
theorem d_Mod_gcd_28 : decode b_Mod_gcd 28 = .ok (.goto (-22), 3) := by decide +kernel
theorem d_Mod_gcd_31 : decode b_Mod_gcd 31 = .ok (.lload 4, 2) := by decide +kernel
theorem d_Mod_gcd_33 : decode b_Mod_gcd 33 = .ok (.lreturn, 1) := by decide +kernel
theorem d_Mod_panic_0 : decode b_Mod_panic 0 = .ok (.iload_n 1, 1) := by decide +kernel
theorem d_Mod_panic_1 : decode b_Mod_panic 1 = .ok (.iconst 0, 1) := by decide +kernel
theorem d_Mod_panic_2 : decode b_Mod_panic 2 = .ok (.iconst 1, 1) := by decide +kernel
theorem d_Mod_panic_3 : decode b_Mod_panic 3 = .ok (.invokestatic 55, 3) := by decide +kernel
theorem d_Mod_panic_6 : decode b_Mod_panic 6 = .ok (.ifCond .ne 7, 3) := by decide +kernel
theorem d_Mod_panic_9 : decode b_Mod_panic 9 = .ok (.ldc2_w 248, 3) := by decide +kernel
theorem d_Mod_panic_12 : decode b_Mod_panic 12 = .ok (.lreturn, 1) := by decide +kernel
theorem d_Mod_panic_13 : decode b_Mod_panic 13 = .ok (.aload_n 0, 1) := by decide +kernel
theorem d_Mod_panic_14 : decode b_Mod_panic 14 = .ok (.getfield 9, 3) := by decide +kernel
theorem d_Mod_panic_17 : decode b_Mod_panic 17 = .ok (.aload_n 0, 1) := by decide +kernel
theorem d_Mod_panic_18 : decode b_Mod_panic 18 = .ok (.getfield 16, 3) := by decide +kernel
theorem d_Mod_panic_21 : decode b_Mod_panic 21 = .ok (.invokestatic 193, 3) := by decide +kernel
theorem d_Mod_panic_24 : decode b_Mod_panic 24 = .ok (.aload_n 0, 1) := by decide +kernel
theorem d_Mod_panic_25 : decode b_Mod_panic 25 = .ok (.iconst 0, 1) := by decide +kernel
theorem d_Mod_panic_26 : decode b_Mod_panic 26 = .ok (.putfield 112, 3) := by decide +kernel
theorem d_Mod_panic_29 : decode b_Mod_panic 29 = .ok (.lconst 0, 1) := by decide +kernel
theorem d_Mod_panic_30 : decode b_Mod_panic 30 = .ok (.lstore_n 2, 1) := by decide +kernel
theorem d_Mod_panic_31 : decode b_Mod_panic 31 = .ok (.lconst 1, 1) := by decide +kernel
theorem d_Mod_panic_32 : decode b_Mod_panic 32 = .ok (.lstore 4, 2) := by decide +kernel
theorem d_Mod_panic_34 : decode b_Mod_panic 34 = .ok (.iconst 0, 1) := by decide +kernel
theorem d_Mod_panic_35 : decode b_Mod_panic 35 = .ok (.istore 6, 2) := by decide +kernel
theorem d_Mod_panic_37 : decode b_Mod_panic 37 = .ok (.iload 6, 2) := by decide +kernel
theorem d_Mod_panic_39 : decode b_Mod_panic 39 = .ok (.aload_n 0, 1) := by decide +kernel
theorem d_Mod_panic_40 : decode b_Mod_panic 40 = .ok (.getfield 9, 3) := by decide +kernel
theorem d_Mod_panic_43 : decode b_Mod_panic 43 = .ok (.iconst 1, 1) := by decide +kernel
theorem d_Mod_panic_44 : decode b_Mod_panic 44 = .ok (.iaload, 1) := by decide +kernel
theorem d_Mod_panic_45 : decode b_Mod_panic 45 = .ok (.if_icmp .ge 17, 3) := by decide +kernel
theorem d_Mod_panic_48 : decode b_Mod_panic 48 = .ok (.lload 4, 2) := by decide +kernel
theorem d_Mod_panic_50 : decode b_Mod_panic 50 = .ok (.ldc2_w 250, 3) := by decide +kernel
theorem d_Mod_panic_53 : decode b_Mod_panic 53 = .ok (.lmul, 1) := by decide +kernel
theorem d_Mod_panic_54 : decode b_Mod_panic 54 = .ok (.lstore 4, 2) := by decide +kernel
theorem d_Mod_panic_56 : decode b_Mod_panic 56 = .ok (.iinc 6 1, 3) := by decide +kernel
theorem d_Mod_panic_59 : decode b_Mod_panic 59 = .ok (.goto (-22), 3) := by decide +kernel
theorem d_Mod_panic_62 : decode b_Mod_panic 62 = .ok (.iconst 0, 1) := by decide +kernel
theorem d_Mod_panic_63 : decode b_Mod_panic 63 = .ok (.istore 6, 2) := by decide +kernel
theorem d_Mod_panic_65 : decode b_Mod_panic 65 = .ok (.iload 6, 2) := by decide +kernel
theorem d_Mod_panic_67 : decode b_Mod_panic 67 = .ok (.iconst 1, 1) := by decide +kernel
theorem d_Mod_panic_68 : decode b_Mod_panic 68 = .ok (.aload_n 0, 1) := by decide +kernel
theorem d_Mod_panic_69 : decode b_Mod_panic 69 = .ok (.getfield 9, 3) := by decide +kernel
theorem d_Mod_panic_72 : decode b_Mod_panic 72 = .ok (.iconst 1, 1) := by decide +kernel
theorem d_Mod_panic_73 : decode b_Mod_panic 73 = .ok (.iaload, 1) := by decide +kernel
theorem d_Mod_panic_74 : decode b_Mod_panic 74 = .ok (.ishl, 1) := by decide +kernel
theorem d_Mod_panic_75 : decode b_Mod_panic 75 = .ok (.if_icmp .ge 141, 3) := by decide +kernel
theorem d_Mod_panic_78 : decode b_Mod_panic 78 = .ok (.lconst 1, 1) := by decide +kernel
theorem d_Mod_panic_79 : decode b_Mod_panic 79 = .ok (.lstore 7, 2) := by decide +kernel
theorem d_Mod_panic_81 : decode b_Mod_panic 81 = .ok (.iconst 0, 1) := by decide +kernel
theorem d_Mod_panic_82 : decode b_Mod_panic 82 = .ok (.istore 9, 2) := by decide +kernel
theorem d_Mod_panic_84 : decode b_Mod_panic 84 = .ok (.iload 9, 2) := by decide +kernel
theorem d_Mod_panic_86 : decode b_Mod_panic 86 = .ok (.aload_n 0, 1) := by decide +kernel
theorem d_Mod_panic_87 : decode b_Mod_panic 87 = .ok (.getfield 9, 3) := by decide +kernel
theorem d_Mod_panic_90 : decode b_Mod_panic 90 = .ok (.iconst 1, 1) := by decide +kernel
theorem d_Mod_panic_91 : decode b_Mod_panic 91 = .ok (.iaload, 1) := by decide +kernel
theorem d_Mod_panic_92 : decode b_Mod_panic 92 = .ok (.if_icmp .ge 99, 3) := by decide +kernel
theorem d_Mod_panic_95 : decode b_Mod_panic 95 = .ok (.iload 6, 2) := by decide +kernel
theorem d_Mod_panic_97 : decode b_Mod_panic 97 = .ok (.iload 9, 2) := by decide +kernel
theorem d_Mod_panic_99 : decode b_Mod_panic 99 = .ok (.ishr, 1) := by decide +kernel
theorem d_Mod_panic_100 : decode b_Mod_panic 100 = .ok (.iconst 1, 1) := by decide +kernel
theorem d_Mod_panic_101 : decode b_Mod_panic 101 = .ok (.iand, 1) := by decide +kernel
theorem d_Mod_panic_102 : decode b_Mod_panic 102 = .ok (.iconst 1, 1) := by decide +kernel
theorem d_Mod_panic_103 : decode b_Mod_panic 103 = .ok (.if_icmp .ne 7, 3) := by decide +kernel
theorem d_Mod_panic_106 : decode b_Mod_panic 106 = .ok (.iconst 1, 1) := by decide +kernel
theorem d_Mod_panic_107 : decode b_Mod_panic 107 = .ok (.goto 4, 3) := by decide +kernel
theorem d_Mod_panic_110 : decode b_Mod_panic 110 = .ok (.iconst 0, 1) := by decide +kernel
theorem d_Mod_panic_111 : decode b_Mod_panic 111 = .ok (.istore 10, 2) := by decide +kernel
theorem d_Mod_panic_113 : decode b_Mod_panic 113 = .ok (.lload 7, 2) := by decide +kernel
theorem d_Mod_panic_115 : decode b_Mod_panic 115 = .ok (.iload 10, 2) := by decide +kernel
theorem d_Mod_panic_117 : decode b_Mod_panic 117 = .ok (.ifCond .eq 18, 3) := by decide +kernel
theorem d_Mod_panic_120 : decode b_Mod_panic 120 = .ok (.aload_n 0, 1) := by decide +kernel
theorem d_Mod_panic_121 : decode b_Mod_panic 121 = .ok (.getfield 16, 3) := by decide +kernel
theorem d_Mod_panic_124 : decode b_Mod_panic 124 = .ok (.iload 9, 2) := by decide +kernel
theorem d_Mod_panic_126 : decode b_Mod_panic 126 = .ok (.iconst 2, 1) := by decide +kernel
theorem d_Mod_panic_127 : decode b_Mod_panic 127 = .ok (.invokestatic 59, 3) := by decide +kernel
theorem d_Mod_panic_130 : decode b_Mod_panic 130 = .ok (.iaload, 1) := by decide +kernel
theorem d_Mod_panic_131 : decode b_Mod_panic 131 = .ok (.i2l, 1) := by decide +kernel
theorem d_Mod_panic_132 : decode b_Mod_panic 132 = .ok (.goto 18, 3) := by decide +kernel
theorem d_Mod_panic_135 : decode b_Mod_panic 135 = .ok (.bipush 10, 2) := by decide +kernel
theorem d_Mod_panic_137 : decode b_Mod_panic 137 = .ok (.aload_n 0, 1) := by decide +kernel
theorem d_Mod_panic_138 : decode b_Mod_panic 138 = .ok (.getfield 16, 3) := by decide +kernel
theorem d_Mod_panic_141 : decode b_Mod_panic 141 = .ok (.iload 9, 2) := by decide +kernel
theorem d_Mod_panic_143 : decode b_Mod_panic 143 = .ok (.iconst 2, 1) := by decide +kernel
theorem d_Mod_panic_144 : decode b_Mod_panic 144 = .ok (.invokestatic 59, 3) := by decide +kernel
theorem d_Mod_panic_147 : decode b_Mod_panic 147 = .ok (.iaload, 1) := by decide +kernel
theorem d_Mod_panic_148 : decode b_Mod_panic 148 = .ok (.isub, 1) := by decide +kernel
theorem d_Mod_panic_149 : decode b_Mod_panic 149 = .ok (.i2l, 1) := by decide +kernel
theorem d_Mod_panic_150 : decode b_Mod_panic 150 = .ok (.lmul, 1) := by decide +kernel
theorem d_Mod_panic_151 : decode b_Mod_panic 151 = .ok (.lstore 7, 2) := by decide +kernel
theorem d_Mod_panic_153 : decode b_Mod_panic 153 = .ok (.aload_n 0, 1) := by decide +kernel
theorem d_Mod_panic_154 : decode b_Mod_panic 154 = .ok (.getfield 9, 3) := by decide +kernel
theorem d_Mod_panic_157 : decode b_Mod_panic 157 = .ok (.iload 9, 2) := by decide +kernel
theorem d_Mod_panic_159 : decode b_Mod_panic 159 = .ok (.iconst 2, 1) := by decide +kernel
theorem d_Mod_panic_160 : decode b_Mod_panic 160 = .ok (.invokestatic 59, 3) := by decide +kernel
theorem d_Mod_panic_163 : decode b_Mod_panic 163 = .ok (.iload 10, 2) := by decide +kernel
theorem d_Mod_panic_165 : decode b_Mod_panic 165 = .ok (.ifCond .eq 8, 3) := by decide +kernel
theorem d_Mod_panic_168 : decode b_Mod_panic 168 = .ok (.bipush 9, 2) := by decide +kernel
theorem d_Mod_panic_170 : decode b_Mod_panic 170 = .ok (.goto 14, 3) := by decide +kernel
theorem d_Mod_panic_173 : decode b_Mod_panic 173 = .ok (.aload_n 0, 1) := by decide +kernel
theorem d_Mod_panic_174 : decode b_Mod_panic 174 = .ok (.getfield 16, 3) := by decide +kernel
theorem d_Mod_panic_177 : decode b_Mod_panic 177 = .ok (.iload 9, 2) := by decide +kernel
theorem d_Mod_panic_179 : decode b_Mod_panic 179 = .ok (.iconst 2, 1) := by decide +kernel
theorem d_Mod_panic_180 : decode b_Mod_panic 180 = .ok (.invokestatic 59, 3) := by decide +kernel
theorem d_Mod_panic_183 : decode b_Mod_panic 183 = .ok (.iaload, 1) := by decide +kernel
theorem d_Mod_panic_184 : decode b_Mod_panic 184 = .ok (.iastore, 1) := by decide +kernel
theorem d_Mod_panic_185 : decode b_Mod_panic 185 = .ok (.iinc 9 1, 3) := by decide +kernel
theorem d_Mod_panic_188 : decode b_Mod_panic 188 = .ok (.goto (-104), 3) := by decide +kernel
theorem d_Mod_panic_191 : decode b_Mod_panic 191 = .ok (.lload 7, 2) := by decide +kernel
theorem d_Mod_panic_193 : decode b_Mod_panic 193 = .ok (.lconst 0, 1) := by decide +kernel
theorem d_Mod_panic_194 : decode b_Mod_panic 194 = .ok (.lcmp, 1) := by decide +kernel
theorem d_Mod_panic_195 : decode b_Mod_panic 195 = .ok (.ifCond .le 15, 3) := by decide +kernel
theorem d_Mod_panic_198 : decode b_Mod_panic 198 = .ok (.aload_n 0, 1) := by decide +kernel
theorem d_Mod_panic_199 : decode b_Mod_panic 199 = .ok (.invokevirtual 226, 3) := by decide +kernel
theorem d_Mod_panic_202 : decode b_Mod_panic 202 = .ok (.ifCond .eq 8, 3) := by decide +kernel
theorem d_Mod_panic_205 : decode b_Mod_panic 205 = .ok (.lload_n 2, 1) := by decide +kernel
theorem d_Mod_panic_206 : decode b_Mod_panic 206 = .ok (.lload 7, 2) := by decide +kernel
theorem d_Mod_panic_208 : decode b_Mod_panic 208 = .ok (.ladd, 1) := by decide +kernel
theorem d_Mod_panic_209 : decode b_Mod_panic 209 = .ok (.lstore_n 2, 1) := by decide +kernel
theorem d_Mod_panic_210 : decode b_Mod_panic 210 = .ok (.iinc 6 1, 3) := by decide +kernel
theorem d_Mod_panic_213 : decode b_Mod_panic 213 = .ok (.goto (-148), 3) := by decide +kernel
theorem d_Mod_panic_216 : decode b_Mod_panic 216 = .ok (.aload_n 0, 1) := by decide +kernel
theorem d_Mod_panic_217 : decode b_Mod_panic 217 = .ok (.getfield 16, 3) := by decide +kernel
theorem d_Mod_panic_220 : decode b_Mod_panic 220 = .ok (.aload_n 0, 1) := by decide +kernel
theorem d_Mod_panic_221 : decode b_Mod_panic 221 = .ok (.getfield 9, 3) := by decide +kernel
theorem d_Mod_panic_224 : decode b_Mod_panic 224 = .ok (.invokestatic 193, 3) := by decide +kernel
theorem d_Mod_panic_227 : decode b_Mod_panic 227 = .ok (.lload_n 2, 1) := by decide +kernel
theorem d_Mod_panic_228 : decode b_Mod_panic 228 = .ok (.lconst 0, 1) := by decide +kernel
theorem d_Mod_panic_229 : decode b_Mod_panic 229 = .ok (.lcmp, 1) := by decide +kernel
theorem d_Mod_panic_230 : decode b_Mod_panic 230 = .ok (.ifCond .ne 6, 3) := by decide +kernel
theorem d_Mod_panic_233 : decode b_Mod_panic 233 = .ok (.iload_n 1, 1) := by decide +kernel
theorem d_Mod_panic_234 : decode b_Mod_panic 234 = .ok (.i2l, 1) := by decide +kernel
theorem d_Mod_panic_235 : decode b_Mod_panic 235 = .ok (.lreturn, 1) := by decide +kernel
theorem d_Mod_panic_236 : decode b_Mod_panic 236 = .ok (.iload_n 1, 1) := by decide +kernel
theorem d_Mod_panic_237 : decode b_Mod_panic 237 = .ok (.ifCond .ne 7, 3) := by decide +kernel
theorem d_Mod_panic_240 : decode b_Mod_panic 240 = .ok (.lload_n 2, 1) := by decide +kernel
theorem d_Mod_panic_241 : decode b_Mod_panic 241 = .ok (.goto 5, 3) := by decide +kernel
theorem d_Mod_panic_244 : decode b_Mod_panic 244 = .ok (.lload 4, 2) := by decide +kernel
theorem d_Mod_panic_246 : decode b_Mod_panic 246 = .ok (.lload_n 2, 1) := by decide +kernel
theorem d_Mod_panic_247 : decode b_Mod_panic 247 = .ok (.lload 4, 2) := by decide +kernel
theorem d_Mod_panic_249 : decode b_Mod_panic 249 = .ok (.invokestatic 252, 3) := by decide +kernel
theorem d_Mod_panic_252 : decode b_Mod_panic 252 = .ok (.ldiv, 1) := by decide +kernel
theorem d_Mod_panic_253 : decode b_Mod_panic 253 = .ok (.lreturn, 1) := by decide +kernel
theorem d_Mod_firstWays_0 : decode b_Mod_firstWays 0 = .ok (.aload_n 0, 1) := by decide +kernel
theorem d_Mod_firstWays_1 : decode b_Mod_firstWays 1 = .ok (.getfield 9, 3) := by decide +kernel
theorem d_Mod_firstWays_4 : decode b_Mod_firstWays 4 = .ok (.iconst 1, 1) := by decide +kernel
theorem d_Mod_firstWays_5 : decode b_Mod_firstWays 5 = .ok (.iaload, 1) := by decide +kernel
theorem d_Mod_firstWays_6 : decode b_Mod_firstWays 6 = .ok (.iconst 4, 1) := by decide +kernel
theorem d_Mod_firstWays_7 : decode b_Mod_firstWays 7 = .ok (.if_icmp .le 6, 3) := by decide +kernel
theorem d_Mod_firstWays_10 : decode b_Mod_firstWays 10 = .ok (.bipush (-3), 2) := by decide +kernel
theorem d_Mod_firstWays_12 : decode b_Mod_firstWays 12 = .ok (.ireturn, 1) := by decide +kernel
theorem d_Mod_firstWays_13 : decode b_Mod_firstWays 13 = .ok (.aload_n 0, 1) := by decide +kernel
theorem d_Mod_firstWays_14 : decode b_Mod_firstWays 14 = .ok (.getfield 9, 3) := by decide +kernel
theorem d_Mod_firstWays_17 : decode b_Mod_firstWays 17 = .ok (.aload_n 0, 1) := by decide +kernel
theorem d_Mod_firstWays_18 : decode b_Mod_firstWays 18 = .ok (.getfield 16, 3) := by decide +kernel
theorem d_Mod_firstWays_21 : decode b_Mod_firstWays 21 = .ok (.invokestatic 193, 3) := by decide +kernel
theorem d_Mod_firstWays_24 : decode b_Mod_firstWays 24 = .ok (.aload_n 0, 1) := by decide +kernel
theorem d_Mod_firstWays_25 : decode b_Mod_firstWays 25 = .ok (.iconst 0, 1) := by decide +kernel
theorem d_Mod_firstWays_26 : decode b_Mod_firstWays 26 = .ok (.putfield 112, 3) := by decide +kernel
theorem d_Mod_firstWays_29 : decode b_Mod_firstWays 29 = .ok (.iconst 0, 1) := by decide +kernel
theorem d_Mod_firstWays_30 : decode b_Mod_firstWays 30 = .ok (.istore_n 1, 1) := by decide +kernel
theorem d_Mod_firstWays_31 : decode b_Mod_firstWays 31 = .ok (.iconst (-1), 1) := by decide +kernel
theorem d_Mod_firstWays_32 : decode b_Mod_firstWays 32 = .ok (.istore_n 2, 1) := by decide +kernel
theorem d_Mod_firstWays_33 : decode b_Mod_firstWays 33 = .ok (.iconst 0, 1) := by decide +kernel
theorem d_Mod_firstWays_34 : decode b_Mod_firstWays 34 = .ok (.istore_n 3, 1) := by decide +kernel
theorem d_Mod_firstWays_35 : decode b_Mod_firstWays 35 = .ok (.iload_n 3, 1) := by decide +kernel
theorem d_Mod_firstWays_36 : decode b_Mod_firstWays 36 = .ok (.iconst 1, 1) := by decide +kernel
theorem d_Mod_firstWays_37 : decode b_Mod_firstWays 37 = .ok (.iconst 2, 1) := by decide +kernel
theorem d_Mod_firstWays_38 : decode b_Mod_firstWays 38 = .ok (.aload_n 0, 1) := by decide +kernel
theorem d_Mod_firstWays_39 : decode b_Mod_firstWays 39 = .ok (.getfield 9, 3) := by decide +kernel
theorem d_Mod_firstWays_42 : decode b_Mod_firstWays 42 = .ok (.iconst 1, 1) := by decide +kernel
theorem d_Mod_firstWays_43 : decode b_Mod_firstWays 43 = .ok (.iaload, 1) := by decide +kernel
theorem d_Mod_firstWays_44 : decode b_Mod_firstWays 44 = .ok (.imul, 1) := by decide +kernel
theorem d_Mod_firstWays_45 : decode b_Mod_firstWays 45 = .ok (.ishl, 1) := by decide +kernel
theorem d_Mod_firstWays_46 : decode b_Mod_firstWays 46 = .ok (.if_icmp .ge 103, 3) := by decide +kernel
theorem d_Mod_firstWays_49 : decode b_Mod_firstWays 49 = .ok (.iconst 0, 1) := by decide +kernel
theorem d_Mod_firstWays_50 : decode b_Mod_firstWays 50 = .ok (.istore 4, 2) := by decide +kernel
theorem d_Mod_firstWays_52 : decode b_Mod_firstWays 52 = .ok (.iconst 0, 1) := by decide +kernel
theorem d_Mod_firstWays_53 : decode b_Mod_firstWays 53 = .ok (.istore 5, 2) := by decide +kernel
theorem d_Mod_firstWays_55 : decode b_Mod_firstWays 55 = .ok (.iload 5, 2) := by decide +kernel
theorem d_Mod_firstWays_57 : decode b_Mod_firstWays 57 = .ok (.aload_n 0, 1) := by decide +kernel
theorem d_Mod_firstWays_58 : decode b_Mod_firstWays 58 = .ok (.getfield 9, 3) := by decide +kernel
theorem d_Mod_firstWays_61 : decode b_Mod_firstWays 61 = .ok (.iconst 1, 1) := by decide +kernel
theorem d_Mod_firstWays_62 : decode b_Mod_firstWays 62 = .ok (.iaload, 1) := by decide +kernel
theorem d_Mod_firstWays_63 : decode b_Mod_firstWays 63 = .ok (.if_icmp .ge 51, 3) := by decide +kernel
theorem d_Mod_firstWays_66 : decode b_Mod_firstWays 66 = .ok (.iload_n 3, 1) := by decide +kernel
theorem d_Mod_firstWays_67 : decode b_Mod_firstWays 67 = .ok (.iconst 2, 1) := by decide +kernel
theorem d_Mod_firstWays_68 : decode b_Mod_firstWays 68 = .ok (.aload_n 0, 1) := by decide +kernel
theorem d_Mod_firstWays_69 : decode b_Mod_firstWays 69 = .ok (.getfield 9, 3) := by decide +kernel
theorem d_Mod_firstWays_72 : decode b_Mod_firstWays 72 = .ok (.iconst 1, 1) := by decide +kernel
theorem d_Mod_firstWays_73 : decode b_Mod_firstWays 73 = .ok (.iaload, 1) := by decide +kernel
theorem d_Mod_firstWays_74 : decode b_Mod_firstWays 74 = .ok (.iconst 1, 1) := by decide +kernel
theorem d_Mod_firstWays_75 : decode b_Mod_firstWays 75 = .ok (.isub, 1) := by decide +kernel
theorem d_Mod_firstWays_76 : decode b_Mod_firstWays 76 = .ok (.iload 5, 2) := by decide +kernel
theorem d_Mod_firstWays_78 : decode b_Mod_firstWays 78 = .ok (.isub, 1) := by decide +kernel
theorem d_Mod_firstWays_79 : decode b_Mod_firstWays 79 = .ok (.imul, 1) := by decide +kernel
theorem d_Mod_firstWays_80 : decode b_Mod_firstWays 80 = .ok (.ishr, 1) := by decide +kernel
theorem d_Mod_firstWays_81 : decode b_Mod_firstWays 81 = .ok (.iconst 3, 1) := by decide +kernel
theorem d_Mod_firstWays_82 : decode b_Mod_firstWays 82 = .ok (.iand, 1) := by decide +kernel
theorem d_Mod_firstWays_83 : decode b_Mod_firstWays 83 = .ok (.istore 6, 2) := by decide +kernel
theorem d_Mod_firstWays_85 : decode b_Mod_firstWays 85 = .ok (.aload_n 0, 1) := by decide +kernel
theorem d_Mod_firstWays_86 : decode b_Mod_firstWays 86 = .ok (.getfield 9, 3) := by decide +kernel
theorem d_Mod_firstWays_89 : decode b_Mod_firstWays 89 = .ok (.iload 5, 2) := by decide +kernel
theorem d_Mod_firstWays_91 : decode b_Mod_firstWays 91 = .ok (.iconst 4, 1) := by decide +kernel
theorem d_Mod_firstWays_92 : decode b_Mod_firstWays 92 = .ok (.invokestatic 59, 3) := by decide +kernel
theorem d_Mod_firstWays_95 : decode b_Mod_firstWays 95 = .ok (.iload 6, 2) := by decide +kernel
theorem d_Mod_firstWays_97 : decode b_Mod_firstWays 97 = .ok (.iastore, 1) := by decide +kernel
theorem d_Mod_firstWays_98 : decode b_Mod_firstWays 98 = .ok (.bipush 10, 2) := by decide +kernel
theorem d_Mod_firstWays_100 : decode b_Mod_firstWays 100 = .ok (.iload 4, 2) := by decide +kernel
theorem d_Mod_firstWays_102 : decode b_Mod_firstWays 102 = .ok (.imul, 1) := by decide +kernel
theorem d_Mod_firstWays_103 : decode b_Mod_firstWays 103 = .ok (.iload 6, 2) := by decide +kernel
theorem d_Mod_firstWays_105 : decode b_Mod_firstWays 105 = .ok (.iadd, 1) := by decide +kernel
theorem d_Mod_firstWays_106 : decode b_Mod_firstWays 106 = .ok (.istore 4, 2) := by decide +kernel
theorem d_Mod_firstWays_108 : decode b_Mod_firstWays 108 = .ok (.iinc 5 1, 3) := by decide +kernel
theorem d_Mod_firstWays_111 : decode b_Mod_firstWays 111 = .ok (.goto (-56), 3) := by decide +kernel
theorem d_Mod_firstWays_114 : decode b_Mod_firstWays 114 = .ok (.aload_n 0, 1) := by decide +kernel
theorem d_Mod_firstWays_115 : decode b_Mod_firstWays 115 = .ok (.invokevirtual 148, 3) := by decide +kernel
theorem d_Mod_firstWays_118 : decode b_Mod_firstWays 118 = .ok (.aload_n 0, 1) := by decide +kernel
theorem d_Mod_firstWays_119 : decode b_Mod_firstWays 119 = .ok (.getfield 139, 3) := by decide +kernel
theorem d_Mod_firstWays_122 : decode b_Mod_firstWays 122 = .ok (.invokestatic 151, 3) := by decide +kernel
theorem d_Mod_firstWays_125 : decode b_Mod_firstWays 125 = .ok (.iload_n 2, 1) := by decide +kernel
theorem d_Mod_firstWays_126 : decode b_Mod_firstWays 126 = .ok (.if_icmp .gt 6, 3) := by decide +kernel
theorem d_Mod_firstWays_129 : decode b_Mod_firstWays 129 = .ok (.goto 14, 3) := by decide +kernel
theorem d_Mod_firstWays_132 : decode b_Mod_firstWays 132 = .ok (.aload_n 0, 1) := by decide +kernel
theorem d_Mod_firstWays_133 : decode b_Mod_firstWays 133 = .ok (.getfield 139, 3) := by decide +kernel
theorem d_Mod_firstWays_136 : decode b_Mod_firstWays 136 = .ok (.invokestatic 151, 3) := by decide +kernel
theorem d_Mod_firstWays_139 : decode b_Mod_firstWays 139 = .ok (.istore_n 2, 1) := by decide +kernel
theorem d_Mod_firstWays_140 : decode b_Mod_firstWays 140 = .ok (.iload 4, 2) := by decide +kernel
theorem d_Mod_firstWays_142 : decode b_Mod_firstWays 142 = .ok (.istore_n 1, 1) := by decide +kernel
theorem d_Mod_firstWays_143 : decode b_Mod_firstWays 143 = .ok (.iinc 3 1, 3) := by decide +kernel
theorem d_Mod_firstWays_146 : decode b_Mod_firstWays 146 = .ok (.goto (-111), 3) := by decide +kernel
theorem d_Mod_firstWays_149 : decode b_Mod_firstWays 149 = .ok (.aload_n 0, 1) := by decide +kernel
theorem d_Mod_firstWays_150 : decode b_Mod_firstWays 150 = .ok (.getfield 16, 3) := by decide +kernel
theorem d_Mod_firstWays_153 : decode b_Mod_firstWays 153 = .ok (.aload_n 0, 1) := by decide +kernel
theorem d_Mod_firstWays_154 : decode b_Mod_firstWays 154 = .ok (.getfield 9, 3) := by decide +kernel
theorem d_Mod_firstWays_157 : decode b_Mod_firstWays 157 = .ok (.invokestatic 193, 3) := by decide +kernel
theorem d_Mod_firstWays_160 : decode b_Mod_firstWays 160 = .ok (.iload_n 1, 1) := by decide +kernel
theorem d_Mod_firstWays_161 : decode b_Mod_firstWays 161 = .ok (.ireturn, 1) := by decide +kernel
theorem d_Mod_leastOf_0 : decode b_Mod_leastOf 0 = .ok (.iload_n 0, 1) := by decide +kernel
theorem d_Mod_leastOf_1 : decode b_Mod_leastOf 1 = .ok (.ifCond .ne 8, 3) := by decide +kernel
theorem d_Mod_leastOf_4 : decode b_Mod_leastOf 4 = .ok (.bipush (-128), 2) := by decide +kernel
theorem d_Mod_leastOf_6 : decode b_Mod_leastOf 6 = .ok (.goto 17, 3) := by decide +kernel
theorem d_Mod_leastOf_9 : decode b_Mod_leastOf 9 = .ok (.iload_n 0, 1) := by decide +kernel
theorem d_Mod_leastOf_10 : decode b_Mod_leastOf 10 = .ok (.iconst 1, 1) := by decide +kernel
theorem d_Mod_leastOf_11 : decode b_Mod_leastOf 11 = .ok (.if_icmp .ne 9, 3) := by decide +kernel
theorem d_Mod_leastOf_14 : decode b_Mod_leastOf 14 = .ok (.sipush (-32768), 3) := by decide +kernel
theorem d_Mod_leastOf_17 : decode b_Mod_leastOf 17 = .ok (.goto 6, 3) := by decide +kernel
theorem d_Mod_leastOf_20 : decode b_Mod_leastOf 20 = .ok (.ldc_w 256, 3) := by decide +kernel
theorem d_Mod_leastOf_23 : decode b_Mod_leastOf 23 = .ok (.ireturn, 1) := by decide +kernel
set_option maxRecDepth 100000 in
theorem cw_Mod_eachDeed : CwV y_Mod_eachDeed b_Mod_eachDeed 9 (none) 6 := ⟨tbl_at 1338 (by decide +kernel) rfl, tbl_at 43 (by decide +kernel) rfl, tbl_at 57 (by decide +kernel) rfl, tbl_at 1339 rfl rfl, by decide +kernel, by decide +kernel, by decide +kernel⟩
set_option maxRecDepth 100000 in
theorem cw_Mod_gcd : CwS y_Mod_gcd b_Mod_gcd 10 (some FieldType.long) 2 := ⟨tbl_at 1359 (by decide +kernel) rfl, tbl_at 57 (by decide +kernel) rfl, tbl_at 1360 rfl rfl, by decide +kernel, by decide +kernel, by decide +kernel⟩
set_option maxRecDepth 100000 in
theorem cw_Mod_least : CwS y_Mod_least b_Mod_least 2 (some FieldType.int) 2 := ⟨tbl_at 1334 (by decide +kernel) rfl, tbl_at 57 (by decide +kernel) rfl, tbl_at 1335 rfl rfl, by decide +kernel, by decide +kernel, by decide +kernel⟩
theorem fl_Mod_229 : Cond.fieldLink R_Mod 229 "BreatheOutModel" "bestMinutes" "I" ∈ tbl := tbl_at 1023 (by decide +kernel) rfl
theorem fl_Mod_232 : Cond.fieldLink R_Mod 232 "BreatheOutModel" "bestLength" "I" ∈ tbl := tbl_at 1024 (by decide +kernel) rfl
theorem fl_Mod_238 : Cond.fieldLink R_Mod 238 "BreatheOutModel" "strongest" "I" ∈ tbl := tbl_at 1025 (by decide +kernel) rfl
theorem fl_Mod_241 : Cond.fieldLink R_Mod 241 "BreatheOutModel" "weakest" "I" ∈ tbl := tbl_at 1026 (by decide +kernel) rfl
theorem fl_Mod_31 : Cond.fieldLink R_Mod 31 "BreatheOutModel" "deed" "[I" ∈ tbl := tbl_at 1021 (by decide +kernel) rfl
theorem fl_Mod_34 : Cond.fieldLink R_Mod 34 "BreatheOutModel" "bestDeed" "[I" ∈ tbl := tbl_at 1022 (by decide +kernel) rfl
theorem lc_Mod_248 : Cond.constantLong R_Mod 248 (-1000000001) ∈ tbl := tbl_at 1356 (by decide +kernel) rfl
theorem lc_Mod_250 : Cond.constantLong R_Mod 250 (10) ∈ tbl := tbl_at 1357 (by decide +kernel) rfl
theorem lc_Mod_256 : Cond.constant R_Mod 256 (-2147483648) ∈ tbl := tbl_at 1380 (by decide +kernel) rfl
theorem ml_Mod_235 : Cond.methodLink R_Mod 235 y_Mod_least ∈ tbl := tbl_at 1333 (by decide +kernel) rfl
theorem ml_Mod_244 : Cond.methodLink R_Mod 244 y_Mod_eachDeed ∈ tbl := tbl_at 1336 (by decide +kernel) rfl
theorem ml_Mod_252 : Cond.methodLink R_Mod 252 y_Mod_gcd ∈ tbl := tbl_at 1358 (by decide +kernel) rfl
def vc_Mod_calms (x1 : Int32) (s : St) (Q : Int32 → St → Prop) : Prop :=
    vc_Mod_isBody x1 s (fun b10 => ((¬ (bi b10) = 0 → vc_Mod_of x1 2 s (fun x13 => (∃ I18 : Nat → Int32 → Int32 → St → Prop, (∃ n19, I18 n19 (-4) x13 s) ∧ ∀ (nI18 : Nat) (x15 : Int32) (x16 : Int32) (s17 : St), I18 nI18 x15 x16 s17 → ((x16 < 0 → vc_Mod_atBody x1 2 (fun x21 => (vp_in x21 78 ∧ (∀ s24 : St, s24 = wr s17 83 (Int32.toNatClampNeg x21) x13 → Q x15 s24)))) ∧ (¬ x16 < 0 → vc_Mod_atBody x1 2 (fun x25 => (vp_in x25 78 ∧ (∀ s28 : St, s28 = wr s17 83 (Int32.toNatClampNeg x25) (x13 - x16) → vc_Mod_wayAlone x1 0 s28 (fun s29 => (∃ J31 : Int32 → Prop, (∀ (x30 : Int32), J31 x30 → (∀ x32 : Int32, x32 = x16 + (-1) → ∃ m33, m33 < nI18 ∧ I18 m33 x30 x32 s29)) ∧ ((0 ≤ (s29 82 6) → J31 x15) ∧ (¬ 0 ≤ (s29 82 6) → (vp_in 4 78 ∧ J31 (x16 * (s29 83 (Int32.toNatClampNeg 4)))))))))))))))) ∧ ((bi b10) = 0 → Q (-1) s)))
def rm_Mod_calms : Room := { frames := 7, cells := 0, slots := 0, locals := 163 }
set_option maxHeartbeats 4000000 in
set_option maxRecDepth 20000 in
theorem m_Mod_calms (g : Gx) (hg : gOk g) (x1 : Int32)  (s : St) (Q : Int32 → St → Prop) (hw : vc_Mod_calms x1 s Q) : Mc g y_Mod_calms b_Mod_calms 5 (some FieldType.int) rm_Mod_calms [.ref (ga g 82), .int x1] s (fun v s' => ∃ r : Int32, v = some (.int r) ∧ Q r s') := by
  refine mc_ofV (j := 3) (L := [some (.ref (ga g 82)), some (.int x1), none, none, none]) hg (by decide) (Nat.le_of_ble_eq_true rfl) rfl ?_
  intro X hX C
  subst hX
  unfold vc_Mod_calms at hw
  refine x_aload_n C d_Mod_calms_0 rfl ?_
  refine x_iload_n C d_Mod_calms_1 rfl ?_
  refine x_callV (As := [.int x1]) (rest := []) (p := 82) C (m_Mod_isBody (xg X) C.2.2.2.2.2.2.1 x1 s _ hw) cw_Mod_isBody ml_Mod_179 rfl (by decide) (by decide) rfl rfl rfl ⟨rfl, rfl, Nat.le_of_ble_eq_true rfl, Nat.le_of_ble_eq_true rfl⟩ ⟨Nat.zero_le _, Nat.zero_le _⟩ rfl (Nat.le_of_ble_eq_true rfl) d_Mod_calms_2 ?_
  rintro _ _ ⟨b10, rfl, rfl, hw⟩
  show V X _ _ _ _ 5 [some (.ref (xa X 82)), some (.int x1), none, none, none] [.int (bi b10)]
  refine x_if_ne (tgt := 10) C d_Mod_calms_5 (by decide) (fun c12 => ?_) (fun c12 => ?_)
  · have hw := hw.1 c12
    refine x_aload_n C d_Mod_calms_10 rfl ?_
    refine x_iload_n C d_Mod_calms_11 rfl ?_
    refine x_iconst (v := 2) C d_Mod_calms_12 rfl ?_
    refine x_callV (As := [.int x1, .int 2]) (rest := []) (p := 82) C (m_Mod_of (xg X) C.2.2.2.2.2.2.1 x1 2 s _ hw) cw_Mod_of ml_Mod_73 rfl (by decide) (by decide) rfl rfl rfl ⟨rfl, rfl, Nat.le_of_ble_eq_true rfl, Nat.le_of_ble_eq_true rfl⟩ ⟨Nat.zero_le _, Nat.zero_le _⟩ rfl (Nat.le_of_ble_eq_true rfl) d_Mod_calms_13 ?_
    rintro _ _ ⟨x13, rfl, rfl, hw⟩
    show V X _ _ _ _ 16 [some (.ref (xa X 82)), some (.int x1), none, none, none] [.int x13]
    refine x_istore_n (L' := [some (.ref (xa X 82)), some (.int x1), some (.int x13), none, none]) C d_Mod_calms_16 (Nat.le_of_ble_eq_true rfl) rfl ?_
    refine x_bipush (v := (-4)) C d_Mod_calms_17 rfl ?_
    refine x_istore_n (L' := [some (.ref (xa X 82)), some (.int x1), some (.int x13), some (.int (-4)), none]) C d_Mod_calms_19 (Nat.le_of_ble_eq_true rfl) rfl ?_
    refine x_iload_n C d_Mod_calms_20 rfl ?_
    refine x_istore (L' := [some (.ref (xa X 82)), some (.int x1), some (.int x13), some (.int (-4)), some (.int x13)]) C d_Mod_calms_21 (Nat.le_of_ble_eq_true rfl) rfl ?_
    obtain ⟨I18, ⟨n19, hn19⟩, hI18⟩ := hw
    have lI18 : ∀ (nI18 : Nat) (x15 : Int32) (x16 : Int32) (s17 : St), I18 nI18 x15 x16 s17 → V X (xQ X (fun v s' => ∃ r : Int32, v = some (.int r) ∧ Q r s')) 0 0 s17 23 [some (.ref (xa X 82)), some (.int x1), some (.int x13), some (.int x15), some (.int x16)] [] := by
      intro nI18
      induction nI18 using Nat.strongRecOn with
      | ind nI18 ihI18 =>
        intro x15 x16 s17 hv
        have hw := hI18 nI18 x15 x16 s17 hv
        refine x_iload C d_Mod_calms_23 rfl ?_
        refine x_if_lt (tgt := 75) C d_Mod_calms_25 (by decide) (fun c20 => ?_) (fun c20 => ?_)
        · have hw := hw.1 c20
          refine x_aload_n C d_Mod_calms_75 rfl ?_
          refine g_Mod_0 (p := 82) C rfl fl_Mod_9 d_Mod_calms_76 ?_
          refine x_iload_n C d_Mod_calms_79 rfl ?_
          refine x_iconst (v := 2) C d_Mod_calms_80 rfl ?_
          refine x_callS (As := [.int x1, .int 2]) (rest := [.ref (xa X 83)]) C (m_Mod_atBody (xg X) C.2.2.2.2.2.2.1 x1 2 s17 _ hw) cw_Mod_atBody ml_Mod_59 rfl ⟨rfl, rfl, Nat.le_of_ble_eq_true rfl, Nat.le_of_ble_eq_true rfl⟩ ⟨Nat.zero_le _, Nat.zero_le _⟩ rfl (Nat.le_of_ble_eq_true rfl) d_Mod_calms_81 ?_
          rintro _ _ ⟨x21, rfl, rfl, hw⟩
          show V X _ _ _ _ 84 [some (.ref (xa X 82)), some (.int x1), some (.int x13), some (.int x15), some (.int x16)] [.int x21, .ref (xa X 83)]
          refine x_iload_n C d_Mod_calms_84 rfl ?_
          obtain ⟨h23, hw⟩ := hw
          refine x_iast (p := 83) (n := 78) C rfl h23 d_Mod_calms_85 ?_
          refine x_st (fun s24 hs24 => ?_)
          have hw := hw s24 hs24
          refine x_iload_n C d_Mod_calms_86 rfl ?_
          exact x_ireturn C d_Mod_calms_87 ⟨_, rfl, hw⟩
        · have hw := hw.2 c20
          refine x_aload_n C d_Mod_calms_28 rfl ?_
          refine g_Mod_0 (p := 82) C rfl fl_Mod_9 d_Mod_calms_29 ?_
          refine x_iload_n C d_Mod_calms_32 rfl ?_
          refine x_iconst (v := 2) C d_Mod_calms_33 rfl ?_
          refine x_callS (As := [.int x1, .int 2]) (rest := [.ref (xa X 83)]) C (m_Mod_atBody (xg X) C.2.2.2.2.2.2.1 x1 2 s17 _ hw) cw_Mod_atBody ml_Mod_59 rfl ⟨rfl, rfl, Nat.le_of_ble_eq_true rfl, Nat.le_of_ble_eq_true rfl⟩ ⟨Nat.zero_le _, Nat.zero_le _⟩ rfl (Nat.le_of_ble_eq_true rfl) d_Mod_calms_34 ?_
          rintro _ _ ⟨x25, rfl, rfl, hw⟩
          show V X _ _ _ _ 37 [some (.ref (xa X 82)), some (.int x1), some (.int x13), some (.int x15), some (.int x16)] [.int x25, .ref (xa X 83)]
          refine x_iload_n C d_Mod_calms_37 rfl ?_
          refine x_iload C d_Mod_calms_38 rfl ?_
          refine x_isub C d_Mod_calms_40 ?_
          obtain ⟨h27, hw⟩ := hw
          refine x_iast (p := 83) (n := 78) C rfl h27 d_Mod_calms_41 ?_
          refine x_st (fun s28 hs28 => ?_)
          have hw := hw s28 hs28
          refine x_aload_n C d_Mod_calms_42 rfl ?_
          refine x_iload_n C d_Mod_calms_43 rfl ?_
          refine x_iconst (v := 0) C d_Mod_calms_44 rfl ?_
          refine x_callV (As := [.int x1, .int 0]) (rest := []) (p := 82) C (m_Mod_wayAlone (xg X) C.2.2.2.2.2.2.1 x1 0 s28 _ hw) cw_Mod_wayAlone ml_Mod_212 rfl (by decide) (by decide) rfl rfl rfl ⟨rfl, rfl, Nat.le_of_ble_eq_true rfl, Nat.le_of_ble_eq_true rfl⟩ ⟨Nat.zero_le _, Nat.zero_le _⟩ rfl (Nat.le_of_ble_eq_true rfl) d_Mod_calms_45 ?_
          rintro _ s29 ⟨rfl, hw⟩
          show V X _ _ _ _ 48 [some (.ref (xa X 82)), some (.int x1), some (.int x13), some (.int x15), some (.int x16)] []
          refine x_aload_n C d_Mod_calms_48 rfl ?_
          refine g_Mod_6 (p := 82) C rfl fl_Mod_87 d_Mod_calms_49 ?_
          obtain ⟨J31, hJ31, hw⟩ := hw
          have kJ31 : ∀ (x30 : Int32), J31 x30 → V X (xQ X (fun v s' => ∃ r : Int32, v = some (.int r) ∧ Q r s')) 0 0 s29 68 [some (.ref (xa X 82)), some (.int x1), some (.int x13), some (.int x15), some (.int x16)] [.int x30] := by
            intro x30 hv
            have hw := hJ31 x30 hv
            refine x_istore_n (L' := [some (.ref (xa X 82)), some (.int x1), some (.int x13), some (.int x30), some (.int x16)]) C d_Mod_calms_68 (Nat.le_of_ble_eq_true rfl) rfl ?_
            obtain ⟨x32, hx32⟩ : ∃ z : Int32, z = x16 + (-1) := ⟨_, rfl⟩
            refine x_iinc (v := x32) (L' := [some (.ref (xa X 82)), some (.int x1), some (.int x13), some (.int x30), some (.int x32)]) C d_Mod_calms_69 (Nat.le_of_ble_eq_true rfl) rfl (by rw [hx32]; rfl) rfl ?_
            have hw := hw x32 hx32
            refine x_goto (tgt := 23) C d_Mod_calms_72 (by decide) ?_
            obtain ⟨m33, hm33, hw⟩ := hw
            exact x_wk (ihI18 m33 hm33 x30 x32 s29 hw) (And.intro rfl (And.intro rfl (And.intro rfl (And.intro rfl (And.intro rfl (trivial))))))
          refine x_if_ge (tgt := 67) C d_Mod_calms_52 (by decide) (fun c34 => ?_) (fun c34 => ?_)
          · have hw := hw.1 c34
            refine x_iload_n C d_Mod_calms_67 rfl ?_
            exact x_wk (kJ31 x15 hw) (And.intro rfl (And.intro rfl (And.intro rfl (And.intro rfl (And.intro rfl (trivial))))))
          · have hw := hw.2 c34
            refine x_iload C d_Mod_calms_55 rfl ?_
            refine x_aload_n C d_Mod_calms_57 rfl ?_
            refine g_Mod_0 (p := 82) C rfl fl_Mod_9 d_Mod_calms_58 ?_
            refine x_iconst (v := 4) C d_Mod_calms_61 rfl ?_
            obtain ⟨h35, hw⟩ := hw
            refine x_iald (p := 83) (n := 78) C rfl h35 d_Mod_calms_62 ?_
            refine x_imul C d_Mod_calms_63 ?_
            refine x_goto (tgt := 68) C d_Mod_calms_64 (by decide) ?_
            exact x_wk (kJ31 (x16 * (s29 83 (Int32.toNatClampNeg 4))) hw) (And.intro rfl (And.intro rfl (And.intro rfl (And.intro rfl (And.intro rfl (trivial))))))
    exact x_wk (lI18 n19 (-4) x13 s hn19) (And.intro rfl (And.intro rfl (And.intro rfl (And.intro rfl (And.intro rfl (trivial))))))
  · have hw := hw.2 c12
    refine x_iconst (v := (-1)) C d_Mod_calms_8 rfl ?_
    exact x_ireturn C d_Mod_calms_9 ⟨_, rfl, hw⟩
def vc_Mod_eachDeed : Nat → Int32 → Int32 → Int32 → Int32 → Int32 → Int32 → St → (St → Prop) → Prop
  | 0, _, _, _, _, _, _, _, _ => False
  | d + 1, x1, x2, x3, x4, x5, x6, s, Q =>
    vc_Mod_sizeNow x1 x2 1 s (fun x10 => vc_Mod_hour  s (fun x12 => vc_Mod_roomOf x2 x12 s (fun x14 => ((x5 < (x10 - x14) → ((¬ x3 = x4 → vc_Mod_of x1 2 s (fun x18 => (∃ I22 : Nat → Int32 → St → Prop, (∃ n23, I22 n23 0 s) ∧ ∀ (nI22 : Nat) (x20 : Int32) (s21 : St), I22 nI22 x20 s21 → ((4 ≤ x20 → Q s21) ∧ (¬ 4 ≤ x20 → (vp_in x3 6 ∧ (∀ s26 : St, s26 = wr s21 90 (Int32.toNatClampNeg x3) x20 → vc_Mod_atBody x1 2 (fun x27 => (∃ J30 : Int32 → Prop, (∀ (x29 : Int32), J30 x29 → (vp_in x27 78 ∧ (∀ s32 : St, s32 = wr s26 83 (Int32.toNatClampNeg x27) x29 → (∃ J34 : Int32 → Prop, (∀ (x33 : Int32), J34 x33 → (∃ J36 : Int32 → Prop, (∀ (x35 : Int32), J36 x35 → vc_Mod_eachDeed d x1 x2 (x3 + 1) x4 (x5 + x33) (x6 + x35) s32 (fun s37 => vc_Mod_atBody x1 2 (fun x38 => (vp_in x38 78 ∧ (∀ s41 : St, s41 = wr s37 83 (Int32.toNatClampNeg x38) x18 → (∀ x42 : Int32, x42 = x20 + 1 → ∃ m43, m43 < nI22 ∧ I22 m43 x42 s41)))))) ∧ ((2 ≤ x20 → ((¬ x20 = 2 → J36 2) ∧ (x20 = 2 → (vp_in 4 78 ∧ J36 (s32 83 (Int32.toNatClampNeg 4)))))) ∧ (¬ 2 ≤ x20 → J36 10)))) ∧ ((¬ x20 = 0 → ((¬ x20 = 1 → ((¬ x20 = 3 → J34 0) ∧ (x20 = 3 → J34 1))) ∧ (x20 = 1 → J34 ((s32 82 31) / 3)))) ∧ (x20 = 0 → J34 ((s32 82 30) / 3))))))) ∧ ((¬ x20 = 2 → ((¬ x20 = 3 → J30 x18) ∧ (x20 = 3 → vc_Mod_least 9 (x18 + 1) (fun x52 => J30 x52)))) ∧ (x20 = 2 → vc_Mod_most 0 (x18 - 1) (fun x54 => J30 x54)))))))))))) ∧ (x3 = x4 → Q s))) ∧ (¬ x5 < (x10 - x14) → ((x6 < (s 82 28) → (∀ s57 : St, s57 = wr s 82 28 x6 → (∀ s58 : St, s58 = wr s57 82 29 x3 → (∃ I61 : Nat → Int32 → St → Prop, (∃ n62, I61 n62 0 s58) ∧ ∀ (nI61 : Nat) (x59 : Int32) (s60 : St), I61 nI61 x59 s60 → ((x3 ≤ x59 → Q s60) ∧ (¬ x3 ≤ x59 → (vp_in x59 6 ∧ (vp_in x59 6 ∧ (∀ s66 : St, s66 = wr s60 91 (Int32.toNatClampNeg x59) (s60 90 (Int32.toNatClampNeg x59)) → (∀ x67 : Int32, x67 = x59 + 1 → ∃ m68, m68 < nI61 ∧ I61 m68 x67 s66)))))))))) ∧ (¬ x6 < (s 82 28) → Q s)))))))
def rm_Mod_eachDeed (d : Nat) : Room := { frames := 4 + d, cells := 0, slots := 0, locals := 92 + d * 28 }
set_option maxHeartbeats 4000000 in
set_option maxRecDepth 20000 in
theorem m_Mod_eachDeed (g : Gx) (hg : gOk g) : ∀ (d : Nat) (x1 : Int32) (x2 : Int32) (x3 : Int32) (x4 : Int32) (x5 : Int32) (x6 : Int32)  (s : St) (Q : St → Prop) (hw : vc_Mod_eachDeed d x1 x2 x3 x4 x5 x6 s Q), Mc g y_Mod_eachDeed b_Mod_eachDeed 9 (none) (rm_Mod_eachDeed d) [.ref (ga g 82), .int x1, .int x2, .int x3, .int x4, .int x5, .int x6] s (fun v s' => v = none ∧ Q s')
  | 0, x1, x2, x3, x4, x5, x6, s, Q, hw => hw.elim
  | d + 1, x1, x2, x3, x4, x5, x6, s, Q, hw => by
    refine mc_ofV (j := 2) (L := [some (.ref (ga g 82)), some (.int x1), some (.int x2), some (.int x3), some (.int x4), some (.int x5), some (.int x6), none, none]) hg (by decide) (Nat.le_of_ble_eq_true rfl) rfl ?_
    intro X hX C
    subst hX
    simp only [vc_Mod_eachDeed] at hw
    refine x_aload_n C d_Mod_eachDeed_0 rfl ?_
    refine x_iload_n C d_Mod_eachDeed_1 rfl ?_
    refine x_iload_n C d_Mod_eachDeed_2 rfl ?_
    refine x_iconst (v := 1) C d_Mod_eachDeed_3 rfl ?_
    refine x_callV (As := [.int x1, .int x2, .int 1]) (rest := []) (p := 82) C (m_Mod_sizeNow (xg X) C.2.2.2.2.2.2.1 x1 x2 1 s _ hw) cw_Mod_sizeNow ml_Mod_80 rfl (by decide) (by decide) rfl rfl rfl ⟨rfl, rfl, by simp only [rm_Mod_eachDeed, rm_Mod_sizeNow] <;> omega, by simp only [rm_Mod_eachDeed, rm_Mod_sizeNow] <;> omega⟩ ⟨Nat.zero_le _, Nat.zero_le _⟩ rfl (Nat.le_of_ble_eq_true rfl) d_Mod_eachDeed_4 ?_
    rintro _ _ ⟨x10, rfl, rfl, hw⟩
    show V X _ _ _ _ 7 [some (.ref (xa X 82)), some (.int x1), some (.int x2), some (.int x3), some (.int x4), some (.int x5), some (.int x6), none, none] [.int x10]
    refine x_aload_n C d_Mod_eachDeed_7 rfl ?_
    refine x_iload_n C d_Mod_eachDeed_8 rfl ?_
    refine x_aload_n C d_Mod_eachDeed_9 rfl ?_
    refine x_callV (As := []) (rest := [.int x2, .ref (xa X 82), .int x10]) (p := 82) C (m_Mod_hour (xg X) C.2.2.2.2.2.2.1  s _ hw) cw_Mod_hour ml_Mod_203 rfl (by decide) (by decide) rfl rfl rfl ⟨rfl, rfl, by simp only [rm_Mod_eachDeed, rm_Mod_hour] <;> omega, by simp only [rm_Mod_eachDeed, rm_Mod_hour] <;> omega⟩ ⟨Nat.zero_le _, Nat.zero_le _⟩ rfl (Nat.le_of_ble_eq_true rfl) d_Mod_eachDeed_10 ?_
    rintro _ _ ⟨x12, rfl, rfl, hw⟩
    show V X _ _ _ _ 13 [some (.ref (xa X 82)), some (.int x1), some (.int x2), some (.int x3), some (.int x4), some (.int x5), some (.int x6), none, none] [.int x12, .int x2, .ref (xa X 82), .int x10]
    refine x_callV (As := [.int x2, .int x12]) (rest := [.int x10]) (p := 82) C (m_Mod_roomOf (xg X) C.2.2.2.2.2.2.1 x2 x12 s _ hw) cw_Mod_roomOf ml_Mod_84 rfl (by decide) (by decide) rfl rfl rfl ⟨rfl, rfl, by simp only [rm_Mod_eachDeed, rm_Mod_roomOf] <;> omega, by simp only [rm_Mod_eachDeed, rm_Mod_roomOf] <;> omega⟩ ⟨Nat.zero_le _, Nat.zero_le _⟩ rfl (Nat.le_of_ble_eq_true rfl) d_Mod_eachDeed_13 ?_
    rintro _ _ ⟨x14, rfl, rfl, hw⟩
    show V X _ _ _ _ 16 [some (.ref (xa X 82)), some (.int x1), some (.int x2), some (.int x3), some (.int x4), some (.int x5), some (.int x6), none, none] [.int x14, .int x10]
    refine x_isub C d_Mod_eachDeed_16 ?_
    refine x_iload C d_Mod_eachDeed_17 rfl ?_
    refine x_icmp_gt (tgt := 73) C d_Mod_eachDeed_19 (by decide) (fun c16 => ?_) (fun c16 => ?_)
    · have hw := hw.1 c16
      refine x_iload_n C d_Mod_eachDeed_73 rfl ?_
      refine x_iload C d_Mod_eachDeed_74 rfl ?_
      refine x_icmp_ne (tgt := 80) C d_Mod_eachDeed_76 (by decide) (fun c17 => ?_) (fun c17 => ?_)
      · have hw := hw.1 c17
        refine x_aload_n C d_Mod_eachDeed_80 rfl ?_
        refine x_iload_n C d_Mod_eachDeed_81 rfl ?_
        refine x_iconst (v := 2) C d_Mod_eachDeed_82 rfl ?_
        refine x_callV (As := [.int x1, .int 2]) (rest := []) (p := 82) C (m_Mod_of (xg X) C.2.2.2.2.2.2.1 x1 2 s _ hw) cw_Mod_of ml_Mod_73 rfl (by decide) (by decide) rfl rfl rfl ⟨rfl, rfl, by simp only [rm_Mod_eachDeed, rm_Mod_of] <;> omega, by simp only [rm_Mod_eachDeed, rm_Mod_of] <;> omega⟩ ⟨Nat.zero_le _, Nat.zero_le _⟩ rfl (Nat.le_of_ble_eq_true rfl) d_Mod_eachDeed_83 ?_
        rintro _ _ ⟨x18, rfl, rfl, hw⟩
        show V X _ _ _ _ 86 [some (.ref (xa X 82)), some (.int x1), some (.int x2), some (.int x3), some (.int x4), some (.int x5), some (.int x6), none, none] [.int x18]
        refine x_istore (L' := [some (.ref (xa X 82)), some (.int x1), some (.int x2), some (.int x3), some (.int x4), some (.int x5), some (.int x6), some (.int x18), none]) C d_Mod_eachDeed_86 (Nat.le_of_ble_eq_true rfl) rfl ?_
        refine x_iconst (v := 0) C d_Mod_eachDeed_88 rfl ?_
        refine x_istore (L' := [some (.ref (xa X 82)), some (.int x1), some (.int x2), some (.int x3), some (.int x4), some (.int x5), some (.int x6), some (.int x18), some (.int 0)]) C d_Mod_eachDeed_89 (Nat.le_of_ble_eq_true rfl) rfl ?_
        obtain ⟨I22, ⟨n23, hn23⟩, hI22⟩ := hw
        have lI22 : ∀ (nI22 : Nat) (x20 : Int32) (s21 : St), I22 nI22 x20 s21 → V X (xQ X (fun v s' => v = none ∧ Q s')) 0 0 s21 91 [some (.ref (xa X 82)), some (.int x1), some (.int x2), some (.int x3), some (.int x4), some (.int x5), some (.int x6), some (.int x18), some (.int x20)] [] := by
          intro nI22
          induction nI22 using Nat.strongRecOn with
          | ind nI22 ihI22 =>
            intro x20 s21 hv
            have hw := hI22 nI22 x20 s21 hv
            refine x_iload C d_Mod_eachDeed_91 rfl ?_
            refine x_iconst (v := 4) C d_Mod_eachDeed_93 rfl ?_
            refine x_icmp_ge (tgt := 254) C d_Mod_eachDeed_94 (by decide) (fun c24 => ?_) (fun c24 => ?_)
            · have hw := hw.1 c24
              exact x_return C d_Mod_eachDeed_254 ⟨rfl, hw⟩
            · have hw := hw.2 c24
              refine x_aload_n C d_Mod_eachDeed_97 rfl ?_
              refine g_Mod_26 (p := 82) C rfl fl_Mod_31 d_Mod_eachDeed_98 ?_
              refine x_iload_n C d_Mod_eachDeed_101 rfl ?_
              refine x_iload C d_Mod_eachDeed_102 rfl ?_
              obtain ⟨h25, hw⟩ := hw
              refine x_iast (p := 90) (n := 6) C rfl h25 d_Mod_eachDeed_104 ?_
              refine x_st (fun s26 hs26 => ?_)
              have hw := hw s26 hs26
              refine x_aload_n C d_Mod_eachDeed_105 rfl ?_
              refine g_Mod_0 (p := 82) C rfl fl_Mod_9 d_Mod_eachDeed_106 ?_
              refine x_iload_n C d_Mod_eachDeed_109 rfl ?_
              refine x_iconst (v := 2) C d_Mod_eachDeed_110 rfl ?_
              refine x_callS (As := [.int x1, .int 2]) (rest := [.ref (xa X 83)]) C (m_Mod_atBody (xg X) C.2.2.2.2.2.2.1 x1 2 s26 _ hw) cw_Mod_atBody ml_Mod_59 rfl ⟨rfl, rfl, by simp only [rm_Mod_eachDeed, rm_Mod_atBody] <;> omega, by simp only [rm_Mod_eachDeed, rm_Mod_atBody] <;> omega⟩ ⟨Nat.zero_le _, Nat.zero_le _⟩ rfl (Nat.le_of_ble_eq_true rfl) d_Mod_eachDeed_111 ?_
              rintro _ _ ⟨x27, rfl, rfl, hw⟩
              show V X _ _ _ _ 114 [some (.ref (xa X 82)), some (.int x1), some (.int x2), some (.int x3), some (.int x4), some (.int x5), some (.int x6), some (.int x18), some (.int x20)] [.int x27, .ref (xa X 83)]
              refine x_iload C d_Mod_eachDeed_114 rfl ?_
              refine x_iconst (v := 2) C d_Mod_eachDeed_116 rfl ?_
              obtain ⟨J30, hJ30, hw⟩ := hw
              have kJ30 : ∀ (x29 : Int32), J30 x29 → V X (xQ X (fun v s' => v = none ∧ Q s')) 0 0 s26 151 [some (.ref (xa X 82)), some (.int x1), some (.int x2), some (.int x3), some (.int x4), some (.int x5), some (.int x6), some (.int x18), some (.int x20)] [.int x29, .int x27, .ref (xa X 83)] := by
                intro x29 hv
                have hw := hJ30 x29 hv
                obtain ⟨h31, hw⟩ := hw
                refine x_iast (p := 83) (n := 78) C rfl h31 d_Mod_eachDeed_151 ?_
                refine x_st (fun s32 hs32 => ?_)
                have hw := hw s32 hs32
                refine x_aload_n C d_Mod_eachDeed_152 rfl ?_
                refine x_iload_n C d_Mod_eachDeed_153 rfl ?_
                refine x_iload_n C d_Mod_eachDeed_154 rfl ?_
                refine x_iload_n C d_Mod_eachDeed_155 rfl ?_
                refine x_iconst (v := 1) C d_Mod_eachDeed_156 rfl ?_
                refine x_iadd C d_Mod_eachDeed_157 ?_
                refine x_iload C d_Mod_eachDeed_158 rfl ?_
                refine x_iload C d_Mod_eachDeed_160 rfl ?_
                refine x_iload C d_Mod_eachDeed_162 rfl ?_
                obtain ⟨J34, hJ34, hw⟩ := hw
                have kJ34 : ∀ (x33 : Int32), J34 x33 → V X (xQ X (fun v s' => v = none ∧ Q s')) 0 0 s32 202 [some (.ref (xa X 82)), some (.int x1), some (.int x2), some (.int x3), some (.int x4), some (.int x5), some (.int x6), some (.int x18), some (.int x20)] [.int x33, .int x5, .int x4, .int (x3 + 1), .int x2, .int x1, .ref (xa X 82)] := by
                  intro x33 hv
                  have hw := hJ34 x33 hv
                  refine x_iadd C d_Mod_eachDeed_202 ?_
                  refine x_iload C d_Mod_eachDeed_203 rfl ?_
                  refine x_iload C d_Mod_eachDeed_205 rfl ?_
                  refine x_iconst (v := 2) C d_Mod_eachDeed_207 rfl ?_
                  obtain ⟨J36, hJ36, hw⟩ := hw
                  have kJ36 : ∀ (x35 : Int32), J36 x35 → V X (xQ X (fun v s' => v = none ∧ Q s')) 0 0 s32 232 [some (.ref (xa X 82)), some (.int x1), some (.int x2), some (.int x3), some (.int x4), some (.int x5), some (.int x6), some (.int x18), some (.int x20)] [.int x35, .int x6, .int (x5 + x33), .int x4, .int (x3 + 1), .int x2, .int x1, .ref (xa X 82)] := by
                    intro x35 hv
                    have hw := hJ36 x35 hv
                    refine x_iadd C d_Mod_eachDeed_232 ?_
                    refine x_callV (As := [.int x1, .int x2, .int (x3 + 1), .int x4, .int (x5 + x33), .int (x6 + x35)]) (rest := []) (p := 82) C (m_Mod_eachDeed (xg X) C.2.2.2.2.2.2.1 d x1 x2 (x3 + 1) x4 (x5 + x33) (x6 + x35) s32 _ hw) cw_Mod_eachDeed ml_Mod_244 rfl (by decide) (by decide) rfl rfl rfl ⟨rfl, rfl, by simp only [rm_Mod_eachDeed, rm_Mod_eachDeed] <;> omega, by simp only [rm_Mod_eachDeed, rm_Mod_eachDeed] <;> omega⟩ ⟨Nat.zero_le _, Nat.zero_le _⟩ rfl (Nat.le_of_ble_eq_true rfl) d_Mod_eachDeed_233 ?_
                    rintro _ s37 ⟨rfl, hw⟩
                    show V X _ _ _ _ 236 [some (.ref (xa X 82)), some (.int x1), some (.int x2), some (.int x3), some (.int x4), some (.int x5), some (.int x6), some (.int x18), some (.int x20)] []
                    refine x_aload_n C d_Mod_eachDeed_236 rfl ?_
                    refine g_Mod_0 (p := 82) C rfl fl_Mod_9 d_Mod_eachDeed_237 ?_
                    refine x_iload_n C d_Mod_eachDeed_240 rfl ?_
                    refine x_iconst (v := 2) C d_Mod_eachDeed_241 rfl ?_
                    refine x_callS (As := [.int x1, .int 2]) (rest := [.ref (xa X 83)]) C (m_Mod_atBody (xg X) C.2.2.2.2.2.2.1 x1 2 s37 _ hw) cw_Mod_atBody ml_Mod_59 rfl ⟨rfl, rfl, by simp only [rm_Mod_eachDeed, rm_Mod_atBody] <;> omega, by simp only [rm_Mod_eachDeed, rm_Mod_atBody] <;> omega⟩ ⟨Nat.zero_le _, Nat.zero_le _⟩ rfl (Nat.le_of_ble_eq_true rfl) d_Mod_eachDeed_242 ?_
                    rintro _ _ ⟨x38, rfl, rfl, hw⟩
                    show V X _ _ _ _ 245 [some (.ref (xa X 82)), some (.int x1), some (.int x2), some (.int x3), some (.int x4), some (.int x5), some (.int x6), some (.int x18), some (.int x20)] [.int x38, .ref (xa X 83)]
                    refine x_iload C d_Mod_eachDeed_245 rfl ?_
                    obtain ⟨h40, hw⟩ := hw
                    refine x_iast (p := 83) (n := 78) C rfl h40 d_Mod_eachDeed_247 ?_
                    refine x_st (fun s41 hs41 => ?_)
                    have hw := hw s41 hs41
                    obtain ⟨x42, hx42⟩ : ∃ z : Int32, z = x20 + 1 := ⟨_, rfl⟩
                    refine x_iinc (v := x42) (L' := [some (.ref (xa X 82)), some (.int x1), some (.int x2), some (.int x3), some (.int x4), some (.int x5), some (.int x6), some (.int x18), some (.int x42)]) C d_Mod_eachDeed_248 (Nat.le_of_ble_eq_true rfl) rfl (by rw [hx42]; rfl) rfl ?_
                    have hw := hw x42 hx42
                    refine x_goto (tgt := 91) C d_Mod_eachDeed_251 (by decide) ?_
                    obtain ⟨m43, hm43, hw⟩ := hw
                    exact x_wk (ihI22 m43 hm43 x42 s41 hw) (And.intro rfl (And.intro rfl (And.intro rfl (And.intro rfl (And.intro rfl (And.intro rfl (And.intro rfl (And.intro rfl (And.intro rfl (trivial))))))))))
                  refine x_icmp_ge (tgt := 216) C d_Mod_eachDeed_208 (by decide) (fun c44 => ?_) (fun c44 => ?_)
                  · have hw := hw.1 c44
                    refine x_iload C d_Mod_eachDeed_216 rfl ?_
                    refine x_iconst (v := 2) C d_Mod_eachDeed_218 rfl ?_
                    refine x_icmp_ne (tgt := 231) C d_Mod_eachDeed_219 (by decide) (fun c45 => ?_) (fun c45 => ?_)
                    · have hw := hw.1 c45
                      refine x_iconst (v := 2) C d_Mod_eachDeed_231 rfl ?_
                      exact x_wk (kJ36 2 hw) (And.intro rfl (And.intro rfl (And.intro rfl (And.intro rfl (And.intro rfl (And.intro rfl (And.intro rfl (And.intro rfl (And.intro rfl (trivial))))))))))
                    · have hw := hw.2 c45
                      refine x_aload_n C d_Mod_eachDeed_222 rfl ?_
                      refine g_Mod_0 (p := 82) C rfl fl_Mod_9 d_Mod_eachDeed_223 ?_
                      refine x_iconst (v := 4) C d_Mod_eachDeed_226 rfl ?_
                      obtain ⟨h46, hw⟩ := hw
                      refine x_iald (p := 83) (n := 78) C rfl h46 d_Mod_eachDeed_227 ?_
                      refine x_goto (tgt := 232) C d_Mod_eachDeed_228 (by decide) ?_
                      exact x_wk (kJ36 (s32 83 (Int32.toNatClampNeg 4)) hw) (And.intro rfl (And.intro rfl (And.intro rfl (And.intro rfl (And.intro rfl (And.intro rfl (And.intro rfl (And.intro rfl (And.intro rfl (trivial))))))))))
                  · have hw := hw.2 c44
                    refine x_bipush (v := 10) C d_Mod_eachDeed_211 rfl ?_
                    refine x_goto (tgt := 232) C d_Mod_eachDeed_213 (by decide) ?_
                    exact x_wk (kJ36 10 hw) (And.intro rfl (And.intro rfl (And.intro rfl (And.intro rfl (And.intro rfl (And.intro rfl (And.intro rfl (And.intro rfl (And.intro rfl (trivial))))))))))
                refine x_if_ne (tgt := 176) C d_Mod_eachDeed_164 (by decide) (fun c47 => ?_) (fun c47 => ?_)
                · have hw := hw.1 c47
                  refine x_iload C d_Mod_eachDeed_176 rfl ?_
                  refine x_iconst (v := 1) C d_Mod_eachDeed_178 rfl ?_
                  refine x_icmp_ne (tgt := 191) C d_Mod_eachDeed_179 (by decide) (fun c48 => ?_) (fun c48 => ?_)
                  · have hw := hw.1 c48
                    refine x_iload C d_Mod_eachDeed_191 rfl ?_
                    refine x_iconst (v := 3) C d_Mod_eachDeed_193 rfl ?_
                    refine x_icmp_ne (tgt := 201) C d_Mod_eachDeed_194 (by decide) (fun c49 => ?_) (fun c49 => ?_)
                    · have hw := hw.1 c49
                      refine x_iconst (v := 0) C d_Mod_eachDeed_201 rfl ?_
                      exact x_wk (kJ34 0 hw) (And.intro rfl (And.intro rfl (And.intro rfl (And.intro rfl (And.intro rfl (And.intro rfl (And.intro rfl (And.intro rfl (And.intro rfl (trivial))))))))))
                    · have hw := hw.2 c49
                      refine x_iconst (v := 1) C d_Mod_eachDeed_197 rfl ?_
                      refine x_goto (tgt := 202) C d_Mod_eachDeed_198 (by decide) ?_
                      exact x_wk (kJ34 1 hw) (And.intro rfl (And.intro rfl (And.intro rfl (And.intro rfl (And.intro rfl (And.intro rfl (And.intro rfl (And.intro rfl (And.intro rfl (trivial))))))))))
                  · have hw := hw.2 c48
                    refine x_aload_n C d_Mod_eachDeed_182 rfl ?_
                    refine g_Mod_31 (p := 82) C rfl fl_Mod_241 d_Mod_eachDeed_183 ?_
                    refine x_iconst (v := 3) C d_Mod_eachDeed_186 rfl ?_
                    refine x_idiv C d_Mod_eachDeed_187 (by decide) ?_
                    refine x_goto (tgt := 202) C d_Mod_eachDeed_188 (by decide) ?_
                    exact x_wk (kJ34 ((s32 82 31) / 3) hw) (And.intro rfl (And.intro rfl (And.intro rfl (And.intro rfl (And.intro rfl (And.intro rfl (And.intro rfl (And.intro rfl (And.intro rfl (trivial))))))))))
                · have hw := hw.2 c47
                  refine x_aload_n C d_Mod_eachDeed_167 rfl ?_
                  refine g_Mod_30 (p := 82) C rfl fl_Mod_238 d_Mod_eachDeed_168 ?_
                  refine x_iconst (v := 3) C d_Mod_eachDeed_171 rfl ?_
                  refine x_idiv C d_Mod_eachDeed_172 (by decide) ?_
                  refine x_goto (tgt := 202) C d_Mod_eachDeed_173 (by decide) ?_
                  exact x_wk (kJ34 ((s32 82 30) / 3) hw) (And.intro rfl (And.intro rfl (And.intro rfl (And.intro rfl (And.intro rfl (And.intro rfl (And.intro rfl (And.intro rfl (And.intro rfl (trivial))))))))))
              refine x_icmp_ne (tgt := 131) C d_Mod_eachDeed_117 (by decide) (fun c50 => ?_) (fun c50 => ?_)
              · have hw := hw.1 c50
                refine x_iload C d_Mod_eachDeed_131 rfl ?_
                refine x_iconst (v := 3) C d_Mod_eachDeed_133 rfl ?_
                refine x_icmp_ne (tgt := 149) C d_Mod_eachDeed_134 (by decide) (fun c51 => ?_) (fun c51 => ?_)
                · have hw := hw.1 c51
                  refine x_iload C d_Mod_eachDeed_149 rfl ?_
                  exact x_wk (kJ30 x18 hw) (And.intro rfl (And.intro rfl (And.intro rfl (And.intro rfl (And.intro rfl (And.intro rfl (And.intro rfl (And.intro rfl (And.intro rfl (trivial))))))))))
                · have hw := hw.2 c51
                  refine x_bipush (v := 9) C d_Mod_eachDeed_137 rfl ?_
                  refine x_iload C d_Mod_eachDeed_139 rfl ?_
                  refine x_iconst (v := 1) C d_Mod_eachDeed_141 rfl ?_
                  refine x_iadd C d_Mod_eachDeed_142 ?_
                  refine x_callS (As := [.int 9, .int (x18 + 1)]) (rest := [.int x27, .ref (xa X 83)]) C (m_Mod_least (xg X) C.2.2.2.2.2.2.1 9 (x18 + 1) s26 _ hw) cw_Mod_least ml_Mod_235 rfl ⟨rfl, rfl, by simp only [rm_Mod_eachDeed, rm_Mod_least] <;> omega, by simp only [rm_Mod_eachDeed, rm_Mod_least] <;> omega⟩ ⟨Nat.zero_le _, Nat.zero_le _⟩ rfl (Nat.le_of_ble_eq_true rfl) d_Mod_eachDeed_143 ?_
                  rintro _ _ ⟨x52, rfl, rfl, hw⟩
                  show V X _ _ _ _ 146 [some (.ref (xa X 82)), some (.int x1), some (.int x2), some (.int x3), some (.int x4), some (.int x5), some (.int x6), some (.int x18), some (.int x20)] [.int x52, .int x27, .ref (xa X 83)]
                  refine x_goto (tgt := 151) C d_Mod_eachDeed_146 (by decide) ?_
                  exact x_wk (kJ30 x52 hw) (And.intro rfl (And.intro rfl (And.intro rfl (And.intro rfl (And.intro rfl (And.intro rfl (And.intro rfl (And.intro rfl (And.intro rfl (trivial))))))))))
              · have hw := hw.2 c50
                refine x_iconst (v := 0) C d_Mod_eachDeed_120 rfl ?_
                refine x_iload C d_Mod_eachDeed_121 rfl ?_
                refine x_iconst (v := 1) C d_Mod_eachDeed_123 rfl ?_
                refine x_isub C d_Mod_eachDeed_124 ?_
                refine x_callS (As := [.int 0, .int (x18 - 1)]) (rest := [.int x27, .ref (xa X 83)]) C (m_Mod_most (xg X) C.2.2.2.2.2.2.1 0 (x18 - 1) s26 _ hw) cw_Mod_most ml_Mod_66 rfl ⟨rfl, rfl, by simp only [rm_Mod_eachDeed, rm_Mod_most] <;> omega, by simp only [rm_Mod_eachDeed, rm_Mod_most] <;> omega⟩ ⟨Nat.zero_le _, Nat.zero_le _⟩ rfl (Nat.le_of_ble_eq_true rfl) d_Mod_eachDeed_125 ?_
                rintro _ _ ⟨x54, rfl, rfl, hw⟩
                show V X _ _ _ _ 128 [some (.ref (xa X 82)), some (.int x1), some (.int x2), some (.int x3), some (.int x4), some (.int x5), some (.int x6), some (.int x18), some (.int x20)] [.int x54, .int x27, .ref (xa X 83)]
                refine x_goto (tgt := 151) C d_Mod_eachDeed_128 (by decide) ?_
                exact x_wk (kJ30 x54 hw) (And.intro rfl (And.intro rfl (And.intro rfl (And.intro rfl (And.intro rfl (And.intro rfl (And.intro rfl (And.intro rfl (And.intro rfl (trivial))))))))))
        exact x_wk (lI22 n23 0 s hn23) (And.intro rfl (And.intro rfl (And.intro rfl (And.intro rfl (And.intro rfl (And.intro rfl (And.intro rfl (And.intro rfl (And.intro rfl (trivial))))))))))
      · have hw := hw.2 c17
        exact x_return C d_Mod_eachDeed_79 ⟨rfl, hw⟩
    · have hw := hw.2 c16
      refine x_iload C d_Mod_eachDeed_22 rfl ?_
      refine x_aload_n C d_Mod_eachDeed_24 rfl ?_
      refine g_Mod_28 (p := 82) C rfl fl_Mod_229 d_Mod_eachDeed_25 ?_
      refine x_icmp_lt (tgt := 32) C d_Mod_eachDeed_28 (by decide) (fun c56 => ?_) (fun c56 => ?_)
      · have hw := hw.1 c56
        refine x_aload_n C d_Mod_eachDeed_32 rfl ?_
        refine x_iload C d_Mod_eachDeed_33 rfl ?_
        refine p_Mod_28 (p := 82) C rfl fl_Mod_229 d_Mod_eachDeed_35 ?_
        refine x_st (fun s57 hs57 => ?_)
        have hw := hw s57 hs57
        refine x_aload_n C d_Mod_eachDeed_38 rfl ?_
        refine x_iload_n C d_Mod_eachDeed_39 rfl ?_
        refine p_Mod_29 (p := 82) C rfl fl_Mod_232 d_Mod_eachDeed_40 ?_
        refine x_st (fun s58 hs58 => ?_)
        have hw := hw s58 hs58
        refine x_iconst (v := 0) C d_Mod_eachDeed_43 rfl ?_
        refine x_istore (L' := [some (.ref (xa X 82)), some (.int x1), some (.int x2), some (.int x3), some (.int x4), some (.int x5), some (.int x6), some (.int 0), none]) C d_Mod_eachDeed_44 (Nat.le_of_ble_eq_true rfl) rfl ?_
        obtain ⟨I61, ⟨n62, hn62⟩, hI61⟩ := hw
        have lI61 : ∀ (nI61 : Nat) (x59 : Int32) (s60 : St), I61 nI61 x59 s60 → V X (xQ X (fun v s' => v = none ∧ Q s')) 0 0 s60 46 [some (.ref (xa X 82)), some (.int x1), some (.int x2), some (.int x3), some (.int x4), some (.int x5), some (.int x6), some (.int x59), none] [] := by
          intro nI61
          induction nI61 using Nat.strongRecOn with
          | ind nI61 ihI61 =>
            intro x59 s60 hv
            have hw := hI61 nI61 x59 s60 hv
            refine x_iload C d_Mod_eachDeed_46 rfl ?_
            refine x_iload_n C d_Mod_eachDeed_48 rfl ?_
            refine x_icmp_ge (tgt := 72) C d_Mod_eachDeed_49 (by decide) (fun c63 => ?_) (fun c63 => ?_)
            · have hw := hw.1 c63
              exact x_return C d_Mod_eachDeed_72 ⟨rfl, hw⟩
            · have hw := hw.2 c63
              refine x_aload_n C d_Mod_eachDeed_52 rfl ?_
              refine g_Mod_27 (p := 82) C rfl fl_Mod_34 d_Mod_eachDeed_53 ?_
              refine x_iload C d_Mod_eachDeed_56 rfl ?_
              refine x_aload_n C d_Mod_eachDeed_58 rfl ?_
              refine g_Mod_26 (p := 82) C rfl fl_Mod_31 d_Mod_eachDeed_59 ?_
              refine x_iload C d_Mod_eachDeed_62 rfl ?_
              obtain ⟨h64, hw⟩ := hw
              refine x_iald (p := 90) (n := 6) C rfl h64 d_Mod_eachDeed_64 ?_
              obtain ⟨h65, hw⟩ := hw
              refine x_iast (p := 91) (n := 6) C rfl h65 d_Mod_eachDeed_65 ?_
              refine x_st (fun s66 hs66 => ?_)
              have hw := hw s66 hs66
              obtain ⟨x67, hx67⟩ : ∃ z : Int32, z = x59 + 1 := ⟨_, rfl⟩
              refine x_iinc (v := x67) (L' := [some (.ref (xa X 82)), some (.int x1), some (.int x2), some (.int x3), some (.int x4), some (.int x5), some (.int x6), some (.int x67), none]) C d_Mod_eachDeed_66 (Nat.le_of_ble_eq_true rfl) rfl (by rw [hx67]; rfl) rfl ?_
              have hw := hw x67 hx67
              refine x_goto (tgt := 46) C d_Mod_eachDeed_69 (by decide) ?_
              obtain ⟨m68, hm68, hw⟩ := hw
              exact x_wk (ihI61 m68 hm68 x67 s66 hw) (And.intro rfl (And.intro rfl (And.intro rfl (And.intro rfl (And.intro rfl (And.intro rfl (And.intro rfl (And.intro rfl (trivial)))))))))
        exact x_wk (lI61 n62 0 s58 hn62) (And.intro rfl (And.intro rfl (And.intro rfl (And.intro rfl (And.intro rfl (And.intro rfl (And.intro rfl (And.intro rfl (trivial)))))))))
      · have hw := hw.2 c56
        exact x_return C d_Mod_eachDeed_31 ⟨rfl, hw⟩
def vc_Mod_rescue (x1 : Int32) (x2 : Int32) (x3 : Int32) (x4 : Int32) (s : St) (Q : Int32 → St → Prop) : Prop :=
    vc_Mod_isBody x1 s (fun b10 => (((bi b10) = 0 → Q (-1) s) ∧ (¬ (bi b10) = 0 → vc_Mod_isYard x2 s (fun b13 => (((bi b13) = 0 → Q (-1) s) ∧ (¬ (bi b13) = 0 → vc_Mod_isIn x3 0 6 (fun b16 => (((bi b16) = 0 → Q (-1) s) ∧ (¬ (bi b16) = 0 → (((-1) ≤ x4 → vc_Mod_hour  s (fun x20 => vc_Mod_fitsIn x1 x2 x20 s (fun x22 => ((2 ≤ x22 → (∀ s25 : St, s25 = wr s 82 30 0 → (vp_in 1 78 ∧ (∃ J28 : Int32 → Prop, (∀ (x27 : Int32), J28 x27 → (∀ s29 : St, s29 = wr s25 82 31 x27 → (∃ I32 : Nat → Int32 → St → Prop, (∃ n33, I32 n33 0 s29) ∧ ∀ (nI32 : Nat) (x30 : Int32) (s31 : St), I32 nI32 x30 s31 → (vp_in 1 78 ∧ (((s31 83 (Int32.toNatClampNeg 1)) ≤ x30 → (∀ s36 : St, s36 = wr s31 82 28 1000000000 → (∀ s37 : St, s37 = wr s36 82 29 0 → vc_Mod_eachDeed 8 x1 x2 0 x3 0 0 s37 (fun s38 => ((¬ (s38 82 28) = 1000000000 → ((0 ≤ x4 → (((s38 82 29) ≤ x4 → Q (-4) s38) ∧ (¬ (s38 82 29) ≤ x4 → (vp_in x4 6 ∧ Q (s38 91 (Int32.toNatClampNeg x4)) s38)))) ∧ (¬ 0 ≤ x4 → Q (s38 82 28) s38))) ∧ ((s38 82 28) = 1000000000 → Q (-4) s38)))))) ∧ (¬ (s31 83 (Int32.toNatClampNeg 1)) ≤ x30 → (∃ J44 : St → Prop, (∀ (s43 : St), J44 s43 → (∀ x45 : Int32, x45 = x30 + 1 → ∃ m46, m46 < nI32 ∧ I32 m46 x45 s43)) ∧ ((¬ x30 = x1 → vc_Mod_of x30 3 s31 (fun x48 => vc_Mod_most (s31 82 30) x48 (fun x50 => (∀ s52 : St, s52 = wr s31 82 30 x50 → vc_Mod_of x30 3 s52 (fun x53 => vc_Mod_least (s52 82 31) x53 (fun x55 => (∀ s57 : St, s57 = wr s52 82 31 x55 → J44 s57))))))) ∧ (x30 = x1 → J44 s31))))))))) ∧ (((s25 83 (Int32.toNatClampNeg 1)) ≤ 1 → J28 0) ∧ (¬ (s25 83 (Int32.toNatClampNeg 1)) ≤ 1 → J28 9)))))) ∧ (¬ 2 ≤ x22 → Q (-3) s))))) ∧ (¬ (-1) ≤ x4 → Q (-1) s)))))))))))
def rm_Mod_rescue : Room := { frames := 13, cells := 0, slots := 0, locals := 344 }
set_option maxHeartbeats 4000000 in
set_option maxRecDepth 20000 in
theorem m_Mod_rescue (g : Gx) (hg : gOk g) (x1 : Int32) (x2 : Int32) (x3 : Int32) (x4 : Int32)  (s : St) (Q : Int32 → St → Prop) (hw : vc_Mod_rescue x1 x2 x3 x4 s Q) : Mc g y_Mod_rescue b_Mod_rescue 6 (some FieldType.int) rm_Mod_rescue [.ref (ga g 82), .int x1, .int x2, .int x3, .int x4] s (fun v s' => ∃ r : Int32, v = some (.int r) ∧ Q r s') := by
  refine mc_ofV (j := 1) (L := [some (.ref (ga g 82)), some (.int x1), some (.int x2), some (.int x3), some (.int x4), none]) hg (by decide) (Nat.le_of_ble_eq_true rfl) rfl ?_
  intro X hX C
  subst hX
  unfold vc_Mod_rescue at hw
  refine x_aload_n C d_Mod_rescue_0 rfl ?_
  refine x_iload_n C d_Mod_rescue_1 rfl ?_
  refine x_callV (As := [.int x1]) (rest := []) (p := 82) C (m_Mod_isBody (xg X) C.2.2.2.2.2.2.1 x1 s _ hw) cw_Mod_isBody ml_Mod_179 rfl (by decide) (by decide) rfl rfl rfl ⟨rfl, rfl, Nat.le_of_ble_eq_true rfl, Nat.le_of_ble_eq_true rfl⟩ ⟨Nat.zero_le _, Nat.zero_le _⟩ rfl (Nat.le_of_ble_eq_true rfl) d_Mod_rescue_2 ?_
  rintro _ _ ⟨b10, rfl, rfl, hw⟩
  show V X _ _ _ _ 5 [some (.ref (xa X 82)), some (.int x1), some (.int x2), some (.int x3), some (.int x4), none] [.int (bi b10)]
  refine x_if_eq (tgt := 32) C d_Mod_rescue_5 (by decide) (fun c12 => ?_) (fun c12 => ?_)
  · have hw := hw.1 c12
    refine x_iconst (v := (-1)) C d_Mod_rescue_32 rfl ?_
    exact x_ireturn C d_Mod_rescue_33 ⟨_, rfl, hw⟩
  · have hw := hw.2 c12
    refine x_aload_n C d_Mod_rescue_8 rfl ?_
    refine x_iload_n C d_Mod_rescue_9 rfl ?_
    refine x_callV (As := [.int x2]) (rest := []) (p := 82) C (m_Mod_isYard (xg X) C.2.2.2.2.2.2.1 x2 s _ hw) cw_Mod_isYard ml_Mod_200 rfl (by decide) (by decide) rfl rfl rfl ⟨rfl, rfl, Nat.le_of_ble_eq_true rfl, Nat.le_of_ble_eq_true rfl⟩ ⟨Nat.zero_le _, Nat.zero_le _⟩ rfl (Nat.le_of_ble_eq_true rfl) d_Mod_rescue_10 ?_
    rintro _ _ ⟨b13, rfl, rfl, hw⟩
    show V X _ _ _ _ 13 [some (.ref (xa X 82)), some (.int x1), some (.int x2), some (.int x3), some (.int x4), none] [.int (bi b13)]
    refine x_if_eq (tgt := 32) C d_Mod_rescue_13 (by decide) (fun c15 => ?_) (fun c15 => ?_)
    · have hw := hw.1 c15
      refine x_iconst (v := (-1)) C d_Mod_rescue_32 rfl ?_
      exact x_ireturn C d_Mod_rescue_33 ⟨_, rfl, hw⟩
    · have hw := hw.2 c15
      refine x_iload_n C d_Mod_rescue_16 rfl ?_
      refine x_iconst (v := 0) C d_Mod_rescue_17 rfl ?_
      refine x_bipush (v := 6) C d_Mod_rescue_18 rfl ?_
      refine x_callS (As := [.int x3, .int 0, .int 6]) (rest := []) C (m_Mod_isIn (xg X) C.2.2.2.2.2.2.1 x3 0 6 s _ hw) cw_Mod_isIn ml_Mod_55 rfl ⟨rfl, rfl, Nat.le_of_ble_eq_true rfl, Nat.le_of_ble_eq_true rfl⟩ ⟨Nat.zero_le _, Nat.zero_le _⟩ rfl (Nat.le_of_ble_eq_true rfl) d_Mod_rescue_20 ?_
      rintro _ _ ⟨b16, rfl, rfl, hw⟩
      show V X _ _ _ _ 23 [some (.ref (xa X 82)), some (.int x1), some (.int x2), some (.int x3), some (.int x4), none] [.int (bi b16)]
      refine x_if_eq (tgt := 32) C d_Mod_rescue_23 (by decide) (fun c18 => ?_) (fun c18 => ?_)
      · have hw := hw.1 c18
        refine x_iconst (v := (-1)) C d_Mod_rescue_32 rfl ?_
        exact x_ireturn C d_Mod_rescue_33 ⟨_, rfl, hw⟩
      · have hw := hw.2 c18
        refine x_iload C d_Mod_rescue_26 rfl ?_
        refine x_iconst (v := (-1)) C d_Mod_rescue_28 rfl ?_
        refine x_icmp_ge (tgt := 34) C d_Mod_rescue_29 (by decide) (fun c19 => ?_) (fun c19 => ?_)
        · have hw := hw.1 c19
          refine x_aload_n C d_Mod_rescue_34 rfl ?_
          refine x_iload_n C d_Mod_rescue_35 rfl ?_
          refine x_iload_n C d_Mod_rescue_36 rfl ?_
          refine x_aload_n C d_Mod_rescue_37 rfl ?_
          refine x_callV (As := []) (rest := [.int x2, .int x1, .ref (xa X 82)]) (p := 82) C (m_Mod_hour (xg X) C.2.2.2.2.2.2.1  s _ hw) cw_Mod_hour ml_Mod_203 rfl (by decide) (by decide) rfl rfl rfl ⟨rfl, rfl, Nat.le_of_ble_eq_true rfl, Nat.le_of_ble_eq_true rfl⟩ ⟨Nat.zero_le _, Nat.zero_le _⟩ rfl (Nat.le_of_ble_eq_true rfl) d_Mod_rescue_38 ?_
          rintro _ _ ⟨x20, rfl, rfl, hw⟩
          show V X _ _ _ _ 41 [some (.ref (xa X 82)), some (.int x1), some (.int x2), some (.int x3), some (.int x4), none] [.int x20, .int x2, .int x1, .ref (xa X 82)]
          refine x_callV (As := [.int x1, .int x2, .int x20]) (rest := []) (p := 82) C (m_Mod_fitsIn (xg X) C.2.2.2.2.2.2.1 x1 x2 x20 s _ hw) cw_Mod_fitsIn ml_Mod_94 rfl (by decide) (by decide) rfl rfl rfl ⟨rfl, rfl, Nat.le_of_ble_eq_true rfl, Nat.le_of_ble_eq_true rfl⟩ ⟨Nat.zero_le _, Nat.zero_le _⟩ rfl (Nat.le_of_ble_eq_true rfl) d_Mod_rescue_41 ?_
          rintro _ _ ⟨x22, rfl, rfl, hw⟩
          show V X _ _ _ _ 44 [some (.ref (xa X 82)), some (.int x1), some (.int x2), some (.int x3), some (.int x4), none] [.int x22]
          refine x_iconst (v := 2) C d_Mod_rescue_44 rfl ?_
          refine x_icmp_ge (tgt := 51) C d_Mod_rescue_45 (by decide) (fun c24 => ?_) (fun c24 => ?_)
          · have hw := hw.1 c24
            refine x_aload_n C d_Mod_rescue_51 rfl ?_
            refine x_iconst (v := 0) C d_Mod_rescue_52 rfl ?_
            refine p_Mod_30 (p := 82) C rfl fl_Mod_238 d_Mod_rescue_53 ?_
            refine x_st (fun s25 hs25 => ?_)
            have hw := hw s25 hs25
            refine x_aload_n C d_Mod_rescue_56 rfl ?_
            refine x_aload_n C d_Mod_rescue_57 rfl ?_
            refine g_Mod_0 (p := 82) C rfl fl_Mod_9 d_Mod_rescue_58 ?_
            refine x_iconst (v := 1) C d_Mod_rescue_61 rfl ?_
            obtain ⟨h26, hw⟩ := hw
            refine x_iald (p := 83) (n := 78) C rfl h26 d_Mod_rescue_62 ?_
            refine x_iconst (v := 1) C d_Mod_rescue_63 rfl ?_
            obtain ⟨J28, hJ28, hw⟩ := hw
            have kJ28 : ∀ (x27 : Int32), J28 x27 → V X (xQ X (fun v s' => ∃ r : Int32, v = some (.int r) ∧ Q r s')) 0 0 s25 73 [some (.ref (xa X 82)), some (.int x1), some (.int x2), some (.int x3), some (.int x4), none] [.int x27, .ref (xa X 82)] := by
              intro x27 hv
              have hw := hJ28 x27 hv
              refine p_Mod_31 (p := 82) C rfl fl_Mod_241 d_Mod_rescue_73 ?_
              refine x_st (fun s29 hs29 => ?_)
              have hw := hw s29 hs29
              refine x_iconst (v := 0) C d_Mod_rescue_76 rfl ?_
              refine x_istore (L' := [some (.ref (xa X 82)), some (.int x1), some (.int x2), some (.int x3), some (.int x4), some (.int 0)]) C d_Mod_rescue_77 (Nat.le_of_ble_eq_true rfl) rfl ?_
              obtain ⟨I32, ⟨n33, hn33⟩, hI32⟩ := hw
              have lI32 : ∀ (nI32 : Nat) (x30 : Int32) (s31 : St), I32 nI32 x30 s31 → V X (xQ X (fun v s' => ∃ r : Int32, v = some (.int r) ∧ Q r s')) 0 0 s31 79 [some (.ref (xa X 82)), some (.int x1), some (.int x2), some (.int x3), some (.int x4), some (.int x30)] [] := by
                intro nI32
                induction nI32 using Nat.strongRecOn with
                | ind nI32 ihI32 =>
                  intro x30 s31 hv
                  have hw := hI32 nI32 x30 s31 hv
                  refine x_iload C d_Mod_rescue_79 rfl ?_
                  refine x_aload_n C d_Mod_rescue_81 rfl ?_
                  refine g_Mod_0 (p := 82) C rfl fl_Mod_9 d_Mod_rescue_82 ?_
                  refine x_iconst (v := 1) C d_Mod_rescue_85 rfl ?_
                  obtain ⟨h34, hw⟩ := hw
                  refine x_iald (p := 83) (n := 78) C rfl h34 d_Mod_rescue_86 ?_
                  refine x_icmp_ge (tgt := 141) C d_Mod_rescue_87 (by decide) (fun c35 => ?_) (fun c35 => ?_)
                  · have hw := hw.1 c35
                    refine x_aload_n C d_Mod_rescue_141 rfl ?_
                    refine x_ldc (v := 1000000000) C d_Mod_rescue_142 lc_Mod_216 ?_
                    refine p_Mod_28 (p := 82) C rfl fl_Mod_229 d_Mod_rescue_144 ?_
                    refine x_st (fun s36 hs36 => ?_)
                    have hw := hw s36 hs36
                    refine x_aload_n C d_Mod_rescue_147 rfl ?_
                    refine x_iconst (v := 0) C d_Mod_rescue_148 rfl ?_
                    refine p_Mod_29 (p := 82) C rfl fl_Mod_232 d_Mod_rescue_149 ?_
                    refine x_st (fun s37 hs37 => ?_)
                    have hw := hw s37 hs37
                    refine x_aload_n C d_Mod_rescue_152 rfl ?_
                    refine x_iload_n C d_Mod_rescue_153 rfl ?_
                    refine x_iload_n C d_Mod_rescue_154 rfl ?_
                    refine x_iconst (v := 0) C d_Mod_rescue_155 rfl ?_
                    refine x_iload_n C d_Mod_rescue_156 rfl ?_
                    refine x_iconst (v := 0) C d_Mod_rescue_157 rfl ?_
                    refine x_iconst (v := 0) C d_Mod_rescue_158 rfl ?_
                    refine x_callV (As := [.int x1, .int x2, .int 0, .int x3, .int 0, .int 0]) (rest := []) (p := 82) C (m_Mod_eachDeed (xg X) C.2.2.2.2.2.2.1 8 x1 x2 0 x3 0 0 s37 _ hw) cw_Mod_eachDeed ml_Mod_244 rfl (by decide) (by decide) rfl rfl rfl ⟨rfl, rfl, Nat.le_of_ble_eq_true rfl, Nat.le_of_ble_eq_true rfl⟩ ⟨Nat.zero_le _, Nat.zero_le _⟩ rfl (Nat.le_of_ble_eq_true rfl) d_Mod_rescue_159 ?_
                    rintro _ s38 ⟨rfl, hw⟩
                    show V X _ _ _ _ 162 [some (.ref (xa X 82)), some (.int x1), some (.int x2), some (.int x3), some (.int x4), some (.int x30)] []
                    refine x_aload_n C d_Mod_rescue_162 rfl ?_
                    refine g_Mod_28 (p := 82) C rfl fl_Mod_229 d_Mod_rescue_163 ?_
                    refine x_ldc (v := 1000000000) C d_Mod_rescue_166 lc_Mod_216 ?_
                    refine x_icmp_ne (tgt := 174) C d_Mod_rescue_168 (by decide) (fun c39 => ?_) (fun c39 => ?_)
                    · have hw := hw.1 c39
                      refine x_iload C d_Mod_rescue_174 rfl ?_
                      refine x_if_ge (tgt := 186) C d_Mod_rescue_176 (by decide) (fun c40 => ?_) (fun c40 => ?_)
                      · have hw := hw.1 c40
                        refine x_iload C d_Mod_rescue_186 rfl ?_
                        refine x_aload_n C d_Mod_rescue_188 rfl ?_
                        refine g_Mod_29 (p := 82) C rfl fl_Mod_232 d_Mod_rescue_189 ?_
                        refine x_icmp_ge (tgt := 205) C d_Mod_rescue_192 (by decide) (fun c41 => ?_) (fun c41 => ?_)
                        · have hw := hw.1 c41
                          refine x_bipush (v := (-4)) C d_Mod_rescue_205 rfl ?_
                          exact x_ireturn C d_Mod_rescue_207 ⟨_, rfl, hw⟩
                        · have hw := hw.2 c41
                          refine x_aload_n C d_Mod_rescue_195 rfl ?_
                          refine g_Mod_27 (p := 82) C rfl fl_Mod_34 d_Mod_rescue_196 ?_
                          refine x_iload C d_Mod_rescue_199 rfl ?_
                          obtain ⟨h42, hw⟩ := hw
                          refine x_iald (p := 91) (n := 6) C rfl h42 d_Mod_rescue_201 ?_
                          refine x_goto (tgt := 207) C d_Mod_rescue_202 (by decide) ?_
                          exact x_ireturn C d_Mod_rescue_207 ⟨_, rfl, hw⟩
                      · have hw := hw.2 c40
                        refine x_aload_n C d_Mod_rescue_179 rfl ?_
                        refine g_Mod_28 (p := 82) C rfl fl_Mod_229 d_Mod_rescue_180 ?_
                        refine x_goto (tgt := 207) C d_Mod_rescue_183 (by decide) ?_
                        exact x_ireturn C d_Mod_rescue_207 ⟨_, rfl, hw⟩
                    · have hw := hw.2 c39
                      refine x_bipush (v := (-4)) C d_Mod_rescue_171 rfl ?_
                      exact x_ireturn C d_Mod_rescue_173 ⟨_, rfl, hw⟩
                  · have hw := hw.2 c35
                    refine x_iload C d_Mod_rescue_90 rfl ?_
                    refine x_iload_n C d_Mod_rescue_92 rfl ?_
                    obtain ⟨J44, hJ44, hw⟩ := hw
                    have kJ44 : ∀ (s43 : St), J44 s43 → V X (xQ X (fun v s' => ∃ r : Int32, v = some (.int r) ∧ Q r s')) 0 0 s43 135 [some (.ref (xa X 82)), some (.int x1), some (.int x2), some (.int x3), some (.int x4), some (.int x30)] [] := by
                      intro s43 hv
                      have hw := hJ44 s43 hv
                      obtain ⟨x45, hx45⟩ : ∃ z : Int32, z = x30 + 1 := ⟨_, rfl⟩
                      refine x_iinc (v := x45) (L' := [some (.ref (xa X 82)), some (.int x1), some (.int x2), some (.int x3), some (.int x4), some (.int x45)]) C d_Mod_rescue_135 (Nat.le_of_ble_eq_true rfl) rfl (by rw [hx45]; rfl) rfl ?_
                      have hw := hw x45 hx45
                      refine x_goto (tgt := 79) C d_Mod_rescue_138 (by decide) ?_
                      obtain ⟨m46, hm46, hw⟩ := hw
                      exact x_wk (ihI32 m46 hm46 x45 s43 hw) (And.intro rfl (And.intro rfl (And.intro rfl (And.intro rfl (And.intro rfl (And.intro rfl (trivial)))))))
                    refine x_icmp_ne (tgt := 99) C d_Mod_rescue_93 (by decide) (fun c47 => ?_) (fun c47 => ?_)
                    · have hw := hw.1 c47
                      refine x_aload_n C d_Mod_rescue_99 rfl ?_
                      refine x_aload_n C d_Mod_rescue_100 rfl ?_
                      refine g_Mod_30 (p := 82) C rfl fl_Mod_238 d_Mod_rescue_101 ?_
                      refine x_aload_n C d_Mod_rescue_104 rfl ?_
                      refine x_iload C d_Mod_rescue_105 rfl ?_
                      refine x_iconst (v := 3) C d_Mod_rescue_107 rfl ?_
                      refine x_callV (As := [.int x30, .int 3]) (rest := [.int (s31 82 30), .ref (xa X 82)]) (p := 82) C (m_Mod_of (xg X) C.2.2.2.2.2.2.1 x30 3 s31 _ hw) cw_Mod_of ml_Mod_73 rfl (by decide) (by decide) rfl rfl rfl ⟨rfl, rfl, Nat.le_of_ble_eq_true rfl, Nat.le_of_ble_eq_true rfl⟩ ⟨Nat.zero_le _, Nat.zero_le _⟩ rfl (Nat.le_of_ble_eq_true rfl) d_Mod_rescue_108 ?_
                      rintro _ _ ⟨x48, rfl, rfl, hw⟩
                      show V X _ _ _ _ 111 [some (.ref (xa X 82)), some (.int x1), some (.int x2), some (.int x3), some (.int x4), some (.int x30)] [.int x48, .int (s31 82 30), .ref (xa X 82)]
                      refine x_callS (As := [.int (s31 82 30), .int x48]) (rest := [.ref (xa X 82)]) C (m_Mod_most (xg X) C.2.2.2.2.2.2.1 (s31 82 30) x48 s31 _ hw) cw_Mod_most ml_Mod_66 rfl ⟨rfl, rfl, Nat.le_of_ble_eq_true rfl, Nat.le_of_ble_eq_true rfl⟩ ⟨Nat.zero_le _, Nat.zero_le _⟩ rfl (Nat.le_of_ble_eq_true rfl) d_Mod_rescue_111 ?_
                      rintro _ _ ⟨x50, rfl, rfl, hw⟩
                      show V X _ _ _ _ 114 [some (.ref (xa X 82)), some (.int x1), some (.int x2), some (.int x3), some (.int x4), some (.int x30)] [.int x50, .ref (xa X 82)]
                      refine p_Mod_30 (p := 82) C rfl fl_Mod_238 d_Mod_rescue_114 ?_
                      refine x_st (fun s52 hs52 => ?_)
                      have hw := hw s52 hs52
                      refine x_aload_n C d_Mod_rescue_117 rfl ?_
                      refine x_aload_n C d_Mod_rescue_118 rfl ?_
                      refine g_Mod_31 (p := 82) C rfl fl_Mod_241 d_Mod_rescue_119 ?_
                      refine x_aload_n C d_Mod_rescue_122 rfl ?_
                      refine x_iload C d_Mod_rescue_123 rfl ?_
                      refine x_iconst (v := 3) C d_Mod_rescue_125 rfl ?_
                      refine x_callV (As := [.int x30, .int 3]) (rest := [.int (s52 82 31), .ref (xa X 82)]) (p := 82) C (m_Mod_of (xg X) C.2.2.2.2.2.2.1 x30 3 s52 _ hw) cw_Mod_of ml_Mod_73 rfl (by decide) (by decide) rfl rfl rfl ⟨rfl, rfl, Nat.le_of_ble_eq_true rfl, Nat.le_of_ble_eq_true rfl⟩ ⟨Nat.zero_le _, Nat.zero_le _⟩ rfl (Nat.le_of_ble_eq_true rfl) d_Mod_rescue_126 ?_
                      rintro _ _ ⟨x53, rfl, rfl, hw⟩
                      show V X _ _ _ _ 129 [some (.ref (xa X 82)), some (.int x1), some (.int x2), some (.int x3), some (.int x4), some (.int x30)] [.int x53, .int (s52 82 31), .ref (xa X 82)]
                      refine x_callS (As := [.int (s52 82 31), .int x53]) (rest := [.ref (xa X 82)]) C (m_Mod_least (xg X) C.2.2.2.2.2.2.1 (s52 82 31) x53 s52 _ hw) cw_Mod_least ml_Mod_235 rfl ⟨rfl, rfl, Nat.le_of_ble_eq_true rfl, Nat.le_of_ble_eq_true rfl⟩ ⟨Nat.zero_le _, Nat.zero_le _⟩ rfl (Nat.le_of_ble_eq_true rfl) d_Mod_rescue_129 ?_
                      rintro _ _ ⟨x55, rfl, rfl, hw⟩
                      show V X _ _ _ _ 132 [some (.ref (xa X 82)), some (.int x1), some (.int x2), some (.int x3), some (.int x4), some (.int x30)] [.int x55, .ref (xa X 82)]
                      refine p_Mod_31 (p := 82) C rfl fl_Mod_241 d_Mod_rescue_132 ?_
                      refine x_st (fun s57 hs57 => ?_)
                      have hw := hw s57 hs57
                      exact x_wk (kJ44 s57 hw) (And.intro rfl (And.intro rfl (And.intro rfl (And.intro rfl (And.intro rfl (And.intro rfl (trivial)))))))
                    · have hw := hw.2 c47
                      refine x_goto (tgt := 135) C d_Mod_rescue_96 (by decide) ?_
                      exact x_wk (kJ44 s31 hw) (And.intro rfl (And.intro rfl (And.intro rfl (And.intro rfl (And.intro rfl (And.intro rfl (trivial)))))))
              exact x_wk (lI32 n33 0 s29 hn33) (And.intro rfl (And.intro rfl (And.intro rfl (And.intro rfl (And.intro rfl (And.intro rfl (trivial)))))))
            refine x_icmp_le (tgt := 72) C d_Mod_rescue_64 (by decide) (fun c58 => ?_) (fun c58 => ?_)
            · have hw := hw.1 c58
              refine x_iconst (v := 0) C d_Mod_rescue_72 rfl ?_
              exact x_wk (kJ28 0 hw) (And.intro rfl (And.intro rfl (And.intro rfl (And.intro rfl (And.intro rfl (trivial))))))
            · have hw := hw.2 c58
              refine x_bipush (v := 9) C d_Mod_rescue_67 rfl ?_
              refine x_goto (tgt := 73) C d_Mod_rescue_69 (by decide) ?_
              exact x_wk (kJ28 9 hw) (And.intro rfl (And.intro rfl (And.intro rfl (And.intro rfl (And.intro rfl (trivial))))))
          · have hw := hw.2 c24
            refine x_bipush (v := (-3)) C d_Mod_rescue_48 rfl ?_
            exact x_ireturn C d_Mod_rescue_50 ⟨_, rfl, hw⟩
        · have hw := hw.2 c19
          refine x_iconst (v := (-1)) C d_Mod_rescue_32 rfl ?_
          exact x_ireturn C d_Mod_rescue_33 ⟨_, rfl, hw⟩
def vc_Mod_turns  (s : St) (Q : Int32 → St → Prop) : Prop :=
    (vp_in 2 78 ∧ (∀ x11 : Int32, x11 = s 83 (Int32.toNatClampNeg 2) → (∀ s12 : St, s12 = wr s 82 7 0 → (∃ I16 : Nat → Int32 → Int32 → St → Prop, (∃ n17, I16 n17 (-4) 0 s12) ∧ ∀ (nI16 : Nat) (x13 : Int32) (x14 : Int32) (s15 : St), I16 nI16 x13 x14 s15 → ((600 < x14 → (vp_in 2 78 ∧ (∀ s20 : St, s20 = wr s15 83 (Int32.toNatClampNeg 2) x11 → Q x13 s20))) ∧ (¬ 600 < x14 → (vp_in 2 78 ∧ (∀ s22 : St, s22 = wr s15 83 (Int32.toNatClampNeg 2) (x11 + x14) → vc_Mod_areAllBack  s22 (fun b23 s24 => (∃ J26 : Int32 → Prop, (∀ (x25 : Int32), J26 x25 → (∀ x27 : Int32, x27 = x14 + 1 → ∃ m28, m28 < nI16 ∧ I16 m28 x25 x27 s24)) ∧ (((bi b23) = 0 → J26 x13) ∧ (¬ (bi b23) = 0 → (vp_in 5 78 ∧ (((s24 83 (Int32.toNatClampNeg 5)) < (s24 82 15) → J26 x13) ∧ (¬ (s24 83 (Int32.toNatClampNeg 5)) < (s24 82 15) → J26 x14)))))))))))))))
def rm_Mod_turns : Room := { frames := 9, cells := 0, slots := 0, locals := 205 }
set_option maxHeartbeats 4000000 in
set_option maxRecDepth 20000 in
theorem m_Mod_turns (g : Gx) (hg : gOk g)   (s : St) (Q : Int32 → St → Prop) (hw : vc_Mod_turns  s Q) : Mc g y_Mod_turns b_Mod_turns 4 (some FieldType.int) rm_Mod_turns [.ref (ga g 82)] s (fun v s' => ∃ r : Int32, v = some (.int r) ∧ Q r s') := by
  refine mc_ofV (j := 3) (L := [some (.ref (ga g 82)), none, none, none]) hg (by decide) (Nat.le_of_ble_eq_true rfl) rfl ?_
  intro X hX C
  subst hX
  unfold vc_Mod_turns at hw
  refine x_aload_n C d_Mod_turns_0 rfl ?_
  refine g_Mod_0 (p := 82) C rfl fl_Mod_9 d_Mod_turns_1 ?_
  refine x_iconst (v := 2) C d_Mod_turns_4 rfl ?_
  obtain ⟨h10, hw⟩ := hw
  refine x_iald (p := 83) (n := 78) C rfl h10 d_Mod_turns_5 ?_
  refine x_nm (fun x11 hx11 => ?_)
  have hw := hw x11 hx11
  refine x_istore_n (L' := [some (.ref (xa X 82)), some (.int x11), none, none]) C d_Mod_turns_6 (Nat.le_of_ble_eq_true rfl) rfl ?_
  refine x_bipush (v := (-4)) C d_Mod_turns_7 rfl ?_
  refine x_istore_n (L' := [some (.ref (xa X 82)), some (.int x11), some (.int (-4)), none]) C d_Mod_turns_9 (Nat.le_of_ble_eq_true rfl) rfl ?_
  refine x_aload_n C d_Mod_turns_10 rfl ?_
  refine x_iconst (v := 0) C d_Mod_turns_11 rfl ?_
  refine p_Mod_7 (p := 82) C rfl fl_Mod_112 d_Mod_turns_12 ?_
  refine x_st (fun s12 hs12 => ?_)
  have hw := hw s12 hs12
  refine x_iconst (v := 0) C d_Mod_turns_15 rfl ?_
  refine x_istore_n (L' := [some (.ref (xa X 82)), some (.int x11), some (.int (-4)), some (.int 0)]) C d_Mod_turns_16 (Nat.le_of_ble_eq_true rfl) rfl ?_
  obtain ⟨I16, ⟨n17, hn17⟩, hI16⟩ := hw
  have lI16 : ∀ (nI16 : Nat) (x13 : Int32) (x14 : Int32) (s15 : St), I16 nI16 x13 x14 s15 → V X (xQ X (fun v s' => ∃ r : Int32, v = some (.int r) ∧ Q r s')) 0 0 s15 17 [some (.ref (xa X 82)), some (.int x11), some (.int x13), some (.int x14)] [] := by
    intro nI16
    induction nI16 using Nat.strongRecOn with
    | ind nI16 ihI16 =>
      intro x13 x14 s15 hv
      have hw := hI16 nI16 x13 x14 s15 hv
      refine x_iload_n C d_Mod_turns_17 rfl ?_
      refine x_sipush (v := 600) C d_Mod_turns_18 rfl ?_
      refine x_icmp_gt (tgt := 61) C d_Mod_turns_21 (by decide) (fun c18 => ?_) (fun c18 => ?_)
      · have hw := hw.1 c18
        refine x_aload_n C d_Mod_turns_61 rfl ?_
        refine g_Mod_0 (p := 82) C rfl fl_Mod_9 d_Mod_turns_62 ?_
        refine x_iconst (v := 2) C d_Mod_turns_65 rfl ?_
        refine x_iload_n C d_Mod_turns_66 rfl ?_
        obtain ⟨h19, hw⟩ := hw
        refine x_iast (p := 83) (n := 78) C rfl h19 d_Mod_turns_67 ?_
        refine x_st (fun s20 hs20 => ?_)
        have hw := hw s20 hs20
        refine x_iload_n C d_Mod_turns_68 rfl ?_
        exact x_ireturn C d_Mod_turns_69 ⟨_, rfl, hw⟩
      · have hw := hw.2 c18
        refine x_aload_n C d_Mod_turns_24 rfl ?_
        refine g_Mod_0 (p := 82) C rfl fl_Mod_9 d_Mod_turns_25 ?_
        refine x_iconst (v := 2) C d_Mod_turns_28 rfl ?_
        refine x_iload_n C d_Mod_turns_29 rfl ?_
        refine x_iload_n C d_Mod_turns_30 rfl ?_
        refine x_iadd C d_Mod_turns_31 ?_
        obtain ⟨h21, hw⟩ := hw
        refine x_iast (p := 83) (n := 78) C rfl h21 d_Mod_turns_32 ?_
        refine x_st (fun s22 hs22 => ?_)
        have hw := hw s22 hs22
        refine x_aload_n C d_Mod_turns_33 rfl ?_
        refine x_callV (As := []) (rest := []) (p := 82) C (m_Mod_areAllBack (xg X) C.2.2.2.2.2.2.1  s22 _ hw) cw_Mod_areAllBack ml_Mod_226 rfl (by decide) (by decide) rfl rfl rfl ⟨rfl, rfl, Nat.le_of_ble_eq_true rfl, Nat.le_of_ble_eq_true rfl⟩ ⟨Nat.zero_le _, Nat.zero_le _⟩ rfl (Nat.le_of_ble_eq_true rfl) d_Mod_turns_34 ?_
        rintro _ s24 ⟨b23, rfl, hw⟩
        show V X _ _ _ _ 37 [some (.ref (xa X 82)), some (.int x11), some (.int x13), some (.int x14)] [.int (bi b23)]
        obtain ⟨J26, hJ26, hw⟩ := hw
        have kJ26 : ∀ (x25 : Int32), J26 x25 → V X (xQ X (fun v s' => ∃ r : Int32, v = some (.int r) ∧ Q r s')) 0 0 s24 55 [some (.ref (xa X 82)), some (.int x11), some (.int x25), some (.int x14)] [] := by
          intro x25 hv
          have hw := hJ26 x25 hv
          obtain ⟨x27, hx27⟩ : ∃ z : Int32, z = x14 + 1 := ⟨_, rfl⟩
          refine x_iinc (v := x27) (L' := [some (.ref (xa X 82)), some (.int x11), some (.int x25), some (.int x27)]) C d_Mod_turns_55 (Nat.le_of_ble_eq_true rfl) rfl (by rw [hx27]; rfl) rfl ?_
          have hw := hw x27 hx27
          refine x_goto (tgt := 17) C d_Mod_turns_58 (by decide) ?_
          obtain ⟨m28, hm28, hw⟩ := hw
          exact x_wk (ihI16 m28 hm28 x25 x27 s24 hw) (And.intro rfl (And.intro rfl (And.intro rfl (And.intro rfl (trivial)))))
        refine x_if_eq (tgt := 55) C d_Mod_turns_37 (by decide) (fun c29 => ?_) (fun c29 => ?_)
        · have hw := hw.1 c29
          exact x_wk (kJ26 x13 hw) (And.intro rfl (And.intro rfl (And.intro rfl (And.intro rfl (trivial)))))
        · have hw := hw.2 c29
          refine x_aload_n C d_Mod_turns_40 rfl ?_
          refine g_Mod_15 (p := 82) C rfl fl_Mod_145 d_Mod_turns_41 ?_
          refine x_aload_n C d_Mod_turns_44 rfl ?_
          refine g_Mod_0 (p := 82) C rfl fl_Mod_9 d_Mod_turns_45 ?_
          refine x_iconst (v := 5) C d_Mod_turns_48 rfl ?_
          obtain ⟨h30, hw⟩ := hw
          refine x_iald (p := 83) (n := 78) C rfl h30 d_Mod_turns_49 ?_
          refine x_icmp_gt (tgt := 55) C d_Mod_turns_50 (by decide) (fun c31 => ?_) (fun c31 => ?_)
          · have hw := hw.1 c31
            exact x_wk (kJ26 x13 hw) (And.intro rfl (And.intro rfl (And.intro rfl (And.intro rfl (trivial)))))
          · have hw := hw.2 c31
            refine x_iload_n C d_Mod_turns_53 rfl ?_
            refine x_istore_n (L' := [some (.ref (xa X 82)), some (.int x11), some (.int x14), some (.int x14)]) C d_Mod_turns_54 (Nat.le_of_ble_eq_true rfl) rfl ?_
            exact x_wk (kJ26 x14 hw) (And.intro rfl (And.intro rfl (And.intro rfl (And.intro rfl (trivial)))))
  exact x_wk (lI16 n17 (-4) 0 s12 hn17) (And.intro rfl (And.intro rfl (And.intro rfl (And.intro rfl (trivial)))))
def vc_Mod_floods (x1 : Int32) (x2 : Int32) (s : St) (Q : Int32 → Prop) : Prop :=
    vc_Mod_isBody x1 s (fun b10 => (((bi b10) = 0 → Q (-1)) ∧ (¬ (bi b10) = 0 → vc_Mod_isYard x2 s (fun b13 => ((¬ (bi b13) = 0 → (∃ I18 : Nat → Int32 → Int32 → Prop, (∃ n19, I18 n19 (-4) 99) ∧ ∀ (nI18 : Nat) (x16 : Int32) (x17 : Int32), I18 nI18 x16 x17 → ((x17 < 0 → Q x16) ∧ (¬ x17 < 0 → vc_Mod_sizeNow x1 x2 1 s (fun x21 => vc_Mod_roomOf x2 x17 s (fun x23 => ((x21 ≤ x23 → Q x16) ∧ (¬ x21 ≤ x23 → (∀ x26 : Int32, x26 = x17 + (-1) → ∃ m27, m27 < nI18 ∧ I18 m27 x17 x26))))))))) ∧ ((bi b13) = 0 → Q (-1)))))))
def rm_Mod_floods : Room := { frames := 4, cells := 0, slots := 0, locals := 92 }
set_option maxHeartbeats 4000000 in
set_option maxRecDepth 20000 in
theorem m_Mod_floods (g : Gx) (hg : gOk g) (x1 : Int32) (x2 : Int32)  (s : St) (Q : Int32 → Prop) (hw : vc_Mod_floods x1 x2 s Q) : Mc g y_Mod_floods b_Mod_floods 5 (some FieldType.int) rm_Mod_floods [.ref (ga g 82), .int x1, .int x2] s (fun v s' => ∃ r : Int32, v = some (.int r) ∧ s = s' ∧ Q r) := by
  refine mc_ofV (j := 2) (L := [some (.ref (ga g 82)), some (.int x1), some (.int x2), none, none]) hg (by decide) (Nat.le_of_ble_eq_true rfl) rfl ?_
  intro X hX C
  subst hX
  unfold vc_Mod_floods at hw
  refine x_aload_n C d_Mod_floods_0 rfl ?_
  refine x_iload_n C d_Mod_floods_1 rfl ?_
  refine x_callV (As := [.int x1]) (rest := []) (p := 82) C (m_Mod_isBody (xg X) C.2.2.2.2.2.2.1 x1 s _ hw) cw_Mod_isBody ml_Mod_179 rfl (by decide) (by decide) rfl rfl rfl ⟨rfl, rfl, Nat.le_of_ble_eq_true rfl, Nat.le_of_ble_eq_true rfl⟩ ⟨Nat.zero_le _, Nat.zero_le _⟩ rfl (Nat.le_of_ble_eq_true rfl) d_Mod_floods_2 ?_
  rintro _ _ ⟨b10, rfl, rfl, hw⟩
  show V X _ _ _ _ 5 [some (.ref (xa X 82)), some (.int x1), some (.int x2), none, none] [.int (bi b10)]
  refine x_if_eq (tgt := 16) C d_Mod_floods_5 (by decide) (fun c12 => ?_) (fun c12 => ?_)
  · have hw := hw.1 c12
    refine x_iconst (v := (-1)) C d_Mod_floods_16 rfl ?_
    exact x_ireturn C d_Mod_floods_17 ⟨_, rfl, rfl, hw⟩
  · have hw := hw.2 c12
    refine x_aload_n C d_Mod_floods_8 rfl ?_
    refine x_iload_n C d_Mod_floods_9 rfl ?_
    refine x_callV (As := [.int x2]) (rest := []) (p := 82) C (m_Mod_isYard (xg X) C.2.2.2.2.2.2.1 x2 s _ hw) cw_Mod_isYard ml_Mod_200 rfl (by decide) (by decide) rfl rfl rfl ⟨rfl, rfl, Nat.le_of_ble_eq_true rfl, Nat.le_of_ble_eq_true rfl⟩ ⟨Nat.zero_le _, Nat.zero_le _⟩ rfl (Nat.le_of_ble_eq_true rfl) d_Mod_floods_10 ?_
    rintro _ _ ⟨b13, rfl, rfl, hw⟩
    show V X _ _ _ _ 13 [some (.ref (xa X 82)), some (.int x1), some (.int x2), none, none] [.int (bi b13)]
    refine x_if_ne (tgt := 18) C d_Mod_floods_13 (by decide) (fun c15 => ?_) (fun c15 => ?_)
    · have hw := hw.1 c15
      refine x_bipush (v := (-4)) C d_Mod_floods_18 rfl ?_
      refine x_istore_n (L' := [some (.ref (xa X 82)), some (.int x1), some (.int x2), some (.int (-4)), none]) C d_Mod_floods_20 (Nat.le_of_ble_eq_true rfl) rfl ?_
      refine x_bipush (v := 99) C d_Mod_floods_21 rfl ?_
      refine x_istore (L' := [some (.ref (xa X 82)), some (.int x1), some (.int x2), some (.int (-4)), some (.int 99)]) C d_Mod_floods_23 (Nat.le_of_ble_eq_true rfl) rfl ?_
      obtain ⟨I18, ⟨n19, hn19⟩, hI18⟩ := hw
      have lI18 : ∀ (nI18 : Nat) (x16 : Int32) (x17 : Int32), I18 nI18 x16 x17 → V X (xQ X (fun v s' => ∃ r : Int32, v = some (.int r) ∧ s = s' ∧ Q r)) 0 0 s 25 [some (.ref (xa X 82)), some (.int x1), some (.int x2), some (.int x16), some (.int x17)] [] := by
        intro nI18
        induction nI18 using Nat.strongRecOn with
        | ind nI18 ihI18 =>
          intro x16 x17 hv
          have hw := hI18 nI18 x16 x17 hv
          refine x_iload C d_Mod_floods_25 rfl ?_
          refine x_if_lt (tgt := 56) C d_Mod_floods_27 (by decide) (fun c20 => ?_) (fun c20 => ?_)
          · have hw := hw.1 c20
            refine x_iload_n C d_Mod_floods_56 rfl ?_
            exact x_ireturn C d_Mod_floods_57 ⟨_, rfl, rfl, hw⟩
          · have hw := hw.2 c20
            refine x_aload_n C d_Mod_floods_30 rfl ?_
            refine x_iload_n C d_Mod_floods_31 rfl ?_
            refine x_iload_n C d_Mod_floods_32 rfl ?_
            refine x_iconst (v := 1) C d_Mod_floods_33 rfl ?_
            refine x_callV (As := [.int x1, .int x2, .int 1]) (rest := []) (p := 82) C (m_Mod_sizeNow (xg X) C.2.2.2.2.2.2.1 x1 x2 1 s _ hw) cw_Mod_sizeNow ml_Mod_80 rfl (by decide) (by decide) rfl rfl rfl ⟨rfl, rfl, Nat.le_of_ble_eq_true rfl, Nat.le_of_ble_eq_true rfl⟩ ⟨Nat.zero_le _, Nat.zero_le _⟩ rfl (Nat.le_of_ble_eq_true rfl) d_Mod_floods_34 ?_
            rintro _ _ ⟨x21, rfl, rfl, hw⟩
            show V X _ _ _ _ 37 [some (.ref (xa X 82)), some (.int x1), some (.int x2), some (.int x16), some (.int x17)] [.int x21]
            refine x_aload_n C d_Mod_floods_37 rfl ?_
            refine x_iload_n C d_Mod_floods_38 rfl ?_
            refine x_iload C d_Mod_floods_39 rfl ?_
            refine x_callV (As := [.int x2, .int x17]) (rest := [.int x21]) (p := 82) C (m_Mod_roomOf (xg X) C.2.2.2.2.2.2.1 x2 x17 s _ hw) cw_Mod_roomOf ml_Mod_84 rfl (by decide) (by decide) rfl rfl rfl ⟨rfl, rfl, Nat.le_of_ble_eq_true rfl, Nat.le_of_ble_eq_true rfl⟩ ⟨Nat.zero_le _, Nat.zero_le _⟩ rfl (Nat.le_of_ble_eq_true rfl) d_Mod_floods_41 ?_
            rintro _ _ ⟨x23, rfl, rfl, hw⟩
            show V X _ _ _ _ 44 [some (.ref (xa X 82)), some (.int x1), some (.int x2), some (.int x16), some (.int x17)] [.int x23, .int x21]
            refine x_icmp_le (tgt := 56) C d_Mod_floods_44 (by decide) (fun c25 => ?_) (fun c25 => ?_)
            · have hw := hw.1 c25
              refine x_iload_n C d_Mod_floods_56 rfl ?_
              exact x_ireturn C d_Mod_floods_57 ⟨_, rfl, rfl, hw⟩
            · have hw := hw.2 c25
              refine x_iload C d_Mod_floods_47 rfl ?_
              refine x_istore_n (L' := [some (.ref (xa X 82)), some (.int x1), some (.int x2), some (.int x17), some (.int x17)]) C d_Mod_floods_49 (Nat.le_of_ble_eq_true rfl) rfl ?_
              obtain ⟨x26, hx26⟩ : ∃ z : Int32, z = x17 + (-1) := ⟨_, rfl⟩
              refine x_iinc (v := x26) (L' := [some (.ref (xa X 82)), some (.int x1), some (.int x2), some (.int x17), some (.int x26)]) C d_Mod_floods_50 (Nat.le_of_ble_eq_true rfl) rfl (by rw [hx26]; rfl) rfl ?_
              have hw := hw x26 hx26
              refine x_goto (tgt := 25) C d_Mod_floods_53 (by decide) ?_
              obtain ⟨m27, hm27, hw⟩ := hw
              exact x_wk (ihI18 m27 hm27 x17 x26 hw) (And.intro rfl (And.intro rfl (And.intro rfl (And.intro rfl (And.intro rfl (trivial))))))
      exact x_wk (lI18 n19 (-4) 99 hn19) (And.intro rfl (And.intro rfl (And.intro rfl (And.intro rfl (And.intro rfl (trivial))))))
    · have hw := hw.2 c15
      refine x_iconst (v := (-1)) C d_Mod_floods_16 rfl ?_
      exact x_ireturn C d_Mod_floods_17 ⟨_, rfl, rfl, hw⟩
def vc_Mod_haste  (s : St) (Q : Int32 → St → Prop) : Prop :=
    (∀ s10 : St, s10 = wr s 82 7 0 → vc_Mod_goesThereAndBack  s10 (fun s11 => (∀ x12 : Int32, x12 = s11 82 15 → vc_Mod_copies 83 78 85 78 s11 (fun s13 => (∃ I16 : Nat → Int32 → St → Prop, (∃ n17, I16 n17 0 s13) ∧ ∀ (nI16 : Nat) (x14 : Int32) (s15 : St), I16 nI16 x14 s15 → (vp_in 1 78 ∧ (((s15 83 (Int32.toNatClampNeg 1)) ≤ x14 → vc_Mod_goesThereAndBack  s15 (fun s20 => vc_Mod_copies 85 78 83 78 s20 (fun s21 => vc_Mod_most 0 (x12 - (s21 82 15)) (fun x22 => Q x22 s21)))) ∧ (¬ (s15 83 (Int32.toNatClampNeg 1)) ≤ x14 → vc_Mod_atBody x14 2 (fun x24 => (vp_in x24 78 ∧ (∀ s27 : St, s27 = wr s15 83 (Int32.toNatClampNeg x24) 0 → (∀ x28 : Int32, x28 = x14 + 1 → ∃ m29, m29 < nI16 ∧ I16 m29 x28 s27))))))))))))
def rm_Mod_haste : Room := { frames := 8, cells := 0, slots := 0, locals := 185 }
set_option maxHeartbeats 4000000 in
set_option maxRecDepth 20000 in
theorem m_Mod_haste (g : Gx) (hg : gOk g)   (s : St) (Q : Int32 → St → Prop) (hw : vc_Mod_haste  s Q) : Mc g y_Mod_haste b_Mod_haste 3 (some FieldType.int) rm_Mod_haste [.ref (ga g 82)] s (fun v s' => ∃ r : Int32, v = some (.int r) ∧ Q r s') := by
  refine mc_ofV (j := 2) (L := [some (.ref (ga g 82)), none, none]) hg (by decide) (Nat.le_of_ble_eq_true rfl) rfl ?_
  intro X hX C
  subst hX
  unfold vc_Mod_haste at hw
  refine x_aload_n C d_Mod_haste_0 rfl ?_
  refine x_iconst (v := 0) C d_Mod_haste_1 rfl ?_
  refine p_Mod_7 (p := 82) C rfl fl_Mod_112 d_Mod_haste_2 ?_
  refine x_st (fun s10 hs10 => ?_)
  have hw := hw s10 hs10
  refine x_aload_n C d_Mod_haste_5 rfl ?_
  refine x_callV (As := []) (rest := []) (p := 82) C (m_Mod_goesThereAndBack (xg X) C.2.2.2.2.2.2.1  s10 _ hw) cw_Mod_goesThereAndBack ml_Mod_148 rfl (by decide) (by decide) rfl rfl rfl ⟨rfl, rfl, Nat.le_of_ble_eq_true rfl, Nat.le_of_ble_eq_true rfl⟩ ⟨Nat.zero_le _, Nat.zero_le _⟩ rfl (Nat.le_of_ble_eq_true rfl) d_Mod_haste_6 ?_
  rintro _ s11 ⟨rfl, hw⟩
  show V X _ _ _ _ 9 [some (.ref (xa X 82)), none, none] []
  refine x_aload_n C d_Mod_haste_9 rfl ?_
  refine g_Mod_15 (p := 82) C rfl fl_Mod_145 d_Mod_haste_10 ?_
  refine x_nm (fun x12 hx12 => ?_)
  have hw := hw x12 hx12
  refine x_istore_n (L' := [some (.ref (xa X 82)), some (.int x12), none]) C d_Mod_haste_13 (Nat.le_of_ble_eq_true rfl) rfl ?_
  refine x_aload_n C d_Mod_haste_14 rfl ?_
  refine g_Mod_0 (p := 82) C rfl fl_Mod_9 d_Mod_haste_15 ?_
  refine x_aload_n C d_Mod_haste_18 rfl ?_
  refine g_Mod_2 (p := 82) C rfl fl_Mod_16 d_Mod_haste_19 ?_
  refine x_callS (As := [.ref (xa X 83), .ref (xa X 85)]) (rest := []) C (m_Mod_copies (xg X) C.2.2.2.2.2.2.1 83 78 85 78 rfl rfl s11 _ hw) cw_Mod_copies ml_Mod_193 rfl ⟨rfl, rfl, Nat.le_of_ble_eq_true rfl, Nat.le_of_ble_eq_true rfl⟩ ⟨Nat.zero_le _, Nat.zero_le _⟩ rfl (Nat.le_of_ble_eq_true rfl) d_Mod_haste_22 ?_
  rintro _ s13 ⟨rfl, hw⟩
  show V X _ _ _ _ 25 [some (.ref (xa X 82)), some (.int x12), none] []
  refine x_iconst (v := 0) C d_Mod_haste_25 rfl ?_
  refine x_istore_n (L' := [some (.ref (xa X 82)), some (.int x12), some (.int 0)]) C d_Mod_haste_26 (Nat.le_of_ble_eq_true rfl) rfl ?_
  obtain ⟨I16, ⟨n17, hn17⟩, hI16⟩ := hw
  have lI16 : ∀ (nI16 : Nat) (x14 : Int32) (s15 : St), I16 nI16 x14 s15 → V X (xQ X (fun v s' => ∃ r : Int32, v = some (.int r) ∧ Q r s')) 0 0 s15 27 [some (.ref (xa X 82)), some (.int x12), some (.int x14)] [] := by
    intro nI16
    induction nI16 using Nat.strongRecOn with
    | ind nI16 ihI16 =>
      intro x14 s15 hv
      have hw := hI16 nI16 x14 s15 hv
      refine x_iload_n C d_Mod_haste_27 rfl ?_
      refine x_aload_n C d_Mod_haste_28 rfl ?_
      refine g_Mod_0 (p := 82) C rfl fl_Mod_9 d_Mod_haste_29 ?_
      refine x_iconst (v := 1) C d_Mod_haste_32 rfl ?_
      obtain ⟨h18, hw⟩ := hw
      refine x_iald (p := 83) (n := 78) C rfl h18 d_Mod_haste_33 ?_
      refine x_icmp_ge (tgt := 54) C d_Mod_haste_34 (by decide) (fun c19 => ?_) (fun c19 => ?_)
      · have hw := hw.1 c19
        refine x_aload_n C d_Mod_haste_54 rfl ?_
        refine x_callV (As := []) (rest := []) (p := 82) C (m_Mod_goesThereAndBack (xg X) C.2.2.2.2.2.2.1  s15 _ hw) cw_Mod_goesThereAndBack ml_Mod_148 rfl (by decide) (by decide) rfl rfl rfl ⟨rfl, rfl, Nat.le_of_ble_eq_true rfl, Nat.le_of_ble_eq_true rfl⟩ ⟨Nat.zero_le _, Nat.zero_le _⟩ rfl (Nat.le_of_ble_eq_true rfl) d_Mod_haste_55 ?_
        rintro _ s20 ⟨rfl, hw⟩
        show V X _ _ _ _ 58 [some (.ref (xa X 82)), some (.int x12), some (.int x14)] []
        refine x_aload_n C d_Mod_haste_58 rfl ?_
        refine g_Mod_2 (p := 82) C rfl fl_Mod_16 d_Mod_haste_59 ?_
        refine x_aload_n C d_Mod_haste_62 rfl ?_
        refine g_Mod_0 (p := 82) C rfl fl_Mod_9 d_Mod_haste_63 ?_
        refine x_callS (As := [.ref (xa X 85), .ref (xa X 83)]) (rest := []) C (m_Mod_copies (xg X) C.2.2.2.2.2.2.1 85 78 83 78 rfl rfl s20 _ hw) cw_Mod_copies ml_Mod_193 rfl ⟨rfl, rfl, Nat.le_of_ble_eq_true rfl, Nat.le_of_ble_eq_true rfl⟩ ⟨Nat.zero_le _, Nat.zero_le _⟩ rfl (Nat.le_of_ble_eq_true rfl) d_Mod_haste_66 ?_
        rintro _ s21 ⟨rfl, hw⟩
        show V X _ _ _ _ 69 [some (.ref (xa X 82)), some (.int x12), some (.int x14)] []
        refine x_iconst (v := 0) C d_Mod_haste_69 rfl ?_
        refine x_iload_n C d_Mod_haste_70 rfl ?_
        refine x_aload_n C d_Mod_haste_71 rfl ?_
        refine g_Mod_15 (p := 82) C rfl fl_Mod_145 d_Mod_haste_72 ?_
        refine x_isub C d_Mod_haste_75 ?_
        refine x_callS (As := [.int 0, .int (x12 - (s21 82 15))]) (rest := []) C (m_Mod_most (xg X) C.2.2.2.2.2.2.1 0 (x12 - (s21 82 15)) s21 _ hw) cw_Mod_most ml_Mod_66 rfl ⟨rfl, rfl, Nat.le_of_ble_eq_true rfl, Nat.le_of_ble_eq_true rfl⟩ ⟨Nat.zero_le _, Nat.zero_le _⟩ rfl (Nat.le_of_ble_eq_true rfl) d_Mod_haste_76 ?_
        rintro _ _ ⟨x22, rfl, rfl, hw⟩
        show V X _ _ _ _ 79 [some (.ref (xa X 82)), some (.int x12), some (.int x14)] [.int x22]
        exact x_ireturn C d_Mod_haste_79 ⟨_, rfl, hw⟩
      · have hw := hw.2 c19
        refine x_aload_n C d_Mod_haste_37 rfl ?_
        refine g_Mod_0 (p := 82) C rfl fl_Mod_9 d_Mod_haste_38 ?_
        refine x_iload_n C d_Mod_haste_41 rfl ?_
        refine x_iconst (v := 2) C d_Mod_haste_42 rfl ?_
        refine x_callS (As := [.int x14, .int 2]) (rest := [.ref (xa X 83)]) C (m_Mod_atBody (xg X) C.2.2.2.2.2.2.1 x14 2 s15 _ hw) cw_Mod_atBody ml_Mod_59 rfl ⟨rfl, rfl, Nat.le_of_ble_eq_true rfl, Nat.le_of_ble_eq_true rfl⟩ ⟨Nat.zero_le _, Nat.zero_le _⟩ rfl (Nat.le_of_ble_eq_true rfl) d_Mod_haste_43 ?_
        rintro _ _ ⟨x24, rfl, rfl, hw⟩
        show V X _ _ _ _ 46 [some (.ref (xa X 82)), some (.int x12), some (.int x14)] [.int x24, .ref (xa X 83)]
        refine x_iconst (v := 0) C d_Mod_haste_46 rfl ?_
        obtain ⟨h26, hw⟩ := hw
        refine x_iast (p := 83) (n := 78) C rfl h26 d_Mod_haste_47 ?_
        refine x_st (fun s27 hs27 => ?_)
        have hw := hw s27 hs27
        obtain ⟨x28, hx28⟩ : ∃ z : Int32, z = x14 + 1 := ⟨_, rfl⟩
        refine x_iinc (v := x28) (L' := [some (.ref (xa X 82)), some (.int x12), some (.int x28)]) C d_Mod_haste_48 (Nat.le_of_ble_eq_true rfl) rfl (by rw [hx28]; rfl) rfl ?_
        have hw := hw x28 hx28
        refine x_goto (tgt := 27) C d_Mod_haste_51 (by decide) ?_
        obtain ⟨m29, hm29, hw⟩ := hw
        exact x_wk (ihI16 m29 hm29 x28 s27 hw) (And.intro rfl (And.intro rfl (And.intro rfl (trivial))))
  exact x_wk (lI16 n17 0 s13 hn17) (And.intro rfl (And.intro rfl (And.intro rfl (trivial))))
def vc_Mod_gcd (x0 : Int64) (x2 : Int64) (Q : Int64 → Prop) : Prop :=
    (∃ I12 : Nat → Int64 → Int64 → Prop, (∃ n13, I12 n13 x0 x2) ∧ ∀ (nI12 : Nat) (x10 : Int64) (x11 : Int64), I12 nI12 x10 x11 → (((lg_cmp x11 0) = 0 → Q x10) ∧ (¬ (lg_cmp x11 0) = 0 → (¬ x11 = 0 ∧ (∀ x16 : Int64, x16 = x10 - x10 / x11 * x11 → ∃ m17, m17 < nI12 ∧ I12 m17 x11 x16)))))
def rm_Mod_gcd : Room := { frames := 0, cells := 0, slots := 0, locals := 0 }
set_option maxHeartbeats 4000000 in
set_option maxRecDepth 20000 in
theorem m_Mod_gcd (g : Gx) (hg : gOk g) (x0 : Int64) (x2 : Int64)  (s : St) (Q : Int64 → Prop) (hw : vc_Mod_gcd x0 x2 Q) : Mc g y_Mod_gcd b_Mod_gcd 10 (some FieldType.long) rm_Mod_gcd [.long x0, .long x2] s (fun v s' => ∃ r : Int64, v = some (.long r) ∧ s = s' ∧ Q r) := by
  refine mc_ofV (j := 6) (L := [some (.long x0), none, some (.long x2), none, none, none, none, none, none, none]) hg (by decide) (Nat.le_of_ble_eq_true rfl) rfl ?_
  intro X hX C
  subst hX
  unfold vc_Mod_gcd at hw
  refine x_lload_n C d_Mod_gcd_0 rfl ?_
  refine x_lstore (L' := [some (.long x0), none, some (.long x2), none, some (.long x0), none, none, none, none, none]) C d_Mod_gcd_1 (Nat.le_of_ble_eq_true rfl) rfl ?_
  refine x_lload_n C d_Mod_gcd_3 rfl ?_
  refine x_lstore (L' := [some (.long x0), none, some (.long x2), none, some (.long x0), none, some (.long x2), none, none, none]) C d_Mod_gcd_4 (Nat.le_of_ble_eq_true rfl) rfl ?_
  obtain ⟨I12, ⟨n13, hn13⟩, hI12⟩ := hw
  have lI12 : ∀ (nI12 : Nat) (x10 : Int64) (x11 : Int64), I12 nI12 x10 x11 → V X (xQ X (fun v s' => ∃ r : Int64, v = some (.long r) ∧ s = s' ∧ Q r)) 0 0 s 6 [some (.long x0), none, some (.long x2), none, some (.long x10), none, some (.long x11), none, none, none] [] := by
    intro nI12
    induction nI12 using Nat.strongRecOn with
    | ind nI12 ihI12 =>
      intro x10 x11 hv
      have hw := hI12 nI12 x10 x11 hv
      refine x_lload C d_Mod_gcd_6 rfl ?_
      refine x_lconst (v := 0) C d_Mod_gcd_8 rfl ?_
      refine x_lcmp C d_Mod_gcd_9 ?_
      refine x_if_eq (tgt := 31) C d_Mod_gcd_10 (by decide) (fun c14 => ?_) (fun c14 => ?_)
      · have hw := hw.1 c14
        refine x_lload C d_Mod_gcd_31 rfl ?_
        exact x_lreturn C d_Mod_gcd_33 ⟨_, rfl, rfl, hw⟩
      · have hw := hw.2 c14
        refine x_lload C d_Mod_gcd_13 rfl ?_
        refine x_lload C d_Mod_gcd_15 rfl ?_
        obtain ⟨h15, hw⟩ := hw
        refine x_lrem C d_Mod_gcd_17 h15 ?_
        refine x_nml (fun x16 hx16 => ?_)
        have hw := hw x16 hx16
        refine x_lstore (L' := [some (.long x0), none, some (.long x2), none, some (.long x10), none, some (.long x11), none, some (.long x16), none]) C d_Mod_gcd_18 (Nat.le_of_ble_eq_true rfl) rfl ?_
        refine x_lload C d_Mod_gcd_20 rfl ?_
        refine x_lstore (L' := [some (.long x0), none, some (.long x2), none, some (.long x11), none, some (.long x11), none, some (.long x16), none]) C d_Mod_gcd_22 (Nat.le_of_ble_eq_true rfl) rfl ?_
        refine x_lload C d_Mod_gcd_24 rfl ?_
        refine x_lstore (L' := [some (.long x0), none, some (.long x2), none, some (.long x11), none, some (.long x16), none, some (.long x16), none]) C d_Mod_gcd_26 (Nat.le_of_ble_eq_true rfl) rfl ?_
        refine x_goto (tgt := 6) C d_Mod_gcd_28 (by decide) ?_
        obtain ⟨m17, hm17, hw⟩ := hw
        exact x_wk (ihI12 m17 hm17 x11 x16 hw) (And.intro rfl (And.intro rfl (And.intro rfl (And.intro rfl (trivial)))))
  exact x_wk (lI12 n13 x0 x2 hn13) (And.intro rfl (And.intro rfl (And.intro rfl (And.intro rfl (trivial)))))
def vc_Mod_panic (x1 : Int32) (s : St) (Q : Int64 → St → Prop) : Prop :=
    vc_Mod_isIn x1 0 1 (fun b10 => ((¬ (bi b10) = 0 → vc_Mod_copies 83 78 85 78 s (fun s13 => (∀ s14 : St, s14 = wr s13 82 7 0 → (∃ I17 : Nat → Int64 → Int32 → Prop, (∃ n18, I17 n18 1 0) ∧ ∀ (nI17 : Nat) (x15 : Int64) (x16 : Int32), I17 nI17 x15 x16 → (vp_in 1 78 ∧ (((s14 83 (Int32.toNatClampNeg 1)) ≤ x16 → (∃ I24 : Nat → Int64 → Int32 → St → Prop, (∃ n25, I24 n25 0 0 s14) ∧ ∀ (nI24 : Nat) (x21 : Int64) (x22 : Int32) (s23 : St), I24 nI24 x21 x22 s23 → (vp_in 1 78 ∧ (((1 <<< ((s23 83 (Int32.toNatClampNeg 1)) &&& 31)) ≤ x22 → vc_Mod_copies 85 78 83 78 s23 (fun s28 => ((¬ (lg_cmp x21 0) = 0 → (∃ J31 : Int64 → Prop, (∀ (x30 : Int64), J31 x30 → vc_Mod_gcd x21 x15 (fun x32 => (¬ x32 = 0 ∧ Q (x30 / x32) s28))) ∧ ((¬ x1 = 0 → J31 x15) ∧ (x1 = 0 → J31 x21)))) ∧ ((lg_cmp x21 0) = 0 → Q (Int32.toInt64 x1) s28)))) ∧ (¬ (1 <<< ((s23 83 (Int32.toNatClampNeg 1)) &&& 31)) ≤ x22 → (∃ I39 : Nat → Int64 → Int32 → St → Prop, (∃ n40, I39 n40 1 0 s23) ∧ ∀ (nI39 : Nat) (x36 : Int64) (x37 : Int32) (s38 : St), I39 nI39 x36 x37 s38 → (vp_in 1 78 ∧ (((s38 83 (Int32.toNatClampNeg 1)) ≤ x37 → (∃ J45 : Int64 → St → Prop, (∀ (x43 : Int64) (s44 : St), J45 x43 s44 → (∀ x46 : Int32, x46 = x22 + 1 → ∃ m47, m47 < nI24 ∧ I24 m47 x43 x46 s44)) ∧ (((lg_cmp x36 0) ≤ 0 → J45 x21 s38) ∧ (¬ (lg_cmp x36 0) ≤ 0 → vc_Mod_areAllBack  s38 (fun b49 s50 => (((bi b49) = 0 → J45 x21 s50) ∧ (¬ (bi b49) = 0 → (∀ x52 : Int64, x52 = x21 + x36 → J45 x52 s50)))))))) ∧ (¬ (s38 83 (Int32.toNatClampNeg 1)) ≤ x37 → (∃ J54 : Int32 → Prop, (∀ (x53 : Int32), J54 x53 → (∃ J56 : Int64 → Prop, (∀ (x55 : Int64), J56 x55 → (∀ x57 : Int64, x57 = x36 * x55 → vc_Mod_atBody x37 2 (fun x58 => (∃ J61 : Int32 → Prop, (∀ (x60 : Int32), J61 x60 → (vp_in x58 78 ∧ (∀ s63 : St, s63 = wr s38 83 (Int32.toNatClampNeg x58) x60 → (∀ x64 : Int32, x64 = x37 + 1 → ∃ m65, m65 < nI39 ∧ I39 m65 x57 x64 s63)))) ∧ ((x53 = 0 → vc_Mod_atBody x37 2 (fun x67 => (vp_in x67 78 ∧ J61 (s38 85 (Int32.toNatClampNeg x67))))) ∧ (¬ x53 = 0 → J61 9)))))) ∧ ((x53 = 0 → vc_Mod_atBody x37 2 (fun x71 => (vp_in x71 78 ∧ J56 (Int32.toInt64 (10 - (s38 85 (Int32.toNatClampNeg x71))))))) ∧ (¬ x53 = 0 → vc_Mod_atBody x37 2 (fun x74 => (vp_in x74 78 ∧ J56 (Int32.toInt64 (s38 85 (Int32.toNatClampNeg x74))))))))) ∧ ((¬ ((x22 >>> (x37 &&& 31)) &&& 1) = 1 → J54 0) ∧ (((x22 >>> (x37 &&& 31)) &&& 1) = 1 → J54 1)))))))))))) ∧ (¬ (s14 83 (Int32.toNatClampNeg 1)) ≤ x16 → (∀ x78 : Int64, x78 = x15 * 10 → (∀ x79 : Int32, x79 = x16 + 1 → ∃ m80, m80 < nI17 ∧ I17 m80 x78 x79))))))))) ∧ ((bi b10) = 0 → Q (-1000000001) s)))
def rm_Mod_panic : Room := { frames := 9, cells := 0, slots := 0, locals := 205 }
set_option maxHeartbeats 4000000 in
set_option maxRecDepth 20000 in
theorem m_Mod_panic (g : Gx) (hg : gOk g) (x1 : Int32)  (s : St) (Q : Int64 → St → Prop) (hw : vc_Mod_panic x1 s Q) : Mc g y_Mod_panic b_Mod_panic 11 (some FieldType.long) rm_Mod_panic [.ref (ga g 82), .int x1] s (fun v s' => ∃ r : Int64, v = some (.long r) ∧ Q r s') := by
  refine mc_ofV (j := 9) (L := [some (.ref (ga g 82)), some (.int x1), none, none, none, none, none, none, none, none, none]) hg (by decide) (Nat.le_of_ble_eq_true rfl) rfl ?_
  intro X hX C
  subst hX
  unfold vc_Mod_panic at hw
  refine x_iload_n C d_Mod_panic_0 rfl ?_
  refine x_iconst (v := 0) C d_Mod_panic_1 rfl ?_
  refine x_iconst (v := 1) C d_Mod_panic_2 rfl ?_
  refine x_callS (As := [.int x1, .int 0, .int 1]) (rest := []) C (m_Mod_isIn (xg X) C.2.2.2.2.2.2.1 x1 0 1 s _ hw) cw_Mod_isIn ml_Mod_55 rfl ⟨rfl, rfl, Nat.le_of_ble_eq_true rfl, Nat.le_of_ble_eq_true rfl⟩ ⟨Nat.zero_le _, Nat.zero_le _⟩ rfl (Nat.le_of_ble_eq_true rfl) d_Mod_panic_3 ?_
  rintro _ _ ⟨b10, rfl, rfl, hw⟩
  show V X _ _ _ _ 6 [some (.ref (xa X 82)), some (.int x1), none, none, none, none, none, none, none, none, none] [.int (bi b10)]
  refine x_if_ne (tgt := 13) C d_Mod_panic_6 (by decide) (fun c12 => ?_) (fun c12 => ?_)
  · have hw := hw.1 c12
    refine x_aload_n C d_Mod_panic_13 rfl ?_
    refine g_Mod_0 (p := 82) C rfl fl_Mod_9 d_Mod_panic_14 ?_
    refine x_aload_n C d_Mod_panic_17 rfl ?_
    refine g_Mod_2 (p := 82) C rfl fl_Mod_16 d_Mod_panic_18 ?_
    refine x_callS (As := [.ref (xa X 83), .ref (xa X 85)]) (rest := []) C (m_Mod_copies (xg X) C.2.2.2.2.2.2.1 83 78 85 78 rfl rfl s _ hw) cw_Mod_copies ml_Mod_193 rfl ⟨rfl, rfl, Nat.le_of_ble_eq_true rfl, Nat.le_of_ble_eq_true rfl⟩ ⟨Nat.zero_le _, Nat.zero_le _⟩ rfl (Nat.le_of_ble_eq_true rfl) d_Mod_panic_21 ?_
    rintro _ s13 ⟨rfl, hw⟩
    show V X _ _ _ _ 24 [some (.ref (xa X 82)), some (.int x1), none, none, none, none, none, none, none, none, none] []
    refine x_aload_n C d_Mod_panic_24 rfl ?_
    refine x_iconst (v := 0) C d_Mod_panic_25 rfl ?_
    refine p_Mod_7 (p := 82) C rfl fl_Mod_112 d_Mod_panic_26 ?_
    refine x_st (fun s14 hs14 => ?_)
    have hw := hw s14 hs14
    refine x_lconst (v := 0) C d_Mod_panic_29 rfl ?_
    refine x_lstore_n (L' := [some (.ref (xa X 82)), some (.int x1), some (.long 0), none, none, none, none, none, none, none, none]) C d_Mod_panic_30 (Nat.le_of_ble_eq_true rfl) rfl ?_
    refine x_lconst (v := 1) C d_Mod_panic_31 rfl ?_
    refine x_lstore (L' := [some (.ref (xa X 82)), some (.int x1), some (.long 0), none, some (.long 1), none, none, none, none, none, none]) C d_Mod_panic_32 (Nat.le_of_ble_eq_true rfl) rfl ?_
    refine x_iconst (v := 0) C d_Mod_panic_34 rfl ?_
    refine x_istore (L' := [some (.ref (xa X 82)), some (.int x1), some (.long 0), none, some (.long 1), none, some (.int 0), none, none, none, none]) C d_Mod_panic_35 (Nat.le_of_ble_eq_true rfl) rfl ?_
    obtain ⟨I17, ⟨n18, hn18⟩, hI17⟩ := hw
    have lI17 : ∀ (nI17 : Nat) (x15 : Int64) (x16 : Int32), I17 nI17 x15 x16 → V X (xQ X (fun v s' => ∃ r : Int64, v = some (.long r) ∧ Q r s')) 0 0 s14 37 [some (.ref (xa X 82)), some (.int x1), some (.long 0), none, some (.long x15), none, some (.int x16), none, none, none, none] [] := by
      intro nI17
      induction nI17 using Nat.strongRecOn with
      | ind nI17 ihI17 =>
        intro x15 x16 hv
        have hw := hI17 nI17 x15 x16 hv
        refine x_iload C d_Mod_panic_37 rfl ?_
        refine x_aload_n C d_Mod_panic_39 rfl ?_
        refine g_Mod_0 (p := 82) C rfl fl_Mod_9 d_Mod_panic_40 ?_
        refine x_iconst (v := 1) C d_Mod_panic_43 rfl ?_
        obtain ⟨h19, hw⟩ := hw
        refine x_iald (p := 83) (n := 78) C rfl h19 d_Mod_panic_44 ?_
        refine x_icmp_ge (tgt := 62) C d_Mod_panic_45 (by decide) (fun c20 => ?_) (fun c20 => ?_)
        · have hw := hw.1 c20
          refine x_iconst (v := 0) C d_Mod_panic_62 rfl ?_
          refine x_istore (L' := [some (.ref (xa X 82)), some (.int x1), some (.long 0), none, some (.long x15), none, some (.int 0), none, none, none, none]) C d_Mod_panic_63 (Nat.le_of_ble_eq_true rfl) rfl ?_
          obtain ⟨I24, ⟨n25, hn25⟩, hI24⟩ := hw
          have lI24 : ∀ (nI24 : Nat) (x21 : Int64) (x22 : Int32) (s23 : St), I24 nI24 x21 x22 s23 → V X (xQ X (fun v s' => ∃ r : Int64, v = some (.long r) ∧ Q r s')) 0 0 s23 65 [some (.ref (xa X 82)), some (.int x1), some (.long x21), none, some (.long x15), none, some (.int x22), none, none, none, none] [] := by
            intro nI24
            induction nI24 using Nat.strongRecOn with
            | ind nI24 ihI24 =>
              intro x21 x22 s23 hv
              have hw := hI24 nI24 x21 x22 s23 hv
              refine x_iload C d_Mod_panic_65 rfl ?_
              refine x_iconst (v := 1) C d_Mod_panic_67 rfl ?_
              refine x_aload_n C d_Mod_panic_68 rfl ?_
              refine g_Mod_0 (p := 82) C rfl fl_Mod_9 d_Mod_panic_69 ?_
              refine x_iconst (v := 1) C d_Mod_panic_72 rfl ?_
              obtain ⟨h26, hw⟩ := hw
              refine x_iald (p := 83) (n := 78) C rfl h26 d_Mod_panic_73 ?_
              refine x_ishl C d_Mod_panic_74 ?_
              refine x_icmp_ge (tgt := 216) C d_Mod_panic_75 (by decide) (fun c27 => ?_) (fun c27 => ?_)
              · have hw := hw.1 c27
                refine x_aload_n C d_Mod_panic_216 rfl ?_
                refine g_Mod_2 (p := 82) C rfl fl_Mod_16 d_Mod_panic_217 ?_
                refine x_aload_n C d_Mod_panic_220 rfl ?_
                refine g_Mod_0 (p := 82) C rfl fl_Mod_9 d_Mod_panic_221 ?_
                refine x_callS (As := [.ref (xa X 85), .ref (xa X 83)]) (rest := []) C (m_Mod_copies (xg X) C.2.2.2.2.2.2.1 85 78 83 78 rfl rfl s23 _ hw) cw_Mod_copies ml_Mod_193 rfl ⟨rfl, rfl, Nat.le_of_ble_eq_true rfl, Nat.le_of_ble_eq_true rfl⟩ ⟨Nat.zero_le _, Nat.zero_le _⟩ rfl (Nat.le_of_ble_eq_true rfl) d_Mod_panic_224 ?_
                rintro _ s28 ⟨rfl, hw⟩
                show V X _ _ _ _ 227 [some (.ref (xa X 82)), some (.int x1), some (.long x21), none, some (.long x15), none, some (.int x22), none, none, none, none] []
                refine x_lload_n C d_Mod_panic_227 rfl ?_
                refine x_lconst (v := 0) C d_Mod_panic_228 rfl ?_
                refine x_lcmp C d_Mod_panic_229 ?_
                refine x_if_ne (tgt := 236) C d_Mod_panic_230 (by decide) (fun c29 => ?_) (fun c29 => ?_)
                · have hw := hw.1 c29
                  refine x_iload_n C d_Mod_panic_236 rfl ?_
                  obtain ⟨J31, hJ31, hw⟩ := hw
                  have kJ31 : ∀ (x30 : Int64), J31 x30 → V X (xQ X (fun v s' => ∃ r : Int64, v = some (.long r) ∧ Q r s')) 0 0 s28 246 [some (.ref (xa X 82)), some (.int x1), some (.long x21), none, some (.long x15), none, some (.int x22), none, none, none, none] [.long x30] := by
                    intro x30 hv
                    have hw := hJ31 x30 hv
                    refine x_lload_n C d_Mod_panic_246 rfl ?_
                    refine x_lload C d_Mod_panic_247 rfl ?_
                    refine x_callS (As := [.long x21, .long x15]) (rest := [.long x30]) C (m_Mod_gcd (xg X) C.2.2.2.2.2.2.1 x21 x15 s28 _ hw) cw_Mod_gcd ml_Mod_252 rfl ⟨rfl, rfl, Nat.le_of_ble_eq_true rfl, Nat.le_of_ble_eq_true rfl⟩ ⟨Nat.zero_le _, Nat.zero_le _⟩ rfl (Nat.le_of_ble_eq_true rfl) d_Mod_panic_249 ?_
                    rintro _ _ ⟨x32, rfl, rfl, hw⟩
                    show V X _ _ _ _ 252 [some (.ref (xa X 82)), some (.int x1), some (.long x21), none, some (.long x15), none, some (.int x22), none, none, none, none] [.long x32, .long x30]
                    obtain ⟨h34, hw⟩ := hw
                    refine x_ldiv C d_Mod_panic_252 h34 ?_
                    exact x_lreturn C d_Mod_panic_253 ⟨_, rfl, hw⟩
                  refine x_if_ne (tgt := 244) C d_Mod_panic_237 (by decide) (fun c35 => ?_) (fun c35 => ?_)
                  · have hw := hw.1 c35
                    refine x_lload C d_Mod_panic_244 rfl ?_
                    exact x_wk (kJ31 x15 hw) (And.intro rfl (And.intro rfl (And.intro rfl (And.intro rfl (And.intro rfl (trivial))))))
                  · have hw := hw.2 c35
                    refine x_lload_n C d_Mod_panic_240 rfl ?_
                    refine x_goto (tgt := 246) C d_Mod_panic_241 (by decide) ?_
                    exact x_wk (kJ31 x21 hw) (And.intro rfl (And.intro rfl (And.intro rfl (And.intro rfl (And.intro rfl (trivial))))))
                · have hw := hw.2 c29
                  refine x_iload_n C d_Mod_panic_233 rfl ?_
                  refine x_i2l C d_Mod_panic_234 ?_
                  exact x_lreturn C d_Mod_panic_235 ⟨_, rfl, hw⟩
              · have hw := hw.2 c27
                refine x_lconst (v := 1) C d_Mod_panic_78 rfl ?_
                refine x_lstore (L' := [some (.ref (xa X 82)), some (.int x1), some (.long x21), none, some (.long x15), none, some (.int x22), some (.long 1), none, none, none]) C d_Mod_panic_79 (Nat.le_of_ble_eq_true rfl) rfl ?_
                refine x_iconst (v := 0) C d_Mod_panic_81 rfl ?_
                refine x_istore (L' := [some (.ref (xa X 82)), some (.int x1), some (.long x21), none, some (.long x15), none, some (.int x22), some (.long 1), none, some (.int 0), none]) C d_Mod_panic_82 (Nat.le_of_ble_eq_true rfl) rfl ?_
                obtain ⟨I39, ⟨n40, hn40⟩, hI39⟩ := hw
                have lI39 : ∀ (nI39 : Nat) (x36 : Int64) (x37 : Int32) (s38 : St), I39 nI39 x36 x37 s38 → V X (xQ X (fun v s' => ∃ r : Int64, v = some (.long r) ∧ Q r s')) 0 0 s38 84 [some (.ref (xa X 82)), some (.int x1), some (.long x21), none, some (.long x15), none, some (.int x22), some (.long x36), none, some (.int x37), none] [] := by
                  intro nI39
                  induction nI39 using Nat.strongRecOn with
                  | ind nI39 ihI39 =>
                    intro x36 x37 s38 hv
                    have hw := hI39 nI39 x36 x37 s38 hv
                    refine x_iload C d_Mod_panic_84 rfl ?_
                    refine x_aload_n C d_Mod_panic_86 rfl ?_
                    refine g_Mod_0 (p := 82) C rfl fl_Mod_9 d_Mod_panic_87 ?_
                    refine x_iconst (v := 1) C d_Mod_panic_90 rfl ?_
                    obtain ⟨h41, hw⟩ := hw
                    refine x_iald (p := 83) (n := 78) C rfl h41 d_Mod_panic_91 ?_
                    refine x_icmp_ge (tgt := 191) C d_Mod_panic_92 (by decide) (fun c42 => ?_) (fun c42 => ?_)
                    · have hw := hw.1 c42
                      refine x_lload C d_Mod_panic_191 rfl ?_
                      refine x_lconst (v := 0) C d_Mod_panic_193 rfl ?_
                      refine x_lcmp C d_Mod_panic_194 ?_
                      obtain ⟨J45, hJ45, hw⟩ := hw
                      have kJ45 : ∀ (x43 : Int64) (s44 : St), J45 x43 s44 → V X (xQ X (fun v s' => ∃ r : Int64, v = some (.long r) ∧ Q r s')) 0 0 s44 210 [some (.ref (xa X 82)), some (.int x1), some (.long x43), none, some (.long x15), none, some (.int x22), some (.long x36), none, some (.int x37), none] [] := by
                        intro x43 s44 hv
                        have hw := hJ45 x43 s44 hv
                        obtain ⟨x46, hx46⟩ : ∃ z : Int32, z = x22 + 1 := ⟨_, rfl⟩
                        refine x_iinc (v := x46) (L' := [some (.ref (xa X 82)), some (.int x1), some (.long x43), none, some (.long x15), none, some (.int x46), some (.long x36), none, some (.int x37), none]) C d_Mod_panic_210 (Nat.le_of_ble_eq_true rfl) rfl (by rw [hx46]; rfl) rfl ?_
                        have hw := hw x46 hx46
                        refine x_goto (tgt := 65) C d_Mod_panic_213 (by decide) ?_
                        obtain ⟨m47, hm47, hw⟩ := hw
                        exact x_wk (ihI24 m47 hm47 x43 x46 s44 hw) (And.intro rfl (And.intro rfl (And.intro rfl (And.intro rfl (And.intro rfl (trivial))))))
                      refine x_if_le (tgt := 210) C d_Mod_panic_195 (by decide) (fun c48 => ?_) (fun c48 => ?_)
                      · have hw := hw.1 c48
                        exact x_wk (kJ45 x21 s38 hw) (And.intro rfl (And.intro rfl (And.intro rfl (And.intro rfl (And.intro rfl (And.intro rfl (And.intro rfl (trivial))))))))
                      · have hw := hw.2 c48
                        refine x_aload_n C d_Mod_panic_198 rfl ?_
                        refine x_callV (As := []) (rest := []) (p := 82) C (m_Mod_areAllBack (xg X) C.2.2.2.2.2.2.1  s38 _ hw) cw_Mod_areAllBack ml_Mod_226 rfl (by decide) (by decide) rfl rfl rfl ⟨rfl, rfl, Nat.le_of_ble_eq_true rfl, Nat.le_of_ble_eq_true rfl⟩ ⟨Nat.zero_le _, Nat.zero_le _⟩ rfl (Nat.le_of_ble_eq_true rfl) d_Mod_panic_199 ?_
                        rintro _ s50 ⟨b49, rfl, hw⟩
                        show V X _ _ _ _ 202 [some (.ref (xa X 82)), some (.int x1), some (.long x21), none, some (.long x15), none, some (.int x22), some (.long x36), none, some (.int x37), none] [.int (bi b49)]
                        refine x_if_eq (tgt := 210) C d_Mod_panic_202 (by decide) (fun c51 => ?_) (fun c51 => ?_)
                        · have hw := hw.1 c51
                          exact x_wk (kJ45 x21 s50 hw) (And.intro rfl (And.intro rfl (And.intro rfl (And.intro rfl (And.intro rfl (And.intro rfl (And.intro rfl (trivial))))))))
                        · have hw := hw.2 c51
                          refine x_lload_n C d_Mod_panic_205 rfl ?_
                          refine x_lload C d_Mod_panic_206 rfl ?_
                          refine x_ladd C d_Mod_panic_208 ?_
                          refine x_nml (fun x52 hx52 => ?_)
                          have hw := hw x52 hx52
                          refine x_lstore_n (L' := [some (.ref (xa X 82)), some (.int x1), some (.long x52), none, some (.long x15), none, some (.int x22), some (.long x36), none, some (.int x37), none]) C d_Mod_panic_209 (Nat.le_of_ble_eq_true rfl) rfl ?_
                          exact x_wk (kJ45 x52 s50 hw) (And.intro rfl (And.intro rfl (And.intro rfl (And.intro rfl (And.intro rfl (And.intro rfl (And.intro rfl (trivial))))))))
                    · have hw := hw.2 c42
                      refine x_iload C d_Mod_panic_95 rfl ?_
                      refine x_iload C d_Mod_panic_97 rfl ?_
                      refine x_ishr C d_Mod_panic_99 ?_
                      refine x_iconst (v := 1) C d_Mod_panic_100 rfl ?_
                      refine x_iand C d_Mod_panic_101 ?_
                      refine x_iconst (v := 1) C d_Mod_panic_102 rfl ?_
                      obtain ⟨J54, hJ54, hw⟩ := hw
                      have kJ54 : ∀ (x53 : Int32), J54 x53 → V X (xQ X (fun v s' => ∃ r : Int64, v = some (.long r) ∧ Q r s')) 0 0 s38 111 [some (.ref (xa X 82)), some (.int x1), some (.long x21), none, some (.long x15), none, some (.int x22), some (.long x36), none, some (.int x37), none] [.int x53] := by
                        intro x53 hv
                        have hw := hJ54 x53 hv
                        refine x_istore (L' := [some (.ref (xa X 82)), some (.int x1), some (.long x21), none, some (.long x15), none, some (.int x22), some (.long x36), none, some (.int x37), some (.int x53)]) C d_Mod_panic_111 (Nat.le_of_ble_eq_true rfl) rfl ?_
                        refine x_lload C d_Mod_panic_113 rfl ?_
                        refine x_iload C d_Mod_panic_115 rfl ?_
                        obtain ⟨J56, hJ56, hw⟩ := hw
                        have kJ56 : ∀ (x55 : Int64), J56 x55 → V X (xQ X (fun v s' => ∃ r : Int64, v = some (.long r) ∧ Q r s')) 0 0 s38 150 [some (.ref (xa X 82)), some (.int x1), some (.long x21), none, some (.long x15), none, some (.int x22), some (.long x36), none, some (.int x37), some (.int x53)] [.long x55, .long x36] := by
                          intro x55 hv
                          have hw := hJ56 x55 hv
                          refine x_lmul C d_Mod_panic_150 ?_
                          refine x_nml (fun x57 hx57 => ?_)
                          have hw := hw x57 hx57
                          refine x_lstore (L' := [some (.ref (xa X 82)), some (.int x1), some (.long x21), none, some (.long x15), none, some (.int x22), some (.long x57), none, some (.int x37), some (.int x53)]) C d_Mod_panic_151 (Nat.le_of_ble_eq_true rfl) rfl ?_
                          refine x_aload_n C d_Mod_panic_153 rfl ?_
                          refine g_Mod_0 (p := 82) C rfl fl_Mod_9 d_Mod_panic_154 ?_
                          refine x_iload C d_Mod_panic_157 rfl ?_
                          refine x_iconst (v := 2) C d_Mod_panic_159 rfl ?_
                          refine x_callS (As := [.int x37, .int 2]) (rest := [.ref (xa X 83)]) C (m_Mod_atBody (xg X) C.2.2.2.2.2.2.1 x37 2 s38 _ hw) cw_Mod_atBody ml_Mod_59 rfl ⟨rfl, rfl, Nat.le_of_ble_eq_true rfl, Nat.le_of_ble_eq_true rfl⟩ ⟨Nat.zero_le _, Nat.zero_le _⟩ rfl (Nat.le_of_ble_eq_true rfl) d_Mod_panic_160 ?_
                          rintro _ _ ⟨x58, rfl, rfl, hw⟩
                          show V X _ _ _ _ 163 [some (.ref (xa X 82)), some (.int x1), some (.long x21), none, some (.long x15), none, some (.int x22), some (.long x57), none, some (.int x37), some (.int x53)] [.int x58, .ref (xa X 83)]
                          refine x_iload C d_Mod_panic_163 rfl ?_
                          obtain ⟨J61, hJ61, hw⟩ := hw
                          have kJ61 : ∀ (x60 : Int32), J61 x60 → V X (xQ X (fun v s' => ∃ r : Int64, v = some (.long r) ∧ Q r s')) 0 0 s38 184 [some (.ref (xa X 82)), some (.int x1), some (.long x21), none, some (.long x15), none, some (.int x22), some (.long x57), none, some (.int x37), some (.int x53)] [.int x60, .int x58, .ref (xa X 83)] := by
                            intro x60 hv
                            have hw := hJ61 x60 hv
                            obtain ⟨h62, hw⟩ := hw
                            refine x_iast (p := 83) (n := 78) C rfl h62 d_Mod_panic_184 ?_
                            refine x_st (fun s63 hs63 => ?_)
                            have hw := hw s63 hs63
                            obtain ⟨x64, hx64⟩ : ∃ z : Int32, z = x37 + 1 := ⟨_, rfl⟩
                            refine x_iinc (v := x64) (L' := [some (.ref (xa X 82)), some (.int x1), some (.long x21), none, some (.long x15), none, some (.int x22), some (.long x57), none, some (.int x64), some (.int x53)]) C d_Mod_panic_185 (Nat.le_of_ble_eq_true rfl) rfl (by rw [hx64]; rfl) rfl ?_
                            have hw := hw x64 hx64
                            refine x_goto (tgt := 84) C d_Mod_panic_188 (by decide) ?_
                            obtain ⟨m65, hm65, hw⟩ := hw
                            exact x_wk (ihI39 m65 hm65 x57 x64 s63 hw) (And.intro rfl (And.intro rfl (And.intro rfl (And.intro rfl (And.intro rfl (And.intro rfl (And.intro rfl (trivial))))))))
                          refine x_if_eq (tgt := 173) C d_Mod_panic_165 (by decide) (fun c66 => ?_) (fun c66 => ?_)
                          · have hw := hw.1 c66
                            refine x_aload_n C d_Mod_panic_173 rfl ?_
                            refine g_Mod_2 (p := 82) C rfl fl_Mod_16 d_Mod_panic_174 ?_
                            refine x_iload C d_Mod_panic_177 rfl ?_
                            refine x_iconst (v := 2) C d_Mod_panic_179 rfl ?_
                            refine x_callS (As := [.int x37, .int 2]) (rest := [.ref (xa X 85), .int x58, .ref (xa X 83)]) C (m_Mod_atBody (xg X) C.2.2.2.2.2.2.1 x37 2 s38 _ hw) cw_Mod_atBody ml_Mod_59 rfl ⟨rfl, rfl, Nat.le_of_ble_eq_true rfl, Nat.le_of_ble_eq_true rfl⟩ ⟨Nat.zero_le _, Nat.zero_le _⟩ rfl (Nat.le_of_ble_eq_true rfl) d_Mod_panic_180 ?_
                            rintro _ _ ⟨x67, rfl, rfl, hw⟩
                            show V X _ _ _ _ 183 [some (.ref (xa X 82)), some (.int x1), some (.long x21), none, some (.long x15), none, some (.int x22), some (.long x57), none, some (.int x37), some (.int x53)] [.int x67, .ref (xa X 85), .int x58, .ref (xa X 83)]
                            obtain ⟨h69, hw⟩ := hw
                            refine x_iald (p := 85) (n := 78) C rfl h69 d_Mod_panic_183 ?_
                            exact x_wk (kJ61 (s38 85 (Int32.toNatClampNeg x67)) hw) (And.intro rfl (And.intro rfl (And.intro rfl (And.intro rfl (And.intro rfl (And.intro rfl (And.intro rfl (And.intro rfl (trivial)))))))))
                          · have hw := hw.2 c66
                            refine x_bipush (v := 9) C d_Mod_panic_168 rfl ?_
                            refine x_goto (tgt := 184) C d_Mod_panic_170 (by decide) ?_
                            exact x_wk (kJ61 9 hw) (And.intro rfl (And.intro rfl (And.intro rfl (And.intro rfl (And.intro rfl (And.intro rfl (And.intro rfl (And.intro rfl (trivial)))))))))
                        refine x_if_eq (tgt := 135) C d_Mod_panic_117 (by decide) (fun c70 => ?_) (fun c70 => ?_)
                        · have hw := hw.1 c70
                          refine x_bipush (v := 10) C d_Mod_panic_135 rfl ?_
                          refine x_aload_n C d_Mod_panic_137 rfl ?_
                          refine g_Mod_2 (p := 82) C rfl fl_Mod_16 d_Mod_panic_138 ?_
                          refine x_iload C d_Mod_panic_141 rfl ?_
                          refine x_iconst (v := 2) C d_Mod_panic_143 rfl ?_
                          refine x_callS (As := [.int x37, .int 2]) (rest := [.ref (xa X 85), .int 10, .long x36]) C (m_Mod_atBody (xg X) C.2.2.2.2.2.2.1 x37 2 s38 _ hw) cw_Mod_atBody ml_Mod_59 rfl ⟨rfl, rfl, Nat.le_of_ble_eq_true rfl, Nat.le_of_ble_eq_true rfl⟩ ⟨Nat.zero_le _, Nat.zero_le _⟩ rfl (Nat.le_of_ble_eq_true rfl) d_Mod_panic_144 ?_
                          rintro _ _ ⟨x71, rfl, rfl, hw⟩
                          show V X _ _ _ _ 147 [some (.ref (xa X 82)), some (.int x1), some (.long x21), none, some (.long x15), none, some (.int x22), some (.long x36), none, some (.int x37), some (.int x53)] [.int x71, .ref (xa X 85), .int 10, .long x36]
                          obtain ⟨h73, hw⟩ := hw
                          refine x_iald (p := 85) (n := 78) C rfl h73 d_Mod_panic_147 ?_
                          refine x_isub C d_Mod_panic_148 ?_
                          refine x_i2l C d_Mod_panic_149 ?_
                          exact x_wk (kJ56 (Int32.toInt64 (10 - (s38 85 (Int32.toNatClampNeg x71)))) hw) (And.intro rfl (And.intro rfl (And.intro rfl (And.intro rfl (And.intro rfl (And.intro rfl (And.intro rfl (And.intro rfl (trivial)))))))))
                        · have hw := hw.2 c70
                          refine x_aload_n C d_Mod_panic_120 rfl ?_
                          refine g_Mod_2 (p := 82) C rfl fl_Mod_16 d_Mod_panic_121 ?_
                          refine x_iload C d_Mod_panic_124 rfl ?_
                          refine x_iconst (v := 2) C d_Mod_panic_126 rfl ?_
                          refine x_callS (As := [.int x37, .int 2]) (rest := [.ref (xa X 85), .long x36]) C (m_Mod_atBody (xg X) C.2.2.2.2.2.2.1 x37 2 s38 _ hw) cw_Mod_atBody ml_Mod_59 rfl ⟨rfl, rfl, Nat.le_of_ble_eq_true rfl, Nat.le_of_ble_eq_true rfl⟩ ⟨Nat.zero_le _, Nat.zero_le _⟩ rfl (Nat.le_of_ble_eq_true rfl) d_Mod_panic_127 ?_
                          rintro _ _ ⟨x74, rfl, rfl, hw⟩
                          show V X _ _ _ _ 130 [some (.ref (xa X 82)), some (.int x1), some (.long x21), none, some (.long x15), none, some (.int x22), some (.long x36), none, some (.int x37), some (.int x53)] [.int x74, .ref (xa X 85), .long x36]
                          obtain ⟨h76, hw⟩ := hw
                          refine x_iald (p := 85) (n := 78) C rfl h76 d_Mod_panic_130 ?_
                          refine x_i2l C d_Mod_panic_131 ?_
                          refine x_goto (tgt := 150) C d_Mod_panic_132 (by decide) ?_
                          exact x_wk (kJ56 (Int32.toInt64 (s38 85 (Int32.toNatClampNeg x74))) hw) (And.intro rfl (And.intro rfl (And.intro rfl (And.intro rfl (And.intro rfl (And.intro rfl (And.intro rfl (And.intro rfl (trivial)))))))))
                      refine x_icmp_ne (tgt := 110) C d_Mod_panic_103 (by decide) (fun c77 => ?_) (fun c77 => ?_)
                      · have hw := hw.1 c77
                        refine x_iconst (v := 0) C d_Mod_panic_110 rfl ?_
                        exact x_wk (kJ54 0 hw) (And.intro rfl (And.intro rfl (And.intro rfl (And.intro rfl (And.intro rfl (And.intro rfl (And.intro rfl (trivial))))))))
                      · have hw := hw.2 c77
                        refine x_iconst (v := 1) C d_Mod_panic_106 rfl ?_
                        refine x_goto (tgt := 111) C d_Mod_panic_107 (by decide) ?_
                        exact x_wk (kJ54 1 hw) (And.intro rfl (And.intro rfl (And.intro rfl (And.intro rfl (And.intro rfl (And.intro rfl (And.intro rfl (trivial))))))))
                exact x_wk (lI39 n40 1 0 s23 hn40) (And.intro rfl (And.intro rfl (And.intro rfl (And.intro rfl (And.intro rfl (And.intro rfl (And.intro rfl (trivial))))))))
          exact x_wk (lI24 n25 0 0 s14 hn25) (And.intro rfl (And.intro rfl (And.intro rfl (And.intro rfl (And.intro rfl (trivial))))))
        · have hw := hw.2 c20
          refine x_lload C d_Mod_panic_48 rfl ?_
          refine x_ldc2 (v := 10) C d_Mod_panic_50 lc_Mod_250 ?_
          refine x_lmul C d_Mod_panic_53 ?_
          refine x_nml (fun x78 hx78 => ?_)
          have hw := hw x78 hx78
          refine x_lstore (L' := [some (.ref (xa X 82)), some (.int x1), some (.long 0), none, some (.long x78), none, some (.int x16), none, none, none, none]) C d_Mod_panic_54 (Nat.le_of_ble_eq_true rfl) rfl ?_
          obtain ⟨x79, hx79⟩ : ∃ z : Int32, z = x16 + 1 := ⟨_, rfl⟩
          refine x_iinc (v := x79) (L' := [some (.ref (xa X 82)), some (.int x1), some (.long 0), none, some (.long x78), none, some (.int x79), none, none, none, none]) C d_Mod_panic_56 (Nat.le_of_ble_eq_true rfl) rfl (by rw [hx79]; rfl) rfl ?_
          have hw := hw x79 hx79
          refine x_goto (tgt := 37) C d_Mod_panic_59 (by decide) ?_
          obtain ⟨m80, hm80, hw⟩ := hw
          exact x_wk (ihI17 m80 hm80 x78 x79 hw) (And.intro rfl (And.intro rfl (And.intro rfl (And.intro rfl (And.intro rfl (trivial))))))
    exact x_wk (lI17 n18 1 0 hn18) (And.intro rfl (And.intro rfl (And.intro rfl (And.intro rfl (And.intro rfl (trivial))))))
  · have hw := hw.2 c12
    refine x_ldc2 (v := (-1000000001)) C d_Mod_panic_9 lc_Mod_248 ?_
    exact x_lreturn C d_Mod_panic_12 ⟨_, rfl, hw⟩
def vc_Mod_firstWays  (s : St) (Q : Int32 → St → Prop) : Prop :=
    (vp_in 1 78 ∧ (((s 83 (Int32.toNatClampNeg 1)) ≤ 4 → vc_Mod_copies 83 78 85 78 s (fun s12 => (∀ s13 : St, s13 = wr s12 82 7 0 → (∃ I18 : Nat → Int32 → Int32 → Int32 → St → Prop, (∃ n19, I18 n19 0 (-1) 0 s13) ∧ ∀ (nI18 : Nat) (x14 : Int32) (x15 : Int32) (x16 : Int32) (s17 : St), I18 nI18 x14 x15 x16 s17 → (vp_in 1 78 ∧ (((1 <<< ((2 * (s17 83 (Int32.toNatClampNeg 1))) &&& 31)) ≤ x16 → vc_Mod_copies 85 78 83 78 s17 (fun s22 => Q x14 s22)) ∧ (¬ (1 <<< ((2 * (s17 83 (Int32.toNatClampNeg 1))) &&& 31)) ≤ x16 → (∃ I26 : Nat → Int32 → Int32 → St → Prop, (∃ n27, I26 n27 0 0 s17) ∧ ∀ (nI26 : Nat) (x23 : Int32) (x24 : Int32) (s25 : St), I26 nI26 x23 x24 s25 → (vp_in 1 78 ∧ (((s25 83 (Int32.toNatClampNeg 1)) ≤ x24 → vc_Mod_goesThereAndBack  s25 (fun s30 => vc_Mod_bits (s30 82 11) (fun x31 => (∃ J35 : Int32 → Int32 → Prop, (∀ (x33 : Int32) (x34 : Int32), J35 x33 x34 → (∀ x36 : Int32, x36 = x16 + 1 → ∃ m37, m37 < nI18 ∧ I18 m37 x33 x34 x36 s30)) ∧ ((x15 < x31 → vc_Mod_bits (s30 82 11) (fun x39 => J35 x23 x39)) ∧ (¬ x15 < x31 → J35 x14 x15)))))) ∧ (¬ (s25 83 (Int32.toNatClampNeg 1)) ≤ x24 → (vp_in 1 78 ∧ (∀ x42 : Int32, x42 = (x16 >>> ((2 * (((s25 83 (Int32.toNatClampNeg 1)) - 1) - x24)) &&& 31)) &&& 3 → vc_Mod_atBody x24 4 (fun x43 => (vp_in x43 78 ∧ (∀ s46 : St, s46 = wr s25 83 (Int32.toNatClampNeg x43) x42 → (∀ x47 : Int32, x47 = (10 * x23) + x42 → (∀ x48 : Int32, x48 = x24 + 1 → ∃ m49, m49 < nI26 ∧ I26 m49 x47 x48 s46)))))))))))))))))) ∧ (¬ (s 83 (Int32.toNatClampNeg 1)) ≤ 4 → Q (-3) s)))
def rm_Mod_firstWays : Room := { frames := 8, cells := 0, slots := 0, locals := 185 }
set_option maxHeartbeats 4000000 in
set_option maxRecDepth 20000 in
theorem m_Mod_firstWays (g : Gx) (hg : gOk g)   (s : St) (Q : Int32 → St → Prop) (hw : vc_Mod_firstWays  s Q) : Mc g y_Mod_firstWays b_Mod_firstWays 7 (some FieldType.int) rm_Mod_firstWays [.ref (ga g 82)] s (fun v s' => ∃ r : Int32, v = some (.int r) ∧ Q r s') := by
  refine mc_ofV (j := 6) (L := [some (.ref (ga g 82)), none, none, none, none, none, none]) hg (by decide) (Nat.le_of_ble_eq_true rfl) rfl ?_
  intro X hX C
  subst hX
  unfold vc_Mod_firstWays at hw
  refine x_aload_n C d_Mod_firstWays_0 rfl ?_
  refine g_Mod_0 (p := 82) C rfl fl_Mod_9 d_Mod_firstWays_1 ?_
  refine x_iconst (v := 1) C d_Mod_firstWays_4 rfl ?_
  obtain ⟨h10, hw⟩ := hw
  refine x_iald (p := 83) (n := 78) C rfl h10 d_Mod_firstWays_5 ?_
  refine x_iconst (v := 4) C d_Mod_firstWays_6 rfl ?_
  refine x_icmp_le (tgt := 13) C d_Mod_firstWays_7 (by decide) (fun c11 => ?_) (fun c11 => ?_)
  · have hw := hw.1 c11
    refine x_aload_n C d_Mod_firstWays_13 rfl ?_
    refine g_Mod_0 (p := 82) C rfl fl_Mod_9 d_Mod_firstWays_14 ?_
    refine x_aload_n C d_Mod_firstWays_17 rfl ?_
    refine g_Mod_2 (p := 82) C rfl fl_Mod_16 d_Mod_firstWays_18 ?_
    refine x_callS (As := [.ref (xa X 83), .ref (xa X 85)]) (rest := []) C (m_Mod_copies (xg X) C.2.2.2.2.2.2.1 83 78 85 78 rfl rfl s _ hw) cw_Mod_copies ml_Mod_193 rfl ⟨rfl, rfl, Nat.le_of_ble_eq_true rfl, Nat.le_of_ble_eq_true rfl⟩ ⟨Nat.zero_le _, Nat.zero_le _⟩ rfl (Nat.le_of_ble_eq_true rfl) d_Mod_firstWays_21 ?_
    rintro _ s12 ⟨rfl, hw⟩
    show V X _ _ _ _ 24 [some (.ref (xa X 82)), none, none, none, none, none, none] []
    refine x_aload_n C d_Mod_firstWays_24 rfl ?_
    refine x_iconst (v := 0) C d_Mod_firstWays_25 rfl ?_
    refine p_Mod_7 (p := 82) C rfl fl_Mod_112 d_Mod_firstWays_26 ?_
    refine x_st (fun s13 hs13 => ?_)
    have hw := hw s13 hs13
    refine x_iconst (v := 0) C d_Mod_firstWays_29 rfl ?_
    refine x_istore_n (L' := [some (.ref (xa X 82)), some (.int 0), none, none, none, none, none]) C d_Mod_firstWays_30 (Nat.le_of_ble_eq_true rfl) rfl ?_
    refine x_iconst (v := (-1)) C d_Mod_firstWays_31 rfl ?_
    refine x_istore_n (L' := [some (.ref (xa X 82)), some (.int 0), some (.int (-1)), none, none, none, none]) C d_Mod_firstWays_32 (Nat.le_of_ble_eq_true rfl) rfl ?_
    refine x_iconst (v := 0) C d_Mod_firstWays_33 rfl ?_
    refine x_istore_n (L' := [some (.ref (xa X 82)), some (.int 0), some (.int (-1)), some (.int 0), none, none, none]) C d_Mod_firstWays_34 (Nat.le_of_ble_eq_true rfl) rfl ?_
    obtain ⟨I18, ⟨n19, hn19⟩, hI18⟩ := hw
    have lI18 : ∀ (nI18 : Nat) (x14 : Int32) (x15 : Int32) (x16 : Int32) (s17 : St), I18 nI18 x14 x15 x16 s17 → V X (xQ X (fun v s' => ∃ r : Int32, v = some (.int r) ∧ Q r s')) 0 0 s17 35 [some (.ref (xa X 82)), some (.int x14), some (.int x15), some (.int x16), none, none, none] [] := by
      intro nI18
      induction nI18 using Nat.strongRecOn with
      | ind nI18 ihI18 =>
        intro x14 x15 x16 s17 hv
        have hw := hI18 nI18 x14 x15 x16 s17 hv
        refine x_iload_n C d_Mod_firstWays_35 rfl ?_
        refine x_iconst (v := 1) C d_Mod_firstWays_36 rfl ?_
        refine x_iconst (v := 2) C d_Mod_firstWays_37 rfl ?_
        refine x_aload_n C d_Mod_firstWays_38 rfl ?_
        refine g_Mod_0 (p := 82) C rfl fl_Mod_9 d_Mod_firstWays_39 ?_
        refine x_iconst (v := 1) C d_Mod_firstWays_42 rfl ?_
        obtain ⟨h20, hw⟩ := hw
        refine x_iald (p := 83) (n := 78) C rfl h20 d_Mod_firstWays_43 ?_
        refine x_imul C d_Mod_firstWays_44 ?_
        refine x_ishl C d_Mod_firstWays_45 ?_
        refine x_icmp_ge (tgt := 149) C d_Mod_firstWays_46 (by decide) (fun c21 => ?_) (fun c21 => ?_)
        · have hw := hw.1 c21
          refine x_aload_n C d_Mod_firstWays_149 rfl ?_
          refine g_Mod_2 (p := 82) C rfl fl_Mod_16 d_Mod_firstWays_150 ?_
          refine x_aload_n C d_Mod_firstWays_153 rfl ?_
          refine g_Mod_0 (p := 82) C rfl fl_Mod_9 d_Mod_firstWays_154 ?_
          refine x_callS (As := [.ref (xa X 85), .ref (xa X 83)]) (rest := []) C (m_Mod_copies (xg X) C.2.2.2.2.2.2.1 85 78 83 78 rfl rfl s17 _ hw) cw_Mod_copies ml_Mod_193 rfl ⟨rfl, rfl, Nat.le_of_ble_eq_true rfl, Nat.le_of_ble_eq_true rfl⟩ ⟨Nat.zero_le _, Nat.zero_le _⟩ rfl (Nat.le_of_ble_eq_true rfl) d_Mod_firstWays_157 ?_
          rintro _ s22 ⟨rfl, hw⟩
          show V X _ _ _ _ 160 [some (.ref (xa X 82)), some (.int x14), some (.int x15), some (.int x16), none, none, none] []
          refine x_iload_n C d_Mod_firstWays_160 rfl ?_
          exact x_ireturn C d_Mod_firstWays_161 ⟨_, rfl, hw⟩
        · have hw := hw.2 c21
          refine x_iconst (v := 0) C d_Mod_firstWays_49 rfl ?_
          refine x_istore (L' := [some (.ref (xa X 82)), some (.int x14), some (.int x15), some (.int x16), some (.int 0), none, none]) C d_Mod_firstWays_50 (Nat.le_of_ble_eq_true rfl) rfl ?_
          refine x_iconst (v := 0) C d_Mod_firstWays_52 rfl ?_
          refine x_istore (L' := [some (.ref (xa X 82)), some (.int x14), some (.int x15), some (.int x16), some (.int 0), some (.int 0), none]) C d_Mod_firstWays_53 (Nat.le_of_ble_eq_true rfl) rfl ?_
          obtain ⟨I26, ⟨n27, hn27⟩, hI26⟩ := hw
          have lI26 : ∀ (nI26 : Nat) (x23 : Int32) (x24 : Int32) (s25 : St), I26 nI26 x23 x24 s25 → V X (xQ X (fun v s' => ∃ r : Int32, v = some (.int r) ∧ Q r s')) 0 0 s25 55 [some (.ref (xa X 82)), some (.int x14), some (.int x15), some (.int x16), some (.int x23), some (.int x24), none] [] := by
            intro nI26
            induction nI26 using Nat.strongRecOn with
            | ind nI26 ihI26 =>
              intro x23 x24 s25 hv
              have hw := hI26 nI26 x23 x24 s25 hv
              refine x_iload C d_Mod_firstWays_55 rfl ?_
              refine x_aload_n C d_Mod_firstWays_57 rfl ?_
              refine g_Mod_0 (p := 82) C rfl fl_Mod_9 d_Mod_firstWays_58 ?_
              refine x_iconst (v := 1) C d_Mod_firstWays_61 rfl ?_
              obtain ⟨h28, hw⟩ := hw
              refine x_iald (p := 83) (n := 78) C rfl h28 d_Mod_firstWays_62 ?_
              refine x_icmp_ge (tgt := 114) C d_Mod_firstWays_63 (by decide) (fun c29 => ?_) (fun c29 => ?_)
              · have hw := hw.1 c29
                refine x_aload_n C d_Mod_firstWays_114 rfl ?_
                refine x_callV (As := []) (rest := []) (p := 82) C (m_Mod_goesThereAndBack (xg X) C.2.2.2.2.2.2.1  s25 _ hw) cw_Mod_goesThereAndBack ml_Mod_148 rfl (by decide) (by decide) rfl rfl rfl ⟨rfl, rfl, Nat.le_of_ble_eq_true rfl, Nat.le_of_ble_eq_true rfl⟩ ⟨Nat.zero_le _, Nat.zero_le _⟩ rfl (Nat.le_of_ble_eq_true rfl) d_Mod_firstWays_115 ?_
                rintro _ s30 ⟨rfl, hw⟩
                show V X _ _ _ _ 118 [some (.ref (xa X 82)), some (.int x14), some (.int x15), some (.int x16), some (.int x23), some (.int x24), none] []
                refine x_aload_n C d_Mod_firstWays_118 rfl ?_
                refine g_Mod_11 (p := 82) C rfl fl_Mod_139 d_Mod_firstWays_119 ?_
                refine x_callS (As := [.int (s30 82 11)]) (rest := []) C (m_Mod_bits (xg X) C.2.2.2.2.2.2.1 (s30 82 11) s30 _ hw) cw_Mod_bits ml_Mod_151 rfl ⟨rfl, rfl, Nat.le_of_ble_eq_true rfl, Nat.le_of_ble_eq_true rfl⟩ ⟨Nat.zero_le _, Nat.zero_le _⟩ rfl (Nat.le_of_ble_eq_true rfl) d_Mod_firstWays_122 ?_
                rintro _ _ ⟨x31, rfl, rfl, hw⟩
                show V X _ _ _ _ 125 [some (.ref (xa X 82)), some (.int x14), some (.int x15), some (.int x16), some (.int x23), some (.int x24), none] [.int x31]
                refine x_iload_n C d_Mod_firstWays_125 rfl ?_
                obtain ⟨J35, hJ35, hw⟩ := hw
                have kJ35 : ∀ (x33 : Int32) (x34 : Int32), J35 x33 x34 → V X (xQ X (fun v s' => ∃ r : Int32, v = some (.int r) ∧ Q r s')) 0 0 s30 143 [some (.ref (xa X 82)), some (.int x33), some (.int x34), some (.int x16), some (.int x23), some (.int x24), none] [] := by
                  intro x33 x34 hv
                  have hw := hJ35 x33 x34 hv
                  obtain ⟨x36, hx36⟩ : ∃ z : Int32, z = x16 + 1 := ⟨_, rfl⟩
                  refine x_iinc (v := x36) (L' := [some (.ref (xa X 82)), some (.int x33), some (.int x34), some (.int x36), some (.int x23), some (.int x24), none]) C d_Mod_firstWays_143 (Nat.le_of_ble_eq_true rfl) rfl (by rw [hx36]; rfl) rfl ?_
                  have hw := hw x36 hx36
                  refine x_goto (tgt := 35) C d_Mod_firstWays_146 (by decide) ?_
                  obtain ⟨m37, hm37, hw⟩ := hw
                  exact x_wk (ihI18 m37 hm37 x33 x34 x36 s30 hw) (And.intro rfl (And.intro rfl (And.intro rfl (And.intro rfl (trivial)))))
                refine x_icmp_gt (tgt := 132) C d_Mod_firstWays_126 (by decide) (fun c38 => ?_) (fun c38 => ?_)
                · have hw := hw.1 c38
                  refine x_aload_n C d_Mod_firstWays_132 rfl ?_
                  refine g_Mod_11 (p := 82) C rfl fl_Mod_139 d_Mod_firstWays_133 ?_
                  refine x_callS (As := [.int (s30 82 11)]) (rest := []) C (m_Mod_bits (xg X) C.2.2.2.2.2.2.1 (s30 82 11) s30 _ hw) cw_Mod_bits ml_Mod_151 rfl ⟨rfl, rfl, Nat.le_of_ble_eq_true rfl, Nat.le_of_ble_eq_true rfl⟩ ⟨Nat.zero_le _, Nat.zero_le _⟩ rfl (Nat.le_of_ble_eq_true rfl) d_Mod_firstWays_136 ?_
                  rintro _ _ ⟨x39, rfl, rfl, hw⟩
                  show V X _ _ _ _ 139 [some (.ref (xa X 82)), some (.int x14), some (.int x15), some (.int x16), some (.int x23), some (.int x24), none] [.int x39]
                  refine x_istore_n (L' := [some (.ref (xa X 82)), some (.int x14), some (.int x39), some (.int x16), some (.int x23), some (.int x24), none]) C d_Mod_firstWays_139 (Nat.le_of_ble_eq_true rfl) rfl ?_
                  refine x_iload C d_Mod_firstWays_140 rfl ?_
                  refine x_istore_n (L' := [some (.ref (xa X 82)), some (.int x23), some (.int x39), some (.int x16), some (.int x23), some (.int x24), none]) C d_Mod_firstWays_142 (Nat.le_of_ble_eq_true rfl) rfl ?_
                  exact x_wk (kJ35 x23 x39 hw) (And.intro rfl (And.intro rfl (And.intro rfl (And.intro rfl (And.intro rfl (And.intro rfl (trivial)))))))
                · have hw := hw.2 c38
                  refine x_goto (tgt := 143) C d_Mod_firstWays_129 (by decide) ?_
                  exact x_wk (kJ35 x14 x15 hw) (And.intro rfl (And.intro rfl (And.intro rfl (And.intro rfl (And.intro rfl (And.intro rfl (trivial)))))))
              · have hw := hw.2 c29
                refine x_iload_n C d_Mod_firstWays_66 rfl ?_
                refine x_iconst (v := 2) C d_Mod_firstWays_67 rfl ?_
                refine x_aload_n C d_Mod_firstWays_68 rfl ?_
                refine g_Mod_0 (p := 82) C rfl fl_Mod_9 d_Mod_firstWays_69 ?_
                refine x_iconst (v := 1) C d_Mod_firstWays_72 rfl ?_
                obtain ⟨h41, hw⟩ := hw
                refine x_iald (p := 83) (n := 78) C rfl h41 d_Mod_firstWays_73 ?_
                refine x_iconst (v := 1) C d_Mod_firstWays_74 rfl ?_
                refine x_isub C d_Mod_firstWays_75 ?_
                refine x_iload C d_Mod_firstWays_76 rfl ?_
                refine x_isub C d_Mod_firstWays_78 ?_
                refine x_imul C d_Mod_firstWays_79 ?_
                refine x_ishr C d_Mod_firstWays_80 ?_
                refine x_iconst (v := 3) C d_Mod_firstWays_81 rfl ?_
                refine x_iand C d_Mod_firstWays_82 ?_
                refine x_nm (fun x42 hx42 => ?_)
                have hw := hw x42 hx42
                refine x_istore (L' := [some (.ref (xa X 82)), some (.int x14), some (.int x15), some (.int x16), some (.int x23), some (.int x24), some (.int x42)]) C d_Mod_firstWays_83 (Nat.le_of_ble_eq_true rfl) rfl ?_
                refine x_aload_n C d_Mod_firstWays_85 rfl ?_
                refine g_Mod_0 (p := 82) C rfl fl_Mod_9 d_Mod_firstWays_86 ?_
                refine x_iload C d_Mod_firstWays_89 rfl ?_
                refine x_iconst (v := 4) C d_Mod_firstWays_91 rfl ?_
                refine x_callS (As := [.int x24, .int 4]) (rest := [.ref (xa X 83)]) C (m_Mod_atBody (xg X) C.2.2.2.2.2.2.1 x24 4 s25 _ hw) cw_Mod_atBody ml_Mod_59 rfl ⟨rfl, rfl, Nat.le_of_ble_eq_true rfl, Nat.le_of_ble_eq_true rfl⟩ ⟨Nat.zero_le _, Nat.zero_le _⟩ rfl (Nat.le_of_ble_eq_true rfl) d_Mod_firstWays_92 ?_
                rintro _ _ ⟨x43, rfl, rfl, hw⟩
                show V X _ _ _ _ 95 [some (.ref (xa X 82)), some (.int x14), some (.int x15), some (.int x16), some (.int x23), some (.int x24), some (.int x42)] [.int x43, .ref (xa X 83)]
                refine x_iload C d_Mod_firstWays_95 rfl ?_
                obtain ⟨h45, hw⟩ := hw
                refine x_iast (p := 83) (n := 78) C rfl h45 d_Mod_firstWays_97 ?_
                refine x_st (fun s46 hs46 => ?_)
                have hw := hw s46 hs46
                refine x_bipush (v := 10) C d_Mod_firstWays_98 rfl ?_
                refine x_iload C d_Mod_firstWays_100 rfl ?_
                refine x_imul C d_Mod_firstWays_102 ?_
                refine x_iload C d_Mod_firstWays_103 rfl ?_
                refine x_iadd C d_Mod_firstWays_105 ?_
                refine x_nm (fun x47 hx47 => ?_)
                have hw := hw x47 hx47
                refine x_istore (L' := [some (.ref (xa X 82)), some (.int x14), some (.int x15), some (.int x16), some (.int x47), some (.int x24), some (.int x42)]) C d_Mod_firstWays_106 (Nat.le_of_ble_eq_true rfl) rfl ?_
                obtain ⟨x48, hx48⟩ : ∃ z : Int32, z = x24 + 1 := ⟨_, rfl⟩
                refine x_iinc (v := x48) (L' := [some (.ref (xa X 82)), some (.int x14), some (.int x15), some (.int x16), some (.int x47), some (.int x48), some (.int x42)]) C d_Mod_firstWays_108 (Nat.le_of_ble_eq_true rfl) rfl (by rw [hx48]; rfl) rfl ?_
                have hw := hw x48 hx48
                refine x_goto (tgt := 55) C d_Mod_firstWays_111 (by decide) ?_
                obtain ⟨m49, hm49, hw⟩ := hw
                exact x_wk (ihI26 m49 hm49 x47 x48 s46 hw) (And.intro rfl (And.intro rfl (And.intro rfl (And.intro rfl (And.intro rfl (And.intro rfl (trivial)))))))
          exact x_wk (lI26 n27 0 0 s17 hn27) (And.intro rfl (And.intro rfl (And.intro rfl (And.intro rfl (And.intro rfl (And.intro rfl (trivial)))))))
    exact x_wk (lI18 n19 0 (-1) 0 s13 hn19) (And.intro rfl (And.intro rfl (And.intro rfl (And.intro rfl (trivial)))))
  · have hw := hw.2 c11
    refine x_bipush (v := (-3)) C d_Mod_firstWays_10 rfl ?_
    exact x_ireturn C d_Mod_firstWays_12 ⟨_, rfl, hw⟩
def vc_Mod_leastOf (x0 : Int32) (Q : Int32 → Prop) : Prop :=
    ((¬ x0 = 0 → ((¬ x0 = 1 → Q (-2147483648)) ∧ (x0 = 1 → Q (-32768)))) ∧ (x0 = 0 → Q (-128)))
def rm_Mod_leastOf : Room := { frames := 0, cells := 0, slots := 0, locals := 0 }
set_option maxHeartbeats 4000000 in
set_option maxRecDepth 20000 in
theorem m_Mod_leastOf (g : Gx) (hg : gOk g) (x0 : Int32)  (s : St) (Q : Int32 → Prop) (hw : vc_Mod_leastOf x0 Q) : Mc g y_Mod_leastOf b_Mod_leastOf 1 (some FieldType.int) rm_Mod_leastOf [.int x0] s (fun v s' => ∃ r : Int32, v = some (.int r) ∧ s = s' ∧ Q r) := by
  refine mc_ofV (j := 0) (L := [some (.int x0)]) hg (by decide) (Nat.le_of_ble_eq_true rfl) rfl ?_
  intro X hX C
  subst hX
  unfold vc_Mod_leastOf at hw
  refine x_iload_n C d_Mod_leastOf_0 rfl ?_
  refine x_if_ne (tgt := 9) C d_Mod_leastOf_1 (by decide) (fun c10 => ?_) (fun c10 => ?_)
  · have hw := hw.1 c10
    refine x_iload_n C d_Mod_leastOf_9 rfl ?_
    refine x_iconst (v := 1) C d_Mod_leastOf_10 rfl ?_
    refine x_icmp_ne (tgt := 20) C d_Mod_leastOf_11 (by decide) (fun c11 => ?_) (fun c11 => ?_)
    · have hw := hw.1 c11
      refine x_ldcw (v := (-2147483648)) C d_Mod_leastOf_20 lc_Mod_256 ?_
      exact x_ireturn C d_Mod_leastOf_23 ⟨_, rfl, rfl, hw⟩
    · have hw := hw.2 c11
      refine x_sipush (v := (-32768)) C d_Mod_leastOf_14 rfl ?_
      refine x_goto (tgt := 23) C d_Mod_leastOf_17 (by decide) ?_
      exact x_ireturn C d_Mod_leastOf_23 ⟨_, rfl, rfl, hw⟩
  · have hw := hw.2 c10
    refine x_bipush (v := (-128)) C d_Mod_leastOf_4 rfl ?_
    refine x_goto (tgt := 23) C d_Mod_leastOf_6 (by decide) ?_
    exact x_ireturn C d_Mod_leastOf_23 ⟨_, rfl, rfl, hw⟩
