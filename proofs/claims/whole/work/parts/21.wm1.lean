theorem d_Mod_readsNumber_0 : decode b_Mod_readsNumber 0 = .ok (.aload_n 0, 1) := by decide +kernel
theorem d_Mod_readsNumber_1 : decode b_Mod_readsNumber 1 = .ok (.getfield 25, 3) := by decide +kernel
theorem d_Mod_readsNumber_4 : decode b_Mod_readsNumber 4 = .ok (.iload_n 1, 1) := by decide +kernel
theorem d_Mod_readsNumber_5 : decode b_Mod_readsNumber 5 = .ok (.iconst 0, 1) := by decide +kernel
theorem d_Mod_readsNumber_6 : decode b_Mod_readsNumber 6 = .ok (.iastore, 1) := by decide +kernel
theorem d_Mod_readsNumber_7 : decode b_Mod_readsNumber 7 = .ok (.iconst 0, 1) := by decide +kernel
theorem d_Mod_readsNumber_8 : decode b_Mod_readsNumber 8 = .ok (.istore_n 3, 1) := by decide +kernel
theorem d_Mod_readsNumber_9 : decode b_Mod_readsNumber 9 = .ok (.iload_n 3, 1) := by decide +kernel
theorem d_Mod_readsNumber_10 : decode b_Mod_readsNumber 10 = .ok (.iload_n 2, 1) := by decide +kernel
theorem d_Mod_readsNumber_11 : decode b_Mod_readsNumber 11 = .ok (.if_icmp .ge 58, 3) := by decide +kernel
theorem d_Mod_readsNumber_14 : decode b_Mod_readsNumber 14 = .ok (.aload_n 0, 1) := by decide +kernel
theorem d_Mod_readsNumber_15 : decode b_Mod_readsNumber 15 = .ok (.invokevirtual 164, 3) := by decide +kernel
theorem d_Mod_readsNumber_18 : decode b_Mod_readsNumber 18 = .ok (.bipush 48, 2) := by decide +kernel
theorem d_Mod_readsNumber_20 : decode b_Mod_readsNumber 20 = .ok (.bipush 57, 2) := by decide +kernel
theorem d_Mod_readsNumber_22 : decode b_Mod_readsNumber 22 = .ok (.invokestatic 55, 3) := by decide +kernel
theorem d_Mod_readsNumber_25 : decode b_Mod_readsNumber 25 = .ok (.ifCond .ne 5, 3) := by decide +kernel
theorem d_Mod_readsNumber_28 : decode b_Mod_readsNumber 28 = .ok (.iconst 0, 1) := by decide +kernel
theorem d_Mod_readsNumber_29 : decode b_Mod_readsNumber 29 = .ok (.ireturn, 1) := by decide +kernel
theorem d_Mod_readsNumber_30 : decode b_Mod_readsNumber 30 = .ok (.aload_n 0, 1) := by decide +kernel
theorem d_Mod_readsNumber_31 : decode b_Mod_readsNumber 31 = .ok (.getfield 25, 3) := by decide +kernel
theorem d_Mod_readsNumber_34 : decode b_Mod_readsNumber 34 = .ok (.iload_n 1, 1) := by decide +kernel
theorem d_Mod_readsNumber_35 : decode b_Mod_readsNumber 35 = .ok (.bipush 10, 2) := by decide +kernel
theorem d_Mod_readsNumber_37 : decode b_Mod_readsNumber 37 = .ok (.aload_n 0, 1) := by decide +kernel
theorem d_Mod_readsNumber_38 : decode b_Mod_readsNumber 38 = .ok (.getfield 25, 3) := by decide +kernel
theorem d_Mod_readsNumber_41 : decode b_Mod_readsNumber 41 = .ok (.iload_n 1, 1) := by decide +kernel
theorem d_Mod_readsNumber_42 : decode b_Mod_readsNumber 42 = .ok (.iaload, 1) := by decide +kernel
theorem d_Mod_readsNumber_43 : decode b_Mod_readsNumber 43 = .ok (.imul, 1) := by decide +kernel
theorem d_Mod_readsNumber_44 : decode b_Mod_readsNumber 44 = .ok (.aload_n 0, 1) := by decide +kernel
theorem d_Mod_readsNumber_45 : decode b_Mod_readsNumber 45 = .ok (.invokevirtual 164, 3) := by decide +kernel
theorem d_Mod_readsNumber_48 : decode b_Mod_readsNumber 48 = .ok (.iadd, 1) := by decide +kernel
theorem d_Mod_readsNumber_49 : decode b_Mod_readsNumber 49 = .ok (.bipush 48, 2) := by decide +kernel
theorem d_Mod_readsNumber_51 : decode b_Mod_readsNumber 51 = .ok (.isub, 1) := by decide +kernel
theorem d_Mod_readsNumber_52 : decode b_Mod_readsNumber 52 = .ok (.iastore, 1) := by decide +kernel
theorem d_Mod_readsNumber_53 : decode b_Mod_readsNumber 53 = .ok (.aload_n 0, 1) := by decide +kernel
theorem d_Mod_readsNumber_54 : decode b_Mod_readsNumber 54 = .ok (.dup, 1) := by decide +kernel
theorem d_Mod_readsNumber_55 : decode b_Mod_readsNumber 55 = .ok (.getfield 155, 3) := by decide +kernel
theorem d_Mod_readsNumber_58 : decode b_Mod_readsNumber 58 = .ok (.iconst 1, 1) := by decide +kernel
theorem d_Mod_readsNumber_59 : decode b_Mod_readsNumber 59 = .ok (.iadd, 1) := by decide +kernel
theorem d_Mod_readsNumber_60 : decode b_Mod_readsNumber 60 = .ok (.putfield 155, 3) := by decide +kernel
theorem d_Mod_readsNumber_63 : decode b_Mod_readsNumber 63 = .ok (.iinc 3 1, 3) := by decide +kernel
theorem d_Mod_readsNumber_66 : decode b_Mod_readsNumber 66 = .ok (.goto (-57), 3) := by decide +kernel
theorem d_Mod_readsNumber_69 : decode b_Mod_readsNumber 69 = .ok (.iconst 1, 1) := by decide +kernel
theorem d_Mod_readsNumber_70 : decode b_Mod_readsNumber 70 = .ok (.ireturn, 1) := by decide +kernel
theorem d_Mod_readsStatement_0 : decode b_Mod_readsStatement 0 = .ok (.aload_n 0, 1) := by decide +kernel
theorem d_Mod_readsStatement_1 : decode b_Mod_readsStatement 1 = .ok (.invokevirtual 164, 3) := by decide +kernel
theorem d_Mod_readsStatement_4 : decode b_Mod_readsStatement 4 = .ok (.istore_n 1, 1) := by decide +kernel
theorem d_Mod_readsStatement_5 : decode b_Mod_readsStatement 5 = .ok (.aload_n 0, 1) := by decide +kernel
theorem d_Mod_readsStatement_6 : decode b_Mod_readsStatement 6 = .ok (.dup, 1) := by decide +kernel
theorem d_Mod_readsStatement_7 : decode b_Mod_readsStatement 7 = .ok (.getfield 155, 3) := by decide +kernel
theorem d_Mod_readsStatement_10 : decode b_Mod_readsStatement 10 = .ok (.iconst 1, 1) := by decide +kernel
theorem d_Mod_readsStatement_11 : decode b_Mod_readsStatement 11 = .ok (.iadd, 1) := by decide +kernel
theorem d_Mod_readsStatement_12 : decode b_Mod_readsStatement 12 = .ok (.putfield 155, 3) := by decide +kernel
theorem d_Mod_readsStatement_15 : decode b_Mod_readsStatement 15 = .ok (.iload_n 1, 1) := by decide +kernel
theorem d_Mod_readsStatement_16 : decode b_Mod_readsStatement 16 = .ok (.tableswitch 250 98 121 #[148, 230, 250, 250, 250, 250, 250, 250, 250, 250, 240, 250, 250, 250, 193, 250, 220, 250, 230, 250, 250, 250, 193, 112], 112) := by decide +kernel
theorem d_Mod_readsStatement_128 : decode b_Mod_readsStatement 128 = .ok (.aload_n 0, 1) := by decide +kernel
theorem d_Mod_readsStatement_129 : decode b_Mod_readsStatement 129 = .ok (.iconst 0, 1) := by decide +kernel
theorem d_Mod_readsStatement_130 : decode b_Mod_readsStatement 130 = .ok (.iconst 1, 1) := by decide +kernel
theorem d_Mod_readsStatement_131 : decode b_Mod_readsStatement 131 = .ok (.invokevirtual 168, 3) := by decide +kernel
theorem d_Mod_readsStatement_134 : decode b_Mod_readsStatement 134 = .ok (.ifCond .eq 25, 3) := by decide +kernel
theorem d_Mod_readsStatement_137 : decode b_Mod_readsStatement 137 = .ok (.aload_n 0, 1) := by decide +kernel
theorem d_Mod_readsStatement_138 : decode b_Mod_readsStatement 138 = .ok (.iconst 1, 1) := by decide +kernel
theorem d_Mod_readsStatement_139 : decode b_Mod_readsStatement 139 = .ok (.iconst 1, 1) := by decide +kernel
theorem d_Mod_readsStatement_140 : decode b_Mod_readsStatement 140 = .ok (.invokevirtual 168, 3) := by decide +kernel
theorem d_Mod_readsStatement_143 : decode b_Mod_readsStatement 143 = .ok (.ifCond .eq 16, 3) := by decide +kernel
theorem d_Mod_readsStatement_146 : decode b_Mod_readsStatement 146 = .ok (.aload_n 0, 1) := by decide +kernel
theorem d_Mod_readsStatement_147 : decode b_Mod_readsStatement 147 = .ok (.iconst 2, 1) := by decide +kernel
theorem d_Mod_readsStatement_148 : decode b_Mod_readsStatement 148 = .ok (.iconst 2, 1) := by decide +kernel
theorem d_Mod_readsStatement_149 : decode b_Mod_readsStatement 149 = .ok (.invokevirtual 168, 3) := by decide +kernel
theorem d_Mod_readsStatement_152 : decode b_Mod_readsStatement 152 = .ok (.ifCond .eq 7, 3) := by decide +kernel
theorem d_Mod_readsStatement_155 : decode b_Mod_readsStatement 155 = .ok (.iconst 1, 1) := by decide +kernel
theorem d_Mod_readsStatement_156 : decode b_Mod_readsStatement 156 = .ok (.goto 4, 3) := by decide +kernel
theorem d_Mod_readsStatement_159 : decode b_Mod_readsStatement 159 = .ok (.iconst 0, 1) := by decide +kernel
theorem d_Mod_readsStatement_160 : decode b_Mod_readsStatement 160 = .ok (.istore_n 2, 1) := by decide +kernel
theorem d_Mod_readsStatement_161 : decode b_Mod_readsStatement 161 = .ok (.goto 117, 3) := by decide +kernel
theorem d_Mod_readsStatement_164 : decode b_Mod_readsStatement 164 = .ok (.aload_n 0, 1) := by decide +kernel
theorem d_Mod_readsStatement_165 : decode b_Mod_readsStatement 165 = .ok (.iconst 0, 1) := by decide +kernel
theorem d_Mod_readsStatement_166 : decode b_Mod_readsStatement 166 = .ok (.iconst 2, 1) := by decide +kernel
theorem d_Mod_readsStatement_167 : decode b_Mod_readsStatement 167 = .ok (.invokevirtual 168, 3) := by decide +kernel
theorem d_Mod_readsStatement_170 : decode b_Mod_readsStatement 170 = .ok (.ifCond .eq 34, 3) := by decide +kernel
theorem d_Mod_readsStatement_173 : decode b_Mod_readsStatement 173 = .ok (.aload_n 0, 1) := by decide +kernel
theorem d_Mod_readsStatement_174 : decode b_Mod_readsStatement 174 = .ok (.iconst 1, 1) := by decide +kernel
theorem d_Mod_readsStatement_175 : decode b_Mod_readsStatement 175 = .ok (.iconst 1, 1) := by decide +kernel
theorem d_Mod_readsStatement_176 : decode b_Mod_readsStatement 176 = .ok (.invokevirtual 168, 3) := by decide +kernel
theorem d_Mod_readsStatement_179 : decode b_Mod_readsStatement 179 = .ok (.ifCond .eq 25, 3) := by decide +kernel
theorem d_Mod_readsStatement_182 : decode b_Mod_readsStatement 182 = .ok (.aload_n 0, 1) := by decide +kernel
theorem d_Mod_readsStatement_183 : decode b_Mod_readsStatement 183 = .ok (.iconst 2, 1) := by decide +kernel
theorem d_Mod_readsStatement_184 : decode b_Mod_readsStatement 184 = .ok (.iconst 1, 1) := by decide +kernel
theorem d_Mod_readsStatement_185 : decode b_Mod_readsStatement 185 = .ok (.invokevirtual 168, 3) := by decide +kernel
theorem d_Mod_readsStatement_188 : decode b_Mod_readsStatement 188 = .ok (.ifCond .eq 16, 3) := by decide +kernel
theorem d_Mod_readsStatement_191 : decode b_Mod_readsStatement 191 = .ok (.aload_n 0, 1) := by decide +kernel
theorem d_Mod_readsStatement_192 : decode b_Mod_readsStatement 192 = .ok (.iconst 3, 1) := by decide +kernel
theorem d_Mod_readsStatement_193 : decode b_Mod_readsStatement 193 = .ok (.iconst 1, 1) := by decide +kernel
theorem d_Mod_readsStatement_194 : decode b_Mod_readsStatement 194 = .ok (.invokevirtual 168, 3) := by decide +kernel
theorem d_Mod_readsStatement_197 : decode b_Mod_readsStatement 197 = .ok (.ifCond .eq 7, 3) := by decide +kernel
theorem d_Mod_readsStatement_200 : decode b_Mod_readsStatement 200 = .ok (.iconst 1, 1) := by decide +kernel
theorem d_Mod_readsStatement_201 : decode b_Mod_readsStatement 201 = .ok (.goto 4, 3) := by decide +kernel
theorem d_Mod_readsStatement_204 : decode b_Mod_readsStatement 204 = .ok (.iconst 0, 1) := by decide +kernel
theorem d_Mod_readsStatement_205 : decode b_Mod_readsStatement 205 = .ok (.istore_n 2, 1) := by decide +kernel
theorem d_Mod_readsStatement_206 : decode b_Mod_readsStatement 206 = .ok (.goto 72, 3) := by decide +kernel
theorem d_Mod_readsStatement_209 : decode b_Mod_readsStatement 209 = .ok (.aload_n 0, 1) := by decide +kernel
theorem d_Mod_readsStatement_210 : decode b_Mod_readsStatement 210 = .ok (.iconst 0, 1) := by decide +kernel
theorem d_Mod_readsStatement_211 : decode b_Mod_readsStatement 211 = .ok (.iconst 1, 1) := by decide +kernel
theorem d_Mod_readsStatement_212 : decode b_Mod_readsStatement 212 = .ok (.invokevirtual 168, 3) := by decide +kernel
theorem d_Mod_readsStatement_215 : decode b_Mod_readsStatement 215 = .ok (.ifCond .eq 16, 3) := by decide +kernel
theorem d_Mod_readsStatement_218 : decode b_Mod_readsStatement 218 = .ok (.aload_n 0, 1) := by decide +kernel
theorem d_Mod_readsStatement_219 : decode b_Mod_readsStatement 219 = .ok (.iconst 1, 1) := by decide +kernel
theorem d_Mod_readsStatement_220 : decode b_Mod_readsStatement 220 = .ok (.iconst 1, 1) := by decide +kernel
theorem d_Mod_readsStatement_221 : decode b_Mod_readsStatement 221 = .ok (.invokevirtual 168, 3) := by decide +kernel
theorem d_Mod_readsStatement_224 : decode b_Mod_readsStatement 224 = .ok (.ifCond .eq 7, 3) := by decide +kernel
theorem d_Mod_readsStatement_227 : decode b_Mod_readsStatement 227 = .ok (.iconst 1, 1) := by decide +kernel
theorem d_Mod_readsStatement_228 : decode b_Mod_readsStatement 228 = .ok (.goto 4, 3) := by decide +kernel
theorem d_Mod_readsStatement_231 : decode b_Mod_readsStatement 231 = .ok (.iconst 0, 1) := by decide +kernel
theorem d_Mod_readsStatement_232 : decode b_Mod_readsStatement 232 = .ok (.istore_n 2, 1) := by decide +kernel
theorem d_Mod_readsStatement_233 : decode b_Mod_readsStatement 233 = .ok (.goto 45, 3) := by decide +kernel
theorem d_Mod_readsStatement_236 : decode b_Mod_readsStatement 236 = .ok (.aload_n 0, 1) := by decide +kernel
theorem d_Mod_readsStatement_237 : decode b_Mod_readsStatement 237 = .ok (.iconst 0, 1) := by decide +kernel
theorem d_Mod_readsStatement_238 : decode b_Mod_readsStatement 238 = .ok (.iconst 1, 1) := by decide +kernel
theorem d_Mod_readsStatement_239 : decode b_Mod_readsStatement 239 = .ok (.invokevirtual 168, 3) := by decide +kernel
theorem d_Mod_readsStatement_242 : decode b_Mod_readsStatement 242 = .ok (.istore_n 2, 1) := by decide +kernel
theorem d_Mod_readsStatement_243 : decode b_Mod_readsStatement 243 = .ok (.goto 35, 3) := by decide +kernel
theorem d_Mod_readsStatement_246 : decode b_Mod_readsStatement 246 = .ok (.aload_n 0, 1) := by decide +kernel
theorem d_Mod_readsStatement_247 : decode b_Mod_readsStatement 247 = .ok (.iconst 0, 1) := by decide +kernel
theorem d_Mod_readsStatement_248 : decode b_Mod_readsStatement 248 = .ok (.iconst 2, 1) := by decide +kernel
theorem d_Mod_readsStatement_249 : decode b_Mod_readsStatement 249 = .ok (.invokevirtual 168, 3) := by decide +kernel
theorem d_Mod_readsStatement_252 : decode b_Mod_readsStatement 252 = .ok (.istore_n 2, 1) := by decide +kernel
theorem d_Mod_readsStatement_253 : decode b_Mod_readsStatement 253 = .ok (.goto 25, 3) := by decide +kernel
theorem d_Mod_readsStatement_256 : decode b_Mod_readsStatement 256 = .ok (.aload_n 0, 1) := by decide +kernel
theorem d_Mod_readsStatement_257 : decode b_Mod_readsStatement 257 = .ok (.iconst 0, 1) := by decide +kernel
theorem d_Mod_readsStatement_258 : decode b_Mod_readsStatement 258 = .ok (.iconst 3, 1) := by decide +kernel
theorem d_Mod_readsStatement_259 : decode b_Mod_readsStatement 259 = .ok (.invokevirtual 168, 3) := by decide +kernel
theorem d_Mod_readsStatement_262 : decode b_Mod_readsStatement 262 = .ok (.istore_n 2, 1) := by decide +kernel
theorem d_Mod_readsStatement_263 : decode b_Mod_readsStatement 263 = .ok (.goto 15, 3) := by decide +kernel
theorem d_Mod_readsStatement_266 : decode b_Mod_readsStatement 266 = .ok (.aload_n 0, 1) := by decide +kernel
theorem d_Mod_readsStatement_267 : decode b_Mod_readsStatement 267 = .ok (.dup, 1) := by decide +kernel
theorem d_Mod_readsStatement_268 : decode b_Mod_readsStatement 268 = .ok (.getfield 155, 3) := by decide +kernel
theorem d_Mod_readsStatement_271 : decode b_Mod_readsStatement 271 = .ok (.iconst 1, 1) := by decide +kernel
theorem d_Mod_readsStatement_272 : decode b_Mod_readsStatement 272 = .ok (.isub, 1) := by decide +kernel
theorem d_Mod_readsStatement_273 : decode b_Mod_readsStatement 273 = .ok (.putfield 155, 3) := by decide +kernel
theorem d_Mod_readsStatement_276 : decode b_Mod_readsStatement 276 = .ok (.iconst 0, 1) := by decide +kernel
theorem d_Mod_readsStatement_277 : decode b_Mod_readsStatement 277 = .ok (.ireturn, 1) := by decide +kernel
theorem d_Mod_readsStatement_278 : decode b_Mod_readsStatement 278 = .ok (.iload_n 2, 1) := by decide +kernel
theorem d_Mod_readsStatement_279 : decode b_Mod_readsStatement 279 = .ok (.ifCond .eq 12, 3) := by decide +kernel
theorem d_Mod_readsStatement_282 : decode b_Mod_readsStatement 282 = .ok (.aload_n 0, 1) := by decide +kernel
theorem d_Mod_readsStatement_283 : decode b_Mod_readsStatement 283 = .ok (.invokevirtual 164, 3) := by decide +kernel
theorem d_Mod_readsStatement_286 : decode b_Mod_readsStatement 286 = .ok (.bipush 59, 2) := by decide +kernel
theorem d_Mod_readsStatement_288 : decode b_Mod_readsStatement 288 = .ok (.if_icmp .eq 5, 3) := by decide +kernel
theorem d_Mod_readsStatement_291 : decode b_Mod_readsStatement 291 = .ok (.iconst 0, 1) := by decide +kernel
theorem d_Mod_readsStatement_292 : decode b_Mod_readsStatement 292 = .ok (.ireturn, 1) := by decide +kernel
theorem d_Mod_readsStatement_293 : decode b_Mod_readsStatement 293 = .ok (.aload_n 0, 1) := by decide +kernel
theorem d_Mod_readsStatement_294 : decode b_Mod_readsStatement 294 = .ok (.dup, 1) := by decide +kernel
theorem d_Mod_readsStatement_295 : decode b_Mod_readsStatement 295 = .ok (.getfield 155, 3) := by decide +kernel
theorem d_Mod_readsStatement_298 : decode b_Mod_readsStatement 298 = .ok (.iconst 1, 1) := by decide +kernel
theorem d_Mod_readsStatement_299 : decode b_Mod_readsStatement 299 = .ok (.iadd, 1) := by decide +kernel
theorem d_Mod_readsStatement_300 : decode b_Mod_readsStatement 300 = .ok (.putfield 155, 3) := by decide +kernel
theorem d_Mod_readsStatement_303 : decode b_Mod_readsStatement 303 = .ok (.iconst 1, 1) := by decide +kernel
theorem d_Mod_readsStatement_304 : decode b_Mod_readsStatement 304 = .ok (.ireturn, 1) := by decide +kernel
theorem d_Mod_addsYard_0 : decode b_Mod_addsYard 0 = .ok (.aload_n 0, 1) := by decide +kernel
theorem d_Mod_addsYard_1 : decode b_Mod_addsYard 1 = .ok (.getfield 9, 3) := by decide +kernel
theorem d_Mod_addsYard_4 : decode b_Mod_addsYard 4 = .ok (.aload_n 0, 1) := by decide +kernel
theorem d_Mod_addsYard_5 : decode b_Mod_addsYard 5 = .ok (.getfield 9, 3) := by decide +kernel
theorem d_Mod_addsYard_8 : decode b_Mod_addsYard 8 = .ok (.iconst 0, 1) := by decide +kernel
theorem d_Mod_addsYard_9 : decode b_Mod_addsYard 9 = .ok (.iaload, 1) := by decide +kernel
theorem d_Mod_addsYard_10 : decode b_Mod_addsYard 10 = .ok (.iconst 0, 1) := by decide +kernel
theorem d_Mod_addsYard_11 : decode b_Mod_addsYard 11 = .ok (.invokestatic 63, 3) := by decide +kernel
theorem d_Mod_addsYard_14 : decode b_Mod_addsYard 14 = .ok (.iload_n 1, 1) := by decide +kernel
theorem d_Mod_addsYard_15 : decode b_Mod_addsYard 15 = .ok (.iastore, 1) := by decide +kernel
theorem d_Mod_addsYard_16 : decode b_Mod_addsYard 16 = .ok (.aload_n 0, 1) := by decide +kernel
theorem d_Mod_addsYard_17 : decode b_Mod_addsYard 17 = .ok (.getfield 9, 3) := by decide +kernel
theorem d_Mod_addsYard_20 : decode b_Mod_addsYard 20 = .ok (.aload_n 0, 1) := by decide +kernel
theorem d_Mod_addsYard_21 : decode b_Mod_addsYard 21 = .ok (.getfield 9, 3) := by decide +kernel
theorem d_Mod_addsYard_24 : decode b_Mod_addsYard 24 = .ok (.iconst 0, 1) := by decide +kernel
theorem d_Mod_addsYard_25 : decode b_Mod_addsYard 25 = .ok (.iaload, 1) := by decide +kernel
theorem d_Mod_addsYard_26 : decode b_Mod_addsYard 26 = .ok (.iconst 1, 1) := by decide +kernel
theorem d_Mod_addsYard_27 : decode b_Mod_addsYard 27 = .ok (.invokestatic 63, 3) := by decide +kernel
theorem d_Mod_addsYard_30 : decode b_Mod_addsYard 30 = .ok (.iload_n 2, 1) := by decide +kernel
theorem d_Mod_addsYard_31 : decode b_Mod_addsYard 31 = .ok (.iastore, 1) := by decide +kernel
theorem d_Mod_addsYard_32 : decode b_Mod_addsYard 32 = .ok (.aload_n 0, 1) := by decide +kernel
theorem d_Mod_addsYard_33 : decode b_Mod_addsYard 33 = .ok (.getfield 9, 3) := by decide +kernel
theorem d_Mod_addsYard_36 : decode b_Mod_addsYard 36 = .ok (.aload_n 0, 1) := by decide +kernel
theorem d_Mod_addsYard_37 : decode b_Mod_addsYard 37 = .ok (.getfield 9, 3) := by decide +kernel
theorem d_Mod_addsYard_40 : decode b_Mod_addsYard 40 = .ok (.iconst 0, 1) := by decide +kernel
theorem d_Mod_addsYard_41 : decode b_Mod_addsYard 41 = .ok (.iaload, 1) := by decide +kernel
theorem d_Mod_addsYard_42 : decode b_Mod_addsYard 42 = .ok (.iconst 2, 1) := by decide +kernel
theorem d_Mod_addsYard_43 : decode b_Mod_addsYard 43 = .ok (.invokestatic 63, 3) := by decide +kernel
theorem d_Mod_addsYard_46 : decode b_Mod_addsYard 46 = .ok (.iload_n 3, 1) := by decide +kernel
theorem d_Mod_addsYard_47 : decode b_Mod_addsYard 47 = .ok (.iastore, 1) := by decide +kernel
theorem d_Mod_addsYard_48 : decode b_Mod_addsYard 48 = .ok (.aload_n 0, 1) := by decide +kernel
theorem d_Mod_addsYard_49 : decode b_Mod_addsYard 49 = .ok (.getfield 9, 3) := by decide +kernel
theorem d_Mod_addsYard_52 : decode b_Mod_addsYard 52 = .ok (.iconst 0, 1) := by decide +kernel
theorem d_Mod_addsYard_53 : decode b_Mod_addsYard 53 = .ok (.dup2, 1) := by decide +kernel
theorem d_Mod_addsYard_54 : decode b_Mod_addsYard 54 = .ok (.iaload, 1) := by decide +kernel
theorem d_Mod_addsYard_55 : decode b_Mod_addsYard 55 = .ok (.iconst 1, 1) := by decide +kernel
theorem d_Mod_addsYard_56 : decode b_Mod_addsYard 56 = .ok (.iadd, 1) := by decide +kernel
theorem d_Mod_addsYard_57 : decode b_Mod_addsYard 57 = .ok (.iastore, 1) := by decide +kernel
theorem d_Mod_addsYard_58 : decode b_Mod_addsYard 58 = .ok (.return_, 1) := by decide +kernel
theorem d_Mod_placeOf_0 : decode b_Mod_placeOf 0 = .ok (.iconst 0, 1) := by decide +kernel
theorem d_Mod_placeOf_1 : decode b_Mod_placeOf 1 = .ok (.istore_n 2, 1) := by decide +kernel
theorem d_Mod_placeOf_2 : decode b_Mod_placeOf 2 = .ok (.iload_n 2, 1) := by decide +kernel
theorem d_Mod_placeOf_3 : decode b_Mod_placeOf 3 = .ok (.aload_n 0, 1) := by decide +kernel
theorem d_Mod_placeOf_4 : decode b_Mod_placeOf 4 = .ok (.getfield 9, 3) := by decide +kernel
theorem d_Mod_placeOf_7 : decode b_Mod_placeOf 7 = .ok (.iconst 1, 1) := by decide +kernel
theorem d_Mod_placeOf_8 : decode b_Mod_placeOf 8 = .ok (.iaload, 1) := by decide +kernel
theorem d_Mod_placeOf_9 : decode b_Mod_placeOf 9 = .ok (.if_icmp .ge 24, 3) := by decide +kernel
theorem d_Mod_placeOf_12 : decode b_Mod_placeOf 12 = .ok (.aload_n 0, 1) := by decide +kernel
theorem d_Mod_placeOf_13 : decode b_Mod_placeOf 13 = .ok (.getfield 9, 3) := by decide +kernel
theorem d_Mod_placeOf_16 : decode b_Mod_placeOf 16 = .ok (.bipush 72, 2) := by decide +kernel
theorem d_Mod_placeOf_18 : decode b_Mod_placeOf 18 = .ok (.iload_n 2, 1) := by decide +kernel
theorem d_Mod_placeOf_19 : decode b_Mod_placeOf 19 = .ok (.iadd, 1) := by decide +kernel
theorem d_Mod_placeOf_20 : decode b_Mod_placeOf 20 = .ok (.iaload, 1) := by decide +kernel
theorem d_Mod_placeOf_21 : decode b_Mod_placeOf 21 = .ok (.iload_n 1, 1) := by decide +kernel
theorem d_Mod_placeOf_22 : decode b_Mod_placeOf 22 = .ok (.if_icmp .ne 5, 3) := by decide +kernel
theorem d_Mod_placeOf_25 : decode b_Mod_placeOf 25 = .ok (.iload_n 2, 1) := by decide +kernel
theorem d_Mod_placeOf_26 : decode b_Mod_placeOf 26 = .ok (.ireturn, 1) := by decide +kernel
theorem d_Mod_placeOf_27 : decode b_Mod_placeOf 27 = .ok (.iinc 2 1, 3) := by decide +kernel
theorem d_Mod_placeOf_30 : decode b_Mod_placeOf 30 = .ok (.goto (-28), 3) := by decide +kernel
theorem d_Mod_placeOf_33 : decode b_Mod_placeOf 33 = .ok (.bipush (-4), 2) := by decide +kernel
theorem d_Mod_placeOf_35 : decode b_Mod_placeOf 35 = .ok (.ireturn, 1) := by decide +kernel
theorem d_Mod_changes_0 : decode b_Mod_changes 0 = .ok (.aload_n 0, 1) := by decide +kernel
theorem d_Mod_changes_1 : decode b_Mod_changes 1 = .ok (.iload_n 1, 1) := by decide +kernel
theorem d_Mod_changes_2 : decode b_Mod_changes 2 = .ok (.invokevirtual 172, 3) := by decide +kernel
theorem d_Mod_changes_5 : decode b_Mod_changes 5 = .ok (.istore_n 3, 1) := by decide +kernel
theorem d_Mod_changes_6 : decode b_Mod_changes 6 = .ok (.aload_n 0, 1) := by decide +kernel
theorem d_Mod_changes_7 : decode b_Mod_changes 7 = .ok (.iload_n 2, 1) := by decide +kernel
theorem d_Mod_changes_8 : decode b_Mod_changes 8 = .ok (.invokevirtual 172, 3) := by decide +kernel
theorem d_Mod_changes_11 : decode b_Mod_changes 11 = .ok (.istore 4, 2) := by decide +kernel
theorem d_Mod_changes_13 : decode b_Mod_changes 13 = .ok (.aload_n 0, 1) := by decide +kernel
theorem d_Mod_changes_14 : decode b_Mod_changes 14 = .ok (.getfield 9, 3) := by decide +kernel
theorem d_Mod_changes_17 : decode b_Mod_changes 17 = .ok (.bipush 72, 2) := by decide +kernel
theorem d_Mod_changes_19 : decode b_Mod_changes 19 = .ok (.iload_n 3, 1) := by decide +kernel
theorem d_Mod_changes_20 : decode b_Mod_changes 20 = .ok (.iadd, 1) := by decide +kernel
theorem d_Mod_changes_21 : decode b_Mod_changes 21 = .ok (.iload_n 2, 1) := by decide +kernel
theorem d_Mod_changes_22 : decode b_Mod_changes 22 = .ok (.iastore, 1) := by decide +kernel
theorem d_Mod_changes_23 : decode b_Mod_changes 23 = .ok (.aload_n 0, 1) := by decide +kernel
theorem d_Mod_changes_24 : decode b_Mod_changes 24 = .ok (.getfield 9, 3) := by decide +kernel
theorem d_Mod_changes_27 : decode b_Mod_changes 27 = .ok (.bipush 72, 2) := by decide +kernel
theorem d_Mod_changes_29 : decode b_Mod_changes 29 = .ok (.iload 4, 2) := by decide +kernel
theorem d_Mod_changes_31 : decode b_Mod_changes 31 = .ok (.iadd, 1) := by decide +kernel
theorem d_Mod_changes_32 : decode b_Mod_changes 32 = .ok (.iload_n 1, 1) := by decide +kernel
theorem d_Mod_changes_33 : decode b_Mod_changes 33 = .ok (.iastore, 1) := by decide +kernel
theorem d_Mod_changes_34 : decode b_Mod_changes 34 = .ok (.return_, 1) := by decide +kernel
theorem d_Mod_isDone_0 : decode b_Mod_isDone 0 = .ok (.aload_n 0, 1) := by decide +kernel
theorem d_Mod_isDone_1 : decode b_Mod_isDone 1 = .ok (.getfield 25, 3) := by decide +kernel
theorem d_Mod_isDone_4 : decode b_Mod_isDone 4 = .ok (.iconst 0, 1) := by decide +kernel
theorem d_Mod_isDone_5 : decode b_Mod_isDone 5 = .ok (.iaload, 1) := by decide +kernel
theorem d_Mod_isDone_6 : decode b_Mod_isDone 6 = .ok (.istore_n 2, 1) := by decide +kernel
theorem d_Mod_isDone_7 : decode b_Mod_isDone 7 = .ok (.aload_n 0, 1) := by decide +kernel
theorem d_Mod_isDone_8 : decode b_Mod_isDone 8 = .ok (.getfield 25, 3) := by decide +kernel
theorem d_Mod_isDone_11 : decode b_Mod_isDone 11 = .ok (.iconst 1, 1) := by decide +kernel
theorem d_Mod_isDone_12 : decode b_Mod_isDone 12 = .ok (.iaload, 1) := by decide +kernel
theorem d_Mod_isDone_13 : decode b_Mod_isDone 13 = .ok (.istore_n 3, 1) := by decide +kernel
theorem d_Mod_isDone_14 : decode b_Mod_isDone 14 = .ok (.iload_n 1, 1) := by decide +kernel
theorem d_Mod_isDone_15 : decode b_Mod_isDone 15 = .ok (.tableswitch 360 98 121 #[158, 336, 360, 360, 360, 360, 360, 360, 360, 360, 351, 360, 360, 360, 268, 360, 327, 360, 360, 360, 360, 360, 296, 109], 109) := by decide +kernel
theorem d_Mod_isDone_124 : decode b_Mod_isDone 124 = .ok (.iload_n 2, 1) := by decide +kernel
theorem d_Mod_isDone_125 : decode b_Mod_isDone 125 = .ok (.bipush 8, 2) := by decide +kernel
theorem d_Mod_isDone_127 : decode b_Mod_isDone 127 = .ok (.if_icmp .ge 30, 3) := by decide +kernel
theorem d_Mod_isDone_130 : decode b_Mod_isDone 130 = .ok (.aload_n 0, 1) := by decide +kernel
theorem d_Mod_isDone_131 : decode b_Mod_isDone 131 = .ok (.getfield 25, 3) := by decide +kernel
theorem d_Mod_isDone_134 : decode b_Mod_isDone 134 = .ok (.iconst 2, 1) := by decide +kernel
theorem d_Mod_isDone_135 : decode b_Mod_isDone 135 = .ok (.iaload, 1) := by decide +kernel
theorem d_Mod_isDone_136 : decode b_Mod_isDone 136 = .ok (.bipush 6, 2) := by decide +kernel
theorem d_Mod_isDone_138 : decode b_Mod_isDone 138 = .ok (.bipush 40, 2) := by decide +kernel
theorem d_Mod_isDone_140 : decode b_Mod_isDone 140 = .ok (.invokestatic 55, 3) := by decide +kernel
theorem d_Mod_isDone_143 : decode b_Mod_isDone 143 = .ok (.ifCond .eq 14, 3) := by decide +kernel
theorem d_Mod_isDone_146 : decode b_Mod_isDone 146 = .ok (.aload_n 0, 1) := by decide +kernel
theorem d_Mod_isDone_147 : decode b_Mod_isDone 147 = .ok (.getfield 9, 3) := by decide +kernel
theorem d_Mod_isDone_150 : decode b_Mod_isDone 150 = .ok (.iconst 0, 1) := by decide +kernel
theorem d_Mod_isDone_151 : decode b_Mod_isDone 151 = .ok (.iaload, 1) := by decide +kernel
theorem d_Mod_isDone_152 : decode b_Mod_isDone 152 = .ok (.bipush 12, 2) := by decide +kernel
theorem d_Mod_isDone_154 : decode b_Mod_isDone 154 = .ok (.if_icmp .ne 5, 3) := by decide +kernel
theorem d_Mod_isDone_157 : decode b_Mod_isDone 157 = .ok (.iconst 0, 1) := by decide +kernel
theorem d_Mod_isDone_158 : decode b_Mod_isDone 158 = .ok (.ireturn, 1) := by decide +kernel
theorem d_Mod_isDone_159 : decode b_Mod_isDone 159 = .ok (.aload_n 0, 1) := by decide +kernel
theorem d_Mod_isDone_160 : decode b_Mod_isDone 160 = .ok (.iload_n 2, 1) := by decide +kernel
theorem d_Mod_isDone_161 : decode b_Mod_isDone 161 = .ok (.iload_n 3, 1) := by decide +kernel
theorem d_Mod_isDone_162 : decode b_Mod_isDone 162 = .ok (.aload_n 0, 1) := by decide +kernel
theorem d_Mod_isDone_163 : decode b_Mod_isDone 163 = .ok (.getfield 25, 3) := by decide +kernel
theorem d_Mod_isDone_166 : decode b_Mod_isDone 166 = .ok (.iconst 2, 1) := by decide +kernel
theorem d_Mod_isDone_167 : decode b_Mod_isDone 167 = .ok (.iaload, 1) := by decide +kernel
theorem d_Mod_isDone_168 : decode b_Mod_isDone 168 = .ok (.invokevirtual 175, 3) := by decide +kernel
theorem d_Mod_isDone_171 : decode b_Mod_isDone 171 = .ok (.iconst 1, 1) := by decide +kernel
theorem d_Mod_isDone_172 : decode b_Mod_isDone 172 = .ok (.ireturn, 1) := by decide +kernel
theorem d_Mod_isDone_173 : decode b_Mod_isDone 173 = .ok (.iload_n 2, 1) := by decide +kernel
theorem d_Mod_isDone_174 : decode b_Mod_isDone 174 = .ok (.bipush 10, 2) := by decide +kernel
theorem d_Mod_isDone_176 : decode b_Mod_isDone 176 = .ok (.bipush 50, 2) := by decide +kernel
theorem d_Mod_isDone_178 : decode b_Mod_isDone 178 = .ok (.invokestatic 55, 3) := by decide +kernel
theorem d_Mod_isDone_181 : decode b_Mod_isDone 181 = .ok (.ifCond .eq 14, 3) := by decide +kernel
theorem d_Mod_isDone_184 : decode b_Mod_isDone 184 = .ok (.aload_n 0, 1) := by decide +kernel
theorem d_Mod_isDone_185 : decode b_Mod_isDone 185 = .ok (.getfield 9, 3) := by decide +kernel
theorem d_Mod_isDone_188 : decode b_Mod_isDone 188 = .ok (.iconst 1, 1) := by decide +kernel
theorem d_Mod_isDone_189 : decode b_Mod_isDone 189 = .ok (.iaload, 1) := by decide +kernel
theorem d_Mod_isDone_190 : decode b_Mod_isDone 190 = .ok (.bipush 6, 2) := by decide +kernel
theorem d_Mod_isDone_192 : decode b_Mod_isDone 192 = .ok (.if_icmp .ne 5, 3) := by decide +kernel
theorem d_Mod_isDone_195 : decode b_Mod_isDone 195 = .ok (.iconst 0, 1) := by decide +kernel
theorem d_Mod_isDone_196 : decode b_Mod_isDone 196 = .ok (.ireturn, 1) := by decide +kernel
theorem d_Mod_isDone_197 : decode b_Mod_isDone 197 = .ok (.iconst 0, 1) := by decide +kernel
theorem d_Mod_isDone_198 : decode b_Mod_isDone 198 = .ok (.istore 4, 2) := by decide +kernel
theorem d_Mod_isDone_200 : decode b_Mod_isDone 200 = .ok (.iload 4, 2) := by decide +kernel
theorem d_Mod_isDone_202 : decode b_Mod_isDone 202 = .ok (.iconst 4, 1) := by decide +kernel
theorem d_Mod_isDone_203 : decode b_Mod_isDone 203 = .ok (.if_icmp .ge 32, 3) := by decide +kernel
theorem d_Mod_isDone_206 : decode b_Mod_isDone 206 = .ok (.aload_n 0, 1) := by decide +kernel
theorem d_Mod_isDone_207 : decode b_Mod_isDone 207 = .ok (.getfield 9, 3) := by decide +kernel
theorem d_Mod_isDone_210 : decode b_Mod_isDone 210 = .ok (.aload_n 0, 1) := by decide +kernel
theorem d_Mod_isDone_211 : decode b_Mod_isDone 211 = .ok (.getfield 9, 3) := by decide +kernel
theorem d_Mod_isDone_214 : decode b_Mod_isDone 214 = .ok (.iconst 1, 1) := by decide +kernel
theorem d_Mod_isDone_215 : decode b_Mod_isDone 215 = .ok (.iaload, 1) := by decide +kernel
theorem d_Mod_isDone_216 : decode b_Mod_isDone 216 = .ok (.iload 4, 2) := by decide +kernel
theorem d_Mod_isDone_218 : decode b_Mod_isDone 218 = .ok (.invokestatic 59, 3) := by decide +kernel
theorem d_Mod_isDone_221 : decode b_Mod_isDone 221 = .ok (.aload_n 0, 1) := by decide +kernel
theorem d_Mod_isDone_222 : decode b_Mod_isDone 222 = .ok (.getfield 25, 3) := by decide +kernel
theorem d_Mod_isDone_225 : decode b_Mod_isDone 225 = .ok (.iload 4, 2) := by decide +kernel
theorem d_Mod_isDone_227 : decode b_Mod_isDone 227 = .ok (.iaload, 1) := by decide +kernel
theorem d_Mod_isDone_228 : decode b_Mod_isDone 228 = .ok (.iastore, 1) := by decide +kernel
theorem d_Mod_isDone_229 : decode b_Mod_isDone 229 = .ok (.iinc 4 1, 3) := by decide +kernel
theorem d_Mod_isDone_232 : decode b_Mod_isDone 232 = .ok (.goto (-32), 3) := by decide +kernel
theorem d_Mod_isDone_235 : decode b_Mod_isDone 235 = .ok (.aload_n 0, 1) := by decide +kernel
theorem d_Mod_isDone_236 : decode b_Mod_isDone 236 = .ok (.getfield 9, 3) := by decide +kernel
theorem d_Mod_isDone_239 : decode b_Mod_isDone 239 = .ok (.aload_n 0, 1) := by decide +kernel
theorem d_Mod_isDone_240 : decode b_Mod_isDone 240 = .ok (.getfield 9, 3) := by decide +kernel
theorem d_Mod_isDone_243 : decode b_Mod_isDone 243 = .ok (.iconst 1, 1) := by decide +kernel
theorem d_Mod_isDone_244 : decode b_Mod_isDone 244 = .ok (.iaload, 1) := by decide +kernel
theorem d_Mod_isDone_245 : decode b_Mod_isDone 245 = .ok (.iconst 4, 1) := by decide +kernel
theorem d_Mod_isDone_246 : decode b_Mod_isDone 246 = .ok (.invokestatic 59, 3) := by decide +kernel
theorem d_Mod_isDone_249 : decode b_Mod_isDone 249 = .ok (.iconst 0, 1) := by decide +kernel
theorem d_Mod_isDone_250 : decode b_Mod_isDone 250 = .ok (.iastore, 1) := by decide +kernel
theorem d_Mod_isDone_251 : decode b_Mod_isDone 251 = .ok (.aload_n 0, 1) := by decide +kernel
theorem d_Mod_isDone_252 : decode b_Mod_isDone 252 = .ok (.getfield 9, 3) := by decide +kernel
theorem d_Mod_isDone_255 : decode b_Mod_isDone 255 = .ok (.bipush 72, 2) := by decide +kernel
theorem d_Mod_isDone_257 : decode b_Mod_isDone 257 = .ok (.aload_n 0, 1) := by decide +kernel
theorem d_Mod_isDone_258 : decode b_Mod_isDone 258 = .ok (.getfield 9, 3) := by decide +kernel
theorem d_Mod_isDone_261 : decode b_Mod_isDone 261 = .ok (.iconst 1, 1) := by decide +kernel
theorem d_Mod_isDone_262 : decode b_Mod_isDone 262 = .ok (.iaload, 1) := by decide +kernel
theorem d_Mod_isDone_263 : decode b_Mod_isDone 263 = .ok (.iadd, 1) := by decide +kernel
theorem d_Mod_isDone_264 : decode b_Mod_isDone 264 = .ok (.aload_n 0, 1) := by decide +kernel
theorem d_Mod_isDone_265 : decode b_Mod_isDone 265 = .ok (.getfield 9, 3) := by decide +kernel
theorem d_Mod_isDone_268 : decode b_Mod_isDone 268 = .ok (.iconst 1, 1) := by decide +kernel
theorem d_Mod_isDone_269 : decode b_Mod_isDone 269 = .ok (.iaload, 1) := by decide +kernel
theorem d_Mod_isDone_270 : decode b_Mod_isDone 270 = .ok (.iastore, 1) := by decide +kernel
theorem d_Mod_isDone_271 : decode b_Mod_isDone 271 = .ok (.aload_n 0, 1) := by decide +kernel
theorem d_Mod_isDone_272 : decode b_Mod_isDone 272 = .ok (.getfield 9, 3) := by decide +kernel
theorem d_Mod_isDone_275 : decode b_Mod_isDone 275 = .ok (.iconst 1, 1) := by decide +kernel
theorem d_Mod_isDone_276 : decode b_Mod_isDone 276 = .ok (.dup2, 1) := by decide +kernel
theorem d_Mod_isDone_277 : decode b_Mod_isDone 277 = .ok (.iaload, 1) := by decide +kernel
theorem d_Mod_isDone_278 : decode b_Mod_isDone 278 = .ok (.iconst 1, 1) := by decide +kernel
theorem d_Mod_isDone_279 : decode b_Mod_isDone 279 = .ok (.iadd, 1) := by decide +kernel
theorem d_Mod_isDone_280 : decode b_Mod_isDone 280 = .ok (.iastore, 1) := by decide +kernel
theorem d_Mod_isDone_281 : decode b_Mod_isDone 281 = .ok (.iconst 1, 1) := by decide +kernel
theorem d_Mod_isDone_282 : decode b_Mod_isDone 282 = .ok (.ireturn, 1) := by decide +kernel
theorem d_Mod_isDone_283 : decode b_Mod_isDone 283 = .ok (.aload_n 0, 1) := by decide +kernel
theorem d_Mod_isDone_284 : decode b_Mod_isDone 284 = .ok (.iload_n 2, 1) := by decide +kernel
theorem d_Mod_isDone_285 : decode b_Mod_isDone 285 = .ok (.invokevirtual 179, 3) := by decide +kernel
theorem d_Mod_isDone_288 : decode b_Mod_isDone 288 = .ok (.ifCond .eq 8, 3) := by decide +kernel
theorem d_Mod_isDone_291 : decode b_Mod_isDone 291 = .ok (.iload_n 3, 1) := by decide +kernel
theorem d_Mod_isDone_292 : decode b_Mod_isDone 292 = .ok (.iconst 3, 1) := by decide +kernel
theorem d_Mod_isDone_293 : decode b_Mod_isDone 293 = .ok (.if_icmp .le 5, 3) := by decide +kernel
theorem d_Mod_isDone_296 : decode b_Mod_isDone 296 = .ok (.iconst 0, 1) := by decide +kernel
theorem d_Mod_isDone_297 : decode b_Mod_isDone 297 = .ok (.ireturn, 1) := by decide +kernel
theorem d_Mod_isDone_298 : decode b_Mod_isDone 298 = .ok (.aload_n 0, 1) := by decide +kernel
theorem d_Mod_isDone_299 : decode b_Mod_isDone 299 = .ok (.getfield 9, 3) := by decide +kernel
theorem d_Mod_isDone_302 : decode b_Mod_isDone 302 = .ok (.iload_n 2, 1) := by decide +kernel
theorem d_Mod_isDone_303 : decode b_Mod_isDone 303 = .ok (.iconst 4, 1) := by decide +kernel
theorem d_Mod_isDone_304 : decode b_Mod_isDone 304 = .ok (.invokestatic 59, 3) := by decide +kernel
theorem d_Mod_isDone_307 : decode b_Mod_isDone 307 = .ok (.iload_n 3, 1) := by decide +kernel
theorem d_Mod_isDone_308 : decode b_Mod_isDone 308 = .ok (.iastore, 1) := by decide +kernel
theorem d_Mod_isDone_309 : decode b_Mod_isDone 309 = .ok (.iconst 1, 1) := by decide +kernel
theorem d_Mod_isDone_310 : decode b_Mod_isDone 310 = .ok (.ireturn, 1) := by decide +kernel
theorem d_Mod_isDone_311 : decode b_Mod_isDone 311 = .ok (.aload_n 0, 1) := by decide +kernel
theorem d_Mod_isDone_312 : decode b_Mod_isDone 312 = .ok (.iload_n 2, 1) := by decide +kernel
theorem d_Mod_isDone_313 : decode b_Mod_isDone 313 = .ok (.invokevirtual 179, 3) := by decide +kernel
theorem d_Mod_isDone_316 : decode b_Mod_isDone 316 = .ok (.ifCond .eq 16, 3) := by decide +kernel
theorem d_Mod_isDone_319 : decode b_Mod_isDone 319 = .ok (.aload_n 0, 1) := by decide +kernel
theorem d_Mod_isDone_320 : decode b_Mod_isDone 320 = .ok (.iload_n 3, 1) := by decide +kernel
theorem d_Mod_isDone_321 : decode b_Mod_isDone 321 = .ok (.invokevirtual 179, 3) := by decide +kernel
theorem d_Mod_isDone_324 : decode b_Mod_isDone 324 = .ok (.ifCond .eq 8, 3) := by decide +kernel
theorem d_Mod_isDone_327 : decode b_Mod_isDone 327 = .ok (.iload_n 2, 1) := by decide +kernel
theorem d_Mod_isDone_328 : decode b_Mod_isDone 328 = .ok (.iload_n 3, 1) := by decide +kernel
theorem d_Mod_isDone_329 : decode b_Mod_isDone 329 = .ok (.if_icmp .ne 5, 3) := by decide +kernel
theorem d_Mod_isDone_332 : decode b_Mod_isDone 332 = .ok (.iconst 0, 1) := by decide +kernel
theorem d_Mod_isDone_333 : decode b_Mod_isDone 333 = .ok (.ireturn, 1) := by decide +kernel
theorem d_Mod_isDone_334 : decode b_Mod_isDone 334 = .ok (.aload_n 0, 1) := by decide +kernel
theorem d_Mod_isDone_335 : decode b_Mod_isDone 335 = .ok (.iload_n 2, 1) := by decide +kernel
theorem d_Mod_isDone_336 : decode b_Mod_isDone 336 = .ok (.iload_n 3, 1) := by decide +kernel
theorem d_Mod_isDone_337 : decode b_Mod_isDone 337 = .ok (.invokevirtual 182, 3) := by decide +kernel
theorem d_Mod_isDone_340 : decode b_Mod_isDone 340 = .ok (.iconst 1, 1) := by decide +kernel
theorem d_Mod_isDone_341 : decode b_Mod_isDone 341 = .ok (.ireturn, 1) := by decide +kernel
theorem d_Mod_isDone_342 : decode b_Mod_isDone 342 = .ok (.aload_n 0, 1) := by decide +kernel
theorem d_Mod_isDone_343 : decode b_Mod_isDone 343 = .ok (.getfield 9, 3) := by decide +kernel
theorem d_Mod_isDone_346 : decode b_Mod_isDone 346 = .ok (.iconst 3, 1) := by decide +kernel
theorem d_Mod_isDone_347 : decode b_Mod_isDone 347 = .ok (.iload_n 2, 1) := by decide +kernel
theorem d_Mod_isDone_348 : decode b_Mod_isDone 348 = .ok (.iastore, 1) := by decide +kernel
theorem d_Mod_isDone_349 : decode b_Mod_isDone 349 = .ok (.iconst 1, 1) := by decide +kernel
theorem d_Mod_isDone_350 : decode b_Mod_isDone 350 = .ok (.ireturn, 1) := by decide +kernel
theorem d_Mod_isDone_351 : decode b_Mod_isDone 351 = .ok (.aload_n 0, 1) := by decide +kernel
theorem d_Mod_isDone_352 : decode b_Mod_isDone 352 = .ok (.getfield 9, 3) := by decide +kernel
theorem d_Mod_isDone_355 : decode b_Mod_isDone 355 = .ok (.iconst 4, 1) := by decide +kernel
theorem d_Mod_isDone_356 : decode b_Mod_isDone 356 = .ok (.iload_n 2, 1) := by decide +kernel
theorem d_Mod_isDone_357 : decode b_Mod_isDone 357 = .ok (.iastore, 1) := by decide +kernel
theorem d_Mod_isDone_358 : decode b_Mod_isDone 358 = .ok (.iload_n 2, 1) := by decide +kernel
theorem d_Mod_isDone_359 : decode b_Mod_isDone 359 = .ok (.iconst 1, 1) := by decide +kernel
theorem d_Mod_isDone_360 : decode b_Mod_isDone 360 = .ok (.bipush 60, 2) := by decide +kernel
theorem d_Mod_isDone_362 : decode b_Mod_isDone 362 = .ok (.invokestatic 55, 3) := by decide +kernel
theorem d_Mod_isDone_365 : decode b_Mod_isDone 365 = .ok (.ireturn, 1) := by decide +kernel
theorem d_Mod_isDone_366 : decode b_Mod_isDone 366 = .ok (.aload_n 0, 1) := by decide +kernel
theorem d_Mod_isDone_367 : decode b_Mod_isDone 367 = .ok (.getfield 9, 3) := by decide +kernel
theorem d_Mod_isDone_370 : decode b_Mod_isDone 370 = .ok (.iconst 5, 1) := by decide +kernel
theorem d_Mod_isDone_371 : decode b_Mod_isDone 371 = .ok (.iload_n 2, 1) := by decide +kernel
theorem d_Mod_isDone_372 : decode b_Mod_isDone 372 = .ok (.iastore, 1) := by decide +kernel
theorem d_Mod_isDone_373 : decode b_Mod_isDone 373 = .ok (.iconst 1, 1) := by decide +kernel
theorem d_Mod_isDone_374 : decode b_Mod_isDone 374 = .ok (.ireturn, 1) := by decide +kernel
theorem d_Mod_isDone_375 : decode b_Mod_isDone 375 = .ok (.aload_n 0, 1) := by decide +kernel
theorem d_Mod_isDone_376 : decode b_Mod_isDone 376 = .ok (.getfield 9, 3) := by decide +kernel
theorem d_Mod_isDone_379 : decode b_Mod_isDone 379 = .ok (.iconst 2, 1) := by decide +kernel
theorem d_Mod_isDone_380 : decode b_Mod_isDone 380 = .ok (.dup2, 1) := by decide +kernel
theorem d_Mod_isDone_381 : decode b_Mod_isDone 381 = .ok (.iaload, 1) := by decide +kernel
theorem d_Mod_isDone_382 : decode b_Mod_isDone 382 = .ok (.iload_n 2, 1) := by decide +kernel
theorem d_Mod_isDone_383 : decode b_Mod_isDone 383 = .ok (.iadd, 1) := by decide +kernel
theorem d_Mod_isDone_384 : decode b_Mod_isDone 384 = .ok (.iastore, 1) := by decide +kernel
theorem d_Mod_isDone_385 : decode b_Mod_isDone 385 = .ok (.aload_n 0, 1) := by decide +kernel
theorem d_Mod_isDone_386 : decode b_Mod_isDone 386 = .ok (.getfield 9, 3) := by decide +kernel
theorem d_Mod_isDone_389 : decode b_Mod_isDone 389 = .ok (.iconst 2, 1) := by decide +kernel
theorem d_Mod_isDone_390 : decode b_Mod_isDone 390 = .ok (.iaload, 1) := by decide +kernel
theorem d_Mod_isDone_391 : decode b_Mod_isDone 391 = .ok (.sipush 9999, 3) := by decide +kernel
theorem d_Mod_isDone_394 : decode b_Mod_isDone 394 = .ok (.if_icmp .gt 7, 3) := by decide +kernel
theorem d_Mod_isDone_397 : decode b_Mod_isDone 397 = .ok (.iconst 1, 1) := by decide +kernel
theorem d_Mod_isDone_398 : decode b_Mod_isDone 398 = .ok (.goto 4, 3) := by decide +kernel
theorem d_Mod_isDone_401 : decode b_Mod_isDone 401 = .ok (.iconst 0, 1) := by decide +kernel
theorem d_Mod_isDone_402 : decode b_Mod_isDone 402 = .ok (.ireturn, 1) := by decide +kernel
theorem d_Mod_isShelf_0 : decode b_Mod_isShelf 0 = .ok (.iload_n 0, 1) := by decide +kernel
theorem d_Mod_isShelf_1 : decode b_Mod_isShelf 1 = .ok (.iconst 0, 1) := by decide +kernel
theorem d_Mod_isShelf_2 : decode b_Mod_isShelf 2 = .ok (.bipush 7, 2) := by decide +kernel
theorem d_Mod_isShelf_4 : decode b_Mod_isShelf 4 = .ok (.invokestatic 55, 3) := by decide +kernel
theorem d_Mod_isShelf_7 : decode b_Mod_isShelf 7 = .ok (.ireturn, 1) := by decide +kernel
theorem d_Mod_wrongRow_0 : decode b_Mod_wrongRow 0 = .ok (.iload_n 1, 1) := by decide +kernel
theorem d_Mod_wrongRow_1 : decode b_Mod_wrongRow 1 = .ok (.invokestatic 206, 3) := by decide +kernel
theorem d_Mod_wrongRow_4 : decode b_Mod_wrongRow 4 = .ok (.ifCond .ne 7, 3) := by decide +kernel
theorem d_Mod_wrongRow_7 : decode b_Mod_wrongRow 7 = .ok (.iconst (-1), 1) := by decide +kernel
theorem d_Mod_wrongRow_8 : decode b_Mod_wrongRow 8 = .ok (.goto 47, 3) := by decide +kernel
theorem d_Mod_wrongRow_11 : decode b_Mod_wrongRow 11 = .ok (.aload_n 0, 1) := by decide +kernel
theorem d_Mod_wrongRow_12 : decode b_Mod_wrongRow 12 = .ok (.getfield 37, 3) := by decide +kernel
theorem d_Mod_wrongRow_15 : decode b_Mod_wrongRow 15 = .ok (.iload_n 1, 1) := by decide +kernel
theorem d_Mod_wrongRow_16 : decode b_Mod_wrongRow 16 = .ok (.iaload, 1) := by decide +kernel
theorem d_Mod_wrongRow_17 : decode b_Mod_wrongRow 17 = .ok (.ifCond .ne 8, 3) := by decide +kernel
theorem d_Mod_wrongRow_20 : decode b_Mod_wrongRow 20 = .ok (.bipush (-11), 2) := by decide +kernel
theorem d_Mod_wrongRow_22 : decode b_Mod_wrongRow 22 = .ok (.goto 33, 3) := by decide +kernel
theorem d_Mod_wrongRow_25 : decode b_Mod_wrongRow 25 = .ok (.aload_n 0, 1) := by decide +kernel
theorem d_Mod_wrongRow_26 : decode b_Mod_wrongRow 26 = .ok (.getfield 37, 3) := by decide +kernel
theorem d_Mod_wrongRow_29 : decode b_Mod_wrongRow 29 = .ok (.iload_n 1, 1) := by decide +kernel
theorem d_Mod_wrongRow_30 : decode b_Mod_wrongRow 30 = .ok (.iaload, 1) := by decide +kernel
theorem d_Mod_wrongRow_31 : decode b_Mod_wrongRow 31 = .ok (.iconst 2, 1) := by decide +kernel
theorem d_Mod_wrongRow_32 : decode b_Mod_wrongRow 32 = .ok (.if_icmp .ne 17, 3) := by decide +kernel
theorem d_Mod_wrongRow_35 : decode b_Mod_wrongRow 35 = .ok (.iload_n 2, 1) := by decide +kernel
theorem d_Mod_wrongRow_36 : decode b_Mod_wrongRow 36 = .ok (.ifCond .lt 18, 3) := by decide +kernel
theorem d_Mod_wrongRow_39 : decode b_Mod_wrongRow 39 = .ok (.aload_n 0, 1) := by decide +kernel
theorem d_Mod_wrongRow_40 : decode b_Mod_wrongRow 40 = .ok (.getfield 46, 3) := by decide +kernel
theorem d_Mod_wrongRow_43 : decode b_Mod_wrongRow 43 = .ok (.iload_n 1, 1) := by decide +kernel
theorem d_Mod_wrongRow_44 : decode b_Mod_wrongRow 44 = .ok (.iaload, 1) := by decide +kernel
theorem d_Mod_wrongRow_45 : decode b_Mod_wrongRow 45 = .ok (.iload_n 2, 1) := by decide +kernel
theorem d_Mod_wrongRow_46 : decode b_Mod_wrongRow 46 = .ok (.if_icmp .eq 8, 3) := by decide +kernel
theorem d_Mod_wrongRow_49 : decode b_Mod_wrongRow 49 = .ok (.bipush (-12), 2) := by decide +kernel
theorem d_Mod_wrongRow_51 : decode b_Mod_wrongRow 51 = .ok (.goto 4, 3) := by decide +kernel
theorem d_Mod_wrongRow_54 : decode b_Mod_wrongRow 54 = .ok (.iconst 0, 1) := by decide +kernel
theorem d_Mod_wrongRow_55 : decode b_Mod_wrongRow 55 = .ok (.ireturn, 1) := by decide +kernel
theorem d_Mod_cave_0 : decode b_Mod_cave 0 = .ok (.aload_n 0, 1) := by decide +kernel
theorem d_Mod_cave_1 : decode b_Mod_cave 1 = .ok (.iload_n 1, 1) := by decide +kernel
theorem d_Mod_cave_2 : decode b_Mod_cave 2 = .ok (.iconst 0, 1) := by decide +kernel
theorem d_Mod_cave_3 : decode b_Mod_cave 3 = .ok (.invokevirtual 186, 3) := by decide +kernel
theorem d_Mod_cave_6 : decode b_Mod_cave 6 = .ok (.istore_n 2, 1) := by decide +kernel
theorem d_Mod_cave_7 : decode b_Mod_cave 7 = .ok (.iload_n 2, 1) := by decide +kernel
theorem d_Mod_cave_8 : decode b_Mod_cave 8 = .ok (.ifCond .eq 5, 3) := by decide +kernel
theorem d_Mod_cave_11 : decode b_Mod_cave 11 = .ok (.iload_n 2, 1) := by decide +kernel
theorem d_Mod_cave_12 : decode b_Mod_cave 12 = .ok (.ireturn, 1) := by decide +kernel
theorem d_Mod_cave_13 : decode b_Mod_cave 13 = .ok (.aload_n 0, 1) := by decide +kernel
theorem d_Mod_cave_14 : decode b_Mod_cave 14 = .ok (.bipush 100, 2) := by decide +kernel
theorem d_Mod_cave_16 : decode b_Mod_cave 16 = .ok (.iload_n 1, 1) := by decide +kernel
theorem d_Mod_cave_17 : decode b_Mod_cave 17 = .ok (.imul, 1) := by decide +kernel
theorem d_Mod_cave_18 : decode b_Mod_cave 18 = .ok (.putfield 161, 3) := by decide +kernel
theorem d_Mod_cave_21 : decode b_Mod_cave 21 = .ok (.aload_n 0, 1) := by decide +kernel
theorem d_Mod_cave_22 : decode b_Mod_cave 22 = .ok (.aload_n 0, 1) := by decide +kernel
theorem d_Mod_cave_23 : decode b_Mod_cave 23 = .ok (.getfield 49, 3) := by decide +kernel
theorem d_Mod_cave_26 : decode b_Mod_cave 26 = .ok (.iload_n 1, 1) := by decide +kernel
theorem d_Mod_cave_27 : decode b_Mod_cave 27 = .ok (.iaload, 1) := by decide +kernel
theorem d_Mod_cave_28 : decode b_Mod_cave 28 = .ok (.putfield 158, 3) := by decide +kernel
theorem d_Mod_cave_31 : decode b_Mod_cave 31 = .ok (.aload_n 0, 1) := by decide +kernel
theorem d_Mod_cave_32 : decode b_Mod_cave 32 = .ok (.iconst 0, 1) := by decide +kernel
theorem d_Mod_cave_33 : decode b_Mod_cave 33 = .ok (.putfield 155, 3) := by decide +kernel
theorem d_Mod_cave_36 : decode b_Mod_cave 36 = .ok (.iconst 0, 1) := by decide +kernel
theorem d_Mod_cave_37 : decode b_Mod_cave 37 = .ok (.istore_n 3, 1) := by decide +kernel
theorem d_Mod_cave_38 : decode b_Mod_cave 38 = .ok (.iconst 0, 1) := by decide +kernel
theorem d_Mod_cave_39 : decode b_Mod_cave 39 = .ok (.istore 4, 2) := by decide +kernel
theorem d_Mod_cave_41 : decode b_Mod_cave 41 = .ok (.aload_n 0, 1) := by decide +kernel
theorem d_Mod_cave_42 : decode b_Mod_cave 42 = .ok (.invokevirtual 189, 3) := by decide +kernel
theorem d_Mod_cave_45 : decode b_Mod_cave 45 = .ok (.ifCond .ne 13, 3) := by decide +kernel
theorem d_Mod_cave_48 : decode b_Mod_cave 48 = .ok (.sipush (-1000), 3) := by decide +kernel
theorem d_Mod_cave_51 : decode b_Mod_cave 51 = .ok (.aload_n 0, 1) := by decide +kernel
theorem d_Mod_cave_52 : decode b_Mod_cave 52 = .ok (.getfield 155, 3) := by decide +kernel
theorem d_Mod_cave_55 : decode b_Mod_cave 55 = .ok (.isub, 1) := by decide +kernel
theorem d_Mod_cave_56 : decode b_Mod_cave 56 = .ok (.istore 4, 2) := by decide +kernel
theorem d_Mod_cave_58 : decode b_Mod_cave 58 = .ok (.iinc 3 1, 3) := by decide +kernel
theorem d_Mod_cave_61 : decode b_Mod_cave 61 = .ok (.iload 4, 2) := by decide +kernel
theorem d_Mod_cave_63 : decode b_Mod_cave 63 = .ok (.ifCond .ne 14, 3) := by decide +kernel
theorem d_Mod_cave_66 : decode b_Mod_cave 66 = .ok (.aload_n 0, 1) := by decide +kernel
theorem d_Mod_cave_67 : decode b_Mod_cave 67 = .ok (.getfield 155, 3) := by decide +kernel
theorem d_Mod_cave_70 : decode b_Mod_cave 70 = .ok (.aload_n 0, 1) := by decide +kernel
theorem d_Mod_cave_71 : decode b_Mod_cave 71 = .ok (.getfield 158, 3) := by decide +kernel
theorem d_Mod_cave_74 : decode b_Mod_cave 74 = .ok (.if_icmp .lt (-33), 3) := by decide +kernel
theorem d_Mod_cave_77 : decode b_Mod_cave 77 = .ok (.aload_n 0, 1) := by decide +kernel
theorem d_Mod_cave_78 : decode b_Mod_cave 78 = .ok (.getfield 9, 3) := by decide +kernel
theorem d_Mod_cave_81 : decode b_Mod_cave 81 = .ok (.aload_n 0, 1) := by decide +kernel
theorem d_Mod_cave_82 : decode b_Mod_cave 82 = .ok (.getfield 16, 3) := by decide +kernel
theorem d_Mod_cave_85 : decode b_Mod_cave 85 = .ok (.invokestatic 193, 3) := by decide +kernel
theorem d_Mod_cave_88 : decode b_Mod_cave 88 = .ok (.aload_n 0, 1) := by decide +kernel
theorem d_Mod_cave_89 : decode b_Mod_cave 89 = .ok (.iconst 0, 1) := by decide +kernel
theorem d_Mod_cave_90 : decode b_Mod_cave 90 = .ok (.putfield 155, 3) := by decide +kernel
theorem d_Mod_cave_93 : decode b_Mod_cave 93 = .ok (.iload 4, 2) := by decide +kernel
theorem d_Mod_cave_95 : decode b_Mod_cave 95 = .ok (.ifCond .ne 66, 3) := by decide +kernel
theorem d_Mod_cave_98 : decode b_Mod_cave 98 = .ok (.aload_n 0, 1) := by decide +kernel
theorem d_Mod_cave_99 : decode b_Mod_cave 99 = .ok (.getfield 155, 3) := by decide +kernel
theorem d_Mod_cave_102 : decode b_Mod_cave 102 = .ok (.aload_n 0, 1) := by decide +kernel
theorem d_Mod_cave_103 : decode b_Mod_cave 103 = .ok (.getfield 158, 3) := by decide +kernel
theorem d_Mod_cave_106 : decode b_Mod_cave 106 = .ok (.if_icmp .ge 55, 3) := by decide +kernel
theorem d_Mod_cave_109 : decode b_Mod_cave 109 = .ok (.aload_n 0, 1) := by decide +kernel
theorem d_Mod_cave_110 : decode b_Mod_cave 110 = .ok (.getfield 155, 3) := by decide +kernel
theorem d_Mod_cave_113 : decode b_Mod_cave 113 = .ok (.istore 5, 2) := by decide +kernel
theorem d_Mod_cave_115 : decode b_Mod_cave 115 = .ok (.aload_n 0, 1) := by decide +kernel
theorem d_Mod_cave_116 : decode b_Mod_cave 116 = .ok (.invokevirtual 164, 3) := by decide +kernel
theorem d_Mod_cave_119 : decode b_Mod_cave 119 = .ok (.istore 6, 2) := by decide +kernel
theorem d_Mod_cave_121 : decode b_Mod_cave 121 = .ok (.aload_n 0, 1) := by decide +kernel
theorem d_Mod_cave_122 : decode b_Mod_cave 122 = .ok (.invokevirtual 189, 3) := by decide +kernel
theorem d_Mod_cave_125 : decode b_Mod_cave 125 = .ok (.istore 7, 2) := by decide +kernel
theorem d_Mod_cave_127 : decode b_Mod_cave 127 = .ok (.aload_n 0, 1) := by decide +kernel
theorem d_Mod_cave_128 : decode b_Mod_cave 128 = .ok (.iload 6, 2) := by decide +kernel
theorem d_Mod_cave_130 : decode b_Mod_cave 130 = .ok (.invokevirtual 197, 3) := by decide +kernel
theorem d_Mod_cave_133 : decode b_Mod_cave 133 = .ok (.ifCond .eq 6, 3) := by decide +kernel
theorem d_Mod_cave_136 : decode b_Mod_cave 136 = .ok (.goto (-43), 3) := by decide +kernel
theorem d_Mod_cave_139 : decode b_Mod_cave 139 = .ok (.sipush (-2000), 3) := by decide +kernel
theorem d_Mod_cave_142 : decode b_Mod_cave 142 = .ok (.iload 5, 2) := by decide +kernel
theorem d_Mod_cave_144 : decode b_Mod_cave 144 = .ok (.isub, 1) := by decide +kernel
theorem d_Mod_cave_145 : decode b_Mod_cave 145 = .ok (.istore 4, 2) := by decide +kernel
theorem d_Mod_cave_147 : decode b_Mod_cave 147 = .ok (.aload_n 0, 1) := by decide +kernel
theorem d_Mod_cave_148 : decode b_Mod_cave 148 = .ok (.getfield 16, 3) := by decide +kernel
theorem d_Mod_cave_151 : decode b_Mod_cave 151 = .ok (.aload_n 0, 1) := by decide +kernel
theorem d_Mod_cave_152 : decode b_Mod_cave 152 = .ok (.getfield 9, 3) := by decide +kernel
theorem d_Mod_cave_155 : decode b_Mod_cave 155 = .ok (.invokestatic 193, 3) := by decide +kernel
theorem d_Mod_cave_158 : decode b_Mod_cave 158 = .ok (.goto (-65), 3) := by decide +kernel
theorem d_Mod_cave_161 : decode b_Mod_cave 161 = .ok (.iload 4, 2) := by decide +kernel
theorem d_Mod_cave_163 : decode b_Mod_cave 163 = .ok (.ifCond .ne 7, 3) := by decide +kernel
theorem d_Mod_cave_166 : decode b_Mod_cave 166 = .ok (.iload_n 3, 1) := by decide +kernel
theorem d_Mod_cave_167 : decode b_Mod_cave 167 = .ok (.goto 5, 3) := by decide +kernel
theorem d_Mod_cave_170 : decode b_Mod_cave 170 = .ok (.iload 4, 2) := by decide +kernel
theorem d_Mod_cave_172 : decode b_Mod_cave 172 = .ok (.ireturn, 1) := by decide +kernel
theorem d_Mod_yard_0 : decode b_Mod_yard 0 = .ok (.aload_n 0, 1) := by decide +kernel
theorem d_Mod_yard_1 : decode b_Mod_yard 1 = .ok (.iload_n 1, 1) := by decide +kernel
theorem d_Mod_yard_2 : decode b_Mod_yard 2 = .ok (.invokevirtual 200, 3) := by decide +kernel
theorem d_Mod_yard_5 : decode b_Mod_yard 5 = .ok (.ifCond .eq 12, 3) := by decide +kernel
theorem d_Mod_yard_8 : decode b_Mod_yard 8 = .ok (.iload_n 2, 1) := by decide +kernel
theorem d_Mod_yard_9 : decode b_Mod_yard 9 = .ok (.iconst 0, 1) := by decide +kernel
theorem d_Mod_yard_10 : decode b_Mod_yard 10 = .ok (.iconst 5, 1) := by decide +kernel
theorem d_Mod_yard_11 : decode b_Mod_yard 11 = .ok (.invokestatic 55, 3) := by decide +kernel
theorem d_Mod_yard_14 : decode b_Mod_yard 14 = .ok (.ifCond .ne 5, 3) := by decide +kernel
theorem d_Mod_yard_17 : decode b_Mod_yard 17 = .ok (.iconst (-1), 1) := by decide +kernel
theorem d_Mod_yard_18 : decode b_Mod_yard 18 = .ok (.ireturn, 1) := by decide +kernel
theorem d_Mod_yard_19 : decode b_Mod_yard 19 = .ok (.iload_n 2, 1) := by decide +kernel
theorem d_Mod_yard_20 : decode b_Mod_yard 20 = .ok (.iconst 3, 1) := by decide +kernel
theorem d_Mod_yard_21 : decode b_Mod_yard 21 = .ok (.if_icmp .ge 16, 3) := by decide +kernel
theorem d_Mod_yard_24 : decode b_Mod_yard 24 = .ok (.aload_n 0, 1) := by decide +kernel
theorem d_Mod_yard_25 : decode b_Mod_yard 25 = .ok (.getfield 9, 3) := by decide +kernel
theorem d_Mod_yard_28 : decode b_Mod_yard 28 = .ok (.iload_n 1, 1) := by decide +kernel
theorem d_Mod_yard_29 : decode b_Mod_yard 29 = .ok (.iload_n 2, 1) := by decide +kernel
theorem d_Mod_yard_30 : decode b_Mod_yard 30 = .ok (.invokestatic 63, 3) := by decide +kernel
theorem d_Mod_yard_33 : decode b_Mod_yard 33 = .ok (.iaload, 1) := by decide +kernel
theorem d_Mod_yard_34 : decode b_Mod_yard 34 = .ok (.goto 35, 3) := by decide +kernel
theorem d_Mod_yard_37 : decode b_Mod_yard 37 = .ok (.iload_n 2, 1) := by decide +kernel
theorem d_Mod_yard_38 : decode b_Mod_yard 38 = .ok (.iconst 3, 1) := by decide +kernel
theorem d_Mod_yard_39 : decode b_Mod_yard 39 = .ok (.if_icmp .ne 15, 3) := by decide +kernel
theorem d_Mod_yard_42 : decode b_Mod_yard 42 = .ok (.aload_n 0, 1) := by decide +kernel
theorem d_Mod_yard_43 : decode b_Mod_yard 43 = .ok (.iload_n 1, 1) := by decide +kernel
theorem d_Mod_yard_44 : decode b_Mod_yard 44 = .ok (.aload_n 0, 1) := by decide +kernel
theorem d_Mod_yard_45 : decode b_Mod_yard 45 = .ok (.invokevirtual 203, 3) := by decide +kernel
theorem d_Mod_yard_48 : decode b_Mod_yard 48 = .ok (.invokevirtual 84, 3) := by decide +kernel
theorem d_Mod_yard_51 : decode b_Mod_yard 51 = .ok (.goto 18, 3) := by decide +kernel
theorem d_Mod_yard_54 : decode b_Mod_yard 54 = .ok (.aload_n 0, 1) := by decide +kernel
theorem d_Mod_yard_55 : decode b_Mod_yard 55 = .ok (.iload_n 1, 1) := by decide +kernel
theorem d_Mod_yard_56 : decode b_Mod_yard 56 = .ok (.iload_n 2, 1) := by decide +kernel
theorem d_Mod_yard_57 : decode b_Mod_yard 57 = .ok (.iconst 5, 1) := by decide +kernel
theorem d_Mod_yard_58 : decode b_Mod_yard 58 = .ok (.if_icmp .ne 7, 3) := by decide +kernel
theorem d_Mod_yard_61 : decode b_Mod_yard 61 = .ok (.iconst 1, 1) := by decide +kernel
theorem d_Mod_yard_62 : decode b_Mod_yard 62 = .ok (.goto 4, 3) := by decide +kernel
theorem d_Mod_yard_65 : decode b_Mod_yard 65 = .ok (.iconst 0, 1) := by decide +kernel
theorem d_Mod_yard_66 : decode b_Mod_yard 66 = .ok (.invokevirtual 101, 3) := by decide +kernel
theorem d_Mod_yard_69 : decode b_Mod_yard 69 = .ok (.ireturn, 1) := by decide +kernel
theorem d_Mod_body_0 : decode b_Mod_body 0 = .ok (.aload_n 0, 1) := by decide +kernel
theorem d_Mod_body_1 : decode b_Mod_body 1 = .ok (.iload_n 1, 1) := by decide +kernel
theorem d_Mod_body_2 : decode b_Mod_body 2 = .ok (.invokevirtual 179, 3) := by decide +kernel
theorem d_Mod_body_5 : decode b_Mod_body 5 = .ok (.ifCond .eq 12, 3) := by decide +kernel
theorem d_Mod_body_8 : decode b_Mod_body 8 = .ok (.iload_n 2, 1) := by decide +kernel
theorem d_Mod_body_9 : decode b_Mod_body 9 = .ok (.iconst 0, 1) := by decide +kernel
theorem d_Mod_body_10 : decode b_Mod_body 10 = .ok (.iconst 5, 1) := by decide +kernel
theorem d_Mod_body_11 : decode b_Mod_body 11 = .ok (.invokestatic 55, 3) := by decide +kernel
theorem d_Mod_body_14 : decode b_Mod_body 14 = .ok (.ifCond .ne 5, 3) := by decide +kernel
theorem d_Mod_body_17 : decode b_Mod_body 17 = .ok (.iconst (-1), 1) := by decide +kernel
theorem d_Mod_body_18 : decode b_Mod_body 18 = .ok (.ireturn, 1) := by decide +kernel
theorem d_Mod_body_19 : decode b_Mod_body 19 = .ok (.iload_n 2, 1) := by decide +kernel
theorem d_Mod_body_20 : decode b_Mod_body 20 = .ok (.iconst 5, 1) := by decide +kernel
theorem d_Mod_body_21 : decode b_Mod_body 21 = .ok (.if_icmp .ge 12, 3) := by decide +kernel
theorem d_Mod_body_24 : decode b_Mod_body 24 = .ok (.aload_n 0, 1) := by decide +kernel
theorem d_Mod_body_25 : decode b_Mod_body 25 = .ok (.iload_n 1, 1) := by decide +kernel
theorem d_Mod_body_26 : decode b_Mod_body 26 = .ok (.iload_n 2, 1) := by decide +kernel
theorem d_Mod_body_27 : decode b_Mod_body 27 = .ok (.invokevirtual 73, 3) := by decide +kernel
theorem d_Mod_body_30 : decode b_Mod_body 30 = .ok (.goto 8, 3) := by decide +kernel
theorem d_Mod_body_33 : decode b_Mod_body 33 = .ok (.aload_n 0, 1) := by decide +kernel
theorem d_Mod_body_34 : decode b_Mod_body 34 = .ok (.iload_n 1, 1) := by decide +kernel
theorem d_Mod_body_35 : decode b_Mod_body 35 = .ok (.invokevirtual 172, 3) := by decide +kernel
theorem d_Mod_body_38 : decode b_Mod_body 38 = .ok (.ireturn, 1) := by decide +kernel
theorem d_Mod_wrongKept_0 : decode b_Mod_wrongKept 0 = .ok (.iload_n 1, 1) := by decide +kernel
theorem d_Mod_wrongKept_1 : decode b_Mod_wrongKept 1 = .ok (.invokestatic 206, 3) := by decide +kernel
theorem d_Mod_wrongKept_4 : decode b_Mod_wrongKept 4 = .ok (.ifCond .ne 7, 3) := by decide +kernel
theorem d_Mod_wrongKept_7 : decode b_Mod_wrongKept 7 = .ok (.iconst (-1), 1) := by decide +kernel
theorem d_Mod_wrongKept_8 : decode b_Mod_wrongKept 8 = .ok (.goto 33, 3) := by decide +kernel
theorem d_Mod_wrongKept_11 : decode b_Mod_wrongKept 11 = .ok (.aload_n 0, 1) := by decide +kernel
theorem d_Mod_wrongKept_12 : decode b_Mod_wrongKept 12 = .ok (.getfield 37, 3) := by decide +kernel
theorem d_Mod_wrongKept_15 : decode b_Mod_wrongKept 15 = .ok (.iload_n 1, 1) := by decide +kernel
theorem d_Mod_wrongKept_16 : decode b_Mod_wrongKept 16 = .ok (.iaload, 1) := by decide +kernel
theorem d_Mod_wrongKept_17 : decode b_Mod_wrongKept 17 = .ok (.ifCond .ne 8, 3) := by decide +kernel
theorem d_Mod_wrongKept_20 : decode b_Mod_wrongKept 20 = .ok (.bipush (-11), 2) := by decide +kernel
theorem d_Mod_wrongKept_22 : decode b_Mod_wrongKept 22 = .ok (.goto 19, 3) := by decide +kernel
theorem d_Mod_wrongKept_25 : decode b_Mod_wrongKept 25 = .ok (.aload_n 0, 1) := by decide +kernel
theorem d_Mod_wrongKept_26 : decode b_Mod_wrongKept 26 = .ok (.getfield 37, 3) := by decide +kernel
theorem d_Mod_wrongKept_29 : decode b_Mod_wrongKept 29 = .ok (.iload_n 1, 1) := by decide +kernel
theorem d_Mod_wrongKept_30 : decode b_Mod_wrongKept 30 = .ok (.iaload, 1) := by decide +kernel
theorem d_Mod_wrongKept_31 : decode b_Mod_wrongKept 31 = .ok (.iconst 2, 1) := by decide +kernel
theorem d_Mod_wrongKept_32 : decode b_Mod_wrongKept 32 = .ok (.if_icmp .ne 8, 3) := by decide +kernel
theorem d_Mod_wrongKept_35 : decode b_Mod_wrongKept 35 = .ok (.bipush (-12), 2) := by decide +kernel
theorem d_Mod_wrongKept_37 : decode b_Mod_wrongKept 37 = .ok (.goto 4, 3) := by decide +kernel
theorem d_Mod_wrongKept_40 : decode b_Mod_wrongKept 40 = .ok (.iconst 0, 1) := by decide +kernel
theorem d_Mod_wrongKept_41 : decode b_Mod_wrongKept 41 = .ok (.ireturn, 1) := by decide +kernel
theorem d_Mod_lays_0 : decode b_Mod_lays 0 = .ok (.iload_n 1, 1) := by decide +kernel
theorem d_Mod_lays_1 : decode b_Mod_lays 1 = .ok (.invokestatic 206, 3) := by decide +kernel
theorem d_Mod_lays_4 : decode b_Mod_lays 4 = .ok (.ifCond .eq 14, 3) := by decide +kernel
theorem d_Mod_lays_7 : decode b_Mod_lays 7 = .ok (.iload_n 2, 1) := by decide +kernel
theorem d_Mod_lays_8 : decode b_Mod_lays 8 = .ok (.bipush 6, 2) := by decide +kernel
theorem d_Mod_lays_10 : decode b_Mod_lays 10 = .ok (.bipush 40, 2) := by decide +kernel
theorem d_Mod_lays_12 : decode b_Mod_lays 12 = .ok (.invokestatic 55, 3) := by decide +kernel
theorem d_Mod_lays_15 : decode b_Mod_lays 15 = .ok (.ifCond .ne 5, 3) := by decide +kernel
theorem d_Mod_lays_18 : decode b_Mod_lays 18 = .ok (.iconst (-1), 1) := by decide +kernel
theorem d_Mod_lays_19 : decode b_Mod_lays 19 = .ok (.ireturn, 1) := by decide +kernel
theorem d_Mod_lays_20 : decode b_Mod_lays 20 = .ok (.aload_n 0, 1) := by decide +kernel
theorem d_Mod_lays_21 : decode b_Mod_lays 21 = .ok (.iload_n 1, 1) := by decide +kernel
theorem d_Mod_lays_22 : decode b_Mod_lays 22 = .ok (.invokevirtual 209, 3) := by decide +kernel
theorem d_Mod_lays_25 : decode b_Mod_lays 25 = .ok (.istore_n 3, 1) := by decide +kernel
theorem d_Mod_lays_26 : decode b_Mod_lays 26 = .ok (.iload_n 3, 1) := by decide +kernel
theorem d_Mod_lays_27 : decode b_Mod_lays 27 = .ok (.ifCond .eq 5, 3) := by decide +kernel
theorem d_Mod_lays_30 : decode b_Mod_lays 30 = .ok (.iload_n 3, 1) := by decide +kernel
theorem d_Mod_lays_31 : decode b_Mod_lays 31 = .ok (.ireturn, 1) := by decide +kernel
theorem d_Mod_lays_32 : decode b_Mod_lays 32 = .ok (.aload_n 0, 1) := by decide +kernel
theorem d_Mod_lays_33 : decode b_Mod_lays 33 = .ok (.getfield 9, 3) := by decide +kernel
theorem d_Mod_lays_36 : decode b_Mod_lays 36 = .ok (.iconst 0, 1) := by decide +kernel
theorem d_Mod_lays_37 : decode b_Mod_lays 37 = .ok (.iaload, 1) := by decide +kernel
theorem d_Mod_lays_38 : decode b_Mod_lays 38 = .ok (.bipush 12, 2) := by decide +kernel
theorem d_Mod_lays_40 : decode b_Mod_lays 40 = .ok (.if_icmp .ne 6, 3) := by decide +kernel
theorem d_Mod_lays_43 : decode b_Mod_lays 43 = .ok (.bipush (-2), 2) := by decide +kernel
theorem d_Mod_lays_45 : decode b_Mod_lays 45 = .ok (.ireturn, 1) := by decide +kernel
theorem d_Mod_lays_46 : decode b_Mod_lays 46 = .ok (.aload_n 0, 1) := by decide +kernel
theorem d_Mod_lays_47 : decode b_Mod_lays 47 = .ok (.aload_n 0, 1) := by decide +kernel
theorem d_Mod_lays_48 : decode b_Mod_lays 48 = .ok (.getfield 40, 3) := by decide +kernel
theorem d_Mod_lays_51 : decode b_Mod_lays 51 = .ok (.iload_n 1, 1) := by decide +kernel
theorem d_Mod_lays_52 : decode b_Mod_lays 52 = .ok (.iaload, 1) := by decide +kernel
theorem d_Mod_lays_53 : decode b_Mod_lays 53 = .ok (.aload_n 0, 1) := by decide +kernel
theorem d_Mod_lays_54 : decode b_Mod_lays 54 = .ok (.getfield 43, 3) := by decide +kernel
theorem d_Mod_lays_57 : decode b_Mod_lays 57 = .ok (.iload_n 1, 1) := by decide +kernel
theorem d_Mod_lays_58 : decode b_Mod_lays 58 = .ok (.iaload, 1) := by decide +kernel
theorem d_Mod_lays_59 : decode b_Mod_lays 59 = .ok (.iload_n 2, 1) := by decide +kernel
theorem d_Mod_lays_60 : decode b_Mod_lays 60 = .ok (.invokevirtual 175, 3) := by decide +kernel
theorem d_Mod_lays_63 : decode b_Mod_lays 63 = .ok (.aload_n 0, 1) := by decide +kernel
theorem d_Mod_lays_64 : decode b_Mod_lays 64 = .ok (.getfield 9, 3) := by decide +kernel
theorem d_Mod_lays_67 : decode b_Mod_lays 67 = .ok (.iconst 0, 1) := by decide +kernel
theorem d_Mod_lays_68 : decode b_Mod_lays 68 = .ok (.iaload, 1) := by decide +kernel
theorem d_Mod_lays_69 : decode b_Mod_lays 69 = .ok (.iconst 1, 1) := by decide +kernel
theorem d_Mod_lays_70 : decode b_Mod_lays 70 = .ok (.isub, 1) := by decide +kernel
theorem d_Mod_lays_71 : decode b_Mod_lays 71 = .ok (.ireturn, 1) := by decide +kernel
theorem d_Mod_shorter_0 : decode b_Mod_shorter 0 = .ok (.aload_n 0, 1) := by decide +kernel
theorem d_Mod_shorter_1 : decode b_Mod_shorter 1 = .ok (.getfield 9, 3) := by decide +kernel
theorem d_Mod_shorter_4 : decode b_Mod_shorter 4 = .ok (.iconst 0, 1) := by decide +kernel
theorem d_Mod_shorter_5 : decode b_Mod_shorter 5 = .ok (.iaload, 1) := by decide +kernel
theorem d_Mod_shorter_6 : decode b_Mod_shorter 6 = .ok (.ifCond .ne 6, 3) := by decide +kernel
theorem d_Mod_shorter_9 : decode b_Mod_shorter 9 = .ok (.bipush (-3), 2) := by decide +kernel
theorem d_Mod_shorter_11 : decode b_Mod_shorter 11 = .ok (.ireturn, 1) := by decide +kernel
theorem d_Mod_shorter_12 : decode b_Mod_shorter 12 = .ok (.aload_n 0, 1) := by decide +kernel
theorem d_Mod_shorter_13 : decode b_Mod_shorter 13 = .ok (.getfield 9, 3) := by decide +kernel
theorem d_Mod_shorter_16 : decode b_Mod_shorter 16 = .ok (.iconst 0, 1) := by decide +kernel
theorem d_Mod_shorter_17 : decode b_Mod_shorter 17 = .ok (.dup2, 1) := by decide +kernel
theorem d_Mod_shorter_18 : decode b_Mod_shorter 18 = .ok (.iaload, 1) := by decide +kernel
theorem d_Mod_shorter_19 : decode b_Mod_shorter 19 = .ok (.iconst 1, 1) := by decide +kernel
theorem d_Mod_shorter_20 : decode b_Mod_shorter 20 = .ok (.isub, 1) := by decide +kernel
theorem d_Mod_shorter_21 : decode b_Mod_shorter 21 = .ok (.iastore, 1) := by decide +kernel
theorem d_Mod_shorter_22 : decode b_Mod_shorter 22 = .ok (.aload_n 0, 1) := by decide +kernel
theorem d_Mod_shorter_23 : decode b_Mod_shorter 23 = .ok (.getfield 9, 3) := by decide +kernel
theorem d_Mod_shorter_26 : decode b_Mod_shorter 26 = .ok (.iconst 0, 1) := by decide +kernel
theorem d_Mod_shorter_27 : decode b_Mod_shorter 27 = .ok (.iaload, 1) := by decide +kernel
theorem d_Mod_shorter_28 : decode b_Mod_shorter 28 = .ok (.ireturn, 1) := by decide +kernel
set_option maxRecDepth 100000 in
theorem cw_Mod_addsYard : CwV y_Mod_addsYard b_Mod_addsYard 4 (none) 3 := ⟨tbl_at 1151 (by decide +kernel) rfl, tbl_at 22 (by decide +kernel) rfl, tbl_at 57 (by decide +kernel) rfl, tbl_at 1152 rfl rfl, by decide +kernel, by decide +kernel, by decide +kernel⟩
set_option maxRecDepth 100000 in
theorem cw_Mod_changes : CwV y_Mod_changes b_Mod_changes 5 (none) 2 := ⟨tbl_at 1165 (by decide +kernel) rfl, tbl_at 24 (by decide +kernel) rfl, tbl_at 57 (by decide +kernel) rfl, tbl_at 1166 rfl rfl, by decide +kernel, by decide +kernel, by decide +kernel⟩
set_option maxRecDepth 100000 in
theorem cw_Mod_copies : CwS y_Mod_copies b_Mod_copies 3 (none) 2 := ⟨tbl_at 1143 (by decide +kernel) rfl, tbl_at 57 (by decide +kernel) rfl, tbl_at 1144 rfl rfl, by decide +kernel, by decide +kernel, by decide +kernel⟩
set_option maxRecDepth 100000 in
theorem cw_Mod_here : CwV y_Mod_here b_Mod_here 1 (some FieldType.int) 0 := ⟨tbl_at 1136 (by decide +kernel) rfl, tbl_at 19 (by decide +kernel) rfl, tbl_at 57 (by decide +kernel) rfl, tbl_at 1137 rfl rfl, by decide +kernel, by decide +kernel, by decide +kernel⟩
set_option maxRecDepth 100000 in
theorem cw_Mod_hour : CwV y_Mod_hour b_Mod_hour 1 (some FieldType.int) 0 := ⟨tbl_at 1181 (by decide +kernel) rfl, tbl_at 27 (by decide +kernel) rfl, tbl_at 57 (by decide +kernel) rfl, tbl_at 1182 rfl rfl, by decide +kernel, by decide +kernel, by decide +kernel⟩
set_option maxRecDepth 100000 in
theorem cw_Mod_isBody : CwV y_Mod_isBody b_Mod_isBody 2 (some FieldType.boolean) 1 := ⟨tbl_at 1161 (by decide +kernel) rfl, tbl_at 23 (by decide +kernel) rfl, tbl_at 57 (by decide +kernel) rfl, tbl_at 1162 rfl rfl, by decide +kernel, by decide +kernel, by decide +kernel⟩
set_option maxRecDepth 100000 in
theorem cw_Mod_isDone : CwV y_Mod_isDone b_Mod_isDone 5 (some FieldType.boolean) 1 := ⟨tbl_at 1147 (by decide +kernel) rfl, tbl_at 21 (by decide +kernel) rfl, tbl_at 57 (by decide +kernel) rfl, tbl_at 1148 rfl rfl, by decide +kernel, by decide +kernel, by decide +kernel⟩
set_option maxRecDepth 100000 in
theorem cw_Mod_isShelf : CwS y_Mod_isShelf b_Mod_isShelf 1 (some FieldType.boolean) 1 := ⟨tbl_at 1125 (by decide +kernel) rfl, tbl_at 57 (by decide +kernel) rfl, tbl_at 1126 rfl rfl, by decide +kernel, by decide +kernel, by decide +kernel⟩
set_option maxRecDepth 100000 in
theorem cw_Mod_isYard : CwV y_Mod_isYard b_Mod_isYard 2 (some FieldType.boolean) 1 := ⟨tbl_at 1177 (by decide +kernel) rfl, tbl_at 26 (by decide +kernel) rfl, tbl_at 57 (by decide +kernel) rfl, tbl_at 1178 rfl rfl, by decide +kernel, by decide +kernel, by decide +kernel⟩
set_option maxRecDepth 100000 in
theorem cw_Mod_placeOf : CwV y_Mod_placeOf b_Mod_placeOf 3 (some FieldType.int) 1 := ⟨tbl_at 1169 (by decide +kernel) rfl, tbl_at 25 (by decide +kernel) rfl, tbl_at 57 (by decide +kernel) rfl, tbl_at 1170 rfl rfl, by decide +kernel, by decide +kernel, by decide +kernel⟩
set_option maxRecDepth 100000 in
theorem cw_Mod_readsNumber : CwV y_Mod_readsNumber b_Mod_readsNumber 4 (some FieldType.boolean) 2 := ⟨tbl_at 1140 (by decide +kernel) rfl, tbl_at 20 (by decide +kernel) rfl, tbl_at 57 (by decide +kernel) rfl, tbl_at 1141 rfl rfl, by decide +kernel, by decide +kernel, by decide +kernel⟩
set_option maxRecDepth 100000 in
theorem cw_Mod_readsStatement : CwV y_Mod_readsStatement b_Mod_readsStatement 3 (some FieldType.boolean) 0 := ⟨tbl_at 1132 (by decide +kernel) rfl, tbl_at 18 (by decide +kernel) rfl, tbl_at 57 (by decide +kernel) rfl, tbl_at 1133 rfl rfl, by decide +kernel, by decide +kernel, by decide +kernel⟩
set_option maxRecDepth 100000 in
theorem cw_Mod_wrongKept : CwV y_Mod_wrongKept b_Mod_wrongKept 2 (some FieldType.int) 1 := ⟨tbl_at 1208 (by decide +kernel) rfl, tbl_at 31 (by decide +kernel) rfl, tbl_at 57 (by decide +kernel) rfl, tbl_at 1209 rfl rfl, by decide +kernel, by decide +kernel, by decide +kernel⟩
set_option maxRecDepth 100000 in
theorem cw_Mod_wrongRow : CwV y_Mod_wrongRow b_Mod_wrongRow 3 (some FieldType.int) 2 := ⟨tbl_at 1122 (by decide +kernel) rfl, tbl_at 17 (by decide +kernel) rfl, tbl_at 57 (by decide +kernel) rfl, tbl_at 1123 rfl rfl, by decide +kernel, by decide +kernel, by decide +kernel⟩
theorem fl_Mod_16 : Cond.fieldLink R_Mod 16 "BreatheOutModel" "was" "[I" ∈ tbl := tbl_at 997 (by decide +kernel) rfl
theorem fl_Mod_25 : Cond.fieldLink R_Mod 25 "BreatheOutModel" "numbers" "[I" ∈ tbl := tbl_at 1017 (by decide +kernel) rfl
theorem fl_Mod_37 : Cond.fieldLink R_Mod 37 "BreatheOutModel" "kept" "[I" ∈ tbl := tbl_at 1028 (by decide +kernel) rfl
theorem fl_Mod_40 : Cond.fieldLink R_Mod 40 "BreatheOutModel" "keptKind" "[I" ∈ tbl := tbl_at 1029 (by decide +kernel) rfl
theorem fl_Mod_43 : Cond.fieldLink R_Mod 43 "BreatheOutModel" "keptFigure" "[I" ∈ tbl := tbl_at 1030 (by decide +kernel) rfl
theorem fl_Mod_46 : Cond.fieldLink R_Mod 46 "BreatheOutModel" "sort" "[I" ∈ tbl := tbl_at 1031 (by decide +kernel) rfl
theorem fl_Mod_49 : Cond.fieldLink R_Mod 49 "BreatheOutModel" "size" "[I" ∈ tbl := tbl_at 1032 (by decide +kernel) rfl
theorem ml_Mod_164 : Cond.methodLink R_Mod 164 y_Mod_here ∈ tbl := tbl_at 1134 (by decide +kernel) rfl
theorem ml_Mod_168 : Cond.methodLink R_Mod 168 y_Mod_readsNumber ∈ tbl := tbl_at 1138 (by decide +kernel) rfl
theorem ml_Mod_172 : Cond.methodLink R_Mod 172 y_Mod_placeOf ∈ tbl := tbl_at 1167 (by decide +kernel) rfl
theorem ml_Mod_175 : Cond.methodLink R_Mod 175 y_Mod_addsYard ∈ tbl := tbl_at 1149 (by decide +kernel) rfl
theorem ml_Mod_179 : Cond.methodLink R_Mod 179 y_Mod_isBody ∈ tbl := tbl_at 1159 (by decide +kernel) rfl
theorem ml_Mod_182 : Cond.methodLink R_Mod 182 y_Mod_changes ∈ tbl := tbl_at 1163 (by decide +kernel) rfl
theorem ml_Mod_186 : Cond.methodLink R_Mod 186 y_Mod_wrongRow ∈ tbl := tbl_at 1120 (by decide +kernel) rfl
theorem ml_Mod_189 : Cond.methodLink R_Mod 189 y_Mod_readsStatement ∈ tbl := tbl_at 1130 (by decide +kernel) rfl
theorem ml_Mod_193 : Cond.methodLink R_Mod 193 y_Mod_copies ∈ tbl := tbl_at 1142 (by decide +kernel) rfl
theorem ml_Mod_197 : Cond.methodLink R_Mod 197 y_Mod_isDone ∈ tbl := tbl_at 1145 (by decide +kernel) rfl
theorem ml_Mod_200 : Cond.methodLink R_Mod 200 y_Mod_isYard ∈ tbl := tbl_at 1175 (by decide +kernel) rfl
theorem ml_Mod_203 : Cond.methodLink R_Mod 203 y_Mod_hour ∈ tbl := tbl_at 1179 (by decide +kernel) rfl
theorem ml_Mod_206 : Cond.methodLink R_Mod 206 y_Mod_isShelf ∈ tbl := tbl_at 1124 (by decide +kernel) rfl
theorem ml_Mod_209 : Cond.methodLink R_Mod 209 y_Mod_wrongKept ∈ tbl := tbl_at 1206 (by decide +kernel) rfl
def vc_Mod_readsNumber (x1 : Int32) (x2 : Int32) (s : St) (Q : Bool → St → Prop) : Prop :=
    (vp_in x1 4 ∧ (∀ s11 : St, s11 = wr s 88 (Int32.toNatClampNeg x1) 0 → (∃ I14 : Nat → Int32 → St → Prop, (∃ n15, I14 n15 0 s11) ∧ ∀ (nI14 : Nat) (x12 : Int32) (s13 : St), I14 nI14 x12 s13 → ((x2 ≤ x12 → Q true s13) ∧ (¬ x2 ≤ x12 → vc_Mod_here  s13 (fun x17 => vc_Mod_isIn x17 48 57 (fun b19 => ((¬ (bi b19) = 0 → (vp_in x1 4 ∧ vc_Mod_here  s13 (fun x23 => (vp_in x1 4 ∧ (∀ s26 : St, s26 = wr s13 88 (Int32.toNatClampNeg x1) (((10 * (s13 88 (Int32.toNatClampNeg x1))) + x23) - 48) → (∀ s27 : St, s27 = wr s26 82 19 ((s26 82 19) + 1) → (∀ x28 : Int32, x28 = x12 + 1 → ∃ m29, m29 < nI14 ∧ I14 m29 x28 s27))))))) ∧ ((bi b19) = 0 → Q false s13)))))))))
def rm_Mod_readsNumber : Room := { frames := 1, cells := 0, slots := 0, locals := 22 }
set_option maxHeartbeats 4000000 in
set_option maxRecDepth 20000 in
theorem m_Mod_readsNumber (g : Gx) (hg : gOk g) (x1 : Int32) (x2 : Int32)  (s : St) (Q : Bool → St → Prop) (hw : vc_Mod_readsNumber x1 x2 s Q) : Mc g y_Mod_readsNumber b_Mod_readsNumber 4 (some FieldType.boolean) rm_Mod_readsNumber [.ref (ga g 82), .int x1, .int x2] s (fun v s' => ∃ r : Bool, v = some (.int (bi r)) ∧ Q r s') := by
  refine mc_ofV (j := 1) (L := [some (.ref (ga g 82)), some (.int x1), some (.int x2), none]) hg (by decide) (Nat.le_of_ble_eq_true rfl) rfl ?_
  intro X hX C
  subst hX
  unfold vc_Mod_readsNumber at hw
  refine x_aload_n C d_Mod_readsNumber_0 rfl ?_
  refine g_Mod_22 (p := 82) C rfl fl_Mod_25 d_Mod_readsNumber_1 ?_
  refine x_iload_n C d_Mod_readsNumber_4 rfl ?_
  refine x_iconst (v := 0) C d_Mod_readsNumber_5 rfl ?_
  obtain ⟨h10, hw⟩ := hw
  refine x_iast (p := 88) (n := 4) C rfl h10 d_Mod_readsNumber_6 ?_
  refine x_st (fun s11 hs11 => ?_)
  have hw := hw s11 hs11
  refine x_iconst (v := 0) C d_Mod_readsNumber_7 rfl ?_
  refine x_istore_n (L' := [some (.ref (xa X 82)), some (.int x1), some (.int x2), some (.int 0)]) C d_Mod_readsNumber_8 (Nat.le_of_ble_eq_true rfl) rfl ?_
  obtain ⟨I14, ⟨n15, hn15⟩, hI14⟩ := hw
  have lI14 : ∀ (nI14 : Nat) (x12 : Int32) (s13 : St), I14 nI14 x12 s13 → V X (xQ X (fun v s' => ∃ r : Bool, v = some (.int (bi r)) ∧ Q r s')) 0 0 s13 9 [some (.ref (xa X 82)), some (.int x1), some (.int x2), some (.int x12)] [] := by
    intro nI14
    induction nI14 using Nat.strongRecOn with
    | ind nI14 ihI14 =>
      intro x12 s13 hv
      have hw := hI14 nI14 x12 s13 hv
      refine x_iload_n C d_Mod_readsNumber_9 rfl ?_
      refine x_iload_n C d_Mod_readsNumber_10 rfl ?_
      refine x_icmp_ge (tgt := 69) C d_Mod_readsNumber_11 (by decide) (fun c16 => ?_) (fun c16 => ?_)
      · have hw := hw.1 c16
        refine x_iconst (v := 1) C d_Mod_readsNumber_69 rfl ?_
        exact x_zreturn (b := true) C d_Mod_readsNumber_70 ⟨_, rfl, hw⟩
      · have hw := hw.2 c16
        refine x_aload_n C d_Mod_readsNumber_14 rfl ?_
        refine x_callV (As := []) (rest := []) (p := 82) C (m_Mod_here (xg X) C.2.2.2.2.2.2.1  s13 _ hw) cw_Mod_here ml_Mod_164 rfl (by decide) (by decide) rfl rfl rfl ⟨rfl, rfl, Nat.le_of_ble_eq_true rfl, Nat.le_of_ble_eq_true rfl⟩ ⟨Nat.zero_le _, Nat.zero_le _⟩ rfl (Nat.le_of_ble_eq_true rfl) d_Mod_readsNumber_15 ?_
        rintro _ _ ⟨x17, rfl, rfl, hw⟩
        show V X _ _ _ _ 18 [some (.ref (xa X 82)), some (.int x1), some (.int x2), some (.int x12)] [.int x17]
        refine x_bipush (v := 48) C d_Mod_readsNumber_18 rfl ?_
        refine x_bipush (v := 57) C d_Mod_readsNumber_20 rfl ?_
        refine x_callS (As := [.int x17, .int 48, .int 57]) (rest := []) C (m_Mod_isIn (xg X) C.2.2.2.2.2.2.1 x17 48 57 s13 _ hw) cw_Mod_isIn ml_Mod_55 rfl ⟨rfl, rfl, Nat.le_of_ble_eq_true rfl, Nat.le_of_ble_eq_true rfl⟩ ⟨Nat.zero_le _, Nat.zero_le _⟩ rfl (Nat.le_of_ble_eq_true rfl) d_Mod_readsNumber_22 ?_
        rintro _ _ ⟨b19, rfl, rfl, hw⟩
        show V X _ _ _ _ 25 [some (.ref (xa X 82)), some (.int x1), some (.int x2), some (.int x12)] [.int (bi b19)]
        refine x_if_ne (tgt := 30) C d_Mod_readsNumber_25 (by decide) (fun c21 => ?_) (fun c21 => ?_)
        · have hw := hw.1 c21
          refine x_aload_n C d_Mod_readsNumber_30 rfl ?_
          refine g_Mod_22 (p := 82) C rfl fl_Mod_25 d_Mod_readsNumber_31 ?_
          refine x_iload_n C d_Mod_readsNumber_34 rfl ?_
          refine x_bipush (v := 10) C d_Mod_readsNumber_35 rfl ?_
          refine x_aload_n C d_Mod_readsNumber_37 rfl ?_
          refine g_Mod_22 (p := 82) C rfl fl_Mod_25 d_Mod_readsNumber_38 ?_
          refine x_iload_n C d_Mod_readsNumber_41 rfl ?_
          obtain ⟨h22, hw⟩ := hw
          refine x_iald (p := 88) (n := 4) C rfl h22 d_Mod_readsNumber_42 ?_
          refine x_imul C d_Mod_readsNumber_43 ?_
          refine x_aload_n C d_Mod_readsNumber_44 rfl ?_
          refine x_callV (As := []) (rest := [.int (10 * (s13 88 (Int32.toNatClampNeg x1))), .int x1, .ref (xa X 88)]) (p := 82) C (m_Mod_here (xg X) C.2.2.2.2.2.2.1  s13 _ hw) cw_Mod_here ml_Mod_164 rfl (by decide) (by decide) rfl rfl rfl ⟨rfl, rfl, Nat.le_of_ble_eq_true rfl, Nat.le_of_ble_eq_true rfl⟩ ⟨Nat.zero_le _, Nat.zero_le _⟩ rfl (Nat.le_of_ble_eq_true rfl) d_Mod_readsNumber_45 ?_
          rintro _ _ ⟨x23, rfl, rfl, hw⟩
          show V X _ _ _ _ 48 [some (.ref (xa X 82)), some (.int x1), some (.int x2), some (.int x12)] [.int x23, .int (10 * (s13 88 (Int32.toNatClampNeg x1))), .int x1, .ref (xa X 88)]
          refine x_iadd C d_Mod_readsNumber_48 ?_
          refine x_bipush (v := 48) C d_Mod_readsNumber_49 rfl ?_
          refine x_isub C d_Mod_readsNumber_51 ?_
          obtain ⟨h25, hw⟩ := hw
          refine x_iast (p := 88) (n := 4) C rfl h25 d_Mod_readsNumber_52 ?_
          refine x_st (fun s26 hs26 => ?_)
          have hw := hw s26 hs26
          refine x_aload_n C d_Mod_readsNumber_53 rfl ?_
          refine x_dup C d_Mod_readsNumber_54 rfl ?_
          refine g_Mod_19 (p := 82) C rfl fl_Mod_155 d_Mod_readsNumber_55 ?_
          refine x_iconst (v := 1) C d_Mod_readsNumber_58 rfl ?_
          refine x_iadd C d_Mod_readsNumber_59 ?_
          refine p_Mod_19 (p := 82) C rfl fl_Mod_155 d_Mod_readsNumber_60 ?_
          refine x_st (fun s27 hs27 => ?_)
          have hw := hw s27 hs27
          obtain ⟨x28, hx28⟩ : ∃ z : Int32, z = x12 + 1 := ⟨_, rfl⟩
          refine x_iinc (v := x28) (L' := [some (.ref (xa X 82)), some (.int x1), some (.int x2), some (.int x28)]) C d_Mod_readsNumber_63 (Nat.le_of_ble_eq_true rfl) rfl (by rw [hx28]; rfl) rfl ?_
          have hw := hw x28 hx28
          refine x_goto (tgt := 9) C d_Mod_readsNumber_66 (by decide) ?_
          obtain ⟨m29, hm29, hw⟩ := hw
          exact x_wk (ihI14 m29 hm29 x28 s27 hw) (And.intro rfl (And.intro rfl (And.intro rfl (And.intro rfl (trivial)))))
        · have hw := hw.2 c21
          refine x_iconst (v := 0) C d_Mod_readsNumber_28 rfl ?_
          exact x_zreturn (b := false) C d_Mod_readsNumber_29 ⟨_, rfl, hw⟩
  exact x_wk (lI14 n15 0 s11 hn15) (And.intro rfl (And.intro rfl (And.intro rfl (And.intro rfl (trivial)))))
def vc_Mod_readsStatement  (s : St) (Q : Bool → St → Prop) : Prop :=
    vc_Mod_here  s (fun x10 => (∀ s12 : St, s12 = wr s 82 19 ((s 82 19) + 1) → (∃ J15 : Int32 → St → Prop, (∀ (x13 : Int32) (s14 : St), J15 x13 s14 → ((x13 = 0 → Q false s14) ∧ (¬ x13 = 0 → vc_Mod_here  s14 (fun x17 => ((x17 = 59 → (∀ s20 : St, s20 = wr s14 82 19 ((s14 82 19) + 1) → Q true s20)) ∧ (¬ x17 = 59 → Q false s14)))))) ∧ (∃ J21 : Prop, (J21 → vc_Mod_readsNumber 0 2 s12 (fun b22 s23 => J15 (bi b22) s23)) ∧ (∃ J24 : Prop, (J24 → (∀ s25 : St, s25 = wr s12 82 19 ((s12 82 19) - 1) → Q false s25)) ∧ (∃ J26 : Prop, (J26 → vc_Mod_readsNumber 0 1 s12 (fun b27 s28 => (∃ J31 : Int32 → St → Prop, (∀ (x29 : Int32) (s30 : St), J31 x29 s30 → J15 x29 s30) ∧ (∃ J33 : St → Prop, (∀ (s32 : St), J33 s32 → J31 0 s32) ∧ (((bi b27) = 0 → J33 s28) ∧ (¬ (bi b27) = 0 → vc_Mod_readsNumber 1 1 s28 (fun b35 s36 => (((bi b35) = 0 → J33 s36) ∧ (¬ (bi b35) = 0 → J31 1 s36))))))))) ∧ ((x10 = 98 → vc_Mod_readsNumber 0 2 s12 (fun b39 s40 => (∃ J43 : Int32 → St → Prop, (∀ (x41 : Int32) (s42 : St), J43 x41 s42 → J15 x41 s42) ∧ (∃ J45 : St → Prop, (∀ (s44 : St), J45 s44 → J43 0 s44) ∧ (((bi b39) = 0 → J45 s40) ∧ (¬ (bi b39) = 0 → vc_Mod_readsNumber 1 1 s40 (fun b47 s48 => (((bi b47) = 0 → J45 s48) ∧ (¬ (bi b47) = 0 → vc_Mod_readsNumber 2 1 s48 (fun b50 s51 => (((bi b50) = 0 → J45 s51) ∧ (¬ (bi b50) = 0 → vc_Mod_readsNumber 3 1 s51 (fun b53 s54 => (((bi b53) = 0 → J45 s54) ∧ (¬ (bi b53) = 0 → J43 1 s54))))))))))))))) ∧ (¬ x10 = 98 → ((x10 = 99 → J21) ∧ (¬ x10 = 99 → ((x10 = 108 → vc_Mod_readsNumber 0 3 s12 (fun b58 s59 => J15 (bi b58) s59)) ∧ (¬ x10 = 108 → ((x10 = 112 → J26) ∧ (¬ x10 = 112 → ((x10 = 114 → vc_Mod_readsNumber 0 1 s12 (fun b62 s63 => J15 (bi b62) s63)) ∧ (¬ x10 = 114 → ((x10 = 116 → J21) ∧ (¬ x10 = 116 → ((x10 = 120 → J26) ∧ (¬ x10 = 120 → ((x10 = 121 → vc_Mod_readsNumber 0 1 s12 (fun b67 s68 => (∃ J71 : Int32 → St → Prop, (∀ (x69 : Int32) (s70 : St), J71 x69 s70 → J15 x69 s70) ∧ (∃ J73 : St → Prop, (∀ (s72 : St), J73 s72 → J71 0 s72) ∧ (((bi b67) = 0 → J73 s68) ∧ (¬ (bi b67) = 0 → vc_Mod_readsNumber 1 1 s68 (fun b75 s76 => (((bi b75) = 0 → J73 s76) ∧ (¬ (bi b75) = 0 → vc_Mod_readsNumber 2 2 s76 (fun b78 s79 => (((bi b78) = 0 → J73 s79) ∧ (¬ (bi b78) = 0 → J71 1 s79)))))))))))) ∧ (¬ x10 = 121 → J24))))))))))))))))))))))
def rm_Mod_readsStatement : Room := { frames := 2, cells := 0, slots := 0, locals := 45 }
set_option maxHeartbeats 4000000 in
set_option maxRecDepth 20000 in
theorem m_Mod_readsStatement (g : Gx) (hg : gOk g)   (s : St) (Q : Bool → St → Prop) (hw : vc_Mod_readsStatement  s Q) : Mc g y_Mod_readsStatement b_Mod_readsStatement 3 (some FieldType.boolean) rm_Mod_readsStatement [.ref (ga g 82)] s (fun v s' => ∃ r : Bool, v = some (.int (bi r)) ∧ Q r s') := by
  refine mc_ofV (j := 2) (L := [some (.ref (ga g 82)), none, none]) hg (by decide) (Nat.le_of_ble_eq_true rfl) rfl ?_
  intro X hX C
  subst hX
  unfold vc_Mod_readsStatement at hw
  refine x_aload_n C d_Mod_readsStatement_0 rfl ?_
  refine x_callV (As := []) (rest := []) (p := 82) C (m_Mod_here (xg X) C.2.2.2.2.2.2.1  s _ hw) cw_Mod_here ml_Mod_164 rfl (by decide) (by decide) rfl rfl rfl ⟨rfl, rfl, Nat.le_of_ble_eq_true rfl, Nat.le_of_ble_eq_true rfl⟩ ⟨Nat.zero_le _, Nat.zero_le _⟩ rfl (Nat.le_of_ble_eq_true rfl) d_Mod_readsStatement_1 ?_
  rintro _ _ ⟨x10, rfl, rfl, hw⟩
  show V X _ _ _ _ 4 [some (.ref (xa X 82)), none, none] [.int x10]
  refine x_istore_n (L' := [some (.ref (xa X 82)), some (.int x10), none]) C d_Mod_readsStatement_4 (Nat.le_of_ble_eq_true rfl) rfl ?_
  refine x_aload_n C d_Mod_readsStatement_5 rfl ?_
  refine x_dup C d_Mod_readsStatement_6 rfl ?_
  refine g_Mod_19 (p := 82) C rfl fl_Mod_155 d_Mod_readsStatement_7 ?_
  refine x_iconst (v := 1) C d_Mod_readsStatement_10 rfl ?_
  refine x_iadd C d_Mod_readsStatement_11 ?_
  refine p_Mod_19 (p := 82) C rfl fl_Mod_155 d_Mod_readsStatement_12 ?_
  refine x_st (fun s12 hs12 => ?_)
  have hw := hw s12 hs12
  refine x_iload_n C d_Mod_readsStatement_15 rfl ?_
  obtain ⟨J15, hJ15, hw⟩ := hw
  have kJ15 : ∀ (x13 : Int32) (s14 : St), J15 x13 s14 → V X (xQ X (fun v s' => ∃ r : Bool, v = some (.int (bi r)) ∧ Q r s')) 0 0 s14 278 [some (.ref (xa X 82)), some (.int x10), some (.int x13)] [] := by
    intro x13 s14 hv
    have hw := hJ15 x13 s14 hv
    refine x_iload_n C d_Mod_readsStatement_278 rfl ?_
    refine x_if_eq (tgt := 291) C d_Mod_readsStatement_279 (by decide) (fun c16 => ?_) (fun c16 => ?_)
    · have hw := hw.1 c16
      refine x_iconst (v := 0) C d_Mod_readsStatement_291 rfl ?_
      exact x_zreturn (b := false) C d_Mod_readsStatement_292 ⟨_, rfl, hw⟩
    · have hw := hw.2 c16
      refine x_aload_n C d_Mod_readsStatement_282 rfl ?_
      refine x_callV (As := []) (rest := []) (p := 82) C (m_Mod_here (xg X) C.2.2.2.2.2.2.1  s14 _ hw) cw_Mod_here ml_Mod_164 rfl (by decide) (by decide) rfl rfl rfl ⟨rfl, rfl, Nat.le_of_ble_eq_true rfl, Nat.le_of_ble_eq_true rfl⟩ ⟨Nat.zero_le _, Nat.zero_le _⟩ rfl (Nat.le_of_ble_eq_true rfl) d_Mod_readsStatement_283 ?_
      rintro _ _ ⟨x17, rfl, rfl, hw⟩
      show V X _ _ _ _ 286 [some (.ref (xa X 82)), some (.int x10), some (.int x13)] [.int x17]
      refine x_bipush (v := 59) C d_Mod_readsStatement_286 rfl ?_
      refine x_icmp_eq (tgt := 293) C d_Mod_readsStatement_288 (by decide) (fun c19 => ?_) (fun c19 => ?_)
      · have hw := hw.1 c19
        refine x_aload_n C d_Mod_readsStatement_293 rfl ?_
        refine x_dup C d_Mod_readsStatement_294 rfl ?_
        refine g_Mod_19 (p := 82) C rfl fl_Mod_155 d_Mod_readsStatement_295 ?_
        refine x_iconst (v := 1) C d_Mod_readsStatement_298 rfl ?_
        refine x_iadd C d_Mod_readsStatement_299 ?_
        refine p_Mod_19 (p := 82) C rfl fl_Mod_155 d_Mod_readsStatement_300 ?_
        refine x_st (fun s20 hs20 => ?_)
        have hw := hw s20 hs20
        refine x_iconst (v := 1) C d_Mod_readsStatement_303 rfl ?_
        exact x_zreturn (b := true) C d_Mod_readsStatement_304 ⟨_, rfl, hw⟩
      · have hw := hw.2 c19
        refine x_iconst (v := 0) C d_Mod_readsStatement_291 rfl ?_
        exact x_zreturn (b := false) C d_Mod_readsStatement_292 ⟨_, rfl, hw⟩
  obtain ⟨J21, hJ21, hw⟩ := hw
  have kJ21 : J21 → V X (xQ X (fun v s' => ∃ r : Bool, v = some (.int (bi r)) ∧ Q r s')) 0 0 s12 246 [some (.ref (xa X 82)), some (.int x10), none] [] := by
    intro  hv
    have hw := hJ21  hv
    refine x_aload_n C d_Mod_readsStatement_246 rfl ?_
    refine x_iconst (v := 0) C d_Mod_readsStatement_247 rfl ?_
    refine x_iconst (v := 2) C d_Mod_readsStatement_248 rfl ?_
    refine x_callV (As := [.int 0, .int 2]) (rest := []) (p := 82) C (m_Mod_readsNumber (xg X) C.2.2.2.2.2.2.1 0 2 s12 _ hw) cw_Mod_readsNumber ml_Mod_168 rfl (by decide) (by decide) rfl rfl rfl ⟨rfl, rfl, Nat.le_of_ble_eq_true rfl, Nat.le_of_ble_eq_true rfl⟩ ⟨Nat.zero_le _, Nat.zero_le _⟩ rfl (Nat.le_of_ble_eq_true rfl) d_Mod_readsStatement_249 ?_
    rintro _ s23 ⟨b22, rfl, hw⟩
    show V X _ _ _ _ 252 [some (.ref (xa X 82)), some (.int x10), none] [.int (bi b22)]
    refine x_istore_n (L' := [some (.ref (xa X 82)), some (.int x10), some (.int (bi b22))]) C d_Mod_readsStatement_252 (Nat.le_of_ble_eq_true rfl) rfl ?_
    refine x_goto (tgt := 278) C d_Mod_readsStatement_253 (by decide) ?_
    exact x_wk (kJ15 (bi b22) s23 hw) (And.intro rfl (And.intro rfl (And.intro rfl (trivial))))
  obtain ⟨J24, hJ24, hw⟩ := hw
  have kJ24 : J24 → V X (xQ X (fun v s' => ∃ r : Bool, v = some (.int (bi r)) ∧ Q r s')) 0 0 s12 266 [some (.ref (xa X 82)), some (.int x10), none] [] := by
    intro  hv
    have hw := hJ24  hv
    refine x_aload_n C d_Mod_readsStatement_266 rfl ?_
    refine x_dup C d_Mod_readsStatement_267 rfl ?_
    refine g_Mod_19 (p := 82) C rfl fl_Mod_155 d_Mod_readsStatement_268 ?_
    refine x_iconst (v := 1) C d_Mod_readsStatement_271 rfl ?_
    refine x_isub C d_Mod_readsStatement_272 ?_
    refine p_Mod_19 (p := 82) C rfl fl_Mod_155 d_Mod_readsStatement_273 ?_
    refine x_st (fun s25 hs25 => ?_)
    have hw := hw s25 hs25
    refine x_iconst (v := 0) C d_Mod_readsStatement_276 rfl ?_
    exact x_zreturn (b := false) C d_Mod_readsStatement_277 ⟨_, rfl, hw⟩
  obtain ⟨J26, hJ26, hw⟩ := hw
  have kJ26 : J26 → V X (xQ X (fun v s' => ∃ r : Bool, v = some (.int (bi r)) ∧ Q r s')) 0 0 s12 209 [some (.ref (xa X 82)), some (.int x10), none] [] := by
    intro  hv
    have hw := hJ26  hv
    refine x_aload_n C d_Mod_readsStatement_209 rfl ?_
    refine x_iconst (v := 0) C d_Mod_readsStatement_210 rfl ?_
    refine x_iconst (v := 1) C d_Mod_readsStatement_211 rfl ?_
    refine x_callV (As := [.int 0, .int 1]) (rest := []) (p := 82) C (m_Mod_readsNumber (xg X) C.2.2.2.2.2.2.1 0 1 s12 _ hw) cw_Mod_readsNumber ml_Mod_168 rfl (by decide) (by decide) rfl rfl rfl ⟨rfl, rfl, Nat.le_of_ble_eq_true rfl, Nat.le_of_ble_eq_true rfl⟩ ⟨Nat.zero_le _, Nat.zero_le _⟩ rfl (Nat.le_of_ble_eq_true rfl) d_Mod_readsStatement_212 ?_
    rintro _ s28 ⟨b27, rfl, hw⟩
    show V X _ _ _ _ 215 [some (.ref (xa X 82)), some (.int x10), none] [.int (bi b27)]
    obtain ⟨J31, hJ31, hw⟩ := hw
    have kJ31 : ∀ (x29 : Int32) (s30 : St), J31 x29 s30 → V X (xQ X (fun v s' => ∃ r : Bool, v = some (.int (bi r)) ∧ Q r s')) 0 0 s30 232 [some (.ref (xa X 82)), some (.int x10), none] [.int x29] := by
      intro x29 s30 hv
      have hw := hJ31 x29 s30 hv
      refine x_istore_n (L' := [some (.ref (xa X 82)), some (.int x10), some (.int x29)]) C d_Mod_readsStatement_232 (Nat.le_of_ble_eq_true rfl) rfl ?_
      refine x_goto (tgt := 278) C d_Mod_readsStatement_233 (by decide) ?_
      exact x_wk (kJ15 x29 s30 hw) (And.intro rfl (And.intro rfl (And.intro rfl (trivial))))
    obtain ⟨J33, hJ33, hw⟩ := hw
    have kJ33 : ∀ (s32 : St), J33 s32 → V X (xQ X (fun v s' => ∃ r : Bool, v = some (.int (bi r)) ∧ Q r s')) 0 0 s32 231 [some (.ref (xa X 82)), some (.int x10), none] [] := by
      intro s32 hv
      have hw := hJ33 s32 hv
      refine x_iconst (v := 0) C d_Mod_readsStatement_231 rfl ?_
      exact x_wk (kJ31 0 s32 hw) (And.intro rfl (And.intro rfl (trivial)))
    refine x_if_eq (tgt := 231) C d_Mod_readsStatement_215 (by decide) (fun c34 => ?_) (fun c34 => ?_)
    · have hw := hw.1 c34
      exact x_wk (kJ33 s28 hw) (And.intro rfl (And.intro rfl (trivial)))
    · have hw := hw.2 c34
      refine x_aload_n C d_Mod_readsStatement_218 rfl ?_
      refine x_iconst (v := 1) C d_Mod_readsStatement_219 rfl ?_
      refine x_iconst (v := 1) C d_Mod_readsStatement_220 rfl ?_
      refine x_callV (As := [.int 1, .int 1]) (rest := []) (p := 82) C (m_Mod_readsNumber (xg X) C.2.2.2.2.2.2.1 1 1 s28 _ hw) cw_Mod_readsNumber ml_Mod_168 rfl (by decide) (by decide) rfl rfl rfl ⟨rfl, rfl, Nat.le_of_ble_eq_true rfl, Nat.le_of_ble_eq_true rfl⟩ ⟨Nat.zero_le _, Nat.zero_le _⟩ rfl (Nat.le_of_ble_eq_true rfl) d_Mod_readsStatement_221 ?_
      rintro _ s36 ⟨b35, rfl, hw⟩
      show V X _ _ _ _ 224 [some (.ref (xa X 82)), some (.int x10), none] [.int (bi b35)]
      refine x_if_eq (tgt := 231) C d_Mod_readsStatement_224 (by decide) (fun c37 => ?_) (fun c37 => ?_)
      · have hw := hw.1 c37
        exact x_wk (kJ33 s36 hw) (And.intro rfl (And.intro rfl (trivial)))
      · have hw := hw.2 c37
        refine x_iconst (v := 1) C d_Mod_readsStatement_227 rfl ?_
        refine x_goto (tgt := 232) C d_Mod_readsStatement_228 (by decide) ?_
        exact x_wk (kJ31 1 s36 hw) (And.intro rfl (And.intro rfl (trivial)))
  by_cases c38 : x10 = 98
  · have hw := hw.1 c38
    refine x_tswIn (v := 98) (off := 148) (tgt := 164) C d_Mod_readsStatement_16 c38 (by decide) (by decide) rfl (by decide) ?_
    refine x_aload_n C d_Mod_readsStatement_164 rfl ?_
    refine x_iconst (v := 0) C d_Mod_readsStatement_165 rfl ?_
    refine x_iconst (v := 2) C d_Mod_readsStatement_166 rfl ?_
    refine x_callV (As := [.int 0, .int 2]) (rest := []) (p := 82) C (m_Mod_readsNumber (xg X) C.2.2.2.2.2.2.1 0 2 s12 _ hw) cw_Mod_readsNumber ml_Mod_168 rfl (by decide) (by decide) rfl rfl rfl ⟨rfl, rfl, Nat.le_of_ble_eq_true rfl, Nat.le_of_ble_eq_true rfl⟩ ⟨Nat.zero_le _, Nat.zero_le _⟩ rfl (Nat.le_of_ble_eq_true rfl) d_Mod_readsStatement_167 ?_
    rintro _ s40 ⟨b39, rfl, hw⟩
    show V X _ _ _ _ 170 [some (.ref (xa X 82)), some (.int x10), none] [.int (bi b39)]
    obtain ⟨J43, hJ43, hw⟩ := hw
    have kJ43 : ∀ (x41 : Int32) (s42 : St), J43 x41 s42 → V X (xQ X (fun v s' => ∃ r : Bool, v = some (.int (bi r)) ∧ Q r s')) 0 0 s42 205 [some (.ref (xa X 82)), some (.int x10), none] [.int x41] := by
      intro x41 s42 hv
      have hw := hJ43 x41 s42 hv
      refine x_istore_n (L' := [some (.ref (xa X 82)), some (.int x10), some (.int x41)]) C d_Mod_readsStatement_205 (Nat.le_of_ble_eq_true rfl) rfl ?_
      refine x_goto (tgt := 278) C d_Mod_readsStatement_206 (by decide) ?_
      exact x_wk (kJ15 x41 s42 hw) (And.intro rfl (And.intro rfl (And.intro rfl (trivial))))
    obtain ⟨J45, hJ45, hw⟩ := hw
    have kJ45 : ∀ (s44 : St), J45 s44 → V X (xQ X (fun v s' => ∃ r : Bool, v = some (.int (bi r)) ∧ Q r s')) 0 0 s44 204 [some (.ref (xa X 82)), some (.int x10), none] [] := by
      intro s44 hv
      have hw := hJ45 s44 hv
      refine x_iconst (v := 0) C d_Mod_readsStatement_204 rfl ?_
      exact x_wk (kJ43 0 s44 hw) (And.intro rfl (And.intro rfl (trivial)))
    refine x_if_eq (tgt := 204) C d_Mod_readsStatement_170 (by decide) (fun c46 => ?_) (fun c46 => ?_)
    · have hw := hw.1 c46
      exact x_wk (kJ45 s40 hw) (And.intro rfl (And.intro rfl (trivial)))
    · have hw := hw.2 c46
      refine x_aload_n C d_Mod_readsStatement_173 rfl ?_
      refine x_iconst (v := 1) C d_Mod_readsStatement_174 rfl ?_
      refine x_iconst (v := 1) C d_Mod_readsStatement_175 rfl ?_
      refine x_callV (As := [.int 1, .int 1]) (rest := []) (p := 82) C (m_Mod_readsNumber (xg X) C.2.2.2.2.2.2.1 1 1 s40 _ hw) cw_Mod_readsNumber ml_Mod_168 rfl (by decide) (by decide) rfl rfl rfl ⟨rfl, rfl, Nat.le_of_ble_eq_true rfl, Nat.le_of_ble_eq_true rfl⟩ ⟨Nat.zero_le _, Nat.zero_le _⟩ rfl (Nat.le_of_ble_eq_true rfl) d_Mod_readsStatement_176 ?_
      rintro _ s48 ⟨b47, rfl, hw⟩
      show V X _ _ _ _ 179 [some (.ref (xa X 82)), some (.int x10), none] [.int (bi b47)]
      refine x_if_eq (tgt := 204) C d_Mod_readsStatement_179 (by decide) (fun c49 => ?_) (fun c49 => ?_)
      · have hw := hw.1 c49
        exact x_wk (kJ45 s48 hw) (And.intro rfl (And.intro rfl (trivial)))
      · have hw := hw.2 c49
        refine x_aload_n C d_Mod_readsStatement_182 rfl ?_
        refine x_iconst (v := 2) C d_Mod_readsStatement_183 rfl ?_
        refine x_iconst (v := 1) C d_Mod_readsStatement_184 rfl ?_
        refine x_callV (As := [.int 2, .int 1]) (rest := []) (p := 82) C (m_Mod_readsNumber (xg X) C.2.2.2.2.2.2.1 2 1 s48 _ hw) cw_Mod_readsNumber ml_Mod_168 rfl (by decide) (by decide) rfl rfl rfl ⟨rfl, rfl, Nat.le_of_ble_eq_true rfl, Nat.le_of_ble_eq_true rfl⟩ ⟨Nat.zero_le _, Nat.zero_le _⟩ rfl (Nat.le_of_ble_eq_true rfl) d_Mod_readsStatement_185 ?_
        rintro _ s51 ⟨b50, rfl, hw⟩
        show V X _ _ _ _ 188 [some (.ref (xa X 82)), some (.int x10), none] [.int (bi b50)]
        refine x_if_eq (tgt := 204) C d_Mod_readsStatement_188 (by decide) (fun c52 => ?_) (fun c52 => ?_)
        · have hw := hw.1 c52
          exact x_wk (kJ45 s51 hw) (And.intro rfl (And.intro rfl (trivial)))
        · have hw := hw.2 c52
          refine x_aload_n C d_Mod_readsStatement_191 rfl ?_
          refine x_iconst (v := 3) C d_Mod_readsStatement_192 rfl ?_
          refine x_iconst (v := 1) C d_Mod_readsStatement_193 rfl ?_
          refine x_callV (As := [.int 3, .int 1]) (rest := []) (p := 82) C (m_Mod_readsNumber (xg X) C.2.2.2.2.2.2.1 3 1 s51 _ hw) cw_Mod_readsNumber ml_Mod_168 rfl (by decide) (by decide) rfl rfl rfl ⟨rfl, rfl, Nat.le_of_ble_eq_true rfl, Nat.le_of_ble_eq_true rfl⟩ ⟨Nat.zero_le _, Nat.zero_le _⟩ rfl (Nat.le_of_ble_eq_true rfl) d_Mod_readsStatement_194 ?_
          rintro _ s54 ⟨b53, rfl, hw⟩
          show V X _ _ _ _ 197 [some (.ref (xa X 82)), some (.int x10), none] [.int (bi b53)]
          refine x_if_eq (tgt := 204) C d_Mod_readsStatement_197 (by decide) (fun c55 => ?_) (fun c55 => ?_)
          · have hw := hw.1 c55
            exact x_wk (kJ45 s54 hw) (And.intro rfl (And.intro rfl (trivial)))
          · have hw := hw.2 c55
            refine x_iconst (v := 1) C d_Mod_readsStatement_200 rfl ?_
            refine x_goto (tgt := 205) C d_Mod_readsStatement_201 (by decide) ?_
            exact x_wk (kJ43 1 s54 hw) (And.intro rfl (And.intro rfl (trivial)))
  have hw := hw.2 c38
  by_cases c56 : x10 = 99
  · have hw := hw.1 c56
    refine x_tswIn (v := 99) (off := 230) (tgt := 246) C d_Mod_readsStatement_16 c56 (by decide) (by decide) rfl (by decide) ?_
    exact x_wk (kJ21  hw) (And.intro rfl (And.intro rfl (trivial)))
  have hw := hw.2 c56
  by_cases c57 : x10 = 108
  · have hw := hw.1 c57
    refine x_tswIn (v := 108) (off := 240) (tgt := 256) C d_Mod_readsStatement_16 c57 (by decide) (by decide) rfl (by decide) ?_
    refine x_aload_n C d_Mod_readsStatement_256 rfl ?_
    refine x_iconst (v := 0) C d_Mod_readsStatement_257 rfl ?_
    refine x_iconst (v := 3) C d_Mod_readsStatement_258 rfl ?_
    refine x_callV (As := [.int 0, .int 3]) (rest := []) (p := 82) C (m_Mod_readsNumber (xg X) C.2.2.2.2.2.2.1 0 3 s12 _ hw) cw_Mod_readsNumber ml_Mod_168 rfl (by decide) (by decide) rfl rfl rfl ⟨rfl, rfl, Nat.le_of_ble_eq_true rfl, Nat.le_of_ble_eq_true rfl⟩ ⟨Nat.zero_le _, Nat.zero_le _⟩ rfl (Nat.le_of_ble_eq_true rfl) d_Mod_readsStatement_259 ?_
    rintro _ s59 ⟨b58, rfl, hw⟩
    show V X _ _ _ _ 262 [some (.ref (xa X 82)), some (.int x10), none] [.int (bi b58)]
    refine x_istore_n (L' := [some (.ref (xa X 82)), some (.int x10), some (.int (bi b58))]) C d_Mod_readsStatement_262 (Nat.le_of_ble_eq_true rfl) rfl ?_
    refine x_goto (tgt := 278) C d_Mod_readsStatement_263 (by decide) ?_
    exact x_wk (kJ15 (bi b58) s59 hw) (And.intro rfl (And.intro rfl (And.intro rfl (trivial))))
  have hw := hw.2 c57
  by_cases c60 : x10 = 112
  · have hw := hw.1 c60
    refine x_tswIn (v := 112) (off := 193) (tgt := 209) C d_Mod_readsStatement_16 c60 (by decide) (by decide) rfl (by decide) ?_
    exact x_wk (kJ26  hw) (And.intro rfl (And.intro rfl (trivial)))
  have hw := hw.2 c60
  by_cases c61 : x10 = 114
  · have hw := hw.1 c61
    refine x_tswIn (v := 114) (off := 220) (tgt := 236) C d_Mod_readsStatement_16 c61 (by decide) (by decide) rfl (by decide) ?_
    refine x_aload_n C d_Mod_readsStatement_236 rfl ?_
    refine x_iconst (v := 0) C d_Mod_readsStatement_237 rfl ?_
    refine x_iconst (v := 1) C d_Mod_readsStatement_238 rfl ?_
    refine x_callV (As := [.int 0, .int 1]) (rest := []) (p := 82) C (m_Mod_readsNumber (xg X) C.2.2.2.2.2.2.1 0 1 s12 _ hw) cw_Mod_readsNumber ml_Mod_168 rfl (by decide) (by decide) rfl rfl rfl ⟨rfl, rfl, Nat.le_of_ble_eq_true rfl, Nat.le_of_ble_eq_true rfl⟩ ⟨Nat.zero_le _, Nat.zero_le _⟩ rfl (Nat.le_of_ble_eq_true rfl) d_Mod_readsStatement_239 ?_
    rintro _ s63 ⟨b62, rfl, hw⟩
    show V X _ _ _ _ 242 [some (.ref (xa X 82)), some (.int x10), none] [.int (bi b62)]
    refine x_istore_n (L' := [some (.ref (xa X 82)), some (.int x10), some (.int (bi b62))]) C d_Mod_readsStatement_242 (Nat.le_of_ble_eq_true rfl) rfl ?_
    refine x_goto (tgt := 278) C d_Mod_readsStatement_243 (by decide) ?_
    exact x_wk (kJ15 (bi b62) s63 hw) (And.intro rfl (And.intro rfl (And.intro rfl (trivial))))
  have hw := hw.2 c61
  by_cases c64 : x10 = 116
  · have hw := hw.1 c64
    refine x_tswIn (v := 116) (off := 230) (tgt := 246) C d_Mod_readsStatement_16 c64 (by decide) (by decide) rfl (by decide) ?_
    exact x_wk (kJ21  hw) (And.intro rfl (And.intro rfl (trivial)))
  have hw := hw.2 c64
  by_cases c65 : x10 = 120
  · have hw := hw.1 c65
    refine x_tswIn (v := 120) (off := 193) (tgt := 209) C d_Mod_readsStatement_16 c65 (by decide) (by decide) rfl (by decide) ?_
    exact x_wk (kJ26  hw) (And.intro rfl (And.intro rfl (trivial)))
  have hw := hw.2 c65
  by_cases c66 : x10 = 121
  · have hw := hw.1 c66
    refine x_tswIn (v := 121) (off := 112) (tgt := 128) C d_Mod_readsStatement_16 c66 (by decide) (by decide) rfl (by decide) ?_
    refine x_aload_n C d_Mod_readsStatement_128 rfl ?_
    refine x_iconst (v := 0) C d_Mod_readsStatement_129 rfl ?_
    refine x_iconst (v := 1) C d_Mod_readsStatement_130 rfl ?_
    refine x_callV (As := [.int 0, .int 1]) (rest := []) (p := 82) C (m_Mod_readsNumber (xg X) C.2.2.2.2.2.2.1 0 1 s12 _ hw) cw_Mod_readsNumber ml_Mod_168 rfl (by decide) (by decide) rfl rfl rfl ⟨rfl, rfl, Nat.le_of_ble_eq_true rfl, Nat.le_of_ble_eq_true rfl⟩ ⟨Nat.zero_le _, Nat.zero_le _⟩ rfl (Nat.le_of_ble_eq_true rfl) d_Mod_readsStatement_131 ?_
    rintro _ s68 ⟨b67, rfl, hw⟩
    show V X _ _ _ _ 134 [some (.ref (xa X 82)), some (.int x10), none] [.int (bi b67)]
    obtain ⟨J71, hJ71, hw⟩ := hw
    have kJ71 : ∀ (x69 : Int32) (s70 : St), J71 x69 s70 → V X (xQ X (fun v s' => ∃ r : Bool, v = some (.int (bi r)) ∧ Q r s')) 0 0 s70 160 [some (.ref (xa X 82)), some (.int x10), none] [.int x69] := by
      intro x69 s70 hv
      have hw := hJ71 x69 s70 hv
      refine x_istore_n (L' := [some (.ref (xa X 82)), some (.int x10), some (.int x69)]) C d_Mod_readsStatement_160 (Nat.le_of_ble_eq_true rfl) rfl ?_
      refine x_goto (tgt := 278) C d_Mod_readsStatement_161 (by decide) ?_
      exact x_wk (kJ15 x69 s70 hw) (And.intro rfl (And.intro rfl (And.intro rfl (trivial))))
    obtain ⟨J73, hJ73, hw⟩ := hw
    have kJ73 : ∀ (s72 : St), J73 s72 → V X (xQ X (fun v s' => ∃ r : Bool, v = some (.int (bi r)) ∧ Q r s')) 0 0 s72 159 [some (.ref (xa X 82)), some (.int x10), none] [] := by
      intro s72 hv
      have hw := hJ73 s72 hv
      refine x_iconst (v := 0) C d_Mod_readsStatement_159 rfl ?_
      exact x_wk (kJ71 0 s72 hw) (And.intro rfl (And.intro rfl (trivial)))
    refine x_if_eq (tgt := 159) C d_Mod_readsStatement_134 (by decide) (fun c74 => ?_) (fun c74 => ?_)
    · have hw := hw.1 c74
      exact x_wk (kJ73 s68 hw) (And.intro rfl (And.intro rfl (trivial)))
    · have hw := hw.2 c74
      refine x_aload_n C d_Mod_readsStatement_137 rfl ?_
      refine x_iconst (v := 1) C d_Mod_readsStatement_138 rfl ?_
      refine x_iconst (v := 1) C d_Mod_readsStatement_139 rfl ?_
      refine x_callV (As := [.int 1, .int 1]) (rest := []) (p := 82) C (m_Mod_readsNumber (xg X) C.2.2.2.2.2.2.1 1 1 s68 _ hw) cw_Mod_readsNumber ml_Mod_168 rfl (by decide) (by decide) rfl rfl rfl ⟨rfl, rfl, Nat.le_of_ble_eq_true rfl, Nat.le_of_ble_eq_true rfl⟩ ⟨Nat.zero_le _, Nat.zero_le _⟩ rfl (Nat.le_of_ble_eq_true rfl) d_Mod_readsStatement_140 ?_
      rintro _ s76 ⟨b75, rfl, hw⟩
      show V X _ _ _ _ 143 [some (.ref (xa X 82)), some (.int x10), none] [.int (bi b75)]
      refine x_if_eq (tgt := 159) C d_Mod_readsStatement_143 (by decide) (fun c77 => ?_) (fun c77 => ?_)
      · have hw := hw.1 c77
        exact x_wk (kJ73 s76 hw) (And.intro rfl (And.intro rfl (trivial)))
      · have hw := hw.2 c77
        refine x_aload_n C d_Mod_readsStatement_146 rfl ?_
        refine x_iconst (v := 2) C d_Mod_readsStatement_147 rfl ?_
        refine x_iconst (v := 2) C d_Mod_readsStatement_148 rfl ?_
        refine x_callV (As := [.int 2, .int 2]) (rest := []) (p := 82) C (m_Mod_readsNumber (xg X) C.2.2.2.2.2.2.1 2 2 s76 _ hw) cw_Mod_readsNumber ml_Mod_168 rfl (by decide) (by decide) rfl rfl rfl ⟨rfl, rfl, Nat.le_of_ble_eq_true rfl, Nat.le_of_ble_eq_true rfl⟩ ⟨Nat.zero_le _, Nat.zero_le _⟩ rfl (Nat.le_of_ble_eq_true rfl) d_Mod_readsStatement_149 ?_
        rintro _ s79 ⟨b78, rfl, hw⟩
        show V X _ _ _ _ 152 [some (.ref (xa X 82)), some (.int x10), none] [.int (bi b78)]
        refine x_if_eq (tgt := 159) C d_Mod_readsStatement_152 (by decide) (fun c80 => ?_) (fun c80 => ?_)
        · have hw := hw.1 c80
          exact x_wk (kJ73 s79 hw) (And.intro rfl (And.intro rfl (trivial)))
        · have hw := hw.2 c80
          refine x_iconst (v := 1) C d_Mod_readsStatement_155 rfl ?_
          refine x_goto (tgt := 160) C d_Mod_readsStatement_156 (by decide) ?_
          exact x_wk (kJ71 1 s79 hw) (And.intro rfl (And.intro rfl (trivial)))
  have hw := hw.2 c66
  refine x_tswD (tgt := 266) C d_Mod_readsStatement_16 (fun j hj => by match j, hj with | 0, _ => exact Or.inr c38 | 1, _ => exact Or.inr c56 | 2, _ => exact Or.inl rfl | 3, _ => exact Or.inl rfl | 4, _ => exact Or.inl rfl | 5, _ => exact Or.inl rfl | 6, _ => exact Or.inl rfl | 7, _ => exact Or.inl rfl | 8, _ => exact Or.inl rfl | 9, _ => exact Or.inl rfl | 10, _ => exact Or.inr c57 | 11, _ => exact Or.inl rfl | 12, _ => exact Or.inl rfl | 13, _ => exact Or.inl rfl | 14, _ => exact Or.inr c60 | 15, _ => exact Or.inl rfl | 16, _ => exact Or.inr c61 | 17, _ => exact Or.inl rfl | 18, _ => exact Or.inr c64 | 19, _ => exact Or.inl rfl | 20, _ => exact Or.inl rfl | 21, _ => exact Or.inl rfl | 22, _ => exact Or.inr c65 | 23, _ => exact Or.inr c66 | j + 24, hj => exact absurd hj (by omega)) (by decide) ?_
  exact x_wk (kJ24  hw) (And.intro rfl (And.intro rfl (trivial)))
def vc_Mod_addsYard (x1 : Int32) (x2 : Int32) (x3 : Int32) (s : St) (Q : St → Prop) : Prop :=
    (vp_in 0 78 ∧ vc_Mod_atYard (s 83 (Int32.toNatClampNeg 0)) 0 (fun x11 => (vp_in x11 78 ∧ (∀ s14 : St, s14 = wr s 83 (Int32.toNatClampNeg x11) x1 → (vp_in 0 78 ∧ vc_Mod_atYard (s14 83 (Int32.toNatClampNeg 0)) 1 (fun x16 => (vp_in x16 78 ∧ (∀ s19 : St, s19 = wr s14 83 (Int32.toNatClampNeg x16) x2 → (vp_in 0 78 ∧ vc_Mod_atYard (s19 83 (Int32.toNatClampNeg 0)) 2 (fun x21 => (vp_in x21 78 ∧ (∀ s24 : St, s24 = wr s19 83 (Int32.toNatClampNeg x21) x3 → (vp_in 0 78 ∧ (vp_in 0 78 ∧ (∀ s27 : St, s27 = wr s24 83 (Int32.toNatClampNeg 0) ((s24 83 (Int32.toNatClampNeg 0)) + 1) → Q s27)))))))))))))))
def rm_Mod_addsYard : Room := { frames := 1, cells := 0, slots := 0, locals := 21 }
set_option maxHeartbeats 4000000 in
set_option maxRecDepth 20000 in
theorem m_Mod_addsYard (g : Gx) (hg : gOk g) (x1 : Int32) (x2 : Int32) (x3 : Int32)  (s : St) (Q : St → Prop) (hw : vc_Mod_addsYard x1 x2 x3 s Q) : Mc g y_Mod_addsYard b_Mod_addsYard 4 (none) rm_Mod_addsYard [.ref (ga g 82), .int x1, .int x2, .int x3] s (fun v s' => v = none ∧ Q s') := by
  refine mc_ofV (j := 0) (L := [some (.ref (ga g 82)), some (.int x1), some (.int x2), some (.int x3)]) hg (by decide) (Nat.le_of_ble_eq_true rfl) rfl ?_
  intro X hX C
  subst hX
  unfold vc_Mod_addsYard at hw
  refine x_aload_n C d_Mod_addsYard_0 rfl ?_
  refine g_Mod_0 (p := 82) C rfl fl_Mod_9 d_Mod_addsYard_1 ?_
  refine x_aload_n C d_Mod_addsYard_4 rfl ?_
  refine g_Mod_0 (p := 82) C rfl fl_Mod_9 d_Mod_addsYard_5 ?_
  refine x_iconst (v := 0) C d_Mod_addsYard_8 rfl ?_
  obtain ⟨h10, hw⟩ := hw
  refine x_iald (p := 83) (n := 78) C rfl h10 d_Mod_addsYard_9 ?_
  refine x_iconst (v := 0) C d_Mod_addsYard_10 rfl ?_
  refine x_callS (As := [.int (s 83 (Int32.toNatClampNeg 0)), .int 0]) (rest := [.ref (xa X 83)]) C (m_Mod_atYard (xg X) C.2.2.2.2.2.2.1 (s 83 (Int32.toNatClampNeg 0)) 0 s _ hw) cw_Mod_atYard ml_Mod_63 rfl ⟨rfl, rfl, Nat.le_of_ble_eq_true rfl, Nat.le_of_ble_eq_true rfl⟩ ⟨Nat.zero_le _, Nat.zero_le _⟩ rfl (Nat.le_of_ble_eq_true rfl) d_Mod_addsYard_11 ?_
  rintro _ _ ⟨x11, rfl, rfl, hw⟩
  show V X _ _ _ _ 14 [some (.ref (xa X 82)), some (.int x1), some (.int x2), some (.int x3)] [.int x11, .ref (xa X 83)]
  refine x_iload_n C d_Mod_addsYard_14 rfl ?_
  obtain ⟨h13, hw⟩ := hw
  refine x_iast (p := 83) (n := 78) C rfl h13 d_Mod_addsYard_15 ?_
  refine x_st (fun s14 hs14 => ?_)
  have hw := hw s14 hs14
  refine x_aload_n C d_Mod_addsYard_16 rfl ?_
  refine g_Mod_0 (p := 82) C rfl fl_Mod_9 d_Mod_addsYard_17 ?_
  refine x_aload_n C d_Mod_addsYard_20 rfl ?_
  refine g_Mod_0 (p := 82) C rfl fl_Mod_9 d_Mod_addsYard_21 ?_
  refine x_iconst (v := 0) C d_Mod_addsYard_24 rfl ?_
  obtain ⟨h15, hw⟩ := hw
  refine x_iald (p := 83) (n := 78) C rfl h15 d_Mod_addsYard_25 ?_
  refine x_iconst (v := 1) C d_Mod_addsYard_26 rfl ?_
  refine x_callS (As := [.int (s14 83 (Int32.toNatClampNeg 0)), .int 1]) (rest := [.ref (xa X 83)]) C (m_Mod_atYard (xg X) C.2.2.2.2.2.2.1 (s14 83 (Int32.toNatClampNeg 0)) 1 s14 _ hw) cw_Mod_atYard ml_Mod_63 rfl ⟨rfl, rfl, Nat.le_of_ble_eq_true rfl, Nat.le_of_ble_eq_true rfl⟩ ⟨Nat.zero_le _, Nat.zero_le _⟩ rfl (Nat.le_of_ble_eq_true rfl) d_Mod_addsYard_27 ?_
  rintro _ _ ⟨x16, rfl, rfl, hw⟩
  show V X _ _ _ _ 30 [some (.ref (xa X 82)), some (.int x1), some (.int x2), some (.int x3)] [.int x16, .ref (xa X 83)]
  refine x_iload_n C d_Mod_addsYard_30 rfl ?_
  obtain ⟨h18, hw⟩ := hw
  refine x_iast (p := 83) (n := 78) C rfl h18 d_Mod_addsYard_31 ?_
  refine x_st (fun s19 hs19 => ?_)
  have hw := hw s19 hs19
  refine x_aload_n C d_Mod_addsYard_32 rfl ?_
  refine g_Mod_0 (p := 82) C rfl fl_Mod_9 d_Mod_addsYard_33 ?_
  refine x_aload_n C d_Mod_addsYard_36 rfl ?_
  refine g_Mod_0 (p := 82) C rfl fl_Mod_9 d_Mod_addsYard_37 ?_
  refine x_iconst (v := 0) C d_Mod_addsYard_40 rfl ?_
  obtain ⟨h20, hw⟩ := hw
  refine x_iald (p := 83) (n := 78) C rfl h20 d_Mod_addsYard_41 ?_
  refine x_iconst (v := 2) C d_Mod_addsYard_42 rfl ?_
  refine x_callS (As := [.int (s19 83 (Int32.toNatClampNeg 0)), .int 2]) (rest := [.ref (xa X 83)]) C (m_Mod_atYard (xg X) C.2.2.2.2.2.2.1 (s19 83 (Int32.toNatClampNeg 0)) 2 s19 _ hw) cw_Mod_atYard ml_Mod_63 rfl ⟨rfl, rfl, Nat.le_of_ble_eq_true rfl, Nat.le_of_ble_eq_true rfl⟩ ⟨Nat.zero_le _, Nat.zero_le _⟩ rfl (Nat.le_of_ble_eq_true rfl) d_Mod_addsYard_43 ?_
  rintro _ _ ⟨x21, rfl, rfl, hw⟩
  show V X _ _ _ _ 46 [some (.ref (xa X 82)), some (.int x1), some (.int x2), some (.int x3)] [.int x21, .ref (xa X 83)]
  refine x_iload_n C d_Mod_addsYard_46 rfl ?_
  obtain ⟨h23, hw⟩ := hw
  refine x_iast (p := 83) (n := 78) C rfl h23 d_Mod_addsYard_47 ?_
  refine x_st (fun s24 hs24 => ?_)
  have hw := hw s24 hs24
  refine x_aload_n C d_Mod_addsYard_48 rfl ?_
  refine g_Mod_0 (p := 82) C rfl fl_Mod_9 d_Mod_addsYard_49 ?_
  refine x_iconst (v := 0) C d_Mod_addsYard_52 rfl ?_
  refine x_dup2 C d_Mod_addsYard_53 rfl rfl ?_
  obtain ⟨h25, hw⟩ := hw
  refine x_iald (p := 83) (n := 78) C rfl h25 d_Mod_addsYard_54 ?_
  refine x_iconst (v := 1) C d_Mod_addsYard_55 rfl ?_
  refine x_iadd C d_Mod_addsYard_56 ?_
  obtain ⟨h26, hw⟩ := hw
  refine x_iast (p := 83) (n := 78) C rfl h26 d_Mod_addsYard_57 ?_
  refine x_st (fun s27 hs27 => ?_)
  have hw := hw s27 hs27
  exact x_return C d_Mod_addsYard_58 ⟨rfl, hw⟩
def vc_Mod_placeOf (x1 : Int32) (s : St) (Q : Int32 → Prop) : Prop :=
    (∃ I11 : Nat → Int32 → Prop, (∃ n12, I11 n12 0) ∧ ∀ (nI11 : Nat) (x10 : Int32), I11 nI11 x10 → (vp_in 1 78 ∧ (((s 83 (Int32.toNatClampNeg 1)) ≤ x10 → Q (-4)) ∧ (¬ (s 83 (Int32.toNatClampNeg 1)) ≤ x10 → (vp_in (72 + x10) 78 ∧ ((¬ (s 83 (Int32.toNatClampNeg (72 + x10))) = x1 → (∀ x17 : Int32, x17 = x10 + 1 → ∃ m18, m18 < nI11 ∧ I11 m18 x17)) ∧ ((s 83 (Int32.toNatClampNeg (72 + x10))) = x1 → Q x10)))))))
def rm_Mod_placeOf : Room := { frames := 0, cells := 0, slots := 0, locals := 0 }
set_option maxHeartbeats 4000000 in
set_option maxRecDepth 20000 in
theorem m_Mod_placeOf (g : Gx) (hg : gOk g) (x1 : Int32)  (s : St) (Q : Int32 → Prop) (hw : vc_Mod_placeOf x1 s Q) : Mc g y_Mod_placeOf b_Mod_placeOf 3 (some FieldType.int) rm_Mod_placeOf [.ref (ga g 82), .int x1] s (fun v s' => ∃ r : Int32, v = some (.int r) ∧ s = s' ∧ Q r) := by
  refine mc_ofV (j := 1) (L := [some (.ref (ga g 82)), some (.int x1), none]) hg (by decide) (Nat.le_of_ble_eq_true rfl) rfl ?_
  intro X hX C
  subst hX
  unfold vc_Mod_placeOf at hw
  refine x_iconst (v := 0) C d_Mod_placeOf_0 rfl ?_
  refine x_istore_n (L' := [some (.ref (xa X 82)), some (.int x1), some (.int 0)]) C d_Mod_placeOf_1 (Nat.le_of_ble_eq_true rfl) rfl ?_
  obtain ⟨I11, ⟨n12, hn12⟩, hI11⟩ := hw
  have lI11 : ∀ (nI11 : Nat) (x10 : Int32), I11 nI11 x10 → V X (xQ X (fun v s' => ∃ r : Int32, v = some (.int r) ∧ s = s' ∧ Q r)) 0 0 s 2 [some (.ref (xa X 82)), some (.int x1), some (.int x10)] [] := by
    intro nI11
    induction nI11 using Nat.strongRecOn with
    | ind nI11 ihI11 =>
      intro x10 hv
      have hw := hI11 nI11 x10 hv
      refine x_iload_n C d_Mod_placeOf_2 rfl ?_
      refine x_aload_n C d_Mod_placeOf_3 rfl ?_
      refine g_Mod_0 (p := 82) C rfl fl_Mod_9 d_Mod_placeOf_4 ?_
      refine x_iconst (v := 1) C d_Mod_placeOf_7 rfl ?_
      obtain ⟨h13, hw⟩ := hw
      refine x_iald (p := 83) (n := 78) C rfl h13 d_Mod_placeOf_8 ?_
      refine x_icmp_ge (tgt := 33) C d_Mod_placeOf_9 (by decide) (fun c14 => ?_) (fun c14 => ?_)
      · have hw := hw.1 c14
        refine x_bipush (v := (-4)) C d_Mod_placeOf_33 rfl ?_
        exact x_ireturn C d_Mod_placeOf_35 ⟨_, rfl, rfl, hw⟩
      · have hw := hw.2 c14
        refine x_aload_n C d_Mod_placeOf_12 rfl ?_
        refine g_Mod_0 (p := 82) C rfl fl_Mod_9 d_Mod_placeOf_13 ?_
        refine x_bipush (v := 72) C d_Mod_placeOf_16 rfl ?_
        refine x_iload_n C d_Mod_placeOf_18 rfl ?_
        refine x_iadd C d_Mod_placeOf_19 ?_
        obtain ⟨h15, hw⟩ := hw
        refine x_iald (p := 83) (n := 78) C rfl h15 d_Mod_placeOf_20 ?_
        refine x_iload_n C d_Mod_placeOf_21 rfl ?_
        refine x_icmp_ne (tgt := 27) C d_Mod_placeOf_22 (by decide) (fun c16 => ?_) (fun c16 => ?_)
        · have hw := hw.1 c16
          obtain ⟨x17, hx17⟩ : ∃ z : Int32, z = x10 + 1 := ⟨_, rfl⟩
          refine x_iinc (v := x17) (L' := [some (.ref (xa X 82)), some (.int x1), some (.int x17)]) C d_Mod_placeOf_27 (Nat.le_of_ble_eq_true rfl) rfl (by rw [hx17]; rfl) rfl ?_
          have hw := hw x17 hx17
          refine x_goto (tgt := 2) C d_Mod_placeOf_30 (by decide) ?_
          obtain ⟨m18, hm18, hw⟩ := hw
          exact x_wk (ihI11 m18 hm18 x17 hw) (And.intro rfl (And.intro rfl (And.intro rfl (trivial))))
        · have hw := hw.2 c16
          refine x_iload_n C d_Mod_placeOf_25 rfl ?_
          exact x_ireturn C d_Mod_placeOf_26 ⟨_, rfl, rfl, hw⟩
  exact x_wk (lI11 n12 0 hn12) (And.intro rfl (And.intro rfl (And.intro rfl (trivial))))
def vc_Mod_changes (x1 : Int32) (x2 : Int32) (s : St) (Q : St → Prop) : Prop :=
    vc_Mod_placeOf x1 s (fun x10 => vc_Mod_placeOf x2 s (fun x12 => (vp_in (72 + x10) 78 ∧ (∀ s15 : St, s15 = wr s 83 (Int32.toNatClampNeg (72 + x10)) x2 → (vp_in (72 + x12) 78 ∧ (∀ s17 : St, s17 = wr s15 83 (Int32.toNatClampNeg (72 + x12)) x1 → Q s17))))))
def rm_Mod_changes : Room := { frames := 1, cells := 0, slots := 0, locals := 22 }
set_option maxHeartbeats 4000000 in
set_option maxRecDepth 20000 in
theorem m_Mod_changes (g : Gx) (hg : gOk g) (x1 : Int32) (x2 : Int32)  (s : St) (Q : St → Prop) (hw : vc_Mod_changes x1 x2 s Q) : Mc g y_Mod_changes b_Mod_changes 5 (none) rm_Mod_changes [.ref (ga g 82), .int x1, .int x2] s (fun v s' => v = none ∧ Q s') := by
  refine mc_ofV (j := 2) (L := [some (.ref (ga g 82)), some (.int x1), some (.int x2), none, none]) hg (by decide) (Nat.le_of_ble_eq_true rfl) rfl ?_
  intro X hX C
  subst hX
  unfold vc_Mod_changes at hw
  refine x_aload_n C d_Mod_changes_0 rfl ?_
  refine x_iload_n C d_Mod_changes_1 rfl ?_
  refine x_callV (As := [.int x1]) (rest := []) (p := 82) C (m_Mod_placeOf (xg X) C.2.2.2.2.2.2.1 x1 s _ hw) cw_Mod_placeOf ml_Mod_172 rfl (by decide) (by decide) rfl rfl rfl ⟨rfl, rfl, Nat.le_of_ble_eq_true rfl, Nat.le_of_ble_eq_true rfl⟩ ⟨Nat.zero_le _, Nat.zero_le _⟩ rfl (Nat.le_of_ble_eq_true rfl) d_Mod_changes_2 ?_
  rintro _ _ ⟨x10, rfl, rfl, hw⟩
  show V X _ _ _ _ 5 [some (.ref (xa X 82)), some (.int x1), some (.int x2), none, none] [.int x10]
  refine x_istore_n (L' := [some (.ref (xa X 82)), some (.int x1), some (.int x2), some (.int x10), none]) C d_Mod_changes_5 (Nat.le_of_ble_eq_true rfl) rfl ?_
  refine x_aload_n C d_Mod_changes_6 rfl ?_
  refine x_iload_n C d_Mod_changes_7 rfl ?_
  refine x_callV (As := [.int x2]) (rest := []) (p := 82) C (m_Mod_placeOf (xg X) C.2.2.2.2.2.2.1 x2 s _ hw) cw_Mod_placeOf ml_Mod_172 rfl (by decide) (by decide) rfl rfl rfl ⟨rfl, rfl, Nat.le_of_ble_eq_true rfl, Nat.le_of_ble_eq_true rfl⟩ ⟨Nat.zero_le _, Nat.zero_le _⟩ rfl (Nat.le_of_ble_eq_true rfl) d_Mod_changes_8 ?_
  rintro _ _ ⟨x12, rfl, rfl, hw⟩
  show V X _ _ _ _ 11 [some (.ref (xa X 82)), some (.int x1), some (.int x2), some (.int x10), none] [.int x12]
  refine x_istore (L' := [some (.ref (xa X 82)), some (.int x1), some (.int x2), some (.int x10), some (.int x12)]) C d_Mod_changes_11 (Nat.le_of_ble_eq_true rfl) rfl ?_
  refine x_aload_n C d_Mod_changes_13 rfl ?_
  refine g_Mod_0 (p := 82) C rfl fl_Mod_9 d_Mod_changes_14 ?_
  refine x_bipush (v := 72) C d_Mod_changes_17 rfl ?_
  refine x_iload_n C d_Mod_changes_19 rfl ?_
  refine x_iadd C d_Mod_changes_20 ?_
  refine x_iload_n C d_Mod_changes_21 rfl ?_
  obtain ⟨h14, hw⟩ := hw
  refine x_iast (p := 83) (n := 78) C rfl h14 d_Mod_changes_22 ?_
  refine x_st (fun s15 hs15 => ?_)
  have hw := hw s15 hs15
  refine x_aload_n C d_Mod_changes_23 rfl ?_
  refine g_Mod_0 (p := 82) C rfl fl_Mod_9 d_Mod_changes_24 ?_
  refine x_bipush (v := 72) C d_Mod_changes_27 rfl ?_
  refine x_iload C d_Mod_changes_29 rfl ?_
  refine x_iadd C d_Mod_changes_31 ?_
  refine x_iload_n C d_Mod_changes_32 rfl ?_
  obtain ⟨h16, hw⟩ := hw
  refine x_iast (p := 83) (n := 78) C rfl h16 d_Mod_changes_33 ?_
  refine x_st (fun s17 hs17 => ?_)
  have hw := hw s17 hs17
  exact x_return C d_Mod_changes_34 ⟨rfl, hw⟩
def vc_Mod_isDone (x1 : Int32) (s : St) (Q : Bool → St → Prop) : Prop :=
    (vp_in 0 4 ∧ (∀ x11 : Int32, x11 = s 88 (Int32.toNatClampNeg 0) → (vp_in 1 4 ∧ (∀ x13 : Int32, x13 = s 88 (Int32.toNatClampNeg 1) → (∃ J14 : Prop, (J14 → (vp_in 2 78 ∧ (vp_in 2 78 ∧ (∀ s17 : St, s17 = wr s 83 (Int32.toNatClampNeg 2) ((s 83 (Int32.toNatClampNeg 2)) + x11) → (vp_in 2 78 ∧ ((9999 < (s17 83 (Int32.toNatClampNeg 2)) → Q false s17) ∧ (¬ 9999 < (s17 83 (Int32.toNatClampNeg 2)) → Q true s17))))))) ∧ ((x1 = 98 → vc_Mod_isIn x11 10 50 (fun b21 => (((bi b21) = 0 → Q false s) ∧ (¬ (bi b21) = 0 → (vp_in 1 78 ∧ ((¬ (s 83 (Int32.toNatClampNeg 1)) = 6 → (∃ I28 : Nat → Int32 → St → Prop, (∃ n29, I28 n29 0 s) ∧ ∀ (nI28 : Nat) (x26 : Int32) (s27 : St), I28 nI28 x26 s27 → ((4 ≤ x26 → (vp_in 1 78 ∧ vc_Mod_atBody (s27 83 (Int32.toNatClampNeg 1)) 4 (fun x32 => (vp_in x32 78 ∧ (∀ s35 : St, s35 = wr s27 83 (Int32.toNatClampNeg x32) 0 → (vp_in 1 78 ∧ (vp_in 1 78 ∧ (vp_in (72 + (s35 83 (Int32.toNatClampNeg 1))) 78 ∧ (∀ s39 : St, s39 = wr s35 83 (Int32.toNatClampNeg (72 + (s35 83 (Int32.toNatClampNeg 1)))) (s35 83 (Int32.toNatClampNeg 1)) → (vp_in 1 78 ∧ (vp_in 1 78 ∧ (∀ s42 : St, s42 = wr s39 83 (Int32.toNatClampNeg 1) ((s39 83 (Int32.toNatClampNeg 1)) + 1) → Q true s42)))))))))))) ∧ (¬ 4 ≤ x26 → (vp_in 1 78 ∧ vc_Mod_atBody (s27 83 (Int32.toNatClampNeg 1)) x26 (fun x44 => (vp_in x26 4 ∧ (vp_in x44 78 ∧ (∀ s48 : St, s48 = wr s27 83 (Int32.toNatClampNeg x44) (s27 88 (Int32.toNatClampNeg x26)) → (∀ x49 : Int32, x49 = x26 + 1 → ∃ m50, m50 < nI28 ∧ I28 m50 x49 s48)))))))))) ∧ ((s 83 (Int32.toNatClampNeg 1)) = 6 → Q false s))))))) ∧ (¬ x1 = 98 → ((x1 = 99 → (vp_in 4 78 ∧ (∀ s53 : St, s53 = wr s 83 (Int32.toNatClampNeg 4) x11 → vc_Mod_isIn x11 1 60 (fun b54 => Q b54 s53)))) ∧ (¬ x1 = 99 → ((x1 = 108 → (vp_in 5 78 ∧ (∀ s58 : St, s58 = wr s 83 (Int32.toNatClampNeg 5) x11 → Q true s58))) ∧ (¬ x1 = 108 → ((x1 = 112 → vc_Mod_isBody x11 s (fun b60 => (((bi b60) = 0 → Q false s) ∧ (¬ (bi b60) = 0 → ((x13 ≤ 3 → vc_Mod_atBody x11 4 (fun x64 => (vp_in x64 78 ∧ (∀ s67 : St, s67 = wr s 83 (Int32.toNatClampNeg x64) x13 → Q true s67)))) ∧ (¬ x13 ≤ 3 → Q false s)))))) ∧ (¬ x1 = 112 → ((x1 = 114 → (vp_in 3 78 ∧ (∀ s70 : St, s70 = wr s 83 (Int32.toNatClampNeg 3) x11 → Q true s70))) ∧ (¬ x1 = 114 → ((x1 = 120 → vc_Mod_isBody x11 s (fun b72 => (((bi b72) = 0 → Q false s) ∧ (¬ (bi b72) = 0 → vc_Mod_isBody x13 s (fun b75 => (((bi b75) = 0 → Q false s) ∧ (¬ (bi b75) = 0 → ((¬ x11 = x13 → vc_Mod_changes x11 x13 s (fun s79 => Q true s79)) ∧ (x11 = x13 → Q false s))))))))) ∧ (¬ x1 = 120 → ((x1 = 121 → ((8 ≤ x11 → Q false s) ∧ (¬ 8 ≤ x11 → (vp_in 2 4 ∧ vc_Mod_isIn (s 88 (Int32.toNatClampNeg 2)) 6 40 (fun b83 => (((bi b83) = 0 → Q false s) ∧ (¬ (bi b83) = 0 → (vp_in 0 78 ∧ ((¬ (s 83 (Int32.toNatClampNeg 0)) = 12 → (vp_in 2 4 ∧ vc_Mod_addsYard x11 x13 (s 88 (Int32.toNatClampNeg 2)) s (fun s89 => Q true s89))) ∧ ((s 83 (Int32.toNatClampNeg 0)) = 12 → Q false s)))))))))) ∧ (¬ x1 = 121 → J14)))))))))))))))))))
def rm_Mod_isDone : Room := { frames := 2, cells := 0, slots := 0, locals := 46 }
set_option maxHeartbeats 4000000 in
set_option maxRecDepth 20000 in
theorem m_Mod_isDone (g : Gx) (hg : gOk g) (x1 : Int32)  (s : St) (Q : Bool → St → Prop) (hw : vc_Mod_isDone x1 s Q) : Mc g y_Mod_isDone b_Mod_isDone 5 (some FieldType.boolean) rm_Mod_isDone [.ref (ga g 82), .int x1] s (fun v s' => ∃ r : Bool, v = some (.int (bi r)) ∧ Q r s') := by
  refine mc_ofV (j := 3) (L := [some (.ref (ga g 82)), some (.int x1), none, none, none]) hg (by decide) (Nat.le_of_ble_eq_true rfl) rfl ?_
  intro X hX C
  subst hX
  unfold vc_Mod_isDone at hw
  refine x_aload_n C d_Mod_isDone_0 rfl ?_
  refine g_Mod_22 (p := 82) C rfl fl_Mod_25 d_Mod_isDone_1 ?_
  refine x_iconst (v := 0) C d_Mod_isDone_4 rfl ?_
  obtain ⟨h10, hw⟩ := hw
  refine x_iald (p := 88) (n := 4) C rfl h10 d_Mod_isDone_5 ?_
  refine x_nm (fun x11 hx11 => ?_)
  have hw := hw x11 hx11
  refine x_istore_n (L' := [some (.ref (xa X 82)), some (.int x1), some (.int x11), none, none]) C d_Mod_isDone_6 (Nat.le_of_ble_eq_true rfl) rfl ?_
  refine x_aload_n C d_Mod_isDone_7 rfl ?_
  refine g_Mod_22 (p := 82) C rfl fl_Mod_25 d_Mod_isDone_8 ?_
  refine x_iconst (v := 1) C d_Mod_isDone_11 rfl ?_
  obtain ⟨h12, hw⟩ := hw
  refine x_iald (p := 88) (n := 4) C rfl h12 d_Mod_isDone_12 ?_
  refine x_nm (fun x13 hx13 => ?_)
  have hw := hw x13 hx13
  refine x_istore_n (L' := [some (.ref (xa X 82)), some (.int x1), some (.int x11), some (.int x13), none]) C d_Mod_isDone_13 (Nat.le_of_ble_eq_true rfl) rfl ?_
  refine x_iload_n C d_Mod_isDone_14 rfl ?_
  obtain ⟨J14, hJ14, hw⟩ := hw
  have kJ14 : J14 → V X (xQ X (fun v s' => ∃ r : Bool, v = some (.int (bi r)) ∧ Q r s')) 0 0 s 375 [some (.ref (xa X 82)), some (.int x1), some (.int x11), some (.int x13), none] [] := by
    intro  hv
    have hw := hJ14  hv
    refine x_aload_n C d_Mod_isDone_375 rfl ?_
    refine g_Mod_0 (p := 82) C rfl fl_Mod_9 d_Mod_isDone_376 ?_
    refine x_iconst (v := 2) C d_Mod_isDone_379 rfl ?_
    refine x_dup2 C d_Mod_isDone_380 rfl rfl ?_
    obtain ⟨h15, hw⟩ := hw
    refine x_iald (p := 83) (n := 78) C rfl h15 d_Mod_isDone_381 ?_
    refine x_iload_n C d_Mod_isDone_382 rfl ?_
    refine x_iadd C d_Mod_isDone_383 ?_
    obtain ⟨h16, hw⟩ := hw
    refine x_iast (p := 83) (n := 78) C rfl h16 d_Mod_isDone_384 ?_
    refine x_st (fun s17 hs17 => ?_)
    have hw := hw s17 hs17
    refine x_aload_n C d_Mod_isDone_385 rfl ?_
    refine g_Mod_0 (p := 82) C rfl fl_Mod_9 d_Mod_isDone_386 ?_
    refine x_iconst (v := 2) C d_Mod_isDone_389 rfl ?_
    obtain ⟨h18, hw⟩ := hw
    refine x_iald (p := 83) (n := 78) C rfl h18 d_Mod_isDone_390 ?_
    refine x_sipush (v := 9999) C d_Mod_isDone_391 rfl ?_
    refine x_icmp_gt (tgt := 401) C d_Mod_isDone_394 (by decide) (fun c19 => ?_) (fun c19 => ?_)
    · have hw := hw.1 c19
      refine x_iconst (v := 0) C d_Mod_isDone_401 rfl ?_
      exact x_zreturn (b := false) C d_Mod_isDone_402 ⟨_, rfl, hw⟩
    · have hw := hw.2 c19
      refine x_iconst (v := 1) C d_Mod_isDone_397 rfl ?_
      refine x_goto (tgt := 402) C d_Mod_isDone_398 (by decide) ?_
      exact x_zreturn (b := true) C d_Mod_isDone_402 ⟨_, rfl, hw⟩
  by_cases c20 : x1 = 98
  · have hw := hw.1 c20
    refine x_tswIn (v := 98) (off := 158) (tgt := 173) C d_Mod_isDone_15 c20 (by decide) (by decide) rfl (by decide) ?_
    refine x_iload_n C d_Mod_isDone_173 rfl ?_
    refine x_bipush (v := 10) C d_Mod_isDone_174 rfl ?_
    refine x_bipush (v := 50) C d_Mod_isDone_176 rfl ?_
    refine x_callS (As := [.int x11, .int 10, .int 50]) (rest := []) C (m_Mod_isIn (xg X) C.2.2.2.2.2.2.1 x11 10 50 s _ hw) cw_Mod_isIn ml_Mod_55 rfl ⟨rfl, rfl, Nat.le_of_ble_eq_true rfl, Nat.le_of_ble_eq_true rfl⟩ ⟨Nat.zero_le _, Nat.zero_le _⟩ rfl (Nat.le_of_ble_eq_true rfl) d_Mod_isDone_178 ?_
    rintro _ _ ⟨b21, rfl, rfl, hw⟩
    show V X _ _ _ _ 181 [some (.ref (xa X 82)), some (.int x1), some (.int x11), some (.int x13), none] [.int (bi b21)]
    refine x_if_eq (tgt := 195) C d_Mod_isDone_181 (by decide) (fun c23 => ?_) (fun c23 => ?_)
    · have hw := hw.1 c23
      refine x_iconst (v := 0) C d_Mod_isDone_195 rfl ?_
      exact x_zreturn (b := false) C d_Mod_isDone_196 ⟨_, rfl, hw⟩
    · have hw := hw.2 c23
      refine x_aload_n C d_Mod_isDone_184 rfl ?_
      refine g_Mod_0 (p := 82) C rfl fl_Mod_9 d_Mod_isDone_185 ?_
      refine x_iconst (v := 1) C d_Mod_isDone_188 rfl ?_
      obtain ⟨h24, hw⟩ := hw
      refine x_iald (p := 83) (n := 78) C rfl h24 d_Mod_isDone_189 ?_
      refine x_bipush (v := 6) C d_Mod_isDone_190 rfl ?_
      refine x_icmp_ne (tgt := 197) C d_Mod_isDone_192 (by decide) (fun c25 => ?_) (fun c25 => ?_)
      · have hw := hw.1 c25
        refine x_iconst (v := 0) C d_Mod_isDone_197 rfl ?_
        refine x_istore (L' := [some (.ref (xa X 82)), some (.int x1), some (.int x11), some (.int x13), some (.int 0)]) C d_Mod_isDone_198 (Nat.le_of_ble_eq_true rfl) rfl ?_
        obtain ⟨I28, ⟨n29, hn29⟩, hI28⟩ := hw
        have lI28 : ∀ (nI28 : Nat) (x26 : Int32) (s27 : St), I28 nI28 x26 s27 → V X (xQ X (fun v s' => ∃ r : Bool, v = some (.int (bi r)) ∧ Q r s')) 0 0 s27 200 [some (.ref (xa X 82)), some (.int x1), some (.int x11), some (.int x13), some (.int x26)] [] := by
          intro nI28
          induction nI28 using Nat.strongRecOn with
          | ind nI28 ihI28 =>
            intro x26 s27 hv
            have hw := hI28 nI28 x26 s27 hv
            refine x_iload C d_Mod_isDone_200 rfl ?_
            refine x_iconst (v := 4) C d_Mod_isDone_202 rfl ?_
            refine x_icmp_ge (tgt := 235) C d_Mod_isDone_203 (by decide) (fun c30 => ?_) (fun c30 => ?_)
            · have hw := hw.1 c30
              refine x_aload_n C d_Mod_isDone_235 rfl ?_
              refine g_Mod_0 (p := 82) C rfl fl_Mod_9 d_Mod_isDone_236 ?_
              refine x_aload_n C d_Mod_isDone_239 rfl ?_
              refine g_Mod_0 (p := 82) C rfl fl_Mod_9 d_Mod_isDone_240 ?_
              refine x_iconst (v := 1) C d_Mod_isDone_243 rfl ?_
              obtain ⟨h31, hw⟩ := hw
              refine x_iald (p := 83) (n := 78) C rfl h31 d_Mod_isDone_244 ?_
              refine x_iconst (v := 4) C d_Mod_isDone_245 rfl ?_
              refine x_callS (As := [.int (s27 83 (Int32.toNatClampNeg 1)), .int 4]) (rest := [.ref (xa X 83)]) C (m_Mod_atBody (xg X) C.2.2.2.2.2.2.1 (s27 83 (Int32.toNatClampNeg 1)) 4 s27 _ hw) cw_Mod_atBody ml_Mod_59 rfl ⟨rfl, rfl, Nat.le_of_ble_eq_true rfl, Nat.le_of_ble_eq_true rfl⟩ ⟨Nat.zero_le _, Nat.zero_le _⟩ rfl (Nat.le_of_ble_eq_true rfl) d_Mod_isDone_246 ?_
              rintro _ _ ⟨x32, rfl, rfl, hw⟩
              show V X _ _ _ _ 249 [some (.ref (xa X 82)), some (.int x1), some (.int x11), some (.int x13), some (.int x26)] [.int x32, .ref (xa X 83)]
              refine x_iconst (v := 0) C d_Mod_isDone_249 rfl ?_
              obtain ⟨h34, hw⟩ := hw
              refine x_iast (p := 83) (n := 78) C rfl h34 d_Mod_isDone_250 ?_
              refine x_st (fun s35 hs35 => ?_)
              have hw := hw s35 hs35
              refine x_aload_n C d_Mod_isDone_251 rfl ?_
              refine g_Mod_0 (p := 82) C rfl fl_Mod_9 d_Mod_isDone_252 ?_
              refine x_bipush (v := 72) C d_Mod_isDone_255 rfl ?_
              refine x_aload_n C d_Mod_isDone_257 rfl ?_
              refine g_Mod_0 (p := 82) C rfl fl_Mod_9 d_Mod_isDone_258 ?_
              refine x_iconst (v := 1) C d_Mod_isDone_261 rfl ?_
              obtain ⟨h36, hw⟩ := hw
              refine x_iald (p := 83) (n := 78) C rfl h36 d_Mod_isDone_262 ?_
              refine x_iadd C d_Mod_isDone_263 ?_
              refine x_aload_n C d_Mod_isDone_264 rfl ?_
              refine g_Mod_0 (p := 82) C rfl fl_Mod_9 d_Mod_isDone_265 ?_
              refine x_iconst (v := 1) C d_Mod_isDone_268 rfl ?_
              obtain ⟨h37, hw⟩ := hw
              refine x_iald (p := 83) (n := 78) C rfl h37 d_Mod_isDone_269 ?_
              obtain ⟨h38, hw⟩ := hw
              refine x_iast (p := 83) (n := 78) C rfl h38 d_Mod_isDone_270 ?_
              refine x_st (fun s39 hs39 => ?_)
              have hw := hw s39 hs39
              refine x_aload_n C d_Mod_isDone_271 rfl ?_
              refine g_Mod_0 (p := 82) C rfl fl_Mod_9 d_Mod_isDone_272 ?_
              refine x_iconst (v := 1) C d_Mod_isDone_275 rfl ?_
              refine x_dup2 C d_Mod_isDone_276 rfl rfl ?_
              obtain ⟨h40, hw⟩ := hw
              refine x_iald (p := 83) (n := 78) C rfl h40 d_Mod_isDone_277 ?_
              refine x_iconst (v := 1) C d_Mod_isDone_278 rfl ?_
              refine x_iadd C d_Mod_isDone_279 ?_
              obtain ⟨h41, hw⟩ := hw
              refine x_iast (p := 83) (n := 78) C rfl h41 d_Mod_isDone_280 ?_
              refine x_st (fun s42 hs42 => ?_)
              have hw := hw s42 hs42
              refine x_iconst (v := 1) C d_Mod_isDone_281 rfl ?_
              exact x_zreturn (b := true) C d_Mod_isDone_282 ⟨_, rfl, hw⟩
            · have hw := hw.2 c30
              refine x_aload_n C d_Mod_isDone_206 rfl ?_
              refine g_Mod_0 (p := 82) C rfl fl_Mod_9 d_Mod_isDone_207 ?_
              refine x_aload_n C d_Mod_isDone_210 rfl ?_
              refine g_Mod_0 (p := 82) C rfl fl_Mod_9 d_Mod_isDone_211 ?_
              refine x_iconst (v := 1) C d_Mod_isDone_214 rfl ?_
              obtain ⟨h43, hw⟩ := hw
              refine x_iald (p := 83) (n := 78) C rfl h43 d_Mod_isDone_215 ?_
              refine x_iload C d_Mod_isDone_216 rfl ?_
              refine x_callS (As := [.int (s27 83 (Int32.toNatClampNeg 1)), .int x26]) (rest := [.ref (xa X 83)]) C (m_Mod_atBody (xg X) C.2.2.2.2.2.2.1 (s27 83 (Int32.toNatClampNeg 1)) x26 s27 _ hw) cw_Mod_atBody ml_Mod_59 rfl ⟨rfl, rfl, Nat.le_of_ble_eq_true rfl, Nat.le_of_ble_eq_true rfl⟩ ⟨Nat.zero_le _, Nat.zero_le _⟩ rfl (Nat.le_of_ble_eq_true rfl) d_Mod_isDone_218 ?_
              rintro _ _ ⟨x44, rfl, rfl, hw⟩
              show V X _ _ _ _ 221 [some (.ref (xa X 82)), some (.int x1), some (.int x11), some (.int x13), some (.int x26)] [.int x44, .ref (xa X 83)]
              refine x_aload_n C d_Mod_isDone_221 rfl ?_
              refine g_Mod_22 (p := 82) C rfl fl_Mod_25 d_Mod_isDone_222 ?_
              refine x_iload C d_Mod_isDone_225 rfl ?_
              obtain ⟨h46, hw⟩ := hw
              refine x_iald (p := 88) (n := 4) C rfl h46 d_Mod_isDone_227 ?_
              obtain ⟨h47, hw⟩ := hw
              refine x_iast (p := 83) (n := 78) C rfl h47 d_Mod_isDone_228 ?_
              refine x_st (fun s48 hs48 => ?_)
              have hw := hw s48 hs48
              obtain ⟨x49, hx49⟩ : ∃ z : Int32, z = x26 + 1 := ⟨_, rfl⟩
              refine x_iinc (v := x49) (L' := [some (.ref (xa X 82)), some (.int x1), some (.int x11), some (.int x13), some (.int x49)]) C d_Mod_isDone_229 (Nat.le_of_ble_eq_true rfl) rfl (by rw [hx49]; rfl) rfl ?_
              have hw := hw x49 hx49
              refine x_goto (tgt := 200) C d_Mod_isDone_232 (by decide) ?_
              obtain ⟨m50, hm50, hw⟩ := hw
              exact x_wk (ihI28 m50 hm50 x49 s48 hw) (And.intro rfl (And.intro rfl (And.intro rfl (And.intro rfl (And.intro rfl (trivial))))))
        exact x_wk (lI28 n29 0 s hn29) (And.intro rfl (And.intro rfl (And.intro rfl (And.intro rfl (And.intro rfl (trivial))))))
      · have hw := hw.2 c25
        refine x_iconst (v := 0) C d_Mod_isDone_195 rfl ?_
        exact x_zreturn (b := false) C d_Mod_isDone_196 ⟨_, rfl, hw⟩
  have hw := hw.2 c20
  by_cases c51 : x1 = 99
  · have hw := hw.1 c51
    refine x_tswIn (v := 99) (off := 336) (tgt := 351) C d_Mod_isDone_15 c51 (by decide) (by decide) rfl (by decide) ?_
    refine x_aload_n C d_Mod_isDone_351 rfl ?_
    refine g_Mod_0 (p := 82) C rfl fl_Mod_9 d_Mod_isDone_352 ?_
    refine x_iconst (v := 4) C d_Mod_isDone_355 rfl ?_
    refine x_iload_n C d_Mod_isDone_356 rfl ?_
    obtain ⟨h52, hw⟩ := hw
    refine x_iast (p := 83) (n := 78) C rfl h52 d_Mod_isDone_357 ?_
    refine x_st (fun s53 hs53 => ?_)
    have hw := hw s53 hs53
    refine x_iload_n C d_Mod_isDone_358 rfl ?_
    refine x_iconst (v := 1) C d_Mod_isDone_359 rfl ?_
    refine x_bipush (v := 60) C d_Mod_isDone_360 rfl ?_
    refine x_callS (As := [.int x11, .int 1, .int 60]) (rest := []) C (m_Mod_isIn (xg X) C.2.2.2.2.2.2.1 x11 1 60 s53 _ hw) cw_Mod_isIn ml_Mod_55 rfl ⟨rfl, rfl, Nat.le_of_ble_eq_true rfl, Nat.le_of_ble_eq_true rfl⟩ ⟨Nat.zero_le _, Nat.zero_le _⟩ rfl (Nat.le_of_ble_eq_true rfl) d_Mod_isDone_362 ?_
    rintro _ _ ⟨b54, rfl, rfl, hw⟩
    show V X _ _ _ _ 365 [some (.ref (xa X 82)), some (.int x1), some (.int x11), some (.int x13), none] [.int (bi b54)]
    exact x_zreturn (b := b54) C d_Mod_isDone_365 ⟨_, rfl, hw⟩
  have hw := hw.2 c51
  by_cases c56 : x1 = 108
  · have hw := hw.1 c56
    refine x_tswIn (v := 108) (off := 351) (tgt := 366) C d_Mod_isDone_15 c56 (by decide) (by decide) rfl (by decide) ?_
    refine x_aload_n C d_Mod_isDone_366 rfl ?_
    refine g_Mod_0 (p := 82) C rfl fl_Mod_9 d_Mod_isDone_367 ?_
    refine x_iconst (v := 5) C d_Mod_isDone_370 rfl ?_
    refine x_iload_n C d_Mod_isDone_371 rfl ?_
    obtain ⟨h57, hw⟩ := hw
    refine x_iast (p := 83) (n := 78) C rfl h57 d_Mod_isDone_372 ?_
    refine x_st (fun s58 hs58 => ?_)
    have hw := hw s58 hs58
    refine x_iconst (v := 1) C d_Mod_isDone_373 rfl ?_
    exact x_zreturn (b := true) C d_Mod_isDone_374 ⟨_, rfl, hw⟩
  have hw := hw.2 c56
  by_cases c59 : x1 = 112
  · have hw := hw.1 c59
    refine x_tswIn (v := 112) (off := 268) (tgt := 283) C d_Mod_isDone_15 c59 (by decide) (by decide) rfl (by decide) ?_
    refine x_aload_n C d_Mod_isDone_283 rfl ?_
    refine x_iload_n C d_Mod_isDone_284 rfl ?_
    refine x_callV (As := [.int x11]) (rest := []) (p := 82) C (m_Mod_isBody (xg X) C.2.2.2.2.2.2.1 x11 s _ hw) cw_Mod_isBody ml_Mod_179 rfl (by decide) (by decide) rfl rfl rfl ⟨rfl, rfl, Nat.le_of_ble_eq_true rfl, Nat.le_of_ble_eq_true rfl⟩ ⟨Nat.zero_le _, Nat.zero_le _⟩ rfl (Nat.le_of_ble_eq_true rfl) d_Mod_isDone_285 ?_
    rintro _ _ ⟨b60, rfl, rfl, hw⟩
    show V X _ _ _ _ 288 [some (.ref (xa X 82)), some (.int x1), some (.int x11), some (.int x13), none] [.int (bi b60)]
    refine x_if_eq (tgt := 296) C d_Mod_isDone_288 (by decide) (fun c62 => ?_) (fun c62 => ?_)
    · have hw := hw.1 c62
      refine x_iconst (v := 0) C d_Mod_isDone_296 rfl ?_
      exact x_zreturn (b := false) C d_Mod_isDone_297 ⟨_, rfl, hw⟩
    · have hw := hw.2 c62
      refine x_iload_n C d_Mod_isDone_291 rfl ?_
      refine x_iconst (v := 3) C d_Mod_isDone_292 rfl ?_
      refine x_icmp_le (tgt := 298) C d_Mod_isDone_293 (by decide) (fun c63 => ?_) (fun c63 => ?_)
      · have hw := hw.1 c63
        refine x_aload_n C d_Mod_isDone_298 rfl ?_
        refine g_Mod_0 (p := 82) C rfl fl_Mod_9 d_Mod_isDone_299 ?_
        refine x_iload_n C d_Mod_isDone_302 rfl ?_
        refine x_iconst (v := 4) C d_Mod_isDone_303 rfl ?_
        refine x_callS (As := [.int x11, .int 4]) (rest := [.ref (xa X 83)]) C (m_Mod_atBody (xg X) C.2.2.2.2.2.2.1 x11 4 s _ hw) cw_Mod_atBody ml_Mod_59 rfl ⟨rfl, rfl, Nat.le_of_ble_eq_true rfl, Nat.le_of_ble_eq_true rfl⟩ ⟨Nat.zero_le _, Nat.zero_le _⟩ rfl (Nat.le_of_ble_eq_true rfl) d_Mod_isDone_304 ?_
        rintro _ _ ⟨x64, rfl, rfl, hw⟩
        show V X _ _ _ _ 307 [some (.ref (xa X 82)), some (.int x1), some (.int x11), some (.int x13), none] [.int x64, .ref (xa X 83)]
        refine x_iload_n C d_Mod_isDone_307 rfl ?_
        obtain ⟨h66, hw⟩ := hw
        refine x_iast (p := 83) (n := 78) C rfl h66 d_Mod_isDone_308 ?_
        refine x_st (fun s67 hs67 => ?_)
        have hw := hw s67 hs67
        refine x_iconst (v := 1) C d_Mod_isDone_309 rfl ?_
        exact x_zreturn (b := true) C d_Mod_isDone_310 ⟨_, rfl, hw⟩
      · have hw := hw.2 c63
        refine x_iconst (v := 0) C d_Mod_isDone_296 rfl ?_
        exact x_zreturn (b := false) C d_Mod_isDone_297 ⟨_, rfl, hw⟩
  have hw := hw.2 c59
  by_cases c68 : x1 = 114
  · have hw := hw.1 c68
    refine x_tswIn (v := 114) (off := 327) (tgt := 342) C d_Mod_isDone_15 c68 (by decide) (by decide) rfl (by decide) ?_
    refine x_aload_n C d_Mod_isDone_342 rfl ?_
    refine g_Mod_0 (p := 82) C rfl fl_Mod_9 d_Mod_isDone_343 ?_
    refine x_iconst (v := 3) C d_Mod_isDone_346 rfl ?_
    refine x_iload_n C d_Mod_isDone_347 rfl ?_
    obtain ⟨h69, hw⟩ := hw
    refine x_iast (p := 83) (n := 78) C rfl h69 d_Mod_isDone_348 ?_
    refine x_st (fun s70 hs70 => ?_)
    have hw := hw s70 hs70
    refine x_iconst (v := 1) C d_Mod_isDone_349 rfl ?_
    exact x_zreturn (b := true) C d_Mod_isDone_350 ⟨_, rfl, hw⟩
  have hw := hw.2 c68
  by_cases c71 : x1 = 120
  · have hw := hw.1 c71
    refine x_tswIn (v := 120) (off := 296) (tgt := 311) C d_Mod_isDone_15 c71 (by decide) (by decide) rfl (by decide) ?_
    refine x_aload_n C d_Mod_isDone_311 rfl ?_
    refine x_iload_n C d_Mod_isDone_312 rfl ?_
    refine x_callV (As := [.int x11]) (rest := []) (p := 82) C (m_Mod_isBody (xg X) C.2.2.2.2.2.2.1 x11 s _ hw) cw_Mod_isBody ml_Mod_179 rfl (by decide) (by decide) rfl rfl rfl ⟨rfl, rfl, Nat.le_of_ble_eq_true rfl, Nat.le_of_ble_eq_true rfl⟩ ⟨Nat.zero_le _, Nat.zero_le _⟩ rfl (Nat.le_of_ble_eq_true rfl) d_Mod_isDone_313 ?_
    rintro _ _ ⟨b72, rfl, rfl, hw⟩
    show V X _ _ _ _ 316 [some (.ref (xa X 82)), some (.int x1), some (.int x11), some (.int x13), none] [.int (bi b72)]
    refine x_if_eq (tgt := 332) C d_Mod_isDone_316 (by decide) (fun c74 => ?_) (fun c74 => ?_)
    · have hw := hw.1 c74
      refine x_iconst (v := 0) C d_Mod_isDone_332 rfl ?_
      exact x_zreturn (b := false) C d_Mod_isDone_333 ⟨_, rfl, hw⟩
    · have hw := hw.2 c74
      refine x_aload_n C d_Mod_isDone_319 rfl ?_
      refine x_iload_n C d_Mod_isDone_320 rfl ?_
      refine x_callV (As := [.int x13]) (rest := []) (p := 82) C (m_Mod_isBody (xg X) C.2.2.2.2.2.2.1 x13 s _ hw) cw_Mod_isBody ml_Mod_179 rfl (by decide) (by decide) rfl rfl rfl ⟨rfl, rfl, Nat.le_of_ble_eq_true rfl, Nat.le_of_ble_eq_true rfl⟩ ⟨Nat.zero_le _, Nat.zero_le _⟩ rfl (Nat.le_of_ble_eq_true rfl) d_Mod_isDone_321 ?_
      rintro _ _ ⟨b75, rfl, rfl, hw⟩
      show V X _ _ _ _ 324 [some (.ref (xa X 82)), some (.int x1), some (.int x11), some (.int x13), none] [.int (bi b75)]
      refine x_if_eq (tgt := 332) C d_Mod_isDone_324 (by decide) (fun c77 => ?_) (fun c77 => ?_)
      · have hw := hw.1 c77
        refine x_iconst (v := 0) C d_Mod_isDone_332 rfl ?_
        exact x_zreturn (b := false) C d_Mod_isDone_333 ⟨_, rfl, hw⟩
      · have hw := hw.2 c77
        refine x_iload_n C d_Mod_isDone_327 rfl ?_
        refine x_iload_n C d_Mod_isDone_328 rfl ?_
        refine x_icmp_ne (tgt := 334) C d_Mod_isDone_329 (by decide) (fun c78 => ?_) (fun c78 => ?_)
        · have hw := hw.1 c78
          refine x_aload_n C d_Mod_isDone_334 rfl ?_
          refine x_iload_n C d_Mod_isDone_335 rfl ?_
          refine x_iload_n C d_Mod_isDone_336 rfl ?_
          refine x_callV (As := [.int x11, .int x13]) (rest := []) (p := 82) C (m_Mod_changes (xg X) C.2.2.2.2.2.2.1 x11 x13 s _ hw) cw_Mod_changes ml_Mod_182 rfl (by decide) (by decide) rfl rfl rfl ⟨rfl, rfl, Nat.le_of_ble_eq_true rfl, Nat.le_of_ble_eq_true rfl⟩ ⟨Nat.zero_le _, Nat.zero_le _⟩ rfl (Nat.le_of_ble_eq_true rfl) d_Mod_isDone_337 ?_
          rintro _ s79 ⟨rfl, hw⟩
          show V X _ _ _ _ 340 [some (.ref (xa X 82)), some (.int x1), some (.int x11), some (.int x13), none] []
          refine x_iconst (v := 1) C d_Mod_isDone_340 rfl ?_
          exact x_zreturn (b := true) C d_Mod_isDone_341 ⟨_, rfl, hw⟩
        · have hw := hw.2 c78
          refine x_iconst (v := 0) C d_Mod_isDone_332 rfl ?_
          exact x_zreturn (b := false) C d_Mod_isDone_333 ⟨_, rfl, hw⟩
  have hw := hw.2 c71
  by_cases c80 : x1 = 121
  · have hw := hw.1 c80
    refine x_tswIn (v := 121) (off := 109) (tgt := 124) C d_Mod_isDone_15 c80 (by decide) (by decide) rfl (by decide) ?_
    refine x_iload_n C d_Mod_isDone_124 rfl ?_
    refine x_bipush (v := 8) C d_Mod_isDone_125 rfl ?_
    refine x_icmp_ge (tgt := 157) C d_Mod_isDone_127 (by decide) (fun c81 => ?_) (fun c81 => ?_)
    · have hw := hw.1 c81
      refine x_iconst (v := 0) C d_Mod_isDone_157 rfl ?_
      exact x_zreturn (b := false) C d_Mod_isDone_158 ⟨_, rfl, hw⟩
    · have hw := hw.2 c81
      refine x_aload_n C d_Mod_isDone_130 rfl ?_
      refine g_Mod_22 (p := 82) C rfl fl_Mod_25 d_Mod_isDone_131 ?_
      refine x_iconst (v := 2) C d_Mod_isDone_134 rfl ?_
      obtain ⟨h82, hw⟩ := hw
      refine x_iald (p := 88) (n := 4) C rfl h82 d_Mod_isDone_135 ?_
      refine x_bipush (v := 6) C d_Mod_isDone_136 rfl ?_
      refine x_bipush (v := 40) C d_Mod_isDone_138 rfl ?_
      refine x_callS (As := [.int (s 88 (Int32.toNatClampNeg 2)), .int 6, .int 40]) (rest := []) C (m_Mod_isIn (xg X) C.2.2.2.2.2.2.1 (s 88 (Int32.toNatClampNeg 2)) 6 40 s _ hw) cw_Mod_isIn ml_Mod_55 rfl ⟨rfl, rfl, Nat.le_of_ble_eq_true rfl, Nat.le_of_ble_eq_true rfl⟩ ⟨Nat.zero_le _, Nat.zero_le _⟩ rfl (Nat.le_of_ble_eq_true rfl) d_Mod_isDone_140 ?_
      rintro _ _ ⟨b83, rfl, rfl, hw⟩
      show V X _ _ _ _ 143 [some (.ref (xa X 82)), some (.int x1), some (.int x11), some (.int x13), none] [.int (bi b83)]
      refine x_if_eq (tgt := 157) C d_Mod_isDone_143 (by decide) (fun c85 => ?_) (fun c85 => ?_)
      · have hw := hw.1 c85
        refine x_iconst (v := 0) C d_Mod_isDone_157 rfl ?_
        exact x_zreturn (b := false) C d_Mod_isDone_158 ⟨_, rfl, hw⟩
      · have hw := hw.2 c85
        refine x_aload_n C d_Mod_isDone_146 rfl ?_
        refine g_Mod_0 (p := 82) C rfl fl_Mod_9 d_Mod_isDone_147 ?_
        refine x_iconst (v := 0) C d_Mod_isDone_150 rfl ?_
        obtain ⟨h86, hw⟩ := hw
        refine x_iald (p := 83) (n := 78) C rfl h86 d_Mod_isDone_151 ?_
        refine x_bipush (v := 12) C d_Mod_isDone_152 rfl ?_
        refine x_icmp_ne (tgt := 159) C d_Mod_isDone_154 (by decide) (fun c87 => ?_) (fun c87 => ?_)
        · have hw := hw.1 c87
          refine x_aload_n C d_Mod_isDone_159 rfl ?_
          refine x_iload_n C d_Mod_isDone_160 rfl ?_
          refine x_iload_n C d_Mod_isDone_161 rfl ?_
          refine x_aload_n C d_Mod_isDone_162 rfl ?_
          refine g_Mod_22 (p := 82) C rfl fl_Mod_25 d_Mod_isDone_163 ?_
          refine x_iconst (v := 2) C d_Mod_isDone_166 rfl ?_
          obtain ⟨h88, hw⟩ := hw
          refine x_iald (p := 88) (n := 4) C rfl h88 d_Mod_isDone_167 ?_
          refine x_callV (As := [.int x11, .int x13, .int (s 88 (Int32.toNatClampNeg 2))]) (rest := []) (p := 82) C (m_Mod_addsYard (xg X) C.2.2.2.2.2.2.1 x11 x13 (s 88 (Int32.toNatClampNeg 2)) s _ hw) cw_Mod_addsYard ml_Mod_175 rfl (by decide) (by decide) rfl rfl rfl ⟨rfl, rfl, Nat.le_of_ble_eq_true rfl, Nat.le_of_ble_eq_true rfl⟩ ⟨Nat.zero_le _, Nat.zero_le _⟩ rfl (Nat.le_of_ble_eq_true rfl) d_Mod_isDone_168 ?_
          rintro _ s89 ⟨rfl, hw⟩
          show V X _ _ _ _ 171 [some (.ref (xa X 82)), some (.int x1), some (.int x11), some (.int x13), none] []
          refine x_iconst (v := 1) C d_Mod_isDone_171 rfl ?_
          exact x_zreturn (b := true) C d_Mod_isDone_172 ⟨_, rfl, hw⟩
        · have hw := hw.2 c87
          refine x_iconst (v := 0) C d_Mod_isDone_157 rfl ?_
          exact x_zreturn (b := false) C d_Mod_isDone_158 ⟨_, rfl, hw⟩
  have hw := hw.2 c80
  refine x_tswD (tgt := 375) C d_Mod_isDone_15 (fun j hj => by match j, hj with | 0, _ => exact Or.inr c20 | 1, _ => exact Or.inr c51 | 2, _ => exact Or.inl rfl | 3, _ => exact Or.inl rfl | 4, _ => exact Or.inl rfl | 5, _ => exact Or.inl rfl | 6, _ => exact Or.inl rfl | 7, _ => exact Or.inl rfl | 8, _ => exact Or.inl rfl | 9, _ => exact Or.inl rfl | 10, _ => exact Or.inr c56 | 11, _ => exact Or.inl rfl | 12, _ => exact Or.inl rfl | 13, _ => exact Or.inl rfl | 14, _ => exact Or.inr c59 | 15, _ => exact Or.inl rfl | 16, _ => exact Or.inr c68 | 17, _ => exact Or.inl rfl | 18, _ => exact Or.inl rfl | 19, _ => exact Or.inl rfl | 20, _ => exact Or.inl rfl | 21, _ => exact Or.inl rfl | 22, _ => exact Or.inr c71 | 23, _ => exact Or.inr c80 | j + 24, hj => exact absurd hj (by omega)) (by decide) ?_
  exact x_wk (kJ14  hw) (And.intro rfl (And.intro rfl (And.intro rfl (And.intro rfl (trivial)))))
def vc_Mod_isShelf (x0 : Int32) (Q : Bool → Prop) : Prop :=
    vc_Mod_isIn x0 0 7 (fun b10 => Q b10)
def rm_Mod_isShelf : Room := { frames := 1, cells := 0, slots := 0, locals := 22 }
set_option maxHeartbeats 4000000 in
set_option maxRecDepth 20000 in
theorem m_Mod_isShelf (g : Gx) (hg : gOk g) (x0 : Int32)  (s : St) (Q : Bool → Prop) (hw : vc_Mod_isShelf x0 Q) : Mc g y_Mod_isShelf b_Mod_isShelf 1 (some FieldType.boolean) rm_Mod_isShelf [.int x0] s (fun v s' => ∃ r : Bool, v = some (.int (bi r)) ∧ s = s' ∧ Q r) := by
  refine mc_ofV (j := 0) (L := [some (.int x0)]) hg (by decide) (Nat.le_of_ble_eq_true rfl) rfl ?_
  intro X hX C
  subst hX
  unfold vc_Mod_isShelf at hw
  refine x_iload_n C d_Mod_isShelf_0 rfl ?_
  refine x_iconst (v := 0) C d_Mod_isShelf_1 rfl ?_
  refine x_bipush (v := 7) C d_Mod_isShelf_2 rfl ?_
  refine x_callS (As := [.int x0, .int 0, .int 7]) (rest := []) C (m_Mod_isIn (xg X) C.2.2.2.2.2.2.1 x0 0 7 s _ hw) cw_Mod_isIn ml_Mod_55 rfl ⟨rfl, rfl, Nat.le_of_ble_eq_true rfl, Nat.le_of_ble_eq_true rfl⟩ ⟨Nat.zero_le _, Nat.zero_le _⟩ rfl (Nat.le_of_ble_eq_true rfl) d_Mod_isShelf_4 ?_
  rintro _ _ ⟨b10, rfl, rfl, hw⟩
  show V X _ _ _ _ 7 [some (.int x0)] [.int (bi b10)]
  exact x_zreturn (b := b10) C d_Mod_isShelf_7 ⟨_, rfl, rfl, hw⟩
def vc_Mod_wrongRow (x1 : Int32) (x2 : Int32) (s : St) (Q : Int32 → Prop) : Prop :=
    vc_Mod_isShelf x1 (fun b10 => ((¬ (bi b10) = 0 → (vp_in x1 8 ∧ ((¬ (s 92 (Int32.toNatClampNeg x1)) = 0 → (vp_in x1 8 ∧ (∃ J16 : Prop, (J16 → Q (-12)) ∧ ((¬ (s 92 (Int32.toNatClampNeg x1)) = 2 → J16) ∧ ((s 92 (Int32.toNatClampNeg x1)) = 2 → ((x2 < 0 → Q 0) ∧ (¬ x2 < 0 → (vp_in x1 8 ∧ (((s 95 (Int32.toNatClampNeg x1)) = x2 → Q 0) ∧ (¬ (s 95 (Int32.toNatClampNeg x1)) = x2 → J16)))))))))) ∧ ((s 92 (Int32.toNatClampNeg x1)) = 0 → Q (-11))))) ∧ ((bi b10) = 0 → Q (-1))))
def rm_Mod_wrongRow : Room := { frames := 2, cells := 0, slots := 0, locals := 42 }
set_option maxHeartbeats 4000000 in
set_option maxRecDepth 20000 in
theorem m_Mod_wrongRow (g : Gx) (hg : gOk g) (x1 : Int32) (x2 : Int32)  (s : St) (Q : Int32 → Prop) (hw : vc_Mod_wrongRow x1 x2 s Q) : Mc g y_Mod_wrongRow b_Mod_wrongRow 3 (some FieldType.int) rm_Mod_wrongRow [.ref (ga g 82), .int x1, .int x2] s (fun v s' => ∃ r : Int32, v = some (.int r) ∧ s = s' ∧ Q r) := by
  refine mc_ofV (j := 0) (L := [some (.ref (ga g 82)), some (.int x1), some (.int x2)]) hg (by decide) (Nat.le_of_ble_eq_true rfl) rfl ?_
  intro X hX C
  subst hX
  unfold vc_Mod_wrongRow at hw
  refine x_iload_n C d_Mod_wrongRow_0 rfl ?_
  refine x_callS (As := [.int x1]) (rest := []) C (m_Mod_isShelf (xg X) C.2.2.2.2.2.2.1 x1 s _ hw) cw_Mod_isShelf ml_Mod_206 rfl ⟨rfl, rfl, Nat.le_of_ble_eq_true rfl, Nat.le_of_ble_eq_true rfl⟩ ⟨Nat.zero_le _, Nat.zero_le _⟩ rfl (Nat.le_of_ble_eq_true rfl) d_Mod_wrongRow_1 ?_
  rintro _ _ ⟨b10, rfl, rfl, hw⟩
  show V X _ _ _ _ 4 [some (.ref (xa X 82)), some (.int x1), some (.int x2)] [.int (bi b10)]
  refine x_if_ne (tgt := 11) C d_Mod_wrongRow_4 (by decide) (fun c12 => ?_) (fun c12 => ?_)
  · have hw := hw.1 c12
    refine x_aload_n C d_Mod_wrongRow_11 rfl ?_
    refine g_Mod_33 (p := 82) C rfl fl_Mod_37 d_Mod_wrongRow_12 ?_
    refine x_iload_n C d_Mod_wrongRow_15 rfl ?_
    obtain ⟨h13, hw⟩ := hw
    refine x_iald (p := 92) (n := 8) C rfl h13 d_Mod_wrongRow_16 ?_
    refine x_if_ne (tgt := 25) C d_Mod_wrongRow_17 (by decide) (fun c14 => ?_) (fun c14 => ?_)
    · have hw := hw.1 c14
      refine x_aload_n C d_Mod_wrongRow_25 rfl ?_
      refine g_Mod_33 (p := 82) C rfl fl_Mod_37 d_Mod_wrongRow_26 ?_
      refine x_iload_n C d_Mod_wrongRow_29 rfl ?_
      obtain ⟨h15, hw⟩ := hw
      refine x_iald (p := 92) (n := 8) C rfl h15 d_Mod_wrongRow_30 ?_
      refine x_iconst (v := 2) C d_Mod_wrongRow_31 rfl ?_
      obtain ⟨J16, hJ16, hw⟩ := hw
      have kJ16 : J16 → V X (xQ X (fun v s' => ∃ r : Int32, v = some (.int r) ∧ s = s' ∧ Q r)) 0 0 s 49 [some (.ref (xa X 82)), some (.int x1), some (.int x2)] [] := by
        intro  hv
        have hw := hJ16  hv
        refine x_bipush (v := (-12)) C d_Mod_wrongRow_49 rfl ?_
        refine x_goto (tgt := 55) C d_Mod_wrongRow_51 (by decide) ?_
        exact x_ireturn C d_Mod_wrongRow_55 ⟨_, rfl, rfl, hw⟩
      refine x_icmp_ne (tgt := 49) C d_Mod_wrongRow_32 (by decide) (fun c17 => ?_) (fun c17 => ?_)
      · have hw := hw.1 c17
        exact x_wk (kJ16  hw) (And.intro rfl (And.intro rfl (And.intro rfl (trivial))))
      · have hw := hw.2 c17
        refine x_iload_n C d_Mod_wrongRow_35 rfl ?_
        refine x_if_lt (tgt := 54) C d_Mod_wrongRow_36 (by decide) (fun c18 => ?_) (fun c18 => ?_)
        · have hw := hw.1 c18
          refine x_iconst (v := 0) C d_Mod_wrongRow_54 rfl ?_
          exact x_ireturn C d_Mod_wrongRow_55 ⟨_, rfl, rfl, hw⟩
        · have hw := hw.2 c18
          refine x_aload_n C d_Mod_wrongRow_39 rfl ?_
          refine g_Mod_36 (p := 82) C rfl fl_Mod_46 d_Mod_wrongRow_40 ?_
          refine x_iload_n C d_Mod_wrongRow_43 rfl ?_
          obtain ⟨h19, hw⟩ := hw
          refine x_iald (p := 95) (n := 8) C rfl h19 d_Mod_wrongRow_44 ?_
          refine x_iload_n C d_Mod_wrongRow_45 rfl ?_
          refine x_icmp_eq (tgt := 54) C d_Mod_wrongRow_46 (by decide) (fun c20 => ?_) (fun c20 => ?_)
          · have hw := hw.1 c20
            refine x_iconst (v := 0) C d_Mod_wrongRow_54 rfl ?_
            exact x_ireturn C d_Mod_wrongRow_55 ⟨_, rfl, rfl, hw⟩
          · have hw := hw.2 c20
            exact x_wk (kJ16  hw) (And.intro rfl (And.intro rfl (And.intro rfl (trivial))))
    · have hw := hw.2 c14
      refine x_bipush (v := (-11)) C d_Mod_wrongRow_20 rfl ?_
      refine x_goto (tgt := 55) C d_Mod_wrongRow_22 (by decide) ?_
      exact x_ireturn C d_Mod_wrongRow_55 ⟨_, rfl, rfl, hw⟩
  · have hw := hw.2 c12
    refine x_iconst (v := (-1)) C d_Mod_wrongRow_7 rfl ?_
    refine x_goto (tgt := 55) C d_Mod_wrongRow_8 (by decide) ?_
    exact x_ireturn C d_Mod_wrongRow_55 ⟨_, rfl, rfl, hw⟩
def vc_Mod_cave (x1 : Int32) (s : St) (Q : Int32 → St → Prop) : Prop :=
    vc_Mod_wrongRow x1 0 s (fun x10 => ((x10 = 0 → (∀ s13 : St, s13 = wr s 82 20 (100 * x1) → (vp_in x1 8 ∧ (∀ s15 : St, s15 = wr s13 82 21 (s13 96 (Int32.toNatClampNeg x1)) → (∀ s16 : St, s16 = wr s15 82 19 0 → (∃ I20 : Nat → Int32 → Int32 → St → Prop, (∃ n21, I20 n21 0 0 s16) ∧ ∀ (nI20 : Nat) (x17 : Int32) (x18 : Int32) (s19 : St), I20 nI20 x17 x18 s19 → vc_Mod_readsStatement  s19 (fun b22 s23 => (∃ J25 : Int32 → Prop, (∀ (x24 : Int32), J25 x24 → (∀ x26 : Int32, x26 = x17 + 1 → (∃ J27 : Prop, (J27 → vc_Mod_copies 83 78 85 78 s23 (fun s28 => (∀ s29 : St, s29 = wr s28 82 19 0 → (∃ I32 : Nat → Int32 → St → Prop, (∃ n33, I32 n33 x24 s29) ∧ ∀ (nI32 : Nat) (x30 : Int32) (s31 : St), I32 nI32 x30 s31 → (∃ J34 : Prop, (J34 → ((¬ x30 = 0 → Q x30 s31) ∧ (x30 = 0 → Q x26 s31))) ∧ ((¬ x30 = 0 → J34) ∧ (x30 = 0 → (((s31 82 21) ≤ (s31 82 19) → J34) ∧ (¬ (s31 82 21) ≤ (s31 82 19) → (∀ x38 : Int32, x38 = s31 82 19 → vc_Mod_here  s31 (fun x39 => vc_Mod_readsStatement  s31 (fun b41 s42 => vc_Mod_isDone x39 s42 (fun b43 s44 => (((bi b43) = 0 → (∀ x46 : Int32, x46 = (-2000) - x38 → vc_Mod_copies 85 78 83 78 s44 (fun s47 => ∃ m48, m48 < nI32 ∧ I32 m48 x46 s47))) ∧ (¬ (bi b43) = 0 → ∃ m49, m49 < nI32 ∧ I32 m49 x30 s44))))))))))))))) ∧ ((¬ x24 = 0 → J27) ∧ (x24 = 0 → (((s23 82 19) < (s23 82 21) → ∃ m52, m52 < nI20 ∧ I20 m52 x26 x24 s23) ∧ (¬ (s23 82 19) < (s23 82 21) → J27))))))) ∧ ((¬ (bi b22) = 0 → J25 x18) ∧ ((bi b22) = 0 → (∀ x54 : Int32, x54 = (-1000) - (s23 82 19) → J25 x54))))))))))) ∧ (¬ x10 = 0 → Q x10 s)))
def rm_Mod_cave : Room := { frames := 3, cells := 0, slots := 0, locals := 70 }
set_option maxHeartbeats 4000000 in
set_option maxRecDepth 20000 in
theorem m_Mod_cave (g : Gx) (hg : gOk g) (x1 : Int32)  (s : St) (Q : Int32 → St → Prop) (hw : vc_Mod_cave x1 s Q) : Mc g y_Mod_cave b_Mod_cave 8 (some FieldType.int) rm_Mod_cave [.ref (ga g 82), .int x1] s (fun v s' => ∃ r : Int32, v = some (.int r) ∧ Q r s') := by
  refine mc_ofV (j := 6) (L := [some (.ref (ga g 82)), some (.int x1), none, none, none, none, none, none]) hg (by decide) (Nat.le_of_ble_eq_true rfl) rfl ?_
  intro X hX C
  subst hX
  unfold vc_Mod_cave at hw
  refine x_aload_n C d_Mod_cave_0 rfl ?_
  refine x_iload_n C d_Mod_cave_1 rfl ?_
  refine x_iconst (v := 0) C d_Mod_cave_2 rfl ?_
  refine x_callV (As := [.int x1, .int 0]) (rest := []) (p := 82) C (m_Mod_wrongRow (xg X) C.2.2.2.2.2.2.1 x1 0 s _ hw) cw_Mod_wrongRow ml_Mod_186 rfl (by decide) (by decide) rfl rfl rfl ⟨rfl, rfl, Nat.le_of_ble_eq_true rfl, Nat.le_of_ble_eq_true rfl⟩ ⟨Nat.zero_le _, Nat.zero_le _⟩ rfl (Nat.le_of_ble_eq_true rfl) d_Mod_cave_3 ?_
  rintro _ _ ⟨x10, rfl, rfl, hw⟩
  show V X _ _ _ _ 6 [some (.ref (xa X 82)), some (.int x1), none, none, none, none, none, none] [.int x10]
  refine x_istore_n (L' := [some (.ref (xa X 82)), some (.int x1), some (.int x10), none, none, none, none, none]) C d_Mod_cave_6 (Nat.le_of_ble_eq_true rfl) rfl ?_
  refine x_iload_n C d_Mod_cave_7 rfl ?_
  refine x_if_eq (tgt := 13) C d_Mod_cave_8 (by decide) (fun c12 => ?_) (fun c12 => ?_)
  · have hw := hw.1 c12
    refine x_aload_n C d_Mod_cave_13 rfl ?_
    refine x_bipush (v := 100) C d_Mod_cave_14 rfl ?_
    refine x_iload_n C d_Mod_cave_16 rfl ?_
    refine x_imul C d_Mod_cave_17 ?_
    refine p_Mod_20 (p := 82) C rfl fl_Mod_161 d_Mod_cave_18 ?_
    refine x_st (fun s13 hs13 => ?_)
    have hw := hw s13 hs13
    refine x_aload_n C d_Mod_cave_21 rfl ?_
    refine x_aload_n C d_Mod_cave_22 rfl ?_
    refine g_Mod_37 (p := 82) C rfl fl_Mod_49 d_Mod_cave_23 ?_
    refine x_iload_n C d_Mod_cave_26 rfl ?_
    obtain ⟨h14, hw⟩ := hw
    refine x_iald (p := 96) (n := 8) C rfl h14 d_Mod_cave_27 ?_
    refine p_Mod_21 (p := 82) C rfl fl_Mod_158 d_Mod_cave_28 ?_
    refine x_st (fun s15 hs15 => ?_)
    have hw := hw s15 hs15
    refine x_aload_n C d_Mod_cave_31 rfl ?_
    refine x_iconst (v := 0) C d_Mod_cave_32 rfl ?_
    refine p_Mod_19 (p := 82) C rfl fl_Mod_155 d_Mod_cave_33 ?_
    refine x_st (fun s16 hs16 => ?_)
    have hw := hw s16 hs16
    refine x_iconst (v := 0) C d_Mod_cave_36 rfl ?_
    refine x_istore_n (L' := [some (.ref (xa X 82)), some (.int x1), some (.int x10), some (.int 0), none, none, none, none]) C d_Mod_cave_37 (Nat.le_of_ble_eq_true rfl) rfl ?_
    refine x_iconst (v := 0) C d_Mod_cave_38 rfl ?_
    refine x_istore (L' := [some (.ref (xa X 82)), some (.int x1), some (.int x10), some (.int 0), some (.int 0), none, none, none]) C d_Mod_cave_39 (Nat.le_of_ble_eq_true rfl) rfl ?_
    obtain ⟨I20, ⟨n21, hn21⟩, hI20⟩ := hw
    have lI20 : ∀ (nI20 : Nat) (x17 : Int32) (x18 : Int32) (s19 : St), I20 nI20 x17 x18 s19 → V X (xQ X (fun v s' => ∃ r : Int32, v = some (.int r) ∧ Q r s')) 0 0 s19 41 [some (.ref (xa X 82)), some (.int x1), some (.int x10), some (.int x17), some (.int x18), none, none, none] [] := by
      intro nI20
      induction nI20 using Nat.strongRecOn with
      | ind nI20 ihI20 =>
        intro x17 x18 s19 hv
        have hw := hI20 nI20 x17 x18 s19 hv
        refine x_aload_n C d_Mod_cave_41 rfl ?_
        refine x_callV (As := []) (rest := []) (p := 82) C (m_Mod_readsStatement (xg X) C.2.2.2.2.2.2.1  s19 _ hw) cw_Mod_readsStatement ml_Mod_189 rfl (by decide) (by decide) rfl rfl rfl ⟨rfl, rfl, Nat.le_of_ble_eq_true rfl, Nat.le_of_ble_eq_true rfl⟩ ⟨Nat.zero_le _, Nat.zero_le _⟩ rfl (Nat.le_of_ble_eq_true rfl) d_Mod_cave_42 ?_
        rintro _ s23 ⟨b22, rfl, hw⟩
        show V X _ _ _ _ 45 [some (.ref (xa X 82)), some (.int x1), some (.int x10), some (.int x17), some (.int x18), none, none, none] [.int (bi b22)]
        obtain ⟨J25, hJ25, hw⟩ := hw
        have kJ25 : ∀ (x24 : Int32), J25 x24 → V X (xQ X (fun v s' => ∃ r : Int32, v = some (.int r) ∧ Q r s')) 0 0 s23 58 [some (.ref (xa X 82)), some (.int x1), some (.int x10), some (.int x17), some (.int x24), none, none, none] [] := by
          intro x24 hv
          have hw := hJ25 x24 hv
          obtain ⟨x26, hx26⟩ : ∃ z : Int32, z = x17 + 1 := ⟨_, rfl⟩
          refine x_iinc (v := x26) (L' := [some (.ref (xa X 82)), some (.int x1), some (.int x10), some (.int x26), some (.int x24), none, none, none]) C d_Mod_cave_58 (Nat.le_of_ble_eq_true rfl) rfl (by rw [hx26]; rfl) rfl ?_
          have hw := hw x26 hx26
          refine x_iload C d_Mod_cave_61 rfl ?_
          obtain ⟨J27, hJ27, hw⟩ := hw
          have kJ27 : J27 → V X (xQ X (fun v s' => ∃ r : Int32, v = some (.int r) ∧ Q r s')) 0 0 s23 77 [some (.ref (xa X 82)), some (.int x1), some (.int x10), some (.int x26), some (.int x24), none, none, none] [] := by
            intro  hv
            have hw := hJ27  hv
            refine x_aload_n C d_Mod_cave_77 rfl ?_
            refine g_Mod_0 (p := 82) C rfl fl_Mod_9 d_Mod_cave_78 ?_
            refine x_aload_n C d_Mod_cave_81 rfl ?_
            refine g_Mod_2 (p := 82) C rfl fl_Mod_16 d_Mod_cave_82 ?_
            refine x_callS (As := [.ref (xa X 83), .ref (xa X 85)]) (rest := []) C (m_Mod_copies (xg X) C.2.2.2.2.2.2.1 83 78 85 78 rfl rfl s23 _ hw) cw_Mod_copies ml_Mod_193 rfl ⟨rfl, rfl, Nat.le_of_ble_eq_true rfl, Nat.le_of_ble_eq_true rfl⟩ ⟨Nat.zero_le _, Nat.zero_le _⟩ rfl (Nat.le_of_ble_eq_true rfl) d_Mod_cave_85 ?_
            rintro _ s28 ⟨rfl, hw⟩
            show V X _ _ _ _ 88 [some (.ref (xa X 82)), some (.int x1), some (.int x10), some (.int x26), some (.int x24), none, none, none] []
            refine x_aload_n C d_Mod_cave_88 rfl ?_
            refine x_iconst (v := 0) C d_Mod_cave_89 rfl ?_
            refine p_Mod_19 (p := 82) C rfl fl_Mod_155 d_Mod_cave_90 ?_
            refine x_st (fun s29 hs29 => ?_)
            have hw := hw s29 hs29
            obtain ⟨I32, ⟨n33, hn33⟩, hI32⟩ := hw
            have lI32 : ∀ (nI32 : Nat) (x30 : Int32) (s31 : St), I32 nI32 x30 s31 → V X (xQ X (fun v s' => ∃ r : Int32, v = some (.int r) ∧ Q r s')) 0 0 s31 93 [some (.ref (xa X 82)), some (.int x1), some (.int x10), some (.int x26), some (.int x30), none, none, none] [] := by
              intro nI32
              induction nI32 using Nat.strongRecOn with
              | ind nI32 ihI32 =>
                intro x30 s31 hv
                have hw := hI32 nI32 x30 s31 hv
                refine x_iload C d_Mod_cave_93 rfl ?_
                obtain ⟨J34, hJ34, hw⟩ := hw
                have kJ34 : J34 → V X (xQ X (fun v s' => ∃ r : Int32, v = some (.int r) ∧ Q r s')) 0 0 s31 161 [some (.ref (xa X 82)), some (.int x1), some (.int x10), some (.int x26), some (.int x30), none, none, none] [] := by
                  intro  hv
                  have hw := hJ34  hv
                  refine x_iload C d_Mod_cave_161 rfl ?_
                  refine x_if_ne (tgt := 170) C d_Mod_cave_163 (by decide) (fun c35 => ?_) (fun c35 => ?_)
                  · have hw := hw.1 c35
                    refine x_iload C d_Mod_cave_170 rfl ?_
                    exact x_ireturn C d_Mod_cave_172 ⟨_, rfl, hw⟩
                  · have hw := hw.2 c35
                    refine x_iload_n C d_Mod_cave_166 rfl ?_
                    refine x_goto (tgt := 172) C d_Mod_cave_167 (by decide) ?_
                    exact x_ireturn C d_Mod_cave_172 ⟨_, rfl, hw⟩
                refine x_if_ne (tgt := 161) C d_Mod_cave_95 (by decide) (fun c36 => ?_) (fun c36 => ?_)
                · have hw := hw.1 c36
                  exact x_wk (kJ34  hw) (And.intro rfl (And.intro rfl (And.intro rfl (And.intro rfl (And.intro rfl (trivial))))))
                · have hw := hw.2 c36
                  refine x_aload_n C d_Mod_cave_98 rfl ?_
                  refine g_Mod_19 (p := 82) C rfl fl_Mod_155 d_Mod_cave_99 ?_
                  refine x_aload_n C d_Mod_cave_102 rfl ?_
                  refine g_Mod_21 (p := 82) C rfl fl_Mod_158 d_Mod_cave_103 ?_
                  refine x_icmp_ge (tgt := 161) C d_Mod_cave_106 (by decide) (fun c37 => ?_) (fun c37 => ?_)
                  · have hw := hw.1 c37
                    exact x_wk (kJ34  hw) (And.intro rfl (And.intro rfl (And.intro rfl (And.intro rfl (And.intro rfl (trivial))))))
                  · have hw := hw.2 c37
                    refine x_aload_n C d_Mod_cave_109 rfl ?_
                    refine g_Mod_19 (p := 82) C rfl fl_Mod_155 d_Mod_cave_110 ?_
                    refine x_nm (fun x38 hx38 => ?_)
                    have hw := hw x38 hx38
                    refine x_istore (L' := [some (.ref (xa X 82)), some (.int x1), some (.int x10), some (.int x26), some (.int x30), some (.int x38), none, none]) C d_Mod_cave_113 (Nat.le_of_ble_eq_true rfl) rfl ?_
                    refine x_aload_n C d_Mod_cave_115 rfl ?_
                    refine x_callV (As := []) (rest := []) (p := 82) C (m_Mod_here (xg X) C.2.2.2.2.2.2.1  s31 _ hw) cw_Mod_here ml_Mod_164 rfl (by decide) (by decide) rfl rfl rfl ⟨rfl, rfl, Nat.le_of_ble_eq_true rfl, Nat.le_of_ble_eq_true rfl⟩ ⟨Nat.zero_le _, Nat.zero_le _⟩ rfl (Nat.le_of_ble_eq_true rfl) d_Mod_cave_116 ?_
                    rintro _ _ ⟨x39, rfl, rfl, hw⟩
                    show V X _ _ _ _ 119 [some (.ref (xa X 82)), some (.int x1), some (.int x10), some (.int x26), some (.int x30), some (.int x38), none, none] [.int x39]
                    refine x_istore (L' := [some (.ref (xa X 82)), some (.int x1), some (.int x10), some (.int x26), some (.int x30), some (.int x38), some (.int x39), none]) C d_Mod_cave_119 (Nat.le_of_ble_eq_true rfl) rfl ?_
                    refine x_aload_n C d_Mod_cave_121 rfl ?_
                    refine x_callV (As := []) (rest := []) (p := 82) C (m_Mod_readsStatement (xg X) C.2.2.2.2.2.2.1  s31 _ hw) cw_Mod_readsStatement ml_Mod_189 rfl (by decide) (by decide) rfl rfl rfl ⟨rfl, rfl, Nat.le_of_ble_eq_true rfl, Nat.le_of_ble_eq_true rfl⟩ ⟨Nat.zero_le _, Nat.zero_le _⟩ rfl (Nat.le_of_ble_eq_true rfl) d_Mod_cave_122 ?_
                    rintro _ s42 ⟨b41, rfl, hw⟩
                    show V X _ _ _ _ 125 [some (.ref (xa X 82)), some (.int x1), some (.int x10), some (.int x26), some (.int x30), some (.int x38), some (.int x39), none] [.int (bi b41)]
                    refine x_istore (L' := [some (.ref (xa X 82)), some (.int x1), some (.int x10), some (.int x26), some (.int x30), some (.int x38), some (.int x39), some (.int (bi b41))]) C d_Mod_cave_125 (Nat.le_of_ble_eq_true rfl) rfl ?_
                    refine x_aload_n C d_Mod_cave_127 rfl ?_
                    refine x_iload C d_Mod_cave_128 rfl ?_
                    refine x_callV (As := [.int x39]) (rest := []) (p := 82) C (m_Mod_isDone (xg X) C.2.2.2.2.2.2.1 x39 s42 _ hw) cw_Mod_isDone ml_Mod_197 rfl (by decide) (by decide) rfl rfl rfl ⟨rfl, rfl, Nat.le_of_ble_eq_true rfl, Nat.le_of_ble_eq_true rfl⟩ ⟨Nat.zero_le _, Nat.zero_le _⟩ rfl (Nat.le_of_ble_eq_true rfl) d_Mod_cave_130 ?_
                    rintro _ s44 ⟨b43, rfl, hw⟩
                    show V X _ _ _ _ 133 [some (.ref (xa X 82)), some (.int x1), some (.int x10), some (.int x26), some (.int x30), some (.int x38), some (.int x39), some (.int (bi b41))] [.int (bi b43)]
                    refine x_if_eq (tgt := 139) C d_Mod_cave_133 (by decide) (fun c45 => ?_) (fun c45 => ?_)
                    · have hw := hw.1 c45
                      refine x_sipush (v := (-2000)) C d_Mod_cave_139 rfl ?_
                      refine x_iload C d_Mod_cave_142 rfl ?_
                      refine x_isub C d_Mod_cave_144 ?_
                      refine x_nm (fun x46 hx46 => ?_)
                      have hw := hw x46 hx46
                      refine x_istore (L' := [some (.ref (xa X 82)), some (.int x1), some (.int x10), some (.int x26), some (.int x46), some (.int x38), some (.int x39), some (.int (bi b41))]) C d_Mod_cave_145 (Nat.le_of_ble_eq_true rfl) rfl ?_
                      refine x_aload_n C d_Mod_cave_147 rfl ?_
                      refine g_Mod_2 (p := 82) C rfl fl_Mod_16 d_Mod_cave_148 ?_
                      refine x_aload_n C d_Mod_cave_151 rfl ?_
                      refine g_Mod_0 (p := 82) C rfl fl_Mod_9 d_Mod_cave_152 ?_
                      refine x_callS (As := [.ref (xa X 85), .ref (xa X 83)]) (rest := []) C (m_Mod_copies (xg X) C.2.2.2.2.2.2.1 85 78 83 78 rfl rfl s44 _ hw) cw_Mod_copies ml_Mod_193 rfl ⟨rfl, rfl, Nat.le_of_ble_eq_true rfl, Nat.le_of_ble_eq_true rfl⟩ ⟨Nat.zero_le _, Nat.zero_le _⟩ rfl (Nat.le_of_ble_eq_true rfl) d_Mod_cave_155 ?_
                      rintro _ s47 ⟨rfl, hw⟩
                      show V X _ _ _ _ 158 [some (.ref (xa X 82)), some (.int x1), some (.int x10), some (.int x26), some (.int x46), some (.int x38), some (.int x39), some (.int (bi b41))] []
                      refine x_goto (tgt := 93) C d_Mod_cave_158 (by decide) ?_
                      obtain ⟨m48, hm48, hw⟩ := hw
                      exact x_wk (ihI32 m48 hm48 x46 s47 hw) (And.intro rfl (And.intro rfl (And.intro rfl (And.intro rfl (And.intro rfl (trivial))))))
                    · have hw := hw.2 c45
                      refine x_goto (tgt := 93) C d_Mod_cave_136 (by decide) ?_
                      obtain ⟨m49, hm49, hw⟩ := hw
                      exact x_wk (ihI32 m49 hm49 x30 s44 hw) (And.intro rfl (And.intro rfl (And.intro rfl (And.intro rfl (And.intro rfl (trivial))))))
            exact x_wk (lI32 n33 x24 s29 hn33) (And.intro rfl (And.intro rfl (And.intro rfl (And.intro rfl (And.intro rfl (trivial))))))
          refine x_if_ne (tgt := 77) C d_Mod_cave_63 (by decide) (fun c50 => ?_) (fun c50 => ?_)
          · have hw := hw.1 c50
            exact x_wk (kJ27  hw) (And.intro rfl (And.intro rfl (And.intro rfl (And.intro rfl (And.intro rfl (trivial))))))
          · have hw := hw.2 c50
            refine x_aload_n C d_Mod_cave_66 rfl ?_
            refine g_Mod_19 (p := 82) C rfl fl_Mod_155 d_Mod_cave_67 ?_
            refine x_aload_n C d_Mod_cave_70 rfl ?_
            refine g_Mod_21 (p := 82) C rfl fl_Mod_158 d_Mod_cave_71 ?_
            refine x_icmp_lt (tgt := 41) C d_Mod_cave_74 (by decide) (fun c51 => ?_) (fun c51 => ?_)
            · have hw := hw.1 c51
              obtain ⟨m52, hm52, hw⟩ := hw
              exact x_wk (ihI20 m52 hm52 x26 x24 s23 hw) (And.intro rfl (And.intro rfl (And.intro rfl (And.intro rfl (And.intro rfl (trivial))))))
            · have hw := hw.2 c51
              exact x_wk (kJ27  hw) (And.intro rfl (And.intro rfl (And.intro rfl (And.intro rfl (And.intro rfl (trivial))))))
        refine x_if_ne (tgt := 58) C d_Mod_cave_45 (by decide) (fun c53 => ?_) (fun c53 => ?_)
        · have hw := hw.1 c53
          exact x_wk (kJ25 x18 hw) (And.intro rfl (And.intro rfl (And.intro rfl (And.intro rfl (And.intro rfl (trivial))))))
        · have hw := hw.2 c53
          refine x_sipush (v := (-1000)) C d_Mod_cave_48 rfl ?_
          refine x_aload_n C d_Mod_cave_51 rfl ?_
          refine g_Mod_19 (p := 82) C rfl fl_Mod_155 d_Mod_cave_52 ?_
          refine x_isub C d_Mod_cave_55 ?_
          refine x_nm (fun x54 hx54 => ?_)
          have hw := hw x54 hx54
          refine x_istore (L' := [some (.ref (xa X 82)), some (.int x1), some (.int x10), some (.int x17), some (.int x54), none, none, none]) C d_Mod_cave_56 (Nat.le_of_ble_eq_true rfl) rfl ?_
          exact x_wk (kJ25 x54 hw) (And.intro rfl (And.intro rfl (And.intro rfl (And.intro rfl (And.intro rfl (trivial))))))
    exact x_wk (lI20 n21 0 0 s16 hn21) (And.intro rfl (And.intro rfl (And.intro rfl (And.intro rfl (And.intro rfl (trivial))))))
  · have hw := hw.2 c12
    refine x_iload_n C d_Mod_cave_11 rfl ?_
    exact x_ireturn C d_Mod_cave_12 ⟨_, rfl, hw⟩
def vc_Mod_yard (x1 : Int32) (x2 : Int32) (s : St) (Q : Int32 → Prop) : Prop :=
    vc_Mod_isYard x1 s (fun b10 => (((bi b10) = 0 → Q (-1)) ∧ (¬ (bi b10) = 0 → vc_Mod_isIn x2 0 5 (fun b13 => ((¬ (bi b13) = 0 → ((3 ≤ x2 → ((¬ x2 = 3 → (∃ J19 : Int32 → Prop, (∀ (x18 : Int32), J19 x18 → vc_Mod_minutesOf x1 x18 s (fun x20 => Q x20)) ∧ ((¬ x2 = 5 → J19 0) ∧ (x2 = 5 → J19 1)))) ∧ (x2 = 3 → vc_Mod_hour  s (fun x23 => vc_Mod_roomOf x1 x23 s (fun x25 => Q x25))))) ∧ (¬ 3 ≤ x2 → vc_Mod_atYard x1 x2 (fun x27 => (vp_in x27 78 ∧ Q (s 83 (Int32.toNatClampNeg x27))))))) ∧ ((bi b13) = 0 → Q (-1)))))))
def rm_Mod_yard : Room := { frames := 2, cells := 0, slots := 0, locals := 45 }
set_option maxHeartbeats 4000000 in
set_option maxRecDepth 20000 in
theorem m_Mod_yard (g : Gx) (hg : gOk g) (x1 : Int32) (x2 : Int32)  (s : St) (Q : Int32 → Prop) (hw : vc_Mod_yard x1 x2 s Q) : Mc g y_Mod_yard b_Mod_yard 3 (some FieldType.int) rm_Mod_yard [.ref (ga g 82), .int x1, .int x2] s (fun v s' => ∃ r : Int32, v = some (.int r) ∧ s = s' ∧ Q r) := by
  refine mc_ofV (j := 0) (L := [some (.ref (ga g 82)), some (.int x1), some (.int x2)]) hg (by decide) (Nat.le_of_ble_eq_true rfl) rfl ?_
  intro X hX C
  subst hX
  unfold vc_Mod_yard at hw
  refine x_aload_n C d_Mod_yard_0 rfl ?_
  refine x_iload_n C d_Mod_yard_1 rfl ?_
  refine x_callV (As := [.int x1]) (rest := []) (p := 82) C (m_Mod_isYard (xg X) C.2.2.2.2.2.2.1 x1 s _ hw) cw_Mod_isYard ml_Mod_200 rfl (by decide) (by decide) rfl rfl rfl ⟨rfl, rfl, Nat.le_of_ble_eq_true rfl, Nat.le_of_ble_eq_true rfl⟩ ⟨Nat.zero_le _, Nat.zero_le _⟩ rfl (Nat.le_of_ble_eq_true rfl) d_Mod_yard_2 ?_
  rintro _ _ ⟨b10, rfl, rfl, hw⟩
  show V X _ _ _ _ 5 [some (.ref (xa X 82)), some (.int x1), some (.int x2)] [.int (bi b10)]
  refine x_if_eq (tgt := 17) C d_Mod_yard_5 (by decide) (fun c12 => ?_) (fun c12 => ?_)
  · have hw := hw.1 c12
    refine x_iconst (v := (-1)) C d_Mod_yard_17 rfl ?_
    exact x_ireturn C d_Mod_yard_18 ⟨_, rfl, rfl, hw⟩
  · have hw := hw.2 c12
    refine x_iload_n C d_Mod_yard_8 rfl ?_
    refine x_iconst (v := 0) C d_Mod_yard_9 rfl ?_
    refine x_iconst (v := 5) C d_Mod_yard_10 rfl ?_
    refine x_callS (As := [.int x2, .int 0, .int 5]) (rest := []) C (m_Mod_isIn (xg X) C.2.2.2.2.2.2.1 x2 0 5 s _ hw) cw_Mod_isIn ml_Mod_55 rfl ⟨rfl, rfl, Nat.le_of_ble_eq_true rfl, Nat.le_of_ble_eq_true rfl⟩ ⟨Nat.zero_le _, Nat.zero_le _⟩ rfl (Nat.le_of_ble_eq_true rfl) d_Mod_yard_11 ?_
    rintro _ _ ⟨b13, rfl, rfl, hw⟩
    show V X _ _ _ _ 14 [some (.ref (xa X 82)), some (.int x1), some (.int x2)] [.int (bi b13)]
    refine x_if_ne (tgt := 19) C d_Mod_yard_14 (by decide) (fun c15 => ?_) (fun c15 => ?_)
    · have hw := hw.1 c15
      refine x_iload_n C d_Mod_yard_19 rfl ?_
      refine x_iconst (v := 3) C d_Mod_yard_20 rfl ?_
      refine x_icmp_ge (tgt := 37) C d_Mod_yard_21 (by decide) (fun c16 => ?_) (fun c16 => ?_)
      · have hw := hw.1 c16
        refine x_iload_n C d_Mod_yard_37 rfl ?_
        refine x_iconst (v := 3) C d_Mod_yard_38 rfl ?_
        refine x_icmp_ne (tgt := 54) C d_Mod_yard_39 (by decide) (fun c17 => ?_) (fun c17 => ?_)
        · have hw := hw.1 c17
          refine x_aload_n C d_Mod_yard_54 rfl ?_
          refine x_iload_n C d_Mod_yard_55 rfl ?_
          refine x_iload_n C d_Mod_yard_56 rfl ?_
          refine x_iconst (v := 5) C d_Mod_yard_57 rfl ?_
          obtain ⟨J19, hJ19, hw⟩ := hw
          have kJ19 : ∀ (x18 : Int32), J19 x18 → V X (xQ X (fun v s' => ∃ r : Int32, v = some (.int r) ∧ s = s' ∧ Q r)) 0 0 s 66 [some (.ref (xa X 82)), some (.int x1), some (.int x2)] [.int x18, .int x1, .ref (xa X 82)] := by
            intro x18 hv
            have hw := hJ19 x18 hv
            refine x_callV (As := [.int x1, .int x18]) (rest := []) (p := 82) C (m_Mod_minutesOf (xg X) C.2.2.2.2.2.2.1 x1 x18 s _ hw) cw_Mod_minutesOf ml_Mod_101 rfl (by decide) (by decide) rfl rfl rfl ⟨rfl, rfl, Nat.le_of_ble_eq_true rfl, Nat.le_of_ble_eq_true rfl⟩ ⟨Nat.zero_le _, Nat.zero_le _⟩ rfl (Nat.le_of_ble_eq_true rfl) d_Mod_yard_66 ?_
            rintro _ _ ⟨x20, rfl, rfl, hw⟩
            show V X _ _ _ _ 69 [some (.ref (xa X 82)), some (.int x1), some (.int x2)] [.int x20]
            exact x_ireturn C d_Mod_yard_69 ⟨_, rfl, rfl, hw⟩
          refine x_icmp_ne (tgt := 65) C d_Mod_yard_58 (by decide) (fun c22 => ?_) (fun c22 => ?_)
          · have hw := hw.1 c22
            refine x_iconst (v := 0) C d_Mod_yard_65 rfl ?_
            exact x_wk (kJ19 0 hw) (And.intro rfl (And.intro rfl (And.intro rfl (trivial))))
          · have hw := hw.2 c22
            refine x_iconst (v := 1) C d_Mod_yard_61 rfl ?_
            refine x_goto (tgt := 66) C d_Mod_yard_62 (by decide) ?_
            exact x_wk (kJ19 1 hw) (And.intro rfl (And.intro rfl (And.intro rfl (trivial))))
        · have hw := hw.2 c17
          refine x_aload_n C d_Mod_yard_42 rfl ?_
          refine x_iload_n C d_Mod_yard_43 rfl ?_
          refine x_aload_n C d_Mod_yard_44 rfl ?_
          refine x_callV (As := []) (rest := [.int x1, .ref (xa X 82)]) (p := 82) C (m_Mod_hour (xg X) C.2.2.2.2.2.2.1  s _ hw) cw_Mod_hour ml_Mod_203 rfl (by decide) (by decide) rfl rfl rfl ⟨rfl, rfl, Nat.le_of_ble_eq_true rfl, Nat.le_of_ble_eq_true rfl⟩ ⟨Nat.zero_le _, Nat.zero_le _⟩ rfl (Nat.le_of_ble_eq_true rfl) d_Mod_yard_45 ?_
          rintro _ _ ⟨x23, rfl, rfl, hw⟩
          show V X _ _ _ _ 48 [some (.ref (xa X 82)), some (.int x1), some (.int x2)] [.int x23, .int x1, .ref (xa X 82)]
          refine x_callV (As := [.int x1, .int x23]) (rest := []) (p := 82) C (m_Mod_roomOf (xg X) C.2.2.2.2.2.2.1 x1 x23 s _ hw) cw_Mod_roomOf ml_Mod_84 rfl (by decide) (by decide) rfl rfl rfl ⟨rfl, rfl, Nat.le_of_ble_eq_true rfl, Nat.le_of_ble_eq_true rfl⟩ ⟨Nat.zero_le _, Nat.zero_le _⟩ rfl (Nat.le_of_ble_eq_true rfl) d_Mod_yard_48 ?_
          rintro _ _ ⟨x25, rfl, rfl, hw⟩
          show V X _ _ _ _ 51 [some (.ref (xa X 82)), some (.int x1), some (.int x2)] [.int x25]
          refine x_goto (tgt := 69) C d_Mod_yard_51 (by decide) ?_
          exact x_ireturn C d_Mod_yard_69 ⟨_, rfl, rfl, hw⟩
      · have hw := hw.2 c16
        refine x_aload_n C d_Mod_yard_24 rfl ?_
        refine g_Mod_0 (p := 82) C rfl fl_Mod_9 d_Mod_yard_25 ?_
        refine x_iload_n C d_Mod_yard_28 rfl ?_
        refine x_iload_n C d_Mod_yard_29 rfl ?_
        refine x_callS (As := [.int x1, .int x2]) (rest := [.ref (xa X 83)]) C (m_Mod_atYard (xg X) C.2.2.2.2.2.2.1 x1 x2 s _ hw) cw_Mod_atYard ml_Mod_63 rfl ⟨rfl, rfl, Nat.le_of_ble_eq_true rfl, Nat.le_of_ble_eq_true rfl⟩ ⟨Nat.zero_le _, Nat.zero_le _⟩ rfl (Nat.le_of_ble_eq_true rfl) d_Mod_yard_30 ?_
        rintro _ _ ⟨x27, rfl, rfl, hw⟩
        show V X _ _ _ _ 33 [some (.ref (xa X 82)), some (.int x1), some (.int x2)] [.int x27, .ref (xa X 83)]
        obtain ⟨h29, hw⟩ := hw
        refine x_iald (p := 83) (n := 78) C rfl h29 d_Mod_yard_33 ?_
        refine x_goto (tgt := 69) C d_Mod_yard_34 (by decide) ?_
        exact x_ireturn C d_Mod_yard_69 ⟨_, rfl, rfl, hw⟩
    · have hw := hw.2 c15
      refine x_iconst (v := (-1)) C d_Mod_yard_17 rfl ?_
      exact x_ireturn C d_Mod_yard_18 ⟨_, rfl, rfl, hw⟩
def vc_Mod_body (x1 : Int32) (x2 : Int32) (s : St) (Q : Int32 → Prop) : Prop :=
    vc_Mod_isBody x1 s (fun b10 => (((bi b10) = 0 → Q (-1)) ∧ (¬ (bi b10) = 0 → vc_Mod_isIn x2 0 5 (fun b13 => ((¬ (bi b13) = 0 → ((5 ≤ x2 → vc_Mod_placeOf x1 s (fun x17 => Q x17)) ∧ (¬ 5 ≤ x2 → vc_Mod_of x1 x2 s (fun x19 => Q x19)))) ∧ ((bi b13) = 0 → Q (-1)))))))
def rm_Mod_body : Room := { frames := 2, cells := 0, slots := 0, locals := 43 }
set_option maxHeartbeats 4000000 in
set_option maxRecDepth 20000 in
theorem m_Mod_body (g : Gx) (hg : gOk g) (x1 : Int32) (x2 : Int32)  (s : St) (Q : Int32 → Prop) (hw : vc_Mod_body x1 x2 s Q) : Mc g y_Mod_body b_Mod_body 3 (some FieldType.int) rm_Mod_body [.ref (ga g 82), .int x1, .int x2] s (fun v s' => ∃ r : Int32, v = some (.int r) ∧ s = s' ∧ Q r) := by
  refine mc_ofV (j := 0) (L := [some (.ref (ga g 82)), some (.int x1), some (.int x2)]) hg (by decide) (Nat.le_of_ble_eq_true rfl) rfl ?_
  intro X hX C
  subst hX
  unfold vc_Mod_body at hw
  refine x_aload_n C d_Mod_body_0 rfl ?_
  refine x_iload_n C d_Mod_body_1 rfl ?_
  refine x_callV (As := [.int x1]) (rest := []) (p := 82) C (m_Mod_isBody (xg X) C.2.2.2.2.2.2.1 x1 s _ hw) cw_Mod_isBody ml_Mod_179 rfl (by decide) (by decide) rfl rfl rfl ⟨rfl, rfl, Nat.le_of_ble_eq_true rfl, Nat.le_of_ble_eq_true rfl⟩ ⟨Nat.zero_le _, Nat.zero_le _⟩ rfl (Nat.le_of_ble_eq_true rfl) d_Mod_body_2 ?_
  rintro _ _ ⟨b10, rfl, rfl, hw⟩
  show V X _ _ _ _ 5 [some (.ref (xa X 82)), some (.int x1), some (.int x2)] [.int (bi b10)]
  refine x_if_eq (tgt := 17) C d_Mod_body_5 (by decide) (fun c12 => ?_) (fun c12 => ?_)
  · have hw := hw.1 c12
    refine x_iconst (v := (-1)) C d_Mod_body_17 rfl ?_
    exact x_ireturn C d_Mod_body_18 ⟨_, rfl, rfl, hw⟩
  · have hw := hw.2 c12
    refine x_iload_n C d_Mod_body_8 rfl ?_
    refine x_iconst (v := 0) C d_Mod_body_9 rfl ?_
    refine x_iconst (v := 5) C d_Mod_body_10 rfl ?_
    refine x_callS (As := [.int x2, .int 0, .int 5]) (rest := []) C (m_Mod_isIn (xg X) C.2.2.2.2.2.2.1 x2 0 5 s _ hw) cw_Mod_isIn ml_Mod_55 rfl ⟨rfl, rfl, Nat.le_of_ble_eq_true rfl, Nat.le_of_ble_eq_true rfl⟩ ⟨Nat.zero_le _, Nat.zero_le _⟩ rfl (Nat.le_of_ble_eq_true rfl) d_Mod_body_11 ?_
    rintro _ _ ⟨b13, rfl, rfl, hw⟩
    show V X _ _ _ _ 14 [some (.ref (xa X 82)), some (.int x1), some (.int x2)] [.int (bi b13)]
    refine x_if_ne (tgt := 19) C d_Mod_body_14 (by decide) (fun c15 => ?_) (fun c15 => ?_)
    · have hw := hw.1 c15
      refine x_iload_n C d_Mod_body_19 rfl ?_
      refine x_iconst (v := 5) C d_Mod_body_20 rfl ?_
      refine x_icmp_ge (tgt := 33) C d_Mod_body_21 (by decide) (fun c16 => ?_) (fun c16 => ?_)
      · have hw := hw.1 c16
        refine x_aload_n C d_Mod_body_33 rfl ?_
        refine x_iload_n C d_Mod_body_34 rfl ?_
        refine x_callV (As := [.int x1]) (rest := []) (p := 82) C (m_Mod_placeOf (xg X) C.2.2.2.2.2.2.1 x1 s _ hw) cw_Mod_placeOf ml_Mod_172 rfl (by decide) (by decide) rfl rfl rfl ⟨rfl, rfl, Nat.le_of_ble_eq_true rfl, Nat.le_of_ble_eq_true rfl⟩ ⟨Nat.zero_le _, Nat.zero_le _⟩ rfl (Nat.le_of_ble_eq_true rfl) d_Mod_body_35 ?_
        rintro _ _ ⟨x17, rfl, rfl, hw⟩
        show V X _ _ _ _ 38 [some (.ref (xa X 82)), some (.int x1), some (.int x2)] [.int x17]
        exact x_ireturn C d_Mod_body_38 ⟨_, rfl, rfl, hw⟩
      · have hw := hw.2 c16
        refine x_aload_n C d_Mod_body_24 rfl ?_
        refine x_iload_n C d_Mod_body_25 rfl ?_
        refine x_iload_n C d_Mod_body_26 rfl ?_
        refine x_callV (As := [.int x1, .int x2]) (rest := []) (p := 82) C (m_Mod_of (xg X) C.2.2.2.2.2.2.1 x1 x2 s _ hw) cw_Mod_of ml_Mod_73 rfl (by decide) (by decide) rfl rfl rfl ⟨rfl, rfl, Nat.le_of_ble_eq_true rfl, Nat.le_of_ble_eq_true rfl⟩ ⟨Nat.zero_le _, Nat.zero_le _⟩ rfl (Nat.le_of_ble_eq_true rfl) d_Mod_body_27 ?_
        rintro _ _ ⟨x19, rfl, rfl, hw⟩
        show V X _ _ _ _ 30 [some (.ref (xa X 82)), some (.int x1), some (.int x2)] [.int x19]
        refine x_goto (tgt := 38) C d_Mod_body_30 (by decide) ?_
        exact x_ireturn C d_Mod_body_38 ⟨_, rfl, rfl, hw⟩
    · have hw := hw.2 c15
      refine x_iconst (v := (-1)) C d_Mod_body_17 rfl ?_
      exact x_ireturn C d_Mod_body_18 ⟨_, rfl, rfl, hw⟩
def vc_Mod_wrongKept (x1 : Int32) (s : St) (Q : Int32 → Prop) : Prop :=
    vc_Mod_isShelf x1 (fun b10 => ((¬ (bi b10) = 0 → (vp_in x1 8 ∧ ((¬ (s 92 (Int32.toNatClampNeg x1)) = 0 → (vp_in x1 8 ∧ ((¬ (s 92 (Int32.toNatClampNeg x1)) = 2 → Q 0) ∧ ((s 92 (Int32.toNatClampNeg x1)) = 2 → Q (-12))))) ∧ ((s 92 (Int32.toNatClampNeg x1)) = 0 → Q (-11))))) ∧ ((bi b10) = 0 → Q (-1))))
def rm_Mod_wrongKept : Room := { frames := 2, cells := 0, slots := 0, locals := 42 }
set_option maxHeartbeats 4000000 in
set_option maxRecDepth 20000 in
theorem m_Mod_wrongKept (g : Gx) (hg : gOk g) (x1 : Int32)  (s : St) (Q : Int32 → Prop) (hw : vc_Mod_wrongKept x1 s Q) : Mc g y_Mod_wrongKept b_Mod_wrongKept 2 (some FieldType.int) rm_Mod_wrongKept [.ref (ga g 82), .int x1] s (fun v s' => ∃ r : Int32, v = some (.int r) ∧ s = s' ∧ Q r) := by
  refine mc_ofV (j := 0) (L := [some (.ref (ga g 82)), some (.int x1)]) hg (by decide) (Nat.le_of_ble_eq_true rfl) rfl ?_
  intro X hX C
  subst hX
  unfold vc_Mod_wrongKept at hw
  refine x_iload_n C d_Mod_wrongKept_0 rfl ?_
  refine x_callS (As := [.int x1]) (rest := []) C (m_Mod_isShelf (xg X) C.2.2.2.2.2.2.1 x1 s _ hw) cw_Mod_isShelf ml_Mod_206 rfl ⟨rfl, rfl, Nat.le_of_ble_eq_true rfl, Nat.le_of_ble_eq_true rfl⟩ ⟨Nat.zero_le _, Nat.zero_le _⟩ rfl (Nat.le_of_ble_eq_true rfl) d_Mod_wrongKept_1 ?_
  rintro _ _ ⟨b10, rfl, rfl, hw⟩
  show V X _ _ _ _ 4 [some (.ref (xa X 82)), some (.int x1)] [.int (bi b10)]
  refine x_if_ne (tgt := 11) C d_Mod_wrongKept_4 (by decide) (fun c12 => ?_) (fun c12 => ?_)
  · have hw := hw.1 c12
    refine x_aload_n C d_Mod_wrongKept_11 rfl ?_
    refine g_Mod_33 (p := 82) C rfl fl_Mod_37 d_Mod_wrongKept_12 ?_
    refine x_iload_n C d_Mod_wrongKept_15 rfl ?_
    obtain ⟨h13, hw⟩ := hw
    refine x_iald (p := 92) (n := 8) C rfl h13 d_Mod_wrongKept_16 ?_
    refine x_if_ne (tgt := 25) C d_Mod_wrongKept_17 (by decide) (fun c14 => ?_) (fun c14 => ?_)
    · have hw := hw.1 c14
      refine x_aload_n C d_Mod_wrongKept_25 rfl ?_
      refine g_Mod_33 (p := 82) C rfl fl_Mod_37 d_Mod_wrongKept_26 ?_
      refine x_iload_n C d_Mod_wrongKept_29 rfl ?_
      obtain ⟨h15, hw⟩ := hw
      refine x_iald (p := 92) (n := 8) C rfl h15 d_Mod_wrongKept_30 ?_
      refine x_iconst (v := 2) C d_Mod_wrongKept_31 rfl ?_
      refine x_icmp_ne (tgt := 40) C d_Mod_wrongKept_32 (by decide) (fun c16 => ?_) (fun c16 => ?_)
      · have hw := hw.1 c16
        refine x_iconst (v := 0) C d_Mod_wrongKept_40 rfl ?_
        exact x_ireturn C d_Mod_wrongKept_41 ⟨_, rfl, rfl, hw⟩
      · have hw := hw.2 c16
        refine x_bipush (v := (-12)) C d_Mod_wrongKept_35 rfl ?_
        refine x_goto (tgt := 41) C d_Mod_wrongKept_37 (by decide) ?_
        exact x_ireturn C d_Mod_wrongKept_41 ⟨_, rfl, rfl, hw⟩
    · have hw := hw.2 c14
      refine x_bipush (v := (-11)) C d_Mod_wrongKept_20 rfl ?_
      refine x_goto (tgt := 41) C d_Mod_wrongKept_22 (by decide) ?_
      exact x_ireturn C d_Mod_wrongKept_41 ⟨_, rfl, rfl, hw⟩
  · have hw := hw.2 c12
    refine x_iconst (v := (-1)) C d_Mod_wrongKept_7 rfl ?_
    refine x_goto (tgt := 41) C d_Mod_wrongKept_8 (by decide) ?_
    exact x_ireturn C d_Mod_wrongKept_41 ⟨_, rfl, rfl, hw⟩
def vc_Mod_lays (x1 : Int32) (x2 : Int32) (s : St) (Q : Int32 → St → Prop) : Prop :=
    vc_Mod_isShelf x1 (fun b10 => (((bi b10) = 0 → Q (-1) s) ∧ (¬ (bi b10) = 0 → vc_Mod_isIn x2 6 40 (fun b13 => ((¬ (bi b13) = 0 → vc_Mod_wrongKept x1 s (fun x16 => ((x16 = 0 → (vp_in 0 78 ∧ ((¬ (s 83 (Int32.toNatClampNeg 0)) = 12 → (vp_in x1 8 ∧ (vp_in x1 8 ∧ vc_Mod_addsYard (s 93 (Int32.toNatClampNeg x1)) (s 94 (Int32.toNatClampNeg x1)) x2 s (fun s23 => (vp_in 0 78 ∧ Q ((s23 83 (Int32.toNatClampNeg 0)) - 1) s23))))) ∧ ((s 83 (Int32.toNatClampNeg 0)) = 12 → Q (-2) s)))) ∧ (¬ x16 = 0 → Q x16 s)))) ∧ ((bi b13) = 0 → Q (-1) s))))))
def rm_Mod_lays : Room := { frames := 3, cells := 0, slots := 0, locals := 63 }
set_option maxHeartbeats 4000000 in
set_option maxRecDepth 20000 in
theorem m_Mod_lays (g : Gx) (hg : gOk g) (x1 : Int32) (x2 : Int32)  (s : St) (Q : Int32 → St → Prop) (hw : vc_Mod_lays x1 x2 s Q) : Mc g y_Mod_lays b_Mod_lays 4 (some FieldType.int) rm_Mod_lays [.ref (ga g 82), .int x1, .int x2] s (fun v s' => ∃ r : Int32, v = some (.int r) ∧ Q r s') := by
  refine mc_ofV (j := 1) (L := [some (.ref (ga g 82)), some (.int x1), some (.int x2), none]) hg (by decide) (Nat.le_of_ble_eq_true rfl) rfl ?_
  intro X hX C
  subst hX
  unfold vc_Mod_lays at hw
  refine x_iload_n C d_Mod_lays_0 rfl ?_
  refine x_callS (As := [.int x1]) (rest := []) C (m_Mod_isShelf (xg X) C.2.2.2.2.2.2.1 x1 s _ hw) cw_Mod_isShelf ml_Mod_206 rfl ⟨rfl, rfl, Nat.le_of_ble_eq_true rfl, Nat.le_of_ble_eq_true rfl⟩ ⟨Nat.zero_le _, Nat.zero_le _⟩ rfl (Nat.le_of_ble_eq_true rfl) d_Mod_lays_1 ?_
  rintro _ _ ⟨b10, rfl, rfl, hw⟩
  show V X _ _ _ _ 4 [some (.ref (xa X 82)), some (.int x1), some (.int x2), none] [.int (bi b10)]
  refine x_if_eq (tgt := 18) C d_Mod_lays_4 (by decide) (fun c12 => ?_) (fun c12 => ?_)
  · have hw := hw.1 c12
    refine x_iconst (v := (-1)) C d_Mod_lays_18 rfl ?_
    exact x_ireturn C d_Mod_lays_19 ⟨_, rfl, hw⟩
  · have hw := hw.2 c12
    refine x_iload_n C d_Mod_lays_7 rfl ?_
    refine x_bipush (v := 6) C d_Mod_lays_8 rfl ?_
    refine x_bipush (v := 40) C d_Mod_lays_10 rfl ?_
    refine x_callS (As := [.int x2, .int 6, .int 40]) (rest := []) C (m_Mod_isIn (xg X) C.2.2.2.2.2.2.1 x2 6 40 s _ hw) cw_Mod_isIn ml_Mod_55 rfl ⟨rfl, rfl, Nat.le_of_ble_eq_true rfl, Nat.le_of_ble_eq_true rfl⟩ ⟨Nat.zero_le _, Nat.zero_le _⟩ rfl (Nat.le_of_ble_eq_true rfl) d_Mod_lays_12 ?_
    rintro _ _ ⟨b13, rfl, rfl, hw⟩
    show V X _ _ _ _ 15 [some (.ref (xa X 82)), some (.int x1), some (.int x2), none] [.int (bi b13)]
    refine x_if_ne (tgt := 20) C d_Mod_lays_15 (by decide) (fun c15 => ?_) (fun c15 => ?_)
    · have hw := hw.1 c15
      refine x_aload_n C d_Mod_lays_20 rfl ?_
      refine x_iload_n C d_Mod_lays_21 rfl ?_
      refine x_callV (As := [.int x1]) (rest := []) (p := 82) C (m_Mod_wrongKept (xg X) C.2.2.2.2.2.2.1 x1 s _ hw) cw_Mod_wrongKept ml_Mod_209 rfl (by decide) (by decide) rfl rfl rfl ⟨rfl, rfl, Nat.le_of_ble_eq_true rfl, Nat.le_of_ble_eq_true rfl⟩ ⟨Nat.zero_le _, Nat.zero_le _⟩ rfl (Nat.le_of_ble_eq_true rfl) d_Mod_lays_22 ?_
      rintro _ _ ⟨x16, rfl, rfl, hw⟩
      show V X _ _ _ _ 25 [some (.ref (xa X 82)), some (.int x1), some (.int x2), none] [.int x16]
      refine x_istore_n (L' := [some (.ref (xa X 82)), some (.int x1), some (.int x2), some (.int x16)]) C d_Mod_lays_25 (Nat.le_of_ble_eq_true rfl) rfl ?_
      refine x_iload_n C d_Mod_lays_26 rfl ?_
      refine x_if_eq (tgt := 32) C d_Mod_lays_27 (by decide) (fun c18 => ?_) (fun c18 => ?_)
      · have hw := hw.1 c18
        refine x_aload_n C d_Mod_lays_32 rfl ?_
        refine g_Mod_0 (p := 82) C rfl fl_Mod_9 d_Mod_lays_33 ?_
        refine x_iconst (v := 0) C d_Mod_lays_36 rfl ?_
        obtain ⟨h19, hw⟩ := hw
        refine x_iald (p := 83) (n := 78) C rfl h19 d_Mod_lays_37 ?_
        refine x_bipush (v := 12) C d_Mod_lays_38 rfl ?_
        refine x_icmp_ne (tgt := 46) C d_Mod_lays_40 (by decide) (fun c20 => ?_) (fun c20 => ?_)
        · have hw := hw.1 c20
          refine x_aload_n C d_Mod_lays_46 rfl ?_
          refine x_aload_n C d_Mod_lays_47 rfl ?_
          refine g_Mod_34 (p := 82) C rfl fl_Mod_40 d_Mod_lays_48 ?_
          refine x_iload_n C d_Mod_lays_51 rfl ?_
          obtain ⟨h21, hw⟩ := hw
          refine x_iald (p := 93) (n := 8) C rfl h21 d_Mod_lays_52 ?_
          refine x_aload_n C d_Mod_lays_53 rfl ?_
          refine g_Mod_35 (p := 82) C rfl fl_Mod_43 d_Mod_lays_54 ?_
          refine x_iload_n C d_Mod_lays_57 rfl ?_
          obtain ⟨h22, hw⟩ := hw
          refine x_iald (p := 94) (n := 8) C rfl h22 d_Mod_lays_58 ?_
          refine x_iload_n C d_Mod_lays_59 rfl ?_
          refine x_callV (As := [.int (s 93 (Int32.toNatClampNeg x1)), .int (s 94 (Int32.toNatClampNeg x1)), .int x2]) (rest := []) (p := 82) C (m_Mod_addsYard (xg X) C.2.2.2.2.2.2.1 (s 93 (Int32.toNatClampNeg x1)) (s 94 (Int32.toNatClampNeg x1)) x2 s _ hw) cw_Mod_addsYard ml_Mod_175 rfl (by decide) (by decide) rfl rfl rfl ⟨rfl, rfl, Nat.le_of_ble_eq_true rfl, Nat.le_of_ble_eq_true rfl⟩ ⟨Nat.zero_le _, Nat.zero_le _⟩ rfl (Nat.le_of_ble_eq_true rfl) d_Mod_lays_60 ?_
          rintro _ s23 ⟨rfl, hw⟩
          show V X _ _ _ _ 63 [some (.ref (xa X 82)), some (.int x1), some (.int x2), some (.int x16)] []
          refine x_aload_n C d_Mod_lays_63 rfl ?_
          refine g_Mod_0 (p := 82) C rfl fl_Mod_9 d_Mod_lays_64 ?_
          refine x_iconst (v := 0) C d_Mod_lays_67 rfl ?_
          obtain ⟨h24, hw⟩ := hw
          refine x_iald (p := 83) (n := 78) C rfl h24 d_Mod_lays_68 ?_
          refine x_iconst (v := 1) C d_Mod_lays_69 rfl ?_
          refine x_isub C d_Mod_lays_70 ?_
          exact x_ireturn C d_Mod_lays_71 ⟨_, rfl, hw⟩
        · have hw := hw.2 c20
          refine x_bipush (v := (-2)) C d_Mod_lays_43 rfl ?_
          exact x_ireturn C d_Mod_lays_45 ⟨_, rfl, hw⟩
      · have hw := hw.2 c18
        refine x_iload_n C d_Mod_lays_30 rfl ?_
        exact x_ireturn C d_Mod_lays_31 ⟨_, rfl, hw⟩
    · have hw := hw.2 c15
      refine x_iconst (v := (-1)) C d_Mod_lays_18 rfl ?_
      exact x_ireturn C d_Mod_lays_19 ⟨_, rfl, hw⟩
def vc_Mod_shorter  (s : St) (Q : Int32 → St → Prop) : Prop :=
    (vp_in 0 78 ∧ ((¬ (s 83 (Int32.toNatClampNeg 0)) = 0 → (vp_in 0 78 ∧ (vp_in 0 78 ∧ (∀ s14 : St, s14 = wr s 83 (Int32.toNatClampNeg 0) ((s 83 (Int32.toNatClampNeg 0)) - 1) → (vp_in 0 78 ∧ Q (s14 83 (Int32.toNatClampNeg 0)) s14))))) ∧ ((s 83 (Int32.toNatClampNeg 0)) = 0 → Q (-3) s)))
def rm_Mod_shorter : Room := { frames := 0, cells := 0, slots := 0, locals := 0 }
set_option maxHeartbeats 4000000 in
set_option maxRecDepth 20000 in
theorem m_Mod_shorter (g : Gx) (hg : gOk g)   (s : St) (Q : Int32 → St → Prop) (hw : vc_Mod_shorter  s Q) : Mc g y_Mod_shorter b_Mod_shorter 1 (some FieldType.int) rm_Mod_shorter [.ref (ga g 82)] s (fun v s' => ∃ r : Int32, v = some (.int r) ∧ Q r s') := by
  refine mc_ofV (j := 0) (L := [some (.ref (ga g 82))]) hg (by decide) (Nat.le_of_ble_eq_true rfl) rfl ?_
  intro X hX C
  subst hX
  unfold vc_Mod_shorter at hw
  refine x_aload_n C d_Mod_shorter_0 rfl ?_
  refine g_Mod_0 (p := 82) C rfl fl_Mod_9 d_Mod_shorter_1 ?_
  refine x_iconst (v := 0) C d_Mod_shorter_4 rfl ?_
  obtain ⟨h10, hw⟩ := hw
  refine x_iald (p := 83) (n := 78) C rfl h10 d_Mod_shorter_5 ?_
  refine x_if_ne (tgt := 12) C d_Mod_shorter_6 (by decide) (fun c11 => ?_) (fun c11 => ?_)
  · have hw := hw.1 c11
    refine x_aload_n C d_Mod_shorter_12 rfl ?_
    refine g_Mod_0 (p := 82) C rfl fl_Mod_9 d_Mod_shorter_13 ?_
    refine x_iconst (v := 0) C d_Mod_shorter_16 rfl ?_
    refine x_dup2 C d_Mod_shorter_17 rfl rfl ?_
    obtain ⟨h12, hw⟩ := hw
    refine x_iald (p := 83) (n := 78) C rfl h12 d_Mod_shorter_18 ?_
    refine x_iconst (v := 1) C d_Mod_shorter_19 rfl ?_
    refine x_isub C d_Mod_shorter_20 ?_
    obtain ⟨h13, hw⟩ := hw
    refine x_iast (p := 83) (n := 78) C rfl h13 d_Mod_shorter_21 ?_
    refine x_st (fun s14 hs14 => ?_)
    have hw := hw s14 hs14
    refine x_aload_n C d_Mod_shorter_22 rfl ?_
    refine g_Mod_0 (p := 82) C rfl fl_Mod_9 d_Mod_shorter_23 ?_
    refine x_iconst (v := 0) C d_Mod_shorter_26 rfl ?_
    obtain ⟨h15, hw⟩ := hw
    refine x_iald (p := 83) (n := 78) C rfl h15 d_Mod_shorter_27 ?_
    exact x_ireturn C d_Mod_shorter_28 ⟨_, rfl, hw⟩
  · have hw := hw.2 c11
    refine x_bipush (v := (-3)) C d_Mod_shorter_9 rfl ?_
    exact x_ireturn C d_Mod_shorter_11 ⟨_, rfl, hw⟩
