/-! soundness -/
theorem d293_0 : decode (mC M293) 0 = .ok (.aload_n 0, 1) := by decide +kernel
theorem d293_1 : decode (mC M293) 1 = .ok (.iconst 0, 1) := by decide +kernel
theorem d293_2 : decode (mC M293) 2 = .ok (.putfield 64, 3) := by decide +kernel
theorem d293_5 : decode (mC M293) 5 = .ok (.aload_n 0, 1) := by decide +kernel
theorem d293_6 : decode (mC M293) 6 = .ok (.aload_n 0, 1) := by decide +kernel
theorem d293_7 : decode (mC M293) 7 = .ok (.iload_n 1, 1) := by decide +kernel
theorem d293_8 : decode (mC M293) 8 = .ok (.invokevirtual 271, 3) := by decide +kernel
theorem d293_11 : decode (mC M293) 11 = .ok (.iload_n 2, 1) := by decide +kernel
theorem d293_12 : decode (mC M293) 12 = .ok (.invokevirtual 283, 3) := by decide +kernel
theorem d293_15 : decode (mC M293) 15 = .ok (.istore 5, 2) := by decide +kernel
theorem d293_17 : decode (mC M293) 17 = .ok (.iload 5, 2) := by decide +kernel
theorem d293_19 : decode (mC M293) 19 = .ok (.ifCond .le 10, 3) := by decide +kernel
theorem d293_22 : decode (mC M293) 22 = .ok (.aload_n 0, 1) := by decide +kernel
theorem d293_23 : decode (mC M293) 23 = .ok (.iload 5, 2) := by decide +kernel
theorem d293_25 : decode (mC M293) 25 = .ok (.invokevirtual 70, 3) := by decide +kernel
theorem d293_28 : decode (mC M293) 28 = .ok (.ireturn, 1) := by decide +kernel
theorem d293_29 : decode (mC M293) 29 = .ok (.aload_n 0, 1) := by decide +kernel
theorem d293_30 : decode (mC M293) 30 = .ok (.getfield 13, 3) := by decide +kernel
theorem d293_33 : decode (mC M293) 33 = .ok (.iload_n 1, 1) := by decide +kernel
theorem d293_34 : decode (mC M293) 34 = .ok (.invokestatic 228, 3) := by decide +kernel
theorem d293_37 : decode (mC M293) 37 = .ok (.istore 6, 2) := by decide +kernel
theorem d293_39 : decode (mC M293) 39 = .ok (.iload_n 3, 1) := by decide +kernel
theorem d293_40 : decode (mC M293) 40 = .ok (.bipush (-40), 2) := by decide +kernel
theorem d293_42 : decode (mC M293) 42 = .ok (.bipush 40, 2) := by decide +kernel
theorem d293_44 : decode (mC M293) 44 = .ok (.invokestatic 95, 3) := by decide +kernel
theorem d293_47 : decode (mC M293) 47 = .ok (.ifCond .eq 15, 3) := by decide +kernel
theorem d293_50 : decode (mC M293) 50 = .ok (.iload 4, 2) := by decide +kernel
theorem d293_52 : decode (mC M293) 52 = .ok (.bipush (-40), 2) := by decide +kernel
theorem d293_54 : decode (mC M293) 54 = .ok (.bipush 40, 2) := by decide +kernel
theorem d293_56 : decode (mC M293) 56 = .ok (.invokestatic 95, 3) := by decide +kernel
theorem d293_59 : decode (mC M293) 59 = .ok (.ifCond .ne 9, 3) := by decide +kernel
theorem d293_62 : decode (mC M293) 62 = .ok (.aload_n 0, 1) := by decide +kernel
theorem d293_63 : decode (mC M293) 63 = .ok (.iconst 2, 1) := by decide +kernel
theorem d293_64 : decode (mC M293) 64 = .ok (.invokevirtual 70, 3) := by decide +kernel
theorem d293_67 : decode (mC M293) 67 = .ok (.ireturn, 1) := by decide +kernel
theorem d293_68 : decode (mC M293) 68 = .ok (.iload 6, 2) := by decide +kernel
theorem d293_70 : decode (mC M293) 70 = .ok (.iconst (-1), 1) := by decide +kernel
theorem d293_71 : decode (mC M293) 71 = .ok (.if_icmp .eq 37, 3) := by decide +kernel
theorem d293_74 : decode (mC M293) 74 = .ok (.iload_n 2, 1) := by decide +kernel
theorem d293_75 : decode (mC M293) 75 = .ok (.aload_n 0, 1) := by decide +kernel
theorem d293_76 : decode (mC M293) 76 = .ok (.getfield 13, 3) := by decide +kernel
theorem d293_79 : decode (mC M293) 79 = .ok (.iload 6, 2) := by decide +kernel
theorem d293_81 : decode (mC M293) 81 = .ok (.invokestatic 225, 3) := by decide +kernel
theorem d293_84 : decode (mC M293) 84 = .ok (.iconst 1, 1) := by decide +kernel
theorem d293_85 : decode (mC M293) 85 = .ok (.iadd, 1) := by decide +kernel
theorem d293_86 : decode (mC M293) 86 = .ok (.iaload, 1) := by decide +kernel
theorem d293_87 : decode (mC M293) 87 = .ok (.if_icmp .le 15, 3) := by decide +kernel
theorem d293_90 : decode (mC M293) 90 = .ok (.aload_n 0, 1) := by decide +kernel
theorem d293_91 : decode (mC M293) 91 = .ok (.iload 6, 2) := by decide +kernel
theorem d293_93 : decode (mC M293) 93 = .ok (.iload_n 3, 1) := by decide +kernel
theorem d293_94 : decode (mC M293) 94 = .ok (.iload 4, 2) := by decide +kernel
theorem d293_96 : decode (mC M293) 96 = .ok (.invokevirtual 415, 3) := by decide +kernel
theorem d293_99 : decode (mC M293) 99 = .ok (.ifCond .ne 9, 3) := by decide +kernel
theorem d293_102 : decode (mC M293) 102 = .ok (.aload_n 0, 1) := by decide +kernel
theorem d293_103 : decode (mC M293) 103 = .ok (.iconst 2, 1) := by decide +kernel
theorem d293_104 : decode (mC M293) 104 = .ok (.invokevirtual 70, 3) := by decide +kernel
theorem d293_107 : decode (mC M293) 107 = .ok (.ireturn, 1) := by decide +kernel
theorem d293_108 : decode (mC M293) 108 = .ok (.iload 6, 2) := by decide +kernel
theorem d293_110 : decode (mC M293) 110 = .ok (.iconst (-1), 1) := by decide +kernel
theorem d293_111 : decode (mC M293) 111 = .ok (.if_icmp .eq 18, 3) := by decide +kernel
theorem d293_114 : decode (mC M293) 114 = .ok (.aload_n 0, 1) := by decide +kernel
theorem d293_115 : decode (mC M293) 115 = .ok (.getfield 13, 3) := by decide +kernel
theorem d293_118 : decode (mC M293) 118 = .ok (.iload 6, 2) := by decide +kernel
theorem d293_120 : decode (mC M293) 120 = .ok (.invokestatic 225, 3) := by decide +kernel
theorem d293_123 : decode (mC M293) 123 = .ok (.iconst 2, 1) := by decide +kernel
theorem d293_124 : decode (mC M293) 124 = .ok (.iadd, 1) := by decide +kernel
theorem d293_125 : decode (mC M293) 125 = .ok (.iaload, 1) := by decide +kernel
theorem d293_126 : decode (mC M293) 126 = .ok (.ifCond .ne 9, 3) := by decide +kernel
theorem d293_129 : decode (mC M293) 129 = .ok (.aload_n 0, 1) := by decide +kernel
theorem d293_130 : decode (mC M293) 130 = .ok (.iconst 5, 1) := by decide +kernel
theorem d293_131 : decode (mC M293) 131 = .ok (.invokevirtual 70, 3) := by decide +kernel
theorem d293_134 : decode (mC M293) 134 = .ok (.ireturn, 1) := by decide +kernel
theorem d293_135 : decode (mC M293) 135 = .ok (.aload_n 0, 1) := by decide +kernel
theorem d293_136 : decode (mC M293) 136 = .ok (.getfield 13, 3) := by decide +kernel
theorem d293_139 : decode (mC M293) 139 = .ok (.iconst 4, 1) := by decide +kernel
theorem d293_140 : decode (mC M293) 140 = .ok (.iaload, 1) := by decide +kernel
theorem d293_141 : decode (mC M293) 141 = .ok (.bipush 16, 2) := by decide +kernel
theorem d293_143 : decode (mC M293) 143 = .ok (.if_icmp .ne 9, 3) := by decide +kernel
theorem d293_146 : decode (mC M293) 146 = .ok (.aload_n 0, 1) := by decide +kernel
theorem d293_147 : decode (mC M293) 147 = .ok (.iconst 3, 1) := by decide +kernel
theorem d293_148 : decode (mC M293) 148 = .ok (.invokevirtual 70, 3) := by decide +kernel
theorem d293_151 : decode (mC M293) 151 = .ok (.ireturn, 1) := by decide +kernel
theorem d293_152 : decode (mC M293) 152 = .ok (.aload_n 0, 1) := by decide +kernel
theorem d293_153 : decode (mC M293) 153 = .ok (.getfield 13, 3) := by decide +kernel
theorem d293_156 : decode (mC M293) 156 = .ok (.iconst 4, 1) := by decide +kernel
theorem d293_157 : decode (mC M293) 157 = .ok (.iaload, 1) := by decide +kernel
theorem d293_158 : decode (mC M293) 158 = .ok (.invokestatic 225, 3) := by decide +kernel
theorem d293_161 : decode (mC M293) 161 = .ok (.istore 7, 2) := by decide +kernel
theorem d293_163 : decode (mC M293) 163 = .ok (.aload_n 0, 1) := by decide +kernel
theorem d293_164 : decode (mC M293) 164 = .ok (.getfield 13, 3) := by decide +kernel
theorem d293_167 : decode (mC M293) 167 = .ok (.iload 6, 2) := by decide +kernel
theorem d293_169 : decode (mC M293) 169 = .ok (.invokestatic 225, 3) := by decide +kernel
theorem d293_172 : decode (mC M293) 172 = .ok (.iconst 2, 1) := by decide +kernel
theorem d293_173 : decode (mC M293) 173 = .ok (.iadd, 1) := by decide +kernel
theorem d293_174 : decode (mC M293) 174 = .ok (.iaload, 1) := by decide +kernel
theorem d293_175 : decode (mC M293) 175 = .ok (.istore 8, 2) := by decide +kernel
theorem d293_177 : decode (mC M293) 177 = .ok (.aload_n 0, 1) := by decide +kernel
theorem d293_178 : decode (mC M293) 178 = .ok (.getfield 13, 3) := by decide +kernel
theorem d293_181 : decode (mC M293) 181 = .ok (.iload 7, 2) := by decide +kernel
theorem d293_183 : decode (mC M293) 183 = .ok (.iload_n 1, 1) := by decide +kernel
theorem d293_184 : decode (mC M293) 184 = .ok (.iastore, 1) := by decide +kernel
theorem d293_185 : decode (mC M293) 185 = .ok (.aload_n 0, 1) := by decide +kernel
theorem d293_186 : decode (mC M293) 186 = .ok (.getfield 13, 3) := by decide +kernel
theorem d293_189 : decode (mC M293) 189 = .ok (.iload 7, 2) := by decide +kernel
theorem d293_191 : decode (mC M293) 191 = .ok (.iconst 1, 1) := by decide +kernel
theorem d293_192 : decode (mC M293) 192 = .ok (.iadd, 1) := by decide +kernel
theorem d293_193 : decode (mC M293) 193 = .ok (.iload_n 2, 1) := by decide +kernel
theorem d293_194 : decode (mC M293) 194 = .ok (.iastore, 1) := by decide +kernel
theorem d293_195 : decode (mC M293) 195 = .ok (.aload_n 0, 1) := by decide +kernel
theorem d293_196 : decode (mC M293) 196 = .ok (.getfield 13, 3) := by decide +kernel
theorem d293_199 : decode (mC M293) 199 = .ok (.iload 7, 2) := by decide +kernel
theorem d293_201 : decode (mC M293) 201 = .ok (.iconst 2, 1) := by decide +kernel
theorem d293_202 : decode (mC M293) 202 = .ok (.iadd, 1) := by decide +kernel
theorem d293_203 : decode (mC M293) 203 = .ok (.iload 8, 2) := by decide +kernel
theorem d293_205 : decode (mC M293) 205 = .ok (.iastore, 1) := by decide +kernel
theorem d293_206 : decode (mC M293) 206 = .ok (.iconst 0, 1) := by decide +kernel
theorem d293_207 : decode (mC M293) 207 = .ok (.istore 9, 2) := by decide +kernel
theorem d293_209 : decode (mC M293) 209 = .ok (.iload 9, 2) := by decide +kernel
theorem d293_211 : decode (mC M293) 211 = .ok (.iload 8, 2) := by decide +kernel
theorem d293_213 : decode (mC M293) 213 = .ok (.if_icmp .ge 58, 3) := by decide +kernel
theorem d293_216 : decode (mC M293) 216 = .ok (.aload_n 0, 1) := by decide +kernel
theorem d293_217 : decode (mC M293) 217 = .ok (.getfield 13, 3) := by decide +kernel
theorem d293_220 : decode (mC M293) 220 = .ok (.iload 7, 2) := by decide +kernel
theorem d293_222 : decode (mC M293) 222 = .ok (.iconst 3, 1) := by decide +kernel
theorem d293_223 : decode (mC M293) 223 = .ok (.iadd, 1) := by decide +kernel
theorem d293_224 : decode (mC M293) 224 = .ok (.iconst 2, 1) := by decide +kernel
theorem d293_225 : decode (mC M293) 225 = .ok (.iload 9, 2) := by decide +kernel
theorem d293_227 : decode (mC M293) 227 = .ok (.imul, 1) := by decide +kernel
theorem d293_228 : decode (mC M293) 228 = .ok (.iadd, 1) := by decide +kernel
theorem d293_229 : decode (mC M293) 229 = .ok (.aload_n 0, 1) := by decide +kernel
theorem d293_230 : decode (mC M293) 230 = .ok (.iload 6, 2) := by decide +kernel
theorem d293_232 : decode (mC M293) 232 = .ok (.iload 9, 2) := by decide +kernel
theorem d293_234 : decode (mC M293) 234 = .ok (.invokevirtual 294, 3) := by decide +kernel
theorem d293_237 : decode (mC M293) 237 = .ok (.iload_n 3, 1) := by decide +kernel
theorem d293_238 : decode (mC M293) 238 = .ok (.iadd, 1) := by decide +kernel
theorem d293_239 : decode (mC M293) 239 = .ok (.iastore, 1) := by decide +kernel
theorem d293_240 : decode (mC M293) 240 = .ok (.aload_n 0, 1) := by decide +kernel
theorem d293_241 : decode (mC M293) 241 = .ok (.getfield 13, 3) := by decide +kernel
theorem d293_244 : decode (mC M293) 244 = .ok (.iload 7, 2) := by decide +kernel
theorem d293_246 : decode (mC M293) 246 = .ok (.iconst 4, 1) := by decide +kernel
theorem d293_247 : decode (mC M293) 247 = .ok (.iadd, 1) := by decide +kernel
theorem d293_248 : decode (mC M293) 248 = .ok (.iconst 2, 1) := by decide +kernel
theorem d293_249 : decode (mC M293) 249 = .ok (.iload 9, 2) := by decide +kernel
theorem d293_251 : decode (mC M293) 251 = .ok (.imul, 1) := by decide +kernel
theorem d293_252 : decode (mC M293) 252 = .ok (.iadd, 1) := by decide +kernel
theorem d293_253 : decode (mC M293) 253 = .ok (.aload_n 0, 1) := by decide +kernel
theorem d293_254 : decode (mC M293) 254 = .ok (.iload 6, 2) := by decide +kernel
theorem d293_256 : decode (mC M293) 256 = .ok (.iload 9, 2) := by decide +kernel
theorem d293_258 : decode (mC M293) 258 = .ok (.invokevirtual 297, 3) := by decide +kernel
theorem d293_261 : decode (mC M293) 261 = .ok (.iload 4, 2) := by decide +kernel
theorem d293_263 : decode (mC M293) 263 = .ok (.iadd, 1) := by decide +kernel
theorem d293_264 : decode (mC M293) 264 = .ok (.iastore, 1) := by decide +kernel
theorem d293_265 : decode (mC M293) 265 = .ok (.iinc 9 1, 3) := by decide +kernel
theorem d293_268 : decode (mC M293) 268 = .ok (.goto (-59), 3) := by decide +kernel
theorem d293_271 : decode (mC M293) 271 = .ok (.aload_n 0, 1) := by decide +kernel
theorem d293_272 : decode (mC M293) 272 = .ok (.getfield 13, 3) := by decide +kernel
theorem d293_275 : decode (mC M293) 275 = .ok (.iconst 4, 1) := by decide +kernel
theorem d293_276 : decode (mC M293) 276 = .ok (.dup2, 1) := by decide +kernel
theorem d293_277 : decode (mC M293) 277 = .ok (.iaload, 1) := by decide +kernel
theorem d293_278 : decode (mC M293) 278 = .ok (.iconst 1, 1) := by decide +kernel
theorem d293_279 : decode (mC M293) 279 = .ok (.iadd, 1) := by decide +kernel
theorem d293_280 : decode (mC M293) 280 = .ok (.iastore, 1) := by decide +kernel
theorem d293_281 : decode (mC M293) 281 = .ok (.aload_n 0, 1) := by decide +kernel
theorem d293_282 : decode (mC M293) 282 = .ok (.iconst 2, 1) := by decide +kernel
theorem d293_283 : decode (mC M293) 283 = .ok (.iconst 0, 1) := by decide +kernel
theorem d293_284 : decode (mC M293) 284 = .ok (.iconst 0, 1) := by decide +kernel
theorem d293_285 : decode (mC M293) 285 = .ok (.invokevirtual 408, 3) := by decide +kernel
theorem d293_288 : decode (mC M293) 288 = .ok (.aload_n 0, 1) := by decide +kernel
theorem d293_289 : decode (mC M293) 289 = .ok (.aload_n 0, 1) := by decide +kernel
theorem d293_290 : decode (mC M293) 290 = .ok (.iload_n 1, 1) := by decide +kernel
theorem d293_291 : decode (mC M293) 291 = .ok (.invokevirtual 274, 3) := by decide +kernel
theorem d293_294 : decode (mC M293) 294 = .ok (.invokevirtual 264, 3) := by decide +kernel
theorem d293_297 : decode (mC M293) 297 = .ok (.ireturn, 1) := by decide +kernel
theorem sc293_0 : ∀ q ∈ tc293_0, Snd xtb M293 q.1 q.2 := List.forall_mem_cons.mpr ⟨snd_aload_n d293_0 rfl, List.forall_mem_cons.mpr ⟨snd_iconst d293_1 (by decide +kernel), List.forall_mem_cons.mpr ⟨snd_putI (by decide) (by decide) rfl rfl wd1367 d293_2, List.forall_mem_cons.mpr ⟨snd_aload_n d293_5 rfl, List.forall_mem_cons.mpr ⟨snd_aload_n d293_6 rfl, List.forall_mem_cons.mpr ⟨snd_iload_n d293_7 rfl, List.forall_mem_cons.mpr ⟨snd_callV (by decide) rfl cn214 ⟨by decide +kernel, by decide +kernel⟩ cm214 (List.forall_mem_cons.mpr ⟨wd1650, cw214⟩) d293_8, List.forall_mem_cons.mpr ⟨snd_iload_n d293_11 rfl, List.forall_mem_cons.mpr ⟨snd_callV (by decide) rfl cn224 ⟨by decide +kernel, by decide +kernel⟩ cm224 (List.forall_mem_cons.mpr ⟨wd1662, cw224⟩) d293_12, List.forall_mem_cons.mpr ⟨snd_istore d293_15, List.forall_mem_cons.mpr ⟨snd_iload d293_17, List.forall_mem_cons.mpr ⟨snd_if_le d293_19 (by decide), List.forall_mem_cons.mpr ⟨snd_aload_n d293_22 rfl, List.forall_mem_cons.mpr ⟨snd_iload d293_23, List.forall_mem_cons.mpr ⟨snd_callV (by decide) rfl cn172 ⟨by decide +kernel, by decide +kernel⟩ cm172 (List.forall_mem_cons.mpr ⟨wd1476, cw172⟩) d293_25, List.forall_mem_cons.mpr ⟨snd_iret rfl d293_28, List.forall_mem_cons.mpr ⟨snd_aload_n d293_29 rfl, List.forall_mem_cons.mpr ⟨snd_getR (by decide) (by decide) rfl wd1370 d293_30, List.forall_mem_cons.mpr ⟨snd_iload_n d293_33 rfl, List.forall_mem_cons.mpr ⟨snd_callS cn200 ⟨by decide +kernel, by decide +kernel⟩ cm200 (List.forall_mem_cons.mpr ⟨wd1594, cw200⟩) d293_34, List.forall_mem_cons.mpr ⟨snd_istore d293_37, List.forall_mem_cons.mpr ⟨snd_iload_n d293_39 rfl, List.forall_mem_cons.mpr ⟨snd_bipush d293_40 (by decide +kernel), List.forall_mem_cons.mpr ⟨snd_bipush d293_42 (by decide +kernel), List.forall_mem_cons.mpr ⟨snd_callS cn175 ⟨by decide +kernel, by decide +kernel⟩ cm175 (List.forall_mem_cons.mpr ⟨wd1492, cw175⟩) d293_44, List.forall_mem_cons.mpr ⟨snd_if_eq d293_47 (by decide), List.forall_mem_cons.mpr ⟨snd_iload d293_50, List.forall_mem_cons.mpr ⟨snd_bipush d293_52 (by decide +kernel), List.forall_mem_cons.mpr ⟨snd_bipush d293_54 (by decide +kernel), List.forall_mem_cons.mpr ⟨snd_callS cn175 ⟨by decide +kernel, by decide +kernel⟩ cm175 (List.forall_mem_cons.mpr ⟨wd1492, cw175⟩) d293_56, fun _ h => by cases h⟩⟩⟩⟩⟩⟩⟩⟩⟩⟩⟩⟩⟩⟩⟩⟩⟩⟩⟩⟩⟩⟩⟩⟩⟩⟩⟩⟩⟩⟩
theorem sc293_1 : ∀ q ∈ tc293_1, Snd xtb M293 q.1 q.2 := List.forall_mem_cons.mpr ⟨snd_if_ne d293_59 (by decide), List.forall_mem_cons.mpr ⟨snd_aload_n d293_62 rfl, List.forall_mem_cons.mpr ⟨snd_iconst d293_63 (by decide +kernel), List.forall_mem_cons.mpr ⟨snd_callV (by decide) rfl cn172 ⟨by decide +kernel, by decide +kernel⟩ cm172 (List.forall_mem_cons.mpr ⟨wd1476, cw172⟩) d293_64, List.forall_mem_cons.mpr ⟨snd_iret rfl d293_67, List.forall_mem_cons.mpr ⟨snd_iload d293_68, List.forall_mem_cons.mpr ⟨snd_iconst d293_70 (by decide +kernel), List.forall_mem_cons.mpr ⟨snd_cmp_eq d293_71 (by decide), List.forall_mem_cons.mpr ⟨snd_iload_n d293_74 rfl, List.forall_mem_cons.mpr ⟨snd_aload_n d293_75 rfl, List.forall_mem_cons.mpr ⟨snd_getR (by decide) (by decide) rfl wd1370 d293_76, List.forall_mem_cons.mpr ⟨snd_iload d293_79, List.forall_mem_cons.mpr ⟨snd_callS cn199 ⟨by decide +kernel, by decide +kernel⟩ cm199 (List.forall_mem_cons.mpr ⟨wd1597, cw199⟩) d293_81, List.forall_mem_cons.mpr ⟨snd_iconst d293_84 (by decide +kernel), List.forall_mem_cons.mpr ⟨snd_iadd d293_85, List.forall_mem_cons.mpr ⟨snd_iald d293_86, List.forall_mem_cons.mpr ⟨snd_cmp_le d293_87 (by decide), List.forall_mem_cons.mpr ⟨snd_aload_n d293_90 rfl, List.forall_mem_cons.mpr ⟨snd_iload d293_91, List.forall_mem_cons.mpr ⟨snd_iload_n d293_93 rfl, List.forall_mem_cons.mpr ⟨snd_iload d293_94, List.forall_mem_cons.mpr ⟨snd_callV (by decide) rfl cn292 ⟨by decide +kernel, by decide +kernel⟩ cm292 (List.forall_mem_cons.mpr ⟨wd1957, cw292⟩) d293_96, List.forall_mem_cons.mpr ⟨snd_if_ne d293_99 (by decide), List.forall_mem_cons.mpr ⟨snd_aload_n d293_102 rfl, List.forall_mem_cons.mpr ⟨snd_iconst d293_103 (by decide +kernel), List.forall_mem_cons.mpr ⟨snd_callV (by decide) rfl cn172 ⟨by decide +kernel, by decide +kernel⟩ cm172 (List.forall_mem_cons.mpr ⟨wd1476, cw172⟩) d293_104, List.forall_mem_cons.mpr ⟨snd_iret rfl d293_107, List.forall_mem_cons.mpr ⟨snd_iload d293_108, List.forall_mem_cons.mpr ⟨snd_iconst d293_110 (by decide +kernel), List.forall_mem_cons.mpr ⟨snd_cmp_eq d293_111 (by decide), fun _ h => by cases h⟩⟩⟩⟩⟩⟩⟩⟩⟩⟩⟩⟩⟩⟩⟩⟩⟩⟩⟩⟩⟩⟩⟩⟩⟩⟩⟩⟩⟩⟩
theorem sc293_2 : ∀ q ∈ tc293_2, Snd xtb M293 q.1 q.2 := List.forall_mem_cons.mpr ⟨snd_aload_n d293_114 rfl, List.forall_mem_cons.mpr ⟨snd_getR (by decide) (by decide) rfl wd1370 d293_115, List.forall_mem_cons.mpr ⟨snd_iload d293_118, List.forall_mem_cons.mpr ⟨snd_callS cn199 ⟨by decide +kernel, by decide +kernel⟩ cm199 (List.forall_mem_cons.mpr ⟨wd1597, cw199⟩) d293_120, List.forall_mem_cons.mpr ⟨snd_iconst d293_123 (by decide +kernel), List.forall_mem_cons.mpr ⟨snd_iadd d293_124, List.forall_mem_cons.mpr ⟨snd_iald d293_125, List.forall_mem_cons.mpr ⟨snd_if_ne d293_126 (by decide), List.forall_mem_cons.mpr ⟨snd_aload_n d293_129 rfl, List.forall_mem_cons.mpr ⟨snd_iconst d293_130 (by decide +kernel), List.forall_mem_cons.mpr ⟨snd_callV (by decide) rfl cn172 ⟨by decide +kernel, by decide +kernel⟩ cm172 (List.forall_mem_cons.mpr ⟨wd1476, cw172⟩) d293_131, List.forall_mem_cons.mpr ⟨snd_iret rfl d293_134, List.forall_mem_cons.mpr ⟨snd_aload_n d293_135 rfl, List.forall_mem_cons.mpr ⟨snd_getR (by decide) (by decide) rfl wd1370 d293_136, List.forall_mem_cons.mpr ⟨snd_iconst d293_139 (by decide +kernel), List.forall_mem_cons.mpr ⟨snd_iald d293_140, List.forall_mem_cons.mpr ⟨snd_bipush d293_141 (by decide +kernel), List.forall_mem_cons.mpr ⟨snd_cmp_ne d293_143 (by decide), List.forall_mem_cons.mpr ⟨snd_aload_n d293_146 rfl, List.forall_mem_cons.mpr ⟨snd_iconst d293_147 (by decide +kernel), List.forall_mem_cons.mpr ⟨snd_callV (by decide) rfl cn172 ⟨by decide +kernel, by decide +kernel⟩ cm172 (List.forall_mem_cons.mpr ⟨wd1476, cw172⟩) d293_148, List.forall_mem_cons.mpr ⟨snd_iret rfl d293_151, List.forall_mem_cons.mpr ⟨snd_aload_n d293_152 rfl, List.forall_mem_cons.mpr ⟨snd_getR (by decide) (by decide) rfl wd1370 d293_153, List.forall_mem_cons.mpr ⟨snd_iconst d293_156 (by decide +kernel), List.forall_mem_cons.mpr ⟨snd_iald d293_157, List.forall_mem_cons.mpr ⟨snd_callS cn199 ⟨by decide +kernel, by decide +kernel⟩ cm199 (List.forall_mem_cons.mpr ⟨wd1597, cw199⟩) d293_158, List.forall_mem_cons.mpr ⟨snd_istore d293_161, List.forall_mem_cons.mpr ⟨snd_aload_n d293_163 rfl, List.forall_mem_cons.mpr ⟨snd_getR (by decide) (by decide) rfl wd1370 d293_164, fun _ h => by cases h⟩⟩⟩⟩⟩⟩⟩⟩⟩⟩⟩⟩⟩⟩⟩⟩⟩⟩⟩⟩⟩⟩⟩⟩⟩⟩⟩⟩⟩⟩
theorem sc293_3 : ∀ q ∈ tc293_3, Snd xtb M293 q.1 q.2 := List.forall_mem_cons.mpr ⟨snd_iload d293_167, List.forall_mem_cons.mpr ⟨snd_callS cn199 ⟨by decide +kernel, by decide +kernel⟩ cm199 (List.forall_mem_cons.mpr ⟨wd1597, cw199⟩) d293_169, List.forall_mem_cons.mpr ⟨snd_iconst d293_172 (by decide +kernel), List.forall_mem_cons.mpr ⟨snd_iadd d293_173, List.forall_mem_cons.mpr ⟨snd_iald d293_174, List.forall_mem_cons.mpr ⟨snd_istore d293_175, List.forall_mem_cons.mpr ⟨snd_aload_n d293_177 rfl, List.forall_mem_cons.mpr ⟨snd_getR (by decide) (by decide) rfl wd1370 d293_178, List.forall_mem_cons.mpr ⟨snd_iload d293_181, List.forall_mem_cons.mpr ⟨snd_iload_n d293_183 rfl, List.forall_mem_cons.mpr ⟨snd_iast d293_184, List.forall_mem_cons.mpr ⟨snd_aload_n d293_185 rfl, List.forall_mem_cons.mpr ⟨snd_getR (by decide) (by decide) rfl wd1370 d293_186, List.forall_mem_cons.mpr ⟨snd_iload d293_189, List.forall_mem_cons.mpr ⟨snd_iconst d293_191 (by decide +kernel), List.forall_mem_cons.mpr ⟨snd_iadd d293_192, List.forall_mem_cons.mpr ⟨snd_iload_n d293_193 rfl, List.forall_mem_cons.mpr ⟨snd_iast d293_194, List.forall_mem_cons.mpr ⟨snd_aload_n d293_195 rfl, List.forall_mem_cons.mpr ⟨snd_getR (by decide) (by decide) rfl wd1370 d293_196, List.forall_mem_cons.mpr ⟨snd_iload d293_199, List.forall_mem_cons.mpr ⟨snd_iconst d293_201 (by decide +kernel), List.forall_mem_cons.mpr ⟨snd_iadd d293_202, List.forall_mem_cons.mpr ⟨snd_iload d293_203, List.forall_mem_cons.mpr ⟨snd_iast d293_205, List.forall_mem_cons.mpr ⟨snd_iconst d293_206 (by decide +kernel), List.forall_mem_cons.mpr ⟨snd_istore d293_207, List.forall_mem_cons.mpr ⟨snd_iload d293_209, List.forall_mem_cons.mpr ⟨snd_iload d293_211, List.forall_mem_cons.mpr ⟨snd_cmp_ge d293_213 (by decide), fun _ h => by cases h⟩⟩⟩⟩⟩⟩⟩⟩⟩⟩⟩⟩⟩⟩⟩⟩⟩⟩⟩⟩⟩⟩⟩⟩⟩⟩⟩⟩⟩⟩
theorem sc293_4 : ∀ q ∈ tc293_4, Snd xtb M293 q.1 q.2 := List.forall_mem_cons.mpr ⟨snd_aload_n d293_216 rfl, List.forall_mem_cons.mpr ⟨snd_getR (by decide) (by decide) rfl wd1370 d293_217, List.forall_mem_cons.mpr ⟨snd_iload d293_220, List.forall_mem_cons.mpr ⟨snd_iconst d293_222 (by decide +kernel), List.forall_mem_cons.mpr ⟨snd_iadd d293_223, List.forall_mem_cons.mpr ⟨snd_iconst d293_224 (by decide +kernel), List.forall_mem_cons.mpr ⟨snd_iload d293_225, List.forall_mem_cons.mpr ⟨snd_imul d293_227, List.forall_mem_cons.mpr ⟨snd_iadd d293_228, List.forall_mem_cons.mpr ⟨snd_aload_n d293_229 rfl, List.forall_mem_cons.mpr ⟨snd_iload d293_230, List.forall_mem_cons.mpr ⟨snd_iload d293_232, List.forall_mem_cons.mpr ⟨snd_callV (by decide) rfl cn220 ⟨by decide +kernel, by decide +kernel⟩ cm220 (List.forall_mem_cons.mpr ⟨wd1681, cw220⟩) d293_234, List.forall_mem_cons.mpr ⟨snd_iload_n d293_237 rfl, List.forall_mem_cons.mpr ⟨snd_iadd d293_238, List.forall_mem_cons.mpr ⟨snd_iast d293_239, List.forall_mem_cons.mpr ⟨snd_aload_n d293_240 rfl, List.forall_mem_cons.mpr ⟨snd_getR (by decide) (by decide) rfl wd1370 d293_241, List.forall_mem_cons.mpr ⟨snd_iload d293_244, List.forall_mem_cons.mpr ⟨snd_iconst d293_246 (by decide +kernel), List.forall_mem_cons.mpr ⟨snd_iadd d293_247, List.forall_mem_cons.mpr ⟨snd_iconst d293_248 (by decide +kernel), List.forall_mem_cons.mpr ⟨snd_iload d293_249, List.forall_mem_cons.mpr ⟨snd_imul d293_251, List.forall_mem_cons.mpr ⟨snd_iadd d293_252, List.forall_mem_cons.mpr ⟨snd_aload_n d293_253 rfl, List.forall_mem_cons.mpr ⟨snd_iload d293_254, List.forall_mem_cons.mpr ⟨snd_iload d293_256, List.forall_mem_cons.mpr ⟨snd_callV (by decide) rfl cn221 ⟨by decide +kernel, by decide +kernel⟩ cm221 (List.forall_mem_cons.mpr ⟨wd1685, cw221⟩) d293_258, List.forall_mem_cons.mpr ⟨snd_iload d293_261, fun _ h => by cases h⟩⟩⟩⟩⟩⟩⟩⟩⟩⟩⟩⟩⟩⟩⟩⟩⟩⟩⟩⟩⟩⟩⟩⟩⟩⟩⟩⟩⟩⟩
theorem sc293_5 : ∀ q ∈ tc293_5, Snd xtb M293 q.1 q.2 := List.forall_mem_cons.mpr ⟨snd_iadd d293_263, List.forall_mem_cons.mpr ⟨snd_iast d293_264, List.forall_mem_cons.mpr ⟨snd_iinc d293_265 (by decide +kernel), List.forall_mem_cons.mpr ⟨snd_goto d293_268 (by decide), List.forall_mem_cons.mpr ⟨snd_aload_n d293_271 rfl, List.forall_mem_cons.mpr ⟨snd_getR (by decide) (by decide) rfl wd1370 d293_272, List.forall_mem_cons.mpr ⟨snd_iconst d293_275 (by decide +kernel), List.forall_mem_cons.mpr ⟨snd_dup2 d293_276, List.forall_mem_cons.mpr ⟨snd_iald d293_277, List.forall_mem_cons.mpr ⟨snd_iconst d293_278 (by decide +kernel), List.forall_mem_cons.mpr ⟨snd_iadd d293_279, List.forall_mem_cons.mpr ⟨snd_iast d293_280, List.forall_mem_cons.mpr ⟨snd_aload_n d293_281 rfl, List.forall_mem_cons.mpr ⟨snd_iconst d293_282 (by decide +kernel), List.forall_mem_cons.mpr ⟨snd_iconst d293_283 (by decide +kernel), List.forall_mem_cons.mpr ⟨snd_iconst d293_284 (by decide +kernel), List.forall_mem_cons.mpr ⟨snd_callV (by decide) rfl cn289 ⟨by decide +kernel, by decide +kernel⟩ cm289 (List.forall_mem_cons.mpr ⟨wd1929, cw289⟩) d293_285, List.forall_mem_cons.mpr ⟨snd_aload_n d293_288 rfl, List.forall_mem_cons.mpr ⟨snd_aload_n d293_289 rfl, List.forall_mem_cons.mpr ⟨snd_iload_n d293_290 rfl, List.forall_mem_cons.mpr ⟨snd_callV (by decide) rfl cn217 ⟨by decide +kernel, by decide +kernel⟩ cm217 (List.forall_mem_cons.mpr ⟨wd1654, cw217⟩) d293_291, List.forall_mem_cons.mpr ⟨snd_callV (by decide) rfl cn174 ⟨by decide +kernel, by decide +kernel⟩ cm174 (List.forall_mem_cons.mpr ⟨wd1622, cw174⟩) d293_294, List.forall_mem_cons.mpr ⟨snd_iret rfl d293_297, fun _ h => by cases h⟩⟩⟩⟩⟩⟩⟩⟩⟩⟩⟩⟩⟩⟩⟩⟩⟩⟩⟩⟩⟩⟩⟩
theorem d294_0 : decode (mC M294) 0 = .ok (.aload_n 0, 1) := by decide +kernel
theorem d294_1 : decode (mC M294) 1 = .ok (.iconst 0, 1) := by decide +kernel
theorem d294_2 : decode (mC M294) 2 = .ok (.putfield 64, 3) := by decide +kernel
theorem d294_5 : decode (mC M294) 5 = .ok (.aload_n 0, 1) := by decide +kernel
theorem d294_6 : decode (mC M294) 6 = .ok (.aload_n 0, 1) := by decide +kernel
theorem d294_7 : decode (mC M294) 7 = .ok (.iload_n 1, 1) := by decide +kernel
theorem d294_8 : decode (mC M294) 8 = .ok (.invokevirtual 271, 3) := by decide +kernel
theorem d294_11 : decode (mC M294) 11 = .ok (.ifCond .eq 15, 3) := by decide +kernel
theorem d294_14 : decode (mC M294) 14 = .ok (.aload_n 0, 1) := by decide +kernel
theorem d294_15 : decode (mC M294) 15 = .ok (.iload_n 2, 1) := by decide +kernel
theorem d294_16 : decode (mC M294) 16 = .ok (.invokevirtual 267, 3) := by decide +kernel
theorem d294_19 : decode (mC M294) 19 = .ok (.ifCond .eq 7, 3) := by decide +kernel
theorem d294_22 : decode (mC M294) 22 = .ok (.iconst 1, 1) := by decide +kernel
theorem d294_23 : decode (mC M294) 23 = .ok (.goto 4, 3) := by decide +kernel
theorem d294_26 : decode (mC M294) 26 = .ok (.iconst 0, 1) := by decide +kernel
theorem d294_27 : decode (mC M294) 27 = .ok (.iload_n 3, 1) := by decide +kernel
theorem d294_28 : decode (mC M294) 28 = .ok (.invokevirtual 283, 3) := by decide +kernel
theorem d294_31 : decode (mC M294) 31 = .ok (.istore 5, 2) := by decide +kernel
theorem d294_33 : decode (mC M294) 33 = .ok (.iload 5, 2) := by decide +kernel
theorem d294_35 : decode (mC M294) 35 = .ok (.ifCond .le 10, 3) := by decide +kernel
theorem d294_38 : decode (mC M294) 38 = .ok (.aload_n 0, 1) := by decide +kernel
theorem d294_39 : decode (mC M294) 39 = .ok (.iload 5, 2) := by decide +kernel
theorem d294_41 : decode (mC M294) 41 = .ok (.invokevirtual 70, 3) := by decide +kernel
theorem d294_44 : decode (mC M294) 44 = .ok (.ireturn, 1) := by decide +kernel
theorem d294_45 : decode (mC M294) 45 = .ok (.aload_n 0, 1) := by decide +kernel
theorem d294_46 : decode (mC M294) 46 = .ok (.getfield 13, 3) := by decide +kernel
theorem d294_49 : decode (mC M294) 49 = .ok (.iload_n 1, 1) := by decide +kernel
theorem d294_50 : decode (mC M294) 50 = .ok (.iload_n 2, 1) := by decide +kernel
theorem d294_51 : decode (mC M294) 51 = .ok (.invokestatic 232, 3) := by decide +kernel
theorem d294_54 : decode (mC M294) 54 = .ok (.istore 6, 2) := by decide +kernel
theorem d294_56 : decode (mC M294) 56 = .ok (.iload 4, 2) := by decide +kernel
theorem d294_58 : decode (mC M294) 58 = .ok (.iconst 0, 1) := by decide +kernel
theorem d294_59 : decode (mC M294) 59 = .ok (.sipush 2500, 3) := by decide +kernel
theorem d294_62 : decode (mC M294) 62 = .ok (.invokestatic 95, 3) := by decide +kernel
theorem d294_65 : decode (mC M294) 65 = .ok (.ifCond .eq 28, 3) := by decide +kernel
theorem d294_68 : decode (mC M294) 68 = .ok (.iload 6, 2) := by decide +kernel
theorem d294_70 : decode (mC M294) 70 = .ok (.iconst (-1), 1) := by decide +kernel
theorem d294_71 : decode (mC M294) 71 = .ok (.if_icmp .eq 28, 3) := by decide +kernel
theorem d294_74 : decode (mC M294) 74 = .ok (.iload_n 3, 1) := by decide +kernel
theorem d294_75 : decode (mC M294) 75 = .ok (.aload_n 0, 1) := by decide +kernel
theorem d294_76 : decode (mC M294) 76 = .ok (.getfield 13, 3) := by decide +kernel
theorem d294_79 : decode (mC M294) 79 = .ok (.sipush 274, 3) := by decide +kernel
theorem d294_82 : decode (mC M294) 82 = .ok (.iconst 4, 1) := by decide +kernel
theorem d294_83 : decode (mC M294) 83 = .ok (.iload 6, 2) := by decide +kernel
theorem d294_85 : decode (mC M294) 85 = .ok (.imul, 1) := by decide +kernel
theorem d294_86 : decode (mC M294) 86 = .ok (.iadd, 1) := by decide +kernel
theorem d294_87 : decode (mC M294) 87 = .ok (.iconst 2, 1) := by decide +kernel
theorem d294_88 : decode (mC M294) 88 = .ok (.iadd, 1) := by decide +kernel
theorem d294_89 : decode (mC M294) 89 = .ok (.iaload, 1) := by decide +kernel
theorem d294_90 : decode (mC M294) 90 = .ok (.if_icmp .gt 9, 3) := by decide +kernel
theorem d294_93 : decode (mC M294) 93 = .ok (.aload_n 0, 1) := by decide +kernel
theorem d294_94 : decode (mC M294) 94 = .ok (.iconst 2, 1) := by decide +kernel
theorem d294_95 : decode (mC M294) 95 = .ok (.invokevirtual 70, 3) := by decide +kernel
theorem d294_98 : decode (mC M294) 98 = .ok (.ireturn, 1) := by decide +kernel
theorem d294_99 : decode (mC M294) 99 = .ok (.aload_n 0, 1) := by decide +kernel
theorem d294_100 : decode (mC M294) 100 = .ok (.getfield 13, 3) := by decide +kernel
theorem d294_103 : decode (mC M294) 103 = .ok (.iconst 5, 1) := by decide +kernel
theorem d294_104 : decode (mC M294) 104 = .ok (.iaload, 1) := by decide +kernel
theorem d294_105 : decode (mC M294) 105 = .ok (.bipush 20, 2) := by decide +kernel
theorem d294_107 : decode (mC M294) 107 = .ok (.if_icmp .ne 9, 3) := by decide +kernel
theorem d294_110 : decode (mC M294) 110 = .ok (.aload_n 0, 1) := by decide +kernel
theorem d294_111 : decode (mC M294) 111 = .ok (.iconst 3, 1) := by decide +kernel
theorem d294_112 : decode (mC M294) 112 = .ok (.invokevirtual 70, 3) := by decide +kernel
theorem d294_115 : decode (mC M294) 115 = .ok (.ireturn, 1) := by decide +kernel
theorem d294_116 : decode (mC M294) 116 = .ok (.aload_n 0, 1) := by decide +kernel
theorem d294_117 : decode (mC M294) 117 = .ok (.getfield 13, 3) := by decide +kernel
theorem d294_120 : decode (mC M294) 120 = .ok (.iload_n 1, 1) := by decide +kernel
theorem d294_121 : decode (mC M294) 121 = .ok (.iload_n 2, 1) := by decide +kernel
theorem d294_122 : decode (mC M294) 122 = .ok (.iload_n 3, 1) := by decide +kernel
theorem d294_123 : decode (mC M294) 123 = .ok (.iload 4, 2) := by decide +kernel
theorem d294_125 : decode (mC M294) 125 = .ok (.invokestatic 236, 3) := by decide +kernel
theorem d294_128 : decode (mC M294) 128 = .ok (.aload_n 0, 1) := by decide +kernel
theorem d294_129 : decode (mC M294) 129 = .ok (.iconst 3, 1) := by decide +kernel
theorem d294_130 : decode (mC M294) 130 = .ok (.iconst 0, 1) := by decide +kernel
theorem d294_131 : decode (mC M294) 131 = .ok (.iconst 0, 1) := by decide +kernel
theorem d294_132 : decode (mC M294) 132 = .ok (.invokevirtual 408, 3) := by decide +kernel
theorem d294_135 : decode (mC M294) 135 = .ok (.aload_n 0, 1) := by decide +kernel
theorem d294_136 : decode (mC M294) 136 = .ok (.aload_n 0, 1) := by decide +kernel
theorem d294_137 : decode (mC M294) 137 = .ok (.getfield 13, 3) := by decide +kernel
theorem d294_140 : decode (mC M294) 140 = .ok (.iconst 5, 1) := by decide +kernel
theorem d294_141 : decode (mC M294) 141 = .ok (.iaload, 1) := by decide +kernel
theorem d294_142 : decode (mC M294) 142 = .ok (.invokevirtual 264, 3) := by decide +kernel
theorem d294_145 : decode (mC M294) 145 = .ok (.ireturn, 1) := by decide +kernel
theorem sc294_0 : ∀ q ∈ tc294_0, Snd xtb M294 q.1 q.2 := List.forall_mem_cons.mpr ⟨snd_aload_n d294_0 rfl, List.forall_mem_cons.mpr ⟨snd_iconst d294_1 (by decide +kernel), List.forall_mem_cons.mpr ⟨snd_putI (by decide) (by decide) rfl rfl wd1367 d294_2, List.forall_mem_cons.mpr ⟨snd_aload_n d294_5 rfl, List.forall_mem_cons.mpr ⟨snd_aload_n d294_6 rfl, List.forall_mem_cons.mpr ⟨snd_iload_n d294_7 rfl, List.forall_mem_cons.mpr ⟨snd_callV (by decide) rfl cn214 ⟨by decide +kernel, by decide +kernel⟩ cm214 (List.forall_mem_cons.mpr ⟨wd1650, cw214⟩) d294_8, List.forall_mem_cons.mpr ⟨snd_if_eq d294_11 (by decide), List.forall_mem_cons.mpr ⟨snd_aload_n d294_14 rfl, List.forall_mem_cons.mpr ⟨snd_iload_n d294_15 rfl, List.forall_mem_cons.mpr ⟨snd_callV (by decide) rfl cn213 ⟨by decide +kernel, by decide +kernel⟩ cm213 (List.forall_mem_cons.mpr ⟨wd1642, cw213⟩) d294_16, List.forall_mem_cons.mpr ⟨snd_if_eq d294_19 (by decide), List.forall_mem_cons.mpr ⟨snd_iconst d294_22 (by decide +kernel), List.forall_mem_cons.mpr ⟨snd_goto d294_23 (by decide), List.forall_mem_cons.mpr ⟨snd_iconst d294_26 (by decide +kernel), List.forall_mem_cons.mpr ⟨snd_iload_n d294_27 rfl, List.forall_mem_cons.mpr ⟨snd_callV (by decide) rfl cn224 ⟨by decide +kernel, by decide +kernel⟩ cm224 (List.forall_mem_cons.mpr ⟨wd1662, cw224⟩) d294_28, List.forall_mem_cons.mpr ⟨snd_istore d294_31, List.forall_mem_cons.mpr ⟨snd_iload d294_33, List.forall_mem_cons.mpr ⟨snd_if_le d294_35 (by decide), List.forall_mem_cons.mpr ⟨snd_aload_n d294_38 rfl, List.forall_mem_cons.mpr ⟨snd_iload d294_39, List.forall_mem_cons.mpr ⟨snd_callV (by decide) rfl cn172 ⟨by decide +kernel, by decide +kernel⟩ cm172 (List.forall_mem_cons.mpr ⟨wd1476, cw172⟩) d294_41, List.forall_mem_cons.mpr ⟨snd_iret rfl d294_44, List.forall_mem_cons.mpr ⟨snd_aload_n d294_45 rfl, List.forall_mem_cons.mpr ⟨snd_getR (by decide) (by decide) rfl wd1370 d294_46, List.forall_mem_cons.mpr ⟨snd_iload_n d294_49 rfl, List.forall_mem_cons.mpr ⟨snd_iload_n d294_50 rfl, List.forall_mem_cons.mpr ⟨snd_callS cn202 ⟨by decide +kernel, by decide +kernel⟩ cm202 (List.forall_mem_cons.mpr ⟨wd1604, cw202⟩) d294_51, List.forall_mem_cons.mpr ⟨snd_istore d294_54, fun _ h => by cases h⟩⟩⟩⟩⟩⟩⟩⟩⟩⟩⟩⟩⟩⟩⟩⟩⟩⟩⟩⟩⟩⟩⟩⟩⟩⟩⟩⟩⟩⟩
theorem sc294_1 : ∀ q ∈ tc294_1, Snd xtb M294 q.1 q.2 := List.forall_mem_cons.mpr ⟨snd_iload d294_56, List.forall_mem_cons.mpr ⟨snd_iconst d294_58 (by decide +kernel), List.forall_mem_cons.mpr ⟨snd_sipush d294_59 (by decide +kernel), List.forall_mem_cons.mpr ⟨snd_callS cn175 ⟨by decide +kernel, by decide +kernel⟩ cm175 (List.forall_mem_cons.mpr ⟨wd1492, cw175⟩) d294_62, List.forall_mem_cons.mpr ⟨snd_if_eq d294_65 (by decide), List.forall_mem_cons.mpr ⟨snd_iload d294_68, List.forall_mem_cons.mpr ⟨snd_iconst d294_70 (by decide +kernel), List.forall_mem_cons.mpr ⟨snd_cmp_eq d294_71 (by decide), List.forall_mem_cons.mpr ⟨snd_iload_n d294_74 rfl, List.forall_mem_cons.mpr ⟨snd_aload_n d294_75 rfl, List.forall_mem_cons.mpr ⟨snd_getR (by decide) (by decide) rfl wd1370 d294_76, List.forall_mem_cons.mpr ⟨snd_sipush d294_79 (by decide +kernel), List.forall_mem_cons.mpr ⟨snd_iconst d294_82 (by decide +kernel), List.forall_mem_cons.mpr ⟨snd_iload d294_83, List.forall_mem_cons.mpr ⟨snd_imul d294_85, List.forall_mem_cons.mpr ⟨snd_iadd d294_86, List.forall_mem_cons.mpr ⟨snd_iconst d294_87 (by decide +kernel), List.forall_mem_cons.mpr ⟨snd_iadd d294_88, List.forall_mem_cons.mpr ⟨snd_iald d294_89, List.forall_mem_cons.mpr ⟨snd_cmp_gt d294_90 (by decide), List.forall_mem_cons.mpr ⟨snd_aload_n d294_93 rfl, List.forall_mem_cons.mpr ⟨snd_iconst d294_94 (by decide +kernel), List.forall_mem_cons.mpr ⟨snd_callV (by decide) rfl cn172 ⟨by decide +kernel, by decide +kernel⟩ cm172 (List.forall_mem_cons.mpr ⟨wd1476, cw172⟩) d294_95, List.forall_mem_cons.mpr ⟨snd_iret rfl d294_98, List.forall_mem_cons.mpr ⟨snd_aload_n d294_99 rfl, List.forall_mem_cons.mpr ⟨snd_getR (by decide) (by decide) rfl wd1370 d294_100, List.forall_mem_cons.mpr ⟨snd_iconst d294_103 (by decide +kernel), List.forall_mem_cons.mpr ⟨snd_iald d294_104, List.forall_mem_cons.mpr ⟨snd_bipush d294_105 (by decide +kernel), List.forall_mem_cons.mpr ⟨snd_cmp_ne d294_107 (by decide), fun _ h => by cases h⟩⟩⟩⟩⟩⟩⟩⟩⟩⟩⟩⟩⟩⟩⟩⟩⟩⟩⟩⟩⟩⟩⟩⟩⟩⟩⟩⟩⟩⟩
theorem sc294_2 : ∀ q ∈ tc294_2, Snd xtb M294 q.1 q.2 := List.forall_mem_cons.mpr ⟨snd_aload_n d294_110 rfl, List.forall_mem_cons.mpr ⟨snd_iconst d294_111 (by decide +kernel), List.forall_mem_cons.mpr ⟨snd_callV (by decide) rfl cn172 ⟨by decide +kernel, by decide +kernel⟩ cm172 (List.forall_mem_cons.mpr ⟨wd1476, cw172⟩) d294_112, List.forall_mem_cons.mpr ⟨snd_iret rfl d294_115, List.forall_mem_cons.mpr ⟨snd_aload_n d294_116 rfl, List.forall_mem_cons.mpr ⟨snd_getR (by decide) (by decide) rfl wd1370 d294_117, List.forall_mem_cons.mpr ⟨snd_iload_n d294_120 rfl, List.forall_mem_cons.mpr ⟨snd_iload_n d294_121 rfl, List.forall_mem_cons.mpr ⟨snd_iload_n d294_122 rfl, List.forall_mem_cons.mpr ⟨snd_iload d294_123, List.forall_mem_cons.mpr ⟨snd_callS cn204 ⟨by decide +kernel, by decide +kernel⟩ cm204 (List.forall_mem_cons.mpr ⟨wd1607, cw204⟩) d294_125, List.forall_mem_cons.mpr ⟨snd_aload_n d294_128 rfl, List.forall_mem_cons.mpr ⟨snd_iconst d294_129 (by decide +kernel), List.forall_mem_cons.mpr ⟨snd_iconst d294_130 (by decide +kernel), List.forall_mem_cons.mpr ⟨snd_iconst d294_131 (by decide +kernel), List.forall_mem_cons.mpr ⟨snd_callV (by decide) rfl cn289 ⟨by decide +kernel, by decide +kernel⟩ cm289 (List.forall_mem_cons.mpr ⟨wd1929, cw289⟩) d294_132, List.forall_mem_cons.mpr ⟨snd_aload_n d294_135 rfl, List.forall_mem_cons.mpr ⟨snd_aload_n d294_136 rfl, List.forall_mem_cons.mpr ⟨snd_getR (by decide) (by decide) rfl wd1370 d294_137, List.forall_mem_cons.mpr ⟨snd_iconst d294_140 (by decide +kernel), List.forall_mem_cons.mpr ⟨snd_iald d294_141, List.forall_mem_cons.mpr ⟨snd_callV (by decide) rfl cn174 ⟨by decide +kernel, by decide +kernel⟩ cm174 (List.forall_mem_cons.mpr ⟨wd1622, cw174⟩) d294_142, List.forall_mem_cons.mpr ⟨snd_iret rfl d294_145, fun _ h => by cases h⟩⟩⟩⟩⟩⟩⟩⟩⟩⟩⟩⟩⟩⟩⟩⟩⟩⟩⟩⟩⟩⟩⟩
theorem d295_0 : decode (mC M295) 0 = .ok (.aload_n 0, 1) := by decide +kernel
theorem d295_1 : decode (mC M295) 1 = .ok (.iconst 0, 1) := by decide +kernel
theorem d295_2 : decode (mC M295) 2 = .ok (.putfield 64, 3) := by decide +kernel
theorem d295_5 : decode (mC M295) 5 = .ok (.aload_n 0, 1) := by decide +kernel
theorem d295_6 : decode (mC M295) 6 = .ok (.getfield 251, 3) := by decide +kernel
theorem d295_9 : decode (mC M295) 9 = .ok (.ifCond .eq 10, 3) := by decide +kernel
theorem d295_12 : decode (mC M295) 12 = .ok (.aload_n 0, 1) := by decide +kernel
theorem d295_13 : decode (mC M295) 13 = .ok (.getfield 258, 3) := by decide +kernel
theorem d295_16 : decode (mC M295) 16 = .ok (.ifCond .ne 11, 3) := by decide +kernel
theorem d295_19 : decode (mC M295) 19 = .ok (.aload_n 0, 1) := by decide +kernel
theorem d295_20 : decode (mC M295) 20 = .ok (.iconst 1, 1) := by decide +kernel
theorem d295_21 : decode (mC M295) 21 = .ok (.invokevirtual 70, 3) := by decide +kernel
theorem d295_24 : decode (mC M295) 24 = .ok (.pop, 1) := by decide +kernel
theorem d295_25 : decode (mC M295) 25 = .ok (.iconst 0, 1) := by decide +kernel
theorem d295_26 : decode (mC M295) 26 = .ok (.ireturn, 1) := by decide +kernel
theorem d295_27 : decode (mC M295) 27 = .ok (.aload_n 0, 1) := by decide +kernel
theorem d295_28 : decode (mC M295) 28 = .ok (.dup, 1) := by decide +kernel
theorem d295_29 : decode (mC M295) 29 = .ok (.getfield 258, 3) := by decide +kernel
theorem d295_32 : decode (mC M295) 32 = .ok (.iconst 1, 1) := by decide +kernel
theorem d295_33 : decode (mC M295) 33 = .ok (.isub, 1) := by decide +kernel
theorem d295_34 : decode (mC M295) 34 = .ok (.putfield 258, 3) := by decide +kernel
theorem d295_37 : decode (mC M295) 37 = .ok (.aload_n 0, 1) := by decide +kernel
theorem d295_38 : decode (mC M295) 38 = .ok (.getfield 55, 3) := by decide +kernel
theorem d295_41 : decode (mC M295) 41 = .ok (.aload_n 0, 1) := by decide +kernel
theorem d295_42 : decode (mC M295) 42 = .ok (.getfield 258, 3) := by decide +kernel
theorem d295_45 : decode (mC M295) 45 = .ok (.iaload, 1) := by decide +kernel
theorem d295_46 : decode (mC M295) 46 = .ok (.tableswitch 102 0 4 #[34, 47, 82, 102, 95], 34) := by decide +kernel
theorem d295_80 : decode (mC M295) 80 = .ok (.aload_n 0, 1) := by decide +kernel
theorem d295_81 : decode (mC M295) 81 = .ok (.dup, 1) := by decide +kernel
theorem d295_82 : decode (mC M295) 82 = .ok (.getfield 255, 3) := by decide +kernel
theorem d295_85 : decode (mC M295) 85 = .ok (.iconst 1, 1) := by decide +kernel
theorem d295_86 : decode (mC M295) 86 = .ok (.isub, 1) := by decide +kernel
theorem d295_87 : decode (mC M295) 87 = .ok (.putfield 255, 3) := by decide +kernel
theorem d295_90 : decode (mC M295) 90 = .ok (.goto 68, 3) := by decide +kernel
theorem d295_93 : decode (mC M295) 93 = .ok (.aload_n 0, 1) := by decide +kernel
theorem d295_94 : decode (mC M295) 94 = .ok (.getfield 37, 3) := by decide +kernel
theorem d295_97 : decode (mC M295) 97 = .ok (.bipush 25, 2) := by decide +kernel
theorem d295_99 : decode (mC M295) 99 = .ok (.aload_n 0, 1) := by decide +kernel
theorem d295_100 : decode (mC M295) 100 = .ok (.getfield 58, 3) := by decide +kernel
theorem d295_103 : decode (mC M295) 103 = .ok (.aload_n 0, 1) := by decide +kernel
theorem d295_104 : decode (mC M295) 104 = .ok (.getfield 258, 3) := by decide +kernel
theorem d295_107 : decode (mC M295) 107 = .ok (.iaload, 1) := by decide +kernel
theorem d295_108 : decode (mC M295) 108 = .ok (.imul, 1) := by decide +kernel
theorem d295_109 : decode (mC M295) 109 = .ok (.bipush 6, 2) := by decide +kernel
theorem d295_111 : decode (mC M295) 111 = .ok (.iadd, 1) := by decide +kernel
theorem d295_112 : decode (mC M295) 112 = .ok (.dup2, 1) := by decide +kernel
theorem d295_113 : decode (mC M295) 113 = .ok (.iaload, 1) := by decide +kernel
theorem d295_114 : decode (mC M295) 114 = .ok (.aload_n 0, 1) := by decide +kernel
theorem d295_115 : decode (mC M295) 115 = .ok (.getfield 61, 3) := by decide +kernel
theorem d295_118 : decode (mC M295) 118 = .ok (.aload_n 0, 1) := by decide +kernel
theorem d295_119 : decode (mC M295) 119 = .ok (.getfield 258, 3) := by decide +kernel
theorem d295_122 : decode (mC M295) 122 = .ok (.iaload, 1) := by decide +kernel
theorem d295_123 : decode (mC M295) 123 = .ok (.iadd, 1) := by decide +kernel
theorem d295_124 : decode (mC M295) 124 = .ok (.iastore, 1) := by decide +kernel
theorem d295_125 : decode (mC M295) 125 = .ok (.goto 33, 3) := by decide +kernel
theorem d295_128 : decode (mC M295) 128 = .ok (.aload_n 0, 1) := by decide +kernel
theorem d295_129 : decode (mC M295) 129 = .ok (.getfield 13, 3) := by decide +kernel
theorem d295_132 : decode (mC M295) 132 = .ok (.iconst 4, 1) := by decide +kernel
theorem d295_133 : decode (mC M295) 133 = .ok (.dup2, 1) := by decide +kernel
theorem d295_134 : decode (mC M295) 134 = .ok (.iaload, 1) := by decide +kernel
theorem d295_135 : decode (mC M295) 135 = .ok (.iconst 1, 1) := by decide +kernel
theorem d295_136 : decode (mC M295) 136 = .ok (.isub, 1) := by decide +kernel
theorem d295_137 : decode (mC M295) 137 = .ok (.iastore, 1) := by decide +kernel
theorem d295_138 : decode (mC M295) 138 = .ok (.goto 20, 3) := by decide +kernel
theorem d295_141 : decode (mC M295) 141 = .ok (.aload_n 0, 1) := by decide +kernel
theorem d295_142 : decode (mC M295) 142 = .ok (.invokevirtual 418, 3) := by decide +kernel
theorem d295_145 : decode (mC M295) 145 = .ok (.goto 13, 3) := by decide +kernel
theorem d295_148 : decode (mC M295) 148 = .ok (.aload_n 0, 1) := by decide +kernel
theorem d295_149 : decode (mC M295) 149 = .ok (.getfield 13, 3) := by decide +kernel
theorem d295_152 : decode (mC M295) 152 = .ok (.iconst 5, 1) := by decide +kernel
theorem d295_153 : decode (mC M295) 153 = .ok (.dup2, 1) := by decide +kernel
theorem d295_154 : decode (mC M295) 154 = .ok (.iaload, 1) := by decide +kernel
theorem d295_155 : decode (mC M295) 155 = .ok (.iconst 1, 1) := by decide +kernel
theorem d295_156 : decode (mC M295) 156 = .ok (.isub, 1) := by decide +kernel
theorem d295_157 : decode (mC M295) 157 = .ok (.iastore, 1) := by decide +kernel
theorem d295_158 : decode (mC M295) 158 = .ok (.aload_n 0, 1) := by decide +kernel
theorem d295_159 : decode (mC M295) 159 = .ok (.iconst 0, 1) := by decide +kernel
theorem d295_160 : decode (mC M295) 160 = .ok (.invokevirtual 264, 3) := by decide +kernel
theorem d295_163 : decode (mC M295) 163 = .ok (.pop, 1) := by decide +kernel
theorem d295_164 : decode (mC M295) 164 = .ok (.iconst 1, 1) := by decide +kernel
theorem d295_165 : decode (mC M295) 165 = .ok (.ireturn, 1) := by decide +kernel
theorem sc295_0 : ∀ q ∈ tc295_0, Snd xtb M295 q.1 q.2 := List.forall_mem_cons.mpr ⟨snd_aload_n d295_0 rfl, List.forall_mem_cons.mpr ⟨snd_iconst d295_1 (by decide +kernel), List.forall_mem_cons.mpr ⟨snd_putI (by decide) (by decide) rfl rfl wd1367 d295_2, List.forall_mem_cons.mpr ⟨snd_aload_n d295_5 rfl, List.forall_mem_cons.mpr ⟨snd_getI (by decide) (by decide) rfl wd1374 d295_6, List.forall_mem_cons.mpr ⟨snd_if_eq d295_9 (by decide), List.forall_mem_cons.mpr ⟨snd_aload_n d295_12 rfl, List.forall_mem_cons.mpr ⟨snd_getI (by decide) (by decide) rfl wd1398 d295_13, List.forall_mem_cons.mpr ⟨snd_if_ne d295_16 (by decide), List.forall_mem_cons.mpr ⟨snd_aload_n d295_19 rfl, List.forall_mem_cons.mpr ⟨snd_iconst d295_20 (by decide +kernel), List.forall_mem_cons.mpr ⟨snd_callV (by decide) rfl cn172 ⟨by decide +kernel, by decide +kernel⟩ cm172 (List.forall_mem_cons.mpr ⟨wd1476, cw172⟩) d295_21, List.forall_mem_cons.mpr ⟨snd_pop d295_24, List.forall_mem_cons.mpr ⟨snd_iconst d295_25 (by decide +kernel), List.forall_mem_cons.mpr ⟨snd_zret rfl d295_26, List.forall_mem_cons.mpr ⟨snd_aload_n d295_27 rfl, List.forall_mem_cons.mpr ⟨snd_dup d295_28, List.forall_mem_cons.mpr ⟨snd_getI (by decide) (by decide) rfl wd1398 d295_29, List.forall_mem_cons.mpr ⟨snd_iconst d295_32 (by decide +kernel), List.forall_mem_cons.mpr ⟨snd_isub d295_33, List.forall_mem_cons.mpr ⟨snd_putI (by decide) (by decide) rfl rfl wd1398 d295_34, List.forall_mem_cons.mpr ⟨snd_aload_n d295_37 rfl, List.forall_mem_cons.mpr ⟨snd_getR (by decide) (by decide) rfl wd1395 d295_38, List.forall_mem_cons.mpr ⟨snd_aload_n d295_41 rfl, List.forall_mem_cons.mpr ⟨snd_getI (by decide) (by decide) rfl wd1398 d295_42, List.forall_mem_cons.mpr ⟨snd_iald d295_45, List.forall_mem_cons.mpr ⟨snd_tsw d295_46 (by decide +kernel), List.forall_mem_cons.mpr ⟨snd_aload_n d295_80 rfl, List.forall_mem_cons.mpr ⟨snd_dup d295_81, List.forall_mem_cons.mpr ⟨snd_getI (by decide) (by decide) rfl wd1387 d295_82, fun _ h => by cases h⟩⟩⟩⟩⟩⟩⟩⟩⟩⟩⟩⟩⟩⟩⟩⟩⟩⟩⟩⟩⟩⟩⟩⟩⟩⟩⟩⟩⟩⟩
theorem sc295_1 : ∀ q ∈ tc295_1, Snd xtb M295 q.1 q.2 := List.forall_mem_cons.mpr ⟨snd_iconst d295_85 (by decide +kernel), List.forall_mem_cons.mpr ⟨snd_isub d295_86, List.forall_mem_cons.mpr ⟨snd_putI (by decide) (by decide) rfl rfl wd1387 d295_87, List.forall_mem_cons.mpr ⟨snd_goto d295_90 (by decide), List.forall_mem_cons.mpr ⟨snd_aload_n d295_93 rfl, List.forall_mem_cons.mpr ⟨snd_getR (by decide) (by decide) rfl wd1386 d295_94, List.forall_mem_cons.mpr ⟨snd_bipush d295_97 (by decide +kernel), List.forall_mem_cons.mpr ⟨snd_aload_n d295_99 rfl, List.forall_mem_cons.mpr ⟨snd_getR (by decide) (by decide) rfl wd1396 d295_100, List.forall_mem_cons.mpr ⟨snd_aload_n d295_103 rfl, List.forall_mem_cons.mpr ⟨snd_getI (by decide) (by decide) rfl wd1398 d295_104, List.forall_mem_cons.mpr ⟨snd_iald d295_107, List.forall_mem_cons.mpr ⟨snd_imul d295_108, List.forall_mem_cons.mpr ⟨snd_bipush d295_109 (by decide +kernel), List.forall_mem_cons.mpr ⟨snd_iadd d295_111, List.forall_mem_cons.mpr ⟨snd_dup2 d295_112, List.forall_mem_cons.mpr ⟨snd_iald d295_113, List.forall_mem_cons.mpr ⟨snd_aload_n d295_114 rfl, List.forall_mem_cons.mpr ⟨snd_getR (by decide) (by decide) rfl wd1397 d295_115, List.forall_mem_cons.mpr ⟨snd_aload_n d295_118 rfl, List.forall_mem_cons.mpr ⟨snd_getI (by decide) (by decide) rfl wd1398 d295_119, List.forall_mem_cons.mpr ⟨snd_iald d295_122, List.forall_mem_cons.mpr ⟨snd_iadd d295_123, List.forall_mem_cons.mpr ⟨snd_iast d295_124, List.forall_mem_cons.mpr ⟨snd_goto d295_125 (by decide), List.forall_mem_cons.mpr ⟨snd_aload_n d295_128 rfl, List.forall_mem_cons.mpr ⟨snd_getR (by decide) (by decide) rfl wd1370 d295_129, List.forall_mem_cons.mpr ⟨snd_iconst d295_132 (by decide +kernel), List.forall_mem_cons.mpr ⟨snd_dup2 d295_133, List.forall_mem_cons.mpr ⟨snd_iald d295_134, fun _ h => by cases h⟩⟩⟩⟩⟩⟩⟩⟩⟩⟩⟩⟩⟩⟩⟩⟩⟩⟩⟩⟩⟩⟩⟩⟩⟩⟩⟩⟩⟩⟩
theorem sc295_2 : ∀ q ∈ tc295_2, Snd xtb M295 q.1 q.2 := List.forall_mem_cons.mpr ⟨snd_iconst d295_135 (by decide +kernel), List.forall_mem_cons.mpr ⟨snd_isub d295_136, List.forall_mem_cons.mpr ⟨snd_iast d295_137, List.forall_mem_cons.mpr ⟨snd_goto d295_138 (by decide), List.forall_mem_cons.mpr ⟨snd_aload_n d295_141 rfl, List.forall_mem_cons.mpr ⟨snd_callV (by decide) rfl cn285 ⟨by decide +kernel, by decide +kernel⟩ cm285 (List.forall_mem_cons.mpr ⟨wd1969, cw285⟩) d295_142, List.forall_mem_cons.mpr ⟨snd_goto d295_145 (by decide), List.forall_mem_cons.mpr ⟨snd_aload_n d295_148 rfl, List.forall_mem_cons.mpr ⟨snd_getR (by decide) (by decide) rfl wd1370 d295_149, List.forall_mem_cons.mpr ⟨snd_iconst d295_152 (by decide +kernel), List.forall_mem_cons.mpr ⟨snd_dup2 d295_153, List.forall_mem_cons.mpr ⟨snd_iald d295_154, List.forall_mem_cons.mpr ⟨snd_iconst d295_155 (by decide +kernel), List.forall_mem_cons.mpr ⟨snd_isub d295_156, List.forall_mem_cons.mpr ⟨snd_iast d295_157, List.forall_mem_cons.mpr ⟨snd_aload_n d295_158 rfl, List.forall_mem_cons.mpr ⟨snd_iconst d295_159 (by decide +kernel), List.forall_mem_cons.mpr ⟨snd_callV (by decide) rfl cn174 ⟨by decide +kernel, by decide +kernel⟩ cm174 (List.forall_mem_cons.mpr ⟨wd1622, cw174⟩) d295_160, List.forall_mem_cons.mpr ⟨snd_pop d295_163, List.forall_mem_cons.mpr ⟨snd_iconst d295_164 (by decide +kernel), List.forall_mem_cons.mpr ⟨snd_zret rfl d295_165, fun _ h => by cases h⟩⟩⟩⟩⟩⟩⟩⟩⟩⟩⟩⟩⟩⟩⟩⟩⟩⟩⟩⟩⟩
theorem d296_0 : decode (mC M296) 0 = .ok (.iconst 0, 1) := by decide +kernel
theorem d296_1 : decode (mC M296) 1 = .ok (.istore_n 2, 1) := by decide +kernel
theorem d296_2 : decode (mC M296) 2 = .ok (.iload_n 2, 1) := by decide +kernel
theorem d296_3 : decode (mC M296) 3 = .ok (.aload_n 0, 1) := by decide +kernel
theorem d296_4 : decode (mC M296) 4 = .ok (.getfield 255, 3) := by decide +kernel
theorem d296_7 : decode (mC M296) 7 = .ok (.if_icmp .ge 41, 3) := by decide +kernel
theorem d296_10 : decode (mC M296) 10 = .ok (.iconst 0, 1) := by decide +kernel
theorem d296_11 : decode (mC M296) 11 = .ok (.istore_n 3, 1) := by decide +kernel
theorem d296_12 : decode (mC M296) 12 = .ok (.iload_n 3, 1) := by decide +kernel
theorem d296_13 : decode (mC M296) 13 = .ok (.aload_n 0, 1) := by decide +kernel
theorem d296_14 : decode (mC M296) 14 = .ok (.iload_n 2, 1) := by decide +kernel
theorem d296_15 : decode (mC M296) 15 = .ok (.bipush 7, 2) := by decide +kernel
theorem d296_17 : decode (mC M296) 17 = .ok (.invokevirtual 363, 3) := by decide +kernel
theorem d296_20 : decode (mC M296) 20 = .ok (.if_icmp .ge 22, 3) := by decide +kernel
theorem d296_23 : decode (mC M296) 23 = .ok (.aload_n 0, 1) := by decide +kernel
theorem d296_24 : decode (mC M296) 24 = .ok (.iload_n 2, 1) := by decide +kernel
theorem d296_25 : decode (mC M296) 25 = .ok (.iload_n 3, 1) := by decide +kernel
theorem d296_26 : decode (mC M296) 26 = .ok (.iconst 0, 1) := by decide +kernel
theorem d296_27 : decode (mC M296) 27 = .ok (.invokevirtual 366, 3) := by decide +kernel
theorem d296_30 : decode (mC M296) 30 = .ok (.iload_n 1, 1) := by decide +kernel
theorem d296_31 : decode (mC M296) 31 = .ok (.if_icmp .ne 5, 3) := by decide +kernel
theorem d296_34 : decode (mC M296) 34 = .ok (.iconst 1, 1) := by decide +kernel
theorem d296_35 : decode (mC M296) 35 = .ok (.ireturn, 1) := by decide +kernel
theorem d296_36 : decode (mC M296) 36 = .ok (.iinc 3 1, 3) := by decide +kernel
theorem d296_39 : decode (mC M296) 39 = .ok (.goto (-27), 3) := by decide +kernel
theorem d296_42 : decode (mC M296) 42 = .ok (.iinc 2 1, 3) := by decide +kernel
theorem d296_45 : decode (mC M296) 45 = .ok (.goto (-43), 3) := by decide +kernel
theorem d296_48 : decode (mC M296) 48 = .ok (.iconst 0, 1) := by decide +kernel
theorem d296_49 : decode (mC M296) 49 = .ok (.ireturn, 1) := by decide +kernel
theorem sc296_0 : ∀ q ∈ tc296_0, Snd xtb M296 q.1 q.2 := List.forall_mem_cons.mpr ⟨snd_iconst d296_0 (by decide +kernel), List.forall_mem_cons.mpr ⟨snd_istore_n d296_1 rfl, List.forall_mem_cons.mpr ⟨snd_iload_n d296_2 rfl, List.forall_mem_cons.mpr ⟨snd_aload_n d296_3 rfl, List.forall_mem_cons.mpr ⟨snd_getI (by decide) (by decide) rfl wd1387 d296_4, List.forall_mem_cons.mpr ⟨snd_cmp_ge d296_7 (by decide), List.forall_mem_cons.mpr ⟨snd_iconst d296_10 (by decide +kernel), List.forall_mem_cons.mpr ⟨snd_istore_n d296_11 rfl, List.forall_mem_cons.mpr ⟨snd_iload_n d296_12 rfl, List.forall_mem_cons.mpr ⟨snd_aload_n d296_13 rfl, List.forall_mem_cons.mpr ⟨snd_iload_n d296_14 rfl, List.forall_mem_cons.mpr ⟨snd_bipush d296_15 (by decide +kernel), List.forall_mem_cons.mpr ⟨snd_callV (by decide) rfl cn262 ⟨by decide +kernel, by decide +kernel⟩ cm262 (List.forall_mem_cons.mpr ⟨wd1845, cw262⟩) d296_17, List.forall_mem_cons.mpr ⟨snd_cmp_ge d296_20 (by decide), List.forall_mem_cons.mpr ⟨snd_aload_n d296_23 rfl, List.forall_mem_cons.mpr ⟨snd_iload_n d296_24 rfl, List.forall_mem_cons.mpr ⟨snd_iload_n d296_25 rfl, List.forall_mem_cons.mpr ⟨snd_iconst d296_26 (by decide +kernel), List.forall_mem_cons.mpr ⟨snd_callV (by decide) rfl cn263 ⟨by decide +kernel, by decide +kernel⟩ cm263 (List.forall_mem_cons.mpr ⟨wd1857, cw263⟩) d296_27, List.forall_mem_cons.mpr ⟨snd_iload_n d296_30 rfl, List.forall_mem_cons.mpr ⟨snd_cmp_ne d296_31 (by decide), List.forall_mem_cons.mpr ⟨snd_iconst d296_34 (by decide +kernel), List.forall_mem_cons.mpr ⟨snd_zret rfl d296_35, List.forall_mem_cons.mpr ⟨snd_iinc d296_36 (by decide +kernel), List.forall_mem_cons.mpr ⟨snd_goto d296_39 (by decide), List.forall_mem_cons.mpr ⟨snd_iinc d296_42 (by decide +kernel), List.forall_mem_cons.mpr ⟨snd_goto d296_45 (by decide), List.forall_mem_cons.mpr ⟨snd_iconst d296_48 (by decide +kernel), List.forall_mem_cons.mpr ⟨snd_zret rfl d296_49, fun _ h => by cases h⟩⟩⟩⟩⟩⟩⟩⟩⟩⟩⟩⟩⟩⟩⟩⟩⟩⟩⟩⟩⟩⟩⟩⟩⟩⟩⟩⟩⟩
theorem d297_0 : decode (mC M297) 0 = .ok (.aload_n 0, 1) := by decide +kernel
theorem d297_1 : decode (mC M297) 1 = .ok (.iconst 0, 1) := by decide +kernel
theorem d297_2 : decode (mC M297) 2 = .ok (.putfield 64, 3) := by decide +kernel
theorem d297_5 : decode (mC M297) 5 = .ok (.iconst 0, 1) := by decide +kernel
theorem d297_6 : decode (mC M297) 6 = .ok (.istore_n 2, 1) := by decide +kernel
theorem d297_7 : decode (mC M297) 7 = .ok (.iconst 0, 1) := by decide +kernel
theorem d297_8 : decode (mC M297) 8 = .ok (.istore_n 3, 1) := by decide +kernel
theorem d297_9 : decode (mC M297) 9 = .ok (.aload_n 0, 1) := by decide +kernel
theorem d297_10 : decode (mC M297) 10 = .ok (.getfield 251, 3) := by decide +kernel
theorem d297_13 : decode (mC M297) 13 = .ok (.ifCond .eq 40, 3) := by decide +kernel
theorem d297_16 : decode (mC M297) 16 = .ok (.iload_n 3, 1) := by decide +kernel
theorem d297_17 : decode (mC M297) 17 = .ok (.aload_n 0, 1) := by decide +kernel
theorem d297_18 : decode (mC M297) 18 = .ok (.getfield 13, 3) := by decide +kernel
theorem d297_21 : decode (mC M297) 21 = .ok (.iconst 3, 1) := by decide +kernel
theorem d297_22 : decode (mC M297) 22 = .ok (.iaload, 1) := by decide +kernel
theorem d297_23 : decode (mC M297) 23 = .ok (.if_icmp .ge 30, 3) := by decide +kernel
theorem d297_26 : decode (mC M297) 26 = .ok (.aload_n 0, 1) := by decide +kernel
theorem d297_27 : decode (mC M297) 27 = .ok (.iload_n 3, 1) := by decide +kernel
theorem d297_28 : decode (mC M297) 28 = .ok (.invokevirtual 421, 3) := by decide +kernel
theorem d297_31 : decode (mC M297) 31 = .ok (.ifCond .eq 6, 3) := by decide +kernel
theorem d297_34 : decode (mC M297) 34 = .ok (.goto 13, 3) := by decide +kernel
theorem d297_37 : decode (mC M297) 37 = .ok (.iload_n 2, 1) := by decide +kernel
theorem d297_38 : decode (mC M297) 38 = .ok (.iload_n 1, 1) := by decide +kernel
theorem d297_39 : decode (mC M297) 39 = .ok (.if_icmp .ne 5, 3) := by decide +kernel
theorem d297_42 : decode (mC M297) 42 = .ok (.iload_n 3, 1) := by decide +kernel
theorem d297_43 : decode (mC M297) 43 = .ok (.ireturn, 1) := by decide +kernel
theorem d297_44 : decode (mC M297) 44 = .ok (.iinc 2 1, 3) := by decide +kernel
theorem d297_47 : decode (mC M297) 47 = .ok (.iinc 3 1, 3) := by decide +kernel
theorem d297_50 : decode (mC M297) 50 = .ok (.goto (-41), 3) := by decide +kernel
theorem d297_53 : decode (mC M297) 53 = .ok (.aload_n 0, 1) := by decide +kernel
theorem d297_54 : decode (mC M297) 54 = .ok (.iconst 1, 1) := by decide +kernel
theorem d297_55 : decode (mC M297) 55 = .ok (.putfield 64, 3) := by decide +kernel
theorem d297_58 : decode (mC M297) 58 = .ok (.iconst 0, 1) := by decide +kernel
theorem d297_59 : decode (mC M297) 59 = .ok (.ireturn, 1) := by decide +kernel
theorem sc297_0 : ∀ q ∈ tc297_0, Snd xtb M297 q.1 q.2 := List.forall_mem_cons.mpr ⟨snd_aload_n d297_0 rfl, List.forall_mem_cons.mpr ⟨snd_iconst d297_1 (by decide +kernel), List.forall_mem_cons.mpr ⟨snd_putI (by decide) (by decide) rfl rfl wd1367 d297_2, List.forall_mem_cons.mpr ⟨snd_iconst d297_5 (by decide +kernel), List.forall_mem_cons.mpr ⟨snd_istore_n d297_6 rfl, List.forall_mem_cons.mpr ⟨snd_iconst d297_7 (by decide +kernel), List.forall_mem_cons.mpr ⟨snd_istore_n d297_8 rfl, List.forall_mem_cons.mpr ⟨snd_aload_n d297_9 rfl, List.forall_mem_cons.mpr ⟨snd_getI (by decide) (by decide) rfl wd1374 d297_10, List.forall_mem_cons.mpr ⟨snd_if_eq d297_13 (by decide), List.forall_mem_cons.mpr ⟨snd_iload_n d297_16 rfl, List.forall_mem_cons.mpr ⟨snd_aload_n d297_17 rfl, List.forall_mem_cons.mpr ⟨snd_getR (by decide) (by decide) rfl wd1370 d297_18, List.forall_mem_cons.mpr ⟨snd_iconst d297_21 (by decide +kernel), List.forall_mem_cons.mpr ⟨snd_iald d297_22, List.forall_mem_cons.mpr ⟨snd_cmp_ge d297_23 (by decide), List.forall_mem_cons.mpr ⟨snd_aload_n d297_26 rfl, List.forall_mem_cons.mpr ⟨snd_iload_n d297_27 rfl, List.forall_mem_cons.mpr ⟨snd_callV (by decide) rfl cn296 ⟨by decide +kernel, by decide +kernel⟩ cm296 (List.forall_mem_cons.mpr ⟨wd1977, cw296⟩) d297_28, List.forall_mem_cons.mpr ⟨snd_if_eq d297_31 (by decide), List.forall_mem_cons.mpr ⟨snd_goto d297_34 (by decide), List.forall_mem_cons.mpr ⟨snd_iload_n d297_37 rfl, List.forall_mem_cons.mpr ⟨snd_iload_n d297_38 rfl, List.forall_mem_cons.mpr ⟨snd_cmp_ne d297_39 (by decide), List.forall_mem_cons.mpr ⟨snd_iload_n d297_42 rfl, List.forall_mem_cons.mpr ⟨snd_iret rfl d297_43, List.forall_mem_cons.mpr ⟨snd_iinc d297_44 (by decide +kernel), List.forall_mem_cons.mpr ⟨snd_iinc d297_47 (by decide +kernel), List.forall_mem_cons.mpr ⟨snd_goto d297_50 (by decide), List.forall_mem_cons.mpr ⟨snd_aload_n d297_53 rfl, fun _ h => by cases h⟩⟩⟩⟩⟩⟩⟩⟩⟩⟩⟩⟩⟩⟩⟩⟩⟩⟩⟩⟩⟩⟩⟩⟩⟩⟩⟩⟩⟩⟩
theorem sc297_1 : ∀ q ∈ tc297_1, Snd xtb M297 q.1 q.2 := List.forall_mem_cons.mpr ⟨snd_iconst d297_54 (by decide +kernel), List.forall_mem_cons.mpr ⟨snd_putI (by decide) (by decide) rfl rfl wd1367 d297_55, List.forall_mem_cons.mpr ⟨snd_iconst d297_58 (by decide +kernel), List.forall_mem_cons.mpr ⟨snd_iret rfl d297_59, fun _ h => by cases h⟩⟩⟩⟩
theorem d298_0 : decode (mC M298) 0 = .ok (.iconst 0, 1) := by decide +kernel
theorem d298_1 : decode (mC M298) 1 = .ok (.istore_n 1, 1) := by decide +kernel
theorem d298_2 : decode (mC M298) 2 = .ok (.iconst 0, 1) := by decide +kernel
theorem d298_3 : decode (mC M298) 3 = .ok (.istore_n 2, 1) := by decide +kernel
theorem d298_4 : decode (mC M298) 4 = .ok (.iload_n 2, 1) := by decide +kernel
theorem d298_5 : decode (mC M298) 5 = .ok (.aload_n 0, 1) := by decide +kernel
theorem d298_6 : decode (mC M298) 6 = .ok (.getfield 255, 3) := by decide +kernel
theorem d298_9 : decode (mC M298) 9 = .ok (.if_icmp .ge 19, 3) := by decide +kernel
theorem d298_12 : decode (mC M298) 12 = .ok (.iload_n 1, 1) := by decide +kernel
theorem d298_13 : decode (mC M298) 13 = .ok (.aload_n 0, 1) := by decide +kernel
theorem d298_14 : decode (mC M298) 14 = .ok (.iload_n 2, 1) := by decide +kernel
theorem d298_15 : decode (mC M298) 15 = .ok (.bipush 6, 2) := by decide +kernel
theorem d298_17 : decode (mC M298) 17 = .ok (.invokevirtual 363, 3) := by decide +kernel
theorem d298_20 : decode (mC M298) 20 = .ok (.iadd, 1) := by decide +kernel
theorem d298_21 : decode (mC M298) 21 = .ok (.istore_n 1, 1) := by decide +kernel
theorem d298_22 : decode (mC M298) 22 = .ok (.iinc 2 1, 3) := by decide +kernel
theorem d298_25 : decode (mC M298) 25 = .ok (.goto (-21), 3) := by decide +kernel
theorem d298_28 : decode (mC M298) 28 = .ok (.iload_n 1, 1) := by decide +kernel
theorem d298_29 : decode (mC M298) 29 = .ok (.ireturn, 1) := by decide +kernel
theorem sc298_0 : ∀ q ∈ tc298_0, Snd xtb M298 q.1 q.2 := List.forall_mem_cons.mpr ⟨snd_iconst d298_0 (by decide +kernel), List.forall_mem_cons.mpr ⟨snd_istore_n d298_1 rfl, List.forall_mem_cons.mpr ⟨snd_iconst d298_2 (by decide +kernel), List.forall_mem_cons.mpr ⟨snd_istore_n d298_3 rfl, List.forall_mem_cons.mpr ⟨snd_iload_n d298_4 rfl, List.forall_mem_cons.mpr ⟨snd_aload_n d298_5 rfl, List.forall_mem_cons.mpr ⟨snd_getI (by decide) (by decide) rfl wd1387 d298_6, List.forall_mem_cons.mpr ⟨snd_cmp_ge d298_9 (by decide), List.forall_mem_cons.mpr ⟨snd_iload_n d298_12 rfl, List.forall_mem_cons.mpr ⟨snd_aload_n d298_13 rfl, List.forall_mem_cons.mpr ⟨snd_iload_n d298_14 rfl, List.forall_mem_cons.mpr ⟨snd_bipush d298_15 (by decide +kernel), List.forall_mem_cons.mpr ⟨snd_callV (by decide) rfl cn262 ⟨by decide +kernel, by decide +kernel⟩ cm262 (List.forall_mem_cons.mpr ⟨wd1845, cw262⟩) d298_17, List.forall_mem_cons.mpr ⟨snd_iadd d298_20, List.forall_mem_cons.mpr ⟨snd_istore_n d298_21 rfl, List.forall_mem_cons.mpr ⟨snd_iinc d298_22 (by decide +kernel), List.forall_mem_cons.mpr ⟨snd_goto d298_25 (by decide), List.forall_mem_cons.mpr ⟨snd_iload_n d298_28 rfl, List.forall_mem_cons.mpr ⟨snd_iret rfl d298_29, fun _ h => by cases h⟩⟩⟩⟩⟩⟩⟩⟩⟩⟩⟩⟩⟩⟩⟩⟩⟩⟩⟩
theorem d299_0 : decode (mC M299) 0 = .ok (.aload_n 0, 1) := by decide +kernel
theorem d299_1 : decode (mC M299) 1 = .ok (.iconst 0, 1) := by decide +kernel
theorem d299_2 : decode (mC M299) 2 = .ok (.putfield 64, 3) := by decide +kernel
theorem d299_5 : decode (mC M299) 5 = .ok (.iload_n 1, 1) := by decide +kernel
theorem d299_6 : decode (mC M299) 6 = .ok (.tableswitch 52 0 2 #[26, 31, 36], 26) := by decide +kernel
theorem d299_32 : decode (mC M299) 32 = .ok (.aload_n 0, 1) := by decide +kernel
theorem d299_33 : decode (mC M299) 33 = .ok (.getfield 245, 3) := by decide +kernel
theorem d299_36 : decode (mC M299) 36 = .ok (.ireturn, 1) := by decide +kernel
theorem d299_37 : decode (mC M299) 37 = .ok (.aload_n 0, 1) := by decide +kernel
theorem d299_38 : decode (mC M299) 38 = .ok (.getfield 258, 3) := by decide +kernel
theorem d299_41 : decode (mC M299) 41 = .ok (.ireturn, 1) := by decide +kernel
theorem d299_42 : decode (mC M299) 42 = .ok (.aload_n 0, 1) := by decide +kernel
theorem d299_43 : decode (mC M299) 43 = .ok (.getfield 251, 3) := by decide +kernel
theorem d299_46 : decode (mC M299) 46 = .ok (.ifCond .eq 10, 3) := by decide +kernel
theorem d299_49 : decode (mC M299) 49 = .ok (.aload_n 0, 1) := by decide +kernel
theorem d299_50 : decode (mC M299) 50 = .ok (.invokevirtual 424, 3) := by decide +kernel
theorem d299_53 : decode (mC M299) 53 = .ok (.goto 4, 3) := by decide +kernel
theorem d299_56 : decode (mC M299) 56 = .ok (.iconst 0, 1) := by decide +kernel
theorem d299_57 : decode (mC M299) 57 = .ok (.ireturn, 1) := by decide +kernel
theorem d299_58 : decode (mC M299) 58 = .ok (.iconst (-1), 1) := by decide +kernel
theorem d299_59 : decode (mC M299) 59 = .ok (.ireturn, 1) := by decide +kernel
theorem sc299_0 : ∀ q ∈ tc299_0, Snd xtb M299 q.1 q.2 := List.forall_mem_cons.mpr ⟨snd_aload_n d299_0 rfl, List.forall_mem_cons.mpr ⟨snd_iconst d299_1 (by decide +kernel), List.forall_mem_cons.mpr ⟨snd_putI (by decide) (by decide) rfl rfl wd1367 d299_2, List.forall_mem_cons.mpr ⟨snd_iload_n d299_5 rfl, List.forall_mem_cons.mpr ⟨snd_tsw d299_6 (by decide +kernel), List.forall_mem_cons.mpr ⟨snd_aload_n d299_32 rfl, List.forall_mem_cons.mpr ⟨snd_getI (by decide) (by decide) rfl wd1376 d299_33, List.forall_mem_cons.mpr ⟨snd_iret rfl d299_36, List.forall_mem_cons.mpr ⟨snd_aload_n d299_37 rfl, List.forall_mem_cons.mpr ⟨snd_getI (by decide) (by decide) rfl wd1398 d299_38, List.forall_mem_cons.mpr ⟨snd_iret rfl d299_41, List.forall_mem_cons.mpr ⟨snd_aload_n d299_42 rfl, List.forall_mem_cons.mpr ⟨snd_getI (by decide) (by decide) rfl wd1374 d299_43, List.forall_mem_cons.mpr ⟨snd_if_eq d299_46 (by decide), List.forall_mem_cons.mpr ⟨snd_aload_n d299_49 rfl, List.forall_mem_cons.mpr ⟨snd_callV (by decide) rfl cn298 ⟨by decide +kernel, by decide +kernel⟩ cm298 (List.forall_mem_cons.mpr ⟨wd1985, cw298⟩) d299_50, List.forall_mem_cons.mpr ⟨snd_goto d299_53 (by decide), List.forall_mem_cons.mpr ⟨snd_iconst d299_56 (by decide +kernel), List.forall_mem_cons.mpr ⟨snd_iret rfl d299_57, List.forall_mem_cons.mpr ⟨snd_iconst d299_58 (by decide +kernel), List.forall_mem_cons.mpr ⟨snd_iret rfl d299_59, fun _ h => by cases h⟩⟩⟩⟩⟩⟩⟩⟩⟩⟩⟩⟩⟩⟩⟩⟩⟩⟩⟩⟩⟩
theorem d300_0 : decode (mC M300) 0 = .ok (.aload_n 0, 1) := by decide +kernel
theorem d300_1 : decode (mC M300) 1 = .ok (.iconst 0, 1) := by decide +kernel
theorem d300_2 : decode (mC M300) 2 = .ok (.putfield 64, 3) := by decide +kernel
theorem d300_5 : decode (mC M300) 5 = .ok (.aload_n 0, 1) := by decide +kernel
theorem d300_6 : decode (mC M300) 6 = .ok (.getfield 67, 3) := by decide +kernel
theorem d300_9 : decode (mC M300) 9 = .ok (.ireturn, 1) := by decide +kernel
theorem sc300_0 : ∀ q ∈ tc300_0, Snd xtb M300 q.1 q.2 := List.forall_mem_cons.mpr ⟨snd_aload_n d300_0 rfl, List.forall_mem_cons.mpr ⟨snd_iconst d300_1 (by decide +kernel), List.forall_mem_cons.mpr ⟨snd_putI (by decide) (by decide) rfl rfl wd1367 d300_2, List.forall_mem_cons.mpr ⟨snd_aload_n d300_5 rfl, List.forall_mem_cons.mpr ⟨snd_getI (by decide) (by decide) rfl wd1368 d300_6, List.forall_mem_cons.mpr ⟨snd_iret rfl d300_9, fun _ h => by cases h⟩⟩⟩⟩⟩⟩
