theorem dL_load_4 : decode cL_load 4 = .ok (.iaload, 1) := by decide +kernel
theorem dL_load_5 : decode cL_load 5 = .ok (.imul, 1) := by decide +kernel
theorem dL_load_6 : decode cL_load 6 = .ok (.istore 6, 2) := by decide +kernel
theorem dL_load_8 : decode cL_load 8 = .ok (.aload_n 3, 1) := by decide +kernel
theorem dL_load_9 : decode cL_load 9 = .ok (.iload 6, 2) := by decide +kernel
theorem dL_load_11 : decode cL_load 11 = .ok (.iconst 1, 1) := by decide +kernel
theorem dL_load_12 : decode cL_load 12 = .ok (.iload_n 1, 1) := by decide +kernel
theorem dL_load_13 : decode cL_load 13 = .ok (.iconst 4, 1) := by decide +kernel
theorem dL_load_14 : decode cL_load 14 = .ok (.invokestatic 61, 3) := by decide +kernel
theorem dL_load_17 : decode cL_load 17 = .ok (.iadd, 1) := by decide +kernel
theorem dL_load_18 : decode cL_load 18 = .ok (.iastore, 1) := by decide +kernel
theorem dL_load_19 : decode cL_load 19 = .ok (.aload 4, 2) := by decide +kernel
theorem dL_load_21 : decode cL_load 21 = .ok (.aload 5, 2) := by decide +kernel
theorem dL_load_23 : decode cL_load 23 = .ok (.iconst 0, 1) := by decide +kernel
theorem dL_load_24 : decode cL_load 24 = .ok (.iaload, 1) := by decide +kernel
theorem dL_load_25 : decode cL_load 25 = .ok (.lconst 0, 1) := by decide +kernel
theorem dL_load_26 : decode cL_load 26 = .ok (.lastore, 1) := by decide +kernel
theorem dL_load_27 : decode cL_load 27 = .ok (.aload_n 0, 1) := by decide +kernel
theorem dL_load_28 : decode cL_load 28 = .ok (.invokevirtual 78, 3) := by decide +kernel
theorem dL_load_31 : decode cL_load 31 = .ok (.pop, 1) := by decide +kernel
theorem dL_load_32 : decode cL_load 32 = .ok (.iconst 0, 1) := by decide +kernel
theorem dL_load_33 : decode cL_load 33 = .ok (.istore 7, 2) := by decide +kernel
theorem dL_load_35 : decode cL_load 35 = .ok (.iload 7, 2) := by decide +kernel
theorem dL_load_37 : decode cL_load 37 = .ok (.aload_n 3, 1) := by decide +kernel
theorem dL_load_38 : decode cL_load 38 = .ok (.iload 6, 2) := by decide +kernel
theorem dL_load_40 : decode cL_load 40 = .ok (.iaload, 1) := by decide +kernel
theorem dL_load_41 : decode cL_load 41 = .ok (.if_icmp .ge 126, 3) := by decide +kernel
theorem dL_load_44 : decode cL_load 44 = .ok (.aload_n 3, 1) := by decide +kernel
theorem dL_load_45 : decode cL_load 45 = .ok (.iload 6, 2) := by decide +kernel
theorem dL_load_47 : decode cL_load 47 = .ok (.iconst 1, 1) := by decide +kernel
theorem dL_load_48 : decode cL_load 48 = .ok (.iadd, 1) := by decide +kernel
theorem dL_load_49 : decode cL_load 49 = .ok (.iload 7, 2) := by decide +kernel
theorem dL_load_51 : decode cL_load 51 = .ok (.iadd, 1) := by decide +kernel
theorem dL_load_52 : decode cL_load 52 = .ok (.iload_n 1, 1) := by decide +kernel
theorem dL_load_53 : decode cL_load 53 = .ok (.iconst 2, 1) := by decide +kernel
theorem dL_load_54 : decode cL_load 54 = .ok (.iload 7, 2) := by decide +kernel
theorem dL_load_56 : decode cL_load 56 = .ok (.imul, 1) := by decide +kernel
theorem dL_load_57 : decode cL_load 57 = .ok (.iconst 2, 1) := by decide +kernel
theorem dL_load_58 : decode cL_load 58 = .ok (.iadd, 1) := by decide +kernel
theorem dL_load_59 : decode cL_load 59 = .ok (.ishr, 1) := by decide +kernel
theorem dL_load_60 : decode cL_load 60 = .ok (.iconst 3, 1) := by decide +kernel
theorem dL_load_61 : decode cL_load 61 = .ok (.invokestatic 61, 3) := by decide +kernel
theorem dL_load_64 : decode cL_load 64 = .ok (.ifCond .ne 16, 3) := by decide +kernel
theorem dL_load_67 : decode cL_load 67 = .ok (.iconst 1, 1) := by decide +kernel
theorem dL_load_68 : decode cL_load 68 = .ok (.iload_n 2, 1) := by decide +kernel
theorem dL_load_69 : decode cL_load 69 = .ok (.iload 7, 2) := by decide +kernel
theorem dL_load_71 : decode cL_load 71 = .ok (.ishr, 1) := by decide +kernel
theorem dL_load_72 : decode cL_load 72 = .ok (.iconst 3, 1) := by decide +kernel
theorem dL_load_73 : decode cL_load 73 = .ok (.invokestatic 61, 3) := by decide +kernel
theorem dL_load_76 : decode cL_load 76 = .ok (.iadd, 1) := by decide +kernel
theorem dL_load_77 : decode cL_load 77 = .ok (.goto 17, 3) := by decide +kernel
theorem dL_load_80 : decode cL_load 80 = .ok (.iconst 1, 1) := by decide +kernel
theorem dL_load_81 : decode cL_load 81 = .ok (.iload_n 1, 1) := by decide +kernel
theorem dL_load_82 : decode cL_load 82 = .ok (.iconst 2, 1) := by decide +kernel
theorem dL_load_83 : decode cL_load 83 = .ok (.iload 7, 2) := by decide +kernel
theorem dL_load_85 : decode cL_load 85 = .ok (.imul, 1) := by decide +kernel
theorem dL_load_86 : decode cL_load 86 = .ok (.iconst 3, 1) := by decide +kernel
theorem dL_load_87 : decode cL_load 87 = .ok (.iadd, 1) := by decide +kernel
theorem dL_load_88 : decode cL_load 88 = .ok (.ishr, 1) := by decide +kernel
theorem dL_load_89 : decode cL_load 89 = .ok (.iconst 3, 1) := by decide +kernel
theorem dL_load_90 : decode cL_load 90 = .ok (.invokestatic 61, 3) := by decide +kernel
theorem dL_load_93 : decode cL_load 93 = .ok (.ishl, 1) := by decide +kernel
theorem dL_load_94 : decode cL_load 94 = .ok (.iastore, 1) := by decide +kernel
theorem dL_load_95 : decode cL_load 95 = .ok (.iload 7, 2) := by decide +kernel
theorem dL_load_97 : decode cL_load 97 = .ok (.ifCond .le 15, 3) := by decide +kernel
theorem dL_load_100 : decode cL_load 100 = .ok (.aload_n 0, 1) := by decide +kernel
theorem dL_load_101 : decode cL_load 101 = .ok (.bipush 47, 2) := by decide +kernel
theorem dL_load_103 : decode cL_load 103 = .ok (.invokevirtual 82, 3) := by decide +kernel
theorem dL_load_106 : decode cL_load 106 = .ok (.iconst 1, 1) := by decide +kernel
theorem dL_load_107 : decode cL_load 107 = .ok (.if_icmp .ge 5, 3) := by decide +kernel
theorem dL_load_110 : decode cL_load 110 = .ok (.iconst 0, 1) := by decide +kernel
theorem dL_load_111 : decode cL_load 111 = .ok (.ireturn, 1) := by decide +kernel
theorem dL_load_112 : decode cL_load 112 = .ok (.iconst 0, 1) := by decide +kernel
theorem dL_load_113 : decode cL_load 113 = .ok (.istore 8, 2) := by decide +kernel
theorem dL_load_115 : decode cL_load 115 = .ok (.iload 8, 2) := by decide +kernel
theorem dL_load_117 : decode cL_load 117 = .ok (.bipush 12, 2) := by decide +kernel
theorem dL_load_119 : decode cL_load 119 = .ok (.if_icmp .ge 42, 3) := by decide +kernel
theorem dL_load_122 : decode cL_load 122 = .ok (.aload_n 3, 1) := by decide +kernel
theorem dL_load_123 : decode cL_load 123 = .ok (.iload 6, 2) := by decide +kernel
theorem dL_load_125 : decode cL_load 125 = .ok (.iconst 1, 1) := by decide +kernel
theorem dL_load_126 : decode cL_load 126 = .ok (.iadd, 1) := by decide +kernel
theorem dL_load_127 : decode cL_load 127 = .ok (.iload 7, 2) := by decide +kernel
theorem dL_load_129 : decode cL_load 129 = .ok (.iadd, 1) := by decide +kernel
theorem dL_load_130 : decode cL_load 130 = .ok (.iaload, 1) := by decide +kernel
theorem dL_load_131 : decode cL_load 131 = .ok (.iload 8, 2) := by decide +kernel
theorem dL_load_133 : decode cL_load 133 = .ok (.ishr, 1) := by decide +kernel
theorem dL_load_134 : decode cL_load 134 = .ok (.iconst 1, 1) := by decide +kernel
theorem dL_load_135 : decode cL_load 135 = .ok (.iand, 1) := by decide +kernel
theorem dL_load_136 : decode cL_load 136 = .ok (.iconst 1, 1) := by decide +kernel
theorem dL_load_137 : decode cL_load 137 = .ok (.if_icmp .ne 18, 3) := by decide +kernel
theorem dL_load_140 : decode cL_load 140 = .ok (.aload_n 0, 1) := by decide +kernel
theorem dL_load_141 : decode cL_load 141 = .ok (.iload 8, 2) := by decide +kernel
theorem dL_load_143 : decode cL_load 143 = .ok (.invokestatic 8, 3) := by decide +kernel
theorem dL_load_146 : decode cL_load 146 = .ok (.invokevirtual 82, 3) := by decide +kernel
theorem dL_load_149 : decode cL_load 149 = .ok (.iconst 1, 1) := by decide +kernel
theorem dL_load_150 : decode cL_load 150 = .ok (.if_icmp .ge 5, 3) := by decide +kernel
theorem dL_load_153 : decode cL_load 153 = .ok (.iconst 0, 1) := by decide +kernel
theorem dL_load_154 : decode cL_load 154 = .ok (.ireturn, 1) := by decide +kernel
theorem dL_load_155 : decode cL_load 155 = .ok (.iinc 8 1, 3) := by decide +kernel
theorem dL_load_158 : decode cL_load 158 = .ok (.goto (-43), 3) := by decide +kernel
theorem dL_load_161 : decode cL_load 161 = .ok (.iinc 7 1, 3) := by decide +kernel
theorem dL_load_164 : decode cL_load 164 = .ok (.goto (-129), 3) := by decide +kernel
theorem dL_load_167 : decode cL_load 167 = .ok (.aload_n 0, 1) := by decide +kernel
theorem dL_load_168 : decode cL_load 168 = .ok (.bipush 61, 2) := by decide +kernel
theorem dL_load_170 : decode cL_load 170 = .ok (.invokevirtual 82, 3) := by decide +kernel
theorem dL_load_173 : decode cL_load 173 = .ok (.iconst 1, 1) := by decide +kernel
theorem dL_load_174 : decode cL_load 174 = .ok (.if_icmp .ge 5, 3) := by decide +kernel
theorem dL_load_177 : decode cL_load 177 = .ok (.iconst 0, 1) := by decide +kernel
theorem dL_load_178 : decode cL_load 178 = .ok (.ireturn, 1) := by decide +kernel
theorem dL_load_179 : decode cL_load 179 = .ok (.iconst 1, 1) := by decide +kernel
theorem dL_load_180 : decode cL_load 180 = .ok (.iload_n 2, 1) := by decide +kernel
theorem dL_load_181 : decode cL_load 181 = .ok (.iconst 3, 1) := by decide +kernel
theorem dL_load_182 : decode cL_load 182 = .ok (.invokestatic 61, 3) := by decide +kernel
theorem dL_load_185 : decode cL_load 185 = .ok (.iadd, 1) := by decide +kernel
theorem dL_load_186 : decode cL_load 186 = .ok (.istore 7, 2) := by decide +kernel
theorem dL_load_188 : decode cL_load 188 = .ok (.iconst 0, 1) := by decide +kernel
theorem dL_load_189 : decode cL_load 189 = .ok (.istore 8, 2) := by decide +kernel
theorem dL_load_191 : decode cL_load 191 = .ok (.iload 8, 2) := by decide +kernel
theorem dL_load_193 : decode cL_load 193 = .ok (.iload 7, 2) := by decide +kernel
theorem dL_load_195 : decode cL_load 195 = .ok (.if_icmp .ge 55, 3) := by decide +kernel
theorem dL_load_198 : decode cL_load 198 = .ok (.bipush 97, 2) := by decide +kernel
theorem dL_load_200 : decode cL_load 200 = .ok (.iload_n 2, 1) := by decide +kernel
theorem dL_load_201 : decode cL_load 201 = .ok (.iload 8, 2) := by decide +kernel
theorem dL_load_203 : decode cL_load 203 = .ok (.iconst 2, 1) := by decide +kernel
theorem dL_load_204 : decode cL_load 204 = .ok (.iadd, 1) := by decide +kernel
theorem dL_load_205 : decode cL_load 205 = .ok (.ishr, 1) := by decide +kernel
theorem dL_load_206 : decode cL_load 206 = .ok (.iconst 2, 1) := by decide +kernel
theorem dL_load_207 : decode cL_load 207 = .ok (.invokestatic 61, 3) := by decide +kernel
theorem dL_load_210 : decode cL_load 210 = .ok (.iadd, 1) := by decide +kernel
theorem dL_load_211 : decode cL_load 211 = .ok (.istore 9, 2) := by decide +kernel
theorem dL_load_213 : decode cL_load 213 = .ok (.aload 4, 2) := by decide +kernel
theorem dL_load_215 : decode cL_load 215 = .ok (.aload 5, 2) := by decide +kernel
theorem dL_load_217 : decode cL_load 217 = .ok (.iconst 0, 1) := by decide +kernel
theorem dL_load_218 : decode cL_load 218 = .ok (.iaload, 1) := by decide +kernel
theorem dL_load_219 : decode cL_load 219 = .ok (.dup2, 1) := by decide +kernel
theorem dL_load_220 : decode cL_load 220 = .ok (.laload, 1) := by decide +kernel
theorem dL_load_221 : decode cL_load 221 = .ok (.iload 9, 2) := by decide +kernel
theorem dL_load_223 : decode cL_load 223 = .ok (.i2l, 1) := by decide +kernel
theorem dL_load_224 : decode cL_load 224 = .ok (.bipush 7, 2) := by decide +kernel
theorem dL_load_226 : decode cL_load 226 = .ok (.iload 8, 2) := by decide +kernel
theorem dL_load_228 : decode cL_load 228 = .ok (.imul, 1) := by decide +kernel
theorem dL_load_229 : decode cL_load 229 = .ok (.lshl, 1) := by decide +kernel
theorem dL_load_230 : decode cL_load 230 = .ok (.lor, 1) := by decide +kernel
theorem dL_load_231 : decode cL_load 231 = .ok (.lastore, 1) := by decide +kernel
theorem dL_load_232 : decode cL_load 232 = .ok (.aload_n 0, 1) := by decide +kernel
theorem dL_load_233 : decode cL_load 233 = .ok (.iload 9, 2) := by decide +kernel
theorem dL_load_235 : decode cL_load 235 = .ok (.invokevirtual 82, 3) := by decide +kernel
theorem dL_load_238 : decode cL_load 238 = .ok (.iconst 1, 1) := by decide +kernel
theorem dL_load_239 : decode cL_load 239 = .ok (.if_icmp .ge 5, 3) := by decide +kernel
theorem dL_load_242 : decode cL_load 242 = .ok (.iconst 0, 1) := by decide +kernel
theorem dL_load_243 : decode cL_load 243 = .ok (.ireturn, 1) := by decide +kernel
theorem dL_load_244 : decode cL_load 244 = .ok (.iinc 8 1, 3) := by decide +kernel
theorem dL_load_247 : decode cL_load 247 = .ok (.goto (-56), 3) := by decide +kernel
theorem dL_load_250 : decode cL_load 250 = .ok (.iconst 0, 1) := by decide +kernel
theorem dL_load_251 : decode cL_load 251 = .ok (.istore 8, 2) := by decide +kernel
theorem dL_load_253 : decode cL_load 253 = .ok (.iload 8, 2) := by decide +kernel
theorem dL_load_255 : decode cL_load 255 = .ok (.aload 5, 2) := by decide +kernel
theorem dL_load_257 : decode cL_load 257 = .ok (.iconst 0, 1) := by decide +kernel
theorem dL_load_258 : decode cL_load 258 = .ok (.iaload, 1) := by decide +kernel
theorem dL_load_259 : decode cL_load 259 = .ok (.if_icmp .ge 50, 3) := by decide +kernel
theorem dL_load_262 : decode cL_load 262 = .ok (.aload_n 3, 1) := by decide +kernel
theorem dL_load_263 : decode cL_load 263 = .ok (.iconst 5, 1) := by decide +kernel
theorem dL_load_264 : decode cL_load 264 = .ok (.iload 8, 2) := by decide +kernel
theorem dL_load_266 : decode cL_load 266 = .ok (.imul, 1) := by decide +kernel
theorem dL_load_267 : decode cL_load 267 = .ok (.iaload, 1) := by decide +kernel
theorem dL_load_268 : decode cL_load 268 = .ok (.aload_n 3, 1) := by decide +kernel
theorem dL_load_269 : decode cL_load 269 = .ok (.iload 6, 2) := by decide +kernel
theorem dL_load_271 : decode cL_load 271 = .ok (.iaload, 1) := by decide +kernel
theorem dL_load_272 : decode cL_load 272 = .ok (.if_icmp .ne 31, 3) := by decide +kernel
theorem dL_load_275 : decode cL_load 275 = .ok (.iload 8, 2) := by decide +kernel
theorem dL_load_277 : decode cL_load 277 = .ok (.iconst 0, 1) := by decide +kernel
theorem dL_load_278 : decode cL_load 278 = .ok (.aload 5, 2) := by decide +kernel
theorem dL_load_280 : decode cL_load 280 = .ok (.iconst 0, 1) := by decide +kernel
theorem dL_load_281 : decode cL_load 281 = .ok (.iaload, 1) := by decide +kernel
theorem dL_load_282 : decode cL_load 282 = .ok (.aload_n 3, 1) := by decide +kernel
theorem dL_load_283 : decode cL_load 283 = .ok (.invokestatic 22, 3) := by decide +kernel
theorem dL_load_286 : decode cL_load 286 = .ok (.ifCond .eq 17, 3) := by decide +kernel
theorem dL_load_289 : decode cL_load 289 = .ok (.aload_n 0, 1) := by decide +kernel
theorem dL_load_290 : decode cL_load 290 = .ok (.invokevirtual 78, 3) := by decide +kernel
theorem dL_load_293 : decode cL_load 293 = .ok (.iconst 2, 1) := by decide +kernel
theorem dL_load_294 : decode cL_load 294 = .ok (.if_icmp .le 7, 3) := by decide +kernel
theorem dL_load_297 : decode cL_load 297 = .ok (.iconst 1, 1) := by decide +kernel
theorem dL_load_298 : decode cL_load 298 = .ok (.goto 4, 3) := by decide +kernel
theorem dL_load_301 : decode cL_load 301 = .ok (.iconst 0, 1) := by decide +kernel
theorem dL_load_302 : decode cL_load 302 = .ok (.ireturn, 1) := by decide +kernel
theorem dL_load_303 : decode cL_load 303 = .ok (.iinc 8 1, 3) := by decide +kernel
theorem dL_load_306 : decode cL_load 306 = .ok (.goto (-53), 3) := by decide +kernel
theorem dL_load_309 : decode cL_load 309 = .ok (.aload 5, 2) := by decide +kernel
theorem dL_load_311 : decode cL_load 311 = .ok (.iconst 0, 1) := by decide +kernel
theorem dL_load_312 : decode cL_load 312 = .ok (.dup2, 1) := by decide +kernel
theorem dL_load_313 : decode cL_load 313 = .ok (.iaload, 1) := by decide +kernel
theorem dL_load_314 : decode cL_load 314 = .ok (.iconst 1, 1) := by decide +kernel
theorem dL_load_315 : decode cL_load 315 = .ok (.iadd, 1) := by decide +kernel
theorem dL_load_316 : decode cL_load 316 = .ok (.iastore, 1) := by decide +kernel
theorem dL_load_317 : decode cL_load 317 = .ok (.aload_n 0, 1) := by decide +kernel
theorem dL_load_318 : decode cL_load 318 = .ok (.invokevirtual 85, 3) := by decide +kernel
theorem dL_load_321 : decode cL_load 321 = .ok (.aload 5, 2) := by decide +kernel
theorem dL_load_323 : decode cL_load 323 = .ok (.iconst 0, 1) := by decide +kernel
theorem dL_load_324 : decode cL_load 324 = .ok (.iaload, 1) := by decide +kernel
theorem dL_load_325 : decode cL_load 325 = .ok (.if_icmp .ne 14, 3) := by decide +kernel
theorem dL_load_328 : decode cL_load 328 = .ok (.aload_n 0, 1) := by decide +kernel
theorem dL_load_329 : decode cL_load 329 = .ok (.invokevirtual 78, 3) := by decide +kernel
theorem dL_load_332 : decode cL_load 332 = .ok (.ifCond .ne 7, 3) := by decide +kernel
theorem dL_load_335 : decode cL_load 335 = .ok (.iconst 1, 1) := by decide +kernel
theorem dL_load_336 : decode cL_load 336 = .ok (.goto 4, 3) := by decide +kernel
theorem dL_load_339 : decode cL_load 339 = .ok (.iconst 0, 1) := by decide +kernel
theorem dL_load_340 : decode cL_load 340 = .ok (.ireturn, 1) := by decide +kernel
set_option maxRecDepth 20000 in
theorem ggL_act_L_load : GoodIn wsL_act wsL_load := goodIn_ca (goodIn_ca (goodIn_r _ [5, 6, 7, 4, 8, 9, 10, 11, 12, 13, 14, 15, 16, 17, 18, 19, 20, 21, 22, 23, 24, 25, 26, 27, 28, 29, 30, 31, 32, 33, 34, 35, 36, 37, 38, 39, 40, 41, 42, 43, 44, 45, 46, 47, 48, 49, 50, 51, 52, 53, 54, 55, 56, 57, 58, 59, 60, 61, 62, 63, 64, 65, 66, 67, 68, 69, 70, 71, 72, 73, 74, 75, 76, 77, 78, 79, 80, 81, 82, 83, 84, 85, 86, 87, 88, 89, 90, 91, 92, 93, 94, 95, 96, 97, 98, 99, 100, 101, 102, 103, 104, 105, 106, 107, 108, 109, 110, 111, 112, 113, 114, 115, 116, 117, 118, 119, 120, 121, 122, 123, 124, 125, 126, 127, 128, 129, 130, 131, 132, 133, 134, 135, 136, 137, 138, 139, 140, 141, 142, 143, 144, 145, 146, 147, 148, 149, 150, 151, 152, 153, 154, 155, 156, 157, 158, 159, 160, 161, 162, 163, 164, 165, 166, 167, 168, 169, 170, 171, 172, 173, 174, 175, 176, 177, 178, 179, 180, 181, 182, 183, 184, 185, 186, 187, 188, 189, 190, 191, 192, 193, 194, 195, 196, 197, 198, 199, 200, 201, 202, 203, 204, 205, 206, 207, 208, 209, 210, 211, 212, 213, 214, 215, 216, 217, 218, 219, 220, 221, 222, 223, 224, 225, 226, 227, 228, 229, 230, 231, 232, 233, 234, 235, 236, 237, 238, 239, 240, 241, 242, 374, 375, 376, 377, 378, 379, 380, 381, 382, 383, 384, 385, 386, 387, 388, 389, 390, 391, 392, 393, 394, 395, 396, 397, 398, 399, 400, 401, 402, 403] (by decide +kernel) (by decide +kernel)) (goodIn_sub (fun _ h => List.mem_cons_of_mem _ (List.mem_append_left _ (List.mem_append_left _ (List.mem_append_right _ h)))) (by decide +kernel))) (goodIn_sub (fun _ h => List.mem_cons_of_mem _ (List.mem_append_left _ (List.mem_append_right _ h))) (by decide +kernel))
set_option maxRecDepth 20000 in
theorem gL_act_L_load : GoodIn wsL_act (va_wsS RL 88 yL_load wsL_load) := goodIn_app (goodIn_of _ (by decide +kernel)) ggL_act_L_load
set_option maxRecDepth 20000 in
theorem ggL_act_L_translate : GoodIn wsL_act wsL_translate := goodIn_r _ [245, 246, 247, 4, 248, 249, 250, 251, 35, 36, 37] (by decide +kernel) (by decide +kernel)
set_option maxRecDepth 20000 in
theorem gL_act_L_translate : GoodIn wsL_act (va_wsS RL 68 yL_translate wsL_translate) := goodIn_app (goodIn_of _ (by decide +kernel)) ggL_act_L_translate
set_option maxRecDepth 20000 in
theorem ggL_act_L_at : GoodIn wsL_act wsL_at := goodIn_r _ [8] (by decide +kernel) (by decide +kernel)
set_option maxRecDepth 20000 in
theorem gL_act_L_at : GoodIn wsL_act (va_wsS RL 61 yL_at wsL_at) := goodIn_app (goodIn_of _ (by decide +kernel)) ggL_act_L_at
set_option maxRecDepth 20000 in
theorem ggL_act_X11_stroke : GoodIn wsL_act wsX11_stroke := goodIn_ca (goodIn_ca (goodIn_r _ [255, 20, 21, 22, 23, 47, 256, 257, 49, 258, 259, 260, 12, 261, 176, 177, 178, 179, 180, 181, 182, 183, 184, 185, 186, 187, 188, 189, 190, 191, 111, 112, 113, 114, 115, 116, 117, 118, 119, 120, 121, 122, 123, 124, 125, 126, 33, 127, 128, 129, 130, 131, 132, 133, 134, 135, 136, 137, 138, 139, 140, 141, 142, 143, 144, 145, 146, 147, 148, 149, 150, 151, 152, 153, 262, 263, 264, 265, 266, 267, 268, 269, 214, 32, 34, 270, 194, 195, 196, 197, 198, 199, 200, 201, 202, 203, 204, 205, 206, 207, 108, 208, 209, 73, 74, 210, 107, 109, 211, 212, 213, 162, 163, 164, 165, 166, 167, 168, 215, 216, 217, 218, 219, 174, 175, 220, 221, 222, 223, 224, 225, 226, 227, 228, 229, 230, 231, 232, 233, 234, 235, 236, 237, 238, 239, 240, 241, 242, 374, 375, 376, 377, 378, 379, 382, 383, 393, 394, 395, 396, 397, 398, 399, 400, 401, 402, 403, 384, 385, 386] (by decide +kernel) (by decide +kernel)) (goodIn_sub (fun _ h => List.mem_cons_of_mem _ (List.mem_append_left _ (List.mem_append_left _ (List.mem_append_right _ h)))) (by decide +kernel))) (goodIn_sub (fun _ h => List.mem_cons_of_mem _ (List.mem_append_left _ (List.mem_append_right _ h))) (by decide +kernel))
set_option maxRecDepth 20000 in
theorem gL_act_X11_stroke : GoodIn wsL_act (wsV RL 91 RX11 yX11_stroke wsX11_stroke) := goodIn_app (goodIn_of _ (by decide +kernel)) ggL_act_X11_stroke
set_option maxRecDepth 20000 in
theorem ggL_act_X11_takeBack : GoodIn wsL_act wsX11_takeBack := goodIn_ca (goodIn_r _ [274, 22, 23, 47, 256, 257, 49, 275, 176, 177, 178, 179, 180, 181, 182, 183, 184, 185, 186, 187, 188, 189, 190, 191, 111, 112, 113, 114, 115, 116, 117, 118, 119, 120, 121, 122, 123, 124, 125, 126, 33, 127, 128, 129, 130, 131, 132, 133, 134, 135, 136, 137, 138, 139, 140, 141, 142, 143, 144, 145, 146, 147, 148, 149, 150, 151, 152, 153, 276, 73, 74, 277, 278, 279, 280, 234, 235, 236, 237, 242, 193, 194, 195, 196, 197, 198, 199, 200, 201, 202, 203, 204, 205, 206, 207, 108, 208, 209, 210, 107, 109, 211, 212, 213, 162, 163, 164, 165, 166, 167, 168, 214, 32, 34, 215, 216, 217, 218, 219, 174, 175, 220, 221, 222, 223, 224, 225, 226, 227, 228, 229, 230, 231, 232, 233, 238, 239, 240, 241, 374, 375, 376, 377, 378, 379, 382, 383, 393, 394, 395, 396, 397, 398, 399, 400, 401, 402, 403, 384, 385, 386] (by decide +kernel) (by decide +kernel)) (goodIn_sub (fun _ h => List.mem_cons_of_mem _ (List.mem_append_left _ (List.mem_append_right _ h))) (by decide +kernel))
set_option maxRecDepth 20000 in
theorem gL_act_X11_takeBack : GoodIn wsL_act (wsV RL 94 RX11 yX11_takeBack wsX11_takeBack) := goodIn_app (goodIn_of _ (by decide +kernel)) ggL_act_X11_takeBack
set_option maxRecDepth 20000 in
theorem ggL_act_X11_fixAll : GoodIn wsL_act wsX11_fixAll := goodIn_r _ [284, 49, 47, 256, 176, 177, 178, 179, 180, 181, 182, 183, 184, 185, 186, 187, 188, 189, 190, 191, 111, 112, 113, 114, 115, 116, 117, 118, 119, 120, 121, 122, 123, 124, 125, 126, 33, 127, 128, 129, 130, 131, 132, 133, 134, 135, 136, 137, 138, 139, 140, 141, 142, 143, 144, 145, 146, 147, 148, 149, 150, 151, 152, 153, 285, 286, 287, 288, 289, 231, 232, 233, 234, 235, 236, 237, 214, 32, 34, 238, 239, 240, 241, 242, 73, 74, 374, 375, 376, 377, 378, 379, 382, 383, 402, 403, 384, 385, 386, 393, 394, 395, 396, 397, 398, 399, 400, 401] (by decide +kernel) (by decide +kernel)
set_option maxRecDepth 20000 in
theorem gL_act_X11_fixAll : GoodIn wsL_act (wsV RL 97 RX11 yX11_fixAll wsX11_fixAll) := goodIn_app (goodIn_of _ (by decide +kernel)) ggL_act_X11_fixAll
set_option maxRecDepth 20000 in
theorem ggL_act_X11_setWindow : GoodIn wsL_act wsX11_setWindow := goodIn_ca (goodIn_r _ [293, 20, 21, 49, 47, 256, 294, 176, 177, 178, 179, 180, 181, 182, 183, 184, 185, 186, 187, 188, 189, 190, 191, 111, 112, 113, 114, 115, 116, 117, 118, 119, 120, 121, 122, 123, 124, 125, 126, 33, 127, 128, 129, 130, 131, 132, 133, 134, 135, 136, 137, 138, 139, 140, 141, 142, 143, 144, 145, 146, 147, 148, 149, 150, 151, 152, 153, 289, 231, 232, 233, 234, 235, 236, 237, 214, 32, 34, 238, 239, 240, 241, 242, 73, 74, 374, 375, 376, 377, 378, 379, 382, 383, 393, 394, 395, 396, 397, 398, 399, 400, 401, 402, 403, 384, 385, 386] (by decide +kernel) (by decide +kernel)) (goodIn_sub (fun _ h => List.mem_cons_of_mem _ (List.mem_append_left _ (List.mem_append_left _ (List.mem_append_right _ h)))) (by decide +kernel))
set_option maxRecDepth 20000 in
theorem gL_act_X11_setWindow : GoodIn wsL_act (wsV RL 100 RX11 yX11_setWindow wsX11_setWindow) := goodIn_app (goodIn_of _ (by decide +kernel)) ggL_act_X11_setWindow
set_option maxRecDepth 20000 in
theorem ggL_act_L_remove : GoodIn wsL_act wsL_remove := goodIn_r _ [297] (by decide +kernel) (by decide +kernel)
set_option maxRecDepth 20000 in
theorem gL_act_L_remove : GoodIn wsL_act (va_wsS RL 64 yL_remove wsL_remove) := goodIn_app (goodIn_of _ (by decide +kernel)) ggL_act_L_remove
set_option maxRecDepth 20000 in
theorem ggL_act_X11_removeEntry : GoodIn wsL_act wsX11_removeEntry := goodIn_ca (goodIn_r _ [301, 302, 303, 49, 47, 48, 256, 258, 304, 305, 306, 12, 307, 50, 176, 177, 178, 179, 180, 181, 182, 183, 184, 185, 186, 187, 188, 189, 190, 191, 111, 112, 113, 114, 115, 116, 117, 118, 119, 120, 121, 122, 123, 124, 125, 126, 33, 127, 128, 129, 130, 131, 132, 133, 134, 135, 136, 137, 138, 139, 140, 141, 142, 143, 144, 145, 146, 147, 148, 149, 150, 151, 152, 153, 308, 309, 310, 311, 312, 221, 222, 223, 166, 167, 168, 173, 174, 175, 313, 216, 217, 218, 193, 194, 195, 196, 197, 198, 199, 200, 201, 202, 203, 204, 205, 206, 207, 108, 208, 209, 73, 74, 210, 107, 109, 211, 212, 213, 162, 163, 164, 165, 214, 32, 34, 215, 219, 220, 224, 225, 226, 227, 228, 229, 230, 231, 232, 233, 234, 235, 236, 237, 238, 239, 240, 241, 242, 374, 375, 376, 377, 378, 379, 382, 383, 393, 394, 395, 396, 397, 398, 399, 400, 401, 384, 385, 386, 402, 403] (by decide +kernel) (by decide +kernel)) (goodIn_sub (fun _ h => List.mem_cons_of_mem _ (List.mem_append_right _ h)) (by decide +kernel))
set_option maxRecDepth 20000 in
theorem gL_act_X11_removeEntry : GoodIn wsL_act (wsV RL 103 RX11 yX11_removeEntry wsX11_removeEntry) := goodIn_app (goodIn_of _ (by decide +kernel)) ggL_act_X11_removeEntry
set_option maxRecDepth 20000 in
theorem ggL_act_X11_renameEntry : GoodIn wsL_act wsX11_renameEntry := goodIn_ca (goodIn_r _ [317, 302, 303, 49, 47, 48, 318, 256, 304, 305, 306, 12, 307, 50, 176, 177, 178, 179, 180, 181, 182, 183, 184, 185, 186, 187, 188, 189, 190, 191, 111, 112, 113, 114, 115, 116, 117, 118, 119, 120, 121, 122, 123, 124, 125, 126, 33, 127, 128, 129, 130, 131, 132, 133, 134, 135, 136, 137, 138, 139, 140, 141, 142, 143, 144, 145, 146, 147, 148, 149, 150, 151, 152, 153, 319, 216, 217, 218, 166, 167, 168, 320, 174, 175, 193, 194, 195, 196, 197, 198, 199, 200, 201, 202, 203, 204, 205, 206, 207, 108, 208, 209, 73, 74, 210, 107, 109, 211, 212, 213, 162, 163, 164, 165, 214, 32, 34, 215, 219, 220, 221, 222, 223, 224, 225, 226, 227, 228, 229, 230, 231, 232, 233, 234, 235, 236, 237, 238, 239, 240, 241, 242, 321, 322, 323, 324, 374, 375, 376, 377, 378, 379, 382, 383, 384, 385, 386, 402, 403, 393, 394, 395, 396, 397, 398, 399, 400, 401] (by decide +kernel) (by decide +kernel)) (goodIn_sub (fun _ h => List.mem_cons_of_mem _ (List.mem_append_right _ h)) (by decide +kernel))
set_option maxRecDepth 20000 in
theorem gL_act_X11_renameEntry : GoodIn wsL_act (wsV RL 106 RX11 yX11_renameEntry wsX11_renameEntry) := goodIn_app (goodIn_of _ (by decide +kernel)) ggL_act_X11_renameEntry
set_option maxRecDepth 20000 in
theorem ggL_act_L_size : GoodIn wsL_act wsL_size := goodIn_r _ [327] (by decide +kernel) (by decide +kernel)
set_option maxRecDepth 20000 in
theorem gL_act_L_size : GoodIn wsL_act (va_wsS RL 26 yL_size wsL_size) := goodIn_app (goodIn_of _ (by decide +kernel)) ggL_act_L_size
set_option maxRecDepth 20000 in
theorem ggL_act_L_has : GoodIn wsL_act wsL_has := goodIn_r _ [40] (by decide +kernel) (by decide +kernel)
set_option maxRecDepth 20000 in
theorem gL_act_L_has : GoodIn wsL_act (va_wsS RL 22 yL_has wsL_has) := goodIn_app (goodIn_of _ (by decide +kernel)) ggL_act_L_has
set_option maxRecDepth 20000 in
theorem ggL_act_X11_learn : GoodIn wsL_act wsX11_learn := goodIn_ca (goodIn_ca (goodIn_ca (goodIn_r _ [331, 302, 303, 20, 21, 22, 23, 47, 256, 275, 48, 49, 50, 332, 333, 334, 12, 335, 258, 336, 239, 240, 139, 241, 146, 142, 145, 242, 73, 33, 74, 337, 207, 108, 208, 209, 210, 107, 109, 338, 159, 160, 120, 161, 124, 162, 163, 164, 165, 122, 166, 167, 168, 176, 177, 178, 179, 180, 181, 182, 183, 184, 185, 186, 187, 188, 189, 190, 191, 111, 112, 113, 114, 115, 116, 117, 118, 119, 121, 123, 125, 126, 127, 128, 129, 130, 131, 132, 133, 134, 135, 136, 137, 138, 140, 141, 143, 144, 147, 148, 149, 150, 151, 152, 153, 339, 340, 341, 342, 343, 344, 345, 346, 347, 238, 348, 349, 350, 351, 352, 353, 354, 355, 356, 85, 357, 358, 359, 360, 361, 362, 363, 364, 365, 366, 93, 367, 95, 96, 97, 368, 369, 370, 371, 372, 84, 86, 373, 170, 171, 172, 173, 174, 175, 193, 194, 195, 196, 197, 198, 199, 200, 201, 202, 203, 204, 205, 206, 211, 212, 213, 214, 32, 34, 215, 216, 217, 218, 219, 220, 221, 222, 223, 224, 225, 226, 227, 228, 229, 230, 231, 232, 233, 234, 235, 236, 237, 374, 375, 376, 377, 378, 379, 382, 383, 393, 394, 395, 396, 397, 398, 399, 400, 401, 384, 385, 386, 402, 403] (by decide +kernel) (by decide +kernel)) (goodIn_sub (fun _ h => List.mem_cons_of_mem _ (List.mem_append_right _ h)) (by decide +kernel))) (goodIn_sub (fun _ h => List.mem_cons_of_mem _ (List.mem_append_left _ (List.mem_append_left _ (List.mem_append_right _ h)))) (by decide +kernel))) (goodIn_sub (fun _ h => List.mem_cons_of_mem _ (List.mem_append_left _ (List.mem_append_right _ h))) (by decide +kernel))
set_option maxRecDepth 20000 in
theorem gL_act_X11_learn : GoodIn wsL_act (wsV RL 109 RX11 yX11_learn wsX11_learn) := goodIn_app (goodIn_of _ (by decide +kernel)) ggL_act_X11_learn
theorem dL_act_0 : decode cL_act 0 = .ok (.iconst 1, 1) := by decide +kernel
theorem dL_act_1 : decode cL_act 1 = .ok (.istore 11, 2) := by decide +kernel
theorem dL_act_3 : decode cL_act 3 = .ok (.iload_n 1, 1) := by decide +kernel
theorem dL_act_4 : decode cL_act 4 = .ok (.iconst 3, 1) := by decide +kernel
theorem dL_act_5 : decode cL_act 5 = .ok (.if_icmp .ge 48, 3) := by decide +kernel
theorem dL_act_8 : decode cL_act 8 = .ok (.aload 10, 2) := by decide +kernel
theorem dL_act_10 : decode cL_act 10 = .ok (.iconst 0, 1) := by decide +kernel
theorem dL_act_11 : decode cL_act 11 = .ok (.iaload, 1) := by decide +kernel
theorem dL_act_12 : decode cL_act 12 = .ok (.bipush 6, 2) := by decide +kernel
theorem dL_act_14 : decode cL_act 14 = .ok (.if_icmp .ne 5, 3) := by decide +kernel
theorem dL_act_17 : decode cL_act 17 = .ok (.iconst 1, 1) := by decide +kernel
theorem dL_act_18 : decode cL_act 18 = .ok (.ireturn, 1) := by decide +kernel
theorem dL_act_19 : decode cL_act 19 = .ok (.aload_n 0, 1) := by decide +kernel
theorem dL_act_20 : decode cL_act 20 = .ok (.iload_n 2, 1) := by decide +kernel
theorem dL_act_21 : decode cL_act 21 = .ok (.iload_n 3, 1) := by decide +kernel
theorem dL_act_22 : decode cL_act 22 = .ok (.aload 4, 2) := by decide +kernel
theorem dL_act_24 : decode cL_act 24 = .ok (.aload 5, 2) := by decide +kernel
theorem dL_act_26 : decode cL_act 26 = .ok (.aload 10, 2) := by decide +kernel
theorem dL_act_28 : decode cL_act 28 = .ok (.invokestatic 88, 3) := by decide +kernel
theorem dL_act_31 : decode cL_act 31 = .ok (.istore 11, 2) := by decide +kernel
theorem dL_act_33 : decode cL_act 33 = .ok (.aload 4, 2) := by decide +kernel
theorem dL_act_35 : decode cL_act 35 = .ok (.aload 5, 2) := by decide +kernel
theorem dL_act_37 : decode cL_act 37 = .ok (.aload 6, 2) := by decide +kernel
theorem dL_act_39 : decode cL_act 39 = .ok (.aload 7, 2) := by decide +kernel
theorem dL_act_41 : decode cL_act 41 = .ok (.aload 8, 2) := by decide +kernel
theorem dL_act_43 : decode cL_act 43 = .ok (.aload 9, 2) := by decide +kernel
theorem dL_act_45 : decode cL_act 45 = .ok (.aload 10, 2) := by decide +kernel
theorem dL_act_47 : decode cL_act 47 = .ok (.invokestatic 68, 3) := by decide +kernel
theorem dL_act_50 : decode cL_act 50 = .ok (.iload 11, 2) := by decide +kernel
theorem dL_act_52 : decode cL_act 52 = .ok (.ireturn, 1) := by decide +kernel
theorem dL_act_53 : decode cL_act 53 = .ok (.iload_n 1, 1) := by decide +kernel
theorem dL_act_54 : decode cL_act 54 = .ok (.bipush 9, 2) := by decide +kernel
theorem dL_act_56 : decode cL_act 56 = .ok (.if_icmp .ge 171, 3) := by decide +kernel
theorem dL_act_59 : decode cL_act 59 = .ok (.iconst 0, 1) := by decide +kernel
theorem dL_act_60 : decode cL_act 60 = .ok (.istore 12, 2) := by decide +kernel
theorem dL_act_62 : decode cL_act 62 = .ok (.iload 12, 2) := by decide +kernel
theorem dL_act_64 : decode cL_act 64 = .ok (.iconst 3, 1) := by decide +kernel
theorem dL_act_65 : decode cL_act 65 = .ok (.if_icmp .ge 159, 3) := by decide +kernel
theorem dL_act_68 : decode cL_act 68 = .ok (.iload 11, 2) := by decide +kernel
theorem dL_act_70 : decode cL_act 70 = .ok (.ifCond .eq 154, 3) := by decide +kernel
theorem dL_act_73 : decode cL_act 73 = .ok (.aload 10, 2) := by decide +kernel
theorem dL_act_75 : decode cL_act 75 = .ok (.iconst 1, 1) := by decide +kernel
theorem dL_act_76 : decode cL_act 76 = .ok (.iaload, 1) := by decide +kernel
theorem dL_act_77 : decode cL_act 77 = .ok (.bipush 28, 2) := by decide +kernel
theorem dL_act_79 : decode cL_act 79 = .ok (.if_icmp .ge 145, 3) := by decide +kernel
theorem dL_act_82 : decode cL_act 82 = .ok (.aload 10, 2) := by decide +kernel
theorem dL_act_84 : decode cL_act 84 = .ok (.iconst 0, 1) := by decide +kernel
theorem dL_act_85 : decode cL_act 85 = .ok (.iaload, 1) := by decide +kernel
theorem dL_act_86 : decode cL_act 86 = .ok (.ifCond .ne 7, 3) := by decide +kernel
theorem dL_act_89 : decode cL_act 89 = .ok (.iconst 0, 1) := by decide +kernel
theorem dL_act_90 : decode cL_act 90 = .ok (.goto 16, 3) := by decide +kernel
theorem dL_act_93 : decode cL_act 93 = .ok (.iconst 5, 1) := by decide +kernel
theorem dL_act_94 : decode cL_act 94 = .ok (.iload_n 2, 1) := by decide +kernel
theorem dL_act_95 : decode cL_act 95 = .ok (.iload 12, 2) := by decide +kernel
theorem dL_act_97 : decode cL_act 97 = .ok (.ishr, 1) := by decide +kernel
theorem dL_act_98 : decode cL_act 98 = .ok (.aload 10, 2) := by decide +kernel
theorem dL_act_100 : decode cL_act 100 = .ok (.iconst 0, 1) := by decide +kernel
theorem dL_act_101 : decode cL_act 101 = .ok (.iaload, 1) := by decide +kernel
theorem dL_act_102 : decode cL_act 102 = .ok (.invokestatic 61, 3) := by decide +kernel
theorem dL_act_105 : decode cL_act 105 = .ok (.imul, 1) := by decide +kernel
theorem dL_act_106 : decode cL_act 106 = .ok (.istore 13, 2) := by decide +kernel
theorem dL_act_108 : decode cL_act 108 = .ok (.aload 10, 2) := by decide +kernel
theorem dL_act_110 : decode cL_act 110 = .ok (.iconst 0, 1) := by decide +kernel
theorem dL_act_111 : decode cL_act 111 = .ok (.iaload, 1) := by decide +kernel
theorem dL_act_112 : decode cL_act 112 = .ok (.ifCond .le 39, 3) := by decide +kernel
theorem dL_act_115 : decode cL_act 115 = .ok (.iload_n 3, 1) := by decide +kernel
theorem dL_act_116 : decode cL_act 116 = .ok (.iload 12, 2) := by decide +kernel
theorem dL_act_118 : decode cL_act 118 = .ok (.ishr, 1) := by decide +kernel
theorem dL_act_119 : decode cL_act 119 = .ok (.iconst 4, 1) := by decide +kernel
theorem dL_act_120 : decode cL_act 120 = .ok (.invokestatic 61, 3) := by decide +kernel
theorem dL_act_123 : decode cL_act 123 = .ok (.ifCond .le 28, 3) := by decide +kernel
theorem dL_act_126 : decode cL_act 126 = .ok (.aload 4, 2) := by decide +kernel
theorem dL_act_128 : decode cL_act 128 = .ok (.iload 13, 2) := by decide +kernel
theorem dL_act_130 : decode cL_act 130 = .ok (.iconst 1, 1) := by decide +kernel
theorem dL_act_131 : decode cL_act 131 = .ok (.iadd, 1) := by decide +kernel
theorem dL_act_132 : decode cL_act 132 = .ok (.iload_n 2, 1) := by decide +kernel
theorem dL_act_133 : decode cL_act 133 = .ok (.iload 12, 2) := by decide +kernel
theorem dL_act_135 : decode cL_act 135 = .ok (.iconst 3, 1) := by decide +kernel
theorem dL_act_136 : decode cL_act 136 = .ok (.iadd, 1) := by decide +kernel
theorem dL_act_137 : decode cL_act 137 = .ok (.ishr, 1) := by decide +kernel
theorem dL_act_138 : decode cL_act 138 = .ok (.aload 4, 2) := by decide +kernel
theorem dL_act_140 : decode cL_act 140 = .ok (.iload 13, 2) := by decide +kernel
theorem dL_act_142 : decode cL_act 142 = .ok (.iaload, 1) := by decide +kernel
theorem dL_act_143 : decode cL_act 143 = .ok (.invokestatic 61, 3) := by decide +kernel
theorem dL_act_146 : decode cL_act 146 = .ok (.iadd, 1) := by decide +kernel
theorem dL_act_147 : decode cL_act 147 = .ok (.iaload, 1) := by decide +kernel
theorem dL_act_148 : decode cL_act 148 = .ok (.goto 17, 3) := by decide +kernel
theorem dL_act_151 : decode cL_act 151 = .ok (.iconst 1, 1) := by decide +kernel
theorem dL_act_152 : decode cL_act 152 = .ok (.iload_n 3, 1) := by decide +kernel
theorem dL_act_153 : decode cL_act 153 = .ok (.iload 12, 2) := by decide +kernel
theorem dL_act_155 : decode cL_act 155 = .ok (.iconst 2, 1) := by decide +kernel
theorem dL_act_156 : decode cL_act 156 = .ok (.iadd, 1) := by decide +kernel
theorem dL_act_157 : decode cL_act 157 = .ok (.ishr, 1) := by decide +kernel
theorem dL_act_158 : decode cL_act 158 = .ok (.sipush 255, 3) := by decide +kernel
theorem dL_act_161 : decode cL_act 161 = .ok (.invokestatic 61, 3) := by decide +kernel
theorem dL_act_164 : decode cL_act 164 = .ok (.iadd, 1) := by decide +kernel
theorem dL_act_165 : decode cL_act 165 = .ok (.istore 14, 2) := by decide +kernel
theorem dL_act_167 : decode cL_act 167 = .ok (.aload 6, 2) := by decide +kernel
theorem dL_act_169 : decode cL_act 169 = .ok (.aload 10, 2) := by decide +kernel
theorem dL_act_171 : decode cL_act 171 = .ok (.iconst 1, 1) := by decide +kernel
theorem dL_act_172 : decode cL_act 172 = .ok (.dup2, 1) := by decide +kernel
theorem dL_act_173 : decode cL_act 173 = .ok (.iaload, 1) := by decide +kernel
theorem dL_act_174 : decode cL_act 174 = .ok (.dup_x2, 1) := by decide +kernel
theorem dL_act_175 : decode cL_act 175 = .ok (.iconst 1, 1) := by decide +kernel
theorem dL_act_176 : decode cL_act 176 = .ok (.iadd, 1) := by decide +kernel
theorem dL_act_177 : decode cL_act 177 = .ok (.iastore, 1) := by decide +kernel
theorem dL_act_178 : decode cL_act 178 = .ok (.iload 14, 2) := by decide +kernel
theorem dL_act_180 : decode cL_act 180 = .ok (.iastore, 1) := by decide +kernel
theorem dL_act_181 : decode cL_act 181 = .ok (.aload 4, 2) := by decide +kernel
theorem dL_act_183 : decode cL_act 183 = .ok (.aload 5, 2) := by decide +kernel
theorem dL_act_185 : decode cL_act 185 = .ok (.aload 6, 2) := by decide +kernel
theorem dL_act_187 : decode cL_act 187 = .ok (.aload 7, 2) := by decide +kernel
theorem dL_act_189 : decode cL_act 189 = .ok (.aload 8, 2) := by decide +kernel
theorem dL_act_191 : decode cL_act 191 = .ok (.aload 9, 2) := by decide +kernel
theorem dL_act_193 : decode cL_act 193 = .ok (.aload 10, 2) := by decide +kernel
theorem dL_act_195 : decode cL_act 195 = .ok (.invokestatic 68, 3) := by decide +kernel
theorem dL_act_198 : decode cL_act 198 = .ok (.aload_n 0, 1) := by decide +kernel
theorem dL_act_199 : decode cL_act 199 = .ok (.iload 14, 2) := by decide +kernel
theorem dL_act_201 : decode cL_act 201 = .ok (.invokevirtual 91, 3) := by decide +kernel
theorem dL_act_204 : decode cL_act 204 = .ok (.aload 10, 2) := by decide +kernel
theorem dL_act_206 : decode cL_act 206 = .ok (.iconst 2, 1) := by decide +kernel
theorem dL_act_207 : decode cL_act 207 = .ok (.iaload, 1) := by decide +kernel
theorem dL_act_208 : decode cL_act 208 = .ok (.if_icmp .ne 7, 3) := by decide +kernel
theorem dL_act_211 : decode cL_act 211 = .ok (.iconst 1, 1) := by decide +kernel
theorem dL_act_212 : decode cL_act 212 = .ok (.goto 4, 3) := by decide +kernel
theorem dL_act_215 : decode cL_act 215 = .ok (.iconst 0, 1) := by decide +kernel
theorem dL_act_216 : decode cL_act 216 = .ok (.istore 11, 2) := by decide +kernel
theorem dL_act_218 : decode cL_act 218 = .ok (.iinc 12 1, 3) := by decide +kernel
theorem dL_act_221 : decode cL_act 221 = .ok (.goto (-159), 3) := by decide +kernel
theorem dL_act_224 : decode cL_act 224 = .ok (.iload 11, 2) := by decide +kernel
theorem dL_act_226 : decode cL_act 226 = .ok (.ireturn, 1) := by decide +kernel
theorem dL_act_227 : decode cL_act 227 = .ok (.iload_n 1, 1) := by decide +kernel
theorem dL_act_228 : decode cL_act 228 = .ok (.bipush 11, 2) := by decide +kernel
theorem dL_act_230 : decode cL_act 230 = .ok (.if_icmp .ge 106, 3) := by decide +kernel
theorem dL_act_233 : decode cL_act 233 = .ok (.aload 10, 2) := by decide +kernel
theorem dL_act_235 : decode cL_act 235 = .ok (.iconst 1, 1) := by decide +kernel
theorem dL_act_236 : decode cL_act 236 = .ok (.iaload, 1) := by decide +kernel
theorem dL_act_237 : decode cL_act 237 = .ok (.ifCond .ne 5, 3) := by decide +kernel
theorem dL_act_240 : decode cL_act 240 = .ok (.iconst 1, 1) := by decide +kernel
theorem dL_act_241 : decode cL_act 241 = .ok (.ireturn, 1) := by decide +kernel
theorem dL_act_242 : decode cL_act 242 = .ok (.iconst 0, 1) := by decide +kernel
theorem dL_act_243 : decode cL_act 243 = .ok (.istore 12, 2) := by decide +kernel
theorem dL_act_245 : decode cL_act 245 = .ok (.iconst 0, 1) := by decide +kernel
theorem dL_act_246 : decode cL_act 246 = .ok (.istore 13, 2) := by decide +kernel
theorem dL_act_248 : decode cL_act 248 = .ok (.iload 13, 2) := by decide +kernel
theorem dL_act_250 : decode cL_act 250 = .ok (.aload 10, 2) := by decide +kernel
theorem dL_act_252 : decode cL_act 252 = .ok (.iconst 3, 1) := by decide +kernel
theorem dL_act_253 : decode cL_act 253 = .ok (.iaload, 1) := by decide +kernel
theorem dL_act_254 : decode cL_act 254 = .ok (.if_icmp .ge 19, 3) := by decide +kernel
theorem dL_act_257 : decode cL_act 257 = .ok (.iload 12, 2) := by decide +kernel
theorem dL_act_259 : decode cL_act 259 = .ok (.aload 7, 2) := by decide +kernel
theorem dL_act_261 : decode cL_act 261 = .ok (.iload 13, 2) := by decide +kernel
theorem dL_act_263 : decode cL_act 263 = .ok (.iaload, 1) := by decide +kernel
theorem dL_act_264 : decode cL_act 264 = .ok (.iadd, 1) := by decide +kernel
theorem dL_act_265 : decode cL_act 265 = .ok (.istore 12, 2) := by decide +kernel
theorem dL_act_267 : decode cL_act 267 = .ok (.iinc 13 1, 3) := by decide +kernel
theorem dL_act_270 : decode cL_act 270 = .ok (.goto (-22), 3) := by decide +kernel
theorem dL_act_273 : decode cL_act 273 = .ok (.iload 12, 2) := by decide +kernel
theorem dL_act_275 : decode cL_act 275 = .ok (.aload 10, 2) := by decide +kernel
theorem dL_act_277 : decode cL_act 277 = .ok (.iconst 1, 1) := by decide +kernel
theorem dL_act_278 : decode cL_act 278 = .ok (.iaload, 1) := by decide +kernel
theorem dL_act_279 : decode cL_act 279 = .ok (.if_icmp .ne 11, 3) := by decide +kernel
theorem dL_act_282 : decode cL_act 282 = .ok (.aload 10, 2) := by decide +kernel
theorem dL_act_284 : decode cL_act 284 = .ok (.iconst 3, 1) := by decide +kernel
theorem dL_act_285 : decode cL_act 285 = .ok (.dup2, 1) := by decide +kernel
theorem dL_act_286 : decode cL_act 286 = .ok (.iaload, 1) := by decide +kernel
theorem dL_act_287 : decode cL_act 287 = .ok (.iconst 1, 1) := by decide +kernel
theorem dL_act_288 : decode cL_act 288 = .ok (.isub, 1) := by decide +kernel
theorem dL_act_289 : decode cL_act 289 = .ok (.iastore, 1) := by decide +kernel
theorem dL_act_290 : decode cL_act 290 = .ok (.aload 6, 2) := by decide +kernel
theorem dL_act_292 : decode cL_act 292 = .ok (.aload 10, 2) := by decide +kernel
theorem dL_act_294 : decode cL_act 294 = .ok (.iconst 1, 1) := by decide +kernel
theorem dL_act_295 : decode cL_act 295 = .ok (.dup2, 1) := by decide +kernel
theorem dL_act_296 : decode cL_act 296 = .ok (.iaload, 1) := by decide +kernel
theorem dL_act_297 : decode cL_act 297 = .ok (.iconst 1, 1) := by decide +kernel
theorem dL_act_298 : decode cL_act 298 = .ok (.isub, 1) := by decide +kernel
theorem dL_act_299 : decode cL_act 299 = .ok (.dup_x2, 1) := by decide +kernel
theorem dL_act_300 : decode cL_act 300 = .ok (.iastore, 1) := by decide +kernel
theorem dL_act_301 : decode cL_act 301 = .ok (.iaload, 1) := by decide +kernel
theorem dL_act_302 : decode cL_act 302 = .ok (.istore 13, 2) := by decide +kernel
theorem dL_act_304 : decode cL_act 304 = .ok (.aload 4, 2) := by decide +kernel
theorem dL_act_306 : decode cL_act 306 = .ok (.aload 5, 2) := by decide +kernel
theorem dL_act_308 : decode cL_act 308 = .ok (.aload 6, 2) := by decide +kernel
theorem dL_act_310 : decode cL_act 310 = .ok (.aload 7, 2) := by decide +kernel
theorem dL_act_312 : decode cL_act 312 = .ok (.aload 8, 2) := by decide +kernel
theorem dL_act_314 : decode cL_act 314 = .ok (.aload 9, 2) := by decide +kernel
theorem dL_act_316 : decode cL_act 316 = .ok (.aload 10, 2) := by decide +kernel
theorem dL_act_318 : decode cL_act 318 = .ok (.invokestatic 68, 3) := by decide +kernel
theorem dL_act_321 : decode cL_act 321 = .ok (.aload_n 0, 1) := by decide +kernel
theorem dL_act_322 : decode cL_act 322 = .ok (.invokevirtual 94, 3) := by decide +kernel
theorem dL_act_325 : decode cL_act 325 = .ok (.iload 13, 2) := by decide +kernel
theorem dL_act_327 : decode cL_act 327 = .ok (.if_icmp .ne 7, 3) := by decide +kernel
theorem dL_act_330 : decode cL_act 330 = .ok (.iconst 1, 1) := by decide +kernel
theorem dL_act_331 : decode cL_act 331 = .ok (.goto 4, 3) := by decide +kernel
theorem dL_act_334 : decode cL_act 334 = .ok (.iconst 0, 1) := by decide +kernel
theorem dL_act_335 : decode cL_act 335 = .ok (.ireturn, 1) := by decide +kernel
theorem dL_act_336 : decode cL_act 336 = .ok (.iload_n 1, 1) := by decide +kernel
theorem dL_act_337 : decode cL_act 337 = .ok (.bipush 11, 2) := by decide +kernel
theorem dL_act_339 : decode cL_act 339 = .ok (.if_icmp .ne 64, 3) := by decide +kernel
theorem dL_act_342 : decode cL_act 342 = .ok (.aload 10, 2) := by decide +kernel
theorem dL_act_344 : decode cL_act 344 = .ok (.iconst 2, 1) := by decide +kernel
theorem dL_act_345 : decode cL_act 345 = .ok (.iaload, 1) := by decide +kernel
theorem dL_act_346 : decode cL_act 346 = .ok (.aload 10, 2) := by decide +kernel
theorem dL_act_348 : decode cL_act 348 = .ok (.iconst 3, 1) := by decide +kernel
theorem dL_act_349 : decode cL_act 349 = .ok (.iaload, 1) := by decide +kernel
theorem dL_act_350 : decode cL_act 350 = .ok (.isub, 1) := by decide +kernel
theorem dL_act_351 : decode cL_act 351 = .ok (.istore 12, 2) := by decide +kernel
theorem dL_act_353 : decode cL_act 353 = .ok (.aload 10, 2) := by decide +kernel
theorem dL_act_355 : decode cL_act 355 = .ok (.iconst 3, 1) := by decide +kernel
theorem dL_act_356 : decode cL_act 356 = .ok (.iaload, 1) := by decide +kernel
theorem dL_act_357 : decode cL_act 357 = .ok (.istore 13, 2) := by decide +kernel
theorem dL_act_359 : decode cL_act 359 = .ok (.iload 13, 2) := by decide +kernel
theorem dL_act_361 : decode cL_act 361 = .ok (.aload 10, 2) := by decide +kernel
theorem dL_act_363 : decode cL_act 363 = .ok (.iconst 2, 1) := by decide +kernel
theorem dL_act_364 : decode cL_act 364 = .ok (.iaload, 1) := by decide +kernel
theorem dL_act_365 : decode cL_act 365 = .ok (.if_icmp .ge 15, 3) := by decide +kernel
theorem dL_act_368 : decode cL_act 368 = .ok (.aload 8, 2) := by decide +kernel
theorem dL_act_370 : decode cL_act 370 = .ok (.iload 13, 2) := by decide +kernel
theorem dL_act_372 : decode cL_act 372 = .ok (.iconst (-1), 1) := by decide +kernel
theorem dL_act_373 : decode cL_act 373 = .ok (.iastore, 1) := by decide +kernel
theorem dL_act_374 : decode cL_act 374 = .ok (.iinc 13 1, 3) := by decide +kernel
theorem dL_act_377 : decode cL_act 377 = .ok (.goto (-18), 3) := by decide +kernel
theorem dL_act_380 : decode cL_act 380 = .ok (.aload 10, 2) := by decide +kernel
theorem dL_act_382 : decode cL_act 382 = .ok (.iconst 3, 1) := by decide +kernel
theorem dL_act_383 : decode cL_act 383 = .ok (.aload 10, 2) := by decide +kernel
theorem dL_act_385 : decode cL_act 385 = .ok (.iconst 2, 1) := by decide +kernel
theorem dL_act_386 : decode cL_act 386 = .ok (.iaload, 1) := by decide +kernel
theorem dL_act_387 : decode cL_act 387 = .ok (.iastore, 1) := by decide +kernel
theorem dL_act_388 : decode cL_act 388 = .ok (.aload_n 0, 1) := by decide +kernel
theorem dL_act_389 : decode cL_act 389 = .ok (.invokevirtual 97, 3) := by decide +kernel
theorem dL_act_392 : decode cL_act 392 = .ok (.iload 12, 2) := by decide +kernel
theorem dL_act_394 : decode cL_act 394 = .ok (.if_icmp .ne 7, 3) := by decide +kernel
theorem dL_act_397 : decode cL_act 397 = .ok (.iconst 1, 1) := by decide +kernel
theorem dL_act_398 : decode cL_act 398 = .ok (.goto 4, 3) := by decide +kernel
theorem dL_act_401 : decode cL_act 401 = .ok (.iconst 0, 1) := by decide +kernel
theorem dL_act_402 : decode cL_act 402 = .ok (.ireturn, 1) := by decide +kernel
theorem dL_act_403 : decode cL_act 403 = .ok (.iload_n 1, 1) := by decide +kernel
theorem dL_act_404 : decode cL_act 404 = .ok (.bipush 12, 2) := by decide +kernel
theorem dL_act_406 : decode cL_act 406 = .ok (.if_icmp .ne 55, 3) := by decide +kernel
theorem dL_act_409 : decode cL_act 409 = .ok (.aload 10, 2) := by decide +kernel
theorem dL_act_411 : decode cL_act 411 = .ok (.iconst 4, 1) := by decide +kernel
theorem dL_act_412 : decode cL_act 412 = .ok (.iaload, 1) := by decide +kernel
theorem dL_act_413 : decode cL_act 413 = .ok (.istore 12, 2) := by decide +kernel
theorem dL_act_415 : decode cL_act 415 = .ok (.aload 10, 2) := by decide +kernel
theorem dL_act_417 : decode cL_act 417 = .ok (.iconst 4, 1) := by decide +kernel
theorem dL_act_418 : decode cL_act 418 = .ok (.iload_n 3, 1) := by decide +kernel
theorem dL_act_419 : decode cL_act 419 = .ok (.bipush 31, 2) := by decide +kernel
theorem dL_act_421 : decode cL_act 421 = .ok (.invokestatic 61, 3) := by decide +kernel
theorem dL_act_424 : decode cL_act 424 = .ok (.iastore, 1) := by decide +kernel
theorem dL_act_425 : decode cL_act 425 = .ok (.aload 4, 2) := by decide +kernel
theorem dL_act_427 : decode cL_act 427 = .ok (.aload 5, 2) := by decide +kernel
theorem dL_act_429 : decode cL_act 429 = .ok (.aload 6, 2) := by decide +kernel
theorem dL_act_431 : decode cL_act 431 = .ok (.aload 7, 2) := by decide +kernel
theorem dL_act_433 : decode cL_act 433 = .ok (.aload 8, 2) := by decide +kernel
theorem dL_act_435 : decode cL_act 435 = .ok (.aload 9, 2) := by decide +kernel
theorem dL_act_437 : decode cL_act 437 = .ok (.aload 10, 2) := by decide +kernel
theorem dL_act_439 : decode cL_act 439 = .ok (.invokestatic 68, 3) := by decide +kernel
theorem dL_act_442 : decode cL_act 442 = .ok (.aload_n 0, 1) := by decide +kernel
theorem dL_act_443 : decode cL_act 443 = .ok (.aload 10, 2) := by decide +kernel
theorem dL_act_445 : decode cL_act 445 = .ok (.iconst 4, 1) := by decide +kernel
theorem dL_act_446 : decode cL_act 446 = .ok (.iaload, 1) := by decide +kernel
theorem dL_act_447 : decode cL_act 447 = .ok (.invokevirtual 100, 3) := by decide +kernel
theorem dL_act_450 : decode cL_act 450 = .ok (.iload 12, 2) := by decide +kernel
theorem dL_act_452 : decode cL_act 452 = .ok (.if_icmp .ne 7, 3) := by decide +kernel
theorem dL_act_455 : decode cL_act 455 = .ok (.iconst 1, 1) := by decide +kernel
theorem dL_act_456 : decode cL_act 456 = .ok (.goto 4, 3) := by decide +kernel
theorem dL_act_459 : decode cL_act 459 = .ok (.iconst 0, 1) := by decide +kernel
theorem dL_act_460 : decode cL_act 460 = .ok (.ireturn, 1) := by decide +kernel
theorem dL_act_461 : decode cL_act 461 = .ok (.aload 10, 2) := by decide +kernel
theorem dL_act_463 : decode cL_act 463 = .ok (.iconst 0, 1) := by decide +kernel
theorem dL_act_464 : decode cL_act 464 = .ok (.iaload, 1) := by decide +kernel
theorem dL_act_465 : decode cL_act 465 = .ok (.ifCond .ne 5, 3) := by decide +kernel
theorem dL_act_468 : decode cL_act 468 = .ok (.iconst 1, 1) := by decide +kernel
theorem dL_act_469 : decode cL_act 469 = .ok (.ireturn, 1) := by decide +kernel
theorem dL_act_470 : decode cL_act 470 = .ok (.iload_n 2, 1) := by decide +kernel
theorem dL_act_471 : decode cL_act 471 = .ok (.aload 10, 2) := by decide +kernel
theorem dL_act_473 : decode cL_act 473 = .ok (.iconst 0, 1) := by decide +kernel
theorem dL_act_474 : decode cL_act 474 = .ok (.iaload, 1) := by decide +kernel
theorem dL_act_475 : decode cL_act 475 = .ok (.invokestatic 61, 3) := by decide +kernel
theorem dL_act_478 : decode cL_act 478 = .ok (.istore 12, 2) := by decide +kernel
theorem dL_act_480 : decode cL_act 480 = .ok (.iload_n 1, 1) := by decide +kernel
theorem dL_act_481 : decode cL_act 481 = .ok (.bipush 13, 2) := by decide +kernel
theorem dL_act_483 : decode cL_act 483 = .ok (.if_icmp .ne 50, 3) := by decide +kernel
theorem dL_act_486 : decode cL_act 486 = .ok (.iload 12, 2) := by decide +kernel
theorem dL_act_488 : decode cL_act 488 = .ok (.aload 4, 2) := by decide +kernel
theorem dL_act_490 : decode cL_act 490 = .ok (.aload 5, 2) := by decide +kernel
theorem dL_act_492 : decode cL_act 492 = .ok (.aload 10, 2) := by decide +kernel
theorem dL_act_494 : decode cL_act 494 = .ok (.invokestatic 64, 3) := by decide +kernel
theorem dL_act_497 : decode cL_act 497 = .ok (.aload 4, 2) := by decide +kernel
theorem dL_act_499 : decode cL_act 499 = .ok (.aload 5, 2) := by decide +kernel
theorem dL_act_501 : decode cL_act 501 = .ok (.aload 6, 2) := by decide +kernel
theorem dL_act_503 : decode cL_act 503 = .ok (.aload 7, 2) := by decide +kernel
theorem dL_act_505 : decode cL_act 505 = .ok (.aload 8, 2) := by decide +kernel
theorem dL_act_507 : decode cL_act 507 = .ok (.aload 9, 2) := by decide +kernel
theorem dL_act_509 : decode cL_act 509 = .ok (.aload 10, 2) := by decide +kernel
theorem dL_act_511 : decode cL_act 511 = .ok (.invokestatic 68, 3) := by decide +kernel
theorem dL_act_514 : decode cL_act 514 = .ok (.aload_n 0, 1) := by decide +kernel
theorem dL_act_515 : decode cL_act 515 = .ok (.iload 12, 2) := by decide +kernel
theorem dL_act_517 : decode cL_act 517 = .ok (.invokevirtual 103, 3) := by decide +kernel
theorem dL_act_520 : decode cL_act 520 = .ok (.aload 10, 2) := by decide +kernel
theorem dL_act_522 : decode cL_act 522 = .ok (.iconst 2, 1) := by decide +kernel
theorem dL_act_523 : decode cL_act 523 = .ok (.iaload, 1) := by decide +kernel
theorem dL_act_524 : decode cL_act 524 = .ok (.if_icmp .ne 7, 3) := by decide +kernel
theorem dL_act_527 : decode cL_act 527 = .ok (.iconst 1, 1) := by decide +kernel
theorem dL_act_528 : decode cL_act 528 = .ok (.goto 4, 3) := by decide +kernel
theorem dL_act_531 : decode cL_act 531 = .ok (.iconst 0, 1) := by decide +kernel
theorem dL_act_532 : decode cL_act 532 = .ok (.ireturn, 1) := by decide +kernel
theorem dL_act_533 : decode cL_act 533 = .ok (.iload_n 1, 1) := by decide +kernel
theorem dL_act_534 : decode cL_act 534 = .ok (.bipush 14, 2) := by decide +kernel
theorem dL_act_536 : decode cL_act 536 = .ok (.if_icmp .ne 117, 3) := by decide +kernel
theorem dL_act_539 : decode cL_act 539 = .ok (.iload_n 3, 1) := by decide +kernel
theorem dL_act_540 : decode cL_act 540 = .ok (.aload 10, 2) := by decide +kernel
theorem dL_act_542 : decode cL_act 542 = .ok (.iconst 0, 1) := by decide +kernel
theorem dL_act_543 : decode cL_act 543 = .ok (.iaload, 1) := by decide +kernel
theorem dL_act_544 : decode cL_act 544 = .ok (.invokestatic 61, 3) := by decide +kernel
theorem dL_act_547 : decode cL_act 547 = .ok (.istore 13, 2) := by decide +kernel
theorem dL_act_549 : decode cL_act 549 = .ok (.iconst 0, 1) := by decide +kernel
theorem dL_act_550 : decode cL_act 550 = .ok (.istore 14, 2) := by decide +kernel
theorem dL_act_552 : decode cL_act 552 = .ok (.aload 10, 2) := by decide +kernel
theorem dL_act_554 : decode cL_act 554 = .ok (.iconst 3, 1) := by decide +kernel
theorem dL_act_555 : decode cL_act 555 = .ok (.iaload, 1) := by decide +kernel
theorem dL_act_556 : decode cL_act 556 = .ok (.istore 15, 2) := by decide +kernel
theorem dL_act_558 : decode cL_act 558 = .ok (.iload 15, 2) := by decide +kernel
theorem dL_act_560 : decode cL_act 560 = .ok (.aload 10, 2) := by decide +kernel
theorem dL_act_562 : decode cL_act 562 = .ok (.iconst 2, 1) := by decide +kernel
theorem dL_act_563 : decode cL_act 563 = .ok (.iaload, 1) := by decide +kernel
theorem dL_act_564 : decode cL_act 564 = .ok (.if_icmp .ge 43, 3) := by decide +kernel
theorem dL_act_567 : decode cL_act 567 = .ok (.iload 14, 2) := by decide +kernel
theorem dL_act_569 : decode cL_act 569 = .ok (.aload 8, 2) := by decide +kernel
theorem dL_act_571 : decode cL_act 571 = .ok (.iload 15, 2) := by decide +kernel
theorem dL_act_573 : decode cL_act 573 = .ok (.iaload, 1) := by decide +kernel
theorem dL_act_574 : decode cL_act 574 = .ok (.iload 12, 2) := by decide +kernel
theorem dL_act_576 : decode cL_act 576 = .ok (.if_icmp .ne 21, 3) := by decide +kernel
theorem dL_act_579 : decode cL_act 579 = .ok (.aload 5, 2) := by decide +kernel
theorem dL_act_581 : decode cL_act 581 = .ok (.iload 12, 2) := by decide +kernel
theorem dL_act_583 : decode cL_act 583 = .ok (.laload, 1) := by decide +kernel
theorem dL_act_584 : decode cL_act 584 = .ok (.aload 5, 2) := by decide +kernel
theorem dL_act_586 : decode cL_act 586 = .ok (.iload 13, 2) := by decide +kernel
theorem dL_act_588 : decode cL_act 588 = .ok (.laload, 1) := by decide +kernel
theorem dL_act_589 : decode cL_act 589 = .ok (.lcmp, 1) := by decide +kernel
theorem dL_act_590 : decode cL_act 590 = .ok (.ifCond .eq 7, 3) := by decide +kernel
theorem dL_act_593 : decode cL_act 593 = .ok (.iconst 1, 1) := by decide +kernel
theorem dL_act_594 : decode cL_act 594 = .ok (.goto 4, 3) := by decide +kernel
theorem dL_act_597 : decode cL_act 597 = .ok (.iconst 0, 1) := by decide +kernel
theorem dL_act_598 : decode cL_act 598 = .ok (.iadd, 1) := by decide +kernel
theorem dL_act_599 : decode cL_act 599 = .ok (.istore 14, 2) := by decide +kernel
theorem dL_act_601 : decode cL_act 601 = .ok (.iinc 15 1, 3) := by decide +kernel
theorem dL_act_604 : decode cL_act 604 = .ok (.goto (-46), 3) := by decide +kernel
theorem dL_act_607 : decode cL_act 607 = .ok (.aload 5, 2) := by decide +kernel
theorem dL_act_609 : decode cL_act 609 = .ok (.iload 12, 2) := by decide +kernel
theorem dL_act_611 : decode cL_act 611 = .ok (.aload 5, 2) := by decide +kernel
theorem dL_act_613 : decode cL_act 613 = .ok (.iload 13, 2) := by decide +kernel
theorem dL_act_615 : decode cL_act 615 = .ok (.laload, 1) := by decide +kernel
theorem dL_act_616 : decode cL_act 616 = .ok (.lastore, 1) := by decide +kernel
theorem dL_act_617 : decode cL_act 617 = .ok (.aload 4, 2) := by decide +kernel
theorem dL_act_619 : decode cL_act 619 = .ok (.aload 5, 2) := by decide +kernel
theorem dL_act_621 : decode cL_act 621 = .ok (.aload 6, 2) := by decide +kernel
theorem dL_act_623 : decode cL_act 623 = .ok (.aload 7, 2) := by decide +kernel
theorem dL_act_625 : decode cL_act 625 = .ok (.aload 8, 2) := by decide +kernel
theorem dL_act_627 : decode cL_act 627 = .ok (.aload 9, 2) := by decide +kernel
theorem dL_act_629 : decode cL_act 629 = .ok (.aload 10, 2) := by decide +kernel
theorem dL_act_631 : decode cL_act 631 = .ok (.invokestatic 68, 3) := by decide +kernel
theorem dL_act_634 : decode cL_act 634 = .ok (.aload_n 0, 1) := by decide +kernel
theorem dL_act_635 : decode cL_act 635 = .ok (.iload 12, 2) := by decide +kernel
theorem dL_act_637 : decode cL_act 637 = .ok (.iload 13, 2) := by decide +kernel
theorem dL_act_639 : decode cL_act 639 = .ok (.invokevirtual 106, 3) := by decide +kernel
theorem dL_act_642 : decode cL_act 642 = .ok (.iload 14, 2) := by decide +kernel
theorem dL_act_644 : decode cL_act 644 = .ok (.if_icmp .ne 7, 3) := by decide +kernel
theorem dL_act_647 : decode cL_act 647 = .ok (.iconst 1, 1) := by decide +kernel
theorem dL_act_648 : decode cL_act 648 = .ok (.goto 4, 3) := by decide +kernel
theorem dL_act_651 : decode cL_act 651 = .ok (.iconst 0, 1) := by decide +kernel
theorem dL_act_652 : decode cL_act 652 = .ok (.ireturn, 1) := by decide +kernel
theorem dL_act_653 : decode cL_act 653 = .ok (.aload 10, 2) := by decide +kernel
theorem dL_act_655 : decode cL_act 655 = .ok (.iconst 2, 1) := by decide +kernel
theorem dL_act_656 : decode cL_act 656 = .ok (.iaload, 1) := by decide +kernel
theorem dL_act_657 : decode cL_act 657 = .ok (.ifCond .eq 12, 3) := by decide +kernel
theorem dL_act_660 : decode cL_act 660 = .ok (.aload 10, 2) := by decide +kernel
theorem dL_act_662 : decode cL_act 662 = .ok (.iconst 0, 1) := by decide +kernel
theorem dL_act_663 : decode cL_act 663 = .ok (.iaload, 1) := by decide +kernel
theorem dL_act_664 : decode cL_act 664 = .ok (.bipush 6, 2) := by decide +kernel
theorem dL_act_666 : decode cL_act 666 = .ok (.if_icmp .ne 5, 3) := by decide +kernel
theorem dL_act_669 : decode cL_act 669 = .ok (.iconst 1, 1) := by decide +kernel
theorem dL_act_670 : decode cL_act 670 = .ok (.ireturn, 1) := by decide +kernel
theorem dL_act_671 : decode cL_act 671 = .ok (.iload_n 2, 1) := by decide +kernel
theorem dL_act_672 : decode cL_act 672 = .ok (.aload 10, 2) := by decide +kernel
theorem dL_act_674 : decode cL_act 674 = .ok (.iconst 2, 1) := by decide +kernel
theorem dL_act_675 : decode cL_act 675 = .ok (.iaload, 1) := by decide +kernel
theorem dL_act_676 : decode cL_act 676 = .ok (.invokestatic 61, 3) := by decide +kernel
theorem dL_act_679 : decode cL_act 679 = .ok (.istore 13, 2) := by decide +kernel
theorem dL_act_681 : decode cL_act 681 = .ok (.iload 13, 2) := by decide +kernel
theorem dL_act_683 : decode cL_act 683 = .ok (.iload_n 3, 1) := by decide +kernel
theorem dL_act_684 : decode cL_act 684 = .ok (.aload 10, 2) := by decide +kernel
theorem dL_act_686 : decode cL_act 686 = .ok (.iconst 2, 1) := by decide +kernel
theorem dL_act_687 : decode cL_act 687 = .ok (.iaload, 1) := by decide +kernel
theorem dL_act_688 : decode cL_act 688 = .ok (.iload 13, 2) := by decide +kernel
theorem dL_act_690 : decode cL_act 690 = .ok (.isub, 1) := by decide +kernel
theorem dL_act_691 : decode cL_act 691 = .ok (.iconst 3, 1) := by decide +kernel
theorem dL_act_692 : decode cL_act 692 = .ok (.if_icmp .ge 13, 3) := by decide +kernel
theorem dL_act_695 : decode cL_act 695 = .ok (.aload 10, 2) := by decide +kernel
theorem dL_act_697 : decode cL_act 697 = .ok (.iconst 2, 1) := by decide +kernel
theorem dL_act_698 : decode cL_act 698 = .ok (.iaload, 1) := by decide +kernel
theorem dL_act_699 : decode cL_act 699 = .ok (.iload 13, 2) := by decide +kernel
theorem dL_act_701 : decode cL_act 701 = .ok (.isub, 1) := by decide +kernel
theorem dL_act_702 : decode cL_act 702 = .ok (.goto 4, 3) := by decide +kernel
theorem dL_act_705 : decode cL_act 705 = .ok (.iconst 3, 1) := by decide +kernel
theorem dL_act_706 : decode cL_act 706 = .ok (.invokestatic 61, 3) := by decide +kernel
theorem dL_act_709 : decode cL_act 709 = .ok (.iadd, 1) := by decide +kernel
theorem dL_act_710 : decode cL_act 710 = .ok (.istore 14, 2) := by decide +kernel
theorem dL_act_712 : decode cL_act 712 = .ok (.iconst 0, 1) := by decide +kernel
theorem dL_act_713 : decode cL_act 713 = .ok (.istore 15, 2) := by decide +kernel
theorem dL_act_715 : decode cL_act 715 = .ok (.iconst 0, 1) := by decide +kernel
theorem dL_act_716 : decode cL_act 716 = .ok (.istore 16, 2) := by decide +kernel
theorem dL_act_718 : decode cL_act 718 = .ok (.lconst 0, 1) := by decide +kernel
theorem dL_act_719 : decode cL_act 719 = .ok (.lstore 17, 2) := by decide +kernel
theorem dL_act_721 : decode cL_act 721 = .ok (.iconst 0, 1) := by decide +kernel
theorem dL_act_722 : decode cL_act 722 = .ok (.istore 19, 2) := by decide +kernel
theorem dL_act_724 : decode cL_act 724 = .ok (.iconst 0, 1) := by decide +kernel
theorem dL_act_725 : decode cL_act 725 = .ok (.istore 20, 2) := by decide +kernel
theorem dL_act_727 : decode cL_act 727 = .ok (.iload 20, 2) := by decide +kernel
theorem dL_act_729 : decode cL_act 729 = .ok (.iload 14, 2) := by decide +kernel
theorem dL_act_731 : decode cL_act 731 = .ok (.if_icmp .gt 118, 3) := by decide +kernel
theorem dL_act_734 : decode cL_act 734 = .ok (.iload 20, 2) := by decide +kernel
theorem dL_act_736 : decode cL_act 736 = .ok (.iload 13, 2) := by decide +kernel
theorem dL_act_738 : decode cL_act 738 = .ok (.if_icmp .ge 16, 3) := by decide +kernel
theorem dL_act_741 : decode cL_act 741 = .ok (.iload 15, 2) := by decide +kernel
theorem dL_act_743 : decode cL_act 743 = .ok (.aload 7, 2) := by decide +kernel
theorem dL_act_745 : decode cL_act 745 = .ok (.iload 20, 2) := by decide +kernel
theorem dL_act_747 : decode cL_act 747 = .ok (.iaload, 1) := by decide +kernel
theorem dL_act_748 : decode cL_act 748 = .ok (.iadd, 1) := by decide +kernel
theorem dL_act_749 : decode cL_act 749 = .ok (.istore 15, 2) := by decide +kernel
theorem dL_act_751 : decode cL_act 751 = .ok (.goto 92, 3) := by decide +kernel
theorem dL_act_754 : decode cL_act 754 = .ok (.iload 16, 2) := by decide +kernel
theorem dL_act_756 : decode cL_act 756 = .ok (.aload 7, 2) := by decide +kernel
theorem dL_act_758 : decode cL_act 758 = .ok (.iload 20, 2) := by decide +kernel
theorem dL_act_760 : decode cL_act 760 = .ok (.iaload, 1) := by decide +kernel
theorem dL_act_761 : decode cL_act 761 = .ok (.iadd, 1) := by decide +kernel
theorem dL_act_762 : decode cL_act 762 = .ok (.istore 16, 2) := by decide +kernel
theorem dL_act_764 : decode cL_act 764 = .ok (.iconst 0, 1) := by decide +kernel
theorem dL_act_765 : decode cL_act 765 = .ok (.istore 21, 2) := by decide +kernel
theorem dL_act_767 : decode cL_act 767 = .ok (.iload 21, 2) := by decide +kernel
theorem dL_act_769 : decode cL_act 769 = .ok (.aload 9, 2) := by decide +kernel
theorem dL_act_771 : decode cL_act 771 = .ok (.iload 20, 2) := by decide +kernel
theorem dL_act_773 : decode cL_act 773 = .ok (.laload, 1) := by decide +kernel
theorem dL_act_774 : decode cL_act 774 = .ok (.invokestatic 26, 3) := by decide +kernel
theorem dL_act_777 : decode cL_act 777 = .ok (.if_icmp .ge 66, 3) := by decide +kernel
theorem dL_act_780 : decode cL_act 780 = .ok (.iload 19, 2) := by decide +kernel
theorem dL_act_782 : decode cL_act 782 = .ok (.bipush 8, 2) := by decide +kernel
theorem dL_act_784 : decode cL_act 784 = .ok (.if_icmp .ge 59, 3) := by decide +kernel
theorem dL_act_787 : decode cL_act 787 = .ok (.aload 9, 2) := by decide +kernel
theorem dL_act_789 : decode cL_act 789 = .ok (.iload 20, 2) := by decide +kernel
theorem dL_act_791 : decode cL_act 791 = .ok (.laload, 1) := by decide +kernel
theorem dL_act_792 : decode cL_act 792 = .ok (.bipush 7, 2) := by decide +kernel
theorem dL_act_794 : decode cL_act 794 = .ok (.iload 21, 2) := by decide +kernel
theorem dL_act_796 : decode cL_act 796 = .ok (.imul, 1) := by decide +kernel
theorem dL_act_797 : decode cL_act 797 = .ok (.lshr, 1) := by decide +kernel
theorem dL_act_798 : decode cL_act 798 = .ok (.ldc2_w 36, 3) := by decide +kernel
theorem dL_act_801 : decode cL_act 801 = .ok (.land, 1) := by decide +kernel
theorem dL_act_802 : decode cL_act 802 = .ok (.l2i, 1) := by decide +kernel
theorem dL_act_803 : decode cL_act 803 = .ok (.istore 22, 2) := by decide +kernel
theorem dL_act_805 : decode cL_act 805 = .ok (.lload 17, 2) := by decide +kernel
theorem dL_act_807 : decode cL_act 807 = .ok (.iload 22, 2) := by decide +kernel
theorem dL_act_809 : decode cL_act 809 = .ok (.bipush 97, 2) := by decide +kernel
theorem dL_act_811 : decode cL_act 811 = .ok (.if_icmp .ge 11, 3) := by decide +kernel
theorem dL_act_814 : decode cL_act 814 = .ok (.iload 22, 2) := by decide +kernel
theorem dL_act_816 : decode cL_act 816 = .ok (.bipush 32, 2) := by decide +kernel
theorem dL_act_818 : decode cL_act 818 = .ok (.iadd, 1) := by decide +kernel
theorem dL_act_819 : decode cL_act 819 = .ok (.goto 5, 3) := by decide +kernel
theorem dL_act_822 : decode cL_act 822 = .ok (.iload 22, 2) := by decide +kernel
theorem dL_act_824 : decode cL_act 824 = .ok (.i2l, 1) := by decide +kernel
theorem dL_act_825 : decode cL_act 825 = .ok (.bipush 7, 2) := by decide +kernel
theorem dL_act_827 : decode cL_act 827 = .ok (.iload 19, 2) := by decide +kernel
theorem dL_act_829 : decode cL_act 829 = .ok (.iinc 19 1, 3) := by decide +kernel
theorem dL_act_832 : decode cL_act 832 = .ok (.imul, 1) := by decide +kernel
theorem dL_act_833 : decode cL_act 833 = .ok (.lshl, 1) := by decide +kernel
theorem dL_act_834 : decode cL_act 834 = .ok (.lor, 1) := by decide +kernel
theorem dL_act_835 : decode cL_act 835 = .ok (.lstore 17, 2) := by decide +kernel
theorem dL_act_837 : decode cL_act 837 = .ok (.iinc 21 1, 3) := by decide +kernel
theorem dL_act_840 : decode cL_act 840 = .ok (.goto (-73), 3) := by decide +kernel
theorem dL_act_843 : decode cL_act 843 = .ok (.iinc 20 1, 3) := by decide +kernel
theorem dL_act_846 : decode cL_act 846 = .ok (.goto (-119), 3) := by decide +kernel
theorem dL_act_849 : decode cL_act 849 = .ok (.iload 16, 2) := by decide +kernel
theorem dL_act_851 : decode cL_act 851 = .ok (.iconst 4, 1) := by decide +kernel
theorem dL_act_852 : decode cL_act 852 = .ok (.if_icmp .le 5, 3) := by decide +kernel
theorem dL_act_855 : decode cL_act 855 = .ok (.iconst 1, 1) := by decide +kernel
theorem dL_act_856 : decode cL_act 856 = .ok (.ireturn, 1) := by decide +kernel
theorem dL_act_857 : decode cL_act 857 = .ok (.iconst 5, 1) := by decide +kernel
theorem dL_act_858 : decode cL_act 858 = .ok (.aload 10, 2) := by decide +kernel
theorem dL_act_860 : decode cL_act 860 = .ok (.iconst 0, 1) := by decide +kernel
theorem dL_act_861 : decode cL_act 861 = .ok (.iaload, 1) := by decide +kernel
theorem dL_act_862 : decode cL_act 862 = .ok (.imul, 1) := by decide +kernel
theorem dL_act_863 : decode cL_act 863 = .ok (.istore 20, 2) := by decide +kernel
theorem dL_act_865 : decode cL_act 865 = .ok (.aload 4, 2) := by decide +kernel
theorem dL_act_867 : decode cL_act 867 = .ok (.iload 20, 2) := by decide +kernel
theorem dL_act_869 : decode cL_act 869 = .ok (.iload 16, 2) := by decide +kernel
theorem dL_act_871 : decode cL_act 871 = .ok (.iastore, 1) := by decide +kernel
theorem dL_act_872 : decode cL_act 872 = .ok (.iconst 0, 1) := by decide +kernel
theorem dL_act_873 : decode cL_act 873 = .ok (.istore 21, 2) := by decide +kernel
theorem dL_act_875 : decode cL_act 875 = .ok (.iload 21, 2) := by decide +kernel
theorem dL_act_877 : decode cL_act 877 = .ok (.iload 16, 2) := by decide +kernel
theorem dL_act_879 : decode cL_act 879 = .ok (.if_icmp .ge 27, 3) := by decide +kernel
theorem dL_act_882 : decode cL_act 882 = .ok (.aload 4, 2) := by decide +kernel
theorem dL_act_884 : decode cL_act 884 = .ok (.iload 20, 2) := by decide +kernel
theorem dL_act_886 : decode cL_act 886 = .ok (.iconst 1, 1) := by decide +kernel
theorem dL_act_887 : decode cL_act 887 = .ok (.iadd, 1) := by decide +kernel
theorem dL_act_888 : decode cL_act 888 = .ok (.iload 21, 2) := by decide +kernel
theorem dL_act_890 : decode cL_act 890 = .ok (.iadd, 1) := by decide +kernel
theorem dL_act_891 : decode cL_act 891 = .ok (.aload 6, 2) := by decide +kernel
theorem dL_act_893 : decode cL_act 893 = .ok (.iload 15, 2) := by decide +kernel
theorem dL_act_895 : decode cL_act 895 = .ok (.iload 21, 2) := by decide +kernel
theorem dL_act_897 : decode cL_act 897 = .ok (.iadd, 1) := by decide +kernel
theorem dL_act_898 : decode cL_act 898 = .ok (.iaload, 1) := by decide +kernel
theorem dL_act_899 : decode cL_act 899 = .ok (.iastore, 1) := by decide +kernel
theorem dL_act_900 : decode cL_act 900 = .ok (.iinc 21 1, 3) := by decide +kernel
theorem dL_act_903 : decode cL_act 903 = .ok (.goto (-28), 3) := by decide +kernel
theorem dL_act_906 : decode cL_act 906 = .ok (.iconst 0, 1) := by decide +kernel
theorem dL_act_907 : decode cL_act 907 = .ok (.istore 21, 2) := by decide +kernel
theorem dL_act_909 : decode cL_act 909 = .ok (.iload 21, 2) := by decide +kernel
theorem dL_act_911 : decode cL_act 911 = .ok (.aload 10, 2) := by decide +kernel
theorem dL_act_913 : decode cL_act 913 = .ok (.iconst 0, 1) := by decide +kernel
theorem dL_act_914 : decode cL_act 914 = .ok (.iaload, 1) := by decide +kernel
theorem dL_act_915 : decode cL_act 915 = .ok (.if_icmp .ge 38, 3) := by decide +kernel
theorem dL_act_918 : decode cL_act 918 = .ok (.aload 4, 2) := by decide +kernel
theorem dL_act_920 : decode cL_act 920 = .ok (.iconst 5, 1) := by decide +kernel
theorem dL_act_921 : decode cL_act 921 = .ok (.iload 21, 2) := by decide +kernel
theorem dL_act_923 : decode cL_act 923 = .ok (.imul, 1) := by decide +kernel
theorem dL_act_924 : decode cL_act 924 = .ok (.iaload, 1) := by decide +kernel
theorem dL_act_925 : decode cL_act 925 = .ok (.iload 16, 2) := by decide +kernel
theorem dL_act_927 : decode cL_act 927 = .ok (.if_icmp .ne 20, 3) := by decide +kernel
theorem dL_act_930 : decode cL_act 930 = .ok (.iload 21, 2) := by decide +kernel
theorem dL_act_932 : decode cL_act 932 = .ok (.iconst 0, 1) := by decide +kernel
theorem dL_act_933 : decode cL_act 933 = .ok (.aload 10, 2) := by decide +kernel
theorem dL_act_935 : decode cL_act 935 = .ok (.iconst 0, 1) := by decide +kernel
theorem dL_act_936 : decode cL_act 936 = .ok (.iaload, 1) := by decide +kernel
theorem dL_act_937 : decode cL_act 937 = .ok (.aload 4, 2) := by decide +kernel
theorem dL_act_939 : decode cL_act 939 = .ok (.invokestatic 22, 3) := by decide +kernel
theorem dL_act_942 : decode cL_act 942 = .ok (.ifCond .eq 5, 3) := by decide +kernel
theorem dL_act_945 : decode cL_act 945 = .ok (.iconst 1, 1) := by decide +kernel
theorem dL_act_946 : decode cL_act 946 = .ok (.ireturn, 1) := by decide +kernel
theorem dL_act_947 : decode cL_act 947 = .ok (.iinc 21 1, 3) := by decide +kernel
theorem dL_act_950 : decode cL_act 950 = .ok (.goto (-41), 3) := by decide +kernel
theorem dL_act_953 : decode cL_act 953 = .ok (.aload 5, 2) := by decide +kernel
theorem dL_act_955 : decode cL_act 955 = .ok (.aload 10, 2) := by decide +kernel
theorem dL_act_957 : decode cL_act 957 = .ok (.iconst 0, 1) := by decide +kernel
theorem dL_act_958 : decode cL_act 958 = .ok (.dup2, 1) := by decide +kernel
theorem dL_act_959 : decode cL_act 959 = .ok (.iaload, 1) := by decide +kernel
theorem dL_act_960 : decode cL_act 960 = .ok (.dup_x2, 1) := by decide +kernel
theorem dL_act_961 : decode cL_act 961 = .ok (.iconst 1, 1) := by decide +kernel
theorem dL_act_962 : decode cL_act 962 = .ok (.iadd, 1) := by decide +kernel
theorem dL_act_963 : decode cL_act 963 = .ok (.iastore, 1) := by decide +kernel
theorem dL_act_964 : decode cL_act 964 = .ok (.lload 17, 2) := by decide +kernel
theorem dL_act_966 : decode cL_act 966 = .ok (.lastore, 1) := by decide +kernel
theorem dL_act_967 : decode cL_act 967 = .ok (.aload 4, 2) := by decide +kernel
theorem dL_act_969 : decode cL_act 969 = .ok (.aload 5, 2) := by decide +kernel
theorem dL_act_971 : decode cL_act 971 = .ok (.aload 6, 2) := by decide +kernel
theorem dL_act_973 : decode cL_act 973 = .ok (.aload 7, 2) := by decide +kernel
theorem dL_act_975 : decode cL_act 975 = .ok (.aload 8, 2) := by decide +kernel
theorem dL_act_977 : decode cL_act 977 = .ok (.aload 9, 2) := by decide +kernel
theorem dL_act_979 : decode cL_act 979 = .ok (.aload 10, 2) := by decide +kernel
theorem dL_act_981 : decode cL_act 981 = .ok (.invokestatic 68, 3) := by decide +kernel
theorem dL_act_984 : decode cL_act 984 = .ok (.aload_n 0, 1) := by decide +kernel
theorem dL_act_985 : decode cL_act 985 = .ok (.iload 13, 2) := by decide +kernel
theorem dL_act_987 : decode cL_act 987 = .ok (.iload 14, 2) := by decide +kernel
theorem dL_act_989 : decode cL_act 989 = .ok (.invokevirtual 109, 3) := by decide +kernel
theorem dL_act_992 : decode cL_act 992 = .ok (.aload 10, 2) := by decide +kernel
theorem dL_act_994 : decode cL_act 994 = .ok (.iconst 0, 1) := by decide +kernel
theorem dL_act_995 : decode cL_act 995 = .ok (.iaload, 1) := by decide +kernel
theorem dL_act_996 : decode cL_act 996 = .ok (.iconst 1, 1) := by decide +kernel
theorem dL_act_997 : decode cL_act 997 = .ok (.isub, 1) := by decide +kernel
theorem dL_act_998 : decode cL_act 998 = .ok (.if_icmp .ne 7, 3) := by decide +kernel
theorem dL_act_1001 : decode cL_act 1001 = .ok (.iconst 1, 1) := by decide +kernel
theorem dL_act_1002 : decode cL_act 1002 = .ok (.goto 4, 3) := by decide +kernel
theorem dL_act_1005 : decode cL_act 1005 = .ok (.iconst 0, 1) := by decide +kernel
theorem dL_act_1006 : decode cL_act 1006 = .ok (.ireturn, 1) := by decide +kernel
theorem dL_law_0 : decode cL_law 0 = .ok (.new 31, 3) := by decide +kernel
theorem dL_law_3 : decode cL_law 3 = .ok (.dup, 1) := by decide +kernel
theorem dL_law_4 : decode cL_law 4 = .ok (.invokespecial 112, 3) := by decide +kernel
theorem dL_law_7 : decode cL_law 7 = .ok (.astore_n 1, 1) := by decide +kernel
theorem dL_law_8 : decode cL_law 8 = .ok (.bipush 35, 2) := by decide +kernel
theorem dL_law_10 : decode cL_law 10 = .ok (.newarray .int, 2) := by decide +kernel
theorem dL_law_12 : decode cL_law 12 = .ok (.astore_n 2, 1) := by decide +kernel
theorem dL_law_13 : decode cL_law 13 = .ok (.bipush 7, 2) := by decide +kernel
theorem dL_law_15 : decode cL_law 15 = .ok (.newarray .long, 2) := by decide +kernel
theorem dL_law_17 : decode cL_law 17 = .ok (.astore_n 3, 1) := by decide +kernel
theorem dL_law_18 : decode cL_law 18 = .ok (.bipush 32, 2) := by decide +kernel
theorem dL_law_20 : decode cL_law 20 = .ok (.newarray .int, 2) := by decide +kernel
theorem dL_law_22 : decode cL_law 22 = .ok (.astore 4, 2) := by decide +kernel
theorem dL_law_24 : decode cL_law 24 = .ok (.bipush 32, 2) := by decide +kernel
theorem dL_law_26 : decode cL_law 26 = .ok (.newarray .int, 2) := by decide +kernel
theorem dL_law_28 : decode cL_law 28 = .ok (.astore 5, 2) := by decide +kernel
theorem dL_law_30 : decode cL_law 30 = .ok (.bipush 32, 2) := by decide +kernel
theorem dL_law_32 : decode cL_law 32 = .ok (.newarray .int, 2) := by decide +kernel
theorem dL_law_34 : decode cL_law 34 = .ok (.astore 6, 2) := by decide +kernel
theorem dL_law_36 : decode cL_law 36 = .ok (.bipush 32, 2) := by decide +kernel
theorem dL_law_38 : decode cL_law 38 = .ok (.newarray .long, 2) := by decide +kernel
theorem dL_law_40 : decode cL_law 40 = .ok (.astore 7, 2) := by decide +kernel
theorem dL_law_42 : decode cL_law 42 = .ok (.iconst 5, 1) := by decide +kernel
theorem dL_law_43 : decode cL_law 43 = .ok (.newarray .int, 2) := by decide +kernel
theorem dL_law_45 : decode cL_law 45 = .ok (.astore 8, 2) := by decide +kernel
theorem dL_law_47 : decode cL_law 47 = .ok (.aload 8, 2) := by decide +kernel
theorem dL_law_49 : decode cL_law 49 = .ok (.iconst 4, 1) := by decide +kernel
theorem dL_law_50 : decode cL_law 50 = .ok (.bipush 8, 2) := by decide +kernel
theorem dL_law_52 : decode cL_law 52 = .ok (.iastore, 1) := by decide +kernel
theorem dL_law_53 : decode cL_law 53 = .ok (.aload_n 1, 1) := by decide +kernel
theorem dL_law_54 : decode cL_law 54 = .ok (.aload_n 2, 1) := by decide +kernel
theorem dL_law_55 : decode cL_law 55 = .ok (.aload_n 3, 1) := by decide +kernel
theorem dL_law_56 : decode cL_law 56 = .ok (.aload 4, 2) := by decide +kernel
theorem dL_law_58 : decode cL_law 58 = .ok (.aload 5, 2) := by decide +kernel
theorem dL_law_60 : decode cL_law 60 = .ok (.aload 6, 2) := by decide +kernel
theorem dL_law_62 : decode cL_law 62 = .ok (.aload 7, 2) := by decide +kernel
theorem dL_law_64 : decode cL_law 64 = .ok (.aload 8, 2) := by decide +kernel
theorem dL_law_66 : decode cL_law 66 = .ok (.invokestatic 113, 3) := by decide +kernel
theorem dL_law_69 : decode cL_law 69 = .ok (.ifCond .eq 12, 3) := by decide +kernel
theorem dL_law_72 : decode cL_law 72 = .ok (.aload_n 1, 1) := by decide +kernel
theorem dL_law_73 : decode cL_law 73 = .ok (.bipush 9, 2) := by decide +kernel
theorem dL_law_75 : decode cL_law 75 = .ok (.invokevirtual 58, 3) := by decide +kernel
theorem dL_law_78 : decode cL_law 78 = .ok (.ifCond .eq 5, 3) := by decide +kernel
theorem dL_law_81 : decode cL_law 81 = .ok (.iconst 0, 1) := by decide +kernel
theorem dL_law_82 : decode cL_law 82 = .ok (.ireturn, 1) := by decide +kernel
theorem dL_law_83 : decode cL_law 83 = .ok (.iconst 0, 1) := by decide +kernel
theorem dL_law_84 : decode cL_law 84 = .ok (.istore 9, 2) := by decide +kernel
theorem dL_law_86 : decode cL_law 86 = .ok (.iload 9, 2) := by decide +kernel
theorem dL_law_88 : decode cL_law 88 = .ok (.bipush 22, 2) := by decide +kernel
theorem dL_law_90 : decode cL_law 90 = .ok (.if_icmp .ge 144, 3) := by decide +kernel
theorem dL_law_93 : decode cL_law 93 = .ok (.aload_n 0, 1) := by decide +kernel
theorem dL_law_94 : decode cL_law 94 = .ok (.iconst 2, 1) := by decide +kernel
theorem dL_law_95 : decode cL_law 95 = .ok (.iload 9, 2) := by decide +kernel
theorem dL_law_97 : decode cL_law 97 = .ok (.imul, 1) := by decide +kernel
theorem dL_law_98 : decode cL_law 98 = .ok (.invokestatic 117, 3) := by decide +kernel
theorem dL_law_101 : decode cL_law 101 = .ok (.ldc 121, 2) := by decide +kernel
theorem dL_law_103 : decode cL_law 103 = .ok (.iand, 1) := by decide +kernel
theorem dL_law_104 : decode cL_law 104 = .ok (.istore 10, 2) := by decide +kernel
theorem dL_law_106 : decode cL_law 106 = .ok (.aload_n 0, 1) := by decide +kernel
theorem dL_law_107 : decode cL_law 107 = .ok (.iconst 2, 1) := by decide +kernel
theorem dL_law_108 : decode cL_law 108 = .ok (.iload 9, 2) := by decide +kernel
theorem dL_law_110 : decode cL_law 110 = .ok (.imul, 1) := by decide +kernel
theorem dL_law_111 : decode cL_law 111 = .ok (.iconst 1, 1) := by decide +kernel
theorem dL_law_112 : decode cL_law 112 = .ok (.iadd, 1) := by decide +kernel
theorem dL_law_113 : decode cL_law 113 = .ok (.invokestatic 117, 3) := by decide +kernel
theorem dL_law_116 : decode cL_law 116 = .ok (.ldc 121, 2) := by decide +kernel
theorem dL_law_118 : decode cL_law 118 = .ok (.iand, 1) := by decide +kernel
theorem dL_law_119 : decode cL_law 119 = .ok (.istore 11, 2) := by decide +kernel
theorem dL_law_121 : decode cL_law 121 = .ok (.aload_n 1, 1) := by decide +kernel
theorem dL_law_122 : decode cL_law 122 = .ok (.iload 9, 2) := by decide +kernel
theorem dL_law_124 : decode cL_law 124 = .ok (.iconst 2, 1) := by decide +kernel
theorem dL_law_125 : decode cL_law 125 = .ok (.if_icmp .ge 7, 3) := by decide +kernel
theorem dL_law_128 : decode cL_law 128 = .ok (.iconst 0, 1) := by decide +kernel
theorem dL_law_129 : decode cL_law 129 = .ok (.goto 23, 3) := by decide +kernel
theorem dL_law_132 : decode cL_law 132 = .ok (.iload 9, 2) := by decide +kernel
theorem dL_law_134 : decode cL_law 134 = .ok (.iconst 4, 1) := by decide +kernel
theorem dL_law_135 : decode cL_law 135 = .ok (.if_icmp .ge 7, 3) := by decide +kernel
theorem dL_law_138 : decode cL_law 138 = .ok (.iconst 3, 1) := by decide +kernel
theorem dL_law_139 : decode cL_law 139 = .ok (.goto 13, 3) := by decide +kernel
theorem dL_law_142 : decode cL_law 142 = .ok (.iload 10, 2) := by decide +kernel
theorem dL_law_144 : decode cL_law 144 = .ok (.bipush 13, 2) := by decide +kernel
theorem dL_law_146 : decode cL_law 146 = .ok (.ishr, 1) := by decide +kernel
theorem dL_law_147 : decode cL_law 147 = .ok (.bipush 16, 2) := by decide +kernel
theorem dL_law_149 : decode cL_law 149 = .ok (.invokestatic 61, 3) := by decide +kernel
theorem dL_law_152 : decode cL_law 152 = .ok (.iload 10, 2) := by decide +kernel
theorem dL_law_154 : decode cL_law 154 = .ok (.iload 11, 2) := by decide +kernel
theorem dL_law_156 : decode cL_law 156 = .ok (.aload_n 2, 1) := by decide +kernel
theorem dL_law_157 : decode cL_law 157 = .ok (.aload_n 3, 1) := by decide +kernel
theorem dL_law_158 : decode cL_law 158 = .ok (.aload 4, 2) := by decide +kernel
theorem dL_law_160 : decode cL_law 160 = .ok (.aload 5, 2) := by decide +kernel
theorem dL_law_162 : decode cL_law 162 = .ok (.aload 6, 2) := by decide +kernel
theorem dL_law_164 : decode cL_law 164 = .ok (.aload 7, 2) := by decide +kernel
theorem dL_law_166 : decode cL_law 166 = .ok (.aload 8, 2) := by decide +kernel
theorem dL_law_168 : decode cL_law 168 = .ok (.invokestatic 122, 3) := by decide +kernel
theorem dL_law_171 : decode cL_law 171 = .ok (.ifCond .eq 22, 3) := by decide +kernel
theorem dL_law_174 : decode cL_law 174 = .ok (.aload_n 1, 1) := by decide +kernel
theorem dL_law_175 : decode cL_law 175 = .ok (.aload_n 2, 1) := by decide +kernel
theorem dL_law_176 : decode cL_law 176 = .ok (.aload_n 3, 1) := by decide +kernel
theorem dL_law_177 : decode cL_law 177 = .ok (.aload 4, 2) := by decide +kernel
theorem dL_law_179 : decode cL_law 179 = .ok (.aload 5, 2) := by decide +kernel
theorem dL_law_181 : decode cL_law 181 = .ok (.aload 6, 2) := by decide +kernel
theorem dL_law_183 : decode cL_law 183 = .ok (.aload 7, 2) := by decide +kernel
theorem dL_law_185 : decode cL_law 185 = .ok (.aload 8, 2) := by decide +kernel
theorem dL_law_187 : decode cL_law 187 = .ok (.invokestatic 113, 3) := by decide +kernel
theorem dL_law_190 : decode cL_law 190 = .ok (.ifCond .ne 5, 3) := by decide +kernel
theorem dL_law_193 : decode cL_law 193 = .ok (.iconst 0, 1) := by decide +kernel
theorem dL_law_194 : decode cL_law 194 = .ok (.ireturn, 1) := by decide +kernel
theorem dL_law_195 : decode cL_law 195 = .ok (.iload 9, 2) := by decide +kernel
theorem dL_law_197 : decode cL_law 197 = .ok (.iconst 5, 1) := by decide +kernel
theorem dL_law_198 : decode cL_law 198 = .ok (.irem, 1) := by decide +kernel
theorem dL_law_199 : decode cL_law 199 = .ok (.iconst 4, 1) := by decide +kernel
theorem dL_law_200 : decode cL_law 200 = .ok (.if_icmp .ne 28, 3) := by decide +kernel
theorem dL_law_203 : decode cL_law 203 = .ok (.aload_n 1, 1) := by decide +kernel
theorem dL_law_204 : decode cL_law 204 = .ok (.iload 11, 2) := by decide +kernel
theorem dL_law_206 : decode cL_law 206 = .ok (.iconst 2, 1) := by decide +kernel
theorem dL_law_207 : decode cL_law 207 = .ok (.ishr, 1) := by decide +kernel
theorem dL_law_208 : decode cL_law 208 = .ok (.aload_n 2, 1) := by decide +kernel
theorem dL_law_209 : decode cL_law 209 = .ok (.aload_n 3, 1) := by decide +kernel
theorem dL_law_210 : decode cL_law 210 = .ok (.aload 4, 2) := by decide +kernel
theorem dL_law_212 : decode cL_law 212 = .ok (.aload 5, 2) := by decide +kernel
theorem dL_law_214 : decode cL_law 214 = .ok (.aload 6, 2) := by decide +kernel
theorem dL_law_216 : decode cL_law 216 = .ok (.aload 7, 2) := by decide +kernel
theorem dL_law_218 : decode cL_law 218 = .ok (.aload 8, 2) := by decide +kernel
theorem dL_law_220 : decode cL_law 220 = .ok (.invokestatic 126, 3) := by decide +kernel
theorem dL_law_223 : decode cL_law 223 = .ok (.ifCond .ne 5, 3) := by decide +kernel
theorem dL_law_226 : decode cL_law 226 = .ok (.iconst 0, 1) := by decide +kernel
theorem dL_law_227 : decode cL_law 227 = .ok (.ireturn, 1) := by decide +kernel
theorem dL_law_228 : decode cL_law 228 = .ok (.iinc 9 1, 3) := by decide +kernel
theorem dL_law_231 : decode cL_law 231 = .ok (.goto (-145), 3) := by decide +kernel
theorem dL_law_234 : decode cL_law 234 = .ok (.aload_n 1, 1) := by decide +kernel
theorem dL_law_235 : decode cL_law 235 = .ok (.bipush 9, 2) := by decide +kernel
theorem dL_law_237 : decode cL_law 237 = .ok (.invokevirtual 58, 3) := by decide +kernel
theorem dL_law_240 : decode cL_law 240 = .ok (.ifCond .le 7, 3) := by decide +kernel
theorem dL_law_243 : decode cL_law 243 = .ok (.iconst 1, 1) := by decide +kernel
theorem dL_law_244 : decode cL_law 244 = .ok (.goto 4, 3) := by decide +kernel
theorem dL_law_247 : decode cL_law 247 = .ok (.iconst 0, 1) := by decide +kernel
theorem dL_law_248 : decode cL_law 248 = .ok (.ireturn, 1) := by decide +kernel
