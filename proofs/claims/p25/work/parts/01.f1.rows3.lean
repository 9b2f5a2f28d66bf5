theorem dL_owed_0 : decode cL_owed 0 = .ok (.lconst 0, 1) := by decide +kernel
theorem dL_owed_1 : decode cL_owed 1 = .ok (.lstore 11, 2) := by decide +kernel
theorem dL_owed_3 : decode cL_owed 3 = .ok (.iload 8, 2) := by decide +kernel
theorem dL_owed_5 : decode cL_owed 5 = .ok (.bipush 12, 2) := by decide +kernel
theorem dL_owed_7 : decode cL_owed 7 = .ok (.idiv, 1) := by decide +kernel
theorem dL_owed_8 : decode cL_owed 8 = .ok (.istore 13, 2) := by decide +kernel
theorem dL_owed_10 : decode cL_owed 10 = .ok (.iload 13, 2) := by decide +kernel
theorem dL_owed_12 : decode cL_owed 12 = .ok (.iload 9, 2) := by decide +kernel
theorem dL_owed_14 : decode cL_owed 14 = .ok (.bipush 12, 2) := by decide +kernel
theorem dL_owed_16 : decode cL_owed 16 = .ok (.idiv, 1) := by decide +kernel
theorem dL_owed_17 : decode cL_owed 17 = .ok (.if_icmp .gt 304, 3) := by decide +kernel
theorem dL_owed_20 : decode cL_owed 20 = .ok (.iconst 0, 1) := by decide +kernel
theorem dL_owed_21 : decode cL_owed 21 = .ok (.istore 14, 2) := by decide +kernel
theorem dL_owed_23 : decode cL_owed 23 = .ok (.iconst 0, 1) := by decide +kernel
theorem dL_owed_24 : decode cL_owed 24 = .ok (.istore 15, 2) := by decide +kernel
theorem dL_owed_26 : decode cL_owed 26 = .ok (.iload 15, 2) := by decide +kernel
theorem dL_owed_28 : decode cL_owed 28 = .ok (.aload_n 0, 1) := by decide +kernel
theorem dL_owed_29 : decode cL_owed 29 = .ok (.iconst 2, 1) := by decide +kernel
theorem dL_owed_30 : decode cL_owed 30 = .ok (.iaload, 1) := by decide +kernel
theorem dL_owed_31 : decode cL_owed 31 = .ok (.if_icmp .ge 57, 3) := by decide +kernel
theorem dL_owed_34 : decode cL_owed 34 = .ok (.iload 14, 2) := by decide +kernel
theorem dL_owed_36 : decode cL_owed 36 = .ok (.aload_n 2, 1) := by decide +kernel
theorem dL_owed_37 : decode cL_owed 37 = .ok (.aload_n 1, 1) := by decide +kernel
theorem dL_owed_38 : decode cL_owed 38 = .ok (.aload 5, 2) := by decide +kernel
theorem dL_owed_40 : decode cL_owed 40 = .ok (.iload 15, 2) := by decide +kernel
theorem dL_owed_42 : decode cL_owed 42 = .ok (.iaload, 1) := by decide +kernel
theorem dL_owed_43 : decode cL_owed 43 = .ok (.invokestatic 17, 3) := by decide +kernel
theorem dL_owed_46 : decode cL_owed 46 = .ok (.iload 7, 2) := by decide +kernel
theorem dL_owed_48 : decode cL_owed 48 = .ok (.if_icmp .ne 30, 3) := by decide +kernel
theorem dL_owed_51 : decode cL_owed 51 = .ok (.aload_n 2, 1) := by decide +kernel
theorem dL_owed_52 : decode cL_owed 52 = .ok (.aload 5, 2) := by decide +kernel
theorem dL_owed_54 : decode cL_owed 54 = .ok (.iload 15, 2) := by decide +kernel
theorem dL_owed_56 : decode cL_owed 56 = .ok (.iaload, 1) := by decide +kernel
theorem dL_owed_57 : decode cL_owed 57 = .ok (.invokestatic 21, 3) := by decide +kernel
theorem dL_owed_60 : decode cL_owed 60 = .ok (.bipush 12, 2) := by decide +kernel
theorem dL_owed_62 : decode cL_owed 62 = .ok (.idiv, 1) := by decide +kernel
theorem dL_owed_63 : decode cL_owed 63 = .ok (.iload 13, 2) := by decide +kernel
theorem dL_owed_65 : decode cL_owed 65 = .ok (.if_icmp .ne 13, 3) := by decide +kernel
theorem dL_owed_68 : decode cL_owed 68 = .ok (.aload_n 3, 1) := by decide +kernel
theorem dL_owed_69 : decode cL_owed 69 = .ok (.aload 5, 2) := by decide +kernel
theorem dL_owed_71 : decode cL_owed 71 = .ok (.iload 15, 2) := by decide +kernel
theorem dL_owed_73 : decode cL_owed 73 = .ok (.iaload, 1) := by decide +kernel
theorem dL_owed_74 : decode cL_owed 74 = .ok (.iaload, 1) := by decide +kernel
theorem dL_owed_75 : decode cL_owed 75 = .ok (.goto 4, 3) := by decide +kernel
theorem dL_owed_78 : decode cL_owed 78 = .ok (.iconst 0, 1) := by decide +kernel
theorem dL_owed_79 : decode cL_owed 79 = .ok (.iadd, 1) := by decide +kernel
theorem dL_owed_80 : decode cL_owed 80 = .ok (.istore 14, 2) := by decide +kernel
theorem dL_owed_82 : decode cL_owed 82 = .ok (.iinc 15 1, 3) := by decide +kernel
theorem dL_owed_85 : decode cL_owed 85 = .ok (.goto (-59), 3) := by decide +kernel
theorem dL_owed_88 : decode cL_owed 88 = .ok (.iconst 0, 1) := by decide +kernel
theorem dL_owed_89 : decode cL_owed 89 = .ok (.istore 15, 2) := by decide +kernel
theorem dL_owed_91 : decode cL_owed 91 = .ok (.iconst 0, 1) := by decide +kernel
theorem dL_owed_92 : decode cL_owed 92 = .ok (.istore 16, 2) := by decide +kernel
theorem dL_owed_94 : decode cL_owed 94 = .ok (.iload 16, 2) := by decide +kernel
theorem dL_owed_96 : decode cL_owed 96 = .ok (.aload_n 0, 1) := by decide +kernel
theorem dL_owed_97 : decode cL_owed 97 = .ok (.iconst 2, 1) := by decide +kernel
theorem dL_owed_98 : decode cL_owed 98 = .ok (.iaload, 1) := by decide +kernel
theorem dL_owed_99 : decode cL_owed 99 = .ok (.if_icmp .ge 216, 3) := by decide +kernel
theorem dL_owed_102 : decode cL_owed 102 = .ok (.aload 5, 2) := by decide +kernel
theorem dL_owed_104 : decode cL_owed 104 = .ok (.iload 16, 2) := by decide +kernel
theorem dL_owed_106 : decode cL_owed 106 = .ok (.iaload, 1) := by decide +kernel
theorem dL_owed_107 : decode cL_owed 107 = .ok (.istore 17, 2) := by decide +kernel
theorem dL_owed_109 : decode cL_owed 109 = .ok (.aload_n 2, 1) := by decide +kernel
theorem dL_owed_110 : decode cL_owed 110 = .ok (.aload_n 1, 1) := by decide +kernel
theorem dL_owed_111 : decode cL_owed 111 = .ok (.iload 17, 2) := by decide +kernel
theorem dL_owed_113 : decode cL_owed 113 = .ok (.invokestatic 17, 3) := by decide +kernel
theorem dL_owed_116 : decode cL_owed 116 = .ok (.iload 7, 2) := by decide +kernel
theorem dL_owed_118 : decode cL_owed 118 = .ok (.if_icmp .ne 191, 3) := by decide +kernel
theorem dL_owed_121 : decode cL_owed 121 = .ok (.aload_n 2, 1) := by decide +kernel
theorem dL_owed_122 : decode cL_owed 122 = .ok (.iload 17, 2) := by decide +kernel
theorem dL_owed_124 : decode cL_owed 124 = .ok (.invokestatic 21, 3) := by decide +kernel
theorem dL_owed_127 : decode cL_owed 127 = .ok (.bipush 12, 2) := by decide +kernel
theorem dL_owed_129 : decode cL_owed 129 = .ok (.idiv, 1) := by decide +kernel
theorem dL_owed_130 : decode cL_owed 130 = .ok (.iload 13, 2) := by decide +kernel
theorem dL_owed_132 : decode cL_owed 132 = .ok (.if_icmp .ne 177, 3) := by decide +kernel
theorem dL_owed_135 : decode cL_owed 135 = .ok (.aload 6, 2) := by decide +kernel
theorem dL_owed_137 : decode cL_owed 137 = .ok (.bipush 16, 2) := by decide +kernel
theorem dL_owed_139 : decode cL_owed 139 = .ok (.iload 7, 2) := by decide +kernel
theorem dL_owed_141 : decode cL_owed 141 = .ok (.iadd, 1) := by decide +kernel
theorem dL_owed_142 : decode cL_owed 142 = .ok (.iaload, 1) := by decide +kernel
theorem dL_owed_143 : decode cL_owed 143 = .ok (.iconst 2, 1) := by decide +kernel
theorem dL_owed_144 : decode cL_owed 144 = .ok (.irem, 1) := by decide +kernel
theorem dL_owed_145 : decode cL_owed 145 = .ok (.iconst 1, 1) := by decide +kernel
theorem dL_owed_146 : decode cL_owed 146 = .ok (.if_icmp .ne 7, 3) := by decide +kernel
theorem dL_owed_149 : decode cL_owed 149 = .ok (.iconst 1, 1) := by decide +kernel
theorem dL_owed_150 : decode cL_owed 150 = .ok (.goto 4, 3) := by decide +kernel
theorem dL_owed_153 : decode cL_owed 153 = .ok (.iconst 0, 1) := by decide +kernel
theorem dL_owed_154 : decode cL_owed 154 = .ok (.istore 18, 2) := by decide +kernel
theorem dL_owed_156 : decode cL_owed 156 = .ok (.aload 6, 2) := by decide +kernel
theorem dL_owed_158 : decode cL_owed 158 = .ok (.iload 7, 2) := by decide +kernel
theorem dL_owed_160 : decode cL_owed 160 = .ok (.iaload, 1) := by decide +kernel
theorem dL_owed_161 : decode cL_owed 161 = .ok (.ifCond .le 29, 3) := by decide +kernel
theorem dL_owed_164 : decode cL_owed 164 = .ok (.iload 18, 2) := by decide +kernel
theorem dL_owed_166 : decode cL_owed 166 = .ok (.ifCond .eq 8, 3) := by decide +kernel
theorem dL_owed_169 : decode cL_owed 169 = .ok (.iload 14, 2) := by decide +kernel
theorem dL_owed_171 : decode cL_owed 171 = .ok (.goto 5, 3) := by decide +kernel
theorem dL_owed_174 : decode cL_owed 174 = .ok (.iload 15, 2) := by decide +kernel
theorem dL_owed_176 : decode cL_owed 176 = .ok (.aload 6, 2) := by decide +kernel
theorem dL_owed_178 : decode cL_owed 178 = .ok (.iload 7, 2) := by decide +kernel
theorem dL_owed_180 : decode cL_owed 180 = .ok (.iaload, 1) := by decide +kernel
theorem dL_owed_181 : decode cL_owed 181 = .ok (.iconst 1, 1) := by decide +kernel
theorem dL_owed_182 : decode cL_owed 182 = .ok (.isub, 1) := by decide +kernel
theorem dL_owed_183 : decode cL_owed 183 = .ok (.if_icmp .lt 7, 3) := by decide +kernel
theorem dL_owed_186 : decode cL_owed 186 = .ok (.iconst 1, 1) := by decide +kernel
theorem dL_owed_187 : decode cL_owed 187 = .ok (.goto 4, 3) := by decide +kernel
theorem dL_owed_190 : decode cL_owed 190 = .ok (.iconst 0, 1) := by decide +kernel
theorem dL_owed_191 : decode cL_owed 191 = .ok (.istore 19, 2) := by decide +kernel
theorem dL_owed_193 : decode cL_owed 193 = .ok (.iload 19, 2) := by decide +kernel
theorem dL_owed_195 : decode cL_owed 195 = .ok (.ifCond .eq 28, 3) := by decide +kernel
theorem dL_owed_198 : decode cL_owed 198 = .ok (.aload 4, 2) := by decide +kernel
theorem dL_owed_200 : decode cL_owed 200 = .ok (.iload 17, 2) := by decide +kernel
theorem dL_owed_202 : decode cL_owed 202 = .ok (.iaload, 1) := by decide +kernel
theorem dL_owed_203 : decode cL_owed 203 = .ok (.i2l, 1) := by decide +kernel
theorem dL_owed_204 : decode cL_owed 204 = .ok (.aload 6, 2) := by decide +kernel
theorem dL_owed_206 : decode cL_owed 206 = .ok (.bipush 16, 2) := by decide +kernel
theorem dL_owed_208 : decode cL_owed 208 = .ok (.iload 7, 2) := by decide +kernel
theorem dL_owed_210 : decode cL_owed 210 = .ok (.iadd, 1) := by decide +kernel
theorem dL_owed_211 : decode cL_owed 211 = .ok (.iaload, 1) := by decide +kernel
theorem dL_owed_212 : decode cL_owed 212 = .ok (.iconst 2, 1) := by decide +kernel
theorem dL_owed_213 : decode cL_owed 213 = .ok (.idiv, 1) := by decide +kernel
theorem dL_owed_214 : decode cL_owed 214 = .ok (.i2l, 1) := by decide +kernel
theorem dL_owed_215 : decode cL_owed 215 = .ok (.lmul, 1) := by decide +kernel
theorem dL_owed_216 : decode cL_owed 216 = .ok (.ldc2_w 25, 3) := by decide +kernel
theorem dL_owed_219 : decode cL_owed 219 = .ok (.ldiv, 1) := by decide +kernel
theorem dL_owed_220 : decode cL_owed 220 = .ok (.goto 4, 3) := by decide +kernel
theorem dL_owed_223 : decode cL_owed 223 = .ok (.lconst 0, 1) := by decide +kernel
theorem dL_owed_224 : decode cL_owed 224 = .ok (.lstore 20, 2) := by decide +kernel
theorem dL_owed_226 : decode cL_owed 226 = .ok (.aload_n 2, 1) := by decide +kernel
theorem dL_owed_227 : decode cL_owed 227 = .ok (.iload 17, 2) := by decide +kernel
theorem dL_owed_229 : decode cL_owed 229 = .ok (.invokestatic 27, 3) := by decide +kernel
theorem dL_owed_232 : decode cL_owed 232 = .ok (.iconst 4, 1) := by decide +kernel
theorem dL_owed_233 : decode cL_owed 233 = .ok (.if_icmp .ge 41, 3) := by decide +kernel
theorem dL_owed_236 : decode cL_owed 236 = .ok (.aload_n 2, 1) := by decide +kernel
theorem dL_owed_237 : decode cL_owed 237 = .ok (.iload 17, 2) := by decide +kernel
theorem dL_owed_239 : decode cL_owed 239 = .ok (.invokestatic 21, 3) := by decide +kernel
theorem dL_owed_242 : decode cL_owed 242 = .ok (.iload 8, 2) := by decide +kernel
theorem dL_owed_244 : decode cL_owed 244 = .ok (.if_icmp .lt 30, 3) := by decide +kernel
theorem dL_owed_247 : decode cL_owed 247 = .ok (.aload_n 2, 1) := by decide +kernel
theorem dL_owed_248 : decode cL_owed 248 = .ok (.iload 17, 2) := by decide +kernel
theorem dL_owed_250 : decode cL_owed 250 = .ok (.invokestatic 21, 3) := by decide +kernel
theorem dL_owed_253 : decode cL_owed 253 = .ok (.iload 9, 2) := by decide +kernel
theorem dL_owed_255 : decode cL_owed 255 = .ok (.if_icmp .gt 19, 3) := by decide +kernel
theorem dL_owed_258 : decode cL_owed 258 = .ok (.iload 10, 2) := by decide +kernel
theorem dL_owed_260 : decode cL_owed 260 = .ok (.ifCond .lt 10, 3) := by decide +kernel
theorem dL_owed_263 : decode cL_owed 263 = .ok (.iload 10, 2) := by decide +kernel
theorem dL_owed_265 : decode cL_owed 265 = .ok (.iload 17, 2) := by decide +kernel
theorem dL_owed_267 : decode cL_owed 267 = .ok (.if_icmp .ne 7, 3) := by decide +kernel
theorem dL_owed_270 : decode cL_owed 270 = .ok (.iconst 1, 1) := by decide +kernel
theorem dL_owed_271 : decode cL_owed 271 = .ok (.goto 4, 3) := by decide +kernel
theorem dL_owed_274 : decode cL_owed 274 = .ok (.iconst 0, 1) := by decide +kernel
theorem dL_owed_275 : decode cL_owed 275 = .ok (.istore 22, 2) := by decide +kernel
theorem dL_owed_277 : decode cL_owed 277 = .ok (.lload 11, 2) := by decide +kernel
theorem dL_owed_279 : decode cL_owed 279 = .ok (.iload 22, 2) := by decide +kernel
theorem dL_owed_281 : decode cL_owed 281 = .ok (.ifCond .eq 15, 3) := by decide +kernel
theorem dL_owed_284 : decode cL_owed 284 = .ok (.aload 4, 2) := by decide +kernel
theorem dL_owed_286 : decode cL_owed 286 = .ok (.iload 17, 2) := by decide +kernel
theorem dL_owed_288 : decode cL_owed 288 = .ok (.iaload, 1) := by decide +kernel
theorem dL_owed_289 : decode cL_owed 289 = .ok (.i2l, 1) := by decide +kernel
theorem dL_owed_290 : decode cL_owed 290 = .ok (.lload 20, 2) := by decide +kernel
theorem dL_owed_292 : decode cL_owed 292 = .ok (.lsub, 1) := by decide +kernel
theorem dL_owed_293 : decode cL_owed 293 = .ok (.goto 4, 3) := by decide +kernel
theorem dL_owed_296 : decode cL_owed 296 = .ok (.lconst 0, 1) := by decide +kernel
theorem dL_owed_297 : decode cL_owed 297 = .ok (.ladd, 1) := by decide +kernel
theorem dL_owed_298 : decode cL_owed 298 = .ok (.lstore 11, 2) := by decide +kernel
theorem dL_owed_300 : decode cL_owed 300 = .ok (.iload 15, 2) := by decide +kernel
theorem dL_owed_302 : decode cL_owed 302 = .ok (.aload_n 3, 1) := by decide +kernel
theorem dL_owed_303 : decode cL_owed 303 = .ok (.iload 17, 2) := by decide +kernel
theorem dL_owed_305 : decode cL_owed 305 = .ok (.iaload, 1) := by decide +kernel
theorem dL_owed_306 : decode cL_owed 306 = .ok (.iadd, 1) := by decide +kernel
theorem dL_owed_307 : decode cL_owed 307 = .ok (.istore 15, 2) := by decide +kernel
theorem dL_owed_309 : decode cL_owed 309 = .ok (.iinc 16 1, 3) := by decide +kernel
theorem dL_owed_312 : decode cL_owed 312 = .ok (.goto (-218), 3) := by decide +kernel
theorem dL_owed_315 : decode cL_owed 315 = .ok (.iinc 13 1, 3) := by decide +kernel
theorem dL_owed_318 : decode cL_owed 318 = .ok (.goto (-308), 3) := by decide +kernel
theorem dL_owed_321 : decode cL_owed 321 = .ok (.lload 11, 2) := by decide +kernel
theorem dL_owed_323 : decode cL_owed 323 = .ok (.lreturn, 1) := by decide +kernel
set_option maxRecDepth 20000 in
theorem ggL_does_X4_begin : GoodIn wsL_does wsX4_begin := goodIn_ca (goodIn_ca (goodIn_ca (goodIn_r _ [8, 9, 10, 11, 12, 13, 14, 15, 16, 17, 18, 19, 7, 20, 21, 22, 23, 24, 25, 26, 27, 28, 29, 30, 31, 32, 33, 34, 35, 36, 37, 38, 39, 131, 132, 133, 134, 135, 136, 137, 138, 139, 140, 141, 142] (by decide +kernel) (by decide +kernel)) (goodIn_sub (fun _ h => List.mem_cons_of_mem _ (List.mem_append_left _ (List.mem_append_left _ (List.mem_append_right _ h)))) (by decide +kernel))) (goodIn_sub (fun _ h => List.mem_cons_of_mem _ (List.mem_append_left _ (List.mem_append_right _ h))) (by decide +kernel))) (goodIn_sub (fun _ h => List.mem_cons_of_mem _ (List.mem_append_right _ h)) (by decide +kernel))
set_option maxRecDepth 20000 in
theorem gL_does_X4_begin : GoodIn wsL_does (wsV RL 30 RX4 yX4_begin wsX4_begin) := goodIn_app (goodIn_of _ (by decide +kernel)) ggL_does_X4_begin
set_option maxRecDepth 20000 in
theorem ggL_does_X4_enter : GoodIn wsL_does wsX4_enter := goodIn_ca (goodIn_ca (goodIn_ca (goodIn_r _ [43, 9, 10, 44, 45, 46, 47, 48, 49, 50, 51, 52, 53, 54, 55, 7, 56, 21, 22, 11, 12, 57, 58, 59, 23, 24, 60, 61, 62, 63, 33, 34, 64, 65, 66, 67, 68, 69, 70, 138, 139, 140, 141, 142, 131, 132, 133, 134, 135, 136, 137, 143, 144, 145, 146, 147, 148, 149] (by decide +kernel) (by decide +kernel)) (goodIn_sub (fun _ h => List.mem_cons_of_mem _ (List.mem_append_left _ (List.mem_append_left _ (List.mem_append_right _ h)))) (by decide +kernel))) (goodIn_sub (fun _ h => List.mem_cons_of_mem _ (List.mem_append_left _ (List.mem_append_right _ h))) (by decide +kernel))) (goodIn_sub (fun _ h => List.mem_cons_of_mem _ (List.mem_append_right _ h)) (by decide +kernel))
set_option maxRecDepth 20000 in
theorem gL_does_X4_enter : GoodIn wsL_does (wsV RL 36 RX4 yX4_enter wsX4_enter) := goodIn_app (goodIn_of _ (by decide +kernel)) ggL_does_X4_enter
set_option maxRecDepth 20000 in
theorem ggL_does_X4_send : GoodIn wsL_does wsX4_send := goodIn_ca (goodIn_ca (goodIn_ca (goodIn_r _ [74, 9, 10, 46, 52, 75, 76, 77, 53, 54, 55, 7, 56, 21, 22, 11, 12, 57, 58, 59, 23, 24, 78, 79, 80, 81, 82, 83, 84, 85, 86, 87, 88, 89, 16, 90, 91, 92, 93, 94, 47, 48, 95, 96, 97, 98, 51, 99, 70, 68, 100, 101, 69, 102, 103, 104, 105, 106, 107, 108, 109, 110, 111, 112, 113, 114, 115, 116, 117, 64, 65, 118, 67, 119, 120, 138, 139, 140, 141, 142, 150, 151, 152, 153, 154, 155, 156, 131, 132, 133, 134, 135, 136, 137, 143, 144, 145, 146, 147, 148, 149, 157, 158, 159, 160] (by decide +kernel) (by decide +kernel)) (goodIn_sub (fun _ h => List.mem_cons_of_mem _ (List.mem_append_left _ (List.mem_append_left _ (List.mem_append_right _ h)))) (by decide +kernel))) (goodIn_sub (fun _ h => List.mem_cons_of_mem _ (List.mem_append_left _ (List.mem_append_right _ h))) (by decide +kernel))) (goodIn_sub (fun _ h => List.mem_cons_of_mem _ (List.mem_append_right _ h)) (by decide +kernel))
set_option maxRecDepth 20000 in
theorem gL_does_X4_send : GoodIn wsL_does (wsV RL 40 RX4 yX4_send wsX4_send) := goodIn_app (goodIn_of _ (by decide +kernel)) ggL_does_X4_send
set_option maxRecDepth 20000 in
theorem ggL_does_X4_nextMonth : GoodIn wsL_does wsX4_nextMonth := goodIn_ca (goodIn_r _ [124, 9, 10, 16, 125, 126, 127, 7, 128, 47, 48, 129, 130, 131, 132, 133, 134, 135, 136, 137, 143, 144, 145, 146, 147, 148, 149] (by decide +kernel) (by decide +kernel)) (goodIn_sub (fun _ h => List.mem_cons_of_mem _ (List.mem_append_left _ (List.mem_append_left _ (List.mem_append_right _ h)))) (by decide +kernel))
set_option maxRecDepth 20000 in
theorem gL_does_X4_nextMonth : GoodIn wsL_does (wsV RL 43 RX4 yX4_nextMonth wsX4_nextMonth) := goodIn_app (goodIn_of _ (by decide +kernel)) ggL_does_X4_nextMonth
theorem dL_does_0 : decode cL_does 0 = .ok (.iload_n 1, 1) := by decide +kernel
theorem dL_does_1 : decode cL_does 1 = .ok (.ifCond .ne 12, 3) := by decide +kernel
theorem dL_does_4 : decode cL_does 4 = .ok (.aload_n 0, 1) := by decide +kernel
theorem dL_does_5 : decode cL_does 5 = .ok (.iload_n 2, 1) := by decide +kernel
theorem dL_does_6 : decode cL_does 6 = .ok (.iload_n 3, 1) := by decide +kernel
theorem dL_does_7 : decode cL_does 7 = .ok (.invokevirtual 30, 3) := by decide +kernel
theorem dL_does_10 : decode cL_does 10 = .ok (.goto 37, 3) := by decide +kernel
theorem dL_does_13 : decode cL_does 13 = .ok (.iload_n 1, 1) := by decide +kernel
theorem dL_does_14 : decode cL_does 14 = .ok (.iconst 1, 1) := by decide +kernel
theorem dL_does_15 : decode cL_does 15 = .ok (.if_icmp .ne 14, 3) := by decide +kernel
theorem dL_does_18 : decode cL_does 18 = .ok (.aload_n 0, 1) := by decide +kernel
theorem dL_does_19 : decode cL_does 19 = .ok (.iload_n 2, 1) := by decide +kernel
theorem dL_does_20 : decode cL_does 20 = .ok (.iload_n 3, 1) := by decide +kernel
theorem dL_does_21 : decode cL_does 21 = .ok (.iload 4, 2) := by decide +kernel
theorem dL_does_23 : decode cL_does 23 = .ok (.invokevirtual 36, 3) := by decide +kernel
theorem dL_does_26 : decode cL_does 26 = .ok (.goto 21, 3) := by decide +kernel
theorem dL_does_29 : decode cL_does 29 = .ok (.iload_n 1, 1) := by decide +kernel
theorem dL_does_30 : decode cL_does 30 = .ok (.iconst 2, 1) := by decide +kernel
theorem dL_does_31 : decode cL_does 31 = .ok (.if_icmp .ne 12, 3) := by decide +kernel
theorem dL_does_34 : decode cL_does 34 = .ok (.aload_n 0, 1) := by decide +kernel
theorem dL_does_35 : decode cL_does 35 = .ok (.iload_n 2, 1) := by decide +kernel
theorem dL_does_36 : decode cL_does 36 = .ok (.iload_n 3, 1) := by decide +kernel
theorem dL_does_37 : decode cL_does 37 = .ok (.invokevirtual 40, 3) := by decide +kernel
theorem dL_does_40 : decode cL_does 40 = .ok (.goto 7, 3) := by decide +kernel
theorem dL_does_43 : decode cL_does 43 = .ok (.aload_n 0, 1) := by decide +kernel
theorem dL_does_44 : decode cL_does 44 = .ok (.invokevirtual 43, 3) := by decide +kernel
theorem dL_does_47 : decode cL_does 47 = .ok (.ireturn, 1) := by decide +kernel
theorem dL_does_48 : decode cL_does 48 = .ok (.astore 5, 2) := by decide +kernel
theorem dL_does_50 : decode cL_does 50 = .ok (.bipush (-11), 2) := by decide +kernel
theorem dL_does_52 : decode cL_does 52 = .ok (.ireturn, 1) := by decide +kernel
theorem dL_does_53 : decode cL_does 53 = .ok (.astore 5, 2) := by decide +kernel
theorem dL_does_55 : decode cL_does 55 = .ok (.bipush (-12), 2) := by decide +kernel
theorem dL_does_57 : decode cL_does 57 = .ok (.ireturn, 1) := by decide +kernel
theorem dL_does_58 : decode cL_does 58 = .ok (.astore 5, 2) := by decide +kernel
theorem dL_does_60 : decode cL_does 60 = .ok (.bipush (-13), 2) := by decide +kernel
theorem dL_does_62 : decode cL_does 62 = .ok (.ireturn, 1) := by decide +kernel
set_option maxRecDepth 20000 in
theorem ggL_isDisputed_X4_dispute : GoodIn wsL_isDisputed wsX4_dispute := goodIn_ca (goodIn_ca (goodIn_r _ [6, 7, 8, 9, 10, 11, 12, 13, 14, 15, 5, 16, 17, 18, 19, 20, 21, 22, 23, 24, 25, 26, 27, 28, 29, 30, 31, 32, 33, 34] (by decide +kernel) (by decide +kernel)) (goodIn_sub (fun _ h => List.mem_cons_of_mem _ (List.mem_append_left _ (List.mem_append_right _ h))) (by decide +kernel))) (goodIn_sub (fun _ h => List.mem_cons_of_mem _ (List.mem_append_right _ h)) (by decide +kernel))
set_option maxRecDepth 20000 in
theorem gL_isDisputed_X4_dispute : GoodIn wsL_isDisputed (wsV RL 53 RX4 yX4_dispute wsX4_dispute) := goodIn_app (goodIn_of _ (by decide +kernel)) ggL_isDisputed_X4_dispute
theorem dL_isDisputed_0 : decode cL_isDisputed 0 = .ok (.aload_n 0, 1) := by decide +kernel
theorem dL_isDisputed_1 : decode cL_isDisputed 1 = .ok (.iload_n 1, 1) := by decide +kernel
theorem dL_isDisputed_2 : decode cL_isDisputed 2 = .ok (.invokevirtual 53, 3) := by decide +kernel
theorem dL_isDisputed_5 : decode cL_isDisputed 5 = .ok (.iconst 1, 1) := by decide +kernel
theorem dL_isDisputed_6 : decode cL_isDisputed 6 = .ok (.ireturn, 1) := by decide +kernel
theorem dL_isDisputed_7 : decode cL_isDisputed 7 = .ok (.astore_n 2, 1) := by decide +kernel
theorem dL_isDisputed_8 : decode cL_isDisputed 8 = .ok (.iconst 0, 1) := by decide +kernel
theorem dL_isDisputed_9 : decode cL_isDisputed 9 = .ok (.ireturn, 1) := by decide +kernel
set_option maxRecDepth 20000 in
theorem ggL_isAnswered_X4_answer : GoodIn wsL_isAnswered wsX4_answer := goodIn_ca (goodIn_ca (goodIn_r _ [6, 7, 8, 9, 10, 11, 12, 5, 13, 14, 15, 16, 17, 18, 19, 20, 21, 22, 23, 24, 25, 26, 27, 28, 29, 30, 31] (by decide +kernel) (by decide +kernel)) (goodIn_sub (fun _ h => List.mem_cons_of_mem _ (List.mem_append_left _ (List.mem_append_right _ h))) (by decide +kernel))) (goodIn_sub (fun _ h => List.mem_cons_of_mem _ (List.mem_append_right _ h)) (by decide +kernel))
set_option maxRecDepth 20000 in
theorem gL_isAnswered_X4_answer : GoodIn wsL_isAnswered (wsV RL 57 RX4 yX4_answer wsX4_answer) := goodIn_app (goodIn_of _ (by decide +kernel)) ggL_isAnswered_X4_answer
theorem dL_isAnswered_0 : decode cL_isAnswered 0 = .ok (.aload_n 0, 1) := by decide +kernel
theorem dL_isAnswered_1 : decode cL_isAnswered 1 = .ok (.iload_n 1, 1) := by decide +kernel
theorem dL_isAnswered_2 : decode cL_isAnswered 2 = .ok (.iload_n 2, 1) := by decide +kernel
theorem dL_isAnswered_3 : decode cL_isAnswered 3 = .ok (.invokevirtual 57, 3) := by decide +kernel
theorem dL_isAnswered_6 : decode cL_isAnswered 6 = .ok (.iconst 1, 1) := by decide +kernel
theorem dL_isAnswered_7 : decode cL_isAnswered 7 = .ok (.ireturn, 1) := by decide +kernel
theorem dL_isAnswered_8 : decode cL_isAnswered 8 = .ok (.astore_n 3, 1) := by decide +kernel
theorem dL_isAnswered_9 : decode cL_isAnswered 9 = .ok (.iconst 0, 1) := by decide +kernel
theorem dL_isAnswered_10 : decode cL_isAnswered 10 = .ok (.ireturn, 1) := by decide +kernel
set_option maxRecDepth 20000 in
theorem ggL_short1_X4_shortfall : GoodIn wsL_short1 wsX4_shortfall := goodIn_ca (goodIn_ca (goodIn_ca (goodIn_r _ [7, 8, 9, 10, 11, 12, 13, 14, 15, 16, 17, 18, 6, 19, 20, 21, 22, 23, 24, 25, 26, 27, 28, 29, 30, 31, 32, 33, 34, 35, 36, 37, 38, 39, 40, 41, 42, 43, 44, 45, 46, 47, 48, 49, 50, 51, 52, 53, 54, 55, 56, 57, 58, 59, 60, 61, 62, 63, 64, 65, 66, 67, 68, 69, 70, 71, 72, 73, 74, 75, 76, 77, 78, 79, 80, 81, 82, 83, 84, 85, 86, 87, 88, 89] (by decide +kernel) (by decide +kernel)) (goodIn_sub (fun _ h => List.mem_cons_of_mem _ (List.mem_append_left _ (List.mem_append_left _ (List.mem_append_right _ h)))) (by decide +kernel))) (goodIn_sub (fun _ h => List.mem_cons_of_mem _ (List.mem_append_left _ (List.mem_append_right _ h))) (by decide +kernel))) (goodIn_sub (fun _ h => List.mem_cons_of_mem _ (List.mem_append_right _ h)) (by decide +kernel))
set_option maxRecDepth 20000 in
theorem gL_short1_X4_shortfall : GoodIn wsL_short1 (wsV RL 61 RX4 yX4_shortfall wsX4_shortfall) := goodIn_app (goodIn_of _ (by decide +kernel)) ggL_short1_X4_shortfall
theorem dL_short1_0 : decode cL_short1 0 = .ok (.aload_n 0, 1) := by decide +kernel
theorem dL_short1_1 : decode cL_short1 1 = .ok (.iload_n 1, 1) := by decide +kernel
theorem dL_short1_2 : decode cL_short1 2 = .ok (.iload_n 2, 1) := by decide +kernel
theorem dL_short1_3 : decode cL_short1 3 = .ok (.iload_n 3, 1) := by decide +kernel
theorem dL_short1_4 : decode cL_short1 4 = .ok (.invokevirtual 61, 3) := by decide +kernel
theorem dL_short1_7 : decode cL_short1 7 = .ok (.lreturn, 1) := by decide +kernel
theorem dL_short1_8 : decode cL_short1 8 = .ok (.astore 4, 2) := by decide +kernel
theorem dL_short1_10 : decode cL_short1 10 = .ok (.ldc2_w 65, 3) := by decide +kernel
theorem dL_short1_13 : decode cL_short1 13 = .ok (.lreturn, 1) := by decide +kernel
theorem dL_lacking_0 : decode cL_lacking 0 = .ok (.iconst 0, 1) := by decide +kernel
theorem dL_lacking_1 : decode cL_lacking 1 = .ok (.istore 4, 2) := by decide +kernel
theorem dL_lacking_3 : decode cL_lacking 3 = .ok (.bipush 99, 2) := by decide +kernel
theorem dL_lacking_5 : decode cL_lacking 5 = .ok (.istore 5, 2) := by decide +kernel
theorem dL_lacking_7 : decode cL_lacking 7 = .ok (.iload 5, 2) := by decide +kernel
theorem dL_lacking_9 : decode cL_lacking 9 = .ok (.aload_n 2, 1) := by decide +kernel
theorem dL_lacking_10 : decode cL_lacking 10 = .ok (.iload_n 3, 1) := by decide +kernel
theorem dL_lacking_11 : decode cL_lacking 11 = .ok (.iaload, 1) := by decide +kernel
theorem dL_lacking_12 : decode cL_lacking 12 = .ok (.if_icmp .lt 137, 3) := by decide +kernel
theorem dL_lacking_15 : decode cL_lacking 15 = .ok (.iconst 0, 1) := by decide +kernel
theorem dL_lacking_16 : decode cL_lacking 16 = .ok (.istore 6, 2) := by decide +kernel
theorem dL_lacking_18 : decode cL_lacking 18 = .ok (.iconst 0, 1) := by decide +kernel
theorem dL_lacking_19 : decode cL_lacking 19 = .ok (.istore 7, 2) := by decide +kernel
theorem dL_lacking_21 : decode cL_lacking 21 = .ok (.iconst 0, 1) := by decide +kernel
theorem dL_lacking_22 : decode cL_lacking 22 = .ok (.istore 8, 2) := by decide +kernel
theorem dL_lacking_24 : decode cL_lacking 24 = .ok (.iload 8, 2) := by decide +kernel
theorem dL_lacking_26 : decode cL_lacking 26 = .ok (.aload_n 0, 1) := by decide +kernel
theorem dL_lacking_27 : decode cL_lacking 27 = .ok (.iconst 0, 1) := by decide +kernel
theorem dL_lacking_28 : decode cL_lacking 28 = .ok (.iaload, 1) := by decide +kernel
theorem dL_lacking_29 : decode cL_lacking 29 = .ok (.if_icmp .ge 94, 3) := by decide +kernel
theorem dL_lacking_32 : decode cL_lacking 32 = .ok (.aload_n 1, 1) := by decide +kernel
theorem dL_lacking_33 : decode cL_lacking 33 = .ok (.iconst 4, 1) := by decide +kernel
theorem dL_lacking_34 : decode cL_lacking 34 = .ok (.iload 8, 2) := by decide +kernel
theorem dL_lacking_36 : decode cL_lacking 36 = .ok (.imul, 1) := by decide +kernel
theorem dL_lacking_37 : decode cL_lacking 37 = .ok (.iaload, 1) := by decide +kernel
theorem dL_lacking_38 : decode cL_lacking 38 = .ok (.iload_n 3, 1) := by decide +kernel
theorem dL_lacking_39 : decode cL_lacking 39 = .ok (.if_icmp .ne 19, 3) := by decide +kernel
theorem dL_lacking_42 : decode cL_lacking 42 = .ok (.aload_n 1, 1) := by decide +kernel
theorem dL_lacking_43 : decode cL_lacking 43 = .ok (.iconst 4, 1) := by decide +kernel
theorem dL_lacking_44 : decode cL_lacking 44 = .ok (.iload 8, 2) := by decide +kernel
theorem dL_lacking_46 : decode cL_lacking 46 = .ok (.imul, 1) := by decide +kernel
theorem dL_lacking_47 : decode cL_lacking 47 = .ok (.iconst 2, 1) := by decide +kernel
theorem dL_lacking_48 : decode cL_lacking 48 = .ok (.iadd, 1) := by decide +kernel
theorem dL_lacking_49 : decode cL_lacking 49 = .ok (.iaload, 1) := by decide +kernel
theorem dL_lacking_50 : decode cL_lacking 50 = .ok (.iconst 2, 1) := by decide +kernel
theorem dL_lacking_51 : decode cL_lacking 51 = .ok (.if_icmp .ne 7, 3) := by decide +kernel
theorem dL_lacking_54 : decode cL_lacking 54 = .ok (.iconst 1, 1) := by decide +kernel
theorem dL_lacking_55 : decode cL_lacking 55 = .ok (.goto 4, 3) := by decide +kernel
theorem dL_lacking_58 : decode cL_lacking 58 = .ok (.iconst 0, 1) := by decide +kernel
theorem dL_lacking_59 : decode cL_lacking 59 = .ok (.istore 9, 2) := by decide +kernel
theorem dL_lacking_61 : decode cL_lacking 61 = .ok (.iload 6, 2) := by decide +kernel
theorem dL_lacking_63 : decode cL_lacking 63 = .ok (.iload 9, 2) := by decide +kernel
theorem dL_lacking_65 : decode cL_lacking 65 = .ok (.ifCond .eq 20, 3) := by decide +kernel
theorem dL_lacking_68 : decode cL_lacking 68 = .ok (.aload_n 1, 1) := by decide +kernel
theorem dL_lacking_69 : decode cL_lacking 69 = .ok (.iconst 4, 1) := by decide +kernel
theorem dL_lacking_70 : decode cL_lacking 70 = .ok (.iload 8, 2) := by decide +kernel
theorem dL_lacking_72 : decode cL_lacking 72 = .ok (.imul, 1) := by decide +kernel
theorem dL_lacking_73 : decode cL_lacking 73 = .ok (.iconst 3, 1) := by decide +kernel
theorem dL_lacking_74 : decode cL_lacking 74 = .ok (.iadd, 1) := by decide +kernel
theorem dL_lacking_75 : decode cL_lacking 75 = .ok (.iaload, 1) := by decide +kernel
theorem dL_lacking_76 : decode cL_lacking 76 = .ok (.iload 5, 2) := by decide +kernel
theorem dL_lacking_78 : decode cL_lacking 78 = .ok (.if_icmp .ne 7, 3) := by decide +kernel
theorem dL_lacking_81 : decode cL_lacking 81 = .ok (.iconst 1, 1) := by decide +kernel
theorem dL_lacking_82 : decode cL_lacking 82 = .ok (.goto 4, 3) := by decide +kernel
theorem dL_lacking_85 : decode cL_lacking 85 = .ok (.iconst 0, 1) := by decide +kernel
theorem dL_lacking_86 : decode cL_lacking 86 = .ok (.iadd, 1) := by decide +kernel
theorem dL_lacking_87 : decode cL_lacking 87 = .ok (.istore 6, 2) := by decide +kernel
theorem dL_lacking_89 : decode cL_lacking 89 = .ok (.iload 7, 2) := by decide +kernel
theorem dL_lacking_91 : decode cL_lacking 91 = .ok (.iload 9, 2) := by decide +kernel
theorem dL_lacking_93 : decode cL_lacking 93 = .ok (.ifCond .eq 20, 3) := by decide +kernel
theorem dL_lacking_96 : decode cL_lacking 96 = .ok (.aload_n 1, 1) := by decide +kernel
theorem dL_lacking_97 : decode cL_lacking 97 = .ok (.iconst 4, 1) := by decide +kernel
theorem dL_lacking_98 : decode cL_lacking 98 = .ok (.iload 8, 2) := by decide +kernel
theorem dL_lacking_100 : decode cL_lacking 100 = .ok (.imul, 1) := by decide +kernel
theorem dL_lacking_101 : decode cL_lacking 101 = .ok (.iconst 3, 1) := by decide +kernel
theorem dL_lacking_102 : decode cL_lacking 102 = .ok (.iadd, 1) := by decide +kernel
theorem dL_lacking_103 : decode cL_lacking 103 = .ok (.iaload, 1) := by decide +kernel
theorem dL_lacking_104 : decode cL_lacking 104 = .ok (.iload 5, 2) := by decide +kernel
theorem dL_lacking_106 : decode cL_lacking 106 = .ok (.if_icmp .le 7, 3) := by decide +kernel
theorem dL_lacking_109 : decode cL_lacking 109 = .ok (.iconst 1, 1) := by decide +kernel
theorem dL_lacking_110 : decode cL_lacking 110 = .ok (.goto 4, 3) := by decide +kernel
theorem dL_lacking_113 : decode cL_lacking 113 = .ok (.iconst 0, 1) := by decide +kernel
theorem dL_lacking_114 : decode cL_lacking 114 = .ok (.iadd, 1) := by decide +kernel
theorem dL_lacking_115 : decode cL_lacking 115 = .ok (.istore 7, 2) := by decide +kernel
theorem dL_lacking_117 : decode cL_lacking 117 = .ok (.iinc 8 1, 3) := by decide +kernel
theorem dL_lacking_120 : decode cL_lacking 120 = .ok (.goto (-96), 3) := by decide +kernel
theorem dL_lacking_123 : decode cL_lacking 123 = .ok (.iload 4, 2) := by decide +kernel
theorem dL_lacking_125 : decode cL_lacking 125 = .ok (.iload 6, 2) := by decide +kernel
theorem dL_lacking_127 : decode cL_lacking 127 = .ok (.ifCond .ne 12, 3) := by decide +kernel
theorem dL_lacking_130 : decode cL_lacking 130 = .ok (.iload 7, 2) := by decide +kernel
theorem dL_lacking_132 : decode cL_lacking 132 = .ok (.ifCond .le 7, 3) := by decide +kernel
theorem dL_lacking_135 : decode cL_lacking 135 = .ok (.iconst 1, 1) := by decide +kernel
theorem dL_lacking_136 : decode cL_lacking 136 = .ok (.goto 4, 3) := by decide +kernel
theorem dL_lacking_139 : decode cL_lacking 139 = .ok (.iconst 0, 1) := by decide +kernel
theorem dL_lacking_140 : decode cL_lacking 140 = .ok (.iadd, 1) := by decide +kernel
theorem dL_lacking_141 : decode cL_lacking 141 = .ok (.istore 4, 2) := by decide +kernel
theorem dL_lacking_143 : decode cL_lacking 143 = .ok (.iinc 5 (-1), 3) := by decide +kernel
theorem dL_lacking_146 : decode cL_lacking 146 = .ok (.goto (-139), 3) := by decide +kernel
theorem dL_lacking_149 : decode cL_lacking 149 = .ok (.iload 4, 2) := by decide +kernel
theorem dL_lacking_151 : decode cL_lacking 151 = .ok (.ireturn, 1) := by decide +kernel
set_option maxRecDepth 20000 in
theorem ggL_isHouse_X4_calls : GoodIn wsL_isHouse wsX4_calls := goodIn_r _ [9, 10, 172, 173, 174, 175, 176, 177, 178] (by decide +kernel) (by decide +kernel)
set_option maxRecDepth 20000 in
theorem gL_isHouse_X4_calls : GoodIn wsL_isHouse (wsV RL 67 RX4 yX4_calls wsX4_calls) := goodIn_app (goodIn_of _ (by decide +kernel)) ggL_isHouse_X4_calls
set_option maxRecDepth 20000 in
theorem ggL_isHouse_X4_month : GoodIn wsL_isHouse wsX4_month := goodIn_r _ [14, 15, 172, 173, 174, 175, 176, 177, 178] (by decide +kernel) (by decide +kernel)
set_option maxRecDepth 20000 in
theorem gL_isHouse_X4_month : GoodIn wsL_isHouse (wsV RL 70 RX4 yX4_month wsX4_month) := goodIn_app (goodIn_of _ (by decide +kernel)) ggL_isHouse_X4_month
set_option maxRecDepth 20000 in
theorem ggL_isHouse_X4_stateOf : GoodIn wsL_isHouse wsX4_stateOf := goodIn_ca (goodIn_r _ [19, 20, 21, 22, 23, 8, 24, 25, 26, 27, 28, 179, 180, 181, 182, 183, 172, 173, 174, 175, 176, 177, 178] (by decide +kernel) (by decide +kernel)) (goodIn_sub (fun _ h => List.mem_cons_of_mem _ (List.mem_append_left _ (List.mem_append_left _ (List.mem_append_right _ h)))) (by decide +kernel))
set_option maxRecDepth 20000 in
theorem gL_isHouse_X4_stateOf : GoodIn wsL_isHouse (wsV RL 72 RX4 yX4_stateOf wsX4_stateOf) := goodIn_app (goodIn_of _ (by decide +kernel)) ggL_isHouse_X4_stateOf
set_option maxRecDepth 20000 in
theorem ggL_isHouse_L_month : GoodIn wsL_isHouse wsL_month := goodIn_r _ [32] (by decide +kernel) (by decide +kernel)
set_option maxRecDepth 20000 in
theorem gL_isHouse_L_month : GoodIn wsL_isHouse (va_wsS RL 21 yL_month wsL_month) := goodIn_app (goodIn_of _ (by decide +kernel)) ggL_isHouse_L_month
set_option maxRecDepth 20000 in
theorem ggL_isHouse_X4_call : GoodIn wsL_isHouse wsX4_call := goodIn_ca (goodIn_r _ [36, 37, 38, 39, 40, 8, 41, 25, 26, 10, 42, 184, 185, 186, 187, 188, 189, 190, 172, 173, 174, 175, 176, 177, 178] (by decide +kernel) (by decide +kernel)) (goodIn_sub (fun _ h => List.mem_cons_of_mem _ (List.mem_append_left _ (List.mem_append_left _ (List.mem_append_right _ h)))) (by decide +kernel))
set_option maxRecDepth 20000 in
theorem gL_isHouse_X4_call : GoodIn wsL_isHouse (wsV RL 76 RX4 yX4_call wsX4_call) := goodIn_app (goodIn_of _ (by decide +kernel)) ggL_isHouse_X4_call
set_option maxRecDepth 20000 in
theorem ggL_isHouse_L_state : GoodIn wsL_isHouse wsL_state := goodIn_r _ [45] (by decide +kernel) (by decide +kernel)
set_option maxRecDepth 20000 in
theorem gL_isHouse_L_state : GoodIn wsL_isHouse (va_wsS RL 27 yL_state wsL_state) := goodIn_app (goodIn_of _ (by decide +kernel)) ggL_isHouse_L_state
set_option maxRecDepth 20000 in
theorem ggL_isHouse_X4_monthOf : GoodIn wsL_isHouse wsX4_monthOf := goodIn_ca (goodIn_r _ [49, 50, 38, 39, 40, 8, 41, 25, 26, 10, 42, 184, 185, 186, 187, 188, 189, 190, 172, 173, 174, 175, 176, 177, 178] (by decide +kernel) (by decide +kernel)) (goodIn_sub (fun _ h => List.mem_cons_of_mem _ (List.mem_append_left _ (List.mem_append_left _ (List.mem_append_right _ h)))) (by decide +kernel))
set_option maxRecDepth 20000 in
theorem gL_isHouse_X4_monthOf : GoodIn wsL_isHouse (wsV RL 79 RX4 yX4_monthOf wsX4_monthOf) := goodIn_app (goodIn_of _ (by decide +kernel)) ggL_isHouse_X4_monthOf
set_option maxRecDepth 20000 in
theorem ggL_isHouse_X4_owedFor : GoodIn wsL_isHouse wsX4_owedFor := goodIn_ca (goodIn_r _ [54, 38, 39, 40, 8, 41, 25, 26, 10, 42, 55, 56, 57, 58, 59, 60, 61, 62, 63, 64, 65, 66, 67, 68, 69, 70, 71, 72, 73, 74, 75, 76, 77, 172, 173, 174, 175, 176, 177, 178, 184, 185, 186, 187, 188, 189, 190, 179, 180, 181, 182, 183, 191, 192, 193, 194, 195, 196, 197] (by decide +kernel) (by decide +kernel)) (goodIn_sub (fun _ h => List.mem_cons_of_mem _ (List.mem_append_left _ (List.mem_append_left _ (List.mem_append_right _ h)))) (by decide +kernel))
set_option maxRecDepth 20000 in
theorem gL_isHouse_X4_owedFor : GoodIn wsL_isHouse (wsV RL 82 RX4 yX4_owedFor wsX4_owedFor) := goodIn_app (goodIn_of _ (by decide +kernel)) ggL_isHouse_X4_owedFor
set_option maxRecDepth 20000 in
theorem ggL_isHouse_L_pair : GoodIn wsL_isHouse wsL_pair := goodIn_r _ [80] (by decide +kernel) (by decide +kernel)
set_option maxRecDepth 20000 in
theorem gL_isHouse_L_pair : GoodIn wsL_isHouse (va_wsS RL 17 yL_pair wsL_pair) := goodIn_app (goodIn_of _ (by decide +kernel)) ggL_isHouse_L_pair
set_option maxRecDepth 20000 in
theorem ggL_isHouse_L_owed : GoodIn wsL_isHouse wsL_owed := goodIn_r _ [83, 84, 78, 79, 31, 80, 29, 30, 32, 43, 44, 45] (by decide +kernel) (by decide +kernel)
set_option maxRecDepth 20000 in
theorem gL_isHouse_L_owed : GoodIn wsL_isHouse (va_wsS RL 85 yL_owed wsL_owed) := goodIn_app (goodIn_of _ (by decide +kernel)) ggL_isHouse_L_owed
set_option maxRecDepth 20000 in
theorem ggL_isHouse_X4_expected : GoodIn wsL_isHouse wsX4_expected := goodIn_ca (goodIn_ca (goodIn_r _ [88, 89, 90, 91, 92, 8, 93, 25, 26, 94, 95, 96, 97, 98, 99, 191, 192, 193, 194, 195, 196, 197, 172, 173, 174, 175, 176, 177, 178] (by decide +kernel) (by decide +kernel)) (goodIn_sub (fun _ h => List.mem_cons_of_mem _ (List.mem_append_left _ (List.mem_append_left _ (List.mem_append_right _ h)))) (by decide +kernel))) (goodIn_sub (fun _ h => List.mem_cons_of_mem _ (List.mem_append_left _ (List.mem_append_right _ h))) (by decide +kernel))
set_option maxRecDepth 20000 in
theorem gL_isHouse_X4_expected : GoodIn wsL_isHouse (wsV RL 89 RX4 yX4_expected wsX4_expected) := goodIn_app (goodIn_of _ (by decide +kernel)) ggL_isHouse_X4_expected
set_option maxRecDepth 20000 in
theorem ggL_isHouse_X4_lacking : GoodIn wsL_isHouse wsX4_lacking := goodIn_ca (goodIn_ca (goodIn_r _ [103, 27, 28, 104, 20, 105, 106, 107, 108, 109, 89, 90, 91, 92, 8, 93, 25, 26, 94, 95, 96, 97, 98, 99, 172, 173, 174, 175, 176, 177, 178, 179, 180, 181, 182, 183, 191, 192, 193, 194, 195, 196, 197] (by decide +kernel) (by decide +kernel)) (goodIn_sub (fun _ h => List.mem_cons_of_mem _ (List.mem_append_left _ (List.mem_append_left _ (List.mem_append_right _ h)))) (by decide +kernel))) (goodIn_sub (fun _ h => List.mem_cons_of_mem _ (List.mem_append_left _ (List.mem_append_right _ h))) (by decide +kernel))
set_option maxRecDepth 20000 in
theorem gL_isHouse_X4_lacking : GoodIn wsL_isHouse (wsV RL 92 RX4 yX4_lacking wsX4_lacking) := goodIn_app (goodIn_of _ (by decide +kernel)) ggL_isHouse_X4_lacking
set_option maxRecDepth 20000 in
theorem ggL_isHouse_L_lacking : GoodIn wsL_isHouse wsL_lacking := goodIn_r _ [112] (by decide +kernel) (by decide +kernel)
set_option maxRecDepth 20000 in
theorem gL_isHouse_L_lacking : GoodIn wsL_isHouse (va_wsS RL 95 yL_lacking wsL_lacking) := goodIn_app (goodIn_of _ (by decide +kernel)) ggL_isHouse_L_lacking
set_option maxRecDepth 20000 in
theorem ggL_isHouse_X4_owed : GoodIn wsL_isHouse wsX4_owed := goodIn_ca (goodIn_ca (goodIn_r _ [116, 15, 90, 91, 92, 8, 93, 25, 26, 94, 95, 96, 97, 98, 99, 117, 118, 119, 120, 121, 122, 123, 10, 42, 124, 104, 50, 55, 56, 57, 58, 59, 60, 61, 62, 63, 64, 65, 66, 67, 68, 69, 70, 71, 72, 73, 74, 75, 76, 77, 172, 173, 174, 175, 176, 177, 178, 184, 185, 186, 187, 188, 189, 190, 179, 180, 181, 182, 183, 191, 192, 193, 194, 195, 196, 197] (by decide +kernel) (by decide +kernel)) (goodIn_sub (fun _ h => List.mem_cons_of_mem _ (List.mem_append_left _ (List.mem_append_left _ (List.mem_append_right _ h)))) (by decide +kernel))) (goodIn_sub (fun _ h => List.mem_cons_of_mem _ (List.mem_append_left _ (List.mem_append_right _ h))) (by decide +kernel))
set_option maxRecDepth 20000 in
theorem gL_isHouse_X4_owed : GoodIn wsL_isHouse (wsV RL 98 RX4 yX4_owed wsX4_owed) := goodIn_app (goodIn_of _ (by decide +kernel)) ggL_isHouse_X4_owed
set_option maxRecDepth 20000 in
theorem ggL_isHouse_L_short1 : GoodIn wsL_isHouse wsL_short1 := goodIn_ca (goodIn_ca (goodIn_ca (goodIn_r _ [127, 128, 2, 129, 130, 131, 8, 132, 133, 134, 15, 135, 136, 137, 108, 138, 90, 91, 92, 93, 25, 26, 94, 95, 96, 97, 98, 99, 117, 118, 119, 139, 68, 69, 120, 121, 122, 123, 10, 42, 124, 104, 50, 55, 56, 57, 58, 59, 60, 61, 62, 63, 64, 65, 66, 67, 70, 71, 72, 73, 74, 75, 76, 77, 172, 173, 174, 175, 176, 177, 178, 191, 192, 193, 194, 195, 196, 197, 184, 185, 186, 187, 188, 189, 190, 179, 180, 181, 182, 183] (by decide +kernel) (by decide +kernel)) (goodIn_sub (fun _ h => List.mem_cons_of_mem _ (List.mem_append_right _ h)) (by decide +kernel))) (goodIn_sub (fun _ h => List.mem_cons_of_mem _ (List.mem_append_left _ (List.mem_append_left _ (List.mem_append_right _ h)))) (by decide +kernel))) (goodIn_sub (fun _ h => List.mem_cons_of_mem _ (List.mem_append_left _ (List.mem_append_right _ h))) (by decide +kernel))
set_option maxRecDepth 20000 in
theorem gL_isHouse_L_short1 : GoodIn wsL_isHouse (va_wsS RL 100 yL_short1 wsL_short1) := goodIn_app (goodIn_of _ (by decide +kernel)) ggL_isHouse_L_short1
set_option maxRecDepth 20000 in
theorem ggL_isHouse_X4_net : GoodIn wsL_isHouse wsX4_net := goodIn_ca (goodIn_ca (goodIn_r _ [143, 15, 96, 144, 145, 146, 8, 147, 25, 26, 148, 97, 98, 99, 117, 118, 119, 94, 95, 149, 150, 151, 152, 153, 154, 155, 120, 121, 122, 123, 10, 42, 124, 104, 50, 55, 56, 57, 58, 59, 60, 61, 62, 63, 64, 65, 66, 67, 68, 69, 70, 71, 72, 73, 74, 75, 76, 77, 172, 173, 174, 175, 176, 177, 178, 191, 192, 193, 194, 195, 196, 197, 198, 199, 200, 201, 184, 185, 186, 187, 188, 189, 190, 179, 180, 181, 182, 183] (by decide +kernel) (by decide +kernel)) (goodIn_sub (fun _ h => List.mem_cons_of_mem _ (List.mem_append_left _ (List.mem_append_left _ (List.mem_append_right _ h)))) (by decide +kernel))) (goodIn_sub (fun _ h => List.mem_cons_of_mem _ (List.mem_append_left _ (List.mem_append_right _ h))) (by decide +kernel))
set_option maxRecDepth 20000 in
theorem gL_isHouse_X4_net : GoodIn wsL_isHouse (wsV RL 106 RX4 yX4_net wsX4_net) := goodIn_app (goodIn_of _ (by decide +kernel)) ggL_isHouse_X4_net
set_option maxRecDepth 20000 in
theorem ggL_isHouse_X4_charge : GoodIn wsL_isHouse wsX4_charge := goodIn_ca (goodIn_ca (goodIn_r _ [159, 160, 144, 145, 146, 8, 147, 25, 26, 148, 97, 98, 99, 117, 118, 119, 94, 95, 161, 162, 163, 164, 165, 166, 167, 168, 172, 173, 174, 175, 176, 177, 178, 198, 199, 200, 201] (by decide +kernel) (by decide +kernel)) (goodIn_sub (fun _ h => List.mem_cons_of_mem _ (List.mem_append_left _ (List.mem_append_left _ (List.mem_append_right _ h)))) (by decide +kernel))) (goodIn_sub (fun _ h => List.mem_cons_of_mem _ (List.mem_append_left _ (List.mem_append_right _ h))) (by decide +kernel))
set_option maxRecDepth 20000 in
theorem gL_isHouse_X4_charge : GoodIn wsL_isHouse (wsV RL 111 RX4 yX4_charge wsX4_charge) := goodIn_app (goodIn_of _ (by decide +kernel)) ggL_isHouse_X4_charge
set_option maxRecDepth 20000 in
theorem ggL_isHouse_L_charge : GoodIn wsL_isHouse wsL_charge := goodIn_r _ [171] (by decide +kernel) (by decide +kernel)
set_option maxRecDepth 20000 in
theorem gL_isHouse_L_charge : GoodIn wsL_isHouse (va_wsS RL 7 yL_charge wsL_charge) := goodIn_app (goodIn_of _ (by decide +kernel)) ggL_isHouse_L_charge
theorem dL_isHouse_0 : decode cL_isHouse 0 = .ok (.aload_n 0, 1) := by decide +kernel
theorem dL_isHouse_1 : decode cL_isHouse 1 = .ok (.invokevirtual 67, 3) := by decide +kernel
theorem dL_isHouse_4 : decode cL_isHouse 4 = .ok (.aload_n 1, 1) := by decide +kernel
theorem dL_isHouse_5 : decode cL_isHouse 5 = .ok (.iconst 1, 1) := by decide +kernel
theorem dL_isHouse_6 : decode cL_isHouse 6 = .ok (.iaload, 1) := by decide +kernel
theorem dL_isHouse_7 : decode cL_isHouse 7 = .ok (.if_icmp .ne 17, 3) := by decide +kernel
theorem dL_isHouse_10 : decode cL_isHouse 10 = .ok (.aload_n 0, 1) := by decide +kernel
theorem dL_isHouse_11 : decode cL_isHouse 11 = .ok (.invokevirtual 70, 3) := by decide +kernel
theorem dL_isHouse_14 : decode cL_isHouse 14 = .ok (.aload_n 1, 1) := by decide +kernel
theorem dL_isHouse_15 : decode cL_isHouse 15 = .ok (.iconst 3, 1) := by decide +kernel
theorem dL_isHouse_16 : decode cL_isHouse 16 = .ok (.iaload, 1) := by decide +kernel
theorem dL_isHouse_17 : decode cL_isHouse 17 = .ok (.if_icmp .ne 7, 3) := by decide +kernel
theorem dL_isHouse_20 : decode cL_isHouse 20 = .ok (.iconst 1, 1) := by decide +kernel
theorem dL_isHouse_21 : decode cL_isHouse 21 = .ok (.goto 4, 3) := by decide +kernel
theorem dL_isHouse_24 : decode cL_isHouse 24 = .ok (.iconst 0, 1) := by decide +kernel
theorem dL_isHouse_25 : decode cL_isHouse 25 = .ok (.istore 11, 2) := by decide +kernel
theorem dL_isHouse_27 : decode cL_isHouse 27 = .ok (.iconst 0, 1) := by decide +kernel
theorem dL_isHouse_28 : decode cL_isHouse 28 = .ok (.istore 12, 2) := by decide +kernel
theorem dL_isHouse_30 : decode cL_isHouse 30 = .ok (.iload 12, 2) := by decide +kernel
theorem dL_isHouse_32 : decode cL_isHouse 32 = .ok (.aload_n 1, 1) := by decide +kernel
theorem dL_isHouse_33 : decode cL_isHouse 33 = .ok (.iconst 0, 1) := by decide +kernel
theorem dL_isHouse_34 : decode cL_isHouse 34 = .ok (.iaload, 1) := by decide +kernel
theorem dL_isHouse_35 : decode cL_isHouse 35 = .ok (.if_icmp .ge 38, 3) := by decide +kernel
theorem dL_isHouse_38 : decode cL_isHouse 38 = .ok (.iload 11, 2) := by decide +kernel
theorem dL_isHouse_40 : decode cL_isHouse 40 = .ok (.ifCond .eq 33, 3) := by decide +kernel
theorem dL_isHouse_43 : decode cL_isHouse 43 = .ok (.aload_n 0, 1) := by decide +kernel
theorem dL_isHouse_44 : decode cL_isHouse 44 = .ok (.iload 12, 2) := by decide +kernel
theorem dL_isHouse_46 : decode cL_isHouse 46 = .ok (.invokevirtual 72, 3) := by decide +kernel
theorem dL_isHouse_49 : decode cL_isHouse 49 = .ok (.aload_n 3, 1) := by decide +kernel
theorem dL_isHouse_50 : decode cL_isHouse 50 = .ok (.iconst 4, 1) := by decide +kernel
theorem dL_isHouse_51 : decode cL_isHouse 51 = .ok (.iload 12, 2) := by decide +kernel
theorem dL_isHouse_53 : decode cL_isHouse 53 = .ok (.imul, 1) := by decide +kernel
theorem dL_isHouse_54 : decode cL_isHouse 54 = .ok (.iconst 2, 1) := by decide +kernel
theorem dL_isHouse_55 : decode cL_isHouse 55 = .ok (.iadd, 1) := by decide +kernel
theorem dL_isHouse_56 : decode cL_isHouse 56 = .ok (.iaload, 1) := by decide +kernel
theorem dL_isHouse_57 : decode cL_isHouse 57 = .ok (.if_icmp .ne 7, 3) := by decide +kernel
theorem dL_isHouse_60 : decode cL_isHouse 60 = .ok (.iconst 1, 1) := by decide +kernel
theorem dL_isHouse_61 : decode cL_isHouse 61 = .ok (.goto 4, 3) := by decide +kernel
theorem dL_isHouse_64 : decode cL_isHouse 64 = .ok (.iconst 0, 1) := by decide +kernel
theorem dL_isHouse_65 : decode cL_isHouse 65 = .ok (.istore 11, 2) := by decide +kernel
theorem dL_isHouse_67 : decode cL_isHouse 67 = .ok (.iinc 12 1, 3) := by decide +kernel
theorem dL_isHouse_70 : decode cL_isHouse 70 = .ok (.goto (-40), 3) := by decide +kernel
theorem dL_isHouse_73 : decode cL_isHouse 73 = .ok (.iconst 0, 1) := by decide +kernel
theorem dL_isHouse_74 : decode cL_isHouse 74 = .ok (.istore 12, 2) := by decide +kernel
theorem dL_isHouse_76 : decode cL_isHouse 76 = .ok (.iload 12, 2) := by decide +kernel
theorem dL_isHouse_78 : decode cL_isHouse 78 = .ok (.aload_n 1, 1) := by decide +kernel
theorem dL_isHouse_79 : decode cL_isHouse 79 = .ok (.iconst 1, 1) := by decide +kernel
theorem dL_isHouse_80 : decode cL_isHouse 80 = .ok (.iaload, 1) := by decide +kernel
theorem dL_isHouse_81 : decode cL_isHouse 81 = .ok (.if_icmp .ge 125, 3) := by decide +kernel
theorem dL_isHouse_84 : decode cL_isHouse 84 = .ok (.iload 11, 2) := by decide +kernel
theorem dL_isHouse_86 : decode cL_isHouse 86 = .ok (.ifCond .eq 120, 3) := by decide +kernel
theorem dL_isHouse_89 : decode cL_isHouse 89 = .ok (.aload 4, 2) := by decide +kernel
theorem dL_isHouse_91 : decode cL_isHouse 91 = .ok (.iload 12, 2) := by decide +kernel
theorem dL_isHouse_93 : decode cL_isHouse 93 = .ok (.invokestatic 21, 3) := by decide +kernel
theorem dL_isHouse_96 : decode cL_isHouse 96 = .ok (.istore 13, 2) := by decide +kernel
theorem dL_isHouse_98 : decode cL_isHouse 98 = .ok (.aload_n 0, 1) := by decide +kernel
theorem dL_isHouse_99 : decode cL_isHouse 99 = .ok (.iload 12, 2) := by decide +kernel
theorem dL_isHouse_101 : decode cL_isHouse 101 = .ok (.invokevirtual 76, 3) := by decide +kernel
theorem dL_isHouse_104 : decode cL_isHouse 104 = .ok (.aload 4, 2) := by decide +kernel
theorem dL_isHouse_106 : decode cL_isHouse 106 = .ok (.iload 12, 2) := by decide +kernel
theorem dL_isHouse_108 : decode cL_isHouse 108 = .ok (.invokestatic 27, 3) := by decide +kernel
theorem dL_isHouse_111 : decode cL_isHouse 111 = .ok (.if_icmp .ne 86, 3) := by decide +kernel
theorem dL_isHouse_114 : decode cL_isHouse 114 = .ok (.aload_n 0, 1) := by decide +kernel
theorem dL_isHouse_115 : decode cL_isHouse 115 = .ok (.iload 12, 2) := by decide +kernel
theorem dL_isHouse_117 : decode cL_isHouse 117 = .ok (.invokevirtual 79, 3) := by decide +kernel
theorem dL_isHouse_120 : decode cL_isHouse 120 = .ok (.aload 4, 2) := by decide +kernel
theorem dL_isHouse_122 : decode cL_isHouse 122 = .ok (.iload 12, 2) := by decide +kernel
theorem dL_isHouse_124 : decode cL_isHouse 124 = .ok (.invokestatic 27, 3) := by decide +kernel
theorem dL_isHouse_127 : decode cL_isHouse 127 = .ok (.ifCond .ne 7, 3) := by decide +kernel
theorem dL_isHouse_130 : decode cL_isHouse 130 = .ok (.iconst (-1), 1) := by decide +kernel
theorem dL_isHouse_131 : decode cL_isHouse 131 = .ok (.goto 5, 3) := by decide +kernel
theorem dL_isHouse_134 : decode cL_isHouse 134 = .ok (.iload 13, 2) := by decide +kernel
theorem dL_isHouse_136 : decode cL_isHouse 136 = .ok (.if_icmp .ne 61, 3) := by decide +kernel
theorem dL_isHouse_139 : decode cL_isHouse 139 = .ok (.aload_n 0, 1) := by decide +kernel
theorem dL_isHouse_140 : decode cL_isHouse 140 = .ok (.iload 12, 2) := by decide +kernel
theorem dL_isHouse_142 : decode cL_isHouse 142 = .ok (.invokevirtual 82, 3) := by decide +kernel
theorem dL_isHouse_145 : decode cL_isHouse 145 = .ok (.i2l, 1) := by decide +kernel
theorem dL_isHouse_146 : decode cL_isHouse 146 = .ok (.aload 4, 2) := by decide +kernel
theorem dL_isHouse_148 : decode cL_isHouse 148 = .ok (.iload 12, 2) := by decide +kernel
theorem dL_isHouse_150 : decode cL_isHouse 150 = .ok (.invokestatic 27, 3) := by decide +kernel
theorem dL_isHouse_153 : decode cL_isHouse 153 = .ok (.ifCond .ne 7, 3) := by decide +kernel
theorem dL_isHouse_156 : decode cL_isHouse 156 = .ok (.lconst 0, 1) := by decide +kernel
theorem dL_isHouse_157 : decode cL_isHouse 157 = .ok (.goto 32, 3) := by decide +kernel
theorem dL_isHouse_160 : decode cL_isHouse 160 = .ok (.aload_n 1, 1) := by decide +kernel
theorem dL_isHouse_161 : decode cL_isHouse 161 = .ok (.aload_n 3, 1) := by decide +kernel
theorem dL_isHouse_162 : decode cL_isHouse 162 = .ok (.aload 4, 2) := by decide +kernel
theorem dL_isHouse_164 : decode cL_isHouse 164 = .ok (.aload 5, 2) := by decide +kernel
theorem dL_isHouse_166 : decode cL_isHouse 166 = .ok (.aload 6, 2) := by decide +kernel
theorem dL_isHouse_168 : decode cL_isHouse 168 = .ok (.aload 7, 2) := by decide +kernel
theorem dL_isHouse_170 : decode cL_isHouse 170 = .ok (.aload 9, 2) := by decide +kernel
theorem dL_isHouse_172 : decode cL_isHouse 172 = .ok (.aload 4, 2) := by decide +kernel
theorem dL_isHouse_174 : decode cL_isHouse 174 = .ok (.aload_n 3, 1) := by decide +kernel
theorem dL_isHouse_175 : decode cL_isHouse 175 = .ok (.iload 12, 2) := by decide +kernel
theorem dL_isHouse_177 : decode cL_isHouse 177 = .ok (.invokestatic 17, 3) := by decide +kernel
theorem dL_isHouse_180 : decode cL_isHouse 180 = .ok (.iload 13, 2) := by decide +kernel
theorem dL_isHouse_182 : decode cL_isHouse 182 = .ok (.iload 13, 2) := by decide +kernel
theorem dL_isHouse_184 : decode cL_isHouse 184 = .ok (.iload 12, 2) := by decide +kernel
theorem dL_isHouse_186 : decode cL_isHouse 186 = .ok (.invokestatic 85, 3) := by decide +kernel
theorem dL_isHouse_189 : decode cL_isHouse 189 = .ok (.lcmp, 1) := by decide +kernel
theorem dL_isHouse_190 : decode cL_isHouse 190 = .ok (.ifCond .ne 7, 3) := by decide +kernel
theorem dL_isHouse_193 : decode cL_isHouse 193 = .ok (.iconst 1, 1) := by decide +kernel
theorem dL_isHouse_194 : decode cL_isHouse 194 = .ok (.goto 4, 3) := by decide +kernel
theorem dL_isHouse_197 : decode cL_isHouse 197 = .ok (.iconst 0, 1) := by decide +kernel
theorem dL_isHouse_198 : decode cL_isHouse 198 = .ok (.istore 11, 2) := by decide +kernel
theorem dL_isHouse_200 : decode cL_isHouse 200 = .ok (.iinc 12 1, 3) := by decide +kernel
theorem dL_isHouse_203 : decode cL_isHouse 203 = .ok (.goto (-127), 3) := by decide +kernel
theorem dL_isHouse_206 : decode cL_isHouse 206 = .ok (.iload 10, 2) := by decide +kernel
theorem dL_isHouse_208 : decode cL_isHouse 208 = .ok (.aload_n 1, 1) := by decide +kernel
theorem dL_isHouse_209 : decode cL_isHouse 209 = .ok (.iconst 3, 1) := by decide +kernel
theorem dL_isHouse_210 : decode cL_isHouse 210 = .ok (.iaload, 1) := by decide +kernel
theorem dL_isHouse_211 : decode cL_isHouse 211 = .ok (.iconst 1, 1) := by decide +kernel
theorem dL_isHouse_212 : decode cL_isHouse 212 = .ok (.iadd, 1) := by decide +kernel
theorem dL_isHouse_213 : decode cL_isHouse 213 = .ok (.irem, 1) := by decide +kernel
theorem dL_isHouse_214 : decode cL_isHouse 214 = .ok (.istore 12, 2) := by decide +kernel
theorem dL_isHouse_216 : decode cL_isHouse 216 = .ok (.iconst 4, 1) := by decide +kernel
theorem dL_isHouse_217 : decode cL_isHouse 217 = .ok (.newarray .long, 2) := by decide +kernel
theorem dL_isHouse_219 : decode cL_isHouse 219 = .ok (.astore 13, 2) := by decide +kernel
theorem dL_isHouse_221 : decode cL_isHouse 221 = .ok (.iconst 0, 1) := by decide +kernel
theorem dL_isHouse_222 : decode cL_isHouse 222 = .ok (.istore 14, 2) := by decide +kernel
theorem dL_isHouse_224 : decode cL_isHouse 224 = .ok (.iload 14, 2) := by decide +kernel
theorem dL_isHouse_226 : decode cL_isHouse 226 = .ok (.bipush 16, 2) := by decide +kernel
theorem dL_isHouse_228 : decode cL_isHouse 228 = .ok (.if_icmp .ge 260, 3) := by decide +kernel
theorem dL_isHouse_231 : decode cL_isHouse 231 = .ok (.iload 11, 2) := by decide +kernel
theorem dL_isHouse_233 : decode cL_isHouse 233 = .ok (.ifCond .eq 255, 3) := by decide +kernel
theorem dL_isHouse_236 : decode cL_isHouse 236 = .ok (.iload 14, 2) := by decide +kernel
theorem dL_isHouse_238 : decode cL_isHouse 238 = .ok (.iconst 4, 1) := by decide +kernel
theorem dL_isHouse_239 : decode cL_isHouse 239 = .ok (.irem, 1) := by decide +kernel
theorem dL_isHouse_240 : decode cL_isHouse 240 = .ok (.istore 15, 2) := by decide +kernel
theorem dL_isHouse_242 : decode cL_isHouse 242 = .ok (.iload 14, 2) := by decide +kernel
theorem dL_isHouse_244 : decode cL_isHouse 244 = .ok (.iconst 4, 1) := by decide +kernel
theorem dL_isHouse_245 : decode cL_isHouse 245 = .ok (.idiv, 1) := by decide +kernel
theorem dL_isHouse_246 : decode cL_isHouse 246 = .ok (.istore 16, 2) := by decide +kernel
theorem dL_isHouse_248 : decode cL_isHouse 248 = .ok (.iload 15, 2) := by decide +kernel
theorem dL_isHouse_250 : decode cL_isHouse 250 = .ok (.iload 16, 2) := by decide +kernel
theorem dL_isHouse_252 : decode cL_isHouse 252 = .ok (.if_icmp .eq 230, 3) := by decide +kernel
theorem dL_isHouse_255 : decode cL_isHouse 255 = .ok (.aload_n 1, 1) := by decide +kernel
theorem dL_isHouse_256 : decode cL_isHouse 256 = .ok (.aload_n 3, 1) := by decide +kernel
theorem dL_isHouse_257 : decode cL_isHouse 257 = .ok (.aload 4, 2) := by decide +kernel
theorem dL_isHouse_259 : decode cL_isHouse 259 = .ok (.aload 5, 2) := by decide +kernel
theorem dL_isHouse_261 : decode cL_isHouse 261 = .ok (.aload 6, 2) := by decide +kernel
theorem dL_isHouse_263 : decode cL_isHouse 263 = .ok (.aload 7, 2) := by decide +kernel
theorem dL_isHouse_265 : decode cL_isHouse 265 = .ok (.aload 9, 2) := by decide +kernel
theorem dL_isHouse_267 : decode cL_isHouse 267 = .ok (.iload 14, 2) := by decide +kernel
theorem dL_isHouse_269 : decode cL_isHouse 269 = .ok (.iload 12, 2) := by decide +kernel
theorem dL_isHouse_271 : decode cL_isHouse 271 = .ok (.iload 12, 2) := by decide +kernel
theorem dL_isHouse_273 : decode cL_isHouse 273 = .ok (.iconst (-1), 1) := by decide +kernel
theorem dL_isHouse_274 : decode cL_isHouse 274 = .ok (.invokestatic 85, 3) := by decide +kernel
theorem dL_isHouse_277 : decode cL_isHouse 277 = .ok (.lstore 17, 2) := by decide +kernel
theorem dL_isHouse_279 : decode cL_isHouse 279 = .ok (.iload 10, 2) := by decide +kernel
theorem dL_isHouse_281 : decode cL_isHouse 281 = .ok (.iload 14, 2) := by decide +kernel
theorem dL_isHouse_283 : decode cL_isHouse 283 = .ok (.iadd, 1) := by decide +kernel
theorem dL_isHouse_284 : decode cL_isHouse 284 = .ok (.iconst 2, 1) := by decide +kernel
theorem dL_isHouse_285 : decode cL_isHouse 285 = .ok (.irem, 1) := by decide +kernel
theorem dL_isHouse_286 : decode cL_isHouse 286 = .ok (.istore 19, 2) := by decide +kernel
theorem dL_isHouse_288 : decode cL_isHouse 288 = .ok (.aload 9, 2) := by decide +kernel
theorem dL_isHouse_290 : decode cL_isHouse 290 = .ok (.bipush 32, 2) := by decide +kernel
theorem dL_isHouse_292 : decode cL_isHouse 292 = .ok (.iload 14, 2) := by decide +kernel
theorem dL_isHouse_294 : decode cL_isHouse 294 = .ok (.iadd, 1) := by decide +kernel
theorem dL_isHouse_295 : decode cL_isHouse 295 = .ok (.iaload, 1) := by decide +kernel
theorem dL_isHouse_296 : decode cL_isHouse 296 = .ok (.i2l, 1) := by decide +kernel
theorem dL_isHouse_297 : decode cL_isHouse 297 = .ok (.aload_n 1, 1) := by decide +kernel
theorem dL_isHouse_298 : decode cL_isHouse 298 = .ok (.aload_n 3, 1) := by decide +kernel
theorem dL_isHouse_299 : decode cL_isHouse 299 = .ok (.aload 4, 2) := by decide +kernel
theorem dL_isHouse_301 : decode cL_isHouse 301 = .ok (.aload 5, 2) := by decide +kernel
theorem dL_isHouse_303 : decode cL_isHouse 303 = .ok (.aload 6, 2) := by decide +kernel
theorem dL_isHouse_305 : decode cL_isHouse 305 = .ok (.aload 7, 2) := by decide +kernel
theorem dL_isHouse_307 : decode cL_isHouse 307 = .ok (.aload 9, 2) := by decide +kernel
theorem dL_isHouse_309 : decode cL_isHouse 309 = .ok (.iload 14, 2) := by decide +kernel
theorem dL_isHouse_311 : decode cL_isHouse 311 = .ok (.bipush 12, 2) := by decide +kernel
theorem dL_isHouse_313 : decode cL_isHouse 313 = .ok (.iload 19, 2) := by decide +kernel
theorem dL_isHouse_315 : decode cL_isHouse 315 = .ok (.imul, 1) := by decide +kernel
theorem dL_isHouse_316 : decode cL_isHouse 316 = .ok (.bipush 12, 2) := by decide +kernel
theorem dL_isHouse_318 : decode cL_isHouse 318 = .ok (.iload 19, 2) := by decide +kernel
theorem dL_isHouse_320 : decode cL_isHouse 320 = .ok (.imul, 1) := by decide +kernel
theorem dL_isHouse_321 : decode cL_isHouse 321 = .ok (.bipush 11, 2) := by decide +kernel
theorem dL_isHouse_323 : decode cL_isHouse 323 = .ok (.iadd, 1) := by decide +kernel
theorem dL_isHouse_324 : decode cL_isHouse 324 = .ok (.iconst (-1), 1) := by decide +kernel
theorem dL_isHouse_325 : decode cL_isHouse 325 = .ok (.invokestatic 85, 3) := by decide +kernel
theorem dL_isHouse_328 : decode cL_isHouse 328 = .ok (.lsub, 1) := by decide +kernel
theorem dL_isHouse_329 : decode cL_isHouse 329 = .ok (.lstore 20, 2) := by decide +kernel
theorem dL_isHouse_331 : decode cL_isHouse 331 = .ok (.aload_n 0, 1) := by decide +kernel
theorem dL_isHouse_332 : decode cL_isHouse 332 = .ok (.iload 15, 2) := by decide +kernel
theorem dL_isHouse_334 : decode cL_isHouse 334 = .ok (.iload 16, 2) := by decide +kernel
theorem dL_isHouse_336 : decode cL_isHouse 336 = .ok (.invokevirtual 89, 3) := by decide +kernel
theorem dL_isHouse_339 : decode cL_isHouse 339 = .ok (.aload 8, 2) := by decide +kernel
theorem dL_isHouse_341 : decode cL_isHouse 341 = .ok (.iload 14, 2) := by decide +kernel
theorem dL_isHouse_343 : decode cL_isHouse 343 = .ok (.iaload, 1) := by decide +kernel
theorem dL_isHouse_344 : decode cL_isHouse 344 = .ok (.if_icmp .ne 87, 3) := by decide +kernel
theorem dL_isHouse_347 : decode cL_isHouse 347 = .ok (.aload_n 0, 1) := by decide +kernel
theorem dL_isHouse_348 : decode cL_isHouse 348 = .ok (.iload 15, 2) := by decide +kernel
theorem dL_isHouse_350 : decode cL_isHouse 350 = .ok (.iload 16, 2) := by decide +kernel
theorem dL_isHouse_352 : decode cL_isHouse 352 = .ok (.invokevirtual 92, 3) := by decide +kernel
theorem dL_isHouse_355 : decode cL_isHouse 355 = .ok (.aload_n 1, 1) := by decide +kernel
theorem dL_isHouse_356 : decode cL_isHouse 356 = .ok (.aload_n 3, 1) := by decide +kernel
theorem dL_isHouse_357 : decode cL_isHouse 357 = .ok (.aload 8, 2) := by decide +kernel
theorem dL_isHouse_359 : decode cL_isHouse 359 = .ok (.iload 14, 2) := by decide +kernel
theorem dL_isHouse_361 : decode cL_isHouse 361 = .ok (.invokestatic 95, 3) := by decide +kernel
theorem dL_isHouse_364 : decode cL_isHouse 364 = .ok (.if_icmp .ne 67, 3) := by decide +kernel
theorem dL_isHouse_367 : decode cL_isHouse 367 = .ok (.aload_n 0, 1) := by decide +kernel
theorem dL_isHouse_368 : decode cL_isHouse 368 = .ok (.iload 15, 2) := by decide +kernel
theorem dL_isHouse_370 : decode cL_isHouse 370 = .ok (.iload 16, 2) := by decide +kernel
theorem dL_isHouse_372 : decode cL_isHouse 372 = .ok (.iload 12, 2) := by decide +kernel
theorem dL_isHouse_374 : decode cL_isHouse 374 = .ok (.invokevirtual 98, 3) := by decide +kernel
theorem dL_isHouse_377 : decode cL_isHouse 377 = .ok (.lload 17, 2) := by decide +kernel
theorem dL_isHouse_379 : decode cL_isHouse 379 = .ok (.lcmp, 1) := by decide +kernel
theorem dL_isHouse_380 : decode cL_isHouse 380 = .ok (.ifCond .ne 51, 3) := by decide +kernel
theorem dL_isHouse_383 : decode cL_isHouse 383 = .ok (.aload_n 0, 1) := by decide +kernel
theorem dL_isHouse_384 : decode cL_isHouse 384 = .ok (.iload 15, 2) := by decide +kernel
theorem dL_isHouse_386 : decode cL_isHouse 386 = .ok (.iload 16, 2) := by decide +kernel
theorem dL_isHouse_388 : decode cL_isHouse 388 = .ok (.iload 19, 2) := by decide +kernel
theorem dL_isHouse_390 : decode cL_isHouse 390 = .ok (.invokestatic 100, 3) := by decide +kernel
theorem dL_isHouse_393 : decode cL_isHouse 393 = .ok (.aload_n 1, 1) := by decide +kernel
theorem dL_isHouse_394 : decode cL_isHouse 394 = .ok (.iconst 3, 1) := by decide +kernel
theorem dL_isHouse_395 : decode cL_isHouse 395 = .ok (.iaload, 1) := by decide +kernel
theorem dL_isHouse_396 : decode cL_isHouse 396 = .ok (.bipush 12, 2) := by decide +kernel
theorem dL_isHouse_398 : decode cL_isHouse 398 = .ok (.idiv, 1) := by decide +kernel
theorem dL_isHouse_399 : decode cL_isHouse 399 = .ok (.iload 19, 2) := by decide +kernel
theorem dL_isHouse_401 : decode cL_isHouse 401 = .ok (.if_icmp .gt 9, 3) := by decide +kernel
theorem dL_isHouse_404 : decode cL_isHouse 404 = .ok (.ldc2_w 65, 3) := by decide +kernel
theorem dL_isHouse_407 : decode cL_isHouse 407 = .ok (.goto 16, 3) := by decide +kernel
theorem dL_isHouse_410 : decode cL_isHouse 410 = .ok (.lload 20, 2) := by decide +kernel
theorem dL_isHouse_412 : decode cL_isHouse 412 = .ok (.lconst 0, 1) := by decide +kernel
theorem dL_isHouse_413 : decode cL_isHouse 413 = .ok (.lcmp, 1) := by decide +kernel
theorem dL_isHouse_414 : decode cL_isHouse 414 = .ok (.ifCond .le 8, 3) := by decide +kernel
theorem dL_isHouse_417 : decode cL_isHouse 417 = .ok (.lload 20, 2) := by decide +kernel
theorem dL_isHouse_419 : decode cL_isHouse 419 = .ok (.goto 4, 3) := by decide +kernel
theorem dL_isHouse_422 : decode cL_isHouse 422 = .ok (.lconst 0, 1) := by decide +kernel
theorem dL_isHouse_423 : decode cL_isHouse 423 = .ok (.lcmp, 1) := by decide +kernel
theorem dL_isHouse_424 : decode cL_isHouse 424 = .ok (.ifCond .ne 7, 3) := by decide +kernel
theorem dL_isHouse_427 : decode cL_isHouse 427 = .ok (.iconst 1, 1) := by decide +kernel
theorem dL_isHouse_428 : decode cL_isHouse 428 = .ok (.goto 4, 3) := by decide +kernel
theorem dL_isHouse_431 : decode cL_isHouse 431 = .ok (.iconst 0, 1) := by decide +kernel
theorem dL_isHouse_432 : decode cL_isHouse 432 = .ok (.istore 11, 2) := by decide +kernel
theorem dL_isHouse_434 : decode cL_isHouse 434 = .ok (.aload 13, 2) := by decide +kernel
theorem dL_isHouse_436 : decode cL_isHouse 436 = .ok (.iload 15, 2) := by decide +kernel
theorem dL_isHouse_438 : decode cL_isHouse 438 = .ok (.dup2, 1) := by decide +kernel
theorem dL_isHouse_439 : decode cL_isHouse 439 = .ok (.laload, 1) := by decide +kernel
theorem dL_isHouse_440 : decode cL_isHouse 440 = .ok (.lload 17, 2) := by decide +kernel
theorem dL_isHouse_442 : decode cL_isHouse 442 = .ok (.aload_n 2, 1) := by decide +kernel
theorem dL_isHouse_443 : decode cL_isHouse 443 = .ok (.iconst 4, 1) := by decide +kernel
theorem dL_isHouse_444 : decode cL_isHouse 444 = .ok (.iload 15, 2) := by decide +kernel
theorem dL_isHouse_446 : decode cL_isHouse 446 = .ok (.imul, 1) := by decide +kernel
theorem dL_isHouse_447 : decode cL_isHouse 447 = .ok (.iconst 3, 1) := by decide +kernel
theorem dL_isHouse_448 : decode cL_isHouse 448 = .ok (.iadd, 1) := by decide +kernel
theorem dL_isHouse_449 : decode cL_isHouse 449 = .ok (.iaload, 1) := by decide +kernel
theorem dL_isHouse_450 : decode cL_isHouse 450 = .ok (.i2l, 1) := by decide +kernel
theorem dL_isHouse_451 : decode cL_isHouse 451 = .ok (.lmul, 1) := by decide +kernel
theorem dL_isHouse_452 : decode cL_isHouse 452 = .ok (.ldc2_w 104, 3) := by decide +kernel
theorem dL_isHouse_455 : decode cL_isHouse 455 = .ok (.ldiv, 1) := by decide +kernel
theorem dL_isHouse_456 : decode cL_isHouse 456 = .ok (.ladd, 1) := by decide +kernel
theorem dL_isHouse_457 : decode cL_isHouse 457 = .ok (.lastore, 1) := by decide +kernel
theorem dL_isHouse_458 : decode cL_isHouse 458 = .ok (.aload 13, 2) := by decide +kernel
theorem dL_isHouse_460 : decode cL_isHouse 460 = .ok (.iload 16, 2) := by decide +kernel
theorem dL_isHouse_462 : decode cL_isHouse 462 = .ok (.dup2, 1) := by decide +kernel
theorem dL_isHouse_463 : decode cL_isHouse 463 = .ok (.laload, 1) := by decide +kernel
theorem dL_isHouse_464 : decode cL_isHouse 464 = .ok (.lload 17, 2) := by decide +kernel
theorem dL_isHouse_466 : decode cL_isHouse 466 = .ok (.aload_n 2, 1) := by decide +kernel
theorem dL_isHouse_467 : decode cL_isHouse 467 = .ok (.iconst 4, 1) := by decide +kernel
theorem dL_isHouse_468 : decode cL_isHouse 468 = .ok (.iload 15, 2) := by decide +kernel
theorem dL_isHouse_470 : decode cL_isHouse 470 = .ok (.imul, 1) := by decide +kernel
theorem dL_isHouse_471 : decode cL_isHouse 471 = .ok (.iconst 3, 1) := by decide +kernel
theorem dL_isHouse_472 : decode cL_isHouse 472 = .ok (.iadd, 1) := by decide +kernel
theorem dL_isHouse_473 : decode cL_isHouse 473 = .ok (.iaload, 1) := by decide +kernel
theorem dL_isHouse_474 : decode cL_isHouse 474 = .ok (.i2l, 1) := by decide +kernel
theorem dL_isHouse_475 : decode cL_isHouse 475 = .ok (.lmul, 1) := by decide +kernel
theorem dL_isHouse_476 : decode cL_isHouse 476 = .ok (.ldc2_w 104, 3) := by decide +kernel
theorem dL_isHouse_479 : decode cL_isHouse 479 = .ok (.ldiv, 1) := by decide +kernel
theorem dL_isHouse_480 : decode cL_isHouse 480 = .ok (.lsub, 1) := by decide +kernel
theorem dL_isHouse_481 : decode cL_isHouse 481 = .ok (.lastore, 1) := by decide +kernel
theorem dL_isHouse_482 : decode cL_isHouse 482 = .ok (.iinc 14 1, 3) := by decide +kernel
theorem dL_isHouse_485 : decode cL_isHouse 485 = .ok (.goto (-261), 3) := by decide +kernel
theorem dL_isHouse_488 : decode cL_isHouse 488 = .ok (.iconst 0, 1) := by decide +kernel
theorem dL_isHouse_489 : decode cL_isHouse 489 = .ok (.istore 14, 2) := by decide +kernel
theorem dL_isHouse_491 : decode cL_isHouse 491 = .ok (.iload 14, 2) := by decide +kernel
theorem dL_isHouse_493 : decode cL_isHouse 493 = .ok (.iconst 4, 1) := by decide +kernel
theorem dL_isHouse_494 : decode cL_isHouse 494 = .ok (.if_icmp .ge 67, 3) := by decide +kernel
theorem dL_isHouse_497 : decode cL_isHouse 497 = .ok (.iload 11, 2) := by decide +kernel
theorem dL_isHouse_499 : decode cL_isHouse 499 = .ok (.ifCond .eq 62, 3) := by decide +kernel
theorem dL_isHouse_502 : decode cL_isHouse 502 = .ok (.aload_n 0, 1) := by decide +kernel
theorem dL_isHouse_503 : decode cL_isHouse 503 = .ok (.iload 14, 2) := by decide +kernel
theorem dL_isHouse_505 : decode cL_isHouse 505 = .ok (.iload 12, 2) := by decide +kernel
theorem dL_isHouse_507 : decode cL_isHouse 507 = .ok (.invokevirtual 106, 3) := by decide +kernel
theorem dL_isHouse_510 : decode cL_isHouse 510 = .ok (.aload 13, 2) := by decide +kernel
theorem dL_isHouse_512 : decode cL_isHouse 512 = .ok (.iload 14, 2) := by decide +kernel
theorem dL_isHouse_514 : decode cL_isHouse 514 = .ok (.laload, 1) := by decide +kernel
theorem dL_isHouse_515 : decode cL_isHouse 515 = .ok (.lcmp, 1) := by decide +kernel
theorem dL_isHouse_516 : decode cL_isHouse 516 = .ok (.ifCond .ne 36, 3) := by decide +kernel
theorem dL_isHouse_519 : decode cL_isHouse 519 = .ok (.aload_n 0, 1) := by decide +kernel
theorem dL_isHouse_520 : decode cL_isHouse 520 = .ok (.iload 14, 2) := by decide +kernel
theorem dL_isHouse_522 : decode cL_isHouse 522 = .ok (.iconst 1, 1) := by decide +kernel
theorem dL_isHouse_523 : decode cL_isHouse 523 = .ok (.iload 10, 2) := by decide +kernel
theorem dL_isHouse_525 : decode cL_isHouse 525 = .ok (.ldc 110, 2) := by decide +kernel
theorem dL_isHouse_527 : decode cL_isHouse 527 = .ok (.irem, 1) := by decide +kernel
theorem dL_isHouse_528 : decode cL_isHouse 528 = .ok (.iadd, 1) := by decide +kernel
theorem dL_isHouse_529 : decode cL_isHouse 529 = .ok (.invokevirtual 111, 3) := by decide +kernel
theorem dL_isHouse_532 : decode cL_isHouse 532 = .ok (.aload_n 2, 1) := by decide +kernel
theorem dL_isHouse_533 : decode cL_isHouse 533 = .ok (.iload 14, 2) := by decide +kernel
theorem dL_isHouse_535 : decode cL_isHouse 535 = .ok (.iconst 1, 1) := by decide +kernel
theorem dL_isHouse_536 : decode cL_isHouse 536 = .ok (.iload 10, 2) := by decide +kernel
theorem dL_isHouse_538 : decode cL_isHouse 538 = .ok (.ldc 110, 2) := by decide +kernel
theorem dL_isHouse_540 : decode cL_isHouse 540 = .ok (.irem, 1) := by decide +kernel
theorem dL_isHouse_541 : decode cL_isHouse 541 = .ok (.iadd, 1) := by decide +kernel
theorem dL_isHouse_542 : decode cL_isHouse 542 = .ok (.invokestatic 7, 3) := by decide +kernel
theorem dL_isHouse_545 : decode cL_isHouse 545 = .ok (.if_icmp .ne 7, 3) := by decide +kernel
theorem dL_isHouse_548 : decode cL_isHouse 548 = .ok (.iconst 1, 1) := by decide +kernel
theorem dL_isHouse_549 : decode cL_isHouse 549 = .ok (.goto 4, 3) := by decide +kernel
theorem dL_isHouse_552 : decode cL_isHouse 552 = .ok (.iconst 0, 1) := by decide +kernel
theorem dL_isHouse_553 : decode cL_isHouse 553 = .ok (.istore 11, 2) := by decide +kernel
theorem dL_isHouse_555 : decode cL_isHouse 555 = .ok (.iinc 14 1, 3) := by decide +kernel
theorem dL_isHouse_558 : decode cL_isHouse 558 = .ok (.goto (-67), 3) := by decide +kernel
theorem dL_isHouse_561 : decode cL_isHouse 561 = .ok (.iload 11, 2) := by decide +kernel
theorem dL_isHouse_563 : decode cL_isHouse 563 = .ok (.ireturn, 1) := by decide +kernel
set_option maxRecDepth 20000 in
theorem ggL_law_X4_init : GoodIn wsL_law wsX4_init := goodIn_r _ [12, 13, 14, 15, 16, 17, 18, 19, 20, 21, 22, 23, 24, 25, 26, 27, 28, 29, 30, 31, 32, 33, 34, 35, 36, 37, 38, 39, 40, 41, 42, 43, 44, 45, 46, 3, 47, 48, 329, 330, 331, 332, 333, 334, 335, 336, 337, 338, 339, 340, 341, 342, 343, 344, 345, 346] (by decide +kernel) (by decide +kernel)
set_option maxRecDepth 20000 in
theorem gL_law_X4_init : GoodIn wsL_law (wsX4_init) := ggL_law_X4_init
