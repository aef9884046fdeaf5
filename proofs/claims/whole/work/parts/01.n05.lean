theorem dX4_findBest_171 : decode cX4_findBest 171 = .ok (.bipush 12, 2) := by decide +kernel
theorem dX4_findBest_173 : decode cX4_findBest 173 = .ok (.iload_n 1, 1) := by decide +kernel
theorem dX4_findBest_174 : decode cX4_findBest 174 = .ok (.imul, 1) := by decide +kernel
theorem dX4_findBest_175 : decode cX4_findBest 175 = .ok (.iload_n 3, 1) := by decide +kernel
theorem dX4_findBest_176 : decode cX4_findBest 176 = .ok (.iadd, 1) := by decide +kernel
theorem dX4_findBest_177 : decode cX4_findBest 177 = .ok (.laload, 1) := by decide +kernel
theorem dX4_findBest_178 : decode cX4_findBest 178 = .ok (.ladd, 1) := by decide +kernel
theorem dX4_findBest_179 : decode cX4_findBest 179 = .ok (.lstore 4, 2) := by decide +kernel
theorem dX4_findBest_181 : decode cX4_findBest 181 = .ok (.aload_n 0, 1) := by decide +kernel
theorem dX4_findBest_182 : decode cX4_findBest 182 = .ok (.getfield 23, 3) := by decide +kernel
theorem dX4_findBest_185 : decode cX4_findBest 185 = .ok (.bipush 12, 2) := by decide +kernel
theorem dX4_findBest_187 : decode cX4_findBest 187 = .ok (.iload_n 2, 1) := by decide +kernel
theorem dX4_findBest_188 : decode cX4_findBest 188 = .ok (.imul, 1) := by decide +kernel
theorem dX4_findBest_189 : decode cX4_findBest 189 = .ok (.iload_n 1, 1) := by decide +kernel
theorem dX4_findBest_190 : decode cX4_findBest 190 = .ok (.iadd, 1) := by decide +kernel
theorem dX4_findBest_191 : decode cX4_findBest 191 = .ok (.laload, 1) := by decide +kernel
theorem dX4_findBest_192 : decode cX4_findBest 192 = .ok (.ldc2_w 66, 3) := by decide +kernel
theorem dX4_findBest_195 : decode cX4_findBest 195 = .ok (.lcmp, 1) := by decide +kernel
theorem dX4_findBest_196 : decode cX4_findBest 196 = .ok (.ifCond .ge 42, 3) := by decide +kernel
theorem dX4_findBest_199 : decode cX4_findBest 199 = .ok (.aload_n 0, 1) := by decide +kernel
theorem dX4_findBest_200 : decode cX4_findBest 200 = .ok (.getfield 23, 3) := by decide +kernel
theorem dX4_findBest_203 : decode cX4_findBest 203 = .ok (.bipush 12, 2) := by decide +kernel
theorem dX4_findBest_205 : decode cX4_findBest 205 = .ok (.iload_n 1, 1) := by decide +kernel
theorem dX4_findBest_206 : decode cX4_findBest 206 = .ok (.imul, 1) := by decide +kernel
theorem dX4_findBest_207 : decode cX4_findBest 207 = .ok (.iload_n 3, 1) := by decide +kernel
theorem dX4_findBest_208 : decode cX4_findBest 208 = .ok (.iadd, 1) := by decide +kernel
theorem dX4_findBest_209 : decode cX4_findBest 209 = .ok (.laload, 1) := by decide +kernel
theorem dX4_findBest_210 : decode cX4_findBest 210 = .ok (.ldc2_w 66, 3) := by decide +kernel
theorem dX4_findBest_213 : decode cX4_findBest 213 = .ok (.lcmp, 1) := by decide +kernel
theorem dX4_findBest_214 : decode cX4_findBest 214 = .ok (.ifCond .ge 24, 3) := by decide +kernel
theorem dX4_findBest_217 : decode cX4_findBest 217 = .ok (.lload 4, 2) := by decide +kernel
theorem dX4_findBest_219 : decode cX4_findBest 219 = .ok (.aload_n 0, 1) := by decide +kernel
theorem dX4_findBest_220 : decode cX4_findBest 220 = .ok (.getfield 23, 3) := by decide +kernel
theorem dX4_findBest_223 : decode cX4_findBest 223 = .ok (.bipush 12, 2) := by decide +kernel
theorem dX4_findBest_225 : decode cX4_findBest 225 = .ok (.iload_n 2, 1) := by decide +kernel
theorem dX4_findBest_226 : decode cX4_findBest 226 = .ok (.imul, 1) := by decide +kernel
theorem dX4_findBest_227 : decode cX4_findBest 227 = .ok (.iload_n 3, 1) := by decide +kernel
theorem dX4_findBest_228 : decode cX4_findBest 228 = .ok (.iadd, 1) := by decide +kernel
theorem dX4_findBest_229 : decode cX4_findBest 229 = .ok (.laload, 1) := by decide +kernel
theorem dX4_findBest_230 : decode cX4_findBest 230 = .ok (.lcmp, 1) := by decide +kernel
theorem dX4_findBest_231 : decode cX4_findBest 231 = .ok (.ifCond .ge 7, 3) := by decide +kernel
theorem dX4_findBest_234 : decode cX4_findBest 234 = .ok (.iconst 1, 1) := by decide +kernel
theorem dX4_findBest_235 : decode cX4_findBest 235 = .ok (.goto 4, 3) := by decide +kernel
theorem dX4_findBest_238 : decode cX4_findBest 238 = .ok (.iconst 0, 1) := by decide +kernel
theorem dX4_findBest_239 : decode cX4_findBest 239 = .ok (.istore 6, 2) := by decide +kernel
theorem dX4_findBest_241 : decode cX4_findBest 241 = .ok (.aload_n 0, 1) := by decide +kernel
theorem dX4_findBest_242 : decode cX4_findBest 242 = .ok (.getfield 23, 3) := by decide +kernel
theorem dX4_findBest_245 : decode cX4_findBest 245 = .ok (.bipush 12, 2) := by decide +kernel
theorem dX4_findBest_247 : decode cX4_findBest 247 = .ok (.iload_n 2, 1) := by decide +kernel
theorem dX4_findBest_248 : decode cX4_findBest 248 = .ok (.imul, 1) := by decide +kernel
theorem dX4_findBest_249 : decode cX4_findBest 249 = .ok (.iload_n 3, 1) := by decide +kernel
theorem dX4_findBest_250 : decode cX4_findBest 250 = .ok (.iadd, 1) := by decide +kernel
theorem dX4_findBest_251 : decode cX4_findBest 251 = .ok (.iload 6, 2) := by decide +kernel
theorem dX4_findBest_253 : decode cX4_findBest 253 = .ok (.ifCond .eq 23, 3) := by decide +kernel
theorem dX4_findBest_256 : decode cX4_findBest 256 = .ok (.lload 4, 2) := by decide +kernel
theorem dX4_findBest_258 : decode cX4_findBest 258 = .ok (.ldc2_w 70, 3) := by decide +kernel
theorem dX4_findBest_261 : decode cX4_findBest 261 = .ok (.lcmp, 1) := by decide +kernel
theorem dX4_findBest_262 : decode cX4_findBest 262 = .ok (.ifCond .ge 9, 3) := by decide +kernel
theorem dX4_findBest_265 : decode cX4_findBest 265 = .ok (.ldc2_w 70, 3) := by decide +kernel
theorem dX4_findBest_268 : decode cX4_findBest 268 = .ok (.goto 19, 3) := by decide +kernel
theorem dX4_findBest_271 : decode cX4_findBest 271 = .ok (.lload 4, 2) := by decide +kernel
theorem dX4_findBest_273 : decode cX4_findBest 273 = .ok (.goto 14, 3) := by decide +kernel
theorem dX4_findBest_276 : decode cX4_findBest 276 = .ok (.aload_n 0, 1) := by decide +kernel
theorem dX4_findBest_277 : decode cX4_findBest 277 = .ok (.getfield 23, 3) := by decide +kernel
theorem dX4_findBest_280 : decode cX4_findBest 280 = .ok (.bipush 12, 2) := by decide +kernel
theorem dX4_findBest_282 : decode cX4_findBest 282 = .ok (.iload_n 2, 1) := by decide +kernel
theorem dX4_findBest_283 : decode cX4_findBest 283 = .ok (.imul, 1) := by decide +kernel
theorem dX4_findBest_284 : decode cX4_findBest 284 = .ok (.iload_n 3, 1) := by decide +kernel
theorem dX4_findBest_285 : decode cX4_findBest 285 = .ok (.iadd, 1) := by decide +kernel
theorem dX4_findBest_286 : decode cX4_findBest 286 = .ok (.laload, 1) := by decide +kernel
theorem dX4_findBest_287 : decode cX4_findBest 287 = .ok (.lastore, 1) := by decide +kernel
theorem dX4_findBest_288 : decode cX4_findBest 288 = .ok (.iinc 3 1, 3) := by decide +kernel
theorem dX4_findBest_291 : decode cX4_findBest 291 = .ok (.goto (-143), 3) := by decide +kernel
theorem dX4_findBest_294 : decode cX4_findBest 294 = .ok (.iinc 2 1, 3) := by decide +kernel
theorem dX4_findBest_297 : decode cX4_findBest 297 = .ok (.goto (-159), 3) := by decide +kernel
theorem dX4_findBest_300 : decode cX4_findBest 300 = .ok (.iinc 1 1, 3) := by decide +kernel
theorem dX4_findBest_303 : decode cX4_findBest 303 = .ok (.goto (-175), 3) := by decide +kernel
theorem dX4_findBest_306 : decode cX4_findBest 306 = .ok (.return_, 1) := by decide +kernel
set_option maxRecDepth 20000 in
theorem ggX4_isFalling_X4_findBest : GoodIn wsX4_isFalling wsX4_findBest := goodIn_r _ [7, 1, 2, 8, 9, 10, 11, 12, 13, 14, 15, 16, 17, 18, 19, 20, 21, 22, 23, 24, 25, 26, 27, 28, 29] (by decide +kernel) (by decide +kernel)
set_option maxRecDepth 20000 in
theorem gX4_isFalling_X4_findBest : GoodIn wsX4_isFalling (wsV RX4 72 RX4 yX4_findBest wsX4_findBest) := goodIn_app (goodIn_of _ (by decide +kernel)) ggX4_isFalling_X4_findBest
theorem dX4_isFalling_0 : decode cX4_isFalling 0 = .ok (.aload_n 0, 1) := by decide +kernel
theorem dX4_isFalling_1 : decode cX4_isFalling 1 = .ok (.invokevirtual 72, 3) := by decide +kernel
theorem dX4_isFalling_4 : decode cX4_isFalling 4 = .ok (.iconst 0, 1) := by decide +kernel
theorem dX4_isFalling_5 : decode cX4_isFalling 5 = .ok (.istore_n 1, 1) := by decide +kernel
theorem dX4_isFalling_6 : decode cX4_isFalling 6 = .ok (.iconst 0, 1) := by decide +kernel
theorem dX4_isFalling_7 : decode cX4_isFalling 7 = .ok (.istore_n 2, 1) := by decide +kernel
theorem dX4_isFalling_8 : decode cX4_isFalling 8 = .ok (.iload_n 2, 1) := by decide +kernel
theorem dX4_isFalling_9 : decode cX4_isFalling 9 = .ok (.aload_n 0, 1) := by decide +kernel
theorem dX4_isFalling_10 : decode cX4_isFalling 10 = .ok (.getfield 45, 3) := by decide +kernel
theorem dX4_isFalling_13 : decode cX4_isFalling 13 = .ok (.if_icmp .ge 35, 3) := by decide +kernel
theorem dX4_isFalling_16 : decode cX4_isFalling 16 = .ok (.iload_n 1, 1) := by decide +kernel
theorem dX4_isFalling_17 : decode cX4_isFalling 17 = .ok (.ifCond .ne 19, 3) := by decide +kernel
theorem dX4_isFalling_20 : decode cX4_isFalling 20 = .ok (.aload_n 0, 1) := by decide +kernel
theorem dX4_isFalling_21 : decode cX4_isFalling 21 = .ok (.getfield 23, 3) := by decide +kernel
theorem dX4_isFalling_24 : decode cX4_isFalling 24 = .ok (.bipush 12, 2) := by decide +kernel
theorem dX4_isFalling_26 : decode cX4_isFalling 26 = .ok (.iload_n 2, 1) := by decide +kernel
theorem dX4_isFalling_27 : decode cX4_isFalling 27 = .ok (.imul, 1) := by decide +kernel
theorem dX4_isFalling_28 : decode cX4_isFalling 28 = .ok (.iload_n 2, 1) := by decide +kernel
theorem dX4_isFalling_29 : decode cX4_isFalling 29 = .ok (.iadd, 1) := by decide +kernel
theorem dX4_isFalling_30 : decode cX4_isFalling 30 = .ok (.laload, 1) := by decide +kernel
theorem dX4_isFalling_31 : decode cX4_isFalling 31 = .ok (.lconst 0, 1) := by decide +kernel
theorem dX4_isFalling_32 : decode cX4_isFalling 32 = .ok (.lcmp, 1) := by decide +kernel
theorem dX4_isFalling_33 : decode cX4_isFalling 33 = .ok (.ifCond .ge 7, 3) := by decide +kernel
theorem dX4_isFalling_36 : decode cX4_isFalling 36 = .ok (.iconst 1, 1) := by decide +kernel
theorem dX4_isFalling_37 : decode cX4_isFalling 37 = .ok (.goto 4, 3) := by decide +kernel
theorem dX4_isFalling_40 : decode cX4_isFalling 40 = .ok (.iconst 0, 1) := by decide +kernel
theorem dX4_isFalling_41 : decode cX4_isFalling 41 = .ok (.istore_n 1, 1) := by decide +kernel
theorem dX4_isFalling_42 : decode cX4_isFalling 42 = .ok (.iinc 2 1, 3) := by decide +kernel
theorem dX4_isFalling_45 : decode cX4_isFalling 45 = .ok (.goto (-37), 3) := by decide +kernel
theorem dX4_isFalling_48 : decode cX4_isFalling 48 = .ok (.iload_n 1, 1) := by decide +kernel
theorem dX4_isFalling_49 : decode cX4_isFalling 49 = .ok (.ireturn, 1) := by decide +kernel
theorem dX4_isBottomless_0 : decode cX4_isBottomless 0 = .ok (.iconst 0, 1) := by decide +kernel
theorem dX4_isBottomless_1 : decode cX4_isBottomless 1 = .ok (.istore_n 3, 1) := by decide +kernel
theorem dX4_isBottomless_2 : decode cX4_isBottomless 2 = .ok (.iconst 0, 1) := by decide +kernel
theorem dX4_isBottomless_3 : decode cX4_isBottomless 3 = .ok (.istore 4, 2) := by decide +kernel
theorem dX4_isBottomless_5 : decode cX4_isBottomless 5 = .ok (.iload 4, 2) := by decide +kernel
theorem dX4_isBottomless_7 : decode cX4_isBottomless 7 = .ok (.aload_n 0, 1) := by decide +kernel
theorem dX4_isBottomless_8 : decode cX4_isBottomless 8 = .ok (.getfield 45, 3) := by decide +kernel
theorem dX4_isBottomless_11 : decode cX4_isBottomless 11 = .ok (.if_icmp .ge 75, 3) := by decide +kernel
theorem dX4_isBottomless_14 : decode cX4_isBottomless 14 = .ok (.iload_n 3, 1) := by decide +kernel
theorem dX4_isBottomless_15 : decode cX4_isBottomless 15 = .ok (.ifCond .ne 59, 3) := by decide +kernel
theorem dX4_isBottomless_18 : decode cX4_isBottomless 18 = .ok (.aload_n 0, 1) := by decide +kernel
theorem dX4_isBottomless_19 : decode cX4_isBottomless 19 = .ok (.getfield 23, 3) := by decide +kernel
theorem dX4_isBottomless_22 : decode cX4_isBottomless 22 = .ok (.bipush 12, 2) := by decide +kernel
theorem dX4_isBottomless_24 : decode cX4_isBottomless 24 = .ok (.iload 4, 2) := by decide +kernel
theorem dX4_isBottomless_26 : decode cX4_isBottomless 26 = .ok (.imul, 1) := by decide +kernel
theorem dX4_isBottomless_27 : decode cX4_isBottomless 27 = .ok (.iload 4, 2) := by decide +kernel
theorem dX4_isBottomless_29 : decode cX4_isBottomless 29 = .ok (.iadd, 1) := by decide +kernel
theorem dX4_isBottomless_30 : decode cX4_isBottomless 30 = .ok (.laload, 1) := by decide +kernel
theorem dX4_isBottomless_31 : decode cX4_isBottomless 31 = .ok (.lconst 0, 1) := by decide +kernel
theorem dX4_isBottomless_32 : decode cX4_isBottomless 32 = .ok (.lcmp, 1) := by decide +kernel
theorem dX4_isBottomless_33 : decode cX4_isBottomless 33 = .ok (.ifCond .ge 45, 3) := by decide +kernel
theorem dX4_isBottomless_36 : decode cX4_isBottomless 36 = .ok (.aload_n 0, 1) := by decide +kernel
theorem dX4_isBottomless_37 : decode cX4_isBottomless 37 = .ok (.getfield 23, 3) := by decide +kernel
theorem dX4_isBottomless_40 : decode cX4_isBottomless 40 = .ok (.bipush 12, 2) := by decide +kernel
theorem dX4_isBottomless_42 : decode cX4_isBottomless 42 = .ok (.iload_n 1, 1) := by decide +kernel
theorem dX4_isBottomless_43 : decode cX4_isBottomless 43 = .ok (.imul, 1) := by decide +kernel
theorem dX4_isBottomless_44 : decode cX4_isBottomless 44 = .ok (.iload 4, 2) := by decide +kernel
theorem dX4_isBottomless_46 : decode cX4_isBottomless 46 = .ok (.iadd, 1) := by decide +kernel
theorem dX4_isBottomless_47 : decode cX4_isBottomless 47 = .ok (.laload, 1) := by decide +kernel
theorem dX4_isBottomless_48 : decode cX4_isBottomless 48 = .ok (.ldc2_w 66, 3) := by decide +kernel
theorem dX4_isBottomless_51 : decode cX4_isBottomless 51 = .ok (.lcmp, 1) := by decide +kernel
theorem dX4_isBottomless_52 : decode cX4_isBottomless 52 = .ok (.ifCond .ge 26, 3) := by decide +kernel
theorem dX4_isBottomless_55 : decode cX4_isBottomless 55 = .ok (.aload_n 0, 1) := by decide +kernel
theorem dX4_isBottomless_56 : decode cX4_isBottomless 56 = .ok (.getfield 23, 3) := by decide +kernel
theorem dX4_isBottomless_59 : decode cX4_isBottomless 59 = .ok (.bipush 12, 2) := by decide +kernel
theorem dX4_isBottomless_61 : decode cX4_isBottomless 61 = .ok (.iload 4, 2) := by decide +kernel
theorem dX4_isBottomless_63 : decode cX4_isBottomless 63 = .ok (.imul, 1) := by decide +kernel
theorem dX4_isBottomless_64 : decode cX4_isBottomless 64 = .ok (.iload_n 2, 1) := by decide +kernel
theorem dX4_isBottomless_65 : decode cX4_isBottomless 65 = .ok (.iadd, 1) := by decide +kernel
theorem dX4_isBottomless_66 : decode cX4_isBottomless 66 = .ok (.laload, 1) := by decide +kernel
theorem dX4_isBottomless_67 : decode cX4_isBottomless 67 = .ok (.ldc2_w 66, 3) := by decide +kernel
theorem dX4_isBottomless_70 : decode cX4_isBottomless 70 = .ok (.lcmp, 1) := by decide +kernel
theorem dX4_isBottomless_71 : decode cX4_isBottomless 71 = .ok (.ifCond .ge 7, 3) := by decide +kernel
theorem dX4_isBottomless_74 : decode cX4_isBottomless 74 = .ok (.iconst 1, 1) := by decide +kernel
theorem dX4_isBottomless_75 : decode cX4_isBottomless 75 = .ok (.goto 4, 3) := by decide +kernel
theorem dX4_isBottomless_78 : decode cX4_isBottomless 78 = .ok (.iconst 0, 1) := by decide +kernel
theorem dX4_isBottomless_79 : decode cX4_isBottomless 79 = .ok (.istore_n 3, 1) := by decide +kernel
theorem dX4_isBottomless_80 : decode cX4_isBottomless 80 = .ok (.iinc 4 1, 3) := by decide +kernel
theorem dX4_isBottomless_83 : decode cX4_isBottomless 83 = .ok (.goto (-78), 3) := by decide +kernel
theorem dX4_isBottomless_86 : decode cX4_isBottomless 86 = .ok (.iload_n 3, 1) := by decide +kernel
theorem dX4_isBottomless_87 : decode cX4_isBottomless 87 = .ok (.ireturn, 1) := by decide +kernel
theorem dX4_weightIn_0 : decode cX4_weightIn 0 = .ok (.lload_n 0, 1) := by decide +kernel
theorem dX4_weightIn_1 : decode cX4_weightIn 1 = .ok (.ldc2_w 68, 3) := by decide +kernel
theorem dX4_weightIn_4 : decode cX4_weightIn 4 = .ok (.ldiv, 1) := by decide +kernel
theorem dX4_weightIn_5 : decode cX4_weightIn 5 = .ok (.lstore_n 2, 1) := by decide +kernel
theorem dX4_weightIn_6 : decode cX4_weightIn 6 = .ok (.lload_n 2, 1) := by decide +kernel
theorem dX4_weightIn_7 : decode cX4_weightIn 7 = .ok (.ldc2_w 68, 3) := by decide +kernel
theorem dX4_weightIn_10 : decode cX4_weightIn 10 = .ok (.lmul, 1) := by decide +kernel
theorem dX4_weightIn_11 : decode cX4_weightIn 11 = .ok (.lload_n 0, 1) := by decide +kernel
theorem dX4_weightIn_12 : decode cX4_weightIn 12 = .ok (.lcmp, 1) := by decide +kernel
theorem dX4_weightIn_13 : decode cX4_weightIn 13 = .ok (.ifCond .le 9, 3) := by decide +kernel
theorem dX4_weightIn_16 : decode cX4_weightIn 16 = .ok (.lload_n 2, 1) := by decide +kernel
theorem dX4_weightIn_17 : decode cX4_weightIn 17 = .ok (.lconst 1, 1) := by decide +kernel
theorem dX4_weightIn_18 : decode cX4_weightIn 18 = .ok (.lsub, 1) := by decide +kernel
theorem dX4_weightIn_19 : decode cX4_weightIn 19 = .ok (.goto 4, 3) := by decide +kernel
theorem dX4_weightIn_22 : decode cX4_weightIn 22 = .ok (.lload_n 2, 1) := by decide +kernel
theorem dX4_weightIn_23 : decode cX4_weightIn 23 = .ok (.l2i, 1) := by decide +kernel
theorem dX4_weightIn_24 : decode cX4_weightIn 24 = .ok (.ireturn, 1) := by decide +kernel
set_option maxRecDepth 20000 in
theorem ggX4_least_X4_isNode : GoodIn wsX4_least wsX4_isNode := goodIn_r _ [10, 11, 12, 13, 9, 14, 33, 34, 35, 36, 37, 38, 39, 40, 41, 42, 43, 44, 45, 46] (by decide +kernel) (by decide +kernel)
set_option maxRecDepth 20000 in
theorem gX4_least_X4_isNode : GoodIn wsX4_least (wsV RX4 57 RX4 yX4_isNode wsX4_isNode) := goodIn_app (goodIn_of _ (by decide +kernel)) ggX4_least_X4_isNode
set_option maxRecDepth 20000 in
theorem ggX4_least_X4_findBest : GoodIn wsX4_least wsX4_findBest := goodIn_r _ [18, 11, 2, 3, 19, 20, 21, 22, 23, 24, 25, 33, 34, 35, 36, 37, 38, 39, 40, 41, 42, 43, 44, 45, 46] (by decide +kernel) (by decide +kernel)
set_option maxRecDepth 20000 in
theorem gX4_least_X4_findBest : GoodIn wsX4_least (wsV RX4 72 RX4 yX4_findBest wsX4_findBest) := goodIn_app (goodIn_of _ (by decide +kernel)) ggX4_least_X4_findBest
set_option maxRecDepth 20000 in
theorem ggX4_least_X4_isBottomless : GoodIn wsX4_least wsX4_isBottomless := goodIn_r _ [29, 11, 2, 3, 33, 34, 35, 36, 37, 38, 39, 40, 41, 42, 43, 44, 45, 46] (by decide +kernel) (by decide +kernel)
set_option maxRecDepth 20000 in
theorem gX4_least_X4_isBottomless : GoodIn wsX4_least (wsV RX4 76 RX4 yX4_isBottomless wsX4_isBottomless) := goodIn_app (goodIn_of _ (by decide +kernel)) ggX4_least_X4_isBottomless
set_option maxRecDepth 20000 in
theorem ggX4_least_X4_weightIn : GoodIn wsX4_least wsX4_weightIn := goodIn_r _ [32, 22] (by decide +kernel) (by decide +kernel)
set_option maxRecDepth 20000 in
theorem gX4_least_X4_weightIn : GoodIn wsX4_least (va_wsS RX4 81 yX4_weightIn wsX4_weightIn) := goodIn_app (goodIn_of _ (by decide +kernel)) ggX4_least_X4_weightIn
theorem dX4_least_0 : decode cX4_least 0 = .ok (.aload_n 0, 1) := by decide +kernel
theorem dX4_least_1 : decode cX4_least 1 = .ok (.iload_n 1, 1) := by decide +kernel
theorem dX4_least_2 : decode cX4_least 2 = .ok (.invokevirtual 57, 3) := by decide +kernel
theorem dX4_least_5 : decode cX4_least 5 = .ok (.ifCond .eq 11, 3) := by decide +kernel
theorem dX4_least_8 : decode cX4_least 8 = .ok (.aload_n 0, 1) := by decide +kernel
theorem dX4_least_9 : decode cX4_least 9 = .ok (.iload_n 2, 1) := by decide +kernel
theorem dX4_least_10 : decode cX4_least 10 = .ok (.invokevirtual 57, 3) := by decide +kernel
theorem dX4_least_13 : decode cX4_least 13 = .ok (.ifCond .ne 6, 3) := by decide +kernel
theorem dX4_least_16 : decode cX4_least 16 = .ok (.ldc 61, 2) := by decide +kernel
theorem dX4_least_18 : decode cX4_least 18 = .ok (.ireturn, 1) := by decide +kernel
theorem dX4_least_19 : decode cX4_least 19 = .ok (.aload_n 0, 1) := by decide +kernel
theorem dX4_least_20 : decode cX4_least 20 = .ok (.invokevirtual 72, 3) := by decide +kernel
theorem dX4_least_23 : decode cX4_least 23 = .ok (.aload_n 0, 1) := by decide +kernel
theorem dX4_least_24 : decode cX4_least 24 = .ok (.getfield 23, 3) := by decide +kernel
theorem dX4_least_27 : decode cX4_least 27 = .ok (.bipush 12, 2) := by decide +kernel
theorem dX4_least_29 : decode cX4_least 29 = .ok (.iload_n 1, 1) := by decide +kernel
theorem dX4_least_30 : decode cX4_least 30 = .ok (.imul, 1) := by decide +kernel
theorem dX4_least_31 : decode cX4_least 31 = .ok (.iload_n 2, 1) := by decide +kernel
theorem dX4_least_32 : decode cX4_least 32 = .ok (.iadd, 1) := by decide +kernel
theorem dX4_least_33 : decode cX4_least 33 = .ok (.laload, 1) := by decide +kernel
theorem dX4_least_34 : decode cX4_least 34 = .ok (.ldc2_w 66, 3) := by decide +kernel
theorem dX4_least_37 : decode cX4_least 37 = .ok (.lcmp, 1) := by decide +kernel
theorem dX4_least_38 : decode cX4_least 38 = .ok (.ifCond .lt 6, 3) := by decide +kernel
theorem dX4_least_41 : decode cX4_least 41 = .ok (.ldc 75, 2) := by decide +kernel
theorem dX4_least_43 : decode cX4_least 43 = .ok (.ireturn, 1) := by decide +kernel
theorem dX4_least_44 : decode cX4_least 44 = .ok (.aload_n 0, 1) := by decide +kernel
theorem dX4_least_45 : decode cX4_least 45 = .ok (.iload_n 1, 1) := by decide +kernel
theorem dX4_least_46 : decode cX4_least 46 = .ok (.iload_n 2, 1) := by decide +kernel
theorem dX4_least_47 : decode cX4_least 47 = .ok (.invokevirtual 76, 3) := by decide +kernel
theorem dX4_least_50 : decode cX4_least 50 = .ok (.ifCond .eq 8, 3) := by decide +kernel
theorem dX4_least_53 : decode cX4_least 53 = .ok (.ldc 80, 2) := by decide +kernel
theorem dX4_least_55 : decode cX4_least 55 = .ok (.goto 17, 3) := by decide +kernel
theorem dX4_least_58 : decode cX4_least 58 = .ok (.aload_n 0, 1) := by decide +kernel
theorem dX4_least_59 : decode cX4_least 59 = .ok (.getfield 23, 3) := by decide +kernel
theorem dX4_least_62 : decode cX4_least 62 = .ok (.bipush 12, 2) := by decide +kernel
theorem dX4_least_64 : decode cX4_least 64 = .ok (.iload_n 1, 1) := by decide +kernel
theorem dX4_least_65 : decode cX4_least 65 = .ok (.imul, 1) := by decide +kernel
theorem dX4_least_66 : decode cX4_least 66 = .ok (.iload_n 2, 1) := by decide +kernel
theorem dX4_least_67 : decode cX4_least 67 = .ok (.iadd, 1) := by decide +kernel
theorem dX4_least_68 : decode cX4_least 68 = .ok (.laload, 1) := by decide +kernel
theorem dX4_least_69 : decode cX4_least 69 = .ok (.invokestatic 81, 3) := by decide +kernel
theorem dX4_least_72 : decode cX4_least 72 = .ok (.ireturn, 1) := by decide +kernel
set_option maxRecDepth 20000 in
theorem ggX4_way_X4_isNode : GoodIn wsX4_way wsX4_isNode := goodIn_r _ [13, 14, 15, 16, 12, 17, 28, 29, 30, 31, 32, 33, 34, 35, 36, 37, 38, 39, 40, 41] (by decide +kernel) (by decide +kernel)
set_option maxRecDepth 20000 in
theorem gX4_way_X4_isNode : GoodIn wsX4_way (wsV RX4 57 RX4 yX4_isNode wsX4_isNode) := goodIn_app (goodIn_of _ (by decide +kernel)) ggX4_way_X4_isNode
set_option maxRecDepth 20000 in
theorem ggX4_way_X4_findBest : GoodIn wsX4_way wsX4_findBest := goodIn_r _ [21, 14, 2, 3, 22, 5, 8, 6, 7, 4, 23, 28, 29, 30, 31, 32, 33, 34, 35, 36, 37, 38, 39, 40, 41] (by decide +kernel) (by decide +kernel)
set_option maxRecDepth 20000 in
theorem gX4_way_X4_findBest : GoodIn wsX4_way (wsV RX4 72 RX4 yX4_findBest wsX4_findBest) := goodIn_app (goodIn_of _ (by decide +kernel)) ggX4_way_X4_findBest
set_option maxRecDepth 20000 in
theorem ggX4_way_X4_isBottomless : GoodIn wsX4_way wsX4_isBottomless := goodIn_r _ [27, 14, 2, 3, 28, 29, 30, 31, 32, 33, 34, 35, 36, 37, 38, 39, 40, 41] (by decide +kernel) (by decide +kernel)
set_option maxRecDepth 20000 in
theorem gX4_way_X4_isBottomless : GoodIn wsX4_way (wsV RX4 76 RX4 yX4_isBottomless wsX4_isBottomless) := goodIn_app (goodIn_of _ (by decide +kernel)) ggX4_way_X4_isBottomless
theorem dX4_way_0 : decode cX4_way 0 = .ok (.aload_n 0, 1) := by decide +kernel
theorem dX4_way_1 : decode cX4_way 1 = .ok (.iload_n 1, 1) := by decide +kernel
theorem dX4_way_2 : decode cX4_way 2 = .ok (.invokevirtual 57, 3) := by decide +kernel
theorem dX4_way_5 : decode cX4_way 5 = .ok (.ifCond .eq 11, 3) := by decide +kernel
theorem dX4_way_8 : decode cX4_way 8 = .ok (.aload_n 0, 1) := by decide +kernel
theorem dX4_way_9 : decode cX4_way 9 = .ok (.iload_n 2, 1) := by decide +kernel
theorem dX4_way_10 : decode cX4_way 10 = .ok (.invokevirtual 57, 3) := by decide +kernel
theorem dX4_way_13 : decode cX4_way 13 = .ok (.ifCond .ne 6, 3) := by decide +kernel
theorem dX4_way_16 : decode cX4_way 16 = .ok (.ldc 61, 2) := by decide +kernel
theorem dX4_way_18 : decode cX4_way 18 = .ok (.ireturn, 1) := by decide +kernel
theorem dX4_way_19 : decode cX4_way 19 = .ok (.aload_n 0, 1) := by decide +kernel
theorem dX4_way_20 : decode cX4_way 20 = .ok (.invokevirtual 72, 3) := by decide +kernel
theorem dX4_way_23 : decode cX4_way 23 = .ok (.aload_n 0, 1) := by decide +kernel
theorem dX4_way_24 : decode cX4_way 24 = .ok (.getfield 23, 3) := by decide +kernel
theorem dX4_way_27 : decode cX4_way 27 = .ok (.bipush 12, 2) := by decide +kernel
theorem dX4_way_29 : decode cX4_way 29 = .ok (.iload_n 1, 1) := by decide +kernel
theorem dX4_way_30 : decode cX4_way 30 = .ok (.imul, 1) := by decide +kernel
theorem dX4_way_31 : decode cX4_way 31 = .ok (.iload_n 2, 1) := by decide +kernel
theorem dX4_way_32 : decode cX4_way 32 = .ok (.iadd, 1) := by decide +kernel
theorem dX4_way_33 : decode cX4_way 33 = .ok (.laload, 1) := by decide +kernel
theorem dX4_way_34 : decode cX4_way 34 = .ok (.ldc2_w 66, 3) := by decide +kernel
theorem dX4_way_37 : decode cX4_way 37 = .ok (.lcmp, 1) := by decide +kernel
theorem dX4_way_38 : decode cX4_way 38 = .ok (.ifCond .ge 12, 3) := by decide +kernel
theorem dX4_way_41 : decode cX4_way 41 = .ok (.aload_n 0, 1) := by decide +kernel
theorem dX4_way_42 : decode cX4_way 42 = .ok (.iload_n 1, 1) := by decide +kernel
theorem dX4_way_43 : decode cX4_way 43 = .ok (.iload_n 2, 1) := by decide +kernel
theorem dX4_way_44 : decode cX4_way 44 = .ok (.invokevirtual 76, 3) := by decide +kernel
theorem dX4_way_47 : decode cX4_way 47 = .ok (.ifCond .eq 5, 3) := by decide +kernel
theorem dX4_way_50 : decode cX4_way 50 = .ok (.iconst (-1), 1) := by decide +kernel
theorem dX4_way_51 : decode cX4_way 51 = .ok (.ireturn, 1) := by decide +kernel
theorem dX4_way_52 : decode cX4_way 52 = .ok (.iload_n 1, 1) := by decide +kernel
theorem dX4_way_53 : decode cX4_way 53 = .ok (.istore 4, 2) := by decide +kernel
theorem dX4_way_55 : decode cX4_way 55 = .ok (.iconst 0, 1) := by decide +kernel
theorem dX4_way_56 : decode cX4_way 56 = .ok (.istore 5, 2) := by decide +kernel
theorem dX4_way_58 : decode cX4_way 58 = .ok (.aload_n 0, 1) := by decide +kernel
theorem dX4_way_59 : decode cX4_way 59 = .ok (.getfield 23, 3) := by decide +kernel
theorem dX4_way_62 : decode cX4_way 62 = .ok (.bipush 12, 2) := by decide +kernel
theorem dX4_way_64 : decode cX4_way 64 = .ok (.iload 4, 2) := by decide +kernel
theorem dX4_way_66 : decode cX4_way 66 = .ok (.imul, 1) := by decide +kernel
theorem dX4_way_67 : decode cX4_way 67 = .ok (.iload_n 2, 1) := by decide +kernel
theorem dX4_way_68 : decode cX4_way 68 = .ok (.iadd, 1) := by decide +kernel
theorem dX4_way_69 : decode cX4_way 69 = .ok (.laload, 1) := by decide +kernel
theorem dX4_way_70 : decode cX4_way 70 = .ok (.lconst 0, 1) := by decide +kernel
theorem dX4_way_71 : decode cX4_way 71 = .ok (.lcmp, 1) := by decide +kernel
theorem dX4_way_72 : decode cX4_way 72 = .ok (.ifCond .ne 9, 3) := by decide +kernel
theorem dX4_way_75 : decode cX4_way 75 = .ok (.iload 4, 2) := by decide +kernel
theorem dX4_way_77 : decode cX4_way 77 = .ok (.iload_n 2, 1) := by decide +kernel
theorem dX4_way_78 : decode cX4_way 78 = .ok (.if_icmp .eq 106, 3) := by decide +kernel
theorem dX4_way_81 : decode cX4_way 81 = .ok (.iconst 0, 1) := by decide +kernel
theorem dX4_way_82 : decode cX4_way 82 = .ok (.istore 6, 2) := by decide +kernel
theorem dX4_way_84 : decode cX4_way 84 = .ok (.aload_n 0, 1) := by decide +kernel
theorem dX4_way_85 : decode cX4_way 85 = .ok (.getfield 19, 3) := by decide +kernel
theorem dX4_way_88 : decode cX4_way 88 = .ok (.iload 6, 2) := by decide +kernel
theorem dX4_way_90 : decode cX4_way 90 = .ok (.baload, 1) := by decide +kernel
theorem dX4_way_91 : decode cX4_way 91 = .ok (.ifCond .eq 63, 3) := by decide +kernel
theorem dX4_way_94 : decode cX4_way 94 = .ok (.aload_n 0, 1) := by decide +kernel
theorem dX4_way_95 : decode cX4_way 95 = .ok (.getfield 7, 3) := by decide +kernel
theorem dX4_way_98 : decode cX4_way 98 = .ok (.iload 6, 2) := by decide +kernel
theorem dX4_way_100 : decode cX4_way 100 = .ok (.iaload, 1) := by decide +kernel
theorem dX4_way_101 : decode cX4_way 101 = .ok (.iload 4, 2) := by decide +kernel
theorem dX4_way_103 : decode cX4_way 103 = .ok (.if_icmp .ne 51, 3) := by decide +kernel
theorem dX4_way_106 : decode cX4_way 106 = .ok (.ldc2_w 68, 3) := by decide +kernel
theorem dX4_way_109 : decode cX4_way 109 = .ok (.aload_n 0, 1) := by decide +kernel
theorem dX4_way_110 : decode cX4_way 110 = .ok (.getfield 16, 3) := by decide +kernel
theorem dX4_way_113 : decode cX4_way 113 = .ok (.iload 6, 2) := by decide +kernel
theorem dX4_way_115 : decode cX4_way 115 = .ok (.iaload, 1) := by decide +kernel
theorem dX4_way_116 : decode cX4_way 116 = .ok (.i2l, 1) := by decide +kernel
theorem dX4_way_117 : decode cX4_way 117 = .ok (.lmul, 1) := by decide +kernel
theorem dX4_way_118 : decode cX4_way 118 = .ok (.lconst 1, 1) := by decide +kernel
theorem dX4_way_119 : decode cX4_way 119 = .ok (.ladd, 1) := by decide +kernel
theorem dX4_way_120 : decode cX4_way 120 = .ok (.aload_n 0, 1) := by decide +kernel
theorem dX4_way_121 : decode cX4_way 121 = .ok (.getfield 23, 3) := by decide +kernel
theorem dX4_way_124 : decode cX4_way 124 = .ok (.bipush 12, 2) := by decide +kernel
theorem dX4_way_126 : decode cX4_way 126 = .ok (.aload_n 0, 1) := by decide +kernel
theorem dX4_way_127 : decode cX4_way 127 = .ok (.getfield 13, 3) := by decide +kernel
theorem dX4_way_130 : decode cX4_way 130 = .ok (.iload 6, 2) := by decide +kernel
theorem dX4_way_132 : decode cX4_way 132 = .ok (.iaload, 1) := by decide +kernel
theorem dX4_way_133 : decode cX4_way 133 = .ok (.imul, 1) := by decide +kernel
theorem dX4_way_134 : decode cX4_way 134 = .ok (.iload_n 2, 1) := by decide +kernel
theorem dX4_way_135 : decode cX4_way 135 = .ok (.iadd, 1) := by decide +kernel
theorem dX4_way_136 : decode cX4_way 136 = .ok (.laload, 1) := by decide +kernel
theorem dX4_way_137 : decode cX4_way 137 = .ok (.ladd, 1) := by decide +kernel
theorem dX4_way_138 : decode cX4_way 138 = .ok (.aload_n 0, 1) := by decide +kernel
theorem dX4_way_139 : decode cX4_way 139 = .ok (.getfield 23, 3) := by decide +kernel
theorem dX4_way_142 : decode cX4_way 142 = .ok (.bipush 12, 2) := by decide +kernel
theorem dX4_way_144 : decode cX4_way 144 = .ok (.iload 4, 2) := by decide +kernel
theorem dX4_way_146 : decode cX4_way 146 = .ok (.imul, 1) := by decide +kernel
theorem dX4_way_147 : decode cX4_way 147 = .ok (.iload_n 2, 1) := by decide +kernel
theorem dX4_way_148 : decode cX4_way 148 = .ok (.iadd, 1) := by decide +kernel
theorem dX4_way_149 : decode cX4_way 149 = .ok (.laload, 1) := by decide +kernel
theorem dX4_way_150 : decode cX4_way 150 = .ok (.lcmp, 1) := by decide +kernel
theorem dX4_way_151 : decode cX4_way 151 = .ok (.ifCond .eq 9, 3) := by decide +kernel
theorem dX4_way_154 : decode cX4_way 154 = .ok (.iinc 6 1, 3) := by decide +kernel
theorem dX4_way_157 : decode cX4_way 157 = .ok (.goto (-73), 3) := by decide +kernel
theorem dX4_way_160 : decode cX4_way 160 = .ok (.iload 5, 2) := by decide +kernel
theorem dX4_way_162 : decode cX4_way 162 = .ok (.iload_n 3, 1) := by decide +kernel
theorem dX4_way_163 : decode cX4_way 163 = .ok (.if_icmp .ne 6, 3) := by decide +kernel
theorem dX4_way_166 : decode cX4_way 166 = .ok (.iload 6, 2) := by decide +kernel
theorem dX4_way_168 : decode cX4_way 168 = .ok (.ireturn, 1) := by decide +kernel
theorem dX4_way_169 : decode cX4_way 169 = .ok (.iinc 5 1, 3) := by decide +kernel
theorem dX4_way_172 : decode cX4_way 172 = .ok (.aload_n 0, 1) := by decide +kernel
theorem dX4_way_173 : decode cX4_way 173 = .ok (.getfield 13, 3) := by decide +kernel
theorem dX4_way_176 : decode cX4_way 176 = .ok (.iload 6, 2) := by decide +kernel
theorem dX4_way_178 : decode cX4_way 178 = .ok (.iaload, 1) := by decide +kernel
theorem dX4_way_179 : decode cX4_way 179 = .ok (.istore 4, 2) := by decide +kernel
theorem dX4_way_181 : decode cX4_way 181 = .ok (.goto (-123), 3) := by decide +kernel
theorem dX4_way_184 : decode cX4_way 184 = .ok (.iconst (-1), 1) := by decide +kernel
theorem dX4_way_185 : decode cX4_way 185 = .ok (.ireturn, 1) := by decide +kernel
theorem dX4_join_0 : decode cX4_join 0 = .ok (.iconst 0, 1) := by decide +kernel
theorem dX4_join_1 : decode cX4_join 1 = .ok (.istore_n 3, 1) := by decide +kernel
theorem dX4_join_2 : decode cX4_join 2 = .ok (.iload_n 3, 1) := by decide +kernel
theorem dX4_join_3 : decode cX4_join 3 = .ok (.aload_n 0, 1) := by decide +kernel
theorem dX4_join_4 : decode cX4_join 4 = .ok (.getfield 45, 3) := by decide +kernel
theorem dX4_join_7 : decode cX4_join 7 = .ok (.if_icmp .ge 128, 3) := by decide +kernel
theorem dX4_join_10 : decode cX4_join 10 = .ok (.iconst 0, 1) := by decide +kernel
theorem dX4_join_11 : decode cX4_join 11 = .ok (.istore 4, 2) := by decide +kernel
theorem dX4_join_13 : decode cX4_join 13 = .ok (.iload 4, 2) := by decide +kernel
theorem dX4_join_15 : decode cX4_join 15 = .ok (.aload_n 0, 1) := by decide +kernel
theorem dX4_join_16 : decode cX4_join 16 = .ok (.getfield 45, 3) := by decide +kernel
theorem dX4_join_19 : decode cX4_join 19 = .ok (.if_icmp .ge 110, 3) := by decide +kernel
theorem dX4_join_22 : decode cX4_join 22 = .ok (.ldc2_w 66, 3) := by decide +kernel
theorem dX4_join_25 : decode cX4_join 25 = .ok (.lstore 5, 2) := by decide +kernel
theorem dX4_join_27 : decode cX4_join 27 = .ok (.iconst 0, 1) := by decide +kernel
theorem dX4_join_28 : decode cX4_join 28 = .ok (.istore 7, 2) := by decide +kernel
theorem dX4_join_30 : decode cX4_join 30 = .ok (.iload 7, 2) := by decide +kernel
theorem dX4_join_32 : decode cX4_join 32 = .ok (.aload_n 0, 1) := by decide +kernel
theorem dX4_join_33 : decode cX4_join 33 = .ok (.getfield 45, 3) := by decide +kernel
theorem dX4_join_36 : decode cX4_join 36 = .ok (.if_icmp .ge 73, 3) := by decide +kernel
theorem dX4_join_39 : decode cX4_join 39 = .ok (.aload_n 1, 1) := by decide +kernel
theorem dX4_join_40 : decode cX4_join 40 = .ok (.bipush 12, 2) := by decide +kernel
theorem dX4_join_42 : decode cX4_join 42 = .ok (.iload_n 3, 1) := by decide +kernel
theorem dX4_join_43 : decode cX4_join 43 = .ok (.imul, 1) := by decide +kernel
theorem dX4_join_44 : decode cX4_join 44 = .ok (.iload 7, 2) := by decide +kernel
theorem dX4_join_46 : decode cX4_join 46 = .ok (.iadd, 1) := by decide +kernel
theorem dX4_join_47 : decode cX4_join 47 = .ok (.laload, 1) := by decide +kernel
theorem dX4_join_48 : decode cX4_join 48 = .ok (.lstore 8, 2) := by decide +kernel
theorem dX4_join_50 : decode cX4_join 50 = .ok (.aload_n 2, 1) := by decide +kernel
theorem dX4_join_51 : decode cX4_join 51 = .ok (.bipush 12, 2) := by decide +kernel
theorem dX4_join_53 : decode cX4_join 53 = .ok (.iload 7, 2) := by decide +kernel
theorem dX4_join_55 : decode cX4_join 55 = .ok (.imul, 1) := by decide +kernel
theorem dX4_join_56 : decode cX4_join 56 = .ok (.iload 4, 2) := by decide +kernel
theorem dX4_join_58 : decode cX4_join 58 = .ok (.iadd, 1) := by decide +kernel
theorem dX4_join_59 : decode cX4_join 59 = .ok (.laload, 1) := by decide +kernel
theorem dX4_join_60 : decode cX4_join 60 = .ok (.lstore 10, 2) := by decide +kernel
theorem dX4_join_62 : decode cX4_join 62 = .ok (.lload 8, 2) := by decide +kernel
theorem dX4_join_64 : decode cX4_join 64 = .ok (.ldc2_w 66, 3) := by decide +kernel
theorem dX4_join_67 : decode cX4_join 67 = .ok (.lcmp, 1) := by decide +kernel
theorem dX4_join_68 : decode cX4_join 68 = .ok (.ifCond .ge 31, 3) := by decide +kernel
theorem dX4_join_71 : decode cX4_join 71 = .ok (.lload 10, 2) := by decide +kernel
theorem dX4_join_73 : decode cX4_join 73 = .ok (.ldc2_w 66, 3) := by decide +kernel
theorem dX4_join_76 : decode cX4_join 76 = .ok (.lcmp, 1) := by decide +kernel
theorem dX4_join_77 : decode cX4_join 77 = .ok (.ifCond .ge 22, 3) := by decide +kernel
theorem dX4_join_80 : decode cX4_join 80 = .ok (.lload 8, 2) := by decide +kernel
theorem dX4_join_82 : decode cX4_join 82 = .ok (.lload 10, 2) := by decide +kernel
theorem dX4_join_84 : decode cX4_join 84 = .ok (.ladd, 1) := by decide +kernel
theorem dX4_join_85 : decode cX4_join 85 = .ok (.lload 5, 2) := by decide +kernel
theorem dX4_join_87 : decode cX4_join 87 = .ok (.lcmp, 1) := by decide +kernel
theorem dX4_join_88 : decode cX4_join 88 = .ok (.ifCond .ge 11, 3) := by decide +kernel
theorem dX4_join_91 : decode cX4_join 91 = .ok (.lload 8, 2) := by decide +kernel
theorem dX4_join_93 : decode cX4_join 93 = .ok (.lload 10, 2) := by decide +kernel
theorem dX4_join_95 : decode cX4_join 95 = .ok (.ladd, 1) := by decide +kernel
theorem dX4_join_96 : decode cX4_join 96 = .ok (.goto 5, 3) := by decide +kernel
theorem dX4_join_99 : decode cX4_join 99 = .ok (.lload 5, 2) := by decide +kernel
theorem dX4_join_101 : decode cX4_join 101 = .ok (.lstore 5, 2) := by decide +kernel
theorem dX4_join_103 : decode cX4_join 103 = .ok (.iinc 7 1, 3) := by decide +kernel
theorem dX4_join_106 : decode cX4_join 106 = .ok (.goto (-76), 3) := by decide +kernel
theorem dX4_join_109 : decode cX4_join 109 = .ok (.aload_n 0, 1) := by decide +kernel
theorem dX4_join_110 : decode cX4_join 110 = .ok (.getfield 36, 3) := by decide +kernel
theorem dX4_join_113 : decode cX4_join 113 = .ok (.bipush 12, 2) := by decide +kernel
theorem dX4_join_115 : decode cX4_join 115 = .ok (.iload_n 3, 1) := by decide +kernel
theorem dX4_join_116 : decode cX4_join 116 = .ok (.imul, 1) := by decide +kernel
theorem dX4_join_117 : decode cX4_join 117 = .ok (.iload 4, 2) := by decide +kernel
theorem dX4_join_119 : decode cX4_join 119 = .ok (.iadd, 1) := by decide +kernel
theorem dX4_join_120 : decode cX4_join 120 = .ok (.lload 5, 2) := by decide +kernel
theorem dX4_join_122 : decode cX4_join 122 = .ok (.lastore, 1) := by decide +kernel
theorem dX4_join_123 : decode cX4_join 123 = .ok (.iinc 4 1, 3) := by decide +kernel
theorem dX4_join_126 : decode cX4_join 126 = .ok (.goto (-113), 3) := by decide +kernel
theorem dX4_join_129 : decode cX4_join 129 = .ok (.iinc 3 1, 3) := by decide +kernel
theorem dX4_join_132 : decode cX4_join 132 = .ok (.goto (-130), 3) := by decide +kernel
theorem dX4_join_135 : decode cX4_join 135 = .ok (.return_, 1) := by decide +kernel
theorem dX4_take_0 : decode cX4_take 0 = .ok (.iconst 0, 1) := by decide +kernel
theorem dX4_take_1 : decode cX4_take 1 = .ok (.istore_n 2, 1) := by decide +kernel
theorem dX4_take_2 : decode cX4_take 2 = .ok (.iload_n 2, 1) := by decide +kernel
theorem dX4_take_3 : decode cX4_take 3 = .ok (.bipush 12, 2) := by decide +kernel
theorem dX4_take_5 : decode cX4_take 5 = .ok (.aload_n 0, 1) := by decide +kernel
theorem dX4_take_6 : decode cX4_take 6 = .ok (.getfield 45, 3) := by decide +kernel
theorem dX4_take_9 : decode cX4_take 9 = .ok (.imul, 1) := by decide +kernel
theorem dX4_take_10 : decode cX4_take 10 = .ok (.if_icmp .ge 18, 3) := by decide +kernel
theorem dX4_take_13 : decode cX4_take 13 = .ok (.aload_n 1, 1) := by decide +kernel
theorem dX4_take_14 : decode cX4_take 14 = .ok (.iload_n 2, 1) := by decide +kernel
theorem dX4_take_15 : decode cX4_take 15 = .ok (.aload_n 0, 1) := by decide +kernel
theorem dX4_take_16 : decode cX4_take 16 = .ok (.getfield 36, 3) := by decide +kernel
theorem dX4_take_19 : decode cX4_take 19 = .ok (.iload_n 2, 1) := by decide +kernel
theorem dX4_take_20 : decode cX4_take 20 = .ok (.laload, 1) := by decide +kernel
theorem dX4_take_21 : decode cX4_take 21 = .ok (.lastore, 1) := by decide +kernel
theorem dX4_take_22 : decode cX4_take 22 = .ok (.iinc 2 1, 3) := by decide +kernel
theorem dX4_take_25 : decode cX4_take 25 = .ok (.goto (-23), 3) := by decide +kernel
theorem dX4_take_28 : decode cX4_take 28 = .ok (.return_, 1) := by decide +kernel
set_option maxRecDepth 20000 in
theorem ggX4_findAll_X4_join : GoodIn wsX4_findAll wsX4_join := goodIn_r _ [14, 1, 3, 15, 20, 21, 22, 23, 24, 25, 26, 27, 28, 29, 30, 31, 32, 33] (by decide +kernel) (by decide +kernel)
set_option maxRecDepth 20000 in
theorem gX4_findAll_X4_join : GoodIn wsX4_findAll (wsV RX4 85 RX4 yX4_join wsX4_join) := goodIn_app (goodIn_of _ (by decide +kernel)) ggX4_findAll_X4_join
set_option maxRecDepth 20000 in
theorem ggX4_findAll_X4_take : GoodIn wsX4_findAll wsX4_take := goodIn_r _ [19, 1, 15, 20, 21, 22, 23, 24, 25, 26, 27, 28, 29, 30, 31, 32, 33] (by decide +kernel) (by decide +kernel)
set_option maxRecDepth 20000 in
theorem gX4_findAll_X4_take : GoodIn wsX4_findAll (wsV RX4 89 RX4 yX4_take wsX4_take) := goodIn_app (goodIn_of _ (by decide +kernel)) ggX4_findAll_X4_take
theorem dX4_findAll_0 : decode cX4_findAll 0 = .ok (.iconst 0, 1) := by decide +kernel
theorem dX4_findAll_1 : decode cX4_findAll 1 = .ok (.istore_n 2, 1) := by decide +kernel
theorem dX4_findAll_2 : decode cX4_findAll 2 = .ok (.iload_n 2, 1) := by decide +kernel
theorem dX4_findAll_3 : decode cX4_findAll 3 = .ok (.bipush 12, 2) := by decide +kernel
theorem dX4_findAll_5 : decode cX4_findAll 5 = .ok (.aload_n 0, 1) := by decide +kernel
theorem dX4_findAll_6 : decode cX4_findAll 6 = .ok (.getfield 45, 3) := by decide +kernel
theorem dX4_findAll_9 : decode cX4_findAll 9 = .ok (.imul, 1) := by decide +kernel
theorem dX4_findAll_10 : decode cX4_findAll 10 = .ok (.if_icmp .ge 45, 3) := by decide +kernel
theorem dX4_findAll_13 : decode cX4_findAll 13 = .ok (.aload_n 0, 1) := by decide +kernel
theorem dX4_findAll_14 : decode cX4_findAll 14 = .ok (.getfield 30, 3) := by decide +kernel
theorem dX4_findAll_17 : decode cX4_findAll 17 = .ok (.iload_n 2, 1) := by decide +kernel
theorem dX4_findAll_18 : decode cX4_findAll 18 = .ok (.iload_n 2, 1) := by decide +kernel
theorem dX4_findAll_19 : decode cX4_findAll 19 = .ok (.bipush 12, 2) := by decide +kernel
theorem dX4_findAll_21 : decode cX4_findAll 21 = .ok (.idiv, 1) := by decide +kernel
theorem dX4_findAll_22 : decode cX4_findAll 22 = .ok (.iload_n 2, 1) := by decide +kernel
theorem dX4_findAll_23 : decode cX4_findAll 23 = .ok (.bipush 12, 2) := by decide +kernel
theorem dX4_findAll_25 : decode cX4_findAll 25 = .ok (.irem, 1) := by decide +kernel
theorem dX4_findAll_26 : decode cX4_findAll 26 = .ok (.if_icmp .ne 7, 3) := by decide +kernel
theorem dX4_findAll_29 : decode cX4_findAll 29 = .ok (.lconst 0, 1) := by decide +kernel
theorem dX4_findAll_30 : decode cX4_findAll 30 = .ok (.goto 6, 3) := by decide +kernel
theorem dX4_findAll_33 : decode cX4_findAll 33 = .ok (.ldc2_w 66, 3) := by decide +kernel
theorem dX4_findAll_36 : decode cX4_findAll 36 = .ok (.lastore, 1) := by decide +kernel
theorem dX4_findAll_37 : decode cX4_findAll 37 = .ok (.aload_n 0, 1) := by decide +kernel
theorem dX4_findAll_38 : decode cX4_findAll 38 = .ok (.getfield 33, 3) := by decide +kernel
theorem dX4_findAll_41 : decode cX4_findAll 41 = .ok (.iload_n 2, 1) := by decide +kernel
theorem dX4_findAll_42 : decode cX4_findAll 42 = .ok (.aload_n 0, 1) := by decide +kernel
theorem dX4_findAll_43 : decode cX4_findAll 43 = .ok (.getfield 30, 3) := by decide +kernel
theorem dX4_findAll_46 : decode cX4_findAll 46 = .ok (.iload_n 2, 1) := by decide +kernel
theorem dX4_findAll_47 : decode cX4_findAll 47 = .ok (.laload, 1) := by decide +kernel
theorem dX4_findAll_48 : decode cX4_findAll 48 = .ok (.lastore, 1) := by decide +kernel
theorem dX4_findAll_49 : decode cX4_findAll 49 = .ok (.iinc 2 1, 3) := by decide +kernel
theorem dX4_findAll_52 : decode cX4_findAll 52 = .ok (.goto (-50), 3) := by decide +kernel
theorem dX4_findAll_55 : decode cX4_findAll 55 = .ok (.iconst 0, 1) := by decide +kernel
theorem dX4_findAll_56 : decode cX4_findAll 56 = .ok (.istore_n 2, 1) := by decide +kernel
theorem dX4_findAll_57 : decode cX4_findAll 57 = .ok (.iload_n 2, 1) := by decide +kernel
theorem dX4_findAll_58 : decode cX4_findAll 58 = .ok (.aload_n 0, 1) := by decide +kernel
theorem dX4_findAll_59 : decode cX4_findAll 59 = .ok (.getfield 53, 3) := by decide +kernel
theorem dX4_findAll_62 : decode cX4_findAll 62 = .ok (.if_icmp .ge 74, 3) := by decide +kernel
theorem dX4_findAll_65 : decode cX4_findAll 65 = .ok (.bipush 12, 2) := by decide +kernel
theorem dX4_findAll_67 : decode cX4_findAll 67 = .ok (.aload_n 0, 1) := by decide +kernel
theorem dX4_findAll_68 : decode cX4_findAll 68 = .ok (.getfield 7, 3) := by decide +kernel
theorem dX4_findAll_71 : decode cX4_findAll 71 = .ok (.iload_n 2, 1) := by decide +kernel
theorem dX4_findAll_72 : decode cX4_findAll 72 = .ok (.iaload, 1) := by decide +kernel
theorem dX4_findAll_73 : decode cX4_findAll 73 = .ok (.imul, 1) := by decide +kernel
theorem dX4_findAll_74 : decode cX4_findAll 74 = .ok (.aload_n 0, 1) := by decide +kernel
theorem dX4_findAll_75 : decode cX4_findAll 75 = .ok (.getfield 13, 3) := by decide +kernel
theorem dX4_findAll_78 : decode cX4_findAll 78 = .ok (.iload_n 2, 1) := by decide +kernel
theorem dX4_findAll_79 : decode cX4_findAll 79 = .ok (.iaload, 1) := by decide +kernel
theorem dX4_findAll_80 : decode cX4_findAll 80 = .ok (.iadd, 1) := by decide +kernel
theorem dX4_findAll_81 : decode cX4_findAll 81 = .ok (.istore_n 3, 1) := by decide +kernel
theorem dX4_findAll_82 : decode cX4_findAll 82 = .ok (.aload_n 0, 1) := by decide +kernel
theorem dX4_findAll_83 : decode cX4_findAll 83 = .ok (.getfield 33, 3) := by decide +kernel
theorem dX4_findAll_86 : decode cX4_findAll 86 = .ok (.iload_n 3, 1) := by decide +kernel
theorem dX4_findAll_87 : decode cX4_findAll 87 = .ok (.aload_n 0, 1) := by decide +kernel
theorem dX4_findAll_88 : decode cX4_findAll 88 = .ok (.getfield 19, 3) := by decide +kernel
theorem dX4_findAll_91 : decode cX4_findAll 91 = .ok (.iload_n 2, 1) := by decide +kernel
theorem dX4_findAll_92 : decode cX4_findAll 92 = .ok (.baload, 1) := by decide +kernel
theorem dX4_findAll_93 : decode cX4_findAll 93 = .ok (.ifCond .eq 30, 3) := by decide +kernel
theorem dX4_findAll_96 : decode cX4_findAll 96 = .ok (.aload_n 0, 1) := by decide +kernel
theorem dX4_findAll_97 : decode cX4_findAll 97 = .ok (.getfield 16, 3) := by decide +kernel
theorem dX4_findAll_100 : decode cX4_findAll 100 = .ok (.iload_n 2, 1) := by decide +kernel
theorem dX4_findAll_101 : decode cX4_findAll 101 = .ok (.iaload, 1) := by decide +kernel
theorem dX4_findAll_102 : decode cX4_findAll 102 = .ok (.i2l, 1) := by decide +kernel
theorem dX4_findAll_103 : decode cX4_findAll 103 = .ok (.aload_n 0, 1) := by decide +kernel
theorem dX4_findAll_104 : decode cX4_findAll 104 = .ok (.getfield 33, 3) := by decide +kernel
theorem dX4_findAll_107 : decode cX4_findAll 107 = .ok (.iload_n 3, 1) := by decide +kernel
theorem dX4_findAll_108 : decode cX4_findAll 108 = .ok (.laload, 1) := by decide +kernel
theorem dX4_findAll_109 : decode cX4_findAll 109 = .ok (.lcmp, 1) := by decide +kernel
theorem dX4_findAll_110 : decode cX4_findAll 110 = .ok (.ifCond .ge 13, 3) := by decide +kernel
theorem dX4_findAll_113 : decode cX4_findAll 113 = .ok (.aload_n 0, 1) := by decide +kernel
theorem dX4_findAll_114 : decode cX4_findAll 114 = .ok (.getfield 16, 3) := by decide +kernel
theorem dX4_findAll_117 : decode cX4_findAll 117 = .ok (.iload_n 2, 1) := by decide +kernel
theorem dX4_findAll_118 : decode cX4_findAll 118 = .ok (.iaload, 1) := by decide +kernel
theorem dX4_findAll_119 : decode cX4_findAll 119 = .ok (.i2l, 1) := by decide +kernel
theorem dX4_findAll_120 : decode cX4_findAll 120 = .ok (.goto 9, 3) := by decide +kernel
theorem dX4_findAll_123 : decode cX4_findAll 123 = .ok (.aload_n 0, 1) := by decide +kernel
theorem dX4_findAll_124 : decode cX4_findAll 124 = .ok (.getfield 33, 3) := by decide +kernel
theorem dX4_findAll_127 : decode cX4_findAll 127 = .ok (.iload_n 3, 1) := by decide +kernel
theorem dX4_findAll_128 : decode cX4_findAll 128 = .ok (.laload, 1) := by decide +kernel
theorem dX4_findAll_129 : decode cX4_findAll 129 = .ok (.lastore, 1) := by decide +kernel
theorem dX4_findAll_130 : decode cX4_findAll 130 = .ok (.iinc 2 1, 3) := by decide +kernel
theorem dX4_findAll_133 : decode cX4_findAll 133 = .ok (.goto (-76), 3) := by decide +kernel
theorem dX4_findAll_136 : decode cX4_findAll 136 = .ok (.iload_n 1, 1) := by decide +kernel
theorem dX4_findAll_137 : decode cX4_findAll 137 = .ok (.istore_n 2, 1) := by decide +kernel
theorem dX4_findAll_138 : decode cX4_findAll 138 = .ok (.iload_n 2, 1) := by decide +kernel
theorem dX4_findAll_139 : decode cX4_findAll 139 = .ok (.ifCond .le 57, 3) := by decide +kernel
theorem dX4_findAll_142 : decode cX4_findAll 142 = .ok (.iload_n 2, 1) := by decide +kernel
theorem dX4_findAll_143 : decode cX4_findAll 143 = .ok (.iconst 2, 1) := by decide +kernel
theorem dX4_findAll_144 : decode cX4_findAll 144 = .ok (.irem, 1) := by decide +kernel
theorem dX4_findAll_145 : decode cX4_findAll 145 = .ok (.iconst 1, 1) := by decide +kernel
theorem dX4_findAll_146 : decode cX4_findAll 146 = .ok (.if_icmp .ne 23, 3) := by decide +kernel
theorem dX4_findAll_149 : decode cX4_findAll 149 = .ok (.aload_n 0, 1) := by decide +kernel
theorem dX4_findAll_150 : decode cX4_findAll 150 = .ok (.aload_n 0, 1) := by decide +kernel
theorem dX4_findAll_151 : decode cX4_findAll 151 = .ok (.getfield 30, 3) := by decide +kernel
theorem dX4_findAll_154 : decode cX4_findAll 154 = .ok (.aload_n 0, 1) := by decide +kernel
theorem dX4_findAll_155 : decode cX4_findAll 155 = .ok (.getfield 33, 3) := by decide +kernel
theorem dX4_findAll_158 : decode cX4_findAll 158 = .ok (.invokevirtual 85, 3) := by decide +kernel
theorem dX4_findAll_161 : decode cX4_findAll 161 = .ok (.aload_n 0, 1) := by decide +kernel
theorem dX4_findAll_162 : decode cX4_findAll 162 = .ok (.aload_n 0, 1) := by decide +kernel
theorem dX4_findAll_163 : decode cX4_findAll 163 = .ok (.getfield 30, 3) := by decide +kernel
theorem dX4_findAll_166 : decode cX4_findAll 166 = .ok (.invokevirtual 89, 3) := by decide +kernel
theorem dX4_findAll_169 : decode cX4_findAll 169 = .ok (.aload_n 0, 1) := by decide +kernel
theorem dX4_findAll_170 : decode cX4_findAll 170 = .ok (.aload_n 0, 1) := by decide +kernel
theorem dX4_findAll_171 : decode cX4_findAll 171 = .ok (.getfield 33, 3) := by decide +kernel
theorem dX4_findAll_174 : decode cX4_findAll 174 = .ok (.aload_n 0, 1) := by decide +kernel
theorem dX4_findAll_175 : decode cX4_findAll 175 = .ok (.getfield 33, 3) := by decide +kernel
theorem dX4_findAll_178 : decode cX4_findAll 178 = .ok (.invokevirtual 85, 3) := by decide +kernel
theorem dX4_findAll_181 : decode cX4_findAll 181 = .ok (.aload_n 0, 1) := by decide +kernel
theorem dX4_findAll_182 : decode cX4_findAll 182 = .ok (.aload_n 0, 1) := by decide +kernel
theorem dX4_findAll_183 : decode cX4_findAll 183 = .ok (.getfield 33, 3) := by decide +kernel
theorem dX4_findAll_186 : decode cX4_findAll 186 = .ok (.invokevirtual 89, 3) := by decide +kernel
theorem dX4_findAll_189 : decode cX4_findAll 189 = .ok (.iload_n 2, 1) := by decide +kernel
theorem dX4_findAll_190 : decode cX4_findAll 190 = .ok (.iconst 2, 1) := by decide +kernel
theorem dX4_findAll_191 : decode cX4_findAll 191 = .ok (.idiv, 1) := by decide +kernel
theorem dX4_findAll_192 : decode cX4_findAll 192 = .ok (.istore_n 2, 1) := by decide +kernel
theorem dX4_findAll_193 : decode cX4_findAll 193 = .ok (.goto (-55), 3) := by decide +kernel
theorem dX4_findAll_196 : decode cX4_findAll 196 = .ok (.return_, 1) := by decide +kernel
set_option maxRecDepth 20000 in
theorem ggX4_within_X4_isNode : GoodIn wsX4_within wsX4_isNode := goodIn_r _ [10, 11, 12, 13, 9, 14, 34, 35, 36, 37, 38, 39, 40, 41, 42, 43, 44, 45, 46, 47] (by decide +kernel) (by decide +kernel)
set_option maxRecDepth 20000 in
theorem gX4_within_X4_isNode : GoodIn wsX4_within (wsV RX4 57 RX4 yX4_isNode wsX4_isNode) := goodIn_app (goodIn_of _ (by decide +kernel)) ggX4_within_X4_isNode
set_option maxRecDepth 20000 in
theorem ggX4_within_X4_isIn : GoodIn wsX4_within wsX4_isIn := goodIn_r _ [14] (by decide +kernel) (by decide +kernel)
set_option maxRecDepth 20000 in
theorem gX4_within_X4_isIn : GoodIn wsX4_within (va_wsS RX4 49 yX4_isIn wsX4_isIn) := goodIn_app (goodIn_of _ (by decide +kernel)) ggX4_within_X4_isIn
set_option maxRecDepth 20000 in
theorem ggX4_within_X4_findAll : GoodIn wsX4_within wsX4_findAll := goodIn_r _ [18, 11, 3, 4, 19, 20, 21, 22, 23, 24, 25, 26, 27, 9, 28, 29, 30, 31, 32, 33, 34, 35, 36, 37, 38, 39, 40, 41, 42, 43, 44, 45, 46, 47] (by decide +kernel) (by decide +kernel)
set_option maxRecDepth 20000 in
theorem gX4_within_X4_findAll : GoodIn wsX4_within (wsV RX4 93 RX4 yX4_findAll wsX4_findAll) := goodIn_app (goodIn_of _ (by decide +kernel)) ggX4_within_X4_findAll
theorem dX4_within_0 : decode cX4_within 0 = .ok (.aload_n 0, 1) := by decide +kernel
theorem dX4_within_1 : decode cX4_within 1 = .ok (.iload_n 1, 1) := by decide +kernel
theorem dX4_within_2 : decode cX4_within 2 = .ok (.invokevirtual 57, 3) := by decide +kernel
theorem dX4_within_5 : decode cX4_within 5 = .ok (.ifCond .eq 11, 3) := by decide +kernel
theorem dX4_within_8 : decode cX4_within 8 = .ok (.aload_n 0, 1) := by decide +kernel
theorem dX4_within_9 : decode cX4_within 9 = .ok (.iload_n 2, 1) := by decide +kernel
theorem dX4_within_10 : decode cX4_within 10 = .ok (.invokevirtual 57, 3) := by decide +kernel
theorem dX4_within_13 : decode cX4_within 13 = .ok (.ifCond .ne 6, 3) := by decide +kernel
theorem dX4_within_16 : decode cX4_within 16 = .ok (.ldc 61, 2) := by decide +kernel
theorem dX4_within_18 : decode cX4_within 18 = .ok (.ireturn, 1) := by decide +kernel
theorem dX4_within_19 : decode cX4_within 19 = .ok (.iload_n 3, 1) := by decide +kernel
theorem dX4_within_20 : decode cX4_within 20 = .ok (.iconst 0, 1) := by decide +kernel
theorem dX4_within_21 : decode cX4_within 21 = .ok (.bipush 20, 2) := by decide +kernel
theorem dX4_within_23 : decode cX4_within 23 = .ok (.invokestatic 49, 3) := by decide +kernel
theorem dX4_within_26 : decode cX4_within 26 = .ok (.ifCond .ne 6, 3) := by decide +kernel
theorem dX4_within_29 : decode cX4_within 29 = .ok (.ldc 62, 2) := by decide +kernel
theorem dX4_within_31 : decode cX4_within 31 = .ok (.ireturn, 1) := by decide +kernel
theorem dX4_within_32 : decode cX4_within 32 = .ok (.aload_n 0, 1) := by decide +kernel
theorem dX4_within_33 : decode cX4_within 33 = .ok (.iload_n 3, 1) := by decide +kernel
theorem dX4_within_34 : decode cX4_within 34 = .ok (.invokevirtual 93, 3) := by decide +kernel
theorem dX4_within_37 : decode cX4_within 37 = .ok (.aload_n 0, 1) := by decide +kernel
theorem dX4_within_38 : decode cX4_within 38 = .ok (.getfield 30, 3) := by decide +kernel
theorem dX4_within_41 : decode cX4_within 41 = .ok (.bipush 12, 2) := by decide +kernel
theorem dX4_within_43 : decode cX4_within 43 = .ok (.iload_n 1, 1) := by decide +kernel
theorem dX4_within_44 : decode cX4_within 44 = .ok (.imul, 1) := by decide +kernel
theorem dX4_within_45 : decode cX4_within 45 = .ok (.iload_n 2, 1) := by decide +kernel
theorem dX4_within_46 : decode cX4_within 46 = .ok (.iadd, 1) := by decide +kernel
theorem dX4_within_47 : decode cX4_within 47 = .ok (.laload, 1) := by decide +kernel
theorem dX4_within_48 : decode cX4_within 48 = .ok (.ldc2_w 66, 3) := by decide +kernel
theorem dX4_within_51 : decode cX4_within 51 = .ok (.lcmp, 1) := by decide +kernel
theorem dX4_within_52 : decode cX4_within 52 = .ok (.ifCond .ge 18, 3) := by decide +kernel
theorem dX4_within_55 : decode cX4_within 55 = .ok (.aload_n 0, 1) := by decide +kernel
theorem dX4_within_56 : decode cX4_within 56 = .ok (.getfield 30, 3) := by decide +kernel
theorem dX4_within_59 : decode cX4_within 59 = .ok (.bipush 12, 2) := by decide +kernel
