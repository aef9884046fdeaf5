theorem dX4_isFree_158 : decode cX4_isFree 158 = .ok (.getfield 45, 3) := by decide +kernel
theorem dX4_isFree_161 : decode cX4_isFree 161 = .ok (.if_icmp .ge 129, 3) := by decide +kernel
theorem dX4_isFree_164 : decode cX4_isFree 164 = .ok (.iload_n 1, 1) := by decide +kernel
theorem dX4_isFree_165 : decode cX4_isFree 165 = .ok (.ifCond .eq 125, 3) := by decide +kernel
theorem dX4_isFree_168 : decode cX4_isFree 168 = .ok (.iconst 0, 1) := by decide +kernel
theorem dX4_isFree_169 : decode cX4_isFree 169 = .ok (.istore 4, 2) := by decide +kernel
theorem dX4_isFree_171 : decode cX4_isFree 171 = .ok (.iload 4, 2) := by decide +kernel
theorem dX4_isFree_173 : decode cX4_isFree 173 = .ok (.aload_n 0, 1) := by decide +kernel
theorem dX4_isFree_174 : decode cX4_isFree 174 = .ok (.getfield 45, 3) := by decide +kernel
theorem dX4_isFree_177 : decode cX4_isFree 177 = .ok (.if_icmp .ge 107, 3) := by decide +kernel
theorem dX4_isFree_180 : decode cX4_isFree 180 = .ok (.aload_n 0, 1) := by decide +kernel
theorem dX4_isFree_181 : decode cX4_isFree 181 = .ok (.getfield 42, 3) := by decide +kernel
theorem dX4_isFree_184 : decode cX4_isFree 184 = .ok (.bipush 12, 2) := by decide +kernel
theorem dX4_isFree_186 : decode cX4_isFree 186 = .ok (.iload_n 3, 1) := by decide +kernel
theorem dX4_isFree_187 : decode cX4_isFree 187 = .ok (.imul, 1) := by decide +kernel
theorem dX4_isFree_188 : decode cX4_isFree 188 = .ok (.iload_n 2, 1) := by decide +kernel
theorem dX4_isFree_189 : decode cX4_isFree 189 = .ok (.iadd, 1) := by decide +kernel
theorem dX4_isFree_190 : decode cX4_isFree 190 = .ok (.laload, 1) := by decide +kernel
theorem dX4_isFree_191 : decode cX4_isFree 191 = .ok (.lstore 5, 2) := by decide +kernel
theorem dX4_isFree_193 : decode cX4_isFree 193 = .ok (.aload_n 0, 1) := by decide +kernel
theorem dX4_isFree_194 : decode cX4_isFree 194 = .ok (.getfield 42, 3) := by decide +kernel
theorem dX4_isFree_197 : decode cX4_isFree 197 = .ok (.bipush 12, 2) := by decide +kernel
theorem dX4_isFree_199 : decode cX4_isFree 199 = .ok (.iload_n 2, 1) := by decide +kernel
theorem dX4_isFree_200 : decode cX4_isFree 200 = .ok (.imul, 1) := by decide +kernel
theorem dX4_isFree_201 : decode cX4_isFree 201 = .ok (.iload 4, 2) := by decide +kernel
theorem dX4_isFree_203 : decode cX4_isFree 203 = .ok (.iadd, 1) := by decide +kernel
theorem dX4_isFree_204 : decode cX4_isFree 204 = .ok (.laload, 1) := by decide +kernel
theorem dX4_isFree_205 : decode cX4_isFree 205 = .ok (.lstore 7, 2) := by decide +kernel
theorem dX4_isFree_207 : decode cX4_isFree 207 = .ok (.aload_n 0, 1) := by decide +kernel
theorem dX4_isFree_208 : decode cX4_isFree 208 = .ok (.getfield 42, 3) := by decide +kernel
theorem dX4_isFree_211 : decode cX4_isFree 211 = .ok (.bipush 12, 2) := by decide +kernel
theorem dX4_isFree_213 : decode cX4_isFree 213 = .ok (.iload_n 3, 1) := by decide +kernel
theorem dX4_isFree_214 : decode cX4_isFree 214 = .ok (.imul, 1) := by decide +kernel
theorem dX4_isFree_215 : decode cX4_isFree 215 = .ok (.iload 4, 2) := by decide +kernel
theorem dX4_isFree_217 : decode cX4_isFree 217 = .ok (.iadd, 1) := by decide +kernel
theorem dX4_isFree_218 : decode cX4_isFree 218 = .ok (.lload 5, 2) := by decide +kernel
theorem dX4_isFree_220 : decode cX4_isFree 220 = .ok (.ldc2_w 70, 3) := by decide +kernel
theorem dX4_isFree_223 : decode cX4_isFree 223 = .ok (.lcmp, 1) := by decide +kernel
theorem dX4_isFree_224 : decode cX4_isFree 224 = .ok (.ifCond .le 41, 3) := by decide +kernel
theorem dX4_isFree_227 : decode cX4_isFree 227 = .ok (.lload 7, 2) := by decide +kernel
theorem dX4_isFree_229 : decode cX4_isFree 229 = .ok (.ldc2_w 70, 3) := by decide +kernel
theorem dX4_isFree_232 : decode cX4_isFree 232 = .ok (.lcmp, 1) := by decide +kernel
theorem dX4_isFree_233 : decode cX4_isFree 233 = .ok (.ifCond .le 32, 3) := by decide +kernel
theorem dX4_isFree_236 : decode cX4_isFree 236 = .ok (.lload 5, 2) := by decide +kernel
theorem dX4_isFree_238 : decode cX4_isFree 238 = .ok (.lload 7, 2) := by decide +kernel
theorem dX4_isFree_240 : decode cX4_isFree 240 = .ok (.ladd, 1) := by decide +kernel
theorem dX4_isFree_241 : decode cX4_isFree 241 = .ok (.aload_n 0, 1) := by decide +kernel
theorem dX4_isFree_242 : decode cX4_isFree 242 = .ok (.getfield 42, 3) := by decide +kernel
theorem dX4_isFree_245 : decode cX4_isFree 245 = .ok (.bipush 12, 2) := by decide +kernel
theorem dX4_isFree_247 : decode cX4_isFree 247 = .ok (.iload_n 3, 1) := by decide +kernel
theorem dX4_isFree_248 : decode cX4_isFree 248 = .ok (.imul, 1) := by decide +kernel
theorem dX4_isFree_249 : decode cX4_isFree 249 = .ok (.iload 4, 2) := by decide +kernel
theorem dX4_isFree_251 : decode cX4_isFree 251 = .ok (.iadd, 1) := by decide +kernel
theorem dX4_isFree_252 : decode cX4_isFree 252 = .ok (.laload, 1) := by decide +kernel
theorem dX4_isFree_253 : decode cX4_isFree 253 = .ok (.lcmp, 1) := by decide +kernel
theorem dX4_isFree_254 : decode cX4_isFree 254 = .ok (.ifCond .le 11, 3) := by decide +kernel
theorem dX4_isFree_257 : decode cX4_isFree 257 = .ok (.lload 5, 2) := by decide +kernel
theorem dX4_isFree_259 : decode cX4_isFree 259 = .ok (.lload 7, 2) := by decide +kernel
theorem dX4_isFree_261 : decode cX4_isFree 261 = .ok (.ladd, 1) := by decide +kernel
theorem dX4_isFree_262 : decode cX4_isFree 262 = .ok (.goto 15, 3) := by decide +kernel
theorem dX4_isFree_265 : decode cX4_isFree 265 = .ok (.aload_n 0, 1) := by decide +kernel
theorem dX4_isFree_266 : decode cX4_isFree 266 = .ok (.getfield 42, 3) := by decide +kernel
theorem dX4_isFree_269 : decode cX4_isFree 269 = .ok (.bipush 12, 2) := by decide +kernel
theorem dX4_isFree_271 : decode cX4_isFree 271 = .ok (.iload_n 3, 1) := by decide +kernel
theorem dX4_isFree_272 : decode cX4_isFree 272 = .ok (.imul, 1) := by decide +kernel
theorem dX4_isFree_273 : decode cX4_isFree 273 = .ok (.iload 4, 2) := by decide +kernel
theorem dX4_isFree_275 : decode cX4_isFree 275 = .ok (.iadd, 1) := by decide +kernel
theorem dX4_isFree_276 : decode cX4_isFree 276 = .ok (.laload, 1) := by decide +kernel
theorem dX4_isFree_277 : decode cX4_isFree 277 = .ok (.lastore, 1) := by decide +kernel
theorem dX4_isFree_278 : decode cX4_isFree 278 = .ok (.iinc 4 1, 3) := by decide +kernel
theorem dX4_isFree_281 : decode cX4_isFree 281 = .ok (.goto (-110), 3) := by decide +kernel
theorem dX4_isFree_284 : decode cX4_isFree 284 = .ok (.iinc 3 1, 3) := by decide +kernel
theorem dX4_isFree_287 : decode cX4_isFree 287 = .ok (.goto (-131), 3) := by decide +kernel
theorem dX4_isFree_290 : decode cX4_isFree 290 = .ok (.iinc 2 1, 3) := by decide +kernel
theorem dX4_isFree_293 : decode cX4_isFree 293 = .ok (.goto (-175), 3) := by decide +kernel
theorem dX4_isFree_296 : decode cX4_isFree 296 = .ok (.iconst 0, 1) := by decide +kernel
theorem dX4_isFree_297 : decode cX4_isFree 297 = .ok (.istore_n 2, 1) := by decide +kernel
theorem dX4_isFree_298 : decode cX4_isFree 298 = .ok (.iload_n 2, 1) := by decide +kernel
theorem dX4_isFree_299 : decode cX4_isFree 299 = .ok (.aload_n 0, 1) := by decide +kernel
theorem dX4_isFree_300 : decode cX4_isFree 300 = .ok (.getfield 45, 3) := by decide +kernel
theorem dX4_isFree_303 : decode cX4_isFree 303 = .ok (.if_icmp .ge 37, 3) := by decide +kernel
theorem dX4_isFree_306 : decode cX4_isFree 306 = .ok (.iload_n 1, 1) := by decide +kernel
theorem dX4_isFree_307 : decode cX4_isFree 307 = .ok (.ifCond .eq 25, 3) := by decide +kernel
theorem dX4_isFree_310 : decode cX4_isFree 310 = .ok (.aload_n 0, 1) := by decide +kernel
theorem dX4_isFree_311 : decode cX4_isFree 311 = .ok (.getfield 42, 3) := by decide +kernel
theorem dX4_isFree_314 : decode cX4_isFree 314 = .ok (.bipush 12, 2) := by decide +kernel
theorem dX4_isFree_316 : decode cX4_isFree 316 = .ok (.iload_n 2, 1) := by decide +kernel
theorem dX4_isFree_317 : decode cX4_isFree 317 = .ok (.imul, 1) := by decide +kernel
theorem dX4_isFree_318 : decode cX4_isFree 318 = .ok (.iload_n 2, 1) := by decide +kernel
theorem dX4_isFree_319 : decode cX4_isFree 319 = .ok (.iadd, 1) := by decide +kernel
theorem dX4_isFree_320 : decode cX4_isFree 320 = .ok (.laload, 1) := by decide +kernel
theorem dX4_isFree_321 : decode cX4_isFree 321 = .ok (.ldc2_w 70, 3) := by decide +kernel
theorem dX4_isFree_324 : decode cX4_isFree 324 = .ok (.lcmp, 1) := by decide +kernel
theorem dX4_isFree_325 : decode cX4_isFree 325 = .ok (.ifCond .gt 7, 3) := by decide +kernel
theorem dX4_isFree_328 : decode cX4_isFree 328 = .ok (.iconst 1, 1) := by decide +kernel
theorem dX4_isFree_329 : decode cX4_isFree 329 = .ok (.goto 4, 3) := by decide +kernel
theorem dX4_isFree_332 : decode cX4_isFree 332 = .ok (.iconst 0, 1) := by decide +kernel
theorem dX4_isFree_333 : decode cX4_isFree 333 = .ok (.istore_n 1, 1) := by decide +kernel
theorem dX4_isFree_334 : decode cX4_isFree 334 = .ok (.iinc 2 1, 3) := by decide +kernel
theorem dX4_isFree_337 : decode cX4_isFree 337 = .ok (.goto (-39), 3) := by decide +kernel
theorem dX4_isFree_340 : decode cX4_isFree 340 = .ok (.iload_n 1, 1) := by decide +kernel
theorem dX4_isFree_341 : decode cX4_isFree 341 = .ok (.ireturn, 1) := by decide +kernel
theorem dX4_greatest_0 : decode cX4_greatest 0 = .ok (.lconst 0, 1) := by decide +kernel
theorem dX4_greatest_1 : decode cX4_greatest 1 = .ok (.lstore_n 3, 1) := by decide +kernel
theorem dX4_greatest_2 : decode cX4_greatest 2 = .ok (.iconst 0, 1) := by decide +kernel
theorem dX4_greatest_3 : decode cX4_greatest 3 = .ok (.istore 5, 2) := by decide +kernel
theorem dX4_greatest_5 : decode cX4_greatest 5 = .ok (.iload 5, 2) := by decide +kernel
theorem dX4_greatest_7 : decode cX4_greatest 7 = .ok (.aload_n 0, 1) := by decide +kernel
theorem dX4_greatest_8 : decode cX4_greatest 8 = .ok (.getfield 45, 3) := by decide +kernel
theorem dX4_greatest_11 : decode cX4_greatest 11 = .ok (.if_icmp .ge 56, 3) := by decide +kernel
theorem dX4_greatest_14 : decode cX4_greatest 14 = .ok (.iload_n 2, 1) := by decide +kernel
theorem dX4_greatest_15 : decode cX4_greatest 15 = .ok (.ifCond .eq 18, 3) := by decide +kernel
theorem dX4_greatest_18 : decode cX4_greatest 18 = .ok (.aload_n 0, 1) := by decide +kernel
theorem dX4_greatest_19 : decode cX4_greatest 19 = .ok (.getfield 42, 3) := by decide +kernel
theorem dX4_greatest_22 : decode cX4_greatest 22 = .ok (.bipush 12, 2) := by decide +kernel
theorem dX4_greatest_24 : decode cX4_greatest 24 = .ok (.iload 5, 2) := by decide +kernel
theorem dX4_greatest_26 : decode cX4_greatest 26 = .ok (.imul, 1) := by decide +kernel
theorem dX4_greatest_27 : decode cX4_greatest 27 = .ok (.iload_n 1, 1) := by decide +kernel
theorem dX4_greatest_28 : decode cX4_greatest 28 = .ok (.iadd, 1) := by decide +kernel
theorem dX4_greatest_29 : decode cX4_greatest 29 = .ok (.laload, 1) := by decide +kernel
theorem dX4_greatest_30 : decode cX4_greatest 30 = .ok (.goto 15, 3) := by decide +kernel
theorem dX4_greatest_33 : decode cX4_greatest 33 = .ok (.aload_n 0, 1) := by decide +kernel
theorem dX4_greatest_34 : decode cX4_greatest 34 = .ok (.getfield 42, 3) := by decide +kernel
theorem dX4_greatest_37 : decode cX4_greatest 37 = .ok (.bipush 12, 2) := by decide +kernel
theorem dX4_greatest_39 : decode cX4_greatest 39 = .ok (.iload_n 1, 1) := by decide +kernel
theorem dX4_greatest_40 : decode cX4_greatest 40 = .ok (.imul, 1) := by decide +kernel
theorem dX4_greatest_41 : decode cX4_greatest 41 = .ok (.iload 5, 2) := by decide +kernel
theorem dX4_greatest_43 : decode cX4_greatest 43 = .ok (.iadd, 1) := by decide +kernel
theorem dX4_greatest_44 : decode cX4_greatest 44 = .ok (.laload, 1) := by decide +kernel
theorem dX4_greatest_45 : decode cX4_greatest 45 = .ok (.lstore 6, 2) := by decide +kernel
theorem dX4_greatest_47 : decode cX4_greatest 47 = .ok (.lload 6, 2) := by decide +kernel
theorem dX4_greatest_49 : decode cX4_greatest 49 = .ok (.lload_n 3, 1) := by decide +kernel
theorem dX4_greatest_50 : decode cX4_greatest 50 = .ok (.lcmp, 1) := by decide +kernel
theorem dX4_greatest_51 : decode cX4_greatest 51 = .ok (.ifCond .le 8, 3) := by decide +kernel
theorem dX4_greatest_54 : decode cX4_greatest 54 = .ok (.lload 6, 2) := by decide +kernel
theorem dX4_greatest_56 : decode cX4_greatest 56 = .ok (.goto 4, 3) := by decide +kernel
theorem dX4_greatest_59 : decode cX4_greatest 59 = .ok (.lload_n 3, 1) := by decide +kernel
theorem dX4_greatest_60 : decode cX4_greatest 60 = .ok (.lstore_n 3, 1) := by decide +kernel
theorem dX4_greatest_61 : decode cX4_greatest 61 = .ok (.iinc 5 1, 3) := by decide +kernel
theorem dX4_greatest_64 : decode cX4_greatest 64 = .ok (.goto (-59), 3) := by decide +kernel
theorem dX4_greatest_67 : decode cX4_greatest 67 = .ok (.lload_n 3, 1) := by decide +kernel
theorem dX4_greatest_68 : decode cX4_greatest 68 = .ok (.lreturn, 1) := by decide +kernel
set_option maxRecDepth 20000 in
theorem ggX4_weightOf_X4_weightIn : GoodIn wsX4_weightOf wsX4_weightIn := goodIn_r _ [4, 5] (by decide +kernel) (by decide +kernel)
set_option maxRecDepth 20000 in
theorem gX4_weightOf_X4_weightIn : GoodIn wsX4_weightOf (va_wsS RX4 81 yX4_weightIn wsX4_weightIn) := goodIn_app (goodIn_of _ (by decide +kernel)) ggX4_weightOf_X4_weightIn
theorem dX4_weightOf_0 : decode cX4_weightOf 0 = .ok (.lload_n 0, 1) := by decide +kernel
theorem dX4_weightOf_1 : decode cX4_weightOf 1 = .ok (.lneg, 1) := by decide +kernel
theorem dX4_weightOf_2 : decode cX4_weightOf 2 = .ok (.invokestatic 81, 3) := by decide +kernel
theorem dX4_weightOf_5 : decode cX4_weightOf 5 = .ok (.ineg, 1) := by decide +kernel
theorem dX4_weightOf_6 : decode cX4_weightOf 6 = .ok (.ireturn, 1) := by decide +kernel
set_option maxRecDepth 20000 in
theorem ggX4_top_X4_greatest : GoodIn wsX4_top wsX4_greatest := goodIn_r _ [6, 1, 7, 8, 9, 10, 11, 12, 13, 14, 15, 16, 17, 18, 19, 20, 21] (by decide +kernel) (by decide +kernel)
set_option maxRecDepth 20000 in
theorem gX4_top_X4_greatest : GoodIn wsX4_top (wsV RX4 123 RX4 yX4_greatest wsX4_greatest) := goodIn_app (goodIn_of _ (by decide +kernel)) ggX4_top_X4_greatest
theorem dX4_top_0 : decode cX4_top 0 = .ok (.lconst 0, 1) := by decide +kernel
theorem dX4_top_1 : decode cX4_top 1 = .ok (.lstore_n 1, 1) := by decide +kernel
theorem dX4_top_2 : decode cX4_top 2 = .ok (.iconst 0, 1) := by decide +kernel
theorem dX4_top_3 : decode cX4_top 3 = .ok (.istore_n 3, 1) := by decide +kernel
theorem dX4_top_4 : decode cX4_top 4 = .ok (.iload_n 3, 1) := by decide +kernel
theorem dX4_top_5 : decode cX4_top 5 = .ok (.aload_n 0, 1) := by decide +kernel
theorem dX4_top_6 : decode cX4_top 6 = .ok (.getfield 45, 3) := by decide +kernel
theorem dX4_top_9 : decode cX4_top 9 = .ok (.if_icmp .ge 31, 3) := by decide +kernel
theorem dX4_top_12 : decode cX4_top 12 = .ok (.aload_n 0, 1) := by decide +kernel
theorem dX4_top_13 : decode cX4_top 13 = .ok (.iload_n 3, 1) := by decide +kernel
theorem dX4_top_14 : decode cX4_top 14 = .ok (.iconst 1, 1) := by decide +kernel
theorem dX4_top_15 : decode cX4_top 15 = .ok (.invokevirtual 123, 3) := by decide +kernel
theorem dX4_top_18 : decode cX4_top 18 = .ok (.lload_n 1, 1) := by decide +kernel
theorem dX4_top_19 : decode cX4_top 19 = .ok (.lcmp, 1) := by decide +kernel
theorem dX4_top_20 : decode cX4_top 20 = .ok (.ifCond .le 12, 3) := by decide +kernel
theorem dX4_top_23 : decode cX4_top 23 = .ok (.aload_n 0, 1) := by decide +kernel
theorem dX4_top_24 : decode cX4_top 24 = .ok (.iload_n 3, 1) := by decide +kernel
theorem dX4_top_25 : decode cX4_top 25 = .ok (.iconst 1, 1) := by decide +kernel
theorem dX4_top_26 : decode cX4_top 26 = .ok (.invokevirtual 123, 3) := by decide +kernel
theorem dX4_top_29 : decode cX4_top 29 = .ok (.goto 4, 3) := by decide +kernel
theorem dX4_top_32 : decode cX4_top 32 = .ok (.lload_n 1, 1) := by decide +kernel
theorem dX4_top_33 : decode cX4_top 33 = .ok (.lstore_n 1, 1) := by decide +kernel
theorem dX4_top_34 : decode cX4_top 34 = .ok (.iinc 3 1, 3) := by decide +kernel
theorem dX4_top_37 : decode cX4_top 37 = .ok (.goto (-33), 3) := by decide +kernel
theorem dX4_top_40 : decode cX4_top 40 = .ok (.lload_n 1, 1) := by decide +kernel
theorem dX4_top_41 : decode cX4_top 41 = .ok (.lreturn, 1) := by decide +kernel
set_option maxRecDepth 20000 in
theorem ggX4_order_X4_isFree : GoodIn wsX4_order wsX4_isFree := goodIn_r _ [7, 2, 8, 9, 10, 11, 12, 13, 14, 15, 20, 21, 22, 23, 24, 25, 26, 27, 28, 29, 30, 31, 32, 33] (by decide +kernel) (by decide +kernel)
set_option maxRecDepth 20000 in
theorem gX4_order_X4_isFree : GoodIn wsX4_order (wsV RX4 127 RX4 yX4_isFree wsX4_isFree) := goodIn_app (goodIn_of _ (by decide +kernel)) ggX4_order_X4_isFree
set_option maxRecDepth 20000 in
theorem ggX4_order_X4_isNext : GoodIn wsX4_order wsX4_isNext := goodIn_r _ [19, 10, 15, 12, 11, 20, 21, 22, 23, 24, 25, 26, 27, 28, 29, 30, 31, 32, 33] (by decide +kernel) (by decide +kernel)
set_option maxRecDepth 20000 in
theorem gX4_order_X4_isNext : GoodIn wsX4_order (wsV RX4 130 RX4 yX4_isNext wsX4_isNext) := goodIn_app (goodIn_of _ (by decide +kernel)) ggX4_order_X4_isNext
theorem dX4_order_0 : decode cX4_order 0 = .ok (.aload_n 0, 1) := by decide +kernel
theorem dX4_order_1 : decode cX4_order 1 = .ok (.invokevirtual 127, 3) := by decide +kernel
theorem dX4_order_4 : decode cX4_order 4 = .ok (.ifCond .ne 6, 3) := by decide +kernel
theorem dX4_order_7 : decode cX4_order 7 = .ok (.ldc 118, 2) := by decide +kernel
theorem dX4_order_9 : decode cX4_order 9 = .ok (.ireturn, 1) := by decide +kernel
theorem dX4_order_10 : decode cX4_order 10 = .ok (.iconst 0, 1) := by decide +kernel
theorem dX4_order_11 : decode cX4_order 11 = .ok (.istore_n 2, 1) := by decide +kernel
theorem dX4_order_12 : decode cX4_order 12 = .ok (.iconst 0, 1) := by decide +kernel
theorem dX4_order_13 : decode cX4_order 13 = .ok (.istore_n 3, 1) := by decide +kernel
theorem dX4_order_14 : decode cX4_order 14 = .ok (.iload_n 3, 1) := by decide +kernel
theorem dX4_order_15 : decode cX4_order 15 = .ok (.aload_n 0, 1) := by decide +kernel
theorem dX4_order_16 : decode cX4_order 16 = .ok (.getfield 45, 3) := by decide +kernel
theorem dX4_order_19 : decode cX4_order 19 = .ok (.if_icmp .ge 43, 3) := by decide +kernel
theorem dX4_order_22 : decode cX4_order 22 = .ok (.iconst 0, 1) := by decide +kernel
theorem dX4_order_23 : decode cX4_order 23 = .ok (.istore 4, 2) := by decide +kernel
theorem dX4_order_25 : decode cX4_order 25 = .ok (.aload_n 0, 1) := by decide +kernel
theorem dX4_order_26 : decode cX4_order 26 = .ok (.iload 4, 2) := by decide +kernel
theorem dX4_order_28 : decode cX4_order 28 = .ok (.iload_n 2, 1) := by decide +kernel
theorem dX4_order_29 : decode cX4_order 29 = .ok (.invokevirtual 130, 3) := by decide +kernel
theorem dX4_order_32 : decode cX4_order 32 = .ok (.ifCond .ne 9, 3) := by decide +kernel
theorem dX4_order_35 : decode cX4_order 35 = .ok (.iinc 4 1, 3) := by decide +kernel
theorem dX4_order_38 : decode cX4_order 38 = .ok (.goto (-13), 3) := by decide +kernel
theorem dX4_order_41 : decode cX4_order 41 = .ok (.iload_n 3, 1) := by decide +kernel
theorem dX4_order_42 : decode cX4_order 42 = .ok (.iload_n 1, 1) := by decide +kernel
theorem dX4_order_43 : decode cX4_order 43 = .ok (.if_icmp .ne 6, 3) := by decide +kernel
theorem dX4_order_46 : decode cX4_order 46 = .ok (.iload 4, 2) := by decide +kernel
theorem dX4_order_48 : decode cX4_order 48 = .ok (.ireturn, 1) := by decide +kernel
theorem dX4_order_49 : decode cX4_order 49 = .ok (.iload_n 2, 1) := by decide +kernel
theorem dX4_order_50 : decode cX4_order 50 = .ok (.iconst 1, 1) := by decide +kernel
theorem dX4_order_51 : decode cX4_order 51 = .ok (.iload 4, 2) := by decide +kernel
theorem dX4_order_53 : decode cX4_order 53 = .ok (.ishl, 1) := by decide +kernel
theorem dX4_order_54 : decode cX4_order 54 = .ok (.iadd, 1) := by decide +kernel
theorem dX4_order_55 : decode cX4_order 55 = .ok (.istore_n 2, 1) := by decide +kernel
theorem dX4_order_56 : decode cX4_order 56 = .ok (.iinc 3 1, 3) := by decide +kernel
theorem dX4_order_59 : decode cX4_order 59 = .ok (.goto (-45), 3) := by decide +kernel
theorem dX4_order_62 : decode cX4_order 62 = .ok (.iconst (-1), 1) := by decide +kernel
theorem dX4_order_63 : decode cX4_order 63 = .ok (.ireturn, 1) := by decide +kernel
theorem dX4_isNext_0 : decode cX4_isNext 0 = .ok (.iload_n 2, 1) := by decide +kernel
theorem dX4_isNext_1 : decode cX4_isNext 1 = .ok (.iload_n 1, 1) := by decide +kernel
theorem dX4_isNext_2 : decode cX4_isNext 2 = .ok (.ishr, 1) := by decide +kernel
theorem dX4_isNext_3 : decode cX4_isNext 3 = .ok (.iconst 1, 1) := by decide +kernel
theorem dX4_isNext_4 : decode cX4_isNext 4 = .ok (.iand, 1) := by decide +kernel
theorem dX4_isNext_5 : decode cX4_isNext 5 = .ok (.ifCond .ne 7, 3) := by decide +kernel
theorem dX4_isNext_8 : decode cX4_isNext 8 = .ok (.iconst 1, 1) := by decide +kernel
theorem dX4_isNext_9 : decode cX4_isNext 9 = .ok (.goto 4, 3) := by decide +kernel
theorem dX4_isNext_12 : decode cX4_isNext 12 = .ok (.iconst 0, 1) := by decide +kernel
theorem dX4_isNext_13 : decode cX4_isNext 13 = .ok (.istore_n 3, 1) := by decide +kernel
theorem dX4_isNext_14 : decode cX4_isNext 14 = .ok (.iconst 0, 1) := by decide +kernel
theorem dX4_isNext_15 : decode cX4_isNext 15 = .ok (.istore 4, 2) := by decide +kernel
theorem dX4_isNext_17 : decode cX4_isNext 17 = .ok (.iload 4, 2) := by decide +kernel
theorem dX4_isNext_19 : decode cX4_isNext 19 = .ok (.aload_n 0, 1) := by decide +kernel
theorem dX4_isNext_20 : decode cX4_isNext 20 = .ok (.getfield 53, 3) := by decide +kernel
theorem dX4_isNext_23 : decode cX4_isNext 23 = .ok (.if_icmp .ge 54, 3) := by decide +kernel
theorem dX4_isNext_26 : decode cX4_isNext 26 = .ok (.iload_n 3, 1) := by decide +kernel
theorem dX4_isNext_27 : decode cX4_isNext 27 = .ok (.ifCond .eq 42, 3) := by decide +kernel
theorem dX4_isNext_30 : decode cX4_isNext 30 = .ok (.aload_n 0, 1) := by decide +kernel
theorem dX4_isNext_31 : decode cX4_isNext 31 = .ok (.getfield 19, 3) := by decide +kernel
theorem dX4_isNext_34 : decode cX4_isNext 34 = .ok (.iload 4, 2) := by decide +kernel
theorem dX4_isNext_36 : decode cX4_isNext 36 = .ok (.baload, 1) := by decide +kernel
theorem dX4_isNext_37 : decode cX4_isNext 37 = .ok (.ifCond .eq 28, 3) := by decide +kernel
theorem dX4_isNext_40 : decode cX4_isNext 40 = .ok (.aload_n 0, 1) := by decide +kernel
theorem dX4_isNext_41 : decode cX4_isNext 41 = .ok (.getfield 13, 3) := by decide +kernel
theorem dX4_isNext_44 : decode cX4_isNext 44 = .ok (.iload 4, 2) := by decide +kernel
theorem dX4_isNext_46 : decode cX4_isNext 46 = .ok (.iaload, 1) := by decide +kernel
theorem dX4_isNext_47 : decode cX4_isNext 47 = .ok (.iload_n 1, 1) := by decide +kernel
theorem dX4_isNext_48 : decode cX4_isNext 48 = .ok (.if_icmp .ne 17, 3) := by decide +kernel
theorem dX4_isNext_51 : decode cX4_isNext 51 = .ok (.iload_n 2, 1) := by decide +kernel
theorem dX4_isNext_52 : decode cX4_isNext 52 = .ok (.aload_n 0, 1) := by decide +kernel
theorem dX4_isNext_53 : decode cX4_isNext 53 = .ok (.getfield 7, 3) := by decide +kernel
theorem dX4_isNext_56 : decode cX4_isNext 56 = .ok (.iload 4, 2) := by decide +kernel
theorem dX4_isNext_58 : decode cX4_isNext 58 = .ok (.iaload, 1) := by decide +kernel
theorem dX4_isNext_59 : decode cX4_isNext 59 = .ok (.ishr, 1) := by decide +kernel
theorem dX4_isNext_60 : decode cX4_isNext 60 = .ok (.iconst 1, 1) := by decide +kernel
theorem dX4_isNext_61 : decode cX4_isNext 61 = .ok (.iand, 1) := by decide +kernel
theorem dX4_isNext_62 : decode cX4_isNext 62 = .ok (.ifCond .eq 7, 3) := by decide +kernel
theorem dX4_isNext_65 : decode cX4_isNext 65 = .ok (.iconst 1, 1) := by decide +kernel
theorem dX4_isNext_66 : decode cX4_isNext 66 = .ok (.goto 4, 3) := by decide +kernel
theorem dX4_isNext_69 : decode cX4_isNext 69 = .ok (.iconst 0, 1) := by decide +kernel
theorem dX4_isNext_70 : decode cX4_isNext 70 = .ok (.istore_n 3, 1) := by decide +kernel
theorem dX4_isNext_71 : decode cX4_isNext 71 = .ok (.iinc 4 1, 3) := by decide +kernel
theorem dX4_isNext_74 : decode cX4_isNext 74 = .ok (.goto (-57), 3) := by decide +kernel
theorem dX4_isNext_77 : decode cX4_isNext 77 = .ok (.iload_n 3, 1) := by decide +kernel
theorem dX4_isNext_78 : decode cX4_isNext 78 = .ok (.ireturn, 1) := by decide +kernel
set_option maxRecDepth 20000 in
theorem ggX4_far_X4_isNode : GoodIn wsX4_far wsX4_isNode := goodIn_r _ [7, 8, 9, 10, 6, 11, 34, 35, 36, 37, 38, 39, 40, 41, 42, 43, 44, 45, 46, 47] (by decide +kernel) (by decide +kernel)
set_option maxRecDepth 20000 in
theorem gX4_far_X4_isNode : GoodIn wsX4_far (wsV RX4 57 RX4 yX4_isNode wsX4_isNode) := goodIn_app (goodIn_of _ (by decide +kernel)) ggX4_far_X4_isNode
set_option maxRecDepth 20000 in
theorem ggX4_far_X4_isFree : GoodIn wsX4_far wsX4_isFree := goodIn_r _ [15, 8, 16, 17, 18, 19, 20, 21, 22, 23, 34, 35, 36, 37, 38, 39, 40, 41, 42, 43, 44, 45, 46, 47] (by decide +kernel) (by decide +kernel)
set_option maxRecDepth 20000 in
theorem gX4_far_X4_isFree : GoodIn wsX4_far (wsV RX4 127 RX4 yX4_isFree wsX4_isFree) := goodIn_app (goodIn_of _ (by decide +kernel)) ggX4_far_X4_isFree
set_option maxRecDepth 20000 in
theorem ggX4_far_X4_greatest : GoodIn wsX4_far wsX4_greatest := goodIn_r _ [27, 8, 16, 34, 35, 36, 37, 38, 39, 40, 41, 42, 43, 44, 45, 46, 47] (by decide +kernel) (by decide +kernel)
set_option maxRecDepth 20000 in
theorem gX4_far_X4_greatest : GoodIn wsX4_far (wsV RX4 123 RX4 yX4_greatest wsX4_greatest) := goodIn_app (goodIn_of _ (by decide +kernel)) ggX4_far_X4_greatest
set_option maxRecDepth 20000 in
theorem ggX4_far_X4_weightOf : GoodIn wsX4_far wsX4_weightOf := goodIn_r _ [30, 31, 32, 6, 33, 21] (by decide +kernel) (by decide +kernel)
set_option maxRecDepth 20000 in
theorem gX4_far_X4_weightOf : GoodIn wsX4_far (va_wsS RX4 133 yX4_weightOf wsX4_weightOf) := goodIn_app (goodIn_of _ (by decide +kernel)) ggX4_far_X4_weightOf
theorem dX4_far_0 : decode cX4_far 0 = .ok (.aload_n 0, 1) := by decide +kernel
theorem dX4_far_1 : decode cX4_far 1 = .ok (.iload_n 1, 1) := by decide +kernel
theorem dX4_far_2 : decode cX4_far 2 = .ok (.invokevirtual 57, 3) := by decide +kernel
theorem dX4_far_5 : decode cX4_far 5 = .ok (.ifCond .ne 6, 3) := by decide +kernel
theorem dX4_far_8 : decode cX4_far 8 = .ok (.ldc 61, 2) := by decide +kernel
theorem dX4_far_10 : decode cX4_far 10 = .ok (.ireturn, 1) := by decide +kernel
theorem dX4_far_11 : decode cX4_far 11 = .ok (.aload_n 0, 1) := by decide +kernel
theorem dX4_far_12 : decode cX4_far 12 = .ok (.invokevirtual 127, 3) := by decide +kernel
theorem dX4_far_15 : decode cX4_far 15 = .ok (.ifCond .eq 15, 3) := by decide +kernel
theorem dX4_far_18 : decode cX4_far 18 = .ok (.aload_n 0, 1) := by decide +kernel
theorem dX4_far_19 : decode cX4_far 19 = .ok (.iload_n 1, 1) := by decide +kernel
theorem dX4_far_20 : decode cX4_far 20 = .ok (.iconst 1, 1) := by decide +kernel
theorem dX4_far_21 : decode cX4_far 21 = .ok (.invokevirtual 123, 3) := by decide +kernel
theorem dX4_far_24 : decode cX4_far 24 = .ok (.invokestatic 133, 3) := by decide +kernel
theorem dX4_far_27 : decode cX4_far 27 = .ok (.goto 5, 3) := by decide +kernel
theorem dX4_far_30 : decode cX4_far 30 = .ok (.ldc 118, 2) := by decide +kernel
theorem dX4_far_32 : decode cX4_far 32 = .ok (.ireturn, 1) := by decide +kernel
set_option maxRecDepth 20000 in
theorem ggX4_late_X4_isNode : GoodIn wsX4_late wsX4_isNode := goodIn_r _ [7, 8, 9, 10, 6, 11, 38, 39, 40, 41, 42, 43, 44, 45, 46, 47, 48, 49, 50, 51] (by decide +kernel) (by decide +kernel)
set_option maxRecDepth 20000 in
theorem gX4_late_X4_isNode : GoodIn wsX4_late (wsV RX4 57 RX4 yX4_isNode wsX4_isNode) := goodIn_app (goodIn_of _ (by decide +kernel)) ggX4_late_X4_isNode
set_option maxRecDepth 20000 in
theorem ggX4_late_X4_isFree : GoodIn wsX4_late wsX4_isFree := goodIn_r _ [15, 8, 16, 17, 18, 19, 20, 21, 22, 23, 38, 39, 40, 41, 42, 43, 44, 45, 46, 47, 48, 49, 50, 51] (by decide +kernel) (by decide +kernel)
set_option maxRecDepth 20000 in
theorem gX4_late_X4_isFree : GoodIn wsX4_late (wsV RX4 127 RX4 yX4_isFree wsX4_isFree) := goodIn_app (goodIn_of _ (by decide +kernel)) ggX4_late_X4_isFree
set_option maxRecDepth 20000 in
theorem ggX4_late_X4_top : GoodIn wsX4_late wsX4_top := goodIn_r _ [27, 8, 28, 29, 30, 6, 31, 16, 38, 39, 40, 41, 42, 43, 44, 45, 46, 47, 48, 49, 50, 51] (by decide +kernel) (by decide +kernel)
set_option maxRecDepth 20000 in
theorem gX4_late_X4_top : GoodIn wsX4_late (wsV RX4 136 RX4 yX4_top wsX4_top) := goodIn_app (goodIn_of _ (by decide +kernel)) ggX4_late_X4_top
set_option maxRecDepth 20000 in
theorem ggX4_late_X4_weightOf : GoodIn wsX4_late wsX4_weightOf := goodIn_r _ [34, 35, 36, 6, 37, 21] (by decide +kernel) (by decide +kernel)
set_option maxRecDepth 20000 in
theorem gX4_late_X4_weightOf : GoodIn wsX4_late (va_wsS RX4 133 yX4_weightOf wsX4_weightOf) := goodIn_app (goodIn_of _ (by decide +kernel)) ggX4_late_X4_weightOf
set_option maxRecDepth 20000 in
theorem ggX4_late_X4_greatest : GoodIn wsX4_late wsX4_greatest := goodIn_r _ [31, 8, 16, 38, 39, 40, 41, 42, 43, 44, 45, 46, 47, 48, 49, 50, 51] (by decide +kernel) (by decide +kernel)
set_option maxRecDepth 20000 in
theorem gX4_late_X4_greatest : GoodIn wsX4_late (wsV RX4 123 RX4 yX4_greatest wsX4_greatest) := goodIn_app (goodIn_of _ (by decide +kernel)) ggX4_late_X4_greatest
theorem dX4_late_0 : decode cX4_late 0 = .ok (.aload_n 0, 1) := by decide +kernel
theorem dX4_late_1 : decode cX4_late 1 = .ok (.iload_n 1, 1) := by decide +kernel
theorem dX4_late_2 : decode cX4_late 2 = .ok (.invokevirtual 57, 3) := by decide +kernel
theorem dX4_late_5 : decode cX4_late 5 = .ok (.ifCond .ne 6, 3) := by decide +kernel
theorem dX4_late_8 : decode cX4_late 8 = .ok (.ldc 61, 2) := by decide +kernel
theorem dX4_late_10 : decode cX4_late 10 = .ok (.ireturn, 1) := by decide +kernel
theorem dX4_late_11 : decode cX4_late 11 = .ok (.aload_n 0, 1) := by decide +kernel
theorem dX4_late_12 : decode cX4_late 12 = .ok (.invokevirtual 127, 3) := by decide +kernel
theorem dX4_late_15 : decode cX4_late 15 = .ok (.ifCond .eq 23, 3) := by decide +kernel
theorem dX4_late_18 : decode cX4_late 18 = .ok (.aload_n 0, 1) := by decide +kernel
theorem dX4_late_19 : decode cX4_late 19 = .ok (.invokevirtual 136, 3) := by decide +kernel
theorem dX4_late_22 : decode cX4_late 22 = .ok (.invokestatic 133, 3) := by decide +kernel
theorem dX4_late_25 : decode cX4_late 25 = .ok (.aload_n 0, 1) := by decide +kernel
theorem dX4_late_26 : decode cX4_late 26 = .ok (.iload_n 1, 1) := by decide +kernel
theorem dX4_late_27 : decode cX4_late 27 = .ok (.iconst 0, 1) := by decide +kernel
theorem dX4_late_28 : decode cX4_late 28 = .ok (.invokevirtual 123, 3) := by decide +kernel
theorem dX4_late_31 : decode cX4_late 31 = .ok (.invokestatic 133, 3) := by decide +kernel
theorem dX4_late_34 : decode cX4_late 34 = .ok (.isub, 1) := by decide +kernel
theorem dX4_late_35 : decode cX4_late 35 = .ok (.goto 5, 3) := by decide +kernel
theorem dX4_late_38 : decode cX4_late 38 = .ok (.ldc 118, 2) := by decide +kernel
theorem dX4_late_40 : decode cX4_late 40 = .ok (.ireturn, 1) := by decide +kernel
set_option maxRecDepth 20000 in
theorem ggX4_whole_X4_isFree : GoodIn wsX4_whole wsX4_isFree := goodIn_r _ [6, 7, 8, 9, 10, 11, 12, 13, 14, 15, 30, 31, 32, 33, 34, 35, 36, 37, 38, 39, 40, 41, 42, 43] (by decide +kernel) (by decide +kernel)
set_option maxRecDepth 20000 in
theorem gX4_whole_X4_isFree : GoodIn wsX4_whole (wsV RX4 127 RX4 yX4_isFree wsX4_isFree) := goodIn_app (goodIn_of _ (by decide +kernel)) ggX4_whole_X4_isFree
set_option maxRecDepth 20000 in
theorem ggX4_whole_X4_top : GoodIn wsX4_whole wsX4_top := goodIn_r _ [19, 7, 20, 21, 22, 5, 23, 8, 30, 31, 32, 33, 34, 35, 36, 37, 38, 39, 40, 41, 42, 43] (by decide +kernel) (by decide +kernel)
set_option maxRecDepth 20000 in
theorem gX4_whole_X4_top : GoodIn wsX4_whole (wsV RX4 136 RX4 yX4_top wsX4_top) := goodIn_app (goodIn_of _ (by decide +kernel)) ggX4_whole_X4_top
set_option maxRecDepth 20000 in
theorem ggX4_whole_X4_weightOf : GoodIn wsX4_whole wsX4_weightOf := goodIn_r _ [26, 27, 28, 5, 29, 13] (by decide +kernel) (by decide +kernel)
set_option maxRecDepth 20000 in
theorem gX4_whole_X4_weightOf : GoodIn wsX4_whole (va_wsS RX4 133 yX4_weightOf wsX4_weightOf) := goodIn_app (goodIn_of _ (by decide +kernel)) ggX4_whole_X4_weightOf
theorem dX4_whole_0 : decode cX4_whole 0 = .ok (.aload_n 0, 1) := by decide +kernel
theorem dX4_whole_1 : decode cX4_whole 1 = .ok (.invokevirtual 127, 3) := by decide +kernel
theorem dX4_whole_4 : decode cX4_whole 4 = .ok (.ifCond .eq 13, 3) := by decide +kernel
theorem dX4_whole_7 : decode cX4_whole 7 = .ok (.aload_n 0, 1) := by decide +kernel
theorem dX4_whole_8 : decode cX4_whole 8 = .ok (.invokevirtual 136, 3) := by decide +kernel
theorem dX4_whole_11 : decode cX4_whole 11 = .ok (.invokestatic 133, 3) := by decide +kernel
theorem dX4_whole_14 : decode cX4_whole 14 = .ok (.goto 5, 3) := by decide +kernel
theorem dX4_whole_17 : decode cX4_whole 17 = .ok (.ldc 118, 2) := by decide +kernel
theorem dX4_whole_19 : decode cX4_whole 19 = .ok (.ireturn, 1) := by decide +kernel
set_option maxRecDepth 20000 in
theorem ggX4_critical_X4_isFree : GoodIn wsX4_critical wsX4_isFree := goodIn_r _ [11, 12, 13, 14, 15, 3, 6, 4, 5, 2, 24, 25, 26, 27, 28, 29, 30, 31, 32, 33, 34, 35, 36, 37] (by decide +kernel) (by decide +kernel)
set_option maxRecDepth 20000 in
theorem gX4_critical_X4_isFree : GoodIn wsX4_critical (wsV RX4 127 RX4 yX4_isFree wsX4_isFree) := goodIn_app (goodIn_of _ (by decide +kernel)) ggX4_critical_X4_isFree
set_option maxRecDepth 20000 in
theorem ggX4_critical_X4_top : GoodIn wsX4_critical wsX4_top := goodIn_r _ [19, 12, 20, 21, 22, 10, 23, 13, 24, 25, 26, 27, 28, 29, 30, 31, 32, 33, 34, 35, 36, 37] (by decide +kernel) (by decide +kernel)
set_option maxRecDepth 20000 in
theorem gX4_critical_X4_top : GoodIn wsX4_critical (wsV RX4 136 RX4 yX4_top wsX4_top) := goodIn_app (goodIn_of _ (by decide +kernel)) ggX4_critical_X4_top
set_option maxRecDepth 20000 in
theorem ggX4_critical_X4_greatest : GoodIn wsX4_critical wsX4_greatest := goodIn_r _ [23, 12, 13, 24, 25, 26, 27, 28, 29, 30, 31, 32, 33, 34, 35, 36, 37] (by decide +kernel) (by decide +kernel)
set_option maxRecDepth 20000 in
theorem gX4_critical_X4_greatest : GoodIn wsX4_critical (wsV RX4 123 RX4 yX4_greatest wsX4_greatest) := goodIn_app (goodIn_of _ (by decide +kernel)) ggX4_critical_X4_greatest
theorem dX4_critical_0 : decode cX4_critical 0 = .ok (.aload_n 0, 1) := by decide +kernel
theorem dX4_critical_1 : decode cX4_critical 1 = .ok (.invokevirtual 127, 3) := by decide +kernel
theorem dX4_critical_4 : decode cX4_critical 4 = .ok (.ifCond .ne 6, 3) := by decide +kernel
theorem dX4_critical_7 : decode cX4_critical 7 = .ok (.ldc 118, 2) := by decide +kernel
theorem dX4_critical_9 : decode cX4_critical 9 = .ok (.ireturn, 1) := by decide +kernel
theorem dX4_critical_10 : decode cX4_critical 10 = .ok (.aload_n 0, 1) := by decide +kernel
theorem dX4_critical_11 : decode cX4_critical 11 = .ok (.invokevirtual 136, 3) := by decide +kernel
theorem dX4_critical_14 : decode cX4_critical 14 = .ok (.lstore_n 2, 1) := by decide +kernel
theorem dX4_critical_15 : decode cX4_critical 15 = .ok (.iconst (-1), 1) := by decide +kernel
theorem dX4_critical_16 : decode cX4_critical 16 = .ok (.istore 4, 2) := by decide +kernel
theorem dX4_critical_18 : decode cX4_critical 18 = .ok (.iconst 0, 1) := by decide +kernel
theorem dX4_critical_19 : decode cX4_critical 19 = .ok (.istore 5, 2) := by decide +kernel
theorem dX4_critical_21 : decode cX4_critical 21 = .ok (.lload_n 2, 1) := by decide +kernel
theorem dX4_critical_22 : decode cX4_critical 22 = .ok (.lconst 0, 1) := by decide +kernel
theorem dX4_critical_23 : decode cX4_critical 23 = .ok (.lcmp, 1) := by decide +kernel
theorem dX4_critical_24 : decode cX4_critical 24 = .ok (.ifCond .eq 113, 3) := by decide +kernel
theorem dX4_critical_27 : decode cX4_critical 27 = .ok (.iconst 0, 1) := by decide +kernel
theorem dX4_critical_28 : decode cX4_critical 28 = .ok (.istore 6, 2) := by decide +kernel
theorem dX4_critical_30 : decode cX4_critical 30 = .ok (.aload_n 0, 1) := by decide +kernel
theorem dX4_critical_31 : decode cX4_critical 31 = .ok (.getfield 19, 3) := by decide +kernel
theorem dX4_critical_34 : decode cX4_critical 34 = .ok (.iload 6, 2) := by decide +kernel
theorem dX4_critical_36 : decode cX4_critical 36 = .ok (.baload, 1) := by decide +kernel
theorem dX4_critical_37 : decode cX4_critical 37 = .ok (.ifCond .eq 53, 3) := by decide +kernel
theorem dX4_critical_40 : decode cX4_critical 40 = .ok (.iload 4, 2) := by decide +kernel
theorem dX4_critical_42 : decode cX4_critical 42 = .ok (.iconst (-1), 1) := by decide +kernel
theorem dX4_critical_43 : decode cX4_critical 43 = .ok (.if_icmp .eq 15, 3) := by decide +kernel
theorem dX4_critical_46 : decode cX4_critical 46 = .ok (.aload_n 0, 1) := by decide +kernel
theorem dX4_critical_47 : decode cX4_critical 47 = .ok (.getfield 7, 3) := by decide +kernel
theorem dX4_critical_50 : decode cX4_critical 50 = .ok (.iload 6, 2) := by decide +kernel
theorem dX4_critical_52 : decode cX4_critical 52 = .ok (.iaload, 1) := by decide +kernel
theorem dX4_critical_53 : decode cX4_critical 53 = .ok (.iload 4, 2) := by decide +kernel
theorem dX4_critical_55 : decode cX4_critical 55 = .ok (.if_icmp .ne 35, 3) := by decide +kernel
theorem dX4_critical_58 : decode cX4_critical 58 = .ok (.ldc2_w 68, 3) := by decide +kernel
theorem dX4_critical_61 : decode cX4_critical 61 = .ok (.aload_n 0, 1) := by decide +kernel
theorem dX4_critical_62 : decode cX4_critical 62 = .ok (.getfield 16, 3) := by decide +kernel
theorem dX4_critical_65 : decode cX4_critical 65 = .ok (.iload 6, 2) := by decide +kernel
theorem dX4_critical_67 : decode cX4_critical 67 = .ok (.iaload, 1) := by decide +kernel
theorem dX4_critical_68 : decode cX4_critical 68 = .ok (.i2l, 1) := by decide +kernel
theorem dX4_critical_69 : decode cX4_critical 69 = .ok (.lmul, 1) := by decide +kernel
theorem dX4_critical_70 : decode cX4_critical 70 = .ok (.lconst 1, 1) := by decide +kernel
theorem dX4_critical_71 : decode cX4_critical 71 = .ok (.lsub, 1) := by decide +kernel
theorem dX4_critical_72 : decode cX4_critical 72 = .ok (.aload_n 0, 1) := by decide +kernel
theorem dX4_critical_73 : decode cX4_critical 73 = .ok (.aload_n 0, 1) := by decide +kernel
theorem dX4_critical_74 : decode cX4_critical 74 = .ok (.getfield 13, 3) := by decide +kernel
theorem dX4_critical_77 : decode cX4_critical 77 = .ok (.iload 6, 2) := by decide +kernel
theorem dX4_critical_79 : decode cX4_critical 79 = .ok (.iaload, 1) := by decide +kernel
theorem dX4_critical_80 : decode cX4_critical 80 = .ok (.iconst 0, 1) := by decide +kernel
theorem dX4_critical_81 : decode cX4_critical 81 = .ok (.invokevirtual 123, 3) := by decide +kernel
theorem dX4_critical_84 : decode cX4_critical 84 = .ok (.ladd, 1) := by decide +kernel
theorem dX4_critical_85 : decode cX4_critical 85 = .ok (.lload_n 2, 1) := by decide +kernel
theorem dX4_critical_86 : decode cX4_critical 86 = .ok (.lcmp, 1) := by decide +kernel
theorem dX4_critical_87 : decode cX4_critical 87 = .ok (.ifCond .eq 9, 3) := by decide +kernel
theorem dX4_critical_90 : decode cX4_critical 90 = .ok (.iinc 6 1, 3) := by decide +kernel
theorem dX4_critical_93 : decode cX4_critical 93 = .ok (.goto (-63), 3) := by decide +kernel
theorem dX4_critical_96 : decode cX4_critical 96 = .ok (.iload 5, 2) := by decide +kernel
theorem dX4_critical_98 : decode cX4_critical 98 = .ok (.iload_n 1, 1) := by decide +kernel
theorem dX4_critical_99 : decode cX4_critical 99 = .ok (.if_icmp .ne 6, 3) := by decide +kernel
theorem dX4_critical_102 : decode cX4_critical 102 = .ok (.iload 6, 2) := by decide +kernel
theorem dX4_critical_104 : decode cX4_critical 104 = .ok (.ireturn, 1) := by decide +kernel
theorem dX4_critical_105 : decode cX4_critical 105 = .ok (.lload_n 2, 1) := by decide +kernel
theorem dX4_critical_106 : decode cX4_critical 106 = .ok (.ldc2_w 68, 3) := by decide +kernel
theorem dX4_critical_109 : decode cX4_critical 109 = .ok (.aload_n 0, 1) := by decide +kernel
theorem dX4_critical_110 : decode cX4_critical 110 = .ok (.getfield 16, 3) := by decide +kernel
theorem dX4_critical_113 : decode cX4_critical 113 = .ok (.iload 6, 2) := by decide +kernel
theorem dX4_critical_115 : decode cX4_critical 115 = .ok (.iaload, 1) := by decide +kernel
theorem dX4_critical_116 : decode cX4_critical 116 = .ok (.i2l, 1) := by decide +kernel
theorem dX4_critical_117 : decode cX4_critical 117 = .ok (.lmul, 1) := by decide +kernel
theorem dX4_critical_118 : decode cX4_critical 118 = .ok (.lconst 1, 1) := by decide +kernel
theorem dX4_critical_119 : decode cX4_critical 119 = .ok (.lsub, 1) := by decide +kernel
theorem dX4_critical_120 : decode cX4_critical 120 = .ok (.lsub, 1) := by decide +kernel
theorem dX4_critical_121 : decode cX4_critical 121 = .ok (.lstore_n 2, 1) := by decide +kernel
theorem dX4_critical_122 : decode cX4_critical 122 = .ok (.aload_n 0, 1) := by decide +kernel
theorem dX4_critical_123 : decode cX4_critical 123 = .ok (.getfield 13, 3) := by decide +kernel
theorem dX4_critical_126 : decode cX4_critical 126 = .ok (.iload 6, 2) := by decide +kernel
theorem dX4_critical_128 : decode cX4_critical 128 = .ok (.iaload, 1) := by decide +kernel
theorem dX4_critical_129 : decode cX4_critical 129 = .ok (.istore 4, 2) := by decide +kernel
theorem dX4_critical_131 : decode cX4_critical 131 = .ok (.iinc 5 1, 3) := by decide +kernel
theorem dX4_critical_134 : decode cX4_critical 134 = .ok (.goto (-113), 3) := by decide +kernel
theorem dX4_critical_137 : decode cX4_critical 137 = .ok (.iconst (-1), 1) := by decide +kernel
theorem dX4_critical_138 : decode cX4_critical 138 = .ok (.ireturn, 1) := by decide +kernel
theorem dJ9_max_7cf53_0 : decode cJ9_max_7cf53 0 = .ok (.iload_n 0, 1) := by decide +kernel
theorem dJ9_max_7cf53_1 : decode cJ9_max_7cf53 1 = .ok (.iload_n 1, 1) := by decide +kernel
theorem dJ9_max_7cf53_2 : decode cJ9_max_7cf53 2 = .ok (.if_icmp .lt 7, 3) := by decide +kernel
theorem dJ9_max_7cf53_5 : decode cJ9_max_7cf53 5 = .ok (.iload_n 0, 1) := by decide +kernel
theorem dJ9_max_7cf53_6 : decode cJ9_max_7cf53 6 = .ok (.goto 4, 3) := by decide +kernel
theorem dJ9_max_7cf53_9 : decode cJ9_max_7cf53 9 = .ok (.iload_n 1, 1) := by decide +kernel
theorem dJ9_max_7cf53_10 : decode cJ9_max_7cf53 10 = .ok (.ireturn, 1) := by decide +kernel
theorem dJ9_min_7cf53_0 : decode cJ9_min_7cf53 0 = .ok (.iload_n 0, 1) := by decide +kernel
theorem dJ9_min_7cf53_1 : decode cJ9_min_7cf53 1 = .ok (.iload_n 1, 1) := by decide +kernel
theorem dJ9_min_7cf53_2 : decode cJ9_min_7cf53 2 = .ok (.if_icmp .gt 7, 3) := by decide +kernel
theorem dJ9_min_7cf53_5 : decode cJ9_min_7cf53 5 = .ok (.iload_n 0, 1) := by decide +kernel
theorem dJ9_min_7cf53_6 : decode cJ9_min_7cf53 6 = .ok (.goto 4, 3) := by decide +kernel
theorem dJ9_min_7cf53_9 : decode cJ9_min_7cf53 9 = .ok (.iload_n 1, 1) := by decide +kernel
theorem dJ9_min_7cf53_10 : decode cJ9_min_7cf53 10 = .ok (.ireturn, 1) := by decide +kernel
abbrev vwCl : List vw_C := [(RX0, TX0, 7), (RX1, TX1, 8), (RX2, TX2, 4), (RX3, TX3, 3), (RX4, TX4, 14)]
