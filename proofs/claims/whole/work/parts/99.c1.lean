/-! THE LAW: cases told, least, way, within, rounds -/
set_option maxHeartbeats 4000000 in
set_option maxRecDepth 100000 in
theorem lc_told {p : Program} {l : Launch} {e : Env} {s : State} {mt : MethodId} {below : List Frame} {meth : Method} {c : Code} {Q : State → Prop} {bs Ls : Nat} {xs : Nat → Int32} {D : va_G} {k : Nat → ClassId} {a b : Nat → Nat} (C : LC p s mt meth c bs Ls xs D k a b) {i cN : Nat} (hi : i + 4 ≤ Ls) (hcN : cN < 2 ^ 30) {H : Heap} {locs : List Loc} (hW : LWd D k a b cN H) (hS : va_S (fun q : Nat => s.heap.size ≤ q) s.heap H locs) {ls : Array Slot} (hl : lv_has ls 4 [(0, .ref bs), (1, .ref (a 0)), (2, .ref (b 0)), (3, .int (nI i))]) (next : ∀ (H1 : Heap) (locs1 : List Loc), LWd D k a b (cN + 1) H1 → va_S (fun q : Nat => s.heap.size ≤ q) s.heap H1 locs1 → W p l e room_1 s mt #[Value.ref bs] below meth c H1 locs1 58 4469 Q (F0 mt 628 ls [])) : W p l e room_1 s mt #[Value.ref bs] below meth c H locs 58 4469 Q (F0 mt 253 ls []) := by
  obtain ⟨⟨hx, hb, hr, hml, hown, hts0, hX, hbl, hlocks, hgv⟩, hLs, hK, ha, hbI, hdis, haA, hbA⟩ := C
  have hts : ∀ w ∈ wsL_law, w.before #[Value.ref bs] s = true := fun w h => hts0 w (wsL_law_in w h)
  have hown : s.vm.findClass RL = some mt.cls := hown
  have hbN : ¬ (fun q : Nat => s.heap.size ≤ q) bs := Nat.not_le.mpr hbl
  obtain ⟨n, m, ch, fr, to, w, th, L, la, sw, od, io, oc, fa, on, gr, sr, be, oe, al, pa, bo, rl, ra, mo, hP1, hP2, hC⟩ := hW
  obtain ⟨hg, hw, hla, hoc, -, -, -⟩ := id hC
  obtain ⟨x1, e1⟩ : ∃ y : Int32, xs (i + 1) = y := ⟨_, rfl⟩
  refine lv_aload_n hx hb dL_law_253 rfl (lv_at hl 1 rfl) ?_
  refine sld5 hx hb hX hbl hbN hS 1 hl (by decide) (by omega) hLs e1 dL_law_254 dL_law_255 dL_law_256 dL_law_257 dL_law_258 ?_
  refine cl_Si (As := [.int x1]) (rest := []) ⟨hx, hb, hml, hown, hts⟩ (c3_told l ha x1 (by have := hg.2.1; omega)) (cwV 1 hts gL_law_X3_told rfl rfl rfl (by decide +kernel) ⟨Nat.le_of_ble_eq_true rfl, Nat.le_of_ble_eq_true rfl⟩) hK hP1 (ci := 3) (q0 := 0) rfl rfl rfl rfl hl.1 rfl (Nat.le_of_ble_eq_true rfl) dL_law_259 ⟨Nat.le_of_ble_eq_true rfl, Nat.le_of_ble_eq_true rfl⟩ (fun r1 h1 => ?_)
  refine lv_aload_n hx hb dL_law_262 rfl (lv_at hl 2 rfl) ?_
  refine sld5 hx hb hX hbl hbN hS 1 hl (by decide) (by omega) hLs e1 dL_law_263 dL_law_264 dL_law_265 dL_law_266 dL_law_267 ?_
  refine cl_Si (As := [.int x1]) (rest := [.int r1]) ⟨hx, hb, hml, hown, hts⟩ (c4_told l hbI x1 (by have := hg.2.1; omega)) (cwV 1 hts gL_law_X4_told rfl rfl rfl (by decide +kernel) ⟨Nat.le_of_ble_eq_true rfl, Nat.le_of_ble_eq_true rfl⟩) hK hP2 (ci := 4) (q0 := 0) rfl rfl rfl rfl hl.1 rfl (Nat.le_of_ble_eq_true rfl) dL_law_268 ⟨Nat.le_of_ble_eq_true rfl, Nat.le_of_ble_eq_true rfl⟩ (fun r2 h2 => ?_)
  exact lv_icmp_eq (tgt := 628) hx hb dL_law_271 (by decide) (fun _ => next H locs ⟨_, _, _, _, _, _, _, _, _, _, _, _, _, _, _, _, _, _, _, _, _, _, _, _, _, hP1, hP2, CI_up hC⟩ hS) (fun q => absurd (h1.trans h2.symm) q)
set_option maxHeartbeats 4000000 in
set_option maxRecDepth 100000 in
theorem lc_least {p : Program} {l : Launch} {e : Env} {s : State} {mt : MethodId} {below : List Frame} {meth : Method} {c : Code} {Q : State → Prop} {bs Ls : Nat} {xs : Nat → Int32} {D : va_G} {k : Nat → ClassId} {a b : Nat → Nat} (C : LC p s mt meth c bs Ls xs D k a b) {i cN : Nat} (hi : i + 4 ≤ Ls) (hcN : cN < 2 ^ 30) {H : Heap} {locs : List Loc} (hW : LWd D k a b cN H) (hS : va_S (fun q : Nat => s.heap.size ≤ q) s.heap H locs) {ls : Array Slot} (hl : lv_has ls 4 [(0, .ref bs), (1, .ref (a 0)), (2, .ref (b 0)), (3, .int (nI i))]) (next : ∀ (H1 : Heap) (locs1 : List Loc), LWd D k a b (cN + 1) H1 → va_S (fun q : Nat => s.heap.size ≤ q) s.heap H1 locs1 → W p l e room_1 s mt #[Value.ref bs] below meth c H1 locs1 58 4469 Q (F0 mt 628 ls [])) : W p l e room_1 s mt #[Value.ref bs] below meth c H locs 58 4469 Q (F0 mt 276 ls []) := by
  obtain ⟨⟨hx, hb, hr, hml, hown, hts0, hX, hbl, hlocks, hgv⟩, hLs, hK, ha, hbI, hdis, haA, hbA⟩ := C
  have hts : ∀ w ∈ wsL_law, w.before #[Value.ref bs] s = true := fun w h => hts0 w (wsL_law_in w h)
  have hown : s.vm.findClass RL = some mt.cls := hown
  have hbN : ¬ (fun q : Nat => s.heap.size ≤ q) bs := Nat.not_le.mpr hbl
  obtain ⟨n, m, ch, fr, to, w, th, L, la, sw, od, io, oc, fa, on, gr, sr, be, oe, al, pa, bo, rl, ra, mo, hP1, hP2, hC⟩ := hW
  obtain ⟨hg, hw, hla, hoc, -, -, -⟩ := id hC
  obtain ⟨x1, e1⟩ : ∃ y : Int32, xs (i + 1) = y := ⟨_, rfl⟩
  obtain ⟨x2, e2⟩ : ∃ y : Int32, xs (i + 2) = y := ⟨_, rfl⟩
  refine lv_aload_n hx hb dL_law_276 rfl (lv_at hl 1 rfl) ?_
  refine sld5 hx hb hX hbl hbN hS 1 hl (by decide) (by omega) hLs e1 dL_law_277 dL_law_278 dL_law_279 dL_law_280 dL_law_281 ?_
  refine sld5 hx hb hX hbl hbN hS 2 hl (by decide) (by omega) hLs e2 dL_law_282 dL_law_283 dL_law_284 dL_law_285 dL_law_286 ?_
  refine cl_Qi (As := [.int x1, .int x2]) (rest := []) ⟨hx, hb, hml, hown, hts⟩ (c3_least l ha x1 x2 hg hla) (cwV 2 hts gL_law_X3_least rfl rfl rfl (by decide +kernel) ⟨Nat.le_of_ble_eq_true rfl, Nat.le_of_ble_eq_true rfl⟩) hK hP1 hS haA (ci := 3) (q0 := 0) rfl rfl rfl rfl hl.1 rfl (Nat.le_of_ble_eq_true rfl) dL_law_287 ⟨Nat.le_of_ble_eq_true rfl, Nat.le_of_ble_eq_true rfl⟩ (fun r1 H1 locs1 h1 hP1 hz1 hf1 hS1 => ?_)
  have hP2 := kp mW_addr hP2 hf1 (dis_b hdis)
  refine lv_aload_n hx hb dL_law_290 rfl (lv_at hl 2 rfl) ?_
  refine sld5 hx hb hX hbl hbN hS1 1 hl (by decide) (by omega) hLs e1 dL_law_291 dL_law_292 dL_law_293 dL_law_294 dL_law_295 ?_
  refine sld5 hx hb hX hbl hbN hS1 2 hl (by decide) (by omega) hLs e2 dL_law_296 dL_law_297 dL_law_298 dL_law_299 dL_law_300 ?_
  refine cl_Qi (As := [.int x1, .int x2]) (rest := [.int r1]) ⟨hx, hb, hml, hown, hts⟩ (c4_least l hbI x1 x2 hg) (cwV 2 hts gL_law_X4_least rfl rfl rfl (by decide +kernel) ⟨Nat.le_of_ble_eq_true rfl, Nat.le_of_ble_eq_true rfl⟩) hK hP2 hS1 hbA (ci := 4) (q0 := 0) rfl rfl rfl rfl hl.1 rfl (Nat.le_of_ble_eq_true rfl) dL_law_301 ⟨Nat.le_of_ble_eq_true rfl, Nat.le_of_ble_eq_true rfl⟩ (fun r2 H2 locs2 h2 hP2 hz2 hf2 hS2 => ?_)
  have hP1 := kp cW_addr hP1 hf2 (dis_a hdis)
  exact lv_icmp_eq (tgt := 628) hx hb dL_law_304 (by decide) (fun _ => next H2 locs2 ⟨_, _, _, _, _, _, _, _, _, _, _, _, _, _, _, _, _, _, _, _, _, _, _, _, _, hP1, hP2, ch_wk hC _ (fun _ => by omega)⟩ hS2) (fun q => absurd (an_least hC x1 x2 h1 h2) q)
set_option maxHeartbeats 4000000 in
set_option maxRecDepth 100000 in
theorem lc_way {p : Program} {l : Launch} {e : Env} {s : State} {mt : MethodId} {below : List Frame} {meth : Method} {c : Code} {Q : State → Prop} {bs Ls : Nat} {xs : Nat → Int32} {D : va_G} {k : Nat → ClassId} {a b : Nat → Nat} (C : LC p s mt meth c bs Ls xs D k a b) {i cN : Nat} (hi : i + 4 ≤ Ls) (hcN : cN < 2 ^ 30) {H : Heap} {locs : List Loc} (hW : LWd D k a b cN H) (hS : va_S (fun q : Nat => s.heap.size ≤ q) s.heap H locs) {ls : Array Slot} (hl : lv_has ls 4 [(0, .ref bs), (1, .ref (a 0)), (2, .ref (b 0)), (3, .int (nI i))]) (next : ∀ (H1 : Heap) (locs1 : List Loc), LWd D k a b (cN + 1) H1 → va_S (fun q : Nat => s.heap.size ≤ q) s.heap H1 locs1 → W p l e room_1 s mt #[Value.ref bs] below meth c H1 locs1 58 4469 Q (F0 mt 628 ls [])) : W p l e room_1 s mt #[Value.ref bs] below meth c H locs 58 4469 Q (F0 mt 309 ls []) := by
  obtain ⟨⟨hx, hb, hr, hml, hown, hts0, hX, hbl, hlocks, hgv⟩, hLs, hK, ha, hbI, hdis, haA, hbA⟩ := C
  have hts : ∀ w ∈ wsL_law, w.before #[Value.ref bs] s = true := fun w h => hts0 w (wsL_law_in w h)
  have hown : s.vm.findClass RL = some mt.cls := hown
  have hbN : ¬ (fun q : Nat => s.heap.size ≤ q) bs := Nat.not_le.mpr hbl
  obtain ⟨n, m, ch, fr, to, w, th, L, la, sw, od, io, oc, fa, on, gr, sr, be, oe, al, pa, bo, rl, ra, mo, hP1, hP2, hC⟩ := hW
  obtain ⟨hg, hw, hla, hoc, -, -, -⟩ := id hC
  obtain ⟨x1, e1⟩ : ∃ y : Int32, xs (i + 1) = y := ⟨_, rfl⟩
  obtain ⟨x2, e2⟩ : ∃ y : Int32, xs (i + 2) = y := ⟨_, rfl⟩
  obtain ⟨x3, e3⟩ : ∃ y : Int32, xs (i + 3) = y := ⟨_, rfl⟩
  refine lv_aload_n hx hb dL_law_309 rfl (lv_at hl 1 rfl) ?_
  refine sld5 hx hb hX hbl hbN hS 1 hl (by decide) (by omega) hLs e1 dL_law_310 dL_law_311 dL_law_312 dL_law_313 dL_law_314 ?_
  refine sld5 hx hb hX hbl hbN hS 2 hl (by decide) (by omega) hLs e2 dL_law_315 dL_law_316 dL_law_317 dL_law_318 dL_law_319 ?_
  refine sld5 hx hb hX hbl hbN hS 3 hl (by decide) (by omega) hLs e3 dL_law_320 dL_law_321 dL_law_322 dL_law_323 dL_law_324 ?_
  refine cl_Qi (As := [.int x1, .int x2, .int x3]) (rest := []) ⟨hx, hb, hml, hown, hts⟩ (c3_way l ha x1 x2 x3 hg hla) (cwV 3 hts gL_law_X3_way rfl rfl rfl (by decide +kernel) ⟨Nat.le_of_ble_eq_true rfl, Nat.le_of_ble_eq_true rfl⟩) hK hP1 hS haA (ci := 3) (q0 := 0) rfl rfl rfl rfl hl.1 rfl (Nat.le_of_ble_eq_true rfl) dL_law_325 ⟨Nat.le_of_ble_eq_true rfl, Nat.le_of_ble_eq_true rfl⟩ (fun r1 H1 locs1 h1 hP1 hz1 hf1 hS1 => ?_)
  have hP2 := kp mW_addr hP2 hf1 (dis_b hdis)
  refine lv_aload_n hx hb dL_law_328 rfl (lv_at hl 2 rfl) ?_
  refine sld5 hx hb hX hbl hbN hS1 1 hl (by decide) (by omega) hLs e1 dL_law_329 dL_law_330 dL_law_331 dL_law_332 dL_law_333 ?_
  refine sld5 hx hb hX hbl hbN hS1 2 hl (by decide) (by omega) hLs e2 dL_law_334 dL_law_335 dL_law_336 dL_law_337 dL_law_338 ?_
  refine sld5 hx hb hX hbl hbN hS1 3 hl (by decide) (by omega) hLs e3 dL_law_339 dL_law_340 dL_law_341 dL_law_342 dL_law_343 ?_
  refine cl_Qi (As := [.int x1, .int x2, .int x3]) (rest := [.int r1]) ⟨hx, hb, hml, hown, hts⟩ (c4_way l hbI x1 x2 x3 hg (hy_way hC x1 x2 x3)) (cwV 3 hts gL_law_X4_way rfl rfl rfl (by decide +kernel) ⟨Nat.le_of_ble_eq_true rfl, Nat.le_of_ble_eq_true rfl⟩) hK hP2 hS1 hbA (ci := 4) (q0 := 0) rfl rfl rfl rfl hl.1 rfl (Nat.le_of_ble_eq_true rfl) dL_law_344 ⟨Nat.le_of_ble_eq_true rfl, Nat.le_of_ble_eq_true rfl⟩ (fun r2 H2 locs2 h2 hP2 hz2 hf2 hS2 => ?_)
  have hP1 := kp cW_addr hP1 hf2 (dis_a hdis)
  exact lv_icmp_eq (tgt := 628) hx hb dL_law_347 (by decide) (fun _ => next H2 locs2 ⟨_, _, _, _, _, _, _, _, _, _, _, _, _, _, _, _, _, _, _, _, _, _, _, _, _, hP1, hP2, ch_wk hC _ (fun _ => by omega)⟩ hS2) (fun q => absurd (an_way hC x1 x2 x3 h1 h2) q)
set_option maxHeartbeats 4000000 in
set_option maxRecDepth 100000 in
theorem lc_within {p : Program} {l : Launch} {e : Env} {s : State} {mt : MethodId} {below : List Frame} {meth : Method} {c : Code} {Q : State → Prop} {bs Ls : Nat} {xs : Nat → Int32} {D : va_G} {k : Nat → ClassId} {a b : Nat → Nat} (C : LC p s mt meth c bs Ls xs D k a b) {i cN : Nat} (hi : i + 4 ≤ Ls) (hcN : cN < 2 ^ 30) {H : Heap} {locs : List Loc} (hW : LWd D k a b cN H) (hS : va_S (fun q : Nat => s.heap.size ≤ q) s.heap H locs) {ls : Array Slot} (hl : lv_has ls 4 [(0, .ref bs), (1, .ref (a 0)), (2, .ref (b 0)), (3, .int (nI i))]) (next : ∀ (H1 : Heap) (locs1 : List Loc), LWd D k a b (cN + 1) H1 → va_S (fun q : Nat => s.heap.size ≤ q) s.heap H1 locs1 → W p l e room_1 s mt #[Value.ref bs] below meth c H1 locs1 58 4469 Q (F0 mt 628 ls [])) : W p l e room_1 s mt #[Value.ref bs] below meth c H locs 58 4469 Q (F0 mt 352 ls []) := by
  obtain ⟨⟨hx, hb, hr, hml, hown, hts0, hX, hbl, hlocks, hgv⟩, hLs, hK, ha, hbI, hdis, haA, hbA⟩ := C
  have hts : ∀ w ∈ wsL_law, w.before #[Value.ref bs] s = true := fun w h => hts0 w (wsL_law_in w h)
  have hown : s.vm.findClass RL = some mt.cls := hown
  have hbN : ¬ (fun q : Nat => s.heap.size ≤ q) bs := Nat.not_le.mpr hbl
  obtain ⟨n, m, ch, fr, to, w, th, L, la, sw, od, io, oc, fa, on, gr, sr, be, oe, al, pa, bo, rl, ra, mo, hP1, hP2, hC⟩ := hW
  obtain ⟨hg, hw, hla, hoc, -, -, -⟩ := id hC
  obtain ⟨x1, e1⟩ : ∃ y : Int32, xs (i + 1) = y := ⟨_, rfl⟩
  obtain ⟨x2, e2⟩ : ∃ y : Int32, xs (i + 2) = y := ⟨_, rfl⟩
  obtain ⟨x3, e3⟩ : ∃ y : Int32, xs (i + 3) = y := ⟨_, rfl⟩
  refine lv_aload_n hx hb dL_law_352 rfl (lv_at hl 1 rfl) ?_
  refine sld5 hx hb hX hbl hbN hS 1 hl (by decide) (by omega) hLs e1 dL_law_353 dL_law_354 dL_law_355 dL_law_356 dL_law_357 ?_
  refine sld5 hx hb hX hbl hbN hS 2 hl (by decide) (by omega) hLs e2 dL_law_358 dL_law_359 dL_law_360 dL_law_361 dL_law_362 ?_
  refine sld5 hx hb hX hbl hbN hS 3 hl (by decide) (by omega) hLs e3 dL_law_363 dL_law_364 dL_law_365 dL_law_366 dL_law_367 ?_
  refine cl_Qi (As := [.int x1, .int x2, .int x3]) (rest := []) ⟨hx, hb, hml, hown, hts⟩ (c3_within l ha x1 x2 x3 hg hla) (cwV 3 hts gL_law_X3_within rfl rfl rfl (by decide +kernel) ⟨Nat.le_of_ble_eq_true rfl, Nat.le_of_ble_eq_true rfl⟩) hK hP1 hS haA (ci := 3) (q0 := 0) rfl rfl rfl rfl hl.1 rfl (Nat.le_of_ble_eq_true rfl) dL_law_368 ⟨Nat.le_of_ble_eq_true rfl, Nat.le_of_ble_eq_true rfl⟩ (fun r1 H1 locs1 h1 hP1 hz1 hf1 hS1 => ?_)
  have hP2 := kp mW_addr hP2 hf1 (dis_b hdis)
  refine lv_aload_n hx hb dL_law_371 rfl (lv_at hl 2 rfl) ?_
  refine sld5 hx hb hX hbl hbN hS1 1 hl (by decide) (by omega) hLs e1 dL_law_372 dL_law_373 dL_law_374 dL_law_375 dL_law_376 ?_
  refine sld5 hx hb hX hbl hbN hS1 2 hl (by decide) (by omega) hLs e2 dL_law_377 dL_law_378 dL_law_379 dL_law_380 dL_law_381 ?_
  refine sld5 hx hb hX hbl hbN hS1 3 hl (by decide) (by omega) hLs e3 dL_law_382 dL_law_383 dL_law_384 dL_law_385 dL_law_386 ?_
  refine cl_Qi (As := [.int x1, .int x2, .int x3]) (rest := [.int r1]) ⟨hx, hb, hml, hown, hts⟩ (c4_within l hbI x1 x2 x3 hg) (cwV 3 hts gL_law_X4_within rfl rfl rfl (by decide +kernel) ⟨Nat.le_of_ble_eq_true rfl, Nat.le_of_ble_eq_true rfl⟩) hK hP2 hS1 hbA (ci := 4) (q0 := 0) rfl rfl rfl rfl hl.1 rfl (Nat.le_of_ble_eq_true rfl) dL_law_387 ⟨Nat.le_of_ble_eq_true rfl, Nat.le_of_ble_eq_true rfl⟩ (fun r2 H2 locs2 h2 hP2 hz2 hf2 hS2 => ?_)
  have hP1 := kp cW_addr hP1 hf2 (dis_a hdis)
  exact lv_icmp_eq (tgt := 628) hx hb dL_law_390 (by decide) (fun _ => next H2 locs2 ⟨_, _, _, _, _, _, _, _, _, _, _, _, _, _, _, _, _, _, _, _, _, _, _, _, _, hP1, hP2, ch_wk hC _ (fun q => wi_20 q)⟩ hS2) (fun q => absurd (an_within hC x1 x2 x3 h1 h2) q)
set_option maxHeartbeats 4000000 in
set_option maxRecDepth 100000 in
theorem lc_rounds {p : Program} {l : Launch} {e : Env} {s : State} {mt : MethodId} {below : List Frame} {meth : Method} {c : Code} {Q : State → Prop} {bs Ls : Nat} {xs : Nat → Int32} {D : va_G} {k : Nat → ClassId} {a b : Nat → Nat} (C : LC p s mt meth c bs Ls xs D k a b) {i cN : Nat} (hi : i + 4 ≤ Ls) (hcN : cN < 2 ^ 30) {H : Heap} {locs : List Loc} (hW : LWd D k a b cN H) (hS : va_S (fun q : Nat => s.heap.size ≤ q) s.heap H locs) {ls : Array Slot} (hl : lv_has ls 4 [(0, .ref bs), (1, .ref (a 0)), (2, .ref (b 0)), (3, .int (nI i))]) (next : ∀ (H1 : Heap) (locs1 : List Loc), LWd D k a b (cN + 1) H1 → va_S (fun q : Nat => s.heap.size ≤ q) s.heap H1 locs1 → W p l e room_1 s mt #[Value.ref bs] below meth c H1 locs1 58 4469 Q (F0 mt 628 ls [])) : W p l e room_1 s mt #[Value.ref bs] below meth c H locs 58 4469 Q (F0 mt 395 ls []) := by
  obtain ⟨⟨hx, hb, hr, hml, hown, hts0, hX, hbl, hlocks, hgv⟩, hLs, hK, ha, hbI, hdis, haA, hbA⟩ := C
  have hts : ∀ w ∈ wsL_law, w.before #[Value.ref bs] s = true := fun w h => hts0 w (wsL_law_in w h)
  have hown : s.vm.findClass RL = some mt.cls := hown
  have hbN : ¬ (fun q : Nat => s.heap.size ≤ q) bs := Nat.not_le.mpr hbl
  obtain ⟨n, m, ch, fr, to, w, th, L, la, sw, od, io, oc, fa, on, gr, sr, be, oe, al, pa, bo, rl, ra, mo, hP1, hP2, hC⟩ := hW
  obtain ⟨hg, hw, hla, hoc, -, -, -⟩ := id hC
  obtain ⟨x1, e1⟩ : ∃ y : Int32, xs (i + 1) = y := ⟨_, rfl⟩
  refine lv_aload_n hx hb dL_law_395 rfl (lv_at hl 1 rfl) ?_
  refine sld5 hx hb hX hbl hbN hS 1 hl (by decide) (by omega) hLs e1 dL_law_396 dL_law_397 dL_law_398 dL_law_399 dL_law_400 ?_
  refine cl_Qi (As := [.int x1]) (rest := []) ⟨hx, hb, hml, hown, hts⟩ (c3_rounds l ha x1 hg hla) (cwV 1 hts gL_law_X3_rounds rfl rfl rfl (by decide +kernel) ⟨Nat.le_of_ble_eq_true rfl, Nat.le_of_ble_eq_true rfl⟩) hK hP1 hS haA (ci := 3) (q0 := 0) rfl rfl rfl rfl hl.1 rfl (Nat.le_of_ble_eq_true rfl) dL_law_401 ⟨Nat.le_of_ble_eq_true rfl, Nat.le_of_ble_eq_true rfl⟩ (fun r1 H1 locs1 h1 hP1 hz1 hf1 hS1 => ?_)
  have hP2 := kp mW_addr hP2 hf1 (dis_b hdis)
  refine lv_aload_n hx hb dL_law_404 rfl (lv_at hl 2 rfl) ?_
  refine sld5 hx hb hX hbl hbN hS1 1 hl (by decide) (by omega) hLs e1 dL_law_405 dL_law_406 dL_law_407 dL_law_408 dL_law_409 ?_
  refine cl_Xi (As := [.int x1]) (rest := [.int r1]) ⟨hx, hb, hml, hown, hts⟩ (c4_rounds l hbI x1 hg (inD_ok hg hw) (hy_rounds hC x1)) (cwV 1 hts gL_law_X4_rounds rfl rfl rfl (by decide +kernel) ⟨Nat.le_of_ble_eq_true rfl, Nat.le_of_ble_eq_true rfl⟩) hK hP2 hS1 hbA (ci := 4) (q0 := 0) rfl rfl rfl rfl hl.1 rfl (Nat.le_of_ble_eq_true rfl) dL_law_410 ⟨Nat.le_of_ble_eq_true rfl, Nat.le_of_ble_eq_true rfl⟩ (fun r2 u H2 locs2 h2 hP2 hz2 hf2 hS2 => ?_)
  have hP1 := kp cW_addr hP1 hf2 (dis_a hdis)
  exact lv_icmp_eq (tgt := 628) hx hb dL_law_413 (by decide) (fun _ => next H2 locs2 ⟨_, _, _, _, _, _, _, _, _, _, _, _, _, _, _, _, _, _, _, _, _, _, _, _, _, hP1, hP2, ch_wk hC _ (fun _ => by omega)⟩ hS2) (fun q => absurd (an_rounds hC x1 h1 h2) q)
