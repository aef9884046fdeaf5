/-! THE LAW: cases falling, ring, height, lifted, spare -/
set_option maxHeartbeats 4000000 in
set_option maxRecDepth 100000 in
theorem lc_falling {p : Program} {l : Launch} {e : Env} {s : State} {mt : MethodId} {below : List Frame} {meth : Method} {c : Code} {Q : State → Prop} {bs Ls : Nat} {xs : Nat → Int32} {D : va_G} {k : Nat → ClassId} {a b : Nat → Nat} (C : LC p s mt meth c bs Ls xs D k a b) {i cN : Nat} (hi : i + 4 ≤ Ls) (hcN : cN < 2 ^ 30) {H : Heap} {locs : List Loc} (hW : LWd D k a b cN H) (hS : va_S (fun q : Nat => s.heap.size ≤ q) s.heap H locs) {ls : Array Slot} (hl : lv_has ls 4 [(0, .ref bs), (1, .ref (a 0)), (2, .ref (b 0)), (3, .int (nI i))]) (next : ∀ (H1 : Heap) (locs1 : List Loc), LWd D k a b (cN + 1) H1 → va_S (fun q : Nat => s.heap.size ≤ q) s.heap H1 locs1 → W p l e room_1 s mt #[Value.ref bs] below meth c H1 locs1 58 4469 Q (F0 mt 628 ls [])) : W p l e room_1 s mt #[Value.ref bs] below meth c H locs 58 4469 Q (F0 mt 418 ls []) := by
  obtain ⟨⟨hx, hb, hr, hml, hown, hts0, hX, hbl, hlocks, hgv⟩, hLs, hK, ha, hbI, hdis, haA, hbA⟩ := C
  have hts : ∀ w ∈ wsL_law, w.before #[Value.ref bs] s = true := fun w h => hts0 w (wsL_law_in w h)
  have hown : s.vm.findClass RL = some mt.cls := hown
  have hbN : ¬ (fun q : Nat => s.heap.size ≤ q) bs := Nat.not_le.mpr hbl
  obtain ⟨n, m, ch, fr, to, w, th, L, la, sw, od, io, oc, fa, on, gr, sr, be, oe, al, pa, bo, rl, ra, mo, hP1, hP2, hC⟩ := hW
  obtain ⟨hg, hw, hla, hoc, -, -, -⟩ := id hC
  refine lv_aload_n hx hb dL_law_418 rfl (lv_at hl 1 rfl) ?_
  refine cl_Qi (As := []) (rest := []) ⟨hx, hb, hml, hown, hts⟩ (c3_falling l ha  hg hla) (cwV 0 hts gL_law_X3_falling rfl rfl rfl (by decide +kernel) ⟨Nat.le_of_ble_eq_true rfl, Nat.le_of_ble_eq_true rfl⟩) hK hP1 hS haA (ci := 3) (q0 := 0) rfl rfl rfl rfl hl.1 rfl (Nat.le_of_ble_eq_true rfl) dL_law_419 ⟨Nat.le_of_ble_eq_true rfl, Nat.le_of_ble_eq_true rfl⟩ (fun r1 H1 locs1 h1 hP1 hz1 hf1 hS1 => ?_)
  have hP2 := kp mW_addr hP2 hf1 (dis_b hdis)
  refine lv_aload_n hx hb dL_law_422 rfl (lv_at hl 2 rfl) ?_
  refine cl_Xi (As := []) (rest := [.int r1]) ⟨hx, hb, hml, hown, hts⟩ (c4_falling l hbI  (raC m fr to w th (wkL n m ch fr to w th L la sw 12) (feN n m fr to w th)) hg (inD_ok hg hw) (hy_ring hC)) (cwV 0 hts gL_law_X4_falling rfl rfl rfl (by decide +kernel) ⟨Nat.le_of_ble_eq_true rfl, Nat.le_of_ble_eq_true rfl⟩) hK hP2 hS1 hbA (ci := 4) (q0 := 0) rfl rfl rfl rfl hl.1 rfl (Nat.le_of_ble_eq_true rfl) dL_law_423 ⟨Nat.le_of_ble_eq_true rfl, Nat.le_of_ble_eq_true rfl⟩ (fun r2 u H2 locs2 h2 hP2 hz2 hf2 hS2 => ?_)
  have hP1 := kp cW_addr hP1 hf2 (dis_a hdis)
  exact lv_icmp_eq (tgt := 628) hx hb dL_law_426 (by decide) (fun _ => next H2 locs2 ⟨_, _, _, _, _, _, _, _, _, _, _, _, _, _, _, _, _, _, _, _, _, _, _, _, _, hP1, hP2, (CI_wk hC (by omega)).1⟩ hS2) (fun q => absurd (an_falling hC h1 h2) q)
set_option maxHeartbeats 4000000 in
set_option maxRecDepth 100000 in
theorem lc_ring {p : Program} {l : Launch} {e : Env} {s : State} {mt : MethodId} {below : List Frame} {meth : Method} {c : Code} {Q : State → Prop} {bs Ls : Nat} {xs : Nat → Int32} {D : va_G} {k : Nat → ClassId} {a b : Nat → Nat} (C : LC p s mt meth c bs Ls xs D k a b) {i cN : Nat} (hi : i + 4 ≤ Ls) (hcN : cN < 2 ^ 30) {H : Heap} {locs : List Loc} (hW : LWd D k a b cN H) (hS : va_S (fun q : Nat => s.heap.size ≤ q) s.heap H locs) {ls : Array Slot} (hl : lv_has ls 4 [(0, .ref bs), (1, .ref (a 0)), (2, .ref (b 0)), (3, .int (nI i))]) (next : ∀ (H1 : Heap) (locs1 : List Loc), LWd D k a b (cN + 1) H1 → va_S (fun q : Nat => s.heap.size ≤ q) s.heap H1 locs1 → W p l e room_1 s mt #[Value.ref bs] below meth c H1 locs1 58 4469 Q (F0 mt 628 ls [])) : W p l e room_1 s mt #[Value.ref bs] below meth c H locs 58 4469 Q (F0 mt 431 ls []) := by
  obtain ⟨⟨hx, hb, hr, hml, hown, hts0, hX, hbl, hlocks, hgv⟩, hLs, hK, ha, hbI, hdis, haA, hbA⟩ := C
  have hts : ∀ w ∈ wsL_law, w.before #[Value.ref bs] s = true := fun w h => hts0 w (wsL_law_in w h)
  have hown : s.vm.findClass RL = some mt.cls := hown
  have hbN : ¬ (fun q : Nat => s.heap.size ≤ q) bs := Nat.not_le.mpr hbl
  obtain ⟨n, m, ch, fr, to, w, th, L, la, sw, od, io, oc, fa, on, gr, sr, be, oe, al, pa, bo, rl, ra, mo, hP1, hP2, hC⟩ := hW
  obtain ⟨hg, hw, hla, hoc, -, -, -⟩ := id hC
  obtain ⟨x1, e1⟩ : ∃ y : Int32, xs (i + 1) = y := ⟨_, rfl⟩
  refine lv_aload_n hx hb dL_law_431 rfl (lv_at hl 1 rfl) ?_
  refine sld5 hx hb hX hbl hbN hS 1 hl (by decide) (by omega) hLs e1 dL_law_432 dL_law_433 dL_law_434 dL_law_435 dL_law_436 ?_
  refine cl_Qi (As := [.int x1]) (rest := []) ⟨hx, hb, hml, hown, hts⟩ (c3_ring l ha x1 hg hla) (cwV 1 hts gL_law_X3_ring rfl rfl rfl (by decide +kernel) ⟨Nat.le_of_ble_eq_true rfl, Nat.le_of_ble_eq_true rfl⟩) hK hP1 hS haA (ci := 3) (q0 := 0) rfl rfl rfl rfl hl.1 rfl (Nat.le_of_ble_eq_true rfl) dL_law_437 ⟨Nat.le_of_ble_eq_true rfl, Nat.le_of_ble_eq_true rfl⟩ (fun r1 H1 locs1 h1 hP1 hz1 hf1 hS1 => ?_)
  have hP2 := kp mW_addr hP2 hf1 (dis_b hdis)
  refine lv_aload_n hx hb dL_law_440 rfl (lv_at hl 2 rfl) ?_
  refine sld5 hx hb hX hbl hbN hS1 1 hl (by decide) (by omega) hLs e1 dL_law_441 dL_law_442 dL_law_443 dL_law_444 dL_law_445 ?_
  refine cl_Xi (As := [.int x1]) (rest := [.int r1]) ⟨hx, hb, hml, hown, hts⟩ (c4_ring l hbI x1 (raC m fr to w th (wkL n m ch fr to w th L la sw 12) (feN n m fr to w th)) hg (inD_ok hg hw) (hy_ring hC)) (cwV 1 hts gL_law_X4_ring rfl rfl rfl (by decide +kernel) ⟨Nat.le_of_ble_eq_true rfl, Nat.le_of_ble_eq_true rfl⟩) hK hP2 hS1 hbA (ci := 4) (q0 := 0) rfl rfl rfl rfl hl.1 rfl (Nat.le_of_ble_eq_true rfl) dL_law_446 ⟨Nat.le_of_ble_eq_true rfl, Nat.le_of_ble_eq_true rfl⟩ (fun r2 u H2 locs2 h2 hP2 hz2 hf2 hS2 => ?_)
  have hP1 := kp cW_addr hP1 hf2 (dis_a hdis)
  exact lv_icmp_eq (tgt := 628) hx hb dL_law_449 (by decide) (fun _ => next H2 locs2 ⟨_, _, _, _, _, _, _, _, _, _, _, _, _, _, _, _, _, _, _, _, _, _, _, _, _, hP1, hP2, (CI_wk hC (by omega)).1⟩ hS2) (fun q => absurd (an_ring hC x1 h1 h2) q)
set_option maxHeartbeats 4000000 in
set_option maxRecDepth 100000 in
theorem lc_height {p : Program} {l : Launch} {e : Env} {s : State} {mt : MethodId} {below : List Frame} {meth : Method} {c : Code} {Q : State → Prop} {bs Ls : Nat} {xs : Nat → Int32} {D : va_G} {k : Nat → ClassId} {a b : Nat → Nat} (C : LC p s mt meth c bs Ls xs D k a b) {i cN : Nat} (hi : i + 4 ≤ Ls) (hcN : cN < 2 ^ 30) {H : Heap} {locs : List Loc} (hW : LWd D k a b cN H) (hS : va_S (fun q : Nat => s.heap.size ≤ q) s.heap H locs) {ls : Array Slot} (hl : lv_has ls 4 [(0, .ref bs), (1, .ref (a 0)), (2, .ref (b 0)), (3, .int (nI i))]) (next : ∀ (H1 : Heap) (locs1 : List Loc), LWd D k a b (cN + 1) H1 → va_S (fun q : Nat => s.heap.size ≤ q) s.heap H1 locs1 → W p l e room_1 s mt #[Value.ref bs] below meth c H1 locs1 58 4469 Q (F0 mt 628 ls [])) : W p l e room_1 s mt #[Value.ref bs] below meth c H locs 58 4469 Q (F0 mt 454 ls []) := by
  obtain ⟨⟨hx, hb, hr, hml, hown, hts0, hX, hbl, hlocks, hgv⟩, hLs, hK, ha, hbI, hdis, haA, hbA⟩ := C
  have hts : ∀ w ∈ wsL_law, w.before #[Value.ref bs] s = true := fun w h => hts0 w (wsL_law_in w h)
  have hown : s.vm.findClass RL = some mt.cls := hown
  have hbN : ¬ (fun q : Nat => s.heap.size ≤ q) bs := Nat.not_le.mpr hbl
  obtain ⟨n, m, ch, fr, to, w, th, L, la, sw, od, io, oc, fa, on, gr, sr, be, oe, al, pa, bo, rl, ra, mo, hP1, hP2, hC⟩ := hW
  obtain ⟨hg, hw, hla, hoc, -, -, -⟩ := id hC
  obtain ⟨x1, e1⟩ : ∃ y : Int32, xs (i + 1) = y := ⟨_, rfl⟩
  refine lv_aload_n hx hb dL_law_454 rfl (lv_at hl 1 rfl) ?_
  refine sld5 hx hb hX hbl hbN hS 1 hl (by decide) (by omega) hLs e1 dL_law_455 dL_law_456 dL_law_457 dL_law_458 dL_law_459 ?_
  refine cl_Qi (As := [.int x1]) (rest := []) ⟨hx, hb, hml, hown, hts⟩ (c3_height l ha x1 hg hla) (cwV 1 hts gL_law_X3_height rfl rfl rfl (by decide +kernel) ⟨Nat.le_of_ble_eq_true rfl, Nat.le_of_ble_eq_true rfl⟩) hK hP1 hS haA (ci := 3) (q0 := 0) rfl rfl rfl rfl hl.1 rfl (Nat.le_of_ble_eq_true rfl) dL_law_460 ⟨Nat.le_of_ble_eq_true rfl, Nat.le_of_ble_eq_true rfl⟩ (fun r1 H1 locs1 h1 hP1 hz1 hf1 hS1 => ?_)
  have hP2 := kp mW_addr hP2 hf1 (dis_b hdis)
  refine lv_aload_n hx hb dL_law_463 rfl (lv_at hl 2 rfl) ?_
  refine sld5 hx hb hX hbl hbN hS1 1 hl (by decide) (by omega) hLs e1 dL_law_464 dL_law_465 dL_law_466 dL_law_467 dL_law_468 ?_
  refine cl_Qi (As := [.int x1]) (rest := [.int r1]) ⟨hx, hb, hml, hown, hts⟩ (c4_height l hbI x1 hg) (cwV 1 hts gL_law_X4_height rfl rfl rfl (by decide +kernel) ⟨Nat.le_of_ble_eq_true rfl, Nat.le_of_ble_eq_true rfl⟩) hK hP2 hS1 hbA (ci := 4) (q0 := 0) rfl rfl rfl rfl hl.1 rfl (Nat.le_of_ble_eq_true rfl) dL_law_469 ⟨Nat.le_of_ble_eq_true rfl, Nat.le_of_ble_eq_true rfl⟩ (fun r2 H2 locs2 h2 hP2 hz2 hf2 hS2 => ?_)
  have hP1 := kp cW_addr hP1 hf2 (dis_a hdis)
  exact lv_icmp_eq (tgt := 628) hx hb dL_law_472 (by decide) (fun _ => next H2 locs2 ⟨_, _, _, _, _, _, _, _, _, _, _, _, _, _, _, _, _, _, _, _, _, _, _, _, _, hP1, hP2, ch_wk hC _ (fun _ => by omega)⟩ hS2) (fun q => absurd (an_height hC x1 h1 h2) q)
set_option maxHeartbeats 4000000 in
set_option maxRecDepth 100000 in
theorem lc_lifted {p : Program} {l : Launch} {e : Env} {s : State} {mt : MethodId} {below : List Frame} {meth : Method} {c : Code} {Q : State → Prop} {bs Ls : Nat} {xs : Nat → Int32} {D : va_G} {k : Nat → ClassId} {a b : Nat → Nat} (C : LC p s mt meth c bs Ls xs D k a b) {i cN : Nat} (hi : i + 4 ≤ Ls) (hcN : cN < 2 ^ 30) {H : Heap} {locs : List Loc} (hW : LWd D k a b cN H) (hS : va_S (fun q : Nat => s.heap.size ≤ q) s.heap H locs) {ls : Array Slot} (hl : lv_has ls 4 [(0, .ref bs), (1, .ref (a 0)), (2, .ref (b 0)), (3, .int (nI i))]) (next : ∀ (H1 : Heap) (locs1 : List Loc), LWd D k a b (cN + 1) H1 → va_S (fun q : Nat => s.heap.size ≤ q) s.heap H1 locs1 → W p l e room_1 s mt #[Value.ref bs] below meth c H1 locs1 58 4469 Q (F0 mt 628 ls [])) : W p l e room_1 s mt #[Value.ref bs] below meth c H locs 58 4469 Q (F0 mt 477 ls []) := by
  obtain ⟨⟨hx, hb, hr, hml, hown, hts0, hX, hbl, hlocks, hgv⟩, hLs, hK, ha, hbI, hdis, haA, hbA⟩ := C
  have hts : ∀ w ∈ wsL_law, w.before #[Value.ref bs] s = true := fun w h => hts0 w (wsL_law_in w h)
  have hown : s.vm.findClass RL = some mt.cls := hown
  have hbN : ¬ (fun q : Nat => s.heap.size ≤ q) bs := Nat.not_le.mpr hbl
  obtain ⟨n, m, ch, fr, to, w, th, L, la, sw, od, io, oc, fa, on, gr, sr, be, oe, al, pa, bo, rl, ra, mo, hP1, hP2, hC⟩ := hW
  obtain ⟨hg, hw, hla, hoc, -, -, -⟩ := id hC
  obtain ⟨x1, e1⟩ : ∃ y : Int32, xs (i + 1) = y := ⟨_, rfl⟩
  refine lv_aload_n hx hb dL_law_477 rfl (lv_at hl 1 rfl) ?_
  refine sld5 hx hb hX hbl hbN hS 1 hl (by decide) (by omega) hLs e1 dL_law_478 dL_law_479 dL_law_480 dL_law_481 dL_law_482 ?_
  refine cl_Qi (As := [.int x1]) (rest := []) ⟨hx, hb, hml, hown, hts⟩ (c3_lifted l ha x1 hg hla) (cwV 1 hts gL_law_X3_lifted rfl rfl rfl (by decide +kernel) ⟨Nat.le_of_ble_eq_true rfl, Nat.le_of_ble_eq_true rfl⟩) hK hP1 hS haA (ci := 3) (q0 := 0) rfl rfl rfl rfl hl.1 rfl (Nat.le_of_ble_eq_true rfl) dL_law_483 ⟨Nat.le_of_ble_eq_true rfl, Nat.le_of_ble_eq_true rfl⟩ (fun r1 H1 locs1 h1 hP1 hz1 hf1 hS1 => ?_)
  have hP2 := kp mW_addr hP2 hf1 (dis_b hdis)
  refine lv_aload_n hx hb dL_law_486 rfl (lv_at hl 2 rfl) ?_
  refine sld5 hx hb hX hbl hbN hS1 1 hl (by decide) (by omega) hLs e1 dL_law_487 dL_law_488 dL_law_489 dL_law_490 dL_law_491 ?_
  refine cl_Qi (As := [.int x1]) (rest := [.int r1]) ⟨hx, hb, hml, hown, hts⟩ (c4_lifted l hbI x1 hg) (cwV 1 hts gL_law_X4_lifted rfl rfl rfl (by decide +kernel) ⟨Nat.le_of_ble_eq_true rfl, Nat.le_of_ble_eq_true rfl⟩) hK hP2 hS1 hbA (ci := 4) (q0 := 0) rfl rfl rfl rfl hl.1 rfl (Nat.le_of_ble_eq_true rfl) dL_law_492 ⟨Nat.le_of_ble_eq_true rfl, Nat.le_of_ble_eq_true rfl⟩ (fun r2 H2 locs2 h2 hP2 hz2 hf2 hS2 => ?_)
  have hP1 := kp cW_addr hP1 hf2 (dis_a hdis)
  exact lv_icmp_eq (tgt := 628) hx hb dL_law_495 (by decide) (fun _ => next H2 locs2 ⟨_, _, _, _, _, _, _, _, _, _, _, _, _, _, _, _, _, _, _, _, _, _, _, _, _, hP1, hP2, ch_wk hC _ (fun _ => by omega)⟩ hS2) (fun q => absurd (an_lifted hC x1 h1 h2) q)
set_option maxHeartbeats 4000000 in
set_option maxRecDepth 100000 in
theorem lc_spare {p : Program} {l : Launch} {e : Env} {s : State} {mt : MethodId} {below : List Frame} {meth : Method} {c : Code} {Q : State → Prop} {bs Ls : Nat} {xs : Nat → Int32} {D : va_G} {k : Nat → ClassId} {a b : Nat → Nat} (C : LC p s mt meth c bs Ls xs D k a b) {i cN : Nat} (hi : i + 4 ≤ Ls) (hcN : cN < 2 ^ 30) {H : Heap} {locs : List Loc} (hW : LWd D k a b cN H) (hS : va_S (fun q : Nat => s.heap.size ≤ q) s.heap H locs) {ls : Array Slot} (hl : lv_has ls 4 [(0, .ref bs), (1, .ref (a 0)), (2, .ref (b 0)), (3, .int (nI i))]) (next : ∀ (H1 : Heap) (locs1 : List Loc), LWd D k a b (cN + 1) H1 → va_S (fun q : Nat => s.heap.size ≤ q) s.heap H1 locs1 → W p l e room_1 s mt #[Value.ref bs] below meth c H1 locs1 58 4469 Q (F0 mt 628 ls [])) : W p l e room_1 s mt #[Value.ref bs] below meth c H locs 58 4469 Q (F0 mt 500 ls []) := by
  obtain ⟨⟨hx, hb, hr, hml, hown, hts0, hX, hbl, hlocks, hgv⟩, hLs, hK, ha, hbI, hdis, haA, hbA⟩ := C
  have hts : ∀ w ∈ wsL_law, w.before #[Value.ref bs] s = true := fun w h => hts0 w (wsL_law_in w h)
  have hown : s.vm.findClass RL = some mt.cls := hown
  have hbN : ¬ (fun q : Nat => s.heap.size ≤ q) bs := Nat.not_le.mpr hbl
  obtain ⟨n, m, ch, fr, to, w, th, L, la, sw, od, io, oc, fa, on, gr, sr, be, oe, al, pa, bo, rl, ra, mo, hP1, hP2, hC⟩ := hW
  obtain ⟨hg, hw, hla, hoc, -, -, -⟩ := id hC
  obtain ⟨x1, e1⟩ : ∃ y : Int32, xs (i + 1) = y := ⟨_, rfl⟩
  refine lv_aload_n hx hb dL_law_500 rfl (lv_at hl 1 rfl) ?_
  refine sld5 hx hb hX hbl hbN hS 1 hl (by decide) (by omega) hLs e1 dL_law_501 dL_law_502 dL_law_503 dL_law_504 dL_law_505 ?_
  refine cl_Qi (As := [.int x1]) (rest := []) ⟨hx, hb, hml, hown, hts⟩ (c3_spare l ha x1 hg hla) (cwV 1 hts gL_law_X3_spare rfl rfl rfl (by decide +kernel) ⟨Nat.le_of_ble_eq_true rfl, Nat.le_of_ble_eq_true rfl⟩) hK hP1 hS haA (ci := 3) (q0 := 0) rfl rfl rfl rfl hl.1 rfl (Nat.le_of_ble_eq_true rfl) dL_law_506 ⟨Nat.le_of_ble_eq_true rfl, Nat.le_of_ble_eq_true rfl⟩ (fun r1 H1 locs1 h1 hP1 hz1 hf1 hS1 => ?_)
  have hP2 := kp mW_addr hP2 hf1 (dis_b hdis)
  refine lv_aload_n hx hb dL_law_509 rfl (lv_at hl 2 rfl) ?_
  refine sld5 hx hb hX hbl hbN hS1 1 hl (by decide) (by omega) hLs e1 dL_law_510 dL_law_511 dL_law_512 dL_law_513 dL_law_514 ?_
  refine cl_Qi (As := [.int x1]) (rest := [.int r1]) ⟨hx, hb, hml, hown, hts⟩ (c4_spare l hbI x1 hg) (cwV 1 hts gL_law_X4_spare rfl rfl rfl (by decide +kernel) ⟨Nat.le_of_ble_eq_true rfl, Nat.le_of_ble_eq_true rfl⟩) hK hP2 hS1 hbA (ci := 4) (q0 := 0) rfl rfl rfl rfl hl.1 rfl (Nat.le_of_ble_eq_true rfl) dL_law_515 ⟨Nat.le_of_ble_eq_true rfl, Nat.le_of_ble_eq_true rfl⟩ (fun r2 H2 locs2 h2 hP2 hz2 hf2 hS2 => ?_)
  have hP1 := kp cW_addr hP1 hf2 (dis_a hdis)
  exact lv_icmp_eq (tgt := 628) hx hb dL_law_518 (by decide) (fun _ => next H2 locs2 ⟨_, _, _, _, _, _, _, _, _, _, _, _, _, _, _, _, _, _, _, _, _, _, _, _, _, hP1, hP2, ch_wk hC _ (fun _ => by omega)⟩ hS2) (fun q => absurd (an_spare hC x1 h1 h2) q)
