/-! THE LAW: cases order, far, late, whole, critical -/
set_option maxHeartbeats 4000000 in
set_option maxRecDepth 100000 in
theorem lc_order {p : Program} {l : Launch} {e : Env} {s : State} {mt : MethodId} {below : List Frame} {meth : Method} {c : Code} {Q : State → Prop} {bs Ls : Nat} {xs : Nat → Int32} {D : va_G} {k : Nat → ClassId} {a b : Nat → Nat} (C : LC p s mt meth c bs Ls xs D k a b) {i cN : Nat} (hi : i + 4 ≤ Ls) (hcN : cN < 2 ^ 30) {H : Heap} {locs : List Loc} (hW : LWd D k a b cN H) (hS : va_S (fun q : Nat => s.heap.size ≤ q) s.heap H locs) {ls : Array Slot} (hl : lv_has ls 4 [(0, .ref bs), (1, .ref (a 0)), (2, .ref (b 0)), (3, .int (nI i))]) (next : ∀ (H1 : Heap) (locs1 : List Loc), LWd D k a b (cN + 1) H1 → va_S (fun q : Nat => s.heap.size ≤ q) s.heap H1 locs1 → W p l e room_1 s mt #[Value.ref bs] below meth c H1 locs1 58 4469 Q (F0 mt 628 ls [])) : W p l e room_1 s mt #[Value.ref bs] below meth c H locs 58 4469 Q (F0 mt 523 ls []) := by
  obtain ⟨⟨hx, hb, hr, hml, hown, hts0, hX, hbl, hlocks, hgv⟩, hLs, hK, ha, hbI, hdis, haA, hbA⟩ := C
  have hts : ∀ w ∈ wsL_law, w.before #[Value.ref bs] s = true := fun w h => hts0 w (wsL_law_in w h)
  have hown : s.vm.findClass RL = some mt.cls := hown
  have hbN : ¬ (fun q : Nat => s.heap.size ≤ q) bs := Nat.not_le.mpr hbl
  obtain ⟨n, m, ch, fr, to, w, th, L, la, sw, od, io, oc, fa, on, gr, sr, be, oe, al, pa, bo, rl, ra, mo, hP1, hP2, hC⟩ := hW
  obtain ⟨hg, hw, hla, hoc, -, -, -⟩ := id hC
  obtain ⟨x1, e1⟩ : ∃ y : Int32, xs (i + 1) = y := ⟨_, rfl⟩
  refine lv_aload_n hx hb dL_law_523 rfl (lv_at hl 1 rfl) ?_
  refine sld5 hx hb hX hbl hbN hS 1 hl (by decide) (by omega) hLs e1 dL_law_524 dL_law_525 dL_law_526 dL_law_527 dL_law_528 ?_
  refine cl_Qi (As := [.int x1]) (rest := []) ⟨hx, hb, hml, hown, hts⟩ (c3_order l ha x1 hg hoc) (cwV 1 hts gL_law_X3_order rfl rfl rfl (by decide +kernel) ⟨Nat.le_of_ble_eq_true rfl, Nat.le_of_ble_eq_true rfl⟩) hK hP1 hS haA (ci := 3) (q0 := 0) rfl rfl rfl rfl hl.1 rfl (Nat.le_of_ble_eq_true rfl) dL_law_529 ⟨Nat.le_of_ble_eq_true rfl, Nat.le_of_ble_eq_true rfl⟩ (fun r1 H1 locs1 h1 hP1 hz1 hf1 hS1 => ?_)
  have hP2 := kp mW_addr hP2 hf1 (dis_b hdis)
  refine lv_aload_n hx hb dL_law_532 rfl (lv_at hl 2 rfl) ?_
  refine sld5 hx hb hX hbl hbN hS1 1 hl (by decide) (by omega) hLs e1 dL_law_533 dL_law_534 dL_law_535 dL_law_536 dL_law_537 ?_
  refine cl_Qi (As := [.int x1]) (rest := [.int r1]) ⟨hx, hb, hml, hown, hts⟩ (c4_order l hbI x1 hg (hy_order hC)) (cwV 1 hts gL_law_X4_order rfl rfl rfl (by decide +kernel) ⟨Nat.le_of_ble_eq_true rfl, Nat.le_of_ble_eq_true rfl⟩) hK hP2 hS1 hbA (ci := 4) (q0 := 0) rfl rfl rfl rfl hl.1 rfl (Nat.le_of_ble_eq_true rfl) dL_law_538 ⟨Nat.le_of_ble_eq_true rfl, Nat.le_of_ble_eq_true rfl⟩ (fun r2 H2 locs2 h2 hP2 hz2 hf2 hS2 => ?_)
  have hP1 := kp cW_addr hP1 hf2 (dis_a hdis)
  exact lv_icmp_eq (tgt := 628) hx hb dL_law_541 (by decide) (fun _ => next H2 locs2 ⟨_, _, _, _, _, _, _, _, _, _, _, _, _, _, _, _, _, _, _, _, _, _, _, _, _, hP1, hP2, (CI_rv hC).1⟩ hS2) (fun q => absurd (an_order hC x1 h1 h2) q)
set_option maxHeartbeats 4000000 in
set_option maxRecDepth 100000 in
theorem lc_far {p : Program} {l : Launch} {e : Env} {s : State} {mt : MethodId} {below : List Frame} {meth : Method} {c : Code} {Q : State → Prop} {bs Ls : Nat} {xs : Nat → Int32} {D : va_G} {k : Nat → ClassId} {a b : Nat → Nat} (C : LC p s mt meth c bs Ls xs D k a b) {i cN : Nat} (hi : i + 4 ≤ Ls) (hcN : cN < 2 ^ 30) {H : Heap} {locs : List Loc} (hW : LWd D k a b cN H) (hS : va_S (fun q : Nat => s.heap.size ≤ q) s.heap H locs) {ls : Array Slot} (hl : lv_has ls 4 [(0, .ref bs), (1, .ref (a 0)), (2, .ref (b 0)), (3, .int (nI i))]) (next : ∀ (H1 : Heap) (locs1 : List Loc), LWd D k a b (cN + 1) H1 → va_S (fun q : Nat => s.heap.size ≤ q) s.heap H1 locs1 → W p l e room_1 s mt #[Value.ref bs] below meth c H1 locs1 58 4469 Q (F0 mt 628 ls [])) : W p l e room_1 s mt #[Value.ref bs] below meth c H locs 58 4469 Q (F0 mt 546 ls []) := by
  obtain ⟨⟨hx, hb, hr, hml, hown, hts0, hX, hbl, hlocks, hgv⟩, hLs, hK, ha, hbI, hdis, haA, hbA⟩ := C
  have hts : ∀ w ∈ wsL_law, w.before #[Value.ref bs] s = true := fun w h => hts0 w (wsL_law_in w h)
  have hown : s.vm.findClass RL = some mt.cls := hown
  have hbN : ¬ (fun q : Nat => s.heap.size ≤ q) bs := Nat.not_le.mpr hbl
  obtain ⟨n, m, ch, fr, to, w, th, L, la, sw, od, io, oc, fa, on, gr, sr, be, oe, al, pa, bo, rl, ra, mo, hP1, hP2, hC⟩ := hW
  obtain ⟨hg, hw, hla, hoc, -, -, -⟩ := id hC
  obtain ⟨x1, e1⟩ : ∃ y : Int32, xs (i + 1) = y := ⟨_, rfl⟩
  refine lv_aload_n hx hb dL_law_546 rfl (lv_at hl 1 rfl) ?_
  refine sld5 hx hb hX hbl hbN hS 1 hl (by decide) (by omega) hLs e1 dL_law_547 dL_law_548 dL_law_549 dL_law_550 dL_law_551 ?_
  refine cl_Qi (As := [.int x1]) (rest := []) ⟨hx, hb, hml, hown, hts⟩ (c3_far l ha x1 hg hoc) (cwV 1 hts gL_law_X3_far rfl rfl rfl (by decide +kernel) ⟨Nat.le_of_ble_eq_true rfl, Nat.le_of_ble_eq_true rfl⟩) hK hP1 hS haA (ci := 3) (q0 := 0) rfl rfl rfl rfl hl.1 rfl (Nat.le_of_ble_eq_true rfl) dL_law_552 ⟨Nat.le_of_ble_eq_true rfl, Nat.le_of_ble_eq_true rfl⟩ (fun r1 H1 locs1 h1 hP1 hz1 hf1 hS1 => ?_)
  have hP2 := kp mW_addr hP2 hf1 (dis_b hdis)
  refine lv_aload_n hx hb dL_law_555 rfl (lv_at hl 2 rfl) ?_
  refine sld5 hx hb hX hbl hbN hS1 1 hl (by decide) (by omega) hLs e1 dL_law_556 dL_law_557 dL_law_558 dL_law_559 dL_law_560 ?_
  refine cl_Qi (As := [.int x1]) (rest := [.int r1]) ⟨hx, hb, hml, hown, hts⟩ (c4_far l hbI x1 hg) (cwV 1 hts gL_law_X4_far rfl rfl rfl (by decide +kernel) ⟨Nat.le_of_ble_eq_true rfl, Nat.le_of_ble_eq_true rfl⟩) hK hP2 hS1 hbA (ci := 4) (q0 := 0) rfl rfl rfl rfl hl.1 rfl (Nat.le_of_ble_eq_true rfl) dL_law_561 ⟨Nat.le_of_ble_eq_true rfl, Nat.le_of_ble_eq_true rfl⟩ (fun r2 H2 locs2 h2 hP2 hz2 hf2 hS2 => ?_)
  have hP1 := kp cW_addr hP1 hf2 (dis_a hdis)
  exact lv_icmp_eq (tgt := 628) hx hb dL_law_564 (by decide) (fun _ => next H2 locs2 ⟨_, _, _, _, _, _, _, _, _, _, _, _, _, _, _, _, _, _, _, _, _, _, _, _, _, hP1, hP2, ch_rv hC _⟩ hS2) (fun q => absurd (an_far hC x1 h1 h2) q)
set_option maxHeartbeats 4000000 in
set_option maxRecDepth 100000 in
theorem lc_late {p : Program} {l : Launch} {e : Env} {s : State} {mt : MethodId} {below : List Frame} {meth : Method} {c : Code} {Q : State → Prop} {bs Ls : Nat} {xs : Nat → Int32} {D : va_G} {k : Nat → ClassId} {a b : Nat → Nat} (C : LC p s mt meth c bs Ls xs D k a b) {i cN : Nat} (hi : i + 4 ≤ Ls) (hcN : cN < 2 ^ 30) {H : Heap} {locs : List Loc} (hW : LWd D k a b cN H) (hS : va_S (fun q : Nat => s.heap.size ≤ q) s.heap H locs) {ls : Array Slot} (hl : lv_has ls 4 [(0, .ref bs), (1, .ref (a 0)), (2, .ref (b 0)), (3, .int (nI i))]) (next : ∀ (H1 : Heap) (locs1 : List Loc), LWd D k a b (cN + 1) H1 → va_S (fun q : Nat => s.heap.size ≤ q) s.heap H1 locs1 → W p l e room_1 s mt #[Value.ref bs] below meth c H1 locs1 58 4469 Q (F0 mt 628 ls [])) : W p l e room_1 s mt #[Value.ref bs] below meth c H locs 58 4469 Q (F0 mt 569 ls []) := by
  obtain ⟨⟨hx, hb, hr, hml, hown, hts0, hX, hbl, hlocks, hgv⟩, hLs, hK, ha, hbI, hdis, haA, hbA⟩ := C
  have hts : ∀ w ∈ wsL_law, w.before #[Value.ref bs] s = true := fun w h => hts0 w (wsL_law_in w h)
  have hown : s.vm.findClass RL = some mt.cls := hown
  have hbN : ¬ (fun q : Nat => s.heap.size ≤ q) bs := Nat.not_le.mpr hbl
  obtain ⟨n, m, ch, fr, to, w, th, L, la, sw, od, io, oc, fa, on, gr, sr, be, oe, al, pa, bo, rl, ra, mo, hP1, hP2, hC⟩ := hW
  obtain ⟨hg, hw, hla, hoc, -, -, -⟩ := id hC
  obtain ⟨x1, e1⟩ : ∃ y : Int32, xs (i + 1) = y := ⟨_, rfl⟩
  refine lv_aload_n hx hb dL_law_569 rfl (lv_at hl 1 rfl) ?_
  refine sld5 hx hb hX hbl hbN hS 1 hl (by decide) (by omega) hLs e1 dL_law_570 dL_law_571 dL_law_572 dL_law_573 dL_law_574 ?_
  refine cl_Qi (As := [.int x1]) (rest := []) ⟨hx, hb, hml, hown, hts⟩ (c3_late l ha x1 hg hoc) (cwV 1 hts gL_law_X3_late rfl rfl rfl (by decide +kernel) ⟨Nat.le_of_ble_eq_true rfl, Nat.le_of_ble_eq_true rfl⟩) hK hP1 hS haA (ci := 3) (q0 := 0) rfl rfl rfl rfl hl.1 rfl (Nat.le_of_ble_eq_true rfl) dL_law_575 ⟨Nat.le_of_ble_eq_true rfl, Nat.le_of_ble_eq_true rfl⟩ (fun r1 H1 locs1 h1 hP1 hz1 hf1 hS1 => ?_)
  have hP2 := kp mW_addr hP2 hf1 (dis_b hdis)
  refine lv_aload_n hx hb dL_law_578 rfl (lv_at hl 2 rfl) ?_
  refine sld5 hx hb hX hbl hbN hS1 1 hl (by decide) (by omega) hLs e1 dL_law_579 dL_law_580 dL_law_581 dL_law_582 dL_law_583 ?_
  refine cl_Qi (As := [.int x1]) (rest := [.int r1]) ⟨hx, hb, hml, hown, hts⟩ (c4_late l hbI x1 hg) (cwV 1 hts gL_law_X4_late rfl rfl rfl (by decide +kernel) ⟨Nat.le_of_ble_eq_true rfl, Nat.le_of_ble_eq_true rfl⟩) hK hP2 hS1 hbA (ci := 4) (q0 := 0) rfl rfl rfl rfl hl.1 rfl (Nat.le_of_ble_eq_true rfl) dL_law_584 ⟨Nat.le_of_ble_eq_true rfl, Nat.le_of_ble_eq_true rfl⟩ (fun r2 H2 locs2 h2 hP2 hz2 hf2 hS2 => ?_)
  have hP1 := kp cW_addr hP1 hf2 (dis_a hdis)
  exact lv_icmp_eq (tgt := 628) hx hb dL_law_587 (by decide) (fun _ => next H2 locs2 ⟨_, _, _, _, _, _, _, _, _, _, _, _, _, _, _, _, _, _, _, _, _, _, _, _, _, hP1, hP2, ch_rv hC _⟩ hS2) (fun q => absurd (an_late hC x1 h1 h2) q)
set_option maxHeartbeats 4000000 in
set_option maxRecDepth 100000 in
theorem lc_whole {p : Program} {l : Launch} {e : Env} {s : State} {mt : MethodId} {below : List Frame} {meth : Method} {c : Code} {Q : State → Prop} {bs Ls : Nat} {xs : Nat → Int32} {D : va_G} {k : Nat → ClassId} {a b : Nat → Nat} (C : LC p s mt meth c bs Ls xs D k a b) {i cN : Nat} (hi : i + 4 ≤ Ls) (hcN : cN < 2 ^ 30) {H : Heap} {locs : List Loc} (hW : LWd D k a b cN H) (hS : va_S (fun q : Nat => s.heap.size ≤ q) s.heap H locs) {ls : Array Slot} (hl : lv_has ls 4 [(0, .ref bs), (1, .ref (a 0)), (2, .ref (b 0)), (3, .int (nI i))]) (next : ∀ (H1 : Heap) (locs1 : List Loc), LWd D k a b (cN + 1) H1 → va_S (fun q : Nat => s.heap.size ≤ q) s.heap H1 locs1 → W p l e room_1 s mt #[Value.ref bs] below meth c H1 locs1 58 4469 Q (F0 mt 628 ls [])) : W p l e room_1 s mt #[Value.ref bs] below meth c H locs 58 4469 Q (F0 mt 592 ls []) := by
  obtain ⟨⟨hx, hb, hr, hml, hown, hts0, hX, hbl, hlocks, hgv⟩, hLs, hK, ha, hbI, hdis, haA, hbA⟩ := C
  have hts : ∀ w ∈ wsL_law, w.before #[Value.ref bs] s = true := fun w h => hts0 w (wsL_law_in w h)
  have hown : s.vm.findClass RL = some mt.cls := hown
  have hbN : ¬ (fun q : Nat => s.heap.size ≤ q) bs := Nat.not_le.mpr hbl
  obtain ⟨n, m, ch, fr, to, w, th, L, la, sw, od, io, oc, fa, on, gr, sr, be, oe, al, pa, bo, rl, ra, mo, hP1, hP2, hC⟩ := hW
  obtain ⟨hg, hw, hla, hoc, -, -, -⟩ := id hC
  refine lv_aload_n hx hb dL_law_592 rfl (lv_at hl 1 rfl) ?_
  refine cl_Qi (As := []) (rest := []) ⟨hx, hb, hml, hown, hts⟩ (c3_whole l ha  hg hoc) (cwV 0 hts gL_law_X3_whole rfl rfl rfl (by decide +kernel) ⟨Nat.le_of_ble_eq_true rfl, Nat.le_of_ble_eq_true rfl⟩) hK hP1 hS haA (ci := 3) (q0 := 0) rfl rfl rfl rfl hl.1 rfl (Nat.le_of_ble_eq_true rfl) dL_law_593 ⟨Nat.le_of_ble_eq_true rfl, Nat.le_of_ble_eq_true rfl⟩ (fun r1 H1 locs1 h1 hP1 hz1 hf1 hS1 => ?_)
  have hP2 := kp mW_addr hP2 hf1 (dis_b hdis)
  refine lv_aload_n hx hb dL_law_596 rfl (lv_at hl 2 rfl) ?_
  refine cl_Qi (As := []) (rest := [.int r1]) ⟨hx, hb, hml, hown, hts⟩ (c4_whole l hbI  hg) (cwV 0 hts gL_law_X4_whole rfl rfl rfl (by decide +kernel) ⟨Nat.le_of_ble_eq_true rfl, Nat.le_of_ble_eq_true rfl⟩) hK hP2 hS1 hbA (ci := 4) (q0 := 0) rfl rfl rfl rfl hl.1 rfl (Nat.le_of_ble_eq_true rfl) dL_law_597 ⟨Nat.le_of_ble_eq_true rfl, Nat.le_of_ble_eq_true rfl⟩ (fun r2 H2 locs2 h2 hP2 hz2 hf2 hS2 => ?_)
  have hP1 := kp cW_addr hP1 hf2 (dis_a hdis)
  exact lv_icmp_eq (tgt := 628) hx hb dL_law_600 (by decide) (fun _ => next H2 locs2 ⟨_, _, _, _, _, _, _, _, _, _, _, _, _, _, _, _, _, _, _, _, _, _, _, _, _, hP1, hP2, (CI_rv hC).1⟩ hS2) (fun q => absurd (an_whole hC h1 h2) q)
set_option maxHeartbeats 4000000 in
set_option maxRecDepth 100000 in
theorem lc_critical {p : Program} {l : Launch} {e : Env} {s : State} {mt : MethodId} {below : List Frame} {meth : Method} {c : Code} {Q : State → Prop} {bs Ls : Nat} {xs : Nat → Int32} {D : va_G} {k : Nat → ClassId} {a b : Nat → Nat} (C : LC p s mt meth c bs Ls xs D k a b) {i cN : Nat} (hi : i + 4 ≤ Ls) (hcN : cN < 2 ^ 30) {H : Heap} {locs : List Loc} (hW : LWd D k a b cN H) (hS : va_S (fun q : Nat => s.heap.size ≤ q) s.heap H locs) {ls : Array Slot} (hl : lv_has ls 4 [(0, .ref bs), (1, .ref (a 0)), (2, .ref (b 0)), (3, .int (nI i))]) (next : ∀ (H1 : Heap) (locs1 : List Loc), LWd D k a b (cN + 1) H1 → va_S (fun q : Nat => s.heap.size ≤ q) s.heap H1 locs1 → W p l e room_1 s mt #[Value.ref bs] below meth c H1 locs1 58 4469 Q (F0 mt 628 ls [])) : W p l e room_1 s mt #[Value.ref bs] below meth c H locs 58 4469 Q (F0 mt 605 ls []) := by
  obtain ⟨⟨hx, hb, hr, hml, hown, hts0, hX, hbl, hlocks, hgv⟩, hLs, hK, ha, hbI, hdis, haA, hbA⟩ := C
  have hts : ∀ w ∈ wsL_law, w.before #[Value.ref bs] s = true := fun w h => hts0 w (wsL_law_in w h)
  have hown : s.vm.findClass RL = some mt.cls := hown
  have hbN : ¬ (fun q : Nat => s.heap.size ≤ q) bs := Nat.not_le.mpr hbl
  obtain ⟨n, m, ch, fr, to, w, th, L, la, sw, od, io, oc, fa, on, gr, sr, be, oe, al, pa, bo, rl, ra, mo, hP1, hP2, hC⟩ := hW
  obtain ⟨hg, hw, hla, hoc, -, -, -⟩ := id hC
  obtain ⟨x1, e1⟩ : ∃ y : Int32, xs (i + 1) = y := ⟨_, rfl⟩
  refine lv_aload_n hx hb dL_law_605 rfl (lv_at hl 1 rfl) ?_
  refine sld5 hx hb hX hbl hbN hS 1 hl (by decide) (by omega) hLs e1 dL_law_606 dL_law_607 dL_law_608 dL_law_609 dL_law_610 ?_
  refine cl_Qi (As := [.int x1]) (rest := []) ⟨hx, hb, hml, hown, hts⟩ (c3_critical l ha x1 hg hoc) (cwV 1 hts gL_law_X3_critical rfl rfl rfl (by decide +kernel) ⟨Nat.le_of_ble_eq_true rfl, Nat.le_of_ble_eq_true rfl⟩) hK hP1 hS haA (ci := 3) (q0 := 0) rfl rfl rfl rfl hl.1 rfl (Nat.le_of_ble_eq_true rfl) dL_law_611 ⟨Nat.le_of_ble_eq_true rfl, Nat.le_of_ble_eq_true rfl⟩ (fun r1 H1 locs1 h1 hP1 hz1 hf1 hS1 => ?_)
  have hP2 := kp mW_addr hP2 hf1 (dis_b hdis)
  refine lv_aload_n hx hb dL_law_614 rfl (lv_at hl 2 rfl) ?_
  refine sld5 hx hb hX hbl hbN hS1 1 hl (by decide) (by omega) hLs e1 dL_law_615 dL_law_616 dL_law_617 dL_law_618 dL_law_619 ?_
  refine cl_Qi (As := [.int x1]) (rest := [.int r1]) ⟨hx, hb, hml, hown, hts⟩ (c4_critical l hbI x1 hg (hy_crit hC)) (cwV 1 hts gL_law_X4_critical rfl rfl rfl (by decide +kernel) ⟨Nat.le_of_ble_eq_true rfl, Nat.le_of_ble_eq_true rfl⟩) hK hP2 hS1 hbA (ci := 4) (q0 := 0) rfl rfl rfl rfl hl.1 rfl (Nat.le_of_ble_eq_true rfl) dL_law_620 ⟨Nat.le_of_ble_eq_true rfl, Nat.le_of_ble_eq_true rfl⟩ (fun r2 H2 locs2 h2 hP2 hz2 hf2 hS2 => ?_)
  have hP1 := kp cW_addr hP1 hf2 (dis_a hdis)
  exact lv_icmp_eq (tgt := 628) hx hb dL_law_623 (by decide) (fun _ => next H2 locs2 ⟨_, _, _, _, _, _, _, _, _, _, _, _, _, _, _, _, _, _, _, _, _, _, _, _, _, hP1, hP2, (CI_rv hC).1⟩ hS2) (fun q => absurd (an_critical hC x1 h1 h2) q)
