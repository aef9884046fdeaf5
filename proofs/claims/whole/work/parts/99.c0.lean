/-! THE LAW: cases node, arc, weight, turn, clear -/
set_option maxHeartbeats 4000000 in
set_option maxRecDepth 100000 in
theorem lc_node {p : Program} {l : Launch} {e : Env} {s : State} {mt : MethodId} {below : List Frame} {meth : Method} {c : Code} {Q : State → Prop} {bs Ls : Nat} {xs : Nat → Int32} {D : va_G} {k : Nat → ClassId} {a b : Nat → Nat} (C : LC p s mt meth c bs Ls xs D k a b) {i cN : Nat} (hi : i + 4 ≤ Ls) (hcN : cN < 2 ^ 30) {H : Heap} {locs : List Loc} (hW : LWd D k a b cN H) (hS : va_S (fun q : Nat => s.heap.size ≤ q) s.heap H locs) {ls : Array Slot} (hl : lv_has ls 4 [(0, .ref bs), (1, .ref (a 0)), (2, .ref (b 0)), (3, .int (nI i))]) (next : ∀ (H1 : Heap) (locs1 : List Loc), LWd D k a b (cN + 1) H1 → va_S (fun q : Nat => s.heap.size ≤ q) s.heap H1 locs1 → W p l e room_1 s mt #[Value.ref bs] below meth c H1 locs1 58 4469 Q (F0 mt 628 ls [])) : W p l e room_1 s mt #[Value.ref bs] below meth c H locs 58 4469 Q (F0 mt 128 ls []) := by
  obtain ⟨⟨hx, hb, hr, hml, hown, hts0, hX, hbl, hlocks, hgv⟩, hLs, hK, ha, hbI, hdis, haA, hbA⟩ := C
  have hts : ∀ w ∈ wsL_law, w.before #[Value.ref bs] s = true := fun w h => hts0 w (wsL_law_in w h)
  have hown : s.vm.findClass RL = some mt.cls := hown
  have hbN : ¬ (fun q : Nat => s.heap.size ≤ q) bs := Nat.not_le.mpr hbl
  obtain ⟨n, m, ch, fr, to, w, th, L, la, sw, od, io, oc, fa, on, gr, sr, be, oe, al, pa, bo, rl, ra, mo, hP1, hP2, hC⟩ := hW
  obtain ⟨hg, hw, hla, hoc, -, -, -⟩ := id hC
  refine lv_aload_n hx hb dL_law_128 rfl (lv_at hl 1 rfl) ?_
  refine cl_Qi (As := []) (rest := []) ⟨hx, hb, hml, hown, hts⟩ (c3_node l ha  (by have := hg.1; omega)) (cwV 0 hts gL_law_X3_node rfl rfl rfl (by decide +kernel) ⟨Nat.le_of_ble_eq_true rfl, Nat.le_of_ble_eq_true rfl⟩) hK hP1 hS haA (ci := 3) (q0 := 0) rfl rfl rfl rfl hl.1 rfl (Nat.le_of_ble_eq_true rfl) dL_law_129 ⟨Nat.le_of_ble_eq_true rfl, Nat.le_of_ble_eq_true rfl⟩ (fun r1 H1 locs1 h1 hP1 hz1 hf1 hS1 => ?_)
  have hP2 := kp mW_addr hP2 hf1 (dis_b hdis)
  refine lv_aload_n hx hb dL_law_132 rfl (lv_at hl 2 rfl) ?_
  refine cl_Qi (As := []) (rest := [.int r1]) ⟨hx, hb, hml, hown, hts⟩ (c4_node l hbI  (by have := hg.1; omega)) (cwV 0 hts gL_law_X4_node rfl rfl rfl (by decide +kernel) ⟨Nat.le_of_ble_eq_true rfl, Nat.le_of_ble_eq_true rfl⟩) hK hP2 hS1 hbA (ci := 4) (q0 := 0) rfl rfl rfl rfl hl.1 rfl (Nat.le_of_ble_eq_true rfl) dL_law_133 ⟨Nat.le_of_ble_eq_true rfl, Nat.le_of_ble_eq_true rfl⟩ (fun r2 H2 locs2 h2 hP2 hz2 hf2 hS2 => ?_)
  have hP1 := kp cW_addr hP1 hf2 (dis_a hdis)
  exact lv_icmp_eq (tgt := 628) hx hb dL_law_136 (by decide) (fun _ => next H2 locs2 ⟨_, _, _, _, _, _, _, _, _, _, _, _, _, _, _, _, _, _, _, _, _, _, _, _, _, hP1, hP2, ch_node hC hcN⟩ hS2) (fun q => absurd (h1.trans h2.symm) q)
set_option maxHeartbeats 4000000 in
set_option maxRecDepth 100000 in
theorem lc_arc {p : Program} {l : Launch} {e : Env} {s : State} {mt : MethodId} {below : List Frame} {meth : Method} {c : Code} {Q : State → Prop} {bs Ls : Nat} {xs : Nat → Int32} {D : va_G} {k : Nat → ClassId} {a b : Nat → Nat} (C : LC p s mt meth c bs Ls xs D k a b) {i cN : Nat} (hi : i + 4 ≤ Ls) (hcN : cN < 2 ^ 30) {H : Heap} {locs : List Loc} (hW : LWd D k a b cN H) (hS : va_S (fun q : Nat => s.heap.size ≤ q) s.heap H locs) {ls : Array Slot} (hl : lv_has ls 4 [(0, .ref bs), (1, .ref (a 0)), (2, .ref (b 0)), (3, .int (nI i))]) (next : ∀ (H1 : Heap) (locs1 : List Loc), LWd D k a b (cN + 1) H1 → va_S (fun q : Nat => s.heap.size ≤ q) s.heap H1 locs1 → W p l e room_1 s mt #[Value.ref bs] below meth c H1 locs1 58 4469 Q (F0 mt 628 ls [])) : W p l e room_1 s mt #[Value.ref bs] below meth c H locs 58 4469 Q (F0 mt 141 ls []) := by
  obtain ⟨⟨hx, hb, hr, hml, hown, hts0, hX, hbl, hlocks, hgv⟩, hLs, hK, ha, hbI, hdis, haA, hbA⟩ := C
  have hts : ∀ w ∈ wsL_law, w.before #[Value.ref bs] s = true := fun w h => hts0 w (wsL_law_in w h)
  have hown : s.vm.findClass RL = some mt.cls := hown
  have hbN : ¬ (fun q : Nat => s.heap.size ≤ q) bs := Nat.not_le.mpr hbl
  obtain ⟨n, m, ch, fr, to, w, th, L, la, sw, od, io, oc, fa, on, gr, sr, be, oe, al, pa, bo, rl, ra, mo, hP1, hP2, hC⟩ := hW
  obtain ⟨hg, hw, hla, hoc, -, -, -⟩ := id hC
  obtain ⟨x1, e1⟩ : ∃ y : Int32, xs (i + 1) = y := ⟨_, rfl⟩
  obtain ⟨x2, e2⟩ : ∃ y : Int32, xs (i + 2) = y := ⟨_, rfl⟩
  obtain ⟨x3, e3⟩ : ∃ y : Int32, xs (i + 3) = y := ⟨_, rfl⟩
  refine lv_aload_n hx hb dL_law_141 rfl (lv_at hl 1 rfl) ?_
  refine sld5 hx hb hX hbl hbN hS 1 hl (by decide) (by omega) hLs e1 dL_law_142 dL_law_143 dL_law_144 dL_law_145 dL_law_146 ?_
  refine sld5 hx hb hX hbl hbN hS 2 hl (by decide) (by omega) hLs e2 dL_law_147 dL_law_148 dL_law_149 dL_law_150 dL_law_151 ?_
  refine sld5 hx hb hX hbl hbN hS 3 hl (by decide) (by omega) hLs e3 dL_law_152 dL_law_153 dL_law_154 dL_law_155 dL_law_156 ?_
  refine cl_Qi (As := [.int x1, .int x2, .int x3]) (rest := []) ⟨hx, hb, hml, hown, hts⟩ (c3_arc l ha x1 x2 x3 hg) (cwV 3 hts gL_law_X3_arc rfl rfl rfl (by decide +kernel) ⟨Nat.le_of_ble_eq_true rfl, Nat.le_of_ble_eq_true rfl⟩) hK hP1 hS haA (ci := 3) (q0 := 0) rfl rfl rfl rfl hl.1 rfl (Nat.le_of_ble_eq_true rfl) dL_law_157 ⟨Nat.le_of_ble_eq_true rfl, Nat.le_of_ble_eq_true rfl⟩ (fun r1 H1 locs1 h1 hP1 hz1 hf1 hS1 => ?_)
  have hP2 := kp mW_addr hP2 hf1 (dis_b hdis)
  refine lv_aload_n hx hb dL_law_160 rfl (lv_at hl 2 rfl) ?_
  refine sld5 hx hb hX hbl hbN hS1 1 hl (by decide) (by omega) hLs e1 dL_law_161 dL_law_162 dL_law_163 dL_law_164 dL_law_165 ?_
  refine sld5 hx hb hX hbl hbN hS1 2 hl (by decide) (by omega) hLs e2 dL_law_166 dL_law_167 dL_law_168 dL_law_169 dL_law_170 ?_
  refine sld5 hx hb hX hbl hbN hS1 3 hl (by decide) (by omega) hLs e3 dL_law_171 dL_law_172 dL_law_173 dL_law_174 dL_law_175 ?_
  refine cl_Qi (As := [.int x1, .int x2, .int x3]) (rest := [.int r1]) ⟨hx, hb, hml, hown, hts⟩ (c4_arc l hbI x1 x2 x3 hg) (cwV 3 hts gL_law_X4_arc rfl rfl rfl (by decide +kernel) ⟨Nat.le_of_ble_eq_true rfl, Nat.le_of_ble_eq_true rfl⟩) hK hP2 hS1 hbA (ci := 4) (q0 := 0) rfl rfl rfl rfl hl.1 rfl (Nat.le_of_ble_eq_true rfl) dL_law_176 ⟨Nat.le_of_ble_eq_true rfl, Nat.le_of_ble_eq_true rfl⟩ (fun r2 H2 locs2 h2 hP2 hz2 hf2 hS2 => ?_)
  have hP1 := kp cW_addr hP1 hf2 (dis_a hdis)
  exact lv_icmp_eq (tgt := 628) hx hb dL_law_179 (by decide) (fun _ => next H2 locs2 ⟨_, _, _, _, _, _, _, _, _, _, _, _, _, _, _, _, _, _, _, _, _, _, _, _, _, hP1, hP2, ch_arc hC hcN x1 x2 x3⟩ hS2) (fun q => absurd (h1.trans h2.symm) q)
set_option maxHeartbeats 4000000 in
set_option maxRecDepth 100000 in
theorem lc_weight {p : Program} {l : Launch} {e : Env} {s : State} {mt : MethodId} {below : List Frame} {meth : Method} {c : Code} {Q : State → Prop} {bs Ls : Nat} {xs : Nat → Int32} {D : va_G} {k : Nat → ClassId} {a b : Nat → Nat} (C : LC p s mt meth c bs Ls xs D k a b) {i cN : Nat} (hi : i + 4 ≤ Ls) (hcN : cN < 2 ^ 30) {H : Heap} {locs : List Loc} (hW : LWd D k a b cN H) (hS : va_S (fun q : Nat => s.heap.size ≤ q) s.heap H locs) {ls : Array Slot} (hl : lv_has ls 4 [(0, .ref bs), (1, .ref (a 0)), (2, .ref (b 0)), (3, .int (nI i))]) (next : ∀ (H1 : Heap) (locs1 : List Loc), LWd D k a b (cN + 1) H1 → va_S (fun q : Nat => s.heap.size ≤ q) s.heap H1 locs1 → W p l e room_1 s mt #[Value.ref bs] below meth c H1 locs1 58 4469 Q (F0 mt 628 ls [])) : W p l e room_1 s mt #[Value.ref bs] below meth c H locs 58 4469 Q (F0 mt 184 ls []) := by
  obtain ⟨⟨hx, hb, hr, hml, hown, hts0, hX, hbl, hlocks, hgv⟩, hLs, hK, ha, hbI, hdis, haA, hbA⟩ := C
  have hts : ∀ w ∈ wsL_law, w.before #[Value.ref bs] s = true := fun w h => hts0 w (wsL_law_in w h)
  have hown : s.vm.findClass RL = some mt.cls := hown
  have hbN : ¬ (fun q : Nat => s.heap.size ≤ q) bs := Nat.not_le.mpr hbl
  obtain ⟨n, m, ch, fr, to, w, th, L, la, sw, od, io, oc, fa, on, gr, sr, be, oe, al, pa, bo, rl, ra, mo, hP1, hP2, hC⟩ := hW
  obtain ⟨hg, hw, hla, hoc, -, -, -⟩ := id hC
  obtain ⟨x1, e1⟩ : ∃ y : Int32, xs (i + 1) = y := ⟨_, rfl⟩
  obtain ⟨x2, e2⟩ : ∃ y : Int32, xs (i + 2) = y := ⟨_, rfl⟩
  refine lv_aload_n hx hb dL_law_184 rfl (lv_at hl 1 rfl) ?_
  refine sld5 hx hb hX hbl hbN hS 1 hl (by decide) (by omega) hLs e1 dL_law_185 dL_law_186 dL_law_187 dL_law_188 dL_law_189 ?_
  refine sld5 hx hb hX hbl hbN hS 2 hl (by decide) (by omega) hLs e2 dL_law_190 dL_law_191 dL_law_192 dL_law_193 dL_law_194 ?_
  refine cl_Qi (As := [.int x1, .int x2]) (rest := []) ⟨hx, hb, hml, hown, hts⟩ (c3_weight l ha x1 x2 hg) (cwV 2 hts gL_law_X3_weight rfl rfl rfl (by decide +kernel) ⟨Nat.le_of_ble_eq_true rfl, Nat.le_of_ble_eq_true rfl⟩) hK hP1 hS haA (ci := 3) (q0 := 0) rfl rfl rfl rfl hl.1 rfl (Nat.le_of_ble_eq_true rfl) dL_law_195 ⟨Nat.le_of_ble_eq_true rfl, Nat.le_of_ble_eq_true rfl⟩ (fun r1 H1 locs1 h1 hP1 hz1 hf1 hS1 => ?_)
  have hP2 := kp mW_addr hP2 hf1 (dis_b hdis)
  refine lv_aload_n hx hb dL_law_198 rfl (lv_at hl 2 rfl) ?_
  refine sld5 hx hb hX hbl hbN hS1 1 hl (by decide) (by omega) hLs e1 dL_law_199 dL_law_200 dL_law_201 dL_law_202 dL_law_203 ?_
  refine sld5 hx hb hX hbl hbN hS1 2 hl (by decide) (by omega) hLs e2 dL_law_204 dL_law_205 dL_law_206 dL_law_207 dL_law_208 ?_
  refine cl_Qi (As := [.int x1, .int x2]) (rest := [.int r1]) ⟨hx, hb, hml, hown, hts⟩ (c4_weight l hbI x1 x2 hg) (cwV 2 hts gL_law_X4_weight rfl rfl rfl (by decide +kernel) ⟨Nat.le_of_ble_eq_true rfl, Nat.le_of_ble_eq_true rfl⟩) hK hP2 hS1 hbA (ci := 4) (q0 := 0) rfl rfl rfl rfl hl.1 rfl (Nat.le_of_ble_eq_true rfl) dL_law_209 ⟨Nat.le_of_ble_eq_true rfl, Nat.le_of_ble_eq_true rfl⟩ (fun r2 H2 locs2 h2 hP2 hz2 hf2 hS2 => ?_)
  have hP1 := kp cW_addr hP1 hf2 (dis_a hdis)
  exact lv_icmp_eq (tgt := 628) hx hb dL_law_212 (by decide) (fun _ => next H2 locs2 ⟨_, _, _, _, _, _, _, _, _, _, _, _, _, _, _, _, _, _, _, _, _, _, _, _, _, hP1, hP2, ch_weight hC hcN x1 x2⟩ hS2) (fun q => absurd (h1.trans h2.symm) q)
set_option maxHeartbeats 4000000 in
set_option maxRecDepth 100000 in
theorem lc_turn {p : Program} {l : Launch} {e : Env} {s : State} {mt : MethodId} {below : List Frame} {meth : Method} {c : Code} {Q : State → Prop} {bs Ls : Nat} {xs : Nat → Int32} {D : va_G} {k : Nat → ClassId} {a b : Nat → Nat} (C : LC p s mt meth c bs Ls xs D k a b) {i cN : Nat} (hi : i + 4 ≤ Ls) (hcN : cN < 2 ^ 30) {H : Heap} {locs : List Loc} (hW : LWd D k a b cN H) (hS : va_S (fun q : Nat => s.heap.size ≤ q) s.heap H locs) {ls : Array Slot} (hl : lv_has ls 4 [(0, .ref bs), (1, .ref (a 0)), (2, .ref (b 0)), (3, .int (nI i))]) (next : ∀ (H1 : Heap) (locs1 : List Loc), LWd D k a b (cN + 1) H1 → va_S (fun q : Nat => s.heap.size ≤ q) s.heap H1 locs1 → W p l e room_1 s mt #[Value.ref bs] below meth c H1 locs1 58 4469 Q (F0 mt 628 ls [])) : W p l e room_1 s mt #[Value.ref bs] below meth c H locs 58 4469 Q (F0 mt 217 ls []) := by
  obtain ⟨⟨hx, hb, hr, hml, hown, hts0, hX, hbl, hlocks, hgv⟩, hLs, hK, ha, hbI, hdis, haA, hbA⟩ := C
  have hts : ∀ w ∈ wsL_law, w.before #[Value.ref bs] s = true := fun w h => hts0 w (wsL_law_in w h)
  have hown : s.vm.findClass RL = some mt.cls := hown
  have hbN : ¬ (fun q : Nat => s.heap.size ≤ q) bs := Nat.not_le.mpr hbl
  obtain ⟨n, m, ch, fr, to, w, th, L, la, sw, od, io, oc, fa, on, gr, sr, be, oe, al, pa, bo, rl, ra, mo, hP1, hP2, hC⟩ := hW
  obtain ⟨hg, hw, hla, hoc, -, -, -⟩ := id hC
  obtain ⟨x1, e1⟩ : ∃ y : Int32, xs (i + 1) = y := ⟨_, rfl⟩
  refine lv_aload_n hx hb dL_law_217 rfl (lv_at hl 1 rfl) ?_
  refine sld5 hx hb hX hbl hbN hS 1 hl (by decide) (by omega) hLs e1 dL_law_218 dL_law_219 dL_law_220 dL_law_221 dL_law_222 ?_
  refine cl_Qi (As := [.int x1]) (rest := []) ⟨hx, hb, hml, hown, hts⟩ (c3_turn l ha x1 hg) (cwV 1 hts gL_law_X3_turn rfl rfl rfl (by decide +kernel) ⟨Nat.le_of_ble_eq_true rfl, Nat.le_of_ble_eq_true rfl⟩) hK hP1 hS haA (ci := 3) (q0 := 0) rfl rfl rfl rfl hl.1 rfl (Nat.le_of_ble_eq_true rfl) dL_law_223 ⟨Nat.le_of_ble_eq_true rfl, Nat.le_of_ble_eq_true rfl⟩ (fun r1 H1 locs1 h1 hP1 hz1 hf1 hS1 => ?_)
  have hP2 := kp mW_addr hP2 hf1 (dis_b hdis)
  refine lv_aload_n hx hb dL_law_226 rfl (lv_at hl 2 rfl) ?_
  refine sld5 hx hb hX hbl hbN hS1 1 hl (by decide) (by omega) hLs e1 dL_law_227 dL_law_228 dL_law_229 dL_law_230 dL_law_231 ?_
  refine cl_Qi (As := [.int x1]) (rest := [.int r1]) ⟨hx, hb, hml, hown, hts⟩ (c4_turn l hbI x1 hg) (cwV 1 hts gL_law_X4_turn rfl rfl rfl (by decide +kernel) ⟨Nat.le_of_ble_eq_true rfl, Nat.le_of_ble_eq_true rfl⟩) hK hP2 hS1 hbA (ci := 4) (q0 := 0) rfl rfl rfl rfl hl.1 rfl (Nat.le_of_ble_eq_true rfl) dL_law_232 ⟨Nat.le_of_ble_eq_true rfl, Nat.le_of_ble_eq_true rfl⟩ (fun r2 H2 locs2 h2 hP2 hz2 hf2 hS2 => ?_)
  have hP1 := kp cW_addr hP1 hf2 (dis_a hdis)
  exact lv_icmp_eq (tgt := 628) hx hb dL_law_235 (by decide) (fun _ => next H2 locs2 ⟨_, _, _, _, _, _, _, _, _, _, _, _, _, _, _, _, _, _, _, _, _, _, _, _, _, hP1, hP2, ch_turn hC hcN x1⟩ hS2) (fun q => absurd (h1.trans h2.symm) q)
set_option maxHeartbeats 4000000 in
set_option maxRecDepth 100000 in
theorem lc_clear {p : Program} {l : Launch} {e : Env} {s : State} {mt : MethodId} {below : List Frame} {meth : Method} {c : Code} {Q : State → Prop} {bs Ls : Nat} {xs : Nat → Int32} {D : va_G} {k : Nat → ClassId} {a b : Nat → Nat} (C : LC p s mt meth c bs Ls xs D k a b) {i cN : Nat} (hi : i + 4 ≤ Ls) (hcN : cN < 2 ^ 30) {H : Heap} {locs : List Loc} (hW : LWd D k a b cN H) (hS : va_S (fun q : Nat => s.heap.size ≤ q) s.heap H locs) {ls : Array Slot} (hl : lv_has ls 4 [(0, .ref bs), (1, .ref (a 0)), (2, .ref (b 0)), (3, .int (nI i))]) (next : ∀ (H1 : Heap) (locs1 : List Loc), LWd D k a b (cN + 1) H1 → va_S (fun q : Nat => s.heap.size ≤ q) s.heap H1 locs1 → W p l e room_1 s mt #[Value.ref bs] below meth c H1 locs1 58 4469 Q (F0 mt 628 ls [])) : W p l e room_1 s mt #[Value.ref bs] below meth c H locs 58 4469 Q (F0 mt 240 ls []) := by
  obtain ⟨⟨hx, hb, hr, hml, hown, hts0, hX, hbl, hlocks, hgv⟩, hLs, hK, ha, hbI, hdis, haA, hbA⟩ := C
  have hts : ∀ w ∈ wsL_law, w.before #[Value.ref bs] s = true := fun w h => hts0 w (wsL_law_in w h)
  have hown : s.vm.findClass RL = some mt.cls := hown
  have hbN : ¬ (fun q : Nat => s.heap.size ≤ q) bs := Nat.not_le.mpr hbl
  obtain ⟨n, m, ch, fr, to, w, th, L, la, sw, od, io, oc, fa, on, gr, sr, be, oe, al, pa, bo, rl, ra, mo, hP1, hP2, hC⟩ := hW
  obtain ⟨hg, hw, hla, hoc, -, -, -⟩ := id hC
  refine lv_aload_n hx hb dL_law_240 rfl (lv_at hl 1 rfl) ?_
  refine cl_Qi (As := []) (rest := []) ⟨hx, hb, hml, hown, hts⟩ (c3_clear l ha  ) (cwV 0 hts gL_law_X3_clear rfl rfl rfl (by decide +kernel) ⟨Nat.le_of_ble_eq_true rfl, Nat.le_of_ble_eq_true rfl⟩) hK hP1 hS haA (ci := 3) (q0 := 0) rfl rfl rfl rfl hl.1 rfl (Nat.le_of_ble_eq_true rfl) dL_law_241 ⟨Nat.le_of_ble_eq_true rfl, Nat.le_of_ble_eq_true rfl⟩ (fun r1 H1 locs1 h1 hP1 hz1 hf1 hS1 => ?_)
  have hP2 := kp mW_addr hP2 hf1 (dis_b hdis)
  refine lv_aload_n hx hb dL_law_244 rfl (lv_at hl 2 rfl) ?_
  refine cl_Qi (As := []) (rest := [.int r1]) ⟨hx, hb, hml, hown, hts⟩ (c4_clear l hbI  ) (cwV 0 hts gL_law_X4_clear rfl rfl rfl (by decide +kernel) ⟨Nat.le_of_ble_eq_true rfl, Nat.le_of_ble_eq_true rfl⟩) hK hP2 hS1 hbA (ci := 4) (q0 := 0) rfl rfl rfl rfl hl.1 rfl (Nat.le_of_ble_eq_true rfl) dL_law_245 ⟨Nat.le_of_ble_eq_true rfl, Nat.le_of_ble_eq_true rfl⟩ (fun r2 H2 locs2 h2 hP2 hz2 hf2 hS2 => ?_)
  have hP1 := kp cW_addr hP1 hf2 (dis_a hdis)
  exact lv_icmp_eq (tgt := 628) hx hb dL_law_248 (by decide) (fun _ => next H2 locs2 ⟨_, _, _, _, _, _, _, _, _, _, _, _, _, _, _, _, _, _, _, _, _, _, _, _, _, hP1, hP2, ch_clear hC hcN⟩ hS2) (fun q => absurd (h1.trans h2.symm) q)
