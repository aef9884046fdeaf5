set_option maxHeartbeats 4000000 in
set_option maxRecDepth 100000 in
theorem c0_hasNode (l : Launch) {D : va_G} {k : Nat → ClassId} {a : Nat → Nat} {n : Nat} {m : Nat} {ch : Int32} {fr : Nat → Nat} {to : Nat → Nat} {w : Nat → Int32} {th : Nat → Bool} {L : Nat → Nat → Int32} {la : Nat} {sw : Int32} {od : Nat → Nat} {io : Nat → Bool} {oc : Nat} {fa : Nat → Int32} {on : Nat → Nat → Int32} {gr : Int32} {sr : Int32} (ha : inj 46 a) (x : Int32)  : Met l yX0_hasNode wsX0_hasNode ({ frames := 0, cells := 0, slots := 0, locals := 0 }) (gPc D k (cW k a n m ch fr to w th L la sw od io oc fa on gr sr) [.ref (a 1), .int x]) (vp_Si (fun r => r = bI (ixB x n))) 0 0 nF := by
  refine Met.ofW (cc := cX0_hasNode) (maxL := 2) (ret := (some .boolean)) (by decide) rfl ?_
  intro p e s mt args below meth c s₁ B hml hv
  obtain ⟨rfl, hP, hK⟩ := hv
  have hx := B.exec
  have hb := B.bytes
  have hr := B.returns
  have hts := atoms_spec (ws := wsX0_hasNode) B.pre
  have hown : s.vm.findClass RX0 = some mt.cls := findClass_of_methodNamed B.named
  have hlocks := B.notSynchronized
  have i0 : ∀ w ∈ wsX00, w ∈ wsX0_hasNode := by decide +kernel
  have hl := lv_entry ([.ref (a 1), .int x]) (n := 2) (Nat.le_of_ble_eq_true rfl)
  rw [lg_entry_eq]
  generalize (lg_sl ([.ref (a 1), .int x]) ++ List.replicate (2 - (lg_sl ([.ref (a 1), .int x])).length) Slot.unset).toArray = ls at hl ⊢
  have hl : lv_has ls 2 [(0, .ref (a 1)), (1, .int x)] := hl
  refine lv_iload_n hx hb dX0_hasNode_0 rfl (lv_at hl 1 rfl) ?_
  refine lv_if_lt (tgt := 16) hx hb dX0_hasNode_1 (by decide) (fun c1 => ?_) (fun c1 => ?_)
  · refine lv_iconst (v := 0) hx hb dX0_hasNode_16 (by decide) ?_
    exact W.zret (v := 0) hx hb hr (by decide) (fun t ht hW => ⟨_, rfl, (by first | (simp [ixB, c1, bI]; done) | (simp [ixB, c1, c9, bI]; done)), ht⟩) (fun q h => absurd h List.not_mem_nil) dX0_hasNode_17
  · refine lv_iload_n hx hb dX0_hasNode_4 rfl (lv_at hl 1 rfl) ?_
    refine lv_aload_n hx hb dX0_hasNode_5 rfl (lv_at hl 0 rfl) ?_
    refine va_get (D := D) (ci := 0) (v := .int (nI n)) (C := RX0) (T := TX0) (N := 7) hx hb hts i0 hown hK hP 1 rfl rfl 0 (by decide) (hts (.fieldLink RX0 25 "SignedPaths$Graph" "nodes" "I") (by decide +kernel)) (fun _ h9 => h9) rfl dX0_hasNode_6 ?_
    refine lv_icmp_ge (tgt := 16) hx hb dX0_hasNode_9 (by decide) (fun c9 => ?_) (fun c9 => ?_)
    · refine lv_iconst (v := 0) hx hb dX0_hasNode_16 (by decide) ?_
      exact W.zret (v := 0) hx hb hr (by decide) (fun t ht hW => ⟨_, rfl, (by first | (simp [ixB, c1, bI]; done) | (simp [ixB, c1, c9, bI]; done)), ht⟩) (fun q h => absurd h List.not_mem_nil) dX0_hasNode_17
    · refine lv_iconst (v := 1) hx hb dX0_hasNode_12 (by decide) ?_
      refine lv_goto (tgt := 17) hx hb dX0_hasNode_13 (by decide) ?_
      exact W.zret (v := 1) hx hb hr (by decide) (fun t ht hW => ⟨_, rfl, (by first | (simp [ixB, c1, bI]; done) | (simp [ixB, c1, c9, bI]; done)), ht⟩) (fun q h => absurd h List.not_mem_nil) dX0_hasNode_17
set_option maxHeartbeats 4000000 in
set_option maxRecDepth 100000 in
theorem c0_hasArc (l : Launch) {D : va_G} {k : Nat → ClassId} {a : Nat → Nat} {n : Nat} {m : Nat} {ch : Int32} {fr : Nat → Nat} {to : Nat → Nat} {w : Nat → Int32} {th : Nat → Bool} {L : Nat → Nat → Int32} {la : Nat} {sw : Int32} {od : Nat → Nat} {io : Nat → Bool} {oc : Nat} {fa : Nat → Int32} {on : Nat → Nat → Int32} {gr : Int32} {sr : Int32} (ha : inj 46 a) (x : Int32)  : Met l yX0_hasArc wsX0_hasArc ({ frames := 0, cells := 0, slots := 0, locals := 0 }) (gPc D k (cW k a n m ch fr to w th L la sw od io oc fa on gr sr) [.ref (a 1), .int x]) (vp_Si (fun r => r = bI (ixB x m))) 0 0 nF := by
  refine Met.ofW (cc := cX0_hasArc) (maxL := 2) (ret := (some .boolean)) (by decide) rfl ?_
  intro p e s mt args below meth c s₁ B hml hv
  obtain ⟨rfl, hP, hK⟩ := hv
  have hx := B.exec
  have hb := B.bytes
  have hr := B.returns
  have hts := atoms_spec (ws := wsX0_hasArc) B.pre
  have hown : s.vm.findClass RX0 = some mt.cls := findClass_of_methodNamed B.named
  have hlocks := B.notSynchronized
  have i0 : ∀ w ∈ wsX00, w ∈ wsX0_hasArc := by decide +kernel
  have hl := lv_entry ([.ref (a 1), .int x]) (n := 2) (Nat.le_of_ble_eq_true rfl)
  rw [lg_entry_eq]
  generalize (lg_sl ([.ref (a 1), .int x]) ++ List.replicate (2 - (lg_sl ([.ref (a 1), .int x])).length) Slot.unset).toArray = ls at hl ⊢
  have hl : lv_has ls 2 [(0, .ref (a 1)), (1, .int x)] := hl
  refine lv_iload_n hx hb dX0_hasArc_0 rfl (lv_at hl 1 rfl) ?_
  refine lv_if_lt (tgt := 16) hx hb dX0_hasArc_1 (by decide) (fun c1 => ?_) (fun c1 => ?_)
  · refine lv_iconst (v := 0) hx hb dX0_hasArc_16 (by decide) ?_
    exact W.zret (v := 0) hx hb hr (by decide) (fun t ht hW => ⟨_, rfl, (by first | (simp [ixB, c1, bI]; done) | (simp [ixB, c1, c9, bI]; done)), ht⟩) (fun q h => absurd h List.not_mem_nil) dX0_hasArc_17
  · refine lv_iload_n hx hb dX0_hasArc_4 rfl (lv_at hl 1 rfl) ?_
    refine lv_aload_n hx hb dX0_hasArc_5 rfl (lv_at hl 0 rfl) ?_
    refine va_get (D := D) (ci := 0) (v := .int (nI m)) (C := RX0) (T := TX0) (N := 7) hx hb hts i0 hown hK hP 1 rfl rfl 1 (by decide) (hts (.fieldLink RX0 33 "SignedPaths$Graph" "arcs" "I") (by decide +kernel)) (fun _ h9 => h9) rfl dX0_hasArc_6 ?_
    refine lv_icmp_ge (tgt := 16) hx hb dX0_hasArc_9 (by decide) (fun c9 => ?_) (fun c9 => ?_)
    · refine lv_iconst (v := 0) hx hb dX0_hasArc_16 (by decide) ?_
      exact W.zret (v := 0) hx hb hr (by decide) (fun t ht hW => ⟨_, rfl, (by first | (simp [ixB, c1, bI]; done) | (simp [ixB, c1, c9, bI]; done)), ht⟩) (fun q h => absurd h List.not_mem_nil) dX0_hasArc_17
    · refine lv_iconst (v := 1) hx hb dX0_hasArc_12 (by decide) ?_
      refine lv_goto (tgt := 17) hx hb dX0_hasArc_13 (by decide) ?_
      exact W.zret (v := 1) hx hb hr (by decide) (fun t ht hW => ⟨_, rfl, (by first | (simp [ixB, c1, bI]; done) | (simp [ixB, c1, c9, bI]; done)), ht⟩) (fun q h => absurd h List.not_mem_nil) dX0_hasArc_17
set_option maxHeartbeats 4000000 in
set_option maxRecDepth 100000 in
theorem c0_hasNodes (l : Launch) {D : va_G} {k : Nat → ClassId} {a : Nat → Nat} {n : Nat} {m : Nat} {ch : Int32} {fr : Nat → Nat} {to : Nat → Nat} {w : Nat → Int32} {th : Nat → Bool} {L : Nat → Nat → Int32} {la : Nat} {sw : Int32} {od : Nat → Nat} {io : Nat → Bool} {oc : Nat} {fa : Nat → Int32} {on : Nat → Nat → Int32} {gr : Int32} {sr : Int32} (ha : inj 46 a) (x : Int32) (y : Int32)  : Met l yX0_hasNodes wsX0_hasNodes ({ frames := 1, cells := 0, slots := 0, locals := 21 }) (gPc D k (cW k a n m ch fr to w th L la sw od io oc fa on gr sr) [.ref (a 1), .int x, .int y]) (vp_Si (fun r => r = bI (ixB x n && ixB y n))) 0 0 nF := by
  refine Met.ofW (cc := cX0_hasNodes) (maxL := 3) (ret := (some .boolean)) (by decide) rfl ?_
  intro p e s mt args below meth c s₁ B hml hv
  obtain ⟨rfl, hP, hK⟩ := hv
  have hx := B.exec
  have hb := B.bytes
  have hr := B.returns
  have hts := atoms_spec (ws := wsX0_hasNodes) B.pre
  have hown : s.vm.findClass RX0 = some mt.cls := findClass_of_methodNamed B.named
  have hlocks := B.notSynchronized
  have i0 : ∀ w ∈ wsX00, w ∈ wsX0_hasNodes := by decide +kernel
  have hl := lv_entry ([.ref (a 1), .int x, .int y]) (n := 3) (Nat.le_of_ble_eq_true rfl)
  rw [lg_entry_eq]
  generalize (lg_sl ([.ref (a 1), .int x, .int y]) ++ List.replicate (3 - (lg_sl ([.ref (a 1), .int x, .int y])).length) Slot.unset).toArray = ls at hl ⊢
  have hl : lv_has ls 3 [(0, .ref (a 1)), (1, .int x), (2, .int y)] := hl
  refine lv_aload_n hx hb dX0_hasNodes_0 rfl (lv_at hl 0 rfl) ?_
  refine lv_iload_n hx hb dX0_hasNodes_1 rfl (lv_at hl 1 rfl) ?_
  refine cl_Si (As := [.int x]) (rest := []) ⟨hx, hb, hml, hown, hts⟩ (c0_hasNode l ha x ) (cwV 1 hts gX0_hasNodes_X0_hasNode rfl rfl rfl (by decide +kernel) ⟨Nat.le_of_ble_eq_true rfl, Nat.le_of_ble_eq_true rfl⟩) hK hP (ci := 0) (q0 := 1) rfl rfl rfl rfl hl.1 rfl (Nat.le_of_ble_eq_true rfl) dX0_hasNodes_2 ⟨Nat.zero_le _, Nat.zero_le _⟩ (fun r2 h2 => ?_)
  subst h2
  refine rn_ifeqb (tgt := 20) hx hb dX0_hasNodes_5 (by decide) (fun c5 => ?_) (fun c5 => ?_)
  · refine lv_iconst (v := 0) hx hb dX0_hasNodes_20 (by decide) ?_
    exact W.zret (v := 0) hx hb hr (by decide) (fun t ht hW => ⟨_, rfl, (by first | (simp [c5, c13, bI]; done) | (simp [c5, bI]; done)), ht⟩) (fun q h => absurd h List.not_mem_nil) dX0_hasNodes_21
  · refine lv_aload_n hx hb dX0_hasNodes_8 rfl (lv_at hl 0 rfl) ?_
    refine lv_iload_n hx hb dX0_hasNodes_9 rfl (lv_at hl 2 rfl) ?_
    refine cl_Si (As := [.int y]) (rest := []) ⟨hx, hb, hml, hown, hts⟩ (c0_hasNode l ha y ) (cwV 1 hts gX0_hasNodes_X0_hasNode rfl rfl rfl (by decide +kernel) ⟨Nat.le_of_ble_eq_true rfl, Nat.le_of_ble_eq_true rfl⟩) hK hP (ci := 0) (q0 := 1) rfl rfl rfl rfl hl.1 rfl (Nat.le_of_ble_eq_true rfl) dX0_hasNodes_10 ⟨Nat.zero_le _, Nat.zero_le _⟩ (fun r10 h10 => ?_)
    subst h10
    refine rn_ifeqb (tgt := 20) hx hb dX0_hasNodes_13 (by decide) (fun c13 => ?_) (fun c13 => ?_)
    · refine lv_iconst (v := 0) hx hb dX0_hasNodes_20 (by decide) ?_
      exact W.zret (v := 0) hx hb hr (by decide) (fun t ht hW => ⟨_, rfl, (by first | (simp [c5, c13, bI]; done) | (simp [c5, bI]; done)), ht⟩) (fun q h => absurd h List.not_mem_nil) dX0_hasNodes_21
    · refine lv_iconst (v := 1) hx hb dX0_hasNodes_16 (by decide) ?_
      refine lv_goto (tgt := 21) hx hb dX0_hasNodes_17 (by decide) ?_
      exact W.zret (v := 1) hx hb hr (by decide) (fun t ht hW => ⟨_, rfl, (by first | (simp [c5, c13, bI]; done) | (simp [c5, bI]; done)), ht⟩) (fun q h => absurd h List.not_mem_nil) dX0_hasNodes_21
set_option maxHeartbeats 4000000 in
set_option maxRecDepth 100000 in
theorem c0_addNode (l : Launch) {D : va_G} {k : Nat → ClassId} {a : Nat → Nat} {n : Nat} {m : Nat} {ch : Int32} {fr : Nat → Nat} {to : Nat → Nat} {w : Nat → Int32} {th : Nat → Bool} {L : Nat → Nat → Int32} {la : Nat} {sw : Int32} {od : Nat → Nat} {io : Nat → Bool} {oc : Nat} {fa : Nat → Int32} {on : Nat → Nat → Int32} {gr : Int32} {sr : Int32} (ha : inj 46 a)  (hn12 : n ≤ 12) : Met l yX0_addNode wsX0_addNode ({ frames := 0, cells := 0, slots := 0, locals := 0 }) (gPc D k (cW k a n m ch fr to w th L la sw od io oc fa on gr sr) [.ref (a 1)]) (va_Qi (S := Int32) (fun r u => u = r ∧ (r = nI n)) (fun _ t => va_P D vwCl (cW k a (n + 1) m (ch + 1) fr to w th L la sw od io oc fa on gr sr) t.heap) (cA a)) 0 0 (cA a) := by
  refine Met.ofW (cc := cX0_addNode) (maxL := 1) (ret := (some .int)) (by decide) rfl ?_
  intro p e s mt args below meth c s₁ B hml hv
  obtain ⟨rfl, hP, hK⟩ := hv
  have hx := B.exec
  have hb := B.bytes
  have hr := B.returns
  have hts := atoms_spec (ws := wsX0_addNode) B.pre
  have hown : s.vm.findClass RX0 = some mt.cls := findClass_of_methodNamed B.named
  have hlocks := B.notSynchronized
  have i0 : ∀ w ∈ wsX00, w ∈ wsX0_addNode := by decide +kernel
  have hS : va_S (cA a) s.heap s.heap [] := va_S.rf
  have hD : va_D (cA a) (cW k a n m ch fr to w th L la sw od io oc fa on gr sr) := cW_D ha
  have hl := lv_entry ([.ref (a 1)]) (n := 1) (Nat.le_of_ble_eq_true rfl)
  rw [lg_entry_eq]
  generalize (lg_sl ([.ref (a 1)]) ++ List.replicate (1 - (lg_sl ([.ref (a 1)])).length) Slot.unset).toArray = ls at hl ⊢
  have hl : lv_has ls 1 [(0, .ref (a 1))] := hl
  refine lv_aload_n hx hb dX0_addNode_0 rfl (lv_at hl 0 rfl) ?_
  refine lv_dup hx hb dX0_addNode_1 rfl ?_
  refine va_get (D := D) (ci := 0) (v := .int ch) (C := RX0) (T := TX0) (N := 7) hx hb hts i0 hown hK hP 1 rfl rfl 2 (by decide) (hts (.fieldLink RX0 36 "SignedPaths$Graph" "changes" "I") (by decide +kernel)) (fun _ h9 => h9) rfl dX0_addNode_2 ?_
  refine lv_iconst (v := 1) hx hb dX0_addNode_5 (by decide) ?_
  refine lv_iadd hx hb dX0_addNode_6 ?_
  refine rn_put (ty := .int) (ws' := cW k a n m (ch + 1) fr to w th L la sw od io oc fa on gr sr) hx hb hts i0 tyX0 tyX0_ok nmX0 hown hK hP hD hS 1 rfl rfl 2 (by decide) (hts (.fieldLink RX0 36 "SignedPaths$Graph" "changes" "I") (by decide +kernel)) (fun _ h9 => h9) rfl (by decide +kernel) rfl rfl (Nat.le_of_ble_eq_true rfl) rfl dX0_addNode_7 (fun H locs hP hD hS => ?_)
  refine lv_aload_n hx hb dX0_addNode_10 rfl (lv_at hl 0 rfl) ?_
  refine lv_dup hx hb dX0_addNode_11 rfl ?_
  refine va_get (D := D) (ci := 0) (v := .int (nI n)) (C := RX0) (T := TX0) (N := 7) hx hb hts i0 hown hK hP 1 rfl rfl 0 (by decide) (hts (.fieldLink RX0 25 "SignedPaths$Graph" "nodes" "I") (by decide +kernel)) (fun _ h9 => h9) rfl dX0_addNode_12 ?_
  refine lv_iconst (v := nI 1) hx hb dX0_addNode_15 (by decide) ?_
  refine rn_iadd hx hb  dX0_addNode_16 ?_
  refine rn_put (ty := .int) (ws' := cW k a (n + 1) m (ch + 1) fr to w th L la sw od io oc fa on gr sr) hx hb hts i0 tyX0 tyX0_ok nmX0 hown hK hP hD hS 1 rfl rfl 0 (by decide) (hts (.fieldLink RX0 25 "SignedPaths$Graph" "nodes" "I") (by decide +kernel)) (fun _ h9 => h9) rfl (by decide +kernel) rfl rfl (Nat.le_of_ble_eq_true rfl) rfl dX0_addNode_17 (fun H locs hP hD hS => ?_)
  refine lv_aload_n hx hb dX0_addNode_20 rfl (lv_at hl 0 rfl) ?_
  refine va_get (D := D) (ci := 0) (v := .int (nI (n + 1))) (C := RX0) (T := TX0) (N := 7) hx hb hts i0 hown hK hP 1 rfl rfl 0 (by decide) (hts (.fieldLink RX0 25 "SignedPaths$Graph" "nodes" "I") (by decide +kernel)) (fun _ h9 => h9) rfl dX0_addNode_21 ?_
  refine lv_iconst (v := nI 1) hx hb dX0_addNode_24 (by decide) ?_
  refine rn_isub hx hb (by omega) dX0_addNode_25 ?_
  exact W.iret (v := nI ((n + 1) - 1)) hx hb hr (fun t ht hW => ⟨⟨_, _, rfl, ⟨rfl, rfl⟩, by show va_P D vwCl (cW k a (n + 1) m (ch + 1) fr to w th L la sw od io oc fa on gr sr) t.heap; rw [ht]; exact hP⟩, hS.F ht⟩) hS.2.2 dX0_addNode_26
set_option maxHeartbeats 4000000 in
set_option maxRecDepth 100000 in
theorem c0_addArc (l : Launch) {D : va_G} {k : Nat → ClassId} {a : Nat → Nat} {n : Nat} {m : Nat} {ch : Int32} {fr : Nat → Nat} {to : Nat → Nat} {w : Nat → Int32} {th : Nat → Bool} {L : Nat → Nat → Int32} {la : Nat} {sw : Int32} {od : Nat → Nat} {io : Nat → Bool} {oc : Nat} {fa : Nat → Int32} {on : Nat → Nat → Int32} {gr : Int32} {sr : Int32} (ha : inj 46 a) (u : Nat) (v : Nat) (x : Int32) (hm40 : m < 40) : Met l yX0_addArc wsX0_addArc ({ frames := 0, cells := 0, slots := 0, locals := 0 }) (gPc D k (cW k a n m ch fr to w th L la sw od io oc fa on gr sr) [.ref (a 1), .int (nI u), .int (nI v), .int x]) (va_Qi (S := Int32) (fun r u => u = r ∧ (r = nI m)) (fun _ t => va_P D vwCl (cW k a n (m + 1) (ch + 1) (va_up fr m u) (va_up to m v) (va_up w m x) (va_up th m true) L la sw od io oc fa on gr sr) t.heap) (cA a)) 0 0 (cA a) := by
  refine Met.ofW (cc := cX0_addArc) (maxL := 5) (ret := (some .int)) (by decide) rfl ?_
  intro p e s mt args below meth c s₁ B hml hv
  obtain ⟨rfl, hP, hK⟩ := hv
  have hx := B.exec
  have hb := B.bytes
  have hr := B.returns
  have hts := atoms_spec (ws := wsX0_addArc) B.pre
  have hown : s.vm.findClass RX0 = some mt.cls := findClass_of_methodNamed B.named
  have hlocks := B.notSynchronized
  have i0 : ∀ w ∈ wsX00, w ∈ wsX0_addArc := by decide +kernel
  have hS : va_S (cA a) s.heap s.heap [] := va_S.rf
  have hD : va_D (cA a) (cW k a n m ch fr to w th L la sw od io oc fa on gr sr) := cW_D ha
  have hl := lv_entry ([.ref (a 1), .int (nI u), .int (nI v), .int x]) (n := 5) (Nat.le_of_ble_eq_true rfl)
  rw [lg_entry_eq]
  generalize (lg_sl ([.ref (a 1), .int (nI u), .int (nI v), .int x]) ++ List.replicate (5 - (lg_sl ([.ref (a 1), .int (nI u), .int (nI v), .int x])).length) Slot.unset).toArray = ls at hl ⊢
  have hl : lv_has ls 5 [(0, .ref (a 1)), (1, .int (nI u)), (2, .int (nI v)), (3, .int x)] := hl
  refine lv_aload_n hx hb dX0_addArc_0 rfl (lv_at hl 0 rfl) ?_
  refine lv_dup hx hb dX0_addArc_1 rfl ?_
  refine va_get (D := D) (ci := 0) (v := .int ch) (C := RX0) (T := TX0) (N := 7) hx hb hts i0 hown hK hP 1 rfl rfl 2 (by decide) (hts (.fieldLink RX0 36 "SignedPaths$Graph" "changes" "I") (by decide +kernel)) (fun _ h9 => h9) rfl dX0_addArc_2 ?_
  refine lv_iconst (v := 1) hx hb dX0_addArc_5 (by decide) ?_
  refine lv_iadd hx hb dX0_addArc_6 ?_
  refine rn_put (ty := .int) (ws' := cW k a n m (ch + 1) fr to w th L la sw od io oc fa on gr sr) hx hb hts i0 tyX0 tyX0_ok nmX0 hown hK hP hD hS 1 rfl rfl 2 (by decide) (hts (.fieldLink RX0 36 "SignedPaths$Graph" "changes" "I") (by decide +kernel)) (fun _ h9 => h9) rfl (by decide +kernel) rfl rfl (Nat.le_of_ble_eq_true rfl) rfl dX0_addArc_7 (fun H locs hP hD hS => ?_)
  refine lv_aload_n hx hb dX0_addArc_10 rfl (lv_at hl 0 rfl) ?_
  refine va_get (D := D) (ci := 0) (v := .int (nI m)) (C := RX0) (T := TX0) (N := 7) hx hb hts i0 hown hK hP 1 rfl rfl 1 (by decide) (hts (.fieldLink RX0 33 "SignedPaths$Graph" "arcs" "I") (by decide +kernel)) (fun _ h9 => h9) rfl dX0_addArc_11 ?_
  refine lv_istore (lv' := [(4, .int (nI m)), (0, .ref (a 1)), (1, .int (nI u)), (2, .int (nI v)), (3, .int x)]) hx hb dX0_addArc_14 hl (by decide) rfl (fun ls hl => ?_)
  refine lv_aload_n hx hb dX0_addArc_16 rfl (lv_at hl 1 rfl) ?_
  refine va_get (D := D) (ci := 0) (v := .ref (a 2)) (C := RX0) (T := TX0) (N := 7) hx hb hts i0 hown hK hP 1 rfl rfl 3 (by decide) (hts (.fieldLink RX0 9 "SignedPaths$Graph" "from" "[I") (by decide +kernel)) (fun _ h9 => h9) rfl dX0_addArc_17 ?_
  refine lv_iload hx hb dX0_addArc_20 (lv_at hl 0 rfl) ?_
  refine lv_iload_n hx hb dX0_addArc_22 rfl (lv_at hl 2 rfl) ?_
  refine rn_iast (ws' := cW k a n m (ch + 1) (va_up fr m u) to w th L la sw od io oc fa on gr sr) hx hb hK hP hD hS 2 0 rfl rfl (by omega) (by decide) (by rw [up_nI]; rfl) dX0_addArc_23 (fun H locs hP hD hS => ?_)
  refine lv_aload_n hx hb dX0_addArc_24 rfl (lv_at hl 1 rfl) ?_
  refine va_get (D := D) (ci := 0) (v := .ref (a 3)) (C := RX0) (T := TX0) (N := 7) hx hb hts i0 hown hK hP 1 rfl rfl 4 (by decide) (hts (.fieldLink RX0 15 "SignedPaths$Graph" "to" "[I") (by decide +kernel)) (fun _ h9 => h9) rfl dX0_addArc_25 ?_
  refine lv_iload hx hb dX0_addArc_28 (lv_at hl 0 rfl) ?_
  refine lv_iload_n hx hb dX0_addArc_30 rfl (lv_at hl 3 rfl) ?_
  refine rn_iast (ws' := cW k a n m (ch + 1) (va_up fr m u) (va_up to m v) w th L la sw od io oc fa on gr sr) hx hb hK hP hD hS 3 0 rfl rfl (by omega) (by decide) (by rw [up_nI]; rfl) dX0_addArc_31 (fun H locs hP hD hS => ?_)
  refine lv_aload_n hx hb dX0_addArc_32 rfl (lv_at hl 1 rfl) ?_
  refine va_get (D := D) (ci := 0) (v := .ref (a 4)) (C := RX0) (T := TX0) (N := 7) hx hb hts i0 hown hK hP 1 rfl rfl 5 (by decide) (hts (.fieldLink RX0 18 "SignedPaths$Graph" "weight" "[I") (by decide +kernel)) (fun _ h9 => h9) rfl dX0_addArc_33 ?_
  refine lv_iload hx hb dX0_addArc_36 (lv_at hl 0 rfl) ?_
  refine lv_iload_n hx hb dX0_addArc_38 rfl (lv_at hl 4 rfl) ?_
  refine rn_iast (ws' := cW k a n m (ch + 1) (va_up fr m u) (va_up to m v) (va_up w m x) th L la sw od io oc fa on gr sr) hx hb hK hP hD hS 4 0 rfl rfl (by omega) (by decide) rfl dX0_addArc_39 (fun H locs hP hD hS => ?_)
  refine lv_aload_n hx hb dX0_addArc_40 rfl (lv_at hl 1 rfl) ?_
  refine va_get (D := D) (ci := 0) (v := .ref (a 5)) (C := RX0) (T := TX0) (N := 7) hx hb hts i0 hown hK hP 1 rfl rfl 6 (by decide) (hts (.fieldLink RX0 21 "SignedPaths$Graph" "there" "[Z") (by decide +kernel)) (fun _ h9 => h9) rfl dX0_addArc_41 ?_
  refine lv_iload hx hb dX0_addArc_44 (lv_at hl 0 rfl) ?_
  refine lv_iconst (v := bI true) hx hb dX0_addArc_46 (by decide) ?_
  refine rn_zast (ws' := cW k a n m (ch + 1) (va_up fr m u) (va_up to m v) (va_up w m x) (va_up th m true) L la sw od io oc fa on gr sr) hx hb hK hP hD hS 5 1 rfl rfl (by omega) (by decide) (by rw [up_bI]; rfl) dX0_addArc_47 (fun H locs hP hD hS => ?_)
  refine lv_aload_n hx hb dX0_addArc_48 rfl (lv_at hl 1 rfl) ?_
  refine lv_dup hx hb dX0_addArc_49 rfl ?_
  refine va_get (D := D) (ci := 0) (v := .int (nI m)) (C := RX0) (T := TX0) (N := 7) hx hb hts i0 hown hK hP 1 rfl rfl 1 (by decide) (hts (.fieldLink RX0 33 "SignedPaths$Graph" "arcs" "I") (by decide +kernel)) (fun _ h9 => h9) rfl dX0_addArc_50 ?_
  refine lv_iconst (v := nI 1) hx hb dX0_addArc_53 (by decide) ?_
  refine rn_iadd hx hb  dX0_addArc_54 ?_
  refine rn_put (ty := .int) (ws' := cW k a n (m + 1) (ch + 1) (va_up fr m u) (va_up to m v) (va_up w m x) (va_up th m true) L la sw od io oc fa on gr sr) hx hb hts i0 tyX0 tyX0_ok nmX0 hown hK hP hD hS 1 rfl rfl 1 (by decide) (hts (.fieldLink RX0 33 "SignedPaths$Graph" "arcs" "I") (by decide +kernel)) (fun _ h9 => h9) rfl (by decide +kernel) rfl rfl (Nat.le_of_ble_eq_true rfl) rfl dX0_addArc_55 (fun H locs hP hD hS => ?_)
  refine lv_iload hx hb dX0_addArc_58 (lv_at hl 0 rfl) ?_
  exact W.iret (v := nI m) hx hb hr (fun t ht hW => ⟨⟨_, _, rfl, ⟨rfl, rfl⟩, by show va_P D vwCl (cW k a n (m + 1) (ch + 1) (va_up fr m u) (va_up to m v) (va_up w m x) (va_up th m true) L la sw od io oc fa on gr sr) t.heap; rw [ht]; exact hP⟩, hS.F ht⟩) hS.2.2 dX0_addArc_60
set_option maxHeartbeats 4000000 in
set_option maxRecDepth 100000 in
theorem c0_changeWeight (l : Launch) {D : va_G} {k : Nat → ClassId} {a : Nat → Nat} {n : Nat} {m : Nat} {ch : Int32} {fr : Nat → Nat} {to : Nat → Nat} {w : Nat → Int32} {th : Nat → Bool} {L : Nat → Nat → Int32} {la : Nat} {sw : Int32} {od : Nat → Nat} {io : Nat → Bool} {oc : Nat} {fa : Nat → Int32} {on : Nat → Nat → Int32} {gr : Int32} {sr : Int32} (ha : inj 46 a) (j : Nat) (x : Int32) (hj : j < 40) : Met l yX0_changeWeight wsX0_changeWeight ({ frames := 0, cells := 0, slots := 0, locals := 0 }) (gPc D k (cW k a n m ch fr to w th L la sw od io oc fa on gr sr) [.ref (a 1), .int (nI j), .int x]) (va_Qi (S := Int32) (fun r u => u = r ∧ (r = w j)) (fun _ t => va_P D vwCl (cW k a n m (ch + 1) fr to (va_up w j x) th L la sw od io oc fa on gr sr) t.heap) (cA a)) 0 0 (cA a) := by
  refine Met.ofW (cc := cX0_changeWeight) (maxL := 4) (ret := (some .int)) (by decide) rfl ?_
  intro p e s mt args below meth c s₁ B hml hv
  obtain ⟨rfl, hP, hK⟩ := hv
  have hx := B.exec
  have hb := B.bytes
  have hr := B.returns
  have hts := atoms_spec (ws := wsX0_changeWeight) B.pre
  have hown : s.vm.findClass RX0 = some mt.cls := findClass_of_methodNamed B.named
  have hlocks := B.notSynchronized
  have i0 : ∀ w ∈ wsX00, w ∈ wsX0_changeWeight := by decide +kernel
  have hS : va_S (cA a) s.heap s.heap [] := va_S.rf
  have hD : va_D (cA a) (cW k a n m ch fr to w th L la sw od io oc fa on gr sr) := cW_D ha
  have hl := lv_entry ([.ref (a 1), .int (nI j), .int x]) (n := 4) (Nat.le_of_ble_eq_true rfl)
  rw [lg_entry_eq]
  generalize (lg_sl ([.ref (a 1), .int (nI j), .int x]) ++ List.replicate (4 - (lg_sl ([.ref (a 1), .int (nI j), .int x])).length) Slot.unset).toArray = ls at hl ⊢
  have hl : lv_has ls 4 [(0, .ref (a 1)), (1, .int (nI j)), (2, .int x)] := hl
  refine lv_aload_n hx hb dX0_changeWeight_0 rfl (lv_at hl 0 rfl) ?_
  refine lv_dup hx hb dX0_changeWeight_1 rfl ?_
  refine va_get (D := D) (ci := 0) (v := .int ch) (C := RX0) (T := TX0) (N := 7) hx hb hts i0 hown hK hP 1 rfl rfl 2 (by decide) (hts (.fieldLink RX0 36 "SignedPaths$Graph" "changes" "I") (by decide +kernel)) (fun _ h9 => h9) rfl dX0_changeWeight_2 ?_
  refine lv_iconst (v := 1) hx hb dX0_changeWeight_5 (by decide) ?_
  refine lv_iadd hx hb dX0_changeWeight_6 ?_
  refine rn_put (ty := .int) (ws' := cW k a n m (ch + 1) fr to w th L la sw od io oc fa on gr sr) hx hb hts i0 tyX0 tyX0_ok nmX0 hown hK hP hD hS 1 rfl rfl 2 (by decide) (hts (.fieldLink RX0 36 "SignedPaths$Graph" "changes" "I") (by decide +kernel)) (fun _ h9 => h9) rfl (by decide +kernel) rfl rfl (Nat.le_of_ble_eq_true rfl) rfl dX0_changeWeight_7 (fun H locs hP hD hS => ?_)
  refine lv_aload_n hx hb dX0_changeWeight_10 rfl (lv_at hl 0 rfl) ?_
  refine va_get (D := D) (ci := 0) (v := .ref (a 4)) (C := RX0) (T := TX0) (N := 7) hx hb hts i0 hown hK hP 1 rfl rfl 5 (by decide) (hts (.fieldLink RX0 18 "SignedPaths$Graph" "weight" "[I") (by decide +kernel)) (fun _ h9 => h9) rfl dX0_changeWeight_11 ?_
  refine lv_iload_n hx hb dX0_changeWeight_14 rfl (lv_at hl 1 rfl) ?_
  refine rn_iald (v := w j) hx hb hK hP 4 0 rfl rfl (by omega) (by decide) rfl dX0_changeWeight_15 ?_
  refine lv_istore_n (lv' := [(3, .int (w j)), (0, .ref (a 1)), (1, .int (nI j)), (2, .int x)]) hx hb dX0_changeWeight_16 rfl hl (by decide) rfl (fun ls hl => ?_)
  refine lv_aload_n hx hb dX0_changeWeight_17 rfl (lv_at hl 1 rfl) ?_
  refine va_get (D := D) (ci := 0) (v := .ref (a 4)) (C := RX0) (T := TX0) (N := 7) hx hb hts i0 hown hK hP 1 rfl rfl 5 (by decide) (hts (.fieldLink RX0 18 "SignedPaths$Graph" "weight" "[I") (by decide +kernel)) (fun _ h9 => h9) rfl dX0_changeWeight_18 ?_
  refine lv_iload_n hx hb dX0_changeWeight_21 rfl (lv_at hl 2 rfl) ?_
  refine lv_iload_n hx hb dX0_changeWeight_22 rfl (lv_at hl 3 rfl) ?_
  refine rn_iast (ws' := cW k a n m (ch + 1) fr to (va_up w j x) th L la sw od io oc fa on gr sr) hx hb hK hP hD hS 4 0 rfl rfl (by omega) (by decide) rfl dX0_changeWeight_23 (fun H locs hP hD hS => ?_)
  refine lv_iload_n hx hb dX0_changeWeight_24 rfl (lv_at hl 0 rfl) ?_
  exact W.iret (v := w j) hx hb hr (fun t ht hW => ⟨⟨_, _, rfl, ⟨rfl, rfl⟩, by show va_P D vwCl (cW k a n m (ch + 1) fr to (va_up w j x) th L la sw od io oc fa on gr sr) t.heap; rw [ht]; exact hP⟩, hS.F ht⟩) hS.2.2 dX0_changeWeight_25
set_option maxHeartbeats 4000000 in
set_option maxRecDepth 100000 in
theorem c0_flip (l : Launch) {D : va_G} {k : Nat → ClassId} {a : Nat → Nat} {n : Nat} {m : Nat} {ch : Int32} {fr : Nat → Nat} {to : Nat → Nat} {w : Nat → Int32} {th : Nat → Bool} {L : Nat → Nat → Int32} {la : Nat} {sw : Int32} {od : Nat → Nat} {io : Nat → Bool} {oc : Nat} {fa : Nat → Int32} {on : Nat → Nat → Int32} {gr : Int32} {sr : Int32} (ha : inj 46 a) (j : Nat) (hj : j < 40) : Met l yX0_flip wsX0_flip ({ frames := 0, cells := 0, slots := 0, locals := 0 }) (gPc D k (cW k a n m ch fr to w th L la sw od io oc fa on gr sr) [.ref (a 1), .int (nI j)]) (va_Qi (S := Int32) (fun r u => u = r ∧ (r = bI (!(th j)))) (fun _ t => va_P D vwCl (cW k a n m (ch + 1) fr to w (va_up th j (!(th j))) L la sw od io oc fa on gr sr) t.heap) (cA a)) 0 0 (cA a) := by
  refine Met.ofW (cc := cX0_flip) (maxL := 2) (ret := (some .int)) (by decide) rfl ?_
  intro p e s mt args below meth c s₁ B hml hv
  obtain ⟨rfl, hP, hK⟩ := hv
  have hx := B.exec
  have hb := B.bytes
  have hr := B.returns
  have hts := atoms_spec (ws := wsX0_flip) B.pre
  have hown : s.vm.findClass RX0 = some mt.cls := findClass_of_methodNamed B.named
  have hlocks := B.notSynchronized
  have i0 : ∀ w ∈ wsX00, w ∈ wsX0_flip := by decide +kernel
  have hS : va_S (cA a) s.heap s.heap [] := va_S.rf
  have hD : va_D (cA a) (cW k a n m ch fr to w th L la sw od io oc fa on gr sr) := cW_D ha
  have hl := lv_entry ([.ref (a 1), .int (nI j)]) (n := 2) (Nat.le_of_ble_eq_true rfl)
  rw [lg_entry_eq]
  generalize (lg_sl ([.ref (a 1), .int (nI j)]) ++ List.replicate (2 - (lg_sl ([.ref (a 1), .int (nI j)])).length) Slot.unset).toArray = ls at hl ⊢
  have hl : lv_has ls 2 [(0, .ref (a 1)), (1, .int (nI j))] := hl
  refine lv_aload_n hx hb dX0_flip_0 rfl (lv_at hl 0 rfl) ?_
  refine lv_dup hx hb dX0_flip_1 rfl ?_
  refine va_get (D := D) (ci := 0) (v := .int ch) (C := RX0) (T := TX0) (N := 7) hx hb hts i0 hown hK hP 1 rfl rfl 2 (by decide) (hts (.fieldLink RX0 36 "SignedPaths$Graph" "changes" "I") (by decide +kernel)) (fun _ h9 => h9) rfl dX0_flip_2 ?_
  refine lv_iconst (v := 1) hx hb dX0_flip_5 (by decide) ?_
  refine lv_iadd hx hb dX0_flip_6 ?_
  refine rn_put (ty := .int) (ws' := cW k a n m (ch + 1) fr to w th L la sw od io oc fa on gr sr) hx hb hts i0 tyX0 tyX0_ok nmX0 hown hK hP hD hS 1 rfl rfl 2 (by decide) (hts (.fieldLink RX0 36 "SignedPaths$Graph" "changes" "I") (by decide +kernel)) (fun _ h9 => h9) rfl (by decide +kernel) rfl rfl (Nat.le_of_ble_eq_true rfl) rfl dX0_flip_7 (fun H locs hP hD hS => ?_)
  refine lv_aload_n hx hb dX0_flip_10 rfl (lv_at hl 0 rfl) ?_
  refine va_get (D := D) (ci := 0) (v := .ref (a 5)) (C := RX0) (T := TX0) (N := 7) hx hb hts i0 hown hK hP 1 rfl rfl 6 (by decide) (hts (.fieldLink RX0 21 "SignedPaths$Graph" "there" "[Z") (by decide +kernel)) (fun _ h9 => h9) rfl dX0_flip_11 ?_
  refine lv_iload_n hx hb dX0_flip_14 rfl (lv_at hl 1 rfl) ?_
  refine lv_aload_n hx hb dX0_flip_15 rfl (lv_at hl 0 rfl) ?_
  refine va_get (D := D) (ci := 0) (v := .ref (a 5)) (C := RX0) (T := TX0) (N := 7) hx hb hts i0 hown hK hP 1 rfl rfl 6 (by decide) (hts (.fieldLink RX0 21 "SignedPaths$Graph" "there" "[Z") (by decide +kernel)) (fun _ h9 => h9) rfl dX0_flip_16 ?_
  refine lv_iload_n hx hb dX0_flip_19 rfl (lv_at hl 1 rfl) ?_
  refine rn_zald (v := bI (th j)) hx hb hK hP 5 1 rfl rfl (by omega) (by decide) rfl dX0_flip_20 ?_
  refine rn_ifneb (tgt := 28) hx hb dX0_flip_21 (by decide) (fun c21 => ?_) (fun c21 => ?_)
  · refine lv_iconst (v := bI false) hx hb dX0_flip_28 (by decide) ?_
    refine rn_zast (ws' := cW k a n m (ch + 1) fr to w (va_up th j false) L la sw od io oc fa on gr sr) hx hb hK hP hD hS 5 1 rfl rfl (by omega) (by decide) (by rw [up_bI]; rfl) dX0_flip_29 (fun H locs hP hD hS => ?_)
    refine lv_aload_n hx hb dX0_flip_30 rfl (lv_at hl 0 rfl) ?_
    refine va_get (D := D) (ci := 0) (v := .ref (a 5)) (C := RX0) (T := TX0) (N := 7) hx hb hts i0 hown hK hP 1 rfl rfl 6 (by decide) (hts (.fieldLink RX0 21 "SignedPaths$Graph" "there" "[Z") (by decide +kernel)) (fun _ h9 => h9) rfl dX0_flip_31 ?_
    refine lv_iload_n hx hb dX0_flip_34 rfl (lv_at hl 1 rfl) ?_
    refine rn_zald (v := bI ((va_up th j false) j)) hx hb hK hP 5 1 rfl rfl (by omega) (by decide) rfl dX0_flip_35 ?_
    refine rn_ifeqb (tgt := 43) hx hb dX0_flip_36 (by decide) (fun c36 => ?_) (fun c36 => absurd c36 (by simp [va_up]))
    refine lv_iconst (v := 0) hx hb dX0_flip_43 (by decide) ?_
    exact W.iret (v := 0) hx hb hr (fun t ht hW => ⟨⟨_, _, rfl, ⟨rfl, (by simp [c21, bI])⟩, by show va_P D vwCl (cW k a n m (ch + 1) fr to w (va_up th j (!(th j))) L la sw od io oc fa on gr sr) t.heap; rw [ht]; rw [c21]; exact hP⟩, hS.F ht⟩) hS.2.2 dX0_flip_44
  · refine lv_iconst (v := bI true) hx hb dX0_flip_24 (by decide) ?_
    refine lv_goto (tgt := 29) hx hb dX0_flip_25 (by decide) ?_
    refine rn_zast (ws' := cW k a n m (ch + 1) fr to w (va_up th j true) L la sw od io oc fa on gr sr) hx hb hK hP hD hS 5 1 rfl rfl (by omega) (by decide) (by rw [up_bI]; rfl) dX0_flip_29 (fun H locs hP hD hS => ?_)
    refine lv_aload_n hx hb dX0_flip_30 rfl (lv_at hl 0 rfl) ?_
    refine va_get (D := D) (ci := 0) (v := .ref (a 5)) (C := RX0) (T := TX0) (N := 7) hx hb hts i0 hown hK hP 1 rfl rfl 6 (by decide) (hts (.fieldLink RX0 21 "SignedPaths$Graph" "there" "[Z") (by decide +kernel)) (fun _ h9 => h9) rfl dX0_flip_31 ?_
    refine lv_iload_n hx hb dX0_flip_34 rfl (lv_at hl 1 rfl) ?_
    refine rn_zald (v := bI ((va_up th j true) j)) hx hb hK hP 5 1 rfl rfl (by omega) (by decide) rfl dX0_flip_35 ?_
    refine rn_ifeqb (tgt := 43) hx hb dX0_flip_36 (by decide) (fun c36 => absurd c36 (by simp [va_up])) (fun c36 => ?_)
    refine lv_iconst (v := 1) hx hb dX0_flip_39 (by decide) ?_
    refine lv_goto (tgt := 44) hx hb dX0_flip_40 (by decide) ?_
    exact W.iret (v := 1) hx hb hr (fun t ht hW => ⟨⟨_, _, rfl, ⟨rfl, (by simp [c21, bI])⟩, by show va_P D vwCl (cW k a n m (ch + 1) fr to w (va_up th j (!(th j))) L la sw od io oc fa on gr sr) t.heap; rw [ht]; rw [c21]; exact hP⟩, hS.F ht⟩) hS.2.2 dX0_flip_44
set_option maxHeartbeats 4000000 in
set_option maxRecDepth 100000 in
theorem c0_empty (l : Launch) {D : va_G} {k : Nat → ClassId} {a : Nat → Nat} {n : Nat} {m : Nat} {ch : Int32} {fr : Nat → Nat} {to : Nat → Nat} {w : Nat → Int32} {th : Nat → Bool} {L : Nat → Nat → Int32} {la : Nat} {sw : Int32} {od : Nat → Nat} {io : Nat → Bool} {oc : Nat} {fa : Nat → Int32} {on : Nat → Nat → Int32} {gr : Int32} {sr : Int32} (ha : inj 46 a)   : Met l yX0_empty wsX0_empty ({ frames := 0, cells := 0, slots := 0, locals := 0 }) (gPc D k (cW k a n m ch fr to w th L la sw od io oc fa on gr sr) [.ref (a 1)]) (va_Qi (S := Int32) (fun r u => u = r ∧ (r = nI m)) (fun _ t => va_P D vwCl (cW k a 0 0 (ch + 1) fr to w th L la sw od io oc fa on gr sr) t.heap) (cA a)) 0 0 (cA a) := by
  refine Met.ofW (cc := cX0_empty) (maxL := 2) (ret := (some .int)) (by decide) rfl ?_
  intro p e s mt args below meth c s₁ B hml hv
  obtain ⟨rfl, hP, hK⟩ := hv
  have hx := B.exec
  have hb := B.bytes
  have hr := B.returns
  have hts := atoms_spec (ws := wsX0_empty) B.pre
  have hown : s.vm.findClass RX0 = some mt.cls := findClass_of_methodNamed B.named
  have hlocks := B.notSynchronized
  have i0 : ∀ w ∈ wsX00, w ∈ wsX0_empty := by decide +kernel
  have hS : va_S (cA a) s.heap s.heap [] := va_S.rf
  have hD : va_D (cA a) (cW k a n m ch fr to w th L la sw od io oc fa on gr sr) := cW_D ha
  have hl := lv_entry ([.ref (a 1)]) (n := 2) (Nat.le_of_ble_eq_true rfl)
  rw [lg_entry_eq]
  generalize (lg_sl ([.ref (a 1)]) ++ List.replicate (2 - (lg_sl ([.ref (a 1)])).length) Slot.unset).toArray = ls at hl ⊢
  have hl : lv_has ls 2 [(0, .ref (a 1))] := hl
  refine lv_aload_n hx hb dX0_empty_0 rfl (lv_at hl 0 rfl) ?_
  refine lv_dup hx hb dX0_empty_1 rfl ?_
  refine va_get (D := D) (ci := 0) (v := .int ch) (C := RX0) (T := TX0) (N := 7) hx hb hts i0 hown hK hP 1 rfl rfl 2 (by decide) (hts (.fieldLink RX0 36 "SignedPaths$Graph" "changes" "I") (by decide +kernel)) (fun _ h9 => h9) rfl dX0_empty_2 ?_
  refine lv_iconst (v := 1) hx hb dX0_empty_5 (by decide) ?_
  refine lv_iadd hx hb dX0_empty_6 ?_
  refine rn_put (ty := .int) (ws' := cW k a n m (ch + 1) fr to w th L la sw od io oc fa on gr sr) hx hb hts i0 tyX0 tyX0_ok nmX0 hown hK hP hD hS 1 rfl rfl 2 (by decide) (hts (.fieldLink RX0 36 "SignedPaths$Graph" "changes" "I") (by decide +kernel)) (fun _ h9 => h9) rfl (by decide +kernel) rfl rfl (Nat.le_of_ble_eq_true rfl) rfl dX0_empty_7 (fun H locs hP hD hS => ?_)
  refine lv_aload_n hx hb dX0_empty_10 rfl (lv_at hl 0 rfl) ?_
  refine va_get (D := D) (ci := 0) (v := .int (nI m)) (C := RX0) (T := TX0) (N := 7) hx hb hts i0 hown hK hP 1 rfl rfl 1 (by decide) (hts (.fieldLink RX0 33 "SignedPaths$Graph" "arcs" "I") (by decide +kernel)) (fun _ h9 => h9) rfl dX0_empty_11 ?_
  refine lv_istore_n (lv' := [(1, .int (nI m)), (0, .ref (a 1))]) hx hb dX0_empty_14 rfl hl (by decide) rfl (fun ls hl => ?_)
  refine lv_aload_n hx hb dX0_empty_15 rfl (lv_at hl 1 rfl) ?_
  refine lv_iconst (v := nI 0) hx hb dX0_empty_16 (by decide) ?_
  refine rn_put (ty := .int) (ws' := cW k a 0 m (ch + 1) fr to w th L la sw od io oc fa on gr sr) hx hb hts i0 tyX0 tyX0_ok nmX0 hown hK hP hD hS 1 rfl rfl 0 (by decide) (hts (.fieldLink RX0 25 "SignedPaths$Graph" "nodes" "I") (by decide +kernel)) (fun _ h9 => h9) rfl (by decide +kernel) rfl rfl (Nat.le_of_ble_eq_true rfl) rfl dX0_empty_17 (fun H locs hP hD hS => ?_)
  refine lv_aload_n hx hb dX0_empty_20 rfl (lv_at hl 1 rfl) ?_
  refine lv_iconst (v := nI 0) hx hb dX0_empty_21 (by decide) ?_
  refine rn_put (ty := .int) (ws' := cW k a 0 0 (ch + 1) fr to w th L la sw od io oc fa on gr sr) hx hb hts i0 tyX0 tyX0_ok nmX0 hown hK hP hD hS 1 rfl rfl 1 (by decide) (hts (.fieldLink RX0 33 "SignedPaths$Graph" "arcs" "I") (by decide +kernel)) (fun _ h9 => h9) rfl (by decide +kernel) rfl rfl (Nat.le_of_ble_eq_true rfl) rfl dX0_empty_22 (fun H locs hP hD hS => ?_)
  refine lv_iload_n hx hb dX0_empty_25 rfl (lv_at hl 0 rfl) ?_
  exact W.iret (v := nI m) hx hb hr (fun t ht hW => ⟨⟨_, _, rfl, ⟨rfl, rfl⟩, by show va_P D vwCl (cW k a 0 0 (ch + 1) fr to w th L la sw od io oc fa on gr sr) t.heap; rw [ht]; exact hP⟩, hS.F ht⟩) hS.2.2 dX0_empty_26
set_option maxHeartbeats 4000000 in
set_option maxRecDepth 100000 in
theorem c0_countThere (l : Launch) {D : va_G} {k : Nat → ClassId} {a : Nat → Nat} {n : Nat} {m : Nat} {ch : Int32} {fr : Nat → Nat} {to : Nat → Nat} {w : Nat → Int32} {th : Nat → Bool} {L : Nat → Nat → Int32} {la : Nat} {sw : Int32} {od : Nat → Nat} {io : Nat → Bool} {oc : Nat} {fa : Nat → Int32} {on : Nat → Nat → Int32} {gr : Int32} {sr : Int32} (ha : inj 46 a)  (hm40 : m ≤ 40) : Met l yX0_countThere wsX0_countThere ({ frames := 0, cells := 0, slots := 0, locals := 0 }) (gPc D k (cW k a n m ch fr to w th L la sw od io oc fa on gr sr) [.ref (a 1)]) (vp_Si (fun r => r = nI (fl (ctS th) m 0))) 0 0 nF := by
  refine Met.ofW (cc := cX0_countThere) (maxL := 3) (ret := (some .int)) (by decide) rfl ?_
  intro p e s mt args below meth c s₁ B hml hv
  obtain ⟨rfl, hP, hK⟩ := hv
  have hx := B.exec
  have hb := B.bytes
  have hr := B.returns
  have hts := atoms_spec (ws := wsX0_countThere) B.pre
  have hown : s.vm.findClass RX0 = some mt.cls := findClass_of_methodNamed B.named
  have hlocks := B.notSynchronized
  have i0 : ∀ w ∈ wsX00, w ∈ wsX0_countThere := by decide +kernel
  have hl := lv_entry ([.ref (a 1)]) (n := 3) (Nat.le_of_ble_eq_true rfl)
  rw [lg_entry_eq]
  generalize (lg_sl ([.ref (a 1)]) ++ List.replicate (3 - (lg_sl ([.ref (a 1)])).length) Slot.unset).toArray = ls at hl ⊢
  have hl : lv_has ls 3 [(0, .ref (a 1))] := hl
  obtain ⟨Q, hQ⟩ : ∃ Q, Q = MQ below (vp_Si (fun r => r = nI (fl (ctS th) m 0))) ([.ref (a 1)] : List Value).toArray s 0 0 nF := ⟨_, rfl⟩
  rw [← hQ]
  refine lv_iconst (v := nI 0) hx hb dX0_countThere_0 (by decide) ?_
  refine lv_istore_n (lv' := [(1, .int (nI 0)), (0, .ref (a 1))]) hx hb dX0_countThere_1 rfl hl (by decide) rfl (fun ls hl => ?_)
  refine lv_iconst (v := nI 0) hx hb dX0_countThere_2 (by decide) ?_
  refine lv_istore_n (lv' := [(2, .int (nI 0)), (1, .int (nI 0)), (0, .ref (a 1))]) hx hb dX0_countThere_3 rfl hl (by decide) rfl (fun ls hl => ?_)
  have key4 : ∀ (f4 i : Nat), m + 1 ≤ i + f4 → i ≤ m → ∀ (ls : Array Slot), lv_has ls 3 [(0, .ref (a 1)), (1, .int (nI (fl (ctS th) i 0))), (2, .int (nI i))] → W p l e (headSpec wsX0_countThere { frames := 0, cells := 0, slots := 0, locals := 0 }).room s mt ([.ref (a 1)] : List Value).toArray below meth c s.heap [] 0 0 Q (F0 mt 4 ls []) := by
    intro f4
    induction f4 with
    | zero => intro i h1 h2; exact absurd h1 (by omega)
    | succ f4 ih4 =>
      intro i hf4 hi4   ls hl
      refine lv_iload_n hx hb dX0_countThere_4 rfl (lv_at hl 2 rfl) ?_
      refine lv_aload_n hx hb dX0_countThere_5 rfl (lv_at hl 0 rfl) ?_
      refine va_get (D := D) (ci := 0) (v := .int (nI m)) (C := RX0) (T := TX0) (N := 7) hx hb hts i0 hown hK hP 1 rfl rfl 1 (by decide) (hts (.fieldLink RX0 33 "SignedPaths$Graph" "arcs" "I") (by decide +kernel)) (fun _ h9 => h9) rfl dX0_countThere_6 ?_
      refine rn_icmp_ge (tgt := 30) hx hb dX0_countThere_9 (by decide) (by omega) (by omega) (fun c9 => ?_) (fun c9 => ?_)
      · refine lv_iload_n hx hb dX0_countThere_30 rfl (lv_at hl 1 rfl) ?_
        rw [hQ]
        exact W.iret (v := nI (fl (ctS th) i 0)) hx hb hr (fun t ht hW => ⟨_, rfl, (by have e : i = m := (by omega); rw [e]), ht⟩) (fun q h => absurd h List.not_mem_nil) dX0_countThere_31
      · refine lv_aload_n hx hb dX0_countThere_12 rfl (lv_at hl 0 rfl) ?_
        refine va_get (D := D) (ci := 0) (v := .ref (a 5)) (C := RX0) (T := TX0) (N := 7) hx hb hts i0 hown hK hP 1 rfl rfl 6 (by decide) (hts (.fieldLink RX0 21 "SignedPaths$Graph" "there" "[Z") (by decide +kernel)) (fun _ h9 => h9) rfl dX0_countThere_13 ?_
        refine lv_iload_n hx hb dX0_countThere_16 rfl (lv_at hl 2 rfl) ?_
        refine rn_zald (v := bI (th i)) hx hb hK hP 5 1 rfl rfl (by omega) (by decide) rfl dX0_countThere_17 ?_
        refine rn_ifeqb (tgt := 24) hx hb dX0_countThere_18 (by decide) (fun c18 => ?_) (fun c18 => ?_)
        · refine lv_iinc (v := nI (i + 1)) (lv' := [(2, .int (nI (i + 1))), (0, .ref (a 1)), (1, .int (nI (fl (ctS th) i 0)))]) hx hb dX0_countThere_24 hl (k := 2) rfl (nI_1 i) (by decide) rfl (fun ls hl => ?_)
          refine lv_goto (tgt := 4) hx hb dX0_countThere_27 (by decide) ?_
          have ctq : fl (ctS th) (i + 1) 0 = fl (ctS th) i 0 := by rw [fl_s]; simp [ctS, c18]
          exact ih4 (i + 1) (by omega) (by omega)  ls (lv_sub hl [1, 2, 0] (by rw [ctq]; rfl))
        · refine lv_iinc (v := nI (fl (ctS th) i 0 + 1)) (lv' := [(1, .int (nI (fl (ctS th) i 0 + 1))), (0, .ref (a 1)), (2, .int (nI i))]) hx hb dX0_countThere_21 hl (k := 1) rfl (nI_1 (fl (ctS th) i 0)) (by decide) rfl (fun ls hl => ?_)
          refine lv_iinc (v := nI (i + 1)) (lv' := [(2, .int (nI (i + 1))), (1, .int (nI (fl (ctS th) i 0 + 1))), (0, .ref (a 1))]) hx hb dX0_countThere_24 hl (k := 2) rfl (nI_1 i) (by decide) rfl (fun ls hl => ?_)
          refine lv_goto (tgt := 4) hx hb dX0_countThere_27 (by decide) ?_
          have ctq : fl (ctS th) (i + 1) 0 = fl (ctS th) i 0 + 1 := by rw [fl_s]; simp [ctS, c18]
          exact ih4 (i + 1) (by omega) (by omega)  ls (lv_sub hl [2, 1, 0] (by rw [ctq]; rfl))
  exact key4 (m + 1) 0 (by omega) (by omega)  ls (lv_sub hl [2, 1, 0] rfl)
