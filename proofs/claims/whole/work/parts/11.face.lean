set_option maxHeartbeats 4000000 in
set_option maxRecDepth 100000 in
theorem c3_isOutside (l : Launch) (x : Int32) (y : Int32) (z : Int32)  : Met l yX3_isOutside wsX3_isOutside ({ frames := 0, cells := 0, slots := 0, locals := 0 }) (va_Pc [.int x, .int y, .int z] (fun _ => True)) (vp_Si (fun r => r = bI (ouB x y z))) 0 0 nF := by
  refine Met.ofW (cc := cX3_isOutside) (maxL := 3) (ret := (some .boolean)) (by decide) rfl ?_
  intro p e s mt args below meth c s₁ B hml hv
  obtain ⟨rfl, -⟩ := hv
  have hx := B.exec
  have hb := B.bytes
  have hr := B.returns
  have hts := atoms_spec (ws := wsX3_isOutside) B.pre
  have hown : s.vm.findClass RX3 = some mt.cls := findClass_of_methodNamed B.named
  have hlocks := B.notSynchronized
  have hl := lv_entry ([.int x, .int y, .int z]) (n := 3) (Nat.le_of_ble_eq_true rfl)
  rw [lg_entry_eq]
  generalize (lg_sl ([.int x, .int y, .int z]) ++ List.replicate (3 - (lg_sl ([.int x, .int y, .int z])).length) Slot.unset).toArray = ls at hl ⊢
  have hl : lv_has ls 3 [(0, .int x), (1, .int y), (2, .int z)] := hl
  refine lv_iload_n hx hb dX3_isOutside_0 rfl (lv_at hl 0 rfl) ?_
  refine lv_iload_n hx hb dX3_isOutside_1 rfl (lv_at hl 1 rfl) ?_
  refine lv_icmp_lt (tgt := 10) hx hb dX3_isOutside_2 (by decide) (fun c2 => ?_) (fun c2 => ?_)
  · refine lv_iconst (v := 1) hx hb dX3_isOutside_10 (by decide) ?_
    refine lv_goto (tgt := 15) hx hb dX3_isOutside_11 (by decide) ?_
    exact W.zret (v := 1) hx hb hr (by decide) (fun t ht hW => ⟨_, rfl, (by first | (simp [ouB, c2, bI]; done) | (simp [ouB, c2, c7, bI]; done)), ht⟩) (fun q h => absurd h List.not_mem_nil) dX3_isOutside_15
  · refine lv_iload_n hx hb dX3_isOutside_5 rfl (lv_at hl 0 rfl) ?_
    refine lv_iload_n hx hb dX3_isOutside_6 rfl (lv_at hl 2 rfl) ?_
    refine lv_icmp_le (tgt := 14) hx hb dX3_isOutside_7 (by decide) (fun c7 => ?_) (fun c7 => ?_)
    · refine lv_iconst (v := 0) hx hb dX3_isOutside_14 (by decide) ?_
      exact W.zret (v := 0) hx hb hr (by decide) (fun t ht hW => ⟨_, rfl, (by first | (simp [ouB, c2, bI]; done) | (simp [ouB, c2, c7, bI]; done)), ht⟩) (fun q h => absurd h List.not_mem_nil) dX3_isOutside_15
    · refine lv_iconst (v := 1) hx hb dX3_isOutside_10 (by decide) ?_
      refine lv_goto (tgt := 15) hx hb dX3_isOutside_11 (by decide) ?_
      exact W.zret (v := 1) hx hb hr (by decide) (fun t ht hW => ⟨_, rfl, (by first | (simp [ouB, c2, bI]; done) | (simp [ouB, c2, c7, bI]; done)), ht⟩) (fun q h => absurd h List.not_mem_nil) dX3_isOutside_15
set_option maxHeartbeats 4000000 in
set_option maxRecDepth 100000 in
theorem c3_walksUpTo (l : Launch) {D : va_G} {k : Nat → ClassId} {a : Nat → Nat} {n : Nat} {m : Nat} {ch : Int32} {fr : Nat → Nat} {to : Nat → Nat} {w : Nat → Int32} {th : Nat → Bool} {L : Nat → Nat → Int32} {la : Nat} {sw : Int32} {od : Nat → Nat} {io : Nat → Bool} {oc : Nat} {fa : Nat → Int32} {on : Nat → Nat → Int32} {gr : Int32} {sr : Int32} (ha : inj 46 a) (x : Nat) (hg : gOK n m fr to) (hx1 : x < 21) (hla : la < 21) : Met l yX3_walksUpTo wsX3_walksUpTo ({ frames := 3, cells := 0, slots := 0, locals := 86 }) (gPc D k (cW k a n m ch fr to w th L la sw od io oc fa on gr sr) [.ref (a 0), .int (nI x)]) (va_Qr (S := Unit) (fun _ => True) (fun _ r t => r = a 6 ∧ va_P D vwCl (cW k a n m ch fr to w th (wkL n m ch fr to w th L la sw x) (wka ch la sw x) ch od io oc fa on gr sr) t.heap) (cA a)) 0 0 (cA a) := by
  refine Met.ofW (cc := cX3_walksUpTo) (maxL := 2) (ret := (some (.object "SignedPaths$Walks"))) (by decide) rfl ?_
  intro p e s mt args below meth c s₁ B hml hv
  obtain ⟨rfl, hP, hK⟩ := hv
  have hx := B.exec
  have hb := B.bytes
  have hr := B.returns
  have hts := atoms_spec (ws := wsX3_walksUpTo) B.pre
  have hown : s.vm.findClass RX3 = some mt.cls := findClass_of_methodNamed B.named
  have hlocks := B.notSynchronized
  have i2 : ∀ w ∈ wsX20, w ∈ wsX3_walksUpTo := by decide +kernel
  have i3 : ∀ w ∈ wsX30, w ∈ wsX3_walksUpTo := by decide +kernel
  have hS : va_S (cA a) s.heap s.heap [] := va_S.rf
  have hD : va_D (cA a) (cW k a n m ch fr to w th L la sw od io oc fa on gr sr) := cW_D ha
  have hl := lv_entry ([.ref (a 0), .int (nI x)]) (n := 2) (Nat.le_of_ble_eq_true rfl)
  rw [lg_entry_eq]
  generalize (lg_sl ([.ref (a 0), .int (nI x)]) ++ List.replicate (2 - (lg_sl ([.ref (a 0), .int (nI x)])).length) Slot.unset).toArray = ls at hl ⊢
  have hl : lv_has ls 2 [(0, .ref (a 0)), (1, .int (nI x))] := hl
  refine lv_aload_n hx hb dX3_walksUpTo_0 rfl (lv_at hl 0 rfl) ?_
  refine va_get (D := D) (ci := 3) (v := .ref (a 6)) (C := RX3) (T := TX3) (N := 3) hx hb hts i3 hown hK hP 0 rfl rfl 1 (by decide) (hts (.fieldLink RX3 21 "SignedPaths" "walks" "LSignedPaths$Walks;") (by decide +kernel)) (fun _ h9 => h9) rfl dX3_walksUpTo_1 ?_
  refine lv_iload_n hx hb dX3_walksUpTo_4 rfl (lv_at hl 1 rfl) ?_
  refine cl_Qv (As := [.int (nI x)]) (rest := []) ⟨hx, hb, hml, hown, hts⟩ (c2_workOut l ha x hg (by omega) (by omega)) (cwV 1 hts gX3_walksUpTo_X2_workOut rfl rfl rfl (by decide +kernel) ⟨Nat.le_of_ble_eq_true rfl, Nat.le_of_ble_eq_true rfl⟩) hK hP hS (fun _ h => h) (ci := 2) (q0 := 6) rfl rfl rfl rfl hl.1 rfl (Nat.le_of_ble_eq_true rfl) dX3_walksUpTo_5 ⟨Nat.zero_le _, Nat.zero_le _⟩ (fun H locs h5 hP _ _ hS => ?_)
  have hP : va_P D vwCl (cW k a n m ch fr to w th (wkL n m ch fr to w th L la sw x) (wka ch la sw x) ch od io oc fa on gr sr) H := hP
  have hD : va_D (cA a) (cW k a n m ch fr to w th (wkL n m ch fr to w th L la sw x) (wka ch la sw x) ch od io oc fa on gr sr) := cW_D ha
  refine lv_aload_n hx hb dX3_walksUpTo_8 rfl (lv_at hl 0 rfl) ?_
  refine va_get (D := D) (ci := 3) (v := .ref (a 6)) (C := RX3) (T := TX3) (N := 3) hx hb hts i3 hown hK hP 0 rfl rfl 1 (by decide) (hts (.fieldLink RX3 21 "SignedPaths" "walks" "LSignedPaths$Walks;") (by decide +kernel)) (fun _ h9 => h9) rfl dX3_walksUpTo_9 ?_
  exact W.aret hx hb hr (Or.inl ⟨_, rfl⟩) (Or.inr ⟨_, rfl⟩) (fun t ht hW => ⟨⟨(), _, rfl, trivial, rfl, by show va_P D vwCl (cW k a n m ch fr to w th (wkL n m ch fr to w th L la sw x) (wka ch la sw x) ch od io oc fa on gr sr) t.heap; rw [ht]; exact hP⟩, hS.F ht⟩) hS.2.2 dX3_walksUpTo_12
set_option maxHeartbeats 4000000 in
set_option maxRecDepth 100000 in
theorem c3_ringlessNow (l : Launch) {D : va_G} {k : Nat → ClassId} {a : Nat → Nat} {n : Nat} {m : Nat} {ch : Int32} {fr : Nat → Nat} {to : Nat → Nat} {w : Nat → Int32} {th : Nat → Bool} {L : Nat → Nat → Int32} {la : Nat} {sw : Int32} {od : Nat → Nat} {io : Nat → Bool} {oc : Nat} {fa : Nat → Int32} {on : Nat → Nat → Int32} {gr : Int32} {sr : Int32} (ha : inj 46 a)  (hg : gOK n m fr to) : Met l yX3_ringlessNow wsX3_ringlessNow ({ frames := 4, cells := 0, slots := 0, locals := 105 }) (gPc D k (cW k a n m ch fr to w th L la sw od io oc fa on gr sr) [.ref (a 0)]) (va_Qr (S := Unit) (fun _ => True) (fun _ r t => r = a 8 ∧ va_P D vwCl (cW k a n m ch fr to w th L la sw (rOd n m ch fr to th od io sr) (rIo n m ch fr to th od io sr) (rOc n m ch fr to th od io oc sr) (rFa n m ch fr to w th od io fa sr) (rOn n m ch fr to w th od io on sr) (rGr n m ch fr to w th od io fa gr sr) ch) t.heap) (cA a)) 0 0 (cA a) := by
  refine Met.ofW (cc := cX3_ringlessNow) (maxL := 1) (ret := (some (.object "SignedPaths$Ringless"))) (by decide) rfl ?_
  intro p e s mt args below meth c s₁ B hml hv
  obtain ⟨rfl, hP, hK⟩ := hv
  have hx := B.exec
  have hb := B.bytes
  have hr := B.returns
  have hts := atoms_spec (ws := wsX3_ringlessNow) B.pre
  have hown : s.vm.findClass RX3 = some mt.cls := findClass_of_methodNamed B.named
  have hlocks := B.notSynchronized
  have i1 : ∀ w ∈ wsX10, w ∈ wsX3_ringlessNow := by decide +kernel
  have i3 : ∀ w ∈ wsX30, w ∈ wsX3_ringlessNow := by decide +kernel
  have hS : va_S (cA a) s.heap s.heap [] := va_S.rf
  have hD : va_D (cA a) (cW k a n m ch fr to w th L la sw od io oc fa on gr sr) := cW_D ha
  have hl := lv_entry ([.ref (a 0)]) (n := 1) (Nat.le_of_ble_eq_true rfl)
  rw [lg_entry_eq]
  generalize (lg_sl ([.ref (a 0)]) ++ List.replicate (1 - (lg_sl ([.ref (a 0)])).length) Slot.unset).toArray = ls at hl ⊢
  have hl : lv_has ls 1 [(0, .ref (a 0))] := hl
  refine lv_aload_n hx hb dX3_ringlessNow_0 rfl (lv_at hl 0 rfl) ?_
  refine va_get (D := D) (ci := 3) (v := .ref (a 8)) (C := RX3) (T := TX3) (N := 3) hx hb hts i3 hown hK hP 0 rfl rfl 2 (by decide) (hts (.fieldLink RX3 28 "SignedPaths" "ringless" "LSignedPaths$Ringless;") (by decide +kernel)) (fun _ h9 => h9) rfl dX3_ringlessNow_1 ?_
  refine cl_Qv (As := []) (rest := []) ⟨hx, hb, hml, hown, hts⟩ (c1_workOut l ha  hg) (cwV 0 hts gX3_ringlessNow_X1_workOut rfl rfl rfl (by decide +kernel) ⟨Nat.le_of_ble_eq_true rfl, Nat.le_of_ble_eq_true rfl⟩) hK hP hS (fun _ h => h) (ci := 1) (q0 := 8) rfl rfl rfl rfl hl.1 rfl (Nat.le_of_ble_eq_true rfl) dX3_ringlessNow_4 ⟨Nat.zero_le _, Nat.zero_le _⟩ (fun H locs h4 hP _ _ hS => ?_)
  have hP : va_P D vwCl (cW k a n m ch fr to w th L la sw (rOd n m ch fr to th od io sr) (rIo n m ch fr to th od io sr) (rOc n m ch fr to th od io oc sr) (rFa n m ch fr to w th od io fa sr) (rOn n m ch fr to w th od io on sr) (rGr n m ch fr to w th od io fa gr sr) ch) H := hP
  have hD : va_D (cA a) (cW k a n m ch fr to w th L la sw (rOd n m ch fr to th od io sr) (rIo n m ch fr to th od io sr) (rOc n m ch fr to th od io oc sr) (rFa n m ch fr to w th od io fa sr) (rOn n m ch fr to w th od io on sr) (rGr n m ch fr to w th od io fa gr sr) ch) := cW_D ha
  refine lv_aload_n hx hb dX3_ringlessNow_7 rfl (lv_at hl 0 rfl) ?_
  refine va_get (D := D) (ci := 3) (v := .ref (a 8)) (C := RX3) (T := TX3) (N := 3) hx hb hts i3 hown hK hP 0 rfl rfl 2 (by decide) (hts (.fieldLink RX3 28 "SignedPaths" "ringless" "LSignedPaths$Ringless;") (by decide +kernel)) (fun _ h9 => h9) rfl dX3_ringlessNow_8 ?_
  exact W.aret hx hb hr (Or.inl ⟨_, rfl⟩) (Or.inr ⟨_, rfl⟩) (fun t ht hW => ⟨⟨(), _, rfl, trivial, rfl, by show va_P D vwCl (cW k a n m ch fr to w th L la sw (rOd n m ch fr to th od io sr) (rIo n m ch fr to th od io sr) (rOc n m ch fr to th od io oc sr) (rFa n m ch fr to w th od io fa sr) (rOn n m ch fr to w th od io on sr) (rGr n m ch fr to w th od io fa gr sr) ch) t.heap; rw [ht]; exact hP⟩, hS.F ht⟩) hS.2.2 dX3_ringlessNow_11
set_option maxHeartbeats 4000000 in
set_option maxRecDepth 100000 in
theorem c3_node (l : Launch) {D : va_G} {k : Nat → ClassId} {a : Nat → Nat} {n : Nat} {m : Nat} {ch : Int32} {fr : Nat → Nat} {to : Nat → Nat} {w : Nat → Int32} {th : Nat → Bool} {L : Nat → Nat → Int32} {la : Nat} {sw : Int32} {od : Nat → Nat} {io : Nat → Bool} {oc : Nat} {fa : Nat → Int32} {on : Nat → Nat → Int32} {gr : Int32} {sr : Int32} (ha : inj 46 a)  (hn12 : n ≤ 12) : Met l yX3_node wsX3_node ({ frames := 1, cells := 0, slots := 0, locals := 20 }) (gPc D k (cW k a n m ch fr to w th L la sw od io oc fa on gr sr) [.ref (a 0)]) (va_Qi (S := Int32) (fun r u => u = r ∧ (r = bw (decide (n < 12)) (nI n) (-1000000004))) (fun _ t => va_P D vwCl (cW k a (bw (decide (n < 12)) (n + 1) n) m (bw (decide (n < 12)) (ch + 1) ch) fr to w th L la sw od io oc fa on gr sr) t.heap) (cA a)) 0 0 (cA a) := by
  refine Met.ofW (cc := cX3_node) (maxL := 1) (ret := (some .int)) (by decide) rfl ?_
  intro p e s mt args below meth c s₁ B hml hv
  obtain ⟨rfl, hP, hK⟩ := hv
  have hx := B.exec
  have hb := B.bytes
  have hr := B.returns
  have hts := atoms_spec (ws := wsX3_node) B.pre
  have hown : s.vm.findClass RX3 = some mt.cls := findClass_of_methodNamed B.named
  have hlocks := B.notSynchronized
  have i0 : ∀ w ∈ wsX00, w ∈ wsX3_node := by decide +kernel
  have i3 : ∀ w ∈ wsX30, w ∈ wsX3_node := by decide +kernel
  have hS : va_S (cA a) s.heap s.heap [] := va_S.rf
  have hD : va_D (cA a) (cW k a n m ch fr to w th L la sw od io oc fa on gr sr) := cW_D ha
  have hl := lv_entry ([.ref (a 0)]) (n := 1) (Nat.le_of_ble_eq_true rfl)
  rw [lg_entry_eq]
  generalize (lg_sl ([.ref (a 0)]) ++ List.replicate (1 - (lg_sl ([.ref (a 0)])).length) Slot.unset).toArray = ls at hl ⊢
  have hl : lv_has ls 1 [(0, .ref (a 0))] := hl
  refine lv_aload_n hx hb dX3_node_0 rfl (lv_at hl 0 rfl) ?_
  refine va_get (D := D) (ci := 3) (v := .ref (a 1)) (C := RX3) (T := TX3) (N := 3) hx hb hts i3 hown hK hP 0 rfl rfl 0 (by decide) (hts (.fieldLink RX3 12 "SignedPaths" "graph" "LSignedPaths$Graph;") (by decide +kernel)) (fun _ h9 => h9) rfl dX3_node_1 ?_
  refine va_get (D := D) (ci := 0) (v := .int (nI n)) (C := RX0) (T := TX0) (N := 7) hx hb hts i0 hown hK hP 1 rfl rfl 0 (by decide) (hts (.fieldLink RX3 32 "SignedPaths$Graph" "nodes" "I") (by decide +kernel)) (fun _ h9 => h9) rfl dX3_node_4 ?_
  refine lv_bipush (v := nI 12) hx hb dX3_node_7 (by decide) ?_
  refine rn_icmp_lt (tgt := 15) hx hb dX3_node_9 (by decide) (by omega) (by omega) (fun c9 => ?_) (fun c9 => ?_)
  · have hc : decide (n < 12) = true := decide_eq_true c9
    refine lv_aload_n hx hb dX3_node_15 rfl (lv_at hl 0 rfl) ?_
    refine va_get (D := D) (ci := 3) (v := .ref (a 1)) (C := RX3) (T := TX3) (N := 3) hx hb hts i3 hown hK hP 0 rfl rfl 0 (by decide) (hts (.fieldLink RX3 12 "SignedPaths" "graph" "LSignedPaths$Graph;") (by decide +kernel)) (fun _ h9 => h9) rfl dX3_node_16 ?_
    refine cl_Qi (As := []) (rest := []) ⟨hx, hb, hml, hown, hts⟩ (c0_addNode l ha  (by omega)) (cwV 0 hts gX3_node_X0_addNode rfl rfl rfl (by decide +kernel) ⟨Nat.le_of_ble_eq_true rfl, Nat.le_of_ble_eq_true rfl⟩) hK hP hS (fun _ h => h) (ci := 0) (q0 := 1) rfl rfl rfl rfl hl.1 rfl (Nat.le_of_ble_eq_true rfl) dX3_node_19 ⟨Nat.zero_le _, Nat.zero_le _⟩ (fun r19 H locs h19 hP _ _ hS => ?_)
    have hP : va_P D vwCl (cW k a (n + 1) m (ch + 1) fr to w th L la sw od io oc fa on gr sr) H := hP
    have hD : va_D (cA a) (cW k a (n + 1) m (ch + 1) fr to w th L la sw od io oc fa on gr sr) := cW_D ha
    subst h19
    exact W.iret (v := nI n) hx hb hr (fun t ht hW => ⟨⟨_, _, rfl, ⟨rfl, (by rw [bw_t hc])⟩, by show va_P D vwCl (cW k a (bw (decide (n < 12)) (n + 1) n) m (bw (decide (n < 12)) (ch + 1) ch) fr to w th L la sw od io oc fa on gr sr) t.heap; rw [ht]; rw [bw_t hc, bw_t hc]; exact hP⟩, hS.F ht⟩) hS.2.2 dX3_node_22
  · have hc : decide (n < 12) = false := decide_eq_false (by omega)
    refine lv_ldc (v := (-1000000004)) hx hb hown (hts (.constant RX3 36 (-1000000004)) (by decide +kernel)) dX3_node_12 ?_
    exact W.iret (v := (-1000000004)) hx hb hr (fun t ht hW => ⟨⟨_, _, rfl, ⟨rfl, (by rw [bw_f hc])⟩, by show va_P D vwCl (cW k a (bw (decide (n < 12)) (n + 1) n) m (bw (decide (n < 12)) (ch + 1) ch) fr to w th L la sw od io oc fa on gr sr) t.heap; rw [ht]; rw [bw_f hc, bw_f hc]; exact hP⟩, hS.F ht⟩) hS.2.2 dX3_node_14
set_option maxHeartbeats 4000000 in
set_option maxRecDepth 100000 in
theorem c3_arc (l : Launch) {D : va_G} {k : Nat → ClassId} {a : Nat → Nat} {n : Nat} {m : Nat} {ch : Int32} {fr : Nat → Nat} {to : Nat → Nat} {w : Nat → Int32} {th : Nat → Bool} {L : Nat → Nat → Int32} {la : Nat} {sw : Int32} {od : Nat → Nat} {io : Nat → Bool} {oc : Nat} {fa : Nat → Int32} {on : Nat → Nat → Int32} {gr : Int32} {sr : Int32} (ha : inj 46 a) (x : Int32) (y : Int32) (z : Int32) (hg : gOK n m fr to) : Met l yX3_arc wsX3_arc ({ frames := 2, cells := 0, slots := 0, locals := 43 }) (gPc D k (cW k a n m ch fr to w th L la sw od io oc fa on gr sr) [.ref (a 0), .int x, .int y, .int z]) (va_Qi (S := Int32) (fun r u => u = r ∧ (r = arA n m x y z)) (fun _ t => va_P D vwCl (cW k a n (bw (arB n m x y z) (m + 1) m) (bw (arB n m x y z) (ch + 1) ch) (bw (arB n m x y z) (va_up fr m x.toNatClampNeg) fr) (bw (arB n m x y z) (va_up to m y.toNatClampNeg) to) (bw (arB n m x y z) (va_up w m z) w) (bw (arB n m x y z) (va_up th m true) th) L la sw od io oc fa on gr sr) t.heap) (cA a)) 0 0 (cA a) := by
  refine Met.ofW (cc := cX3_arc) (maxL := 4) (ret := (some .int)) (by decide) rfl ?_
  intro p e s mt args below meth c s₁ B hml hv
  obtain ⟨rfl, hP, hK⟩ := hv
  have hx := B.exec
  have hb := B.bytes
  have hr := B.returns
  have hts := atoms_spec (ws := wsX3_arc) B.pre
  have hown : s.vm.findClass RX3 = some mt.cls := findClass_of_methodNamed B.named
  have hlocks := B.notSynchronized
  have i0 : ∀ w ∈ wsX00, w ∈ wsX3_arc := by decide +kernel
  have i3 : ∀ w ∈ wsX30, w ∈ wsX3_arc := by decide +kernel
  have hS : va_S (cA a) s.heap s.heap [] := va_S.rf
  have hD : va_D (cA a) (cW k a n m ch fr to w th L la sw od io oc fa on gr sr) := cW_D ha
  have hl := lv_entry ([.ref (a 0), .int x, .int y, .int z]) (n := 4) (Nat.le_of_ble_eq_true rfl)
  rw [lg_entry_eq]
  generalize (lg_sl ([.ref (a 0), .int x, .int y, .int z]) ++ List.replicate (4 - (lg_sl ([.ref (a 0), .int x, .int y, .int z])).length) Slot.unset).toArray = ls at hl ⊢
  have hl : lv_has ls 4 [(0, .ref (a 0)), (1, .int x), (2, .int y), (3, .int z)] := hl
  obtain ⟨hn12, hm40, hft⟩ := id hg
  refine lv_aload_n hx hb dX3_arc_0 rfl (lv_at hl 0 rfl) ?_
  refine va_get (D := D) (ci := 3) (v := .ref (a 1)) (C := RX3) (T := TX3) (N := 3) hx hb hts i3 hown hK hP 0 rfl rfl 0 (by decide) (hts (.fieldLink RX3 12 "SignedPaths" "graph" "LSignedPaths$Graph;") (by decide +kernel)) (fun _ h9 => h9) rfl dX3_arc_1 ?_
  refine lv_iload_n hx hb dX3_arc_4 rfl (lv_at hl 1 rfl) ?_
  refine lv_iload_n hx hb dX3_arc_5 rfl (lv_at hl 2 rfl) ?_
  refine cl_Si (As := [.int x, .int y]) (rest := []) ⟨hx, hb, hml, hown, hts⟩ (c0_hasNodes l ha x y ) (cwV 2 hts gX3_arc_X0_hasNodes rfl rfl rfl (by decide +kernel) ⟨Nat.le_of_ble_eq_true rfl, Nat.le_of_ble_eq_true rfl⟩) hK hP (ci := 0) (q0 := 1) rfl rfl rfl rfl hl.1 rfl (Nat.le_of_ble_eq_true rfl) dX3_arc_6 ⟨Nat.zero_le _, Nat.zero_le _⟩ (fun r6 h6 => ?_)
  subst h6
  refine rn_ifneb (tgt := 15) hx hb dX3_arc_9 (by decide) (fun c9 => ?_) (fun c9 => ?_)
  · refine lv_iload_n hx hb dX3_arc_15 rfl (lv_at hl 3 rfl) ?_
    refine lv_sipush (v := (-1000)) hx hb dX3_arc_16 (by decide) ?_
    refine lv_sipush (v := 1000) hx hb dX3_arc_19 (by decide) ?_
    refine cl_Ti (As := [.int z, .int (-1000), .int 1000]) (rest := []) ⟨hx, hb, hml, hown, hts⟩ (c3_isOutside l z (-1000) 1000 ) (va_cwS 3 hts gX3_arc_X3_isOutside rfl rfl rfl (by decide +kernel) ⟨Nat.le_of_ble_eq_true rfl, Nat.le_of_ble_eq_true rfl⟩) rfl hl.1 rfl (Nat.le_of_ble_eq_true rfl) dX3_arc_22 ⟨Nat.zero_le _, Nat.zero_le _⟩ (fun r22 h22 => ?_)
    subst h22
    refine rn_ifeqb (tgt := 31) hx hb dX3_arc_25 (by decide) (fun c25 => ?_) (fun c25 => ?_)
    · refine lv_aload_n hx hb dX3_arc_31 rfl (lv_at hl 0 rfl) ?_
      refine va_get (D := D) (ci := 3) (v := .ref (a 1)) (C := RX3) (T := TX3) (N := 3) hx hb hts i3 hown hK hP 0 rfl rfl 0 (by decide) (hts (.fieldLink RX3 12 "SignedPaths" "graph" "LSignedPaths$Graph;") (by decide +kernel)) (fun _ h9 => h9) rfl dX3_arc_32 ?_
      refine va_get (D := D) (ci := 0) (v := .int (nI m)) (C := RX0) (T := TX0) (N := 7) hx hb hts i0 hown hK hP 1 rfl rfl 1 (by decide) (hts (.fieldLink RX3 51 "SignedPaths$Graph" "arcs" "I") (by decide +kernel)) (fun _ h9 => h9) rfl dX3_arc_35 ?_
      refine lv_bipush (v := nI 40) hx hb dX3_arc_38 (by decide) ?_
      refine rn_icmp_lt (tgt := 46) hx hb dX3_arc_40 (by decide) (by omega) (by omega) (fun c40 => ?_) (fun c40 => ?_)
      · have hc : arB n m x y z = true := by rw [arB, c9, c25]; simp [c40]
        obtain ⟨c9a, c9b⟩ := and_t c9
        obtain ⟨u, hu, rfl⟩ := ixB_t (by omega) c9a
        obtain ⟨v, hv, rfl⟩ := ixB_t (by omega) c9b
        refine lv_aload_n hx hb dX3_arc_46 rfl (lv_at hl 0 rfl) ?_
        refine va_get (D := D) (ci := 3) (v := .ref (a 1)) (C := RX3) (T := TX3) (N := 3) hx hb hts i3 hown hK hP 0 rfl rfl 0 (by decide) (hts (.fieldLink RX3 12 "SignedPaths" "graph" "LSignedPaths$Graph;") (by decide +kernel)) (fun _ h9 => h9) rfl dX3_arc_47 ?_
        refine lv_iload_n hx hb dX3_arc_50 rfl (lv_at hl 1 rfl) ?_
        refine lv_iload_n hx hb dX3_arc_51 rfl (lv_at hl 2 rfl) ?_
        refine lv_iload_n hx hb dX3_arc_52 rfl (lv_at hl 3 rfl) ?_
        refine cl_Qi (As := [.int (nI u), .int (nI v), .int z]) (rest := []) ⟨hx, hb, hml, hown, hts⟩ (c0_addArc l ha u v z (by omega)) (cwV 3 hts gX3_arc_X0_addArc rfl rfl rfl (by decide +kernel) ⟨Nat.le_of_ble_eq_true rfl, Nat.le_of_ble_eq_true rfl⟩) hK hP hS (fun _ h => h) (ci := 0) (q0 := 1) rfl rfl rfl rfl hl.1 rfl (Nat.le_of_ble_eq_true rfl) dX3_arc_53 ⟨Nat.zero_le _, Nat.zero_le _⟩ (fun r53 H locs h53 hP _ _ hS => ?_)
        have hP : va_P D vwCl (cW k a n (m + 1) (ch + 1) (va_up fr m u) (va_up to m v) (va_up w m z) (va_up th m true) L la sw od io oc fa on gr sr) H := hP
        have hD : va_D (cA a) (cW k a n (m + 1) (ch + 1) (va_up fr m u) (va_up to m v) (va_up w m z) (va_up th m true) L la sw od io oc fa on gr sr) := cW_D ha
        subst h53
        exact W.iret (v := nI m) hx hb hr (fun t ht hW => ⟨⟨_, _, rfl, ⟨rfl, (by rw [arA, if_pos c9, if_neg (by rw [c25]; decide), if_pos c40])⟩, by show va_P D vwCl (cW k a n (bw (arB n m (nI u) (nI v) z) (m + 1) m) (bw (arB n m (nI u) (nI v) z) (ch + 1) ch) (bw (arB n m (nI u) (nI v) z) (va_up fr m (nI u).toNatClampNeg) fr) (bw (arB n m (nI u) (nI v) z) (va_up to m (nI v).toNatClampNeg) to) (bw (arB n m (nI u) (nI v) z) (va_up w m z) w) (bw (arB n m (nI u) (nI v) z) (va_up th m true) th) L la sw od io oc fa on gr sr) t.heap; rw [ht]; rw [bw_t hc, bw_t hc, bw_t hc, bw_t hc, bw_t hc, bw_t hc, nI_clamp (by omega), nI_clamp (by omega)]; exact hP⟩, hS.F ht⟩) hS.2.2 dX3_arc_56
      · have hc : arB n m x y z = false := by simp [arB, c40]
        refine lv_ldc (v := (-1000000004)) hx hb hown (hts (.constant RX3 36 (-1000000004)) (by decide +kernel)) dX3_arc_43 ?_
        exact W.iret (v := (-1000000004)) hx hb hr (fun t ht hW => ⟨⟨_, _, rfl, ⟨rfl, (by rw [arA, if_pos c9, if_neg (by rw [c25]; decide), if_neg (by omega)])⟩, by show va_P D vwCl (cW k a n (bw (arB n m x y z) (m + 1) m) (bw (arB n m x y z) (ch + 1) ch) (bw (arB n m x y z) (va_up fr m x.toNatClampNeg) fr) (bw (arB n m x y z) (va_up to m y.toNatClampNeg) to) (bw (arB n m x y z) (va_up w m z) w) (bw (arB n m x y z) (va_up th m true) th) L la sw od io oc fa on gr sr) t.heap; rw [ht]; rw [bw_f hc, bw_f hc, bw_f hc, bw_f hc, bw_f hc, bw_f hc]; exact hP⟩, hS.F ht⟩) hS.2.2 dX3_arc_45
    · have hc : arB n m x y z = false := by simp [arB, c25]
      refine lv_ldc (v := (-1000000002)) hx hb hown (hts (.constant RX3 50 (-1000000002)) (by decide +kernel)) dX3_arc_28 ?_
      exact W.iret (v := (-1000000002)) hx hb hr (fun t ht hW => ⟨⟨_, _, rfl, ⟨rfl, (by simp [arA, c9, c25])⟩, by show va_P D vwCl (cW k a n (bw (arB n m x y z) (m + 1) m) (bw (arB n m x y z) (ch + 1) ch) (bw (arB n m x y z) (va_up fr m x.toNatClampNeg) fr) (bw (arB n m x y z) (va_up to m y.toNatClampNeg) to) (bw (arB n m x y z) (va_up w m z) w) (bw (arB n m x y z) (va_up th m true) th) L la sw od io oc fa on gr sr) t.heap; rw [ht]; rw [bw_f hc, bw_f hc, bw_f hc, bw_f hc, bw_f hc, bw_f hc]; exact hP⟩, hS.F ht⟩) hS.2.2 dX3_arc_30
  · have hc : arB n m x y z = false := by simp [arB, c9]
    refine lv_ldc (v := (-1000000001)) hx hb hown (hts (.constant RX3 45 (-1000000001)) (by decide +kernel)) dX3_arc_12 ?_
    exact W.iret (v := (-1000000001)) hx hb hr (fun t ht hW => ⟨⟨_, _, rfl, ⟨rfl, (by simp [arA, c9])⟩, by show va_P D vwCl (cW k a n (bw (arB n m x y z) (m + 1) m) (bw (arB n m x y z) (ch + 1) ch) (bw (arB n m x y z) (va_up fr m x.toNatClampNeg) fr) (bw (arB n m x y z) (va_up to m y.toNatClampNeg) to) (bw (arB n m x y z) (va_up w m z) w) (bw (arB n m x y z) (va_up th m true) th) L la sw od io oc fa on gr sr) t.heap; rw [ht]; rw [bw_f hc, bw_f hc, bw_f hc, bw_f hc, bw_f hc, bw_f hc]; exact hP⟩, hS.F ht⟩) hS.2.2 dX3_arc_14
set_option maxHeartbeats 4000000 in
set_option maxRecDepth 100000 in
theorem c3_weight (l : Launch) {D : va_G} {k : Nat → ClassId} {a : Nat → Nat} {n : Nat} {m : Nat} {ch : Int32} {fr : Nat → Nat} {to : Nat → Nat} {w : Nat → Int32} {th : Nat → Bool} {L : Nat → Nat → Int32} {la : Nat} {sw : Int32} {od : Nat → Nat} {io : Nat → Bool} {oc : Nat} {fa : Nat → Int32} {on : Nat → Nat → Int32} {gr : Int32} {sr : Int32} (ha : inj 46 a) (x : Int32) (z : Int32) (hg : gOK n m fr to) : Met l yX3_weight wsX3_weight ({ frames := 1, cells := 0, slots := 0, locals := 23 }) (gPc D k (cW k a n m ch fr to w th L la sw od io oc fa on gr sr) [.ref (a 0), .int x, .int z]) (va_Qi (S := Int32) (fun r u => u = r ∧ (r = weA m w x z)) (fun _ t => va_P D vwCl (cW k a n m (bw (weB m x z) (ch + 1) ch) fr to (bw (weB m x z) (va_up w x.toNatClampNeg z) w) th L la sw od io oc fa on gr sr) t.heap) (cA a)) 0 0 (cA a) := by
  refine Met.ofW (cc := cX3_weight) (maxL := 3) (ret := (some .int)) (by decide) rfl ?_
  intro p e s mt args below meth c s₁ B hml hv
  obtain ⟨rfl, hP, hK⟩ := hv
  have hx := B.exec
  have hb := B.bytes
  have hr := B.returns
  have hts := atoms_spec (ws := wsX3_weight) B.pre
  have hown : s.vm.findClass RX3 = some mt.cls := findClass_of_methodNamed B.named
  have hlocks := B.notSynchronized
  have i0 : ∀ w ∈ wsX00, w ∈ wsX3_weight := by decide +kernel
  have i3 : ∀ w ∈ wsX30, w ∈ wsX3_weight := by decide +kernel
  have hS : va_S (cA a) s.heap s.heap [] := va_S.rf
  have hD : va_D (cA a) (cW k a n m ch fr to w th L la sw od io oc fa on gr sr) := cW_D ha
  have hl := lv_entry ([.ref (a 0), .int x, .int z]) (n := 3) (Nat.le_of_ble_eq_true rfl)
  rw [lg_entry_eq]
  generalize (lg_sl ([.ref (a 0), .int x, .int z]) ++ List.replicate (3 - (lg_sl ([.ref (a 0), .int x, .int z])).length) Slot.unset).toArray = ls at hl ⊢
  have hl : lv_has ls 3 [(0, .ref (a 0)), (1, .int x), (2, .int z)] := hl
  obtain ⟨hn12, hm40, hft⟩ := id hg
  refine lv_aload_n hx hb dX3_weight_0 rfl (lv_at hl 0 rfl) ?_
  refine va_get (D := D) (ci := 3) (v := .ref (a 1)) (C := RX3) (T := TX3) (N := 3) hx hb hts i3 hown hK hP 0 rfl rfl 0 (by decide) (hts (.fieldLink RX3 12 "SignedPaths" "graph" "LSignedPaths$Graph;") (by decide +kernel)) (fun _ h9 => h9) rfl dX3_weight_1 ?_
  refine lv_iload_n hx hb dX3_weight_4 rfl (lv_at hl 1 rfl) ?_
  refine cl_Si (As := [.int x]) (rest := []) ⟨hx, hb, hml, hown, hts⟩ (c0_hasArc l ha x ) (cwV 1 hts gX3_weight_X0_hasArc rfl rfl rfl (by decide +kernel) ⟨Nat.le_of_ble_eq_true rfl, Nat.le_of_ble_eq_true rfl⟩) hK hP (ci := 0) (q0 := 1) rfl rfl rfl rfl hl.1 rfl (Nat.le_of_ble_eq_true rfl) dX3_weight_5 ⟨Nat.zero_le _, Nat.zero_le _⟩ (fun r5 h5 => ?_)
  subst h5
  refine rn_ifneb (tgt := 14) hx hb dX3_weight_8 (by decide) (fun c8 => ?_) (fun c8 => ?_)
  · refine lv_iload_n hx hb dX3_weight_14 rfl (lv_at hl 2 rfl) ?_
    refine lv_sipush (v := (-1000)) hx hb dX3_weight_15 (by decide) ?_
    refine lv_sipush (v := 1000) hx hb dX3_weight_18 (by decide) ?_
    refine cl_Ti (As := [.int z, .int (-1000), .int 1000]) (rest := []) ⟨hx, hb, hml, hown, hts⟩ (c3_isOutside l z (-1000) 1000 ) (va_cwS 3 hts gX3_weight_X3_isOutside rfl rfl rfl (by decide +kernel) ⟨Nat.le_of_ble_eq_true rfl, Nat.le_of_ble_eq_true rfl⟩) rfl hl.1 rfl (Nat.le_of_ble_eq_true rfl) dX3_weight_21 ⟨Nat.zero_le _, Nat.zero_le _⟩ (fun r21 h21 => ?_)
    subst h21
    refine rn_ifeqb (tgt := 30) hx hb dX3_weight_24 (by decide) (fun c24 => ?_) (fun c24 => ?_)
    · have hc : weB m x z = true := by simp [weB, c8, c24]
      obtain ⟨j, hj, rfl⟩ := ixB_t (by omega) c8
      refine lv_aload_n hx hb dX3_weight_30 rfl (lv_at hl 0 rfl) ?_
      refine va_get (D := D) (ci := 3) (v := .ref (a 1)) (C := RX3) (T := TX3) (N := 3) hx hb hts i3 hown hK hP 0 rfl rfl 0 (by decide) (hts (.fieldLink RX3 12 "SignedPaths" "graph" "LSignedPaths$Graph;") (by decide +kernel)) (fun _ h9 => h9) rfl dX3_weight_31 ?_
      refine lv_iload_n hx hb dX3_weight_34 rfl (lv_at hl 1 rfl) ?_
      refine lv_iload_n hx hb dX3_weight_35 rfl (lv_at hl 2 rfl) ?_
      refine cl_Qi (As := [.int (nI j), .int z]) (rest := []) ⟨hx, hb, hml, hown, hts⟩ (c0_changeWeight l ha j z (by omega)) (cwV 2 hts gX3_weight_X0_changeWeight rfl rfl rfl (by decide +kernel) ⟨Nat.le_of_ble_eq_true rfl, Nat.le_of_ble_eq_true rfl⟩) hK hP hS (fun _ h => h) (ci := 0) (q0 := 1) rfl rfl rfl rfl hl.1 rfl (Nat.le_of_ble_eq_true rfl) dX3_weight_36 ⟨Nat.zero_le _, Nat.zero_le _⟩ (fun r36 H locs h36 hP _ _ hS => ?_)
      have hP : va_P D vwCl (cW k a n m (ch + 1) fr to (va_up w j z) th L la sw od io oc fa on gr sr) H := hP
      have hD : va_D (cA a) (cW k a n m (ch + 1) fr to (va_up w j z) th L la sw od io oc fa on gr sr) := cW_D ha
      subst h36
      exact W.iret (v := w j) hx hb hr (fun t ht hW => ⟨⟨_, _, rfl, ⟨rfl, (by rw [weA, if_pos c8, if_neg (by rw [c24]; decide), nI_clamp (by omega)])⟩, by show va_P D vwCl (cW k a n m (bw (weB m (nI j) z) (ch + 1) ch) fr to (bw (weB m (nI j) z) (va_up w (nI j).toNatClampNeg z) w) th L la sw od io oc fa on gr sr) t.heap; rw [ht]; rw [bw_t hc, bw_t hc, nI_clamp (by omega)]; exact hP⟩, hS.F ht⟩) hS.2.2 dX3_weight_39
    · have hc : weB m x z = false := by simp [weB, c24]
      refine lv_ldc (v := (-1000000002)) hx hb hown (hts (.constant RX3 50 (-1000000002)) (by decide +kernel)) dX3_weight_27 ?_
      exact W.iret (v := (-1000000002)) hx hb hr (fun t ht hW => ⟨⟨_, _, rfl, ⟨rfl, (by simp [weA, c8, c24])⟩, by show va_P D vwCl (cW k a n m (bw (weB m x z) (ch + 1) ch) fr to (bw (weB m x z) (va_up w x.toNatClampNeg z) w) th L la sw od io oc fa on gr sr) t.heap; rw [ht]; rw [bw_f hc, bw_f hc]; exact hP⟩, hS.F ht⟩) hS.2.2 dX3_weight_29
  · have hc : weB m x z = false := by simp [weB, c8]
    refine lv_ldc (v := (-1000000001)) hx hb hown (hts (.constant RX3 45 (-1000000001)) (by decide +kernel)) dX3_weight_11 ?_
    exact W.iret (v := (-1000000001)) hx hb hr (fun t ht hW => ⟨⟨_, _, rfl, ⟨rfl, (by simp [weA, c8])⟩, by show va_P D vwCl (cW k a n m (bw (weB m x z) (ch + 1) ch) fr to (bw (weB m x z) (va_up w x.toNatClampNeg z) w) th L la sw od io oc fa on gr sr) t.heap; rw [ht]; rw [bw_f hc, bw_f hc]; exact hP⟩, hS.F ht⟩) hS.2.2 dX3_weight_13
set_option maxHeartbeats 4000000 in
set_option maxRecDepth 100000 in
theorem c3_turn (l : Launch) {D : va_G} {k : Nat → ClassId} {a : Nat → Nat} {n : Nat} {m : Nat} {ch : Int32} {fr : Nat → Nat} {to : Nat → Nat} {w : Nat → Int32} {th : Nat → Bool} {L : Nat → Nat → Int32} {la : Nat} {sw : Int32} {od : Nat → Nat} {io : Nat → Bool} {oc : Nat} {fa : Nat → Int32} {on : Nat → Nat → Int32} {gr : Int32} {sr : Int32} (ha : inj 46 a) (x : Int32) (hg : gOK n m fr to) : Met l yX3_turn wsX3_turn ({ frames := 1, cells := 0, slots := 0, locals := 21 }) (gPc D k (cW k a n m ch fr to w th L la sw od io oc fa on gr sr) [.ref (a 0), .int x]) (va_Qi (S := Int32) (fun r u => u = r ∧ (r = bw (ixB x m) (bI (!(th x.toNatClampNeg))) (-1000000001))) (fun _ t => va_P D vwCl (cW k a n m (bw (ixB x m) (ch + 1) ch) fr to w (bw (ixB x m) (va_up th x.toNatClampNeg (!(th x.toNatClampNeg))) th) L la sw od io oc fa on gr sr) t.heap) (cA a)) 0 0 (cA a) := by
  refine Met.ofW (cc := cX3_turn) (maxL := 2) (ret := (some .int)) (by decide) rfl ?_
  intro p e s mt args below meth c s₁ B hml hv
  obtain ⟨rfl, hP, hK⟩ := hv
  have hx := B.exec
  have hb := B.bytes
  have hr := B.returns
  have hts := atoms_spec (ws := wsX3_turn) B.pre
  have hown : s.vm.findClass RX3 = some mt.cls := findClass_of_methodNamed B.named
  have hlocks := B.notSynchronized
  have i0 : ∀ w ∈ wsX00, w ∈ wsX3_turn := by decide +kernel
  have i3 : ∀ w ∈ wsX30, w ∈ wsX3_turn := by decide +kernel
  have hS : va_S (cA a) s.heap s.heap [] := va_S.rf
  have hD : va_D (cA a) (cW k a n m ch fr to w th L la sw od io oc fa on gr sr) := cW_D ha
  have hl := lv_entry ([.ref (a 0), .int x]) (n := 2) (Nat.le_of_ble_eq_true rfl)
  rw [lg_entry_eq]
  generalize (lg_sl ([.ref (a 0), .int x]) ++ List.replicate (2 - (lg_sl ([.ref (a 0), .int x])).length) Slot.unset).toArray = ls at hl ⊢
  have hl : lv_has ls 2 [(0, .ref (a 0)), (1, .int x)] := hl
  obtain ⟨hn12, hm40, hft⟩ := id hg
  refine lv_aload_n hx hb dX3_turn_0 rfl (lv_at hl 0 rfl) ?_
  refine va_get (D := D) (ci := 3) (v := .ref (a 1)) (C := RX3) (T := TX3) (N := 3) hx hb hts i3 hown hK hP 0 rfl rfl 0 (by decide) (hts (.fieldLink RX3 12 "SignedPaths" "graph" "LSignedPaths$Graph;") (by decide +kernel)) (fun _ h9 => h9) rfl dX3_turn_1 ?_
  refine lv_iload_n hx hb dX3_turn_4 rfl (lv_at hl 1 rfl) ?_
  refine cl_Si (As := [.int x]) (rest := []) ⟨hx, hb, hml, hown, hts⟩ (c0_hasArc l ha x ) (cwV 1 hts gX3_turn_X0_hasArc rfl rfl rfl (by decide +kernel) ⟨Nat.le_of_ble_eq_true rfl, Nat.le_of_ble_eq_true rfl⟩) hK hP (ci := 0) (q0 := 1) rfl rfl rfl rfl hl.1 rfl (Nat.le_of_ble_eq_true rfl) dX3_turn_5 ⟨Nat.zero_le _, Nat.zero_le _⟩ (fun r5 h5 => ?_)
  subst h5
  refine rn_ifneb (tgt := 14) hx hb dX3_turn_8 (by decide) (fun c8 => ?_) (fun c8 => ?_)
  · obtain ⟨j, hj, rfl⟩ := ixB_t (by omega) c8
    refine lv_aload_n hx hb dX3_turn_14 rfl (lv_at hl 0 rfl) ?_
    refine va_get (D := D) (ci := 3) (v := .ref (a 1)) (C := RX3) (T := TX3) (N := 3) hx hb hts i3 hown hK hP 0 rfl rfl 0 (by decide) (hts (.fieldLink RX3 12 "SignedPaths" "graph" "LSignedPaths$Graph;") (by decide +kernel)) (fun _ h9 => h9) rfl dX3_turn_15 ?_
    refine lv_iload_n hx hb dX3_turn_18 rfl (lv_at hl 1 rfl) ?_
    refine cl_Qi (As := [.int (nI j)]) (rest := []) ⟨hx, hb, hml, hown, hts⟩ (c0_flip l ha j (by omega)) (cwV 1 hts gX3_turn_X0_flip rfl rfl rfl (by decide +kernel) ⟨Nat.le_of_ble_eq_true rfl, Nat.le_of_ble_eq_true rfl⟩) hK hP hS (fun _ h => h) (ci := 0) (q0 := 1) rfl rfl rfl rfl hl.1 rfl (Nat.le_of_ble_eq_true rfl) dX3_turn_19 ⟨Nat.zero_le _, Nat.zero_le _⟩ (fun r19 H locs h19 hP _ _ hS => ?_)
    have hP : va_P D vwCl (cW k a n m (ch + 1) fr to w (va_up th j (!(th j))) L la sw od io oc fa on gr sr) H := hP
    have hD : va_D (cA a) (cW k a n m (ch + 1) fr to w (va_up th j (!(th j))) L la sw od io oc fa on gr sr) := cW_D ha
    subst h19
    exact W.iret (v := bI (!(th j))) hx hb hr (fun t ht hW => ⟨⟨_, _, rfl, ⟨rfl, (by rw [bw_t c8, nI_clamp (by omega)])⟩, by show va_P D vwCl (cW k a n m (bw (ixB (nI j) m) (ch + 1) ch) fr to w (bw (ixB (nI j) m) (va_up th (nI j).toNatClampNeg (!(th (nI j).toNatClampNeg))) th) L la sw od io oc fa on gr sr) t.heap; rw [ht]; rw [bw_t c8, bw_t c8, nI_clamp (by omega)]; exact hP⟩, hS.F ht⟩) hS.2.2 dX3_turn_22
  · refine lv_ldc (v := (-1000000001)) hx hb hown (hts (.constant RX3 45 (-1000000001)) (by decide +kernel)) dX3_turn_11 ?_
    exact W.iret (v := (-1000000001)) hx hb hr (fun t ht hW => ⟨⟨_, _, rfl, ⟨rfl, (by rw [bw_f c8])⟩, by show va_P D vwCl (cW k a n m (bw (ixB x m) (ch + 1) ch) fr to w (bw (ixB x m) (va_up th x.toNatClampNeg (!(th x.toNatClampNeg))) th) L la sw od io oc fa on gr sr) t.heap; rw [ht]; rw [bw_f c8, bw_f c8]; exact hP⟩, hS.F ht⟩) hS.2.2 dX3_turn_13
set_option maxHeartbeats 4000000 in
set_option maxRecDepth 100000 in
theorem c3_clear (l : Launch) {D : va_G} {k : Nat → ClassId} {a : Nat → Nat} {n : Nat} {m : Nat} {ch : Int32} {fr : Nat → Nat} {to : Nat → Nat} {w : Nat → Int32} {th : Nat → Bool} {L : Nat → Nat → Int32} {la : Nat} {sw : Int32} {od : Nat → Nat} {io : Nat → Bool} {oc : Nat} {fa : Nat → Int32} {on : Nat → Nat → Int32} {gr : Int32} {sr : Int32} (ha : inj 46 a)   : Met l yX3_clear wsX3_clear ({ frames := 1, cells := 0, slots := 0, locals := 21 }) (gPc D k (cW k a n m ch fr to w th L la sw od io oc fa on gr sr) [.ref (a 0)]) (va_Qi (S := Int32) (fun r u => u = r ∧ (r = nI m)) (fun _ t => va_P D vwCl (cW k a 0 0 (ch + 1) fr to w th L la sw od io oc fa on gr sr) t.heap) (cA a)) 0 0 (cA a) := by
  refine Met.ofW (cc := cX3_clear) (maxL := 1) (ret := (some .int)) (by decide) rfl ?_
  intro p e s mt args below meth c s₁ B hml hv
  obtain ⟨rfl, hP, hK⟩ := hv
  have hx := B.exec
  have hb := B.bytes
  have hr := B.returns
  have hts := atoms_spec (ws := wsX3_clear) B.pre
  have hown : s.vm.findClass RX3 = some mt.cls := findClass_of_methodNamed B.named
  have hlocks := B.notSynchronized
  have i0 : ∀ w ∈ wsX00, w ∈ wsX3_clear := by decide +kernel
  have i3 : ∀ w ∈ wsX30, w ∈ wsX3_clear := by decide +kernel
  have hS : va_S (cA a) s.heap s.heap [] := va_S.rf
  have hD : va_D (cA a) (cW k a n m ch fr to w th L la sw od io oc fa on gr sr) := cW_D ha
  have hl := lv_entry ([.ref (a 0)]) (n := 1) (Nat.le_of_ble_eq_true rfl)
  rw [lg_entry_eq]
  generalize (lg_sl ([.ref (a 0)]) ++ List.replicate (1 - (lg_sl ([.ref (a 0)])).length) Slot.unset).toArray = ls at hl ⊢
  have hl : lv_has ls 1 [(0, .ref (a 0))] := hl
  refine lv_aload_n hx hb dX3_clear_0 rfl (lv_at hl 0 rfl) ?_
  refine va_get (D := D) (ci := 3) (v := .ref (a 1)) (C := RX3) (T := TX3) (N := 3) hx hb hts i3 hown hK hP 0 rfl rfl 0 (by decide) (hts (.fieldLink RX3 12 "SignedPaths" "graph" "LSignedPaths$Graph;") (by decide +kernel)) (fun _ h9 => h9) rfl dX3_clear_1 ?_
  refine cl_Qi (As := []) (rest := []) ⟨hx, hb, hml, hown, hts⟩ (c0_empty l ha  ) (cwV 0 hts gX3_clear_X0_empty rfl rfl rfl (by decide +kernel) ⟨Nat.le_of_ble_eq_true rfl, Nat.le_of_ble_eq_true rfl⟩) hK hP hS (fun _ h => h) (ci := 0) (q0 := 1) rfl rfl rfl rfl hl.1 rfl (Nat.le_of_ble_eq_true rfl) dX3_clear_4 ⟨Nat.zero_le _, Nat.zero_le _⟩ (fun r4 H locs h4 hP _ _ hS => ?_)
  have hP : va_P D vwCl (cW k a 0 0 (ch + 1) fr to w th L la sw od io oc fa on gr sr) H := hP
  have hD : va_D (cA a) (cW k a 0 0 (ch + 1) fr to w th L la sw od io oc fa on gr sr) := cW_D ha
  subst h4
  exact W.iret (v := nI m) hx hb hr (fun t ht hW => ⟨⟨_, _, rfl, ⟨rfl, rfl⟩, by show va_P D vwCl (cW k a 0 0 (ch + 1) fr to w th L la sw od io oc fa on gr sr) t.heap; rw [ht]; exact hP⟩, hS.F ht⟩) hS.2.2 dX3_clear_7
set_option maxHeartbeats 4000000 in
set_option maxRecDepth 100000 in
theorem c3_told (l : Launch) {D : va_G} {k : Nat → ClassId} {a : Nat → Nat} {n : Nat} {m : Nat} {ch : Int32} {fr : Nat → Nat} {to : Nat → Nat} {w : Nat → Int32} {th : Nat → Bool} {L : Nat → Nat → Int32} {la : Nat} {sw : Int32} {od : Nat → Nat} {io : Nat → Bool} {oc : Nat} {fa : Nat → Int32} {on : Nat → Nat → Int32} {gr : Int32} {sr : Int32} (ha : inj 46 a) (x : Int32) (hm40 : m ≤ 40) : Met l yX3_told wsX3_told ({ frames := 1, cells := 0, slots := 0, locals := 22 }) (gPc D k (cW k a n m ch fr to w th L la sw od io oc fa on gr sr) [.ref (a 0), .int x]) (vp_Si (fun r => r = toA n m th x)) 0 0 nF := by
  refine Met.ofW (cc := cX3_told) (maxL := 2) (ret := (some .int)) (by decide) rfl ?_
  intro p e s mt args below meth c s₁ B hml hv
  obtain ⟨rfl, hP, hK⟩ := hv
  have hx := B.exec
  have hb := B.bytes
  have hr := B.returns
  have hts := atoms_spec (ws := wsX3_told) B.pre
  have hown : s.vm.findClass RX3 = some mt.cls := findClass_of_methodNamed B.named
  have hlocks := B.notSynchronized
  have i0 : ∀ w ∈ wsX00, w ∈ wsX3_told := by decide +kernel
  have i3 : ∀ w ∈ wsX30, w ∈ wsX3_told := by decide +kernel
  have hl := lv_entry ([.ref (a 0), .int x]) (n := 2) (Nat.le_of_ble_eq_true rfl)
  rw [lg_entry_eq]
  generalize (lg_sl ([.ref (a 0), .int x]) ++ List.replicate (2 - (lg_sl ([.ref (a 0), .int x])).length) Slot.unset).toArray = ls at hl ⊢
  have hl : lv_has ls 2 [(0, .ref (a 0)), (1, .int x)] := hl
  refine lv_iload_n hx hb dX3_told_0 rfl (lv_at hl 1 rfl) ?_
  by_cases e0 : x = 0
  · refine lv_tableIn (tgt := 28) hx hb dX3_told_1 (by rw [e0]; decide) (by rw [e0]; decide) (by rw [e0]; rfl) (by decide) ?_
    refine lv_aload_n hx hb dX3_told_28 rfl (lv_at hl 0 rfl) ?_
    refine va_get (D := D) (ci := 3) (v := .ref (a 1)) (C := RX3) (T := TX3) (N := 3) hx hb hts i3 hown hK hP 0 rfl rfl 0 (by decide) (hts (.fieldLink RX3 12 "SignedPaths" "graph" "LSignedPaths$Graph;") (by decide +kernel)) (fun _ h9 => h9) rfl dX3_told_29 ?_
    refine va_get (D := D) (ci := 0) (v := .int (nI n)) (C := RX0) (T := TX0) (N := 7) hx hb hts i0 hown hK hP 1 rfl rfl 0 (by decide) (hts (.fieldLink RX3 32 "SignedPaths$Graph" "nodes" "I") (by decide +kernel)) (fun _ h9 => h9) rfl dX3_told_32 ?_
    exact W.iret (v := nI n) hx hb hr (fun t ht hW => ⟨_, rfl, (by rw [toA, if_pos e0]), ht⟩) (fun q h => absurd h List.not_mem_nil) dX3_told_35
  by_cases e1 : x = 1
  · refine lv_tableIn (tgt := 36) hx hb dX3_told_1 (by rw [e1]; decide) (by rw [e1]; decide) (by rw [e1]; rfl) (by decide) ?_
    refine lv_aload_n hx hb dX3_told_36 rfl (lv_at hl 0 rfl) ?_
    refine va_get (D := D) (ci := 3) (v := .ref (a 1)) (C := RX3) (T := TX3) (N := 3) hx hb hts i3 hown hK hP 0 rfl rfl 0 (by decide) (hts (.fieldLink RX3 12 "SignedPaths" "graph" "LSignedPaths$Graph;") (by decide +kernel)) (fun _ h9 => h9) rfl dX3_told_37 ?_
    refine va_get (D := D) (ci := 0) (v := .int (nI m)) (C := RX0) (T := TX0) (N := 7) hx hb hts i0 hown hK hP 1 rfl rfl 1 (by decide) (hts (.fieldLink RX3 51 "SignedPaths$Graph" "arcs" "I") (by decide +kernel)) (fun _ h9 => h9) rfl dX3_told_40 ?_
    exact W.iret (v := nI m) hx hb hr (fun t ht hW => ⟨_, rfl, (by rw [toA, if_neg e0, if_pos e1]), ht⟩) (fun q h => absurd h List.not_mem_nil) dX3_told_43
  by_cases e2 : x = 2
  · refine lv_tableIn (tgt := 44) hx hb dX3_told_1 (by rw [e2]; decide) (by rw [e2]; decide) (by rw [e2]; rfl) (by decide) ?_
    refine lv_aload_n hx hb dX3_told_44 rfl (lv_at hl 0 rfl) ?_
    refine va_get (D := D) (ci := 3) (v := .ref (a 1)) (C := RX3) (T := TX3) (N := 3) hx hb hts i3 hown hK hP 0 rfl rfl 0 (by decide) (hts (.fieldLink RX3 12 "SignedPaths" "graph" "LSignedPaths$Graph;") (by decide +kernel)) (fun _ h9 => h9) rfl dX3_told_45 ?_
    refine cl_Si (As := []) (rest := []) ⟨hx, hb, hml, hown, hts⟩ (c0_countThere l ha  (by omega)) (cwV 0 hts gX3_told_X0_countThere rfl rfl rfl (by decide +kernel) ⟨Nat.le_of_ble_eq_true rfl, Nat.le_of_ble_eq_true rfl⟩) hK hP (ci := 0) (q0 := 1) rfl rfl rfl rfl hl.1 rfl (Nat.le_of_ble_eq_true rfl) dX3_told_48 ⟨Nat.zero_le _, Nat.zero_le _⟩ (fun r48 h48 => ?_)
    subst h48
    exact W.iret (v := nI (fl (ctS th) m 0)) hx hb hr (fun t ht hW => ⟨_, rfl, (by rw [toA, if_neg e0, if_neg e1, if_pos e2]), ht⟩) (fun q h => absurd h List.not_mem_nil) dX3_told_51
  refine lv_tableOut (tgt := 52) hx hb dX3_told_1 (tw3 e0 e1 e2) (by decide) ?_
  refine lv_ldc (v := (-1000000002)) hx hb hown (hts (.constant RX3 50 (-1000000002)) (by decide +kernel)) dX3_told_52 ?_
  exact W.iret (v := (-1000000002)) hx hb hr (fun t ht hW => ⟨_, rfl, (by rw [toA, if_neg e0, if_neg e1, if_neg e2]), ht⟩) (fun q h => absurd h List.not_mem_nil) dX3_told_54
set_option maxHeartbeats 4000000 in
set_option maxRecDepth 100000 in
theorem c3_least (l : Launch) {D : va_G} {k : Nat → ClassId} {a : Nat → Nat} {n : Nat} {m : Nat} {ch : Int32} {fr : Nat → Nat} {to : Nat → Nat} {w : Nat → Int32} {th : Nat → Bool} {L : Nat → Nat → Int32} {la : Nat} {sw : Int32} {od : Nat → Nat} {io : Nat → Bool} {oc : Nat} {fa : Nat → Int32} {on : Nat → Nat → Int32} {gr : Int32} {sr : Int32} (ha : inj 46 a) (x : Int32) (y : Int32) (hg : gOK n m fr to) (hla : la < 21) : Met l yX3_least wsX3_least ({ frames := 4, cells := 0, slots := 0, locals := 107 }) (gPc D k (cW k a n m ch fr to w th L la sw od io oc fa on gr sr) [.ref (a 0), .int x, .int y]) (va_Qi (S := Int32) (fun r u => u = r ∧ (r = bw (ixB x n && ixB y n) (leastF n (wkL n m ch fr to w th L la sw 12) x.toNatClampNeg y.toNatClampNeg) (-1000000001))) (fun _ t => va_P D vwCl (cW k a n m ch fr to w th (bw (ixB x n && ixB y n) (wkL n m ch fr to w th L la sw 12) L) (bw (ixB x n && ixB y n) (wka ch la sw 12) la) (bw (ixB x n && ixB y n) ch sw) od io oc fa on gr sr) t.heap) (cA a)) 0 0 (cA a) := by
  refine Met.ofW (cc := cX3_least) (maxL := 3) (ret := (some .int)) (by decide) rfl ?_
  intro p e s mt args below meth c s₁ B hml hv
  obtain ⟨rfl, hP, hK⟩ := hv
  have hx := B.exec
  have hb := B.bytes
  have hr := B.returns
  have hts := atoms_spec (ws := wsX3_least) B.pre
  have hown : s.vm.findClass RX3 = some mt.cls := findClass_of_methodNamed B.named
  have hlocks := B.notSynchronized
  have i0 : ∀ w ∈ wsX00, w ∈ wsX3_least := by decide +kernel
  have i2 : ∀ w ∈ wsX20, w ∈ wsX3_least := by decide +kernel
  have i3 : ∀ w ∈ wsX30, w ∈ wsX3_least := by decide +kernel
  have hS : va_S (cA a) s.heap s.heap [] := va_S.rf
  have hD : va_D (cA a) (cW k a n m ch fr to w th L la sw od io oc fa on gr sr) := cW_D ha
  have hl := lv_entry ([.ref (a 0), .int x, .int y]) (n := 3) (Nat.le_of_ble_eq_true rfl)
  rw [lg_entry_eq]
  generalize (lg_sl ([.ref (a 0), .int x, .int y]) ++ List.replicate (3 - (lg_sl ([.ref (a 0), .int x, .int y])).length) Slot.unset).toArray = ls at hl ⊢
  have hl : lv_has ls 3 [(0, .ref (a 0)), (1, .int x), (2, .int y)] := hl
  obtain ⟨hn12, hm40, hft⟩ := id hg
  refine lv_aload_n hx hb dX3_least_0 rfl (lv_at hl 0 rfl) ?_
  refine va_get (D := D) (ci := 3) (v := .ref (a 1)) (C := RX3) (T := TX3) (N := 3) hx hb hts i3 hown hK hP 0 rfl rfl 0 (by decide) (hts (.fieldLink RX3 12 "SignedPaths" "graph" "LSignedPaths$Graph;") (by decide +kernel)) (fun _ h9 => h9) rfl dX3_least_1 ?_
  refine lv_iload_n hx hb dX3_least_4 rfl (lv_at hl 1 rfl) ?_
  refine lv_iload_n hx hb dX3_least_5 rfl (lv_at hl 2 rfl) ?_
  refine cl_Si (As := [.int x, .int y]) (rest := []) ⟨hx, hb, hml, hown, hts⟩ (c0_hasNodes l ha x y ) (cwV 2 hts gX3_least_X0_hasNodes rfl rfl rfl (by decide +kernel) ⟨Nat.le_of_ble_eq_true rfl, Nat.le_of_ble_eq_true rfl⟩) hK hP (ci := 0) (q0 := 1) rfl rfl rfl rfl hl.1 rfl (Nat.le_of_ble_eq_true rfl) dX3_least_6 ⟨Nat.zero_le _, Nat.zero_le _⟩ (fun r6 h6 => ?_)
  subst h6
  refine rn_ifneb (tgt := 15) hx hb dX3_least_9 (by decide) (fun c9 => ?_) (fun c9 => ?_)
  · obtain ⟨c9a, c9b⟩ := and_t c9
    obtain ⟨u, hu, rfl⟩ := ixB_t (by omega) c9a
    obtain ⟨v, hv, rfl⟩ := ixB_t (by omega) c9b
    refine lv_aload_n hx hb dX3_least_15 rfl (lv_at hl 0 rfl) ?_
    refine lv_bipush (v := nI 12) hx hb dX3_least_16 (by decide) ?_
    refine cl_Qr (As := [.int (nI 12)]) (rest := []) ⟨hx, hb, hml, hown, hts⟩ (c3_walksUpTo l ha 12 hg (by omega) (by omega)) (cwV 1 hts gX3_least_X3_walksUpTo rfl rfl rfl (by decide +kernel) ⟨Nat.le_of_ble_eq_true rfl, Nat.le_of_ble_eq_true rfl⟩) hK hP hS (fun _ h => h) (ci := 3) (q0 := 0) rfl rfl rfl rfl hl.1 rfl (Nat.le_of_ble_eq_true rfl) dX3_least_18 ⟨Nat.zero_le _, Nat.zero_le _⟩ (fun H locs hP _ _ hS => ?_)
    have hP : va_P D vwCl (cW k a n m ch fr to w th (wkL n m ch fr to w th L la sw 12) (wka ch la sw 12) ch od io oc fa on gr sr) H := hP
    have hD : va_D (cA a) (cW k a n m ch fr to w th (wkL n m ch fr to w th L la sw 12) (wka ch la sw 12) ch od io oc fa on gr sr) := cW_D ha
    refine lv_iload_n hx hb dX3_least_21 rfl (lv_at hl 1 rfl) ?_
    refine lv_iload_n hx hb dX3_least_22 rfl (lv_at hl 2 rfl) ?_
    refine cl_Si (As := [.int (nI u), .int (nI v)]) (rest := []) ⟨hx, hb, hml, hown, hts⟩ (c2_leastWeight l ha u v hg (by omega) (by omega)) (cwV 2 hts gX3_least_X2_leastWeight rfl rfl rfl (by decide +kernel) ⟨Nat.le_of_ble_eq_true rfl, Nat.le_of_ble_eq_true rfl⟩) hK hP (ci := 2) (q0 := 6) rfl rfl rfl rfl hl.1 rfl (Nat.le_of_ble_eq_true rfl) dX3_least_23 ⟨Nat.zero_le _, Nat.zero_le _⟩ (fun r23 h23 => ?_)
    subst h23
    exact W.iret (v := leastF n (wkL n m ch fr to w th L la sw 12) u v) hx hb hr (fun t ht hW => ⟨⟨_, _, rfl, ⟨rfl, (by rw [bw_t c9, nI_clamp (by omega), nI_clamp (by omega)])⟩, by show va_P D vwCl (cW k a n m ch fr to w th (bw (ixB (nI u) n && ixB (nI v) n) (wkL n m ch fr to w th L la sw 12) L) (bw (ixB (nI u) n && ixB (nI v) n) (wka ch la sw 12) la) (bw (ixB (nI u) n && ixB (nI v) n) ch sw) od io oc fa on gr sr) t.heap; rw [ht]; rw [bw_t c9, bw_t c9, bw_t c9]; exact hP⟩, hS.F ht⟩) hS.2.2 dX3_least_26
  · refine lv_ldc (v := (-1000000001)) hx hb hown (hts (.constant RX3 45 (-1000000001)) (by decide +kernel)) dX3_least_12 ?_
    exact W.iret (v := (-1000000001)) hx hb hr (fun t ht hW => ⟨⟨_, _, rfl, ⟨rfl, (by rw [bw_f c9])⟩, by show va_P D vwCl (cW k a n m ch fr to w th (bw (ixB x n && ixB y n) (wkL n m ch fr to w th L la sw 12) L) (bw (ixB x n && ixB y n) (wka ch la sw 12) la) (bw (ixB x n && ixB y n) ch sw) od io oc fa on gr sr) t.heap; rw [ht]; rw [bw_f c9, bw_f c9, bw_f c9]; exact hP⟩, hS.F ht⟩) hS.2.2 dX3_least_14
set_option maxHeartbeats 4000000 in
set_option maxRecDepth 100000 in
theorem c3_way (l : Launch) {D : va_G} {k : Nat → ClassId} {a : Nat → Nat} {n : Nat} {m : Nat} {ch : Int32} {fr : Nat → Nat} {to : Nat → Nat} {w : Nat → Int32} {th : Nat → Bool} {L : Nat → Nat → Int32} {la : Nat} {sw : Int32} {od : Nat → Nat} {io : Nat → Bool} {oc : Nat} {fa : Nat → Int32} {on : Nat → Nat → Int32} {gr : Int32} {sr : Int32} (ha : inj 46 a) (x : Int32) (y : Int32) (z : Int32) (hg : gOK n m fr to) (hla : la < 21) : Met l yX3_way wsX3_way ({ frames := 5, cells := 0, slots := 0, locals := 126 }) (gPc D k (cW k a n m ch fr to w th L la sw od io oc fa on gr sr) [.ref (a 0), .int x, .int y, .int z]) (va_Qi (S := Int32) (fun r u => u = r ∧ (r = bw (ixB x n && ixB y n) (oI (wayX n m fr to w th (wkL n m ch fr to w th L la sw 12) x.toNatClampNeg y.toNatClampNeg z)) (-1000000001))) (fun _ t => va_P D vwCl (cW k a n m ch fr to w th (bw (ixB x n && ixB y n) (wkL n m ch fr to w th L la sw 12) L) (bw (ixB x n && ixB y n) (wka ch la sw 12) la) (bw (ixB x n && ixB y n) ch sw) od io oc fa on gr sr) t.heap) (cA a)) 0 0 (cA a) := by
  refine Met.ofW (cc := cX3_way) (maxL := 4) (ret := (some .int)) (by decide) rfl ?_
  intro p e s mt args below meth c s₁ B hml hv
  obtain ⟨rfl, hP, hK⟩ := hv
  have hx := B.exec
  have hb := B.bytes
  have hr := B.returns
  have hts := atoms_spec (ws := wsX3_way) B.pre
  have hown : s.vm.findClass RX3 = some mt.cls := findClass_of_methodNamed B.named
  have hlocks := B.notSynchronized
  have i0 : ∀ w ∈ wsX00, w ∈ wsX3_way := by decide +kernel
  have i2 : ∀ w ∈ wsX20, w ∈ wsX3_way := by decide +kernel
  have i3 : ∀ w ∈ wsX30, w ∈ wsX3_way := by decide +kernel
  have hS : va_S (cA a) s.heap s.heap [] := va_S.rf
  have hD : va_D (cA a) (cW k a n m ch fr to w th L la sw od io oc fa on gr sr) := cW_D ha
  have hl := lv_entry ([.ref (a 0), .int x, .int y, .int z]) (n := 4) (Nat.le_of_ble_eq_true rfl)
  rw [lg_entry_eq]
  generalize (lg_sl ([.ref (a 0), .int x, .int y, .int z]) ++ List.replicate (4 - (lg_sl ([.ref (a 0), .int x, .int y, .int z])).length) Slot.unset).toArray = ls at hl ⊢
  have hl : lv_has ls 4 [(0, .ref (a 0)), (1, .int x), (2, .int y), (3, .int z)] := hl
  obtain ⟨hn12, hm40, hft⟩ := id hg
  refine lv_aload_n hx hb dX3_way_0 rfl (lv_at hl 0 rfl) ?_
  refine va_get (D := D) (ci := 3) (v := .ref (a 1)) (C := RX3) (T := TX3) (N := 3) hx hb hts i3 hown hK hP 0 rfl rfl 0 (by decide) (hts (.fieldLink RX3 12 "SignedPaths" "graph" "LSignedPaths$Graph;") (by decide +kernel)) (fun _ h9 => h9) rfl dX3_way_1 ?_
  refine lv_iload_n hx hb dX3_way_4 rfl (lv_at hl 1 rfl) ?_
  refine lv_iload_n hx hb dX3_way_5 rfl (lv_at hl 2 rfl) ?_
  refine cl_Si (As := [.int x, .int y]) (rest := []) ⟨hx, hb, hml, hown, hts⟩ (c0_hasNodes l ha x y ) (cwV 2 hts gX3_way_X0_hasNodes rfl rfl rfl (by decide +kernel) ⟨Nat.le_of_ble_eq_true rfl, Nat.le_of_ble_eq_true rfl⟩) hK hP (ci := 0) (q0 := 1) rfl rfl rfl rfl hl.1 rfl (Nat.le_of_ble_eq_true rfl) dX3_way_6 ⟨Nat.zero_le _, Nat.zero_le _⟩ (fun r6 h6 => ?_)
  subst h6
  refine rn_ifneb (tgt := 15) hx hb dX3_way_9 (by decide) (fun c9 => ?_) (fun c9 => ?_)
  · obtain ⟨c9a, c9b⟩ := and_t c9
    obtain ⟨u, hu, rfl⟩ := ixB_t (by omega) c9a
    obtain ⟨v, hv, rfl⟩ := ixB_t (by omega) c9b
    refine lv_aload_n hx hb dX3_way_15 rfl (lv_at hl 0 rfl) ?_
    refine lv_bipush (v := nI 12) hx hb dX3_way_16 (by decide) ?_
    refine cl_Qr (As := [.int (nI 12)]) (rest := []) ⟨hx, hb, hml, hown, hts⟩ (c3_walksUpTo l ha 12 hg (by omega) (by omega)) (cwV 1 hts gX3_way_X3_walksUpTo rfl rfl rfl (by decide +kernel) ⟨Nat.le_of_ble_eq_true rfl, Nat.le_of_ble_eq_true rfl⟩) hK hP hS (fun _ h => h) (ci := 3) (q0 := 0) rfl rfl rfl rfl hl.1 rfl (Nat.le_of_ble_eq_true rfl) dX3_way_18 ⟨Nat.zero_le _, Nat.zero_le _⟩ (fun H locs hP _ _ hS => ?_)
    have hP : va_P D vwCl (cW k a n m ch fr to w th (wkL n m ch fr to w th L la sw 12) (wka ch la sw 12) ch od io oc fa on gr sr) H := hP
    have hD : va_D (cA a) (cW k a n m ch fr to w th (wkL n m ch fr to w th L la sw 12) (wka ch la sw 12) ch od io oc fa on gr sr) := cW_D ha
    refine lv_iload_n hx hb dX3_way_21 rfl (lv_at hl 1 rfl) ?_
    refine lv_iload_n hx hb dX3_way_22 rfl (lv_at hl 2 rfl) ?_
    refine lv_iload_n hx hb dX3_way_23 rfl (lv_at hl 3 rfl) ?_
    refine cl_Si (As := [.int (nI u), .int (nI v), .int z]) (rest := []) ⟨hx, hb, hml, hown, hts⟩ (c2_wayArc l ha u v z hg (by omega) (by omega)) (cwV 3 hts gX3_way_X2_wayArc rfl rfl rfl (by decide +kernel) ⟨Nat.le_of_ble_eq_true rfl, Nat.le_of_ble_eq_true rfl⟩) hK hP (ci := 2) (q0 := 6) rfl rfl rfl rfl hl.1 rfl (Nat.le_of_ble_eq_true rfl) dX3_way_24 ⟨Nat.zero_le _, Nat.zero_le _⟩ (fun r24 h24 => ?_)
    exact W.iret (v := r24) hx hb hr (fun t ht hW => ⟨⟨_, _, rfl, ⟨rfl, (by rw [h24, bw_t c9, nI_clamp (by omega), nI_clamp (by omega)])⟩, by show va_P D vwCl (cW k a n m ch fr to w th (bw (ixB (nI u) n && ixB (nI v) n) (wkL n m ch fr to w th L la sw 12) L) (bw (ixB (nI u) n && ixB (nI v) n) (wka ch la sw 12) la) (bw (ixB (nI u) n && ixB (nI v) n) ch sw) od io oc fa on gr sr) t.heap; rw [ht]; rw [bw_t c9, bw_t c9, bw_t c9]; exact hP⟩, hS.F ht⟩) hS.2.2 dX3_way_27
  · refine lv_ldc (v := (-1000000001)) hx hb hown (hts (.constant RX3 45 (-1000000001)) (by decide +kernel)) dX3_way_12 ?_
    exact W.iret (v := (-1000000001)) hx hb hr (fun t ht hW => ⟨⟨_, _, rfl, ⟨rfl, (by rw [bw_f c9])⟩, by show va_P D vwCl (cW k a n m ch fr to w th (bw (ixB x n && ixB y n) (wkL n m ch fr to w th L la sw 12) L) (bw (ixB x n && ixB y n) (wka ch la sw 12) la) (bw (ixB x n && ixB y n) ch sw) od io oc fa on gr sr) t.heap; rw [ht]; rw [bw_f c9, bw_f c9, bw_f c9]; exact hP⟩, hS.F ht⟩) hS.2.2 dX3_way_14
set_option maxHeartbeats 4000000 in
set_option maxRecDepth 100000 in
theorem c3_within (l : Launch) {D : va_G} {k : Nat → ClassId} {a : Nat → Nat} {n : Nat} {m : Nat} {ch : Int32} {fr : Nat → Nat} {to : Nat → Nat} {w : Nat → Int32} {th : Nat → Bool} {L : Nat → Nat → Int32} {la : Nat} {sw : Int32} {od : Nat → Nat} {io : Nat → Bool} {oc : Nat} {fa : Nat → Int32} {on : Nat → Nat → Int32} {gr : Int32} {sr : Int32} (ha : inj 46 a) (x : Int32) (y : Int32) (z : Int32) (hg : gOK n m fr to) (hla : la < 21) : Met l yX3_within wsX3_within ({ frames := 4, cells := 0, slots := 0, locals := 107 }) (gPc D k (cW k a n m ch fr to w th L la sw od io oc fa on gr sr) [.ref (a 0), .int x, .int y, .int z]) (va_Qi (S := Int32) (fun r u => u = r ∧ (r = wiA n (wkL n m ch fr to w th L la sw z.toNatClampNeg) x y z)) (fun _ t => va_P D vwCl (cW k a n m ch fr to w th (bw (wiB n x y z) (wkL n m ch fr to w th L la sw z.toNatClampNeg) L) (bw (wiB n x y z) (wka ch la sw z.toNatClampNeg) la) (bw (wiB n x y z) ch sw) od io oc fa on gr sr) t.heap) (cA a)) 0 0 (cA a) := by
  refine Met.ofW (cc := cX3_within) (maxL := 4) (ret := (some .int)) (by decide) rfl ?_
  intro p e s mt args below meth c s₁ B hml hv
  obtain ⟨rfl, hP, hK⟩ := hv
  have hx := B.exec
  have hb := B.bytes
  have hr := B.returns
  have hts := atoms_spec (ws := wsX3_within) B.pre
  have hown : s.vm.findClass RX3 = some mt.cls := findClass_of_methodNamed B.named
  have hlocks := B.notSynchronized
  have i0 : ∀ w ∈ wsX00, w ∈ wsX3_within := by decide +kernel
  have i2 : ∀ w ∈ wsX20, w ∈ wsX3_within := by decide +kernel
  have i3 : ∀ w ∈ wsX30, w ∈ wsX3_within := by decide +kernel
  have hS : va_S (cA a) s.heap s.heap [] := va_S.rf
  have hD : va_D (cA a) (cW k a n m ch fr to w th L la sw od io oc fa on gr sr) := cW_D ha
  have hl := lv_entry ([.ref (a 0), .int x, .int y, .int z]) (n := 4) (Nat.le_of_ble_eq_true rfl)
  rw [lg_entry_eq]
  generalize (lg_sl ([.ref (a 0), .int x, .int y, .int z]) ++ List.replicate (4 - (lg_sl ([.ref (a 0), .int x, .int y, .int z])).length) Slot.unset).toArray = ls at hl ⊢
  have hl : lv_has ls 4 [(0, .ref (a 0)), (1, .int x), (2, .int y), (3, .int z)] := hl
  obtain ⟨hn12, hm40, hft⟩ := id hg
  refine lv_aload_n hx hb dX3_within_0 rfl (lv_at hl 0 rfl) ?_
  refine va_get (D := D) (ci := 3) (v := .ref (a 1)) (C := RX3) (T := TX3) (N := 3) hx hb hts i3 hown hK hP 0 rfl rfl 0 (by decide) (hts (.fieldLink RX3 12 "SignedPaths" "graph" "LSignedPaths$Graph;") (by decide +kernel)) (fun _ h9 => h9) rfl dX3_within_1 ?_
  refine lv_iload_n hx hb dX3_within_4 rfl (lv_at hl 1 rfl) ?_
  refine lv_iload_n hx hb dX3_within_5 rfl (lv_at hl 2 rfl) ?_
  refine cl_Si (As := [.int x, .int y]) (rest := []) ⟨hx, hb, hml, hown, hts⟩ (c0_hasNodes l ha x y ) (cwV 2 hts gX3_within_X0_hasNodes rfl rfl rfl (by decide +kernel) ⟨Nat.le_of_ble_eq_true rfl, Nat.le_of_ble_eq_true rfl⟩) hK hP (ci := 0) (q0 := 1) rfl rfl rfl rfl hl.1 rfl (Nat.le_of_ble_eq_true rfl) dX3_within_6 ⟨Nat.zero_le _, Nat.zero_le _⟩ (fun r6 h6 => ?_)
  subst h6
  refine rn_ifneb (tgt := 15) hx hb dX3_within_9 (by decide) (fun c9 => ?_) (fun c9 => ?_)
  · refine lv_iload_n hx hb dX3_within_15 rfl (lv_at hl 3 rfl) ?_
    refine lv_iconst (v := 0) hx hb dX3_within_16 (by decide) ?_
    refine lv_bipush (v := 20) hx hb dX3_within_17 (by decide) ?_
    refine cl_Ti (As := [.int z, .int 0, .int 20]) (rest := []) ⟨hx, hb, hml, hown, hts⟩ (c3_isOutside l z 0 20 ) (va_cwS 3 hts gX3_within_X3_isOutside rfl rfl rfl (by decide +kernel) ⟨Nat.le_of_ble_eq_true rfl, Nat.le_of_ble_eq_true rfl⟩) rfl hl.1 rfl (Nat.le_of_ble_eq_true rfl) dX3_within_19 ⟨Nat.zero_le _, Nat.zero_le _⟩ (fun r19 h19 => ?_)
    subst h19
    refine rn_ifeqb (tgt := 28) hx hb dX3_within_22 (by decide) (fun c22 => ?_) (fun c22 => ?_)
    · have hc : wiB n x y z = true := by rw [wiB, c9, c22]; rfl
      obtain ⟨c9a, c9b⟩ := and_t c9
      obtain ⟨u, hu, rfl⟩ := ixB_t (by omega) c9a
      obtain ⟨v, hv, rfl⟩ := ixB_t (by omega) c9b
      obtain ⟨q, hq, rfl⟩ := ouB_in c22
      refine lv_aload_n hx hb dX3_within_28 rfl (lv_at hl 0 rfl) ?_
      refine lv_iload_n hx hb dX3_within_29 rfl (lv_at hl 3 rfl) ?_
      refine cl_Qr (As := [.int (nI q)]) (rest := []) ⟨hx, hb, hml, hown, hts⟩ (c3_walksUpTo l ha q hg (by omega) (by omega)) (cwV 1 hts gX3_within_X3_walksUpTo rfl rfl rfl (by decide +kernel) ⟨Nat.le_of_ble_eq_true rfl, Nat.le_of_ble_eq_true rfl⟩) hK hP hS (fun _ h => h) (ci := 3) (q0 := 0) rfl rfl rfl rfl hl.1 rfl (Nat.le_of_ble_eq_true rfl) dX3_within_30 ⟨Nat.zero_le _, Nat.zero_le _⟩ (fun H locs hP _ _ hS => ?_)
      have hP : va_P D vwCl (cW k a n m ch fr to w th (wkL n m ch fr to w th L la sw q) (wka ch la sw q) ch od io oc fa on gr sr) H := hP
      have hD : va_D (cA a) (cW k a n m ch fr to w th (wkL n m ch fr to w th L la sw q) (wka ch la sw q) ch od io oc fa on gr sr) := cW_D ha
      refine lv_iload_n hx hb dX3_within_33 rfl (lv_at hl 3 rfl) ?_
      refine lv_iload_n hx hb dX3_within_34 rfl (lv_at hl 1 rfl) ?_
      refine lv_iload_n hx hb dX3_within_35 rfl (lv_at hl 2 rfl) ?_
      refine cl_Si (As := [.int (nI q), .int (nI u), .int (nI v)]) (rest := []) ⟨hx, hb, hml, hown, hts⟩ (c2_lightest l ha q u v (by omega) (by omega) (by omega)) (cwV 3 hts gX3_within_X2_lightest rfl rfl rfl (by decide +kernel) ⟨Nat.le_of_ble_eq_true rfl, Nat.le_of_ble_eq_true rfl⟩) hK hP (ci := 2) (q0 := 6) rfl rfl rfl rfl hl.1 rfl (Nat.le_of_ble_eq_true rfl) dX3_within_36 ⟨Nat.zero_le _, Nat.zero_le _⟩ (fun r36 h36 => ?_)
      subst h36
      exact W.iret (v := (wkL n m ch fr to w th L la sw q) q (u * 12 + v)) hx hb hr (fun t ht hW => ⟨⟨_, _, rfl, ⟨rfl, (by rw [wiA, if_pos c9, if_neg (by rw [c22]; decide), nI_clamp (by omega), nI_clamp (by omega), nI_clamp (by omega)])⟩, by show va_P D vwCl (cW k a n m ch fr to w th (bw (wiB n (nI u) (nI v) (nI q)) (wkL n m ch fr to w th L la sw (nI q).toNatClampNeg) L) (bw (wiB n (nI u) (nI v) (nI q)) (wka ch la sw (nI q).toNatClampNeg) la) (bw (wiB n (nI u) (nI v) (nI q)) ch sw) od io oc fa on gr sr) t.heap; rw [ht]; rw [bw_t hc, bw_t hc, bw_t hc, nI_clamp (by omega)]; exact hP⟩, hS.F ht⟩) hS.2.2 dX3_within_39
    · have hc : wiB n x y z = false := by simp [wiB, c22]
      refine lv_ldc (v := (-1000000002)) hx hb hown (hts (.constant RX3 50 (-1000000002)) (by decide +kernel)) dX3_within_25 ?_
      exact W.iret (v := (-1000000002)) hx hb hr (fun t ht hW => ⟨⟨_, _, rfl, ⟨rfl, (by simp [wiA, c9, c22])⟩, by show va_P D vwCl (cW k a n m ch fr to w th (bw (wiB n x y z) (wkL n m ch fr to w th L la sw z.toNatClampNeg) L) (bw (wiB n x y z) (wka ch la sw z.toNatClampNeg) la) (bw (wiB n x y z) ch sw) od io oc fa on gr sr) t.heap; rw [ht]; rw [bw_f hc, bw_f hc, bw_f hc]; exact hP⟩, hS.F ht⟩) hS.2.2 dX3_within_27
  · have hc : wiB n x y z = false := by simp [wiB, c9]
    refine lv_ldc (v := (-1000000001)) hx hb hown (hts (.constant RX3 45 (-1000000001)) (by decide +kernel)) dX3_within_12 ?_
    exact W.iret (v := (-1000000001)) hx hb hr (fun t ht hW => ⟨⟨_, _, rfl, ⟨rfl, (by simp [wiA, c9])⟩, by show va_P D vwCl (cW k a n m ch fr to w th (bw (wiB n x y z) (wkL n m ch fr to w th L la sw z.toNatClampNeg) L) (bw (wiB n x y z) (wka ch la sw z.toNatClampNeg) la) (bw (wiB n x y z) ch sw) od io oc fa on gr sr) t.heap; rw [ht]; rw [bw_f hc, bw_f hc, bw_f hc]; exact hP⟩, hS.F ht⟩) hS.2.2 dX3_within_14
set_option maxHeartbeats 4000000 in
set_option maxRecDepth 100000 in
theorem c3_rounds (l : Launch) {D : va_G} {k : Nat → ClassId} {a : Nat → Nat} {n : Nat} {m : Nat} {ch : Int32} {fr : Nat → Nat} {to : Nat → Nat} {w : Nat → Int32} {th : Nat → Bool} {L : Nat → Nat → Int32} {la : Nat} {sw : Int32} {od : Nat → Nat} {io : Nat → Bool} {oc : Nat} {fa : Nat → Int32} {on : Nat → Nat → Int32} {gr : Int32} {sr : Int32} (ha : inj 46 a) (x : Int32) (hg : gOK n m fr to) (hla : la < 21) : Met l yX3_rounds wsX3_rounds ({ frames := 4, cells := 0, slots := 0, locals := 107 }) (gPc D k (cW k a n m ch fr to w th L la sw od io oc fa on gr sr) [.ref (a 0), .int x]) (va_Qi (S := Int32) (fun r u => u = r ∧ (r = bw (ixB x n) (oI (rndO n (wkL n m ch fr to w th L la sw 12) x.toNatClampNeg)) (-1000000001))) (fun _ t => va_P D vwCl (cW k a n m ch fr to w th (bw (ixB x n) (wkL n m ch fr to w th L la sw 12) L) (bw (ixB x n) (wka ch la sw 12) la) (bw (ixB x n) ch sw) od io oc fa on gr sr) t.heap) (cA a)) 0 0 (cA a) := by
  refine Met.ofW (cc := cX3_rounds) (maxL := 2) (ret := (some .int)) (by decide) rfl ?_
  intro p e s mt args below meth c s₁ B hml hv
  obtain ⟨rfl, hP, hK⟩ := hv
  have hx := B.exec
  have hb := B.bytes
  have hr := B.returns
  have hts := atoms_spec (ws := wsX3_rounds) B.pre
  have hown : s.vm.findClass RX3 = some mt.cls := findClass_of_methodNamed B.named
  have hlocks := B.notSynchronized
  have i0 : ∀ w ∈ wsX00, w ∈ wsX3_rounds := by decide +kernel
  have i2 : ∀ w ∈ wsX20, w ∈ wsX3_rounds := by decide +kernel
  have i3 : ∀ w ∈ wsX30, w ∈ wsX3_rounds := by decide +kernel
  have hS : va_S (cA a) s.heap s.heap [] := va_S.rf
  have hD : va_D (cA a) (cW k a n m ch fr to w th L la sw od io oc fa on gr sr) := cW_D ha
  have hl := lv_entry ([.ref (a 0), .int x]) (n := 2) (Nat.le_of_ble_eq_true rfl)
  rw [lg_entry_eq]
  generalize (lg_sl ([.ref (a 0), .int x]) ++ List.replicate (2 - (lg_sl ([.ref (a 0), .int x])).length) Slot.unset).toArray = ls at hl ⊢
  have hl : lv_has ls 2 [(0, .ref (a 0)), (1, .int x)] := hl
  obtain ⟨hn12, hm40, hft⟩ := id hg
  refine lv_aload_n hx hb dX3_rounds_0 rfl (lv_at hl 0 rfl) ?_
  refine va_get (D := D) (ci := 3) (v := .ref (a 1)) (C := RX3) (T := TX3) (N := 3) hx hb hts i3 hown hK hP 0 rfl rfl 0 (by decide) (hts (.fieldLink RX3 12 "SignedPaths" "graph" "LSignedPaths$Graph;") (by decide +kernel)) (fun _ h9 => h9) rfl dX3_rounds_1 ?_
  refine lv_iload_n hx hb dX3_rounds_4 rfl (lv_at hl 1 rfl) ?_
  refine cl_Si (As := [.int x]) (rest := []) ⟨hx, hb, hml, hown, hts⟩ (c0_hasNode l ha x ) (cwV 1 hts gX3_rounds_X0_hasNode rfl rfl rfl (by decide +kernel) ⟨Nat.le_of_ble_eq_true rfl, Nat.le_of_ble_eq_true rfl⟩) hK hP (ci := 0) (q0 := 1) rfl rfl rfl rfl hl.1 rfl (Nat.le_of_ble_eq_true rfl) dX3_rounds_5 ⟨Nat.zero_le _, Nat.zero_le _⟩ (fun r5 h5 => ?_)
  subst h5
  refine rn_ifneb (tgt := 14) hx hb dX3_rounds_8 (by decide) (fun c8 => ?_) (fun c8 => ?_)
  · obtain ⟨u, hu, rfl⟩ := ixB_t (by omega) c8
    refine lv_aload_n hx hb dX3_rounds_14 rfl (lv_at hl 0 rfl) ?_
    refine lv_bipush (v := nI 12) hx hb dX3_rounds_15 (by decide) ?_
    refine cl_Qr (As := [.int (nI 12)]) (rest := []) ⟨hx, hb, hml, hown, hts⟩ (c3_walksUpTo l ha 12 hg (by omega) (by omega)) (cwV 1 hts gX3_rounds_X3_walksUpTo rfl rfl rfl (by decide +kernel) ⟨Nat.le_of_ble_eq_true rfl, Nat.le_of_ble_eq_true rfl⟩) hK hP hS (fun _ h => h) (ci := 3) (q0 := 0) rfl rfl rfl rfl hl.1 rfl (Nat.le_of_ble_eq_true rfl) dX3_rounds_17 ⟨Nat.zero_le _, Nat.zero_le _⟩ (fun H locs hP _ _ hS => ?_)
    have hP : va_P D vwCl (cW k a n m ch fr to w th (wkL n m ch fr to w th L la sw 12) (wka ch la sw 12) ch od io oc fa on gr sr) H := hP
    have hD : va_D (cA a) (cW k a n m ch fr to w th (wkL n m ch fr to w th L la sw 12) (wka ch la sw 12) ch od io oc fa on gr sr) := cW_D ha
    refine lv_iload_n hx hb dX3_rounds_20 rfl (lv_at hl 1 rfl) ?_
    refine cl_Si (As := [.int (nI u)]) (rest := []) ⟨hx, hb, hml, hown, hts⟩ (c2_roundsToRest l ha u hg (by omega)) (cwV 1 hts gX3_rounds_X2_roundsToRest rfl rfl rfl (by decide +kernel) ⟨Nat.le_of_ble_eq_true rfl, Nat.le_of_ble_eq_true rfl⟩) hK hP (ci := 2) (q0 := 6) rfl rfl rfl rfl hl.1 rfl (Nat.le_of_ble_eq_true rfl) dX3_rounds_21 ⟨Nat.zero_le _, Nat.zero_le _⟩ (fun r21 h21 => ?_)
    exact W.iret (v := r21) hx hb hr (fun t ht hW => ⟨⟨_, _, rfl, ⟨rfl, (by rw [h21, bw_t c8, nI_clamp (by omega)])⟩, by show va_P D vwCl (cW k a n m ch fr to w th (bw (ixB (nI u) n) (wkL n m ch fr to w th L la sw 12) L) (bw (ixB (nI u) n) (wka ch la sw 12) la) (bw (ixB (nI u) n) ch sw) od io oc fa on gr sr) t.heap; rw [ht]; rw [bw_t c8, bw_t c8, bw_t c8]; exact hP⟩, hS.F ht⟩) hS.2.2 dX3_rounds_24
  · refine lv_ldc (v := (-1000000001)) hx hb hown (hts (.constant RX3 45 (-1000000001)) (by decide +kernel)) dX3_rounds_11 ?_
    exact W.iret (v := (-1000000001)) hx hb hr (fun t ht hW => ⟨⟨_, _, rfl, ⟨rfl, (by rw [bw_f c8])⟩, by show va_P D vwCl (cW k a n m ch fr to w th (bw (ixB x n) (wkL n m ch fr to w th L la sw 12) L) (bw (ixB x n) (wka ch la sw 12) la) (bw (ixB x n) ch sw) od io oc fa on gr sr) t.heap; rw [ht]; rw [bw_f c8, bw_f c8, bw_f c8]; exact hP⟩, hS.F ht⟩) hS.2.2 dX3_rounds_13
set_option maxHeartbeats 4000000 in
set_option maxRecDepth 100000 in
theorem c3_falling (l : Launch) {D : va_G} {k : Nat → ClassId} {a : Nat → Nat} {n : Nat} {m : Nat} {ch : Int32} {fr : Nat → Nat} {to : Nat → Nat} {w : Nat → Int32} {th : Nat → Bool} {L : Nat → Nat → Int32} {la : Nat} {sw : Int32} {od : Nat → Nat} {io : Nat → Bool} {oc : Nat} {fa : Nat → Int32} {on : Nat → Nat → Int32} {gr : Int32} {sr : Int32} (ha : inj 46 a)  (hg : gOK n m fr to) (hla : la < 21) : Met l yX3_falling wsX3_falling ({ frames := 4, cells := 0, slots := 0, locals := 107 }) (gPc D k (cW k a n m ch fr to w th L la sw od io oc fa on gr sr) [.ref (a 0)]) (va_Qi (S := Int32) (fun r u => u = r ∧ (r = nI (shL n (wkL n m ch fr to w th L la sw 12)))) (fun _ t => va_P D vwCl (cW k a n m ch fr to w th (wkL n m ch fr to w th L la sw 12) (wka ch la sw 12) ch od io oc fa on gr sr) t.heap) (cA a)) 0 0 (cA a) := by
  refine Met.ofW (cc := cX3_falling) (maxL := 1) (ret := (some .int)) (by decide) rfl ?_
  intro p e s mt args below meth c s₁ B hml hv
  obtain ⟨rfl, hP, hK⟩ := hv
  have hx := B.exec
  have hb := B.bytes
  have hr := B.returns
  have hts := atoms_spec (ws := wsX3_falling) B.pre
  have hown : s.vm.findClass RX3 = some mt.cls := findClass_of_methodNamed B.named
  have hlocks := B.notSynchronized
  have i2 : ∀ w ∈ wsX20, w ∈ wsX3_falling := by decide +kernel
  have i3 : ∀ w ∈ wsX30, w ∈ wsX3_falling := by decide +kernel
  have hS : va_S (cA a) s.heap s.heap [] := va_S.rf
  have hD : va_D (cA a) (cW k a n m ch fr to w th L la sw od io oc fa on gr sr) := cW_D ha
  have hl := lv_entry ([.ref (a 0)]) (n := 1) (Nat.le_of_ble_eq_true rfl)
  rw [lg_entry_eq]
  generalize (lg_sl ([.ref (a 0)]) ++ List.replicate (1 - (lg_sl ([.ref (a 0)])).length) Slot.unset).toArray = ls at hl ⊢
  have hl : lv_has ls 1 [(0, .ref (a 0))] := hl
  obtain ⟨hn12, hm40, hft⟩ := id hg
  refine lv_aload_n hx hb dX3_falling_0 rfl (lv_at hl 0 rfl) ?_
  refine lv_bipush (v := nI 12) hx hb dX3_falling_1 (by decide) ?_
  refine cl_Qr (As := [.int (nI 12)]) (rest := []) ⟨hx, hb, hml, hown, hts⟩ (c3_walksUpTo l ha 12 hg (by omega) (by omega)) (cwV 1 hts gX3_falling_X3_walksUpTo rfl rfl rfl (by decide +kernel) ⟨Nat.le_of_ble_eq_true rfl, Nat.le_of_ble_eq_true rfl⟩) hK hP hS (fun _ h => h) (ci := 3) (q0 := 0) rfl rfl rfl rfl hl.1 rfl (Nat.le_of_ble_eq_true rfl) dX3_falling_3 ⟨Nat.zero_le _, Nat.zero_le _⟩ (fun H locs hP _ _ hS => ?_)
  have hP : va_P D vwCl (cW k a n m ch fr to w th (wkL n m ch fr to w th L la sw 12) (wka ch la sw 12) ch od io oc fa on gr sr) H := hP
  have hD : va_D (cA a) (cW k a n m ch fr to w th (wkL n m ch fr to w th L la sw 12) (wka ch la sw 12) ch od io oc fa on gr sr) := cW_D ha
  refine cl_Si (As := []) (rest := []) ⟨hx, hb, hml, hown, hts⟩ (c2_shownLength l ha  hg) (cwV 0 hts gX3_falling_X2_shownLength rfl rfl rfl (by decide +kernel) ⟨Nat.le_of_ble_eq_true rfl, Nat.le_of_ble_eq_true rfl⟩) hK hP (ci := 2) (q0 := 6) rfl rfl rfl rfl hl.1 rfl (Nat.le_of_ble_eq_true rfl) dX3_falling_6 ⟨Nat.zero_le _, Nat.zero_le _⟩ (fun r6 h6 => ?_)
  subst h6
  exact W.iret (v := nI (shL n (wkL n m ch fr to w th L la sw 12))) hx hb hr (fun t ht hW => ⟨⟨_, _, rfl, ⟨rfl, rfl⟩, by show va_P D vwCl (cW k a n m ch fr to w th (wkL n m ch fr to w th L la sw 12) (wka ch la sw 12) ch od io oc fa on gr sr) t.heap; rw [ht]; exact hP⟩, hS.F ht⟩) hS.2.2 dX3_falling_9
set_option maxHeartbeats 4000000 in
set_option maxRecDepth 100000 in
theorem c3_ring (l : Launch) {D : va_G} {k : Nat → ClassId} {a : Nat → Nat} {n : Nat} {m : Nat} {ch : Int32} {fr : Nat → Nat} {to : Nat → Nat} {w : Nat → Int32} {th : Nat → Bool} {L : Nat → Nat → Int32} {la : Nat} {sw : Int32} {od : Nat → Nat} {io : Nat → Bool} {oc : Nat} {fa : Nat → Int32} {on : Nat → Nat → Int32} {gr : Int32} {sr : Int32} (ha : inj 46 a) (x : Int32) (hg : gOK n m fr to) (hla : la < 21) : Met l yX3_ring wsX3_ring ({ frames := 5, cells := 0, slots := 0, locals := 125 }) (gPc D k (cW k a n m ch fr to w th L la sw od io oc fa on gr sr) [.ref (a 0), .int x]) (va_Qi (S := Int32) (fun r u => u = r ∧ (r = oI (shX n m fr to w th (wkL n m ch fr to w th L la sw 12) x))) (fun _ t => va_P D vwCl (cW k a n m ch fr to w th (wkL n m ch fr to w th L la sw 12) (wka ch la sw 12) ch od io oc fa on gr sr) t.heap) (cA a)) 0 0 (cA a) := by
  refine Met.ofW (cc := cX3_ring) (maxL := 2) (ret := (some .int)) (by decide) rfl ?_
  intro p e s mt args below meth c s₁ B hml hv
  obtain ⟨rfl, hP, hK⟩ := hv
  have hx := B.exec
  have hb := B.bytes
  have hr := B.returns
  have hts := atoms_spec (ws := wsX3_ring) B.pre
  have hown : s.vm.findClass RX3 = some mt.cls := findClass_of_methodNamed B.named
  have hlocks := B.notSynchronized
  have i2 : ∀ w ∈ wsX20, w ∈ wsX3_ring := by decide +kernel
  have i3 : ∀ w ∈ wsX30, w ∈ wsX3_ring := by decide +kernel
  have hS : va_S (cA a) s.heap s.heap [] := va_S.rf
  have hD : va_D (cA a) (cW k a n m ch fr to w th L la sw od io oc fa on gr sr) := cW_D ha
  have hl := lv_entry ([.ref (a 0), .int x]) (n := 2) (Nat.le_of_ble_eq_true rfl)
  rw [lg_entry_eq]
  generalize (lg_sl ([.ref (a 0), .int x]) ++ List.replicate (2 - (lg_sl ([.ref (a 0), .int x])).length) Slot.unset).toArray = ls at hl ⊢
  have hl : lv_has ls 2 [(0, .ref (a 0)), (1, .int x)] := hl
  obtain ⟨hn12, hm40, hft⟩ := id hg
  refine lv_aload_n hx hb dX3_ring_0 rfl (lv_at hl 0 rfl) ?_
  refine lv_bipush (v := nI 12) hx hb dX3_ring_1 (by decide) ?_
  refine cl_Qr (As := [.int (nI 12)]) (rest := []) ⟨hx, hb, hml, hown, hts⟩ (c3_walksUpTo l ha 12 hg (by omega) (by omega)) (cwV 1 hts gX3_ring_X3_walksUpTo rfl rfl rfl (by decide +kernel) ⟨Nat.le_of_ble_eq_true rfl, Nat.le_of_ble_eq_true rfl⟩) hK hP hS (fun _ h => h) (ci := 3) (q0 := 0) rfl rfl rfl rfl hl.1 rfl (Nat.le_of_ble_eq_true rfl) dX3_ring_3 ⟨Nat.zero_le _, Nat.zero_le _⟩ (fun H locs hP _ _ hS => ?_)
  have hP : va_P D vwCl (cW k a n m ch fr to w th (wkL n m ch fr to w th L la sw 12) (wka ch la sw 12) ch od io oc fa on gr sr) H := hP
  have hD : va_D (cA a) (cW k a n m ch fr to w th (wkL n m ch fr to w th L la sw 12) (wka ch la sw 12) ch od io oc fa on gr sr) := cW_D ha
  refine lv_iload_n hx hb dX3_ring_6 rfl (lv_at hl 1 rfl) ?_
  refine cl_Si (As := [.int x]) (rest := []) ⟨hx, hb, hml, hown, hts⟩ (c2_shownArc l ha x hg) (cwV 1 hts gX3_ring_X2_shownArc rfl rfl rfl (by decide +kernel) ⟨Nat.le_of_ble_eq_true rfl, Nat.le_of_ble_eq_true rfl⟩) hK hP (ci := 2) (q0 := 6) rfl rfl rfl rfl hl.1 rfl (Nat.le_of_ble_eq_true rfl) dX3_ring_7 ⟨Nat.zero_le _, Nat.zero_le _⟩ (fun r7 h7 => ?_)
  exact W.iret (v := r7) hx hb hr (fun t ht hW => ⟨⟨_, _, rfl, ⟨rfl, h7⟩, by show va_P D vwCl (cW k a n m ch fr to w th (wkL n m ch fr to w th L la sw 12) (wka ch la sw 12) ch od io oc fa on gr sr) t.heap; rw [ht]; exact hP⟩, hS.F ht⟩) hS.2.2 dX3_ring_10
set_option maxHeartbeats 4000000 in
set_option maxRecDepth 100000 in
theorem c3_height (l : Launch) {D : va_G} {k : Nat → ClassId} {a : Nat → Nat} {n : Nat} {m : Nat} {ch : Int32} {fr : Nat → Nat} {to : Nat → Nat} {w : Nat → Int32} {th : Nat → Bool} {L : Nat → Nat → Int32} {la : Nat} {sw : Int32} {od : Nat → Nat} {io : Nat → Bool} {oc : Nat} {fa : Nat → Int32} {on : Nat → Nat → Int32} {gr : Int32} {sr : Int32} (ha : inj 46 a) (x : Int32) (hg : gOK n m fr to) (hla : la < 21) : Met l yX3_height wsX3_height ({ frames := 4, cells := 0, slots := 0, locals := 107 }) (gPc D k (cW k a n m ch fr to w th L la sw od io oc fa on gr sr) [.ref (a 0), .int x]) (va_Qi (S := Int32) (fun r u => u = r ∧ (r = bw (ixB x n) (heA n (wkL n m ch fr to w th L la sw 12) x.toNatClampNeg) (-1000000001))) (fun _ t => va_P D vwCl (cW k a n m ch fr to w th (bw (ixB x n) (wkL n m ch fr to w th L la sw 12) L) (bw (ixB x n) (wka ch la sw 12) la) (bw (ixB x n) ch sw) od io oc fa on gr sr) t.heap) (cA a)) 0 0 (cA a) := by
  refine Met.ofW (cc := cX3_height) (maxL := 2) (ret := (some .int)) (by decide) rfl ?_
  intro p e s mt args below meth c s₁ B hml hv
  obtain ⟨rfl, hP, hK⟩ := hv
  have hx := B.exec
  have hb := B.bytes
  have hr := B.returns
  have hts := atoms_spec (ws := wsX3_height) B.pre
  have hown : s.vm.findClass RX3 = some mt.cls := findClass_of_methodNamed B.named
  have hlocks := B.notSynchronized
  have i0 : ∀ w ∈ wsX00, w ∈ wsX3_height := by decide +kernel
  have i2 : ∀ w ∈ wsX20, w ∈ wsX3_height := by decide +kernel
  have i3 : ∀ w ∈ wsX30, w ∈ wsX3_height := by decide +kernel
  have hS : va_S (cA a) s.heap s.heap [] := va_S.rf
  have hD : va_D (cA a) (cW k a n m ch fr to w th L la sw od io oc fa on gr sr) := cW_D ha
  have hl := lv_entry ([.ref (a 0), .int x]) (n := 2) (Nat.le_of_ble_eq_true rfl)
  rw [lg_entry_eq]
  generalize (lg_sl ([.ref (a 0), .int x]) ++ List.replicate (2 - (lg_sl ([.ref (a 0), .int x])).length) Slot.unset).toArray = ls at hl ⊢
  have hl : lv_has ls 2 [(0, .ref (a 0)), (1, .int x)] := hl
  obtain ⟨hn12, hm40, hft⟩ := id hg
  refine lv_aload_n hx hb dX3_height_0 rfl (lv_at hl 0 rfl) ?_
  refine va_get (D := D) (ci := 3) (v := .ref (a 1)) (C := RX3) (T := TX3) (N := 3) hx hb hts i3 hown hK hP 0 rfl rfl 0 (by decide) (hts (.fieldLink RX3 12 "SignedPaths" "graph" "LSignedPaths$Graph;") (by decide +kernel)) (fun _ h9 => h9) rfl dX3_height_1 ?_
  refine lv_iload_n hx hb dX3_height_4 rfl (lv_at hl 1 rfl) ?_
  refine cl_Si (As := [.int x]) (rest := []) ⟨hx, hb, hml, hown, hts⟩ (c0_hasNode l ha x ) (cwV 1 hts gX3_height_X0_hasNode rfl rfl rfl (by decide +kernel) ⟨Nat.le_of_ble_eq_true rfl, Nat.le_of_ble_eq_true rfl⟩) hK hP (ci := 0) (q0 := 1) rfl rfl rfl rfl hl.1 rfl (Nat.le_of_ble_eq_true rfl) dX3_height_5 ⟨Nat.zero_le _, Nat.zero_le _⟩ (fun r5 h5 => ?_)
  subst h5
  refine rn_ifneb (tgt := 14) hx hb dX3_height_8 (by decide) (fun c8 => ?_) (fun c8 => ?_)
  · obtain ⟨u, hu, rfl⟩ := ixB_t (by omega) c8
    refine lv_aload_n hx hb dX3_height_14 rfl (lv_at hl 0 rfl) ?_
    refine lv_bipush (v := nI 12) hx hb dX3_height_15 (by decide) ?_
    refine cl_Qr (As := [.int (nI 12)]) (rest := []) ⟨hx, hb, hml, hown, hts⟩ (c3_walksUpTo l ha 12 hg (by omega) (by omega)) (cwV 1 hts gX3_height_X3_walksUpTo rfl rfl rfl (by decide +kernel) ⟨Nat.le_of_ble_eq_true rfl, Nat.le_of_ble_eq_true rfl⟩) hK hP hS (fun _ h => h) (ci := 3) (q0 := 0) rfl rfl rfl rfl hl.1 rfl (Nat.le_of_ble_eq_true rfl) dX3_height_17 ⟨Nat.zero_le _, Nat.zero_le _⟩ (fun H locs hP _ _ hS => ?_)
    have hP : va_P D vwCl (cW k a n m ch fr to w th (wkL n m ch fr to w th L la sw 12) (wka ch la sw 12) ch od io oc fa on gr sr) H := hP
    have hD : va_D (cA a) (cW k a n m ch fr to w th (wkL n m ch fr to w th L la sw 12) (wka ch la sw 12) ch od io oc fa on gr sr) := cW_D ha
    refine cl_Si (As := []) (rest := []) ⟨hx, hb, hml, hown, hts⟩ (c2_someRingFalls l ha  hg) (cwV 0 hts gX3_height_X2_someRingFalls rfl rfl rfl (by decide +kernel) ⟨Nat.le_of_ble_eq_true rfl, Nat.le_of_ble_eq_true rfl⟩) hK hP (ci := 2) (q0 := 6) rfl rfl rfl rfl hl.1 rfl (Nat.le_of_ble_eq_true rfl) dX3_height_20 ⟨Nat.zero_le _, Nat.zero_le _⟩ (fun r20 h20 => ?_)
    subst h20
    refine rn_ifeqb (tgt := 29) hx hb dX3_height_23 (by decide) (fun c23 => ?_) (fun c23 => ?_)
    · refine lv_aload_n hx hb dX3_height_29 rfl (lv_at hl 0 rfl) ?_
      refine va_get (D := D) (ci := 3) (v := .ref (a 6)) (C := RX3) (T := TX3) (N := 3) hx hb hts i3 hown hK hP 0 rfl rfl 1 (by decide) (hts (.fieldLink RX3 21 "SignedPaths" "walks" "LSignedPaths$Walks;") (by decide +kernel)) (fun _ h9 => h9) rfl dX3_height_30 ?_
      refine lv_iload_n hx hb dX3_height_33 rfl (lv_at hl 1 rfl) ?_
      refine cl_Si (As := [.int (nI u)]) (rest := []) ⟨hx, hb, hml, hown, hts⟩ (c2_lowest l ha u hg (by omega)) (cwV 1 hts gX3_height_X2_lowest rfl rfl rfl (by decide +kernel) ⟨Nat.le_of_ble_eq_true rfl, Nat.le_of_ble_eq_true rfl⟩) hK hP (ci := 2) (q0 := 6) rfl rfl rfl rfl hl.1 rfl (Nat.le_of_ble_eq_true rfl) dX3_height_34 ⟨Nat.zero_le _, Nat.zero_le _⟩ (fun r34 h34 => ?_)
      subst h34
      exact W.iret (v := lowF n (wkL n m ch fr to w th L la sw 12) u) hx hb hr (fun t ht hW => ⟨⟨_, _, rfl, ⟨rfl, (by rw [bw_t c8, heA, if_neg (by rw [c23]; decide), nI_clamp (by omega)])⟩, by show va_P D vwCl (cW k a n m ch fr to w th (bw (ixB (nI u) n) (wkL n m ch fr to w th L la sw 12) L) (bw (ixB (nI u) n) (wka ch la sw 12) la) (bw (ixB (nI u) n) ch sw) od io oc fa on gr sr) t.heap; rw [ht]; rw [bw_t c8, bw_t c8, bw_t c8]; exact hP⟩, hS.F ht⟩) hS.2.2 dX3_height_37
    · refine lv_ldc (v := (-1000000003)) hx hb hown (hts (.constant RX3 105 (-1000000003)) (by decide +kernel)) dX3_height_26 ?_
      exact W.iret (v := (-1000000003)) hx hb hr (fun t ht hW => ⟨⟨_, _, rfl, ⟨rfl, (by rw [bw_t c8, heA, if_pos c23])⟩, by show va_P D vwCl (cW k a n m ch fr to w th (bw (ixB (nI u) n) (wkL n m ch fr to w th L la sw 12) L) (bw (ixB (nI u) n) (wka ch la sw 12) la) (bw (ixB (nI u) n) ch sw) od io oc fa on gr sr) t.heap; rw [ht]; rw [bw_t c8, bw_t c8, bw_t c8]; exact hP⟩, hS.F ht⟩) hS.2.2 dX3_height_28
  · refine lv_ldc (v := (-1000000001)) hx hb hown (hts (.constant RX3 45 (-1000000001)) (by decide +kernel)) dX3_height_11 ?_
    exact W.iret (v := (-1000000001)) hx hb hr (fun t ht hW => ⟨⟨_, _, rfl, ⟨rfl, (by rw [bw_f c8])⟩, by show va_P D vwCl (cW k a n m ch fr to w th (bw (ixB x n) (wkL n m ch fr to w th L la sw 12) L) (bw (ixB x n) (wka ch la sw 12) la) (bw (ixB x n) ch sw) od io oc fa on gr sr) t.heap; rw [ht]; rw [bw_f c8, bw_f c8, bw_f c8]; exact hP⟩, hS.F ht⟩) hS.2.2 dX3_height_13
set_option maxHeartbeats 4000000 in
set_option maxRecDepth 100000 in
theorem c3_lifted (l : Launch) {D : va_G} {k : Nat → ClassId} {a : Nat → Nat} {n : Nat} {m : Nat} {ch : Int32} {fr : Nat → Nat} {to : Nat → Nat} {w : Nat → Int32} {th : Nat → Bool} {L : Nat → Nat → Int32} {la : Nat} {sw : Int32} {od : Nat → Nat} {io : Nat → Bool} {oc : Nat} {fa : Nat → Int32} {on : Nat → Nat → Int32} {gr : Int32} {sr : Int32} (ha : inj 46 a) (x : Int32) (hg : gOK n m fr to) (hla : la < 21) : Met l yX3_lifted wsX3_lifted ({ frames := 4, cells := 0, slots := 0, locals := 107 }) (gPc D k (cW k a n m ch fr to w th L la sw od io oc fa on gr sr) [.ref (a 0), .int x]) (va_Qi (S := Int32) (fun r u => u = r ∧ (r = liA n m fr to w th (wkL n m ch fr to w th L la sw 12) x)) (fun _ t => va_P D vwCl (cW k a n m ch fr to w th (bw (liB m th x) (wkL n m ch fr to w th L la sw 12) L) (bw (liB m th x) (wka ch la sw 12) la) (bw (liB m th x) ch sw) od io oc fa on gr sr) t.heap) (cA a)) 0 0 (cA a) := by
  refine Met.ofW (cc := cX3_lifted) (maxL := 2) (ret := (some .int)) (by decide) rfl ?_
  intro p e s mt args below meth c s₁ B hml hv
  obtain ⟨rfl, hP, hK⟩ := hv
  have hx := B.exec
  have hb := B.bytes
  have hr := B.returns
  have hts := atoms_spec (ws := wsX3_lifted) B.pre
  have hown : s.vm.findClass RX3 = some mt.cls := findClass_of_methodNamed B.named
  have hlocks := B.notSynchronized
  have i0 : ∀ w ∈ wsX00, w ∈ wsX3_lifted := by decide +kernel
  have i2 : ∀ w ∈ wsX20, w ∈ wsX3_lifted := by decide +kernel
  have i3 : ∀ w ∈ wsX30, w ∈ wsX3_lifted := by decide +kernel
  have hS : va_S (cA a) s.heap s.heap [] := va_S.rf
  have hD : va_D (cA a) (cW k a n m ch fr to w th L la sw od io oc fa on gr sr) := cW_D ha
  have hl := lv_entry ([.ref (a 0), .int x]) (n := 2) (Nat.le_of_ble_eq_true rfl)
  rw [lg_entry_eq]
  generalize (lg_sl ([.ref (a 0), .int x]) ++ List.replicate (2 - (lg_sl ([.ref (a 0), .int x])).length) Slot.unset).toArray = ls at hl ⊢
  have hl : lv_has ls 2 [(0, .ref (a 0)), (1, .int x)] := hl
  obtain ⟨hn12, hm40, hft⟩ := id hg
  refine lv_aload_n hx hb dX3_lifted_0 rfl (lv_at hl 0 rfl) ?_
  refine va_get (D := D) (ci := 3) (v := .ref (a 1)) (C := RX3) (T := TX3) (N := 3) hx hb hts i3 hown hK hP 0 rfl rfl 0 (by decide) (hts (.fieldLink RX3 12 "SignedPaths" "graph" "LSignedPaths$Graph;") (by decide +kernel)) (fun _ h9 => h9) rfl dX3_lifted_1 ?_
  refine lv_iload_n hx hb dX3_lifted_4 rfl (lv_at hl 1 rfl) ?_
  refine cl_Si (As := [.int x]) (rest := []) ⟨hx, hb, hml, hown, hts⟩ (c0_hasArc l ha x ) (cwV 1 hts gX3_lifted_X0_hasArc rfl rfl rfl (by decide +kernel) ⟨Nat.le_of_ble_eq_true rfl, Nat.le_of_ble_eq_true rfl⟩) hK hP (ci := 0) (q0 := 1) rfl rfl rfl rfl hl.1 rfl (Nat.le_of_ble_eq_true rfl) dX3_lifted_5 ⟨Nat.zero_le _, Nat.zero_le _⟩ (fun r5 h5 => ?_)
  subst h5
  refine rn_ifneb (tgt := 14) hx hb dX3_lifted_8 (by decide) (fun c8 => ?_) (fun c8 => ?_)
  · obtain ⟨j, hj, rfl⟩ := ixB_t (by omega) c8
    have hj2 := hft j hj
    refine lv_aload_n hx hb dX3_lifted_14 rfl (lv_at hl 0 rfl) ?_
    refine va_get (D := D) (ci := 3) (v := .ref (a 1)) (C := RX3) (T := TX3) (N := 3) hx hb hts i3 hown hK hP 0 rfl rfl 0 (by decide) (hts (.fieldLink RX3 12 "SignedPaths" "graph" "LSignedPaths$Graph;") (by decide +kernel)) (fun _ h9 => h9) rfl dX3_lifted_15 ?_
    refine va_get (D := D) (ci := 0) (v := .ref (a 5)) (C := RX0) (T := TX0) (N := 7) hx hb hts i0 hown hK hP 1 rfl rfl 6 (by decide) (hts (.fieldLink RX3 109 "SignedPaths$Graph" "there" "[Z") (by decide +kernel)) (fun _ h9 => h9) rfl dX3_lifted_18 ?_
    refine lv_iload_n hx hb dX3_lifted_21 rfl (lv_at hl 1 rfl) ?_
    refine rn_zald (v := bI (th j)) hx hb hK hP 5 1 rfl rfl (by omega) (by decide) rfl dX3_lifted_22 ?_
    refine rn_ifeqb (tgt := 38) hx hb dX3_lifted_23 (by decide) (fun c23 => ?_) (fun c23 => ?_)
    · refine lv_ldc (v := (-1000000003)) hx hb hown (hts (.constant RX3 105 (-1000000003)) (by decide +kernel)) dX3_lifted_38 ?_
      have hc : liB m th (nI j) = false := by rw [liB, nI_clamp (by omega), c23, Bool.and_false]
      exact W.iret (v := (-1000000003)) hx hb hr (fun t ht hW => ⟨⟨_, _, rfl, ⟨rfl, (by rw [liA, if_pos c8, if_neg (by rw [nI_clamp (by omega), c23]; decide)])⟩, by show va_P D vwCl (cW k a n m ch fr to w th (bw (liB m th (nI j)) (wkL n m ch fr to w th L la sw 12) L) (bw (liB m th (nI j)) (wka ch la sw 12) la) (bw (liB m th (nI j)) ch sw) od io oc fa on gr sr) t.heap; rw [ht]; rw [bw_f hc, bw_f hc, bw_f hc]; exact hP⟩, hS.F ht⟩) hS.2.2 dX3_lifted_40
    · have hc : liB m th (nI j) = true := by rw [liB, c8, nI_clamp (by omega), c23]; rfl
      refine lv_aload_n hx hb dX3_lifted_26 rfl (lv_at hl 0 rfl) ?_
      refine lv_bipush (v := nI 12) hx hb dX3_lifted_27 (by decide) ?_
      refine cl_Qr (As := [.int (nI 12)]) (rest := []) ⟨hx, hb, hml, hown, hts⟩ (c3_walksUpTo l ha 12 hg (by omega) (by omega)) (cwV 1 hts gX3_lifted_X3_walksUpTo rfl rfl rfl (by decide +kernel) ⟨Nat.le_of_ble_eq_true rfl, Nat.le_of_ble_eq_true rfl⟩) hK hP hS (fun _ h => h) (ci := 3) (q0 := 0) rfl rfl rfl rfl hl.1 rfl (Nat.le_of_ble_eq_true rfl) dX3_lifted_29 ⟨Nat.zero_le _, Nat.zero_le _⟩ (fun H locs hP _ _ hS => ?_)
      have hP : va_P D vwCl (cW k a n m ch fr to w th (wkL n m ch fr to w th L la sw 12) (wka ch la sw 12) ch od io oc fa on gr sr) H := hP
      have hD : va_D (cA a) (cW k a n m ch fr to w th (wkL n m ch fr to w th L la sw 12) (wka ch la sw 12) ch od io oc fa on gr sr) := cW_D ha
      refine cl_Si (As := []) (rest := []) ⟨hx, hb, hml, hown, hts⟩ (c2_someRingFalls l ha  hg) (cwV 0 hts gX3_lifted_X2_someRingFalls rfl rfl rfl (by decide +kernel) ⟨Nat.le_of_ble_eq_true rfl, Nat.le_of_ble_eq_true rfl⟩) hK hP (ci := 2) (q0 := 6) rfl rfl rfl rfl hl.1 rfl (Nat.le_of_ble_eq_true rfl) dX3_lifted_32 ⟨Nat.zero_le _, Nat.zero_le _⟩ (fun r32 h32 => ?_)
      subst h32
      refine rn_ifeqb (tgt := 41) hx hb dX3_lifted_35 (by decide) (fun c35 => ?_) (fun c35 => ?_)
      · refine lv_aload_n hx hb dX3_lifted_41 rfl (lv_at hl 0 rfl) ?_
        refine va_get (D := D) (ci := 3) (v := .ref (a 1)) (C := RX3) (T := TX3) (N := 3) hx hb hts i3 hown hK hP 0 rfl rfl 0 (by decide) (hts (.fieldLink RX3 12 "SignedPaths" "graph" "LSignedPaths$Graph;") (by decide +kernel)) (fun _ h9 => h9) rfl dX3_lifted_42 ?_
        refine va_get (D := D) (ci := 0) (v := .ref (a 4)) (C := RX0) (T := TX0) (N := 7) hx hb hts i0 hown hK hP 1 rfl rfl 5 (by decide) (hts (.fieldLink RX3 113 "SignedPaths$Graph" "weight" "[I") (by decide +kernel)) (fun _ h9 => h9) rfl dX3_lifted_45 ?_
        refine lv_iload_n hx hb dX3_lifted_48 rfl (lv_at hl 1 rfl) ?_
        refine rn_iald (v := w j) hx hb hK hP 4 0 rfl rfl (by omega) (by decide) rfl dX3_lifted_49 ?_
        refine lv_aload_n hx hb dX3_lifted_50 rfl (lv_at hl 0 rfl) ?_
        refine va_get (D := D) (ci := 3) (v := .ref (a 6)) (C := RX3) (T := TX3) (N := 3) hx hb hts i3 hown hK hP 0 rfl rfl 1 (by decide) (hts (.fieldLink RX3 21 "SignedPaths" "walks" "LSignedPaths$Walks;") (by decide +kernel)) (fun _ h9 => h9) rfl dX3_lifted_51 ?_
        refine lv_aload_n hx hb dX3_lifted_54 rfl (lv_at hl 0 rfl) ?_
        refine va_get (D := D) (ci := 3) (v := .ref (a 1)) (C := RX3) (T := TX3) (N := 3) hx hb hts i3 hown hK hP 0 rfl rfl 0 (by decide) (hts (.fieldLink RX3 12 "SignedPaths" "graph" "LSignedPaths$Graph;") (by decide +kernel)) (fun _ h9 => h9) rfl dX3_lifted_55 ?_
        refine va_get (D := D) (ci := 0) (v := .ref (a 2)) (C := RX0) (T := TX0) (N := 7) hx hb hts i0 hown hK hP 1 rfl rfl 3 (by decide) (hts (.fieldLink RX3 117 "SignedPaths$Graph" "from" "[I") (by decide +kernel)) (fun _ h9 => h9) rfl dX3_lifted_58 ?_
        refine lv_iload_n hx hb dX3_lifted_61 rfl (lv_at hl 1 rfl) ?_
        refine rn_iald (v := nI (fr j)) hx hb hK hP 2 0 rfl rfl (by omega) (by decide) rfl dX3_lifted_62 ?_
        refine cl_Si (As := [.int (nI (fr j))]) (rest := [.int (w j)]) ⟨hx, hb, hml, hown, hts⟩ (c2_lowest l ha (fr j) hg (by omega)) (cwV 1 hts gX3_lifted_X2_lowest rfl rfl rfl (by decide +kernel) ⟨Nat.le_of_ble_eq_true rfl, Nat.le_of_ble_eq_true rfl⟩) hK hP (ci := 2) (q0 := 6) rfl rfl rfl rfl hl.1 rfl (Nat.le_of_ble_eq_true rfl) dX3_lifted_63 ⟨Nat.zero_le _, Nat.zero_le _⟩ (fun r63 h63 => ?_)
        subst h63
        refine lv_iadd hx hb dX3_lifted_66 ?_
        refine lv_aload_n hx hb dX3_lifted_67 rfl (lv_at hl 0 rfl) ?_
        refine va_get (D := D) (ci := 3) (v := .ref (a 6)) (C := RX3) (T := TX3) (N := 3) hx hb hts i3 hown hK hP 0 rfl rfl 1 (by decide) (hts (.fieldLink RX3 21 "SignedPaths" "walks" "LSignedPaths$Walks;") (by decide +kernel)) (fun _ h9 => h9) rfl dX3_lifted_68 ?_
        refine lv_aload_n hx hb dX3_lifted_71 rfl (lv_at hl 0 rfl) ?_
        refine va_get (D := D) (ci := 3) (v := .ref (a 1)) (C := RX3) (T := TX3) (N := 3) hx hb hts i3 hown hK hP 0 rfl rfl 0 (by decide) (hts (.fieldLink RX3 12 "SignedPaths" "graph" "LSignedPaths$Graph;") (by decide +kernel)) (fun _ h9 => h9) rfl dX3_lifted_72 ?_
        refine va_get (D := D) (ci := 0) (v := .ref (a 3)) (C := RX0) (T := TX0) (N := 7) hx hb hts i0 hown hK hP 1 rfl rfl 4 (by decide) (hts (.fieldLink RX3 120 "SignedPaths$Graph" "to" "[I") (by decide +kernel)) (fun _ h9 => h9) rfl dX3_lifted_75 ?_
        refine lv_iload_n hx hb dX3_lifted_78 rfl (lv_at hl 1 rfl) ?_
        refine rn_iald (v := nI (to j)) hx hb hK hP 3 0 rfl rfl (by omega) (by decide) rfl dX3_lifted_79 ?_
        refine cl_Si (As := [.int (nI (to j))]) (rest := [.int ((w j) + (lowF n (wkL n m ch fr to w th L la sw 12) (fr j)))]) ⟨hx, hb, hml, hown, hts⟩ (c2_lowest l ha (to j) hg (by omega)) (cwV 1 hts gX3_lifted_X2_lowest rfl rfl rfl (by decide +kernel) ⟨Nat.le_of_ble_eq_true rfl, Nat.le_of_ble_eq_true rfl⟩) hK hP (ci := 2) (q0 := 6) rfl rfl rfl rfl hl.1 rfl (Nat.le_of_ble_eq_true rfl) dX3_lifted_80 ⟨Nat.zero_le _, Nat.zero_le _⟩ (fun r80 h80 => ?_)
        subst h80
        refine lv_isub hx hb dX3_lifted_83 ?_
        exact W.iret (v := ((w j) + (lowF n (wkL n m ch fr to w th L la sw 12) (fr j))) - (lowF n (wkL n m ch fr to w th L la sw 12) (to j))) hx hb hr (fun t ht hW => ⟨⟨_, _, rfl, ⟨rfl, (by rw [liA, if_pos c8, if_pos (by rw [nI_clamp (by omega)]; exact c23), if_neg (by rw [c35]; decide), nI_clamp (by omega)])⟩, by show va_P D vwCl (cW k a n m ch fr to w th (bw (liB m th (nI j)) (wkL n m ch fr to w th L la sw 12) L) (bw (liB m th (nI j)) (wka ch la sw 12) la) (bw (liB m th (nI j)) ch sw) od io oc fa on gr sr) t.heap; rw [ht]; rw [bw_t hc, bw_t hc, bw_t hc]; exact hP⟩, hS.F ht⟩) hS.2.2 dX3_lifted_84
      · refine lv_ldc (v := (-1000000003)) hx hb hown (hts (.constant RX3 105 (-1000000003)) (by decide +kernel)) dX3_lifted_38 ?_
        exact W.iret (v := (-1000000003)) hx hb hr (fun t ht hW => ⟨⟨_, _, rfl, ⟨rfl, (by rw [liA, if_pos c8, if_pos (by rw [nI_clamp (by omega)]; exact c23), if_pos c35])⟩, by show va_P D vwCl (cW k a n m ch fr to w th (bw (liB m th (nI j)) (wkL n m ch fr to w th L la sw 12) L) (bw (liB m th (nI j)) (wka ch la sw 12) la) (bw (liB m th (nI j)) ch sw) od io oc fa on gr sr) t.heap; rw [ht]; rw [bw_t hc, bw_t hc, bw_t hc]; exact hP⟩, hS.F ht⟩) hS.2.2 dX3_lifted_40
  · have hc : liB m th x = false := by simp [liB, c8]
    refine lv_ldc (v := (-1000000001)) hx hb hown (hts (.constant RX3 45 (-1000000001)) (by decide +kernel)) dX3_lifted_11 ?_
    exact W.iret (v := (-1000000001)) hx hb hr (fun t ht hW => ⟨⟨_, _, rfl, ⟨rfl, (by simp [liA, c8])⟩, by show va_P D vwCl (cW k a n m ch fr to w th (bw (liB m th x) (wkL n m ch fr to w th L la sw 12) L) (bw (liB m th x) (wka ch la sw 12) la) (bw (liB m th x) ch sw) od io oc fa on gr sr) t.heap; rw [ht]; rw [bw_f hc, bw_f hc, bw_f hc]; exact hP⟩, hS.F ht⟩) hS.2.2 dX3_lifted_13
set_option maxHeartbeats 4000000 in
set_option maxRecDepth 100000 in
theorem c3_spare (l : Launch) {D : va_G} {k : Nat → ClassId} {a : Nat → Nat} {n : Nat} {m : Nat} {ch : Int32} {fr : Nat → Nat} {to : Nat → Nat} {w : Nat → Int32} {th : Nat → Bool} {L : Nat → Nat → Int32} {la : Nat} {sw : Int32} {od : Nat → Nat} {io : Nat → Bool} {oc : Nat} {fa : Nat → Int32} {on : Nat → Nat → Int32} {gr : Int32} {sr : Int32} (ha : inj 46 a) (x : Int32) (hg : gOK n m fr to) (hla : la < 21) : Met l yX3_spare wsX3_spare ({ frames := 4, cells := 0, slots := 0, locals := 107 }) (gPc D k (cW k a n m ch fr to w th L la sw od io oc fa on gr sr) [.ref (a 0), .int x]) (va_Qi (S := Int32) (fun r u => u = r ∧ (r = spA n m fr to w th (wkL n m ch fr to w th L la sw 12) x)) (fun _ t => va_P D vwCl (cW k a n m ch fr to w th (bw (liB m th x) (wkL n m ch fr to w th L la sw 12) L) (bw (liB m th x) (wka ch la sw 12) la) (bw (liB m th x) ch sw) od io oc fa on gr sr) t.heap) (cA a)) 0 0 (cA a) := by
  refine Met.ofW (cc := cX3_spare) (maxL := 3) (ret := (some .int)) (by decide) rfl ?_
  intro p e s mt args below meth c s₁ B hml hv
  obtain ⟨rfl, hP, hK⟩ := hv
  have hx := B.exec
  have hb := B.bytes
  have hr := B.returns
  have hts := atoms_spec (ws := wsX3_spare) B.pre
  have hown : s.vm.findClass RX3 = some mt.cls := findClass_of_methodNamed B.named
  have hlocks := B.notSynchronized
  have i0 : ∀ w ∈ wsX00, w ∈ wsX3_spare := by decide +kernel
  have i2 : ∀ w ∈ wsX20, w ∈ wsX3_spare := by decide +kernel
  have i3 : ∀ w ∈ wsX30, w ∈ wsX3_spare := by decide +kernel
  have hS : va_S (cA a) s.heap s.heap [] := va_S.rf
  have hD : va_D (cA a) (cW k a n m ch fr to w th L la sw od io oc fa on gr sr) := cW_D ha
  have hl := lv_entry ([.ref (a 0), .int x]) (n := 3) (Nat.le_of_ble_eq_true rfl)
  rw [lg_entry_eq]
  generalize (lg_sl ([.ref (a 0), .int x]) ++ List.replicate (3 - (lg_sl ([.ref (a 0), .int x])).length) Slot.unset).toArray = ls at hl ⊢
  have hl : lv_has ls 3 [(0, .ref (a 0)), (1, .int x)] := hl
  obtain ⟨hn12, hm40, hft⟩ := id hg
  refine lv_aload_n hx hb dX3_spare_0 rfl (lv_at hl 0 rfl) ?_
  refine va_get (D := D) (ci := 3) (v := .ref (a 1)) (C := RX3) (T := TX3) (N := 3) hx hb hts i3 hown hK hP 0 rfl rfl 0 (by decide) (hts (.fieldLink RX3 12 "SignedPaths" "graph" "LSignedPaths$Graph;") (by decide +kernel)) (fun _ h9 => h9) rfl dX3_spare_1 ?_
  refine lv_iload_n hx hb dX3_spare_4 rfl (lv_at hl 1 rfl) ?_
  refine cl_Si (As := [.int x]) (rest := []) ⟨hx, hb, hml, hown, hts⟩ (c0_hasArc l ha x ) (cwV 1 hts gX3_spare_X0_hasArc rfl rfl rfl (by decide +kernel) ⟨Nat.le_of_ble_eq_true rfl, Nat.le_of_ble_eq_true rfl⟩) hK hP (ci := 0) (q0 := 1) rfl rfl rfl rfl hl.1 rfl (Nat.le_of_ble_eq_true rfl) dX3_spare_5 ⟨Nat.zero_le _, Nat.zero_le _⟩ (fun r5 h5 => ?_)
  subst h5
  refine rn_ifneb (tgt := 14) hx hb dX3_spare_8 (by decide) (fun c8 => ?_) (fun c8 => ?_)
  · obtain ⟨j, hj, rfl⟩ := ixB_t (by omega) c8
    have hj2 := hft j hj
    refine lv_aload_n hx hb dX3_spare_14 rfl (lv_at hl 0 rfl) ?_
    refine va_get (D := D) (ci := 3) (v := .ref (a 1)) (C := RX3) (T := TX3) (N := 3) hx hb hts i3 hown hK hP 0 rfl rfl 0 (by decide) (hts (.fieldLink RX3 12 "SignedPaths" "graph" "LSignedPaths$Graph;") (by decide +kernel)) (fun _ h9 => h9) rfl dX3_spare_15 ?_
    refine va_get (D := D) (ci := 0) (v := .ref (a 5)) (C := RX0) (T := TX0) (N := 7) hx hb hts i0 hown hK hP 1 rfl rfl 6 (by decide) (hts (.fieldLink RX3 109 "SignedPaths$Graph" "there" "[Z") (by decide +kernel)) (fun _ h9 => h9) rfl dX3_spare_18 ?_
    refine lv_iload_n hx hb dX3_spare_21 rfl (lv_at hl 1 rfl) ?_
    refine rn_zald (v := bI (th j)) hx hb hK hP 5 1 rfl rfl (by omega) (by decide) rfl dX3_spare_22 ?_
    refine rn_ifeqb (tgt := 38) hx hb dX3_spare_23 (by decide) (fun c23 => ?_) (fun c23 => ?_)
    · refine lv_ldc (v := (-1000000003)) hx hb hown (hts (.constant RX3 105 (-1000000003)) (by decide +kernel)) dX3_spare_38 ?_
      have hc : liB m th (nI j) = false := by rw [liB, nI_clamp (by omega), c23, Bool.and_false]
      exact W.iret (v := (-1000000003)) hx hb hr (fun t ht hW => ⟨⟨_, _, rfl, ⟨rfl, (by rw [spA, if_pos c8, if_neg (by rw [nI_clamp (by omega), c23]; decide)])⟩, by show va_P D vwCl (cW k a n m ch fr to w th (bw (liB m th (nI j)) (wkL n m ch fr to w th L la sw 12) L) (bw (liB m th (nI j)) (wka ch la sw 12) la) (bw (liB m th (nI j)) ch sw) od io oc fa on gr sr) t.heap; rw [ht]; rw [bw_f hc, bw_f hc, bw_f hc]; exact hP⟩, hS.F ht⟩) hS.2.2 dX3_spare_40
    · have hc : liB m th (nI j) = true := by rw [liB, c8, nI_clamp (by omega), c23]; rfl
      refine lv_aload_n hx hb dX3_spare_26 rfl (lv_at hl 0 rfl) ?_
      refine lv_bipush (v := nI 12) hx hb dX3_spare_27 (by decide) ?_
      refine cl_Qr (As := [.int (nI 12)]) (rest := []) ⟨hx, hb, hml, hown, hts⟩ (c3_walksUpTo l ha 12 hg (by omega) (by omega)) (cwV 1 hts gX3_spare_X3_walksUpTo rfl rfl rfl (by decide +kernel) ⟨Nat.le_of_ble_eq_true rfl, Nat.le_of_ble_eq_true rfl⟩) hK hP hS (fun _ h => h) (ci := 3) (q0 := 0) rfl rfl rfl rfl hl.1 rfl (Nat.le_of_ble_eq_true rfl) dX3_spare_29 ⟨Nat.zero_le _, Nat.zero_le _⟩ (fun H locs hP _ _ hS => ?_)
      have hP : va_P D vwCl (cW k a n m ch fr to w th (wkL n m ch fr to w th L la sw 12) (wka ch la sw 12) ch od io oc fa on gr sr) H := hP
      have hD : va_D (cA a) (cW k a n m ch fr to w th (wkL n m ch fr to w th L la sw 12) (wka ch la sw 12) ch od io oc fa on gr sr) := cW_D ha
      refine cl_Si (As := []) (rest := []) ⟨hx, hb, hml, hown, hts⟩ (c2_someRingFalls l ha  hg) (cwV 0 hts gX3_spare_X2_someRingFalls rfl rfl rfl (by decide +kernel) ⟨Nat.le_of_ble_eq_true rfl, Nat.le_of_ble_eq_true rfl⟩) hK hP (ci := 2) (q0 := 6) rfl rfl rfl rfl hl.1 rfl (Nat.le_of_ble_eq_true rfl) dX3_spare_32 ⟨Nat.zero_le _, Nat.zero_le _⟩ (fun r32 h32 => ?_)
      subst h32
      refine rn_ifeqb (tgt := 41) hx hb dX3_spare_35 (by decide) (fun c35 => ?_) (fun c35 => ?_)
      · refine lv_aload_n hx hb dX3_spare_41 rfl (lv_at hl 0 rfl) ?_
        refine va_get (D := D) (ci := 3) (v := .ref (a 6)) (C := RX3) (T := TX3) (N := 3) hx hb hts i3 hown hK hP 0 rfl rfl 1 (by decide) (hts (.fieldLink RX3 21 "SignedPaths" "walks" "LSignedPaths$Walks;") (by decide +kernel)) (fun _ h9 => h9) rfl dX3_spare_42 ?_
        refine lv_bipush (v := nI 12) hx hb dX3_spare_45 (by decide) ?_
        refine lv_aload_n hx hb dX3_spare_47 rfl (lv_at hl 0 rfl) ?_
        refine va_get (D := D) (ci := 3) (v := .ref (a 1)) (C := RX3) (T := TX3) (N := 3) hx hb hts i3 hown hK hP 0 rfl rfl 0 (by decide) (hts (.fieldLink RX3 12 "SignedPaths" "graph" "LSignedPaths$Graph;") (by decide +kernel)) (fun _ h9 => h9) rfl dX3_spare_48 ?_
        refine va_get (D := D) (ci := 0) (v := .ref (a 3)) (C := RX0) (T := TX0) (N := 7) hx hb hts i0 hown hK hP 1 rfl rfl 4 (by decide) (hts (.fieldLink RX3 120 "SignedPaths$Graph" "to" "[I") (by decide +kernel)) (fun _ h9 => h9) rfl dX3_spare_51 ?_
        refine lv_iload_n hx hb dX3_spare_54 rfl (lv_at hl 1 rfl) ?_
        refine rn_iald (v := nI (to j)) hx hb hK hP 3 0 rfl rfl (by omega) (by decide) rfl dX3_spare_55 ?_
        refine lv_aload_n hx hb dX3_spare_56 rfl (lv_at hl 0 rfl) ?_
        refine va_get (D := D) (ci := 3) (v := .ref (a 1)) (C := RX3) (T := TX3) (N := 3) hx hb hts i3 hown hK hP 0 rfl rfl 0 (by decide) (hts (.fieldLink RX3 12 "SignedPaths" "graph" "LSignedPaths$Graph;") (by decide +kernel)) (fun _ h9 => h9) rfl dX3_spare_57 ?_
        refine va_get (D := D) (ci := 0) (v := .ref (a 2)) (C := RX0) (T := TX0) (N := 7) hx hb hts i0 hown hK hP 1 rfl rfl 3 (by decide) (hts (.fieldLink RX3 117 "SignedPaths$Graph" "from" "[I") (by decide +kernel)) (fun _ h9 => h9) rfl dX3_spare_60 ?_
        refine lv_iload_n hx hb dX3_spare_63 rfl (lv_at hl 1 rfl) ?_
        refine rn_iald (v := nI (fr j)) hx hb hK hP 2 0 rfl rfl (by omega) (by decide) rfl dX3_spare_64 ?_
        refine cl_Si (As := [.int (nI 12), .int (nI (to j)), .int (nI (fr j))]) (rest := []) ⟨hx, hb, hml, hown, hts⟩ (c2_lightest l ha 12 (to j) (fr j) (by omega) (by omega) (by omega)) (cwV 3 hts gX3_spare_X2_lightest rfl rfl rfl (by decide +kernel) ⟨Nat.le_of_ble_eq_true rfl, Nat.le_of_ble_eq_true rfl⟩) hK hP (ci := 2) (q0 := 6) rfl rfl rfl rfl hl.1 rfl (Nat.le_of_ble_eq_true rfl) dX3_spare_65 ⟨Nat.zero_le _, Nat.zero_le _⟩ (fun r65 h65 => ?_)
        subst h65
        refine lv_istore_n (lv' := [(2, .int ((wkL n m ch fr to w th L la sw 12) 12 ((to j) * 12 + (fr j)))), (0, .ref (a 0)), (1, .int (nI j))]) hx hb dX3_spare_68 rfl hl (by decide) rfl (fun ls hl => ?_)
        refine lv_iload_n hx hb dX3_spare_69 rfl (lv_at hl 0 rfl) ?_
        refine lv_ldc (v := 1000000000) hx hb hown (hts (.constant RX3 123 1000000000) (by decide +kernel)) dX3_spare_70 ?_
        refine lv_icmp_ne (tgt := 80) hx hb dX3_spare_72 (by decide) (fun c72 => ?_) (fun c72 => ?_)
        · refine lv_aload_n hx hb dX3_spare_80 rfl (lv_at hl 1 rfl) ?_
          refine va_get (D := D) (ci := 3) (v := .ref (a 1)) (C := RX3) (T := TX3) (N := 3) hx hb hts i3 hown hK hP 0 rfl rfl 0 (by decide) (hts (.fieldLink RX3 12 "SignedPaths" "graph" "LSignedPaths$Graph;") (by decide +kernel)) (fun _ h9 => h9) rfl dX3_spare_81 ?_
          refine va_get (D := D) (ci := 0) (v := .ref (a 4)) (C := RX0) (T := TX0) (N := 7) hx hb hts i0 hown hK hP 1 rfl rfl 5 (by decide) (hts (.fieldLink RX3 113 "SignedPaths$Graph" "weight" "[I") (by decide +kernel)) (fun _ h9 => h9) rfl dX3_spare_84 ?_
          refine lv_iload_n hx hb dX3_spare_87 rfl (lv_at hl 2 rfl) ?_
          refine rn_iald (v := w j) hx hb hK hP 4 0 rfl rfl (by omega) (by decide) rfl dX3_spare_88 ?_
          refine lv_iload_n hx hb dX3_spare_89 rfl (lv_at hl 0 rfl) ?_
          refine lv_iadd hx hb dX3_spare_90 ?_
          exact W.iret (v := (w j) + ((wkL n m ch fr to w th L la sw 12) 12 ((to j) * 12 + (fr j)))) hx hb hr (fun t ht hW => ⟨⟨_, _, rfl, ⟨rfl, (by rw [spA, if_pos c8, if_pos (by rw [nI_clamp (by omega)]; exact c23), if_neg (by rw [c35]; decide), nI_clamp (by omega), if_neg c72])⟩, by show va_P D vwCl (cW k a n m ch fr to w th (bw (liB m th (nI j)) (wkL n m ch fr to w th L la sw 12) L) (bw (liB m th (nI j)) (wka ch la sw 12) la) (bw (liB m th (nI j)) ch sw) od io oc fa on gr sr) t.heap; rw [ht]; rw [bw_t hc, bw_t hc, bw_t hc]; exact hP⟩, hS.F ht⟩) hS.2.2 dX3_spare_91
        · refine lv_ldc (v := 1000000000) hx hb hown (hts (.constant RX3 123 1000000000) (by decide +kernel)) dX3_spare_75 ?_
          refine lv_goto (tgt := 91) hx hb dX3_spare_77 (by decide) ?_
          exact W.iret (v := 1000000000) hx hb hr (fun t ht hW => ⟨⟨_, _, rfl, ⟨rfl, (by rw [spA, if_pos c8, if_pos (by rw [nI_clamp (by omega)]; exact c23), if_neg (by rw [c35]; decide), nI_clamp (by omega), if_pos c72])⟩, by show va_P D vwCl (cW k a n m ch fr to w th (bw (liB m th (nI j)) (wkL n m ch fr to w th L la sw 12) L) (bw (liB m th (nI j)) (wka ch la sw 12) la) (bw (liB m th (nI j)) ch sw) od io oc fa on gr sr) t.heap; rw [ht]; rw [bw_t hc, bw_t hc, bw_t hc]; exact hP⟩, hS.F ht⟩) hS.2.2 dX3_spare_91
      · refine lv_ldc (v := (-1000000003)) hx hb hown (hts (.constant RX3 105 (-1000000003)) (by decide +kernel)) dX3_spare_38 ?_
        exact W.iret (v := (-1000000003)) hx hb hr (fun t ht hW => ⟨⟨_, _, rfl, ⟨rfl, (by rw [spA, if_pos c8, if_pos (by rw [nI_clamp (by omega)]; exact c23), if_pos c35])⟩, by show va_P D vwCl (cW k a n m ch fr to w th (bw (liB m th (nI j)) (wkL n m ch fr to w th L la sw 12) L) (bw (liB m th (nI j)) (wka ch la sw 12) la) (bw (liB m th (nI j)) ch sw) od io oc fa on gr sr) t.heap; rw [ht]; rw [bw_t hc, bw_t hc, bw_t hc]; exact hP⟩, hS.F ht⟩) hS.2.2 dX3_spare_40
  · have hc : liB m th x = false := by simp [liB, c8]
    refine lv_ldc (v := (-1000000001)) hx hb hown (hts (.constant RX3 45 (-1000000001)) (by decide +kernel)) dX3_spare_11 ?_
    exact W.iret (v := (-1000000001)) hx hb hr (fun t ht hW => ⟨⟨_, _, rfl, ⟨rfl, (by simp [spA, c8])⟩, by show va_P D vwCl (cW k a n m ch fr to w th (bw (liB m th x) (wkL n m ch fr to w th L la sw 12) L) (bw (liB m th x) (wka ch la sw 12) la) (bw (liB m th x) ch sw) od io oc fa on gr sr) t.heap; rw [ht]; rw [bw_f hc, bw_f hc, bw_f hc]; exact hP⟩, hS.F ht⟩) hS.2.2 dX3_spare_13
set_option maxHeartbeats 4000000 in
set_option maxRecDepth 100000 in
theorem c3_order (l : Launch) {D : va_G} {k : Nat → ClassId} {a : Nat → Nat} {n : Nat} {m : Nat} {ch : Int32} {fr : Nat → Nat} {to : Nat → Nat} {w : Nat → Int32} {th : Nat → Bool} {L : Nat → Nat → Int32} {la : Nat} {sw : Int32} {od : Nat → Nat} {io : Nat → Bool} {oc : Nat} {fa : Nat → Int32} {on : Nat → Nat → Int32} {gr : Int32} {sr : Int32} (ha : inj 46 a) (x : Int32) (hg : gOK n m fr to) (ho : oc ≤ 12 ∧ ∀ j, j < oc → od j < 12) : Met l yX3_order wsX3_order ({ frames := 5, cells := 0, slots := 0, locals := 125 }) (gPc D k (cW k a n m ch fr to w th L la sw od io oc fa on gr sr) [.ref (a 0), .int x]) (va_Qi (S := Int32) (fun r u => u = r ∧ (r = stA n (rOc n m ch fr to th od io oc sr) (oI (ndO (rOd n m ch fr to th od io sr) (rOc n m ch fr to th od io oc sr) x)))) (fun _ t => va_P D vwCl (cW k a n m ch fr to w th L la sw (rOd n m ch fr to th od io sr) (rIo n m ch fr to th od io sr) (rOc n m ch fr to th od io oc sr) (rFa n m ch fr to w th od io fa sr) (rOn n m ch fr to w th od io on sr) (rGr n m ch fr to w th od io fa gr sr) ch) t.heap) (cA a)) 0 0 (cA a) := by
  refine Met.ofW (cc := cX3_order) (maxL := 2) (ret := (some .int)) (by decide) rfl ?_
  intro p e s mt args below meth c s₁ B hml hv
  obtain ⟨rfl, hP, hK⟩ := hv
  have hx := B.exec
  have hb := B.bytes
  have hr := B.returns
  have hts := atoms_spec (ws := wsX3_order) B.pre
  have hown : s.vm.findClass RX3 = some mt.cls := findClass_of_methodNamed B.named
  have hlocks := B.notSynchronized
  have i1 : ∀ w ∈ wsX10, w ∈ wsX3_order := by decide +kernel
  have i3 : ∀ w ∈ wsX30, w ∈ wsX3_order := by decide +kernel
  have hS : va_S (cA a) s.heap s.heap [] := va_S.rf
  have hD : va_D (cA a) (cW k a n m ch fr to w th L la sw od io oc fa on gr sr) := cW_D ha
  have hl := lv_entry ([.ref (a 0), .int x]) (n := 2) (Nat.le_of_ble_eq_true rfl)
  rw [lg_entry_eq]
  generalize (lg_sl ([.ref (a 0), .int x]) ++ List.replicate (2 - (lg_sl ([.ref (a 0), .int x])).length) Slot.unset).toArray = ls at hl ⊢
  have hl : lv_has ls 2 [(0, .ref (a 0)), (1, .int x)] := hl
  obtain ⟨hn12, hm40, hft⟩ := id hg
  have hro := rO_ok (m := m) (ch := ch) (fr := fr) (to := to) (th := th) (io := io) (sr := sr) hn12 ho
  refine lv_aload_n hx hb dX3_order_0 rfl (lv_at hl 0 rfl) ?_
  refine cl_Qr (As := []) (rest := []) ⟨hx, hb, hml, hown, hts⟩ (c3_ringlessNow l ha  hg) (cwV 0 hts gX3_order_X3_ringlessNow rfl rfl rfl (by decide +kernel) ⟨Nat.le_of_ble_eq_true rfl, Nat.le_of_ble_eq_true rfl⟩) hK hP hS (fun _ h => h) (ci := 3) (q0 := 0) rfl rfl rfl rfl hl.1 rfl (Nat.le_of_ble_eq_true rfl) dX3_order_1 ⟨Nat.zero_le _, Nat.zero_le _⟩ (fun H locs hP _ _ hS => ?_)
  have hP : va_P D vwCl (cW k a n m ch fr to w th L la sw (rOd n m ch fr to th od io sr) (rIo n m ch fr to th od io sr) (rOc n m ch fr to th od io oc sr) (rFa n m ch fr to w th od io fa sr) (rOn n m ch fr to w th od io on sr) (rGr n m ch fr to w th od io fa gr sr) ch) H := hP
  have hD : va_D (cA a) (cW k a n m ch fr to w th L la sw (rOd n m ch fr to th od io sr) (rIo n m ch fr to th od io sr) (rOc n m ch fr to th od io oc sr) (rFa n m ch fr to w th od io fa sr) (rOn n m ch fr to w th od io on sr) (rGr n m ch fr to w th od io fa gr sr) ch) := cW_D ha
  refine cl_Si (As := []) (rest := []) ⟨hx, hb, hml, hown, hts⟩ (c1_hasRing l ha  hn12 hro.1) (cwV 0 hts gX3_order_X1_hasRing rfl rfl rfl (by decide +kernel) ⟨Nat.le_of_ble_eq_true rfl, Nat.le_of_ble_eq_true rfl⟩) hK hP (ci := 1) (q0 := 8) rfl rfl rfl rfl hl.1 rfl (Nat.le_of_ble_eq_true rfl) dX3_order_4 ⟨Nat.zero_le _, Nat.zero_le _⟩ (fun r4 h4 => ?_)
  subst h4
  refine rn_ifeqb (tgt := 13) hx hb dX3_order_7 (by decide) (fun c7 => ?_) (fun c7 => ?_)
  · refine lv_aload_n hx hb dX3_order_13 rfl (lv_at hl 0 rfl) ?_
    refine va_get (D := D) (ci := 3) (v := .ref (a 8)) (C := RX3) (T := TX3) (N := 3) hx hb hts i3 hown hK hP 0 rfl rfl 2 (by decide) (hts (.fieldLink RX3 28 "SignedPaths" "ringless" "LSignedPaths$Ringless;") (by decide +kernel)) (fun _ h9 => h9) rfl dX3_order_14 ?_
    refine lv_iload_n hx hb dX3_order_17 rfl (lv_at hl 1 rfl) ?_
    refine cl_Si (As := [.int x]) (rest := []) ⟨hx, hb, hml, hown, hts⟩ (c1_nodeAt l ha x hro) (cwV 1 hts gX3_order_X1_nodeAt rfl rfl rfl (by decide +kernel) ⟨Nat.le_of_ble_eq_true rfl, Nat.le_of_ble_eq_true rfl⟩) hK hP (ci := 1) (q0 := 8) rfl rfl rfl rfl hl.1 rfl (Nat.le_of_ble_eq_true rfl) dX3_order_18 ⟨Nat.zero_le _, Nat.zero_le _⟩ (fun r18 h18 => ?_)
    exact W.iret (v := r18) hx hb hr (fun t ht hW => ⟨⟨_, _, rfl, ⟨rfl, (by rw [h18, stA, if_neg (of_decide_eq_false c7)])⟩, by show va_P D vwCl (cW k a n m ch fr to w th L la sw (rOd n m ch fr to th od io sr) (rIo n m ch fr to th od io sr) (rOc n m ch fr to th od io oc sr) (rFa n m ch fr to w th od io fa sr) (rOn n m ch fr to w th od io on sr) (rGr n m ch fr to w th od io fa gr sr) ch) t.heap; rw [ht]; exact hP⟩, hS.F ht⟩) hS.2.2 dX3_order_21
  · refine lv_ldc (v := (-1000000003)) hx hb hown (hts (.constant RX3 105 (-1000000003)) (by decide +kernel)) dX3_order_10 ?_
    exact W.iret (v := (-1000000003)) hx hb hr (fun t ht hW => ⟨⟨_, _, rfl, ⟨rfl, (by rw [stA, if_pos (of_decide_eq_true c7)])⟩, by show va_P D vwCl (cW k a n m ch fr to w th L la sw (rOd n m ch fr to th od io sr) (rIo n m ch fr to th od io sr) (rOc n m ch fr to th od io oc sr) (rFa n m ch fr to w th od io fa sr) (rOn n m ch fr to w th od io on sr) (rGr n m ch fr to w th od io fa gr sr) ch) t.heap; rw [ht]; exact hP⟩, hS.F ht⟩) hS.2.2 dX3_order_12
set_option maxHeartbeats 4000000 in
set_option maxRecDepth 100000 in
theorem c3_far (l : Launch) {D : va_G} {k : Nat → ClassId} {a : Nat → Nat} {n : Nat} {m : Nat} {ch : Int32} {fr : Nat → Nat} {to : Nat → Nat} {w : Nat → Int32} {th : Nat → Bool} {L : Nat → Nat → Int32} {la : Nat} {sw : Int32} {od : Nat → Nat} {io : Nat → Bool} {oc : Nat} {fa : Nat → Int32} {on : Nat → Nat → Int32} {gr : Int32} {sr : Int32} (ha : inj 46 a) (x : Int32) (hg : gOK n m fr to) (ho : oc ≤ 12 ∧ ∀ j, j < oc → od j < 12) : Met l yX3_far wsX3_far ({ frames := 5, cells := 0, slots := 0, locals := 125 }) (gPc D k (cW k a n m ch fr to w th L la sw od io oc fa on gr sr) [.ref (a 0), .int x]) (va_Qi (S := Int32) (fun r u => u = r ∧ (r = bw (ixB x n) (stA n (rOc n m ch fr to th od io oc sr) ((rFa n m ch fr to w th od io fa sr) x.toNatClampNeg)) (-1000000001))) (fun _ t => va_P D vwCl (cW k a n m ch fr to w th L la sw (bw (ixB x n) (rOd n m ch fr to th od io sr) od) (bw (ixB x n) (rIo n m ch fr to th od io sr) io) (bw (ixB x n) (rOc n m ch fr to th od io oc sr) oc) (bw (ixB x n) (rFa n m ch fr to w th od io fa sr) fa) (bw (ixB x n) (rOn n m ch fr to w th od io on sr) on) (bw (ixB x n) (rGr n m ch fr to w th od io fa gr sr) gr) (bw (ixB x n) (ch) sr)) t.heap) (cA a)) 0 0 (cA a) := by
  refine Met.ofW (cc := cX3_far) (maxL := 2) (ret := (some .int)) (by decide) rfl ?_
  intro p e s mt args below meth c s₁ B hml hv
  obtain ⟨rfl, hP, hK⟩ := hv
  have hx := B.exec
  have hb := B.bytes
  have hr := B.returns
  have hts := atoms_spec (ws := wsX3_far) B.pre
  have hown : s.vm.findClass RX3 = some mt.cls := findClass_of_methodNamed B.named
  have hlocks := B.notSynchronized
  have i0 : ∀ w ∈ wsX00, w ∈ wsX3_far := by decide +kernel
  have i1 : ∀ w ∈ wsX10, w ∈ wsX3_far := by decide +kernel
  have i3 : ∀ w ∈ wsX30, w ∈ wsX3_far := by decide +kernel
  have hS : va_S (cA a) s.heap s.heap [] := va_S.rf
  have hD : va_D (cA a) (cW k a n m ch fr to w th L la sw od io oc fa on gr sr) := cW_D ha
  have hl := lv_entry ([.ref (a 0), .int x]) (n := 2) (Nat.le_of_ble_eq_true rfl)
  rw [lg_entry_eq]
  generalize (lg_sl ([.ref (a 0), .int x]) ++ List.replicate (2 - (lg_sl ([.ref (a 0), .int x])).length) Slot.unset).toArray = ls at hl ⊢
  have hl : lv_has ls 2 [(0, .ref (a 0)), (1, .int x)] := hl
  obtain ⟨hn12, hm40, hft⟩ := id hg
  have hro := rO_ok (m := m) (ch := ch) (fr := fr) (to := to) (th := th) (io := io) (sr := sr) hn12 ho
  refine lv_aload_n hx hb dX3_far_0 rfl (lv_at hl 0 rfl) ?_
  refine va_get (D := D) (ci := 3) (v := .ref (a 1)) (C := RX3) (T := TX3) (N := 3) hx hb hts i3 hown hK hP 0 rfl rfl 0 (by decide) (hts (.fieldLink RX3 12 "SignedPaths" "graph" "LSignedPaths$Graph;") (by decide +kernel)) (fun _ h9 => h9) rfl dX3_far_1 ?_
  refine lv_iload_n hx hb dX3_far_4 rfl (lv_at hl 1 rfl) ?_
  refine cl_Si (As := [.int x]) (rest := []) ⟨hx, hb, hml, hown, hts⟩ (c0_hasNode l ha x ) (cwV 1 hts gX3_far_X0_hasNode rfl rfl rfl (by decide +kernel) ⟨Nat.le_of_ble_eq_true rfl, Nat.le_of_ble_eq_true rfl⟩) hK hP (ci := 0) (q0 := 1) rfl rfl rfl rfl hl.1 rfl (Nat.le_of_ble_eq_true rfl) dX3_far_5 ⟨Nat.zero_le _, Nat.zero_le _⟩ (fun r5 h5 => ?_)
  subst h5
  refine rn_ifneb (tgt := 14) hx hb dX3_far_8 (by decide) (fun c8 => ?_) (fun c8 => ?_)
  · obtain ⟨u, hu, rfl⟩ := ixB_t (by omega) c8
    refine lv_aload_n hx hb dX3_far_14 rfl (lv_at hl 0 rfl) ?_
    refine cl_Qr (As := []) (rest := []) ⟨hx, hb, hml, hown, hts⟩ (c3_ringlessNow l ha  hg) (cwV 0 hts gX3_far_X3_ringlessNow rfl rfl rfl (by decide +kernel) ⟨Nat.le_of_ble_eq_true rfl, Nat.le_of_ble_eq_true rfl⟩) hK hP hS (fun _ h => h) (ci := 3) (q0 := 0) rfl rfl rfl rfl hl.1 rfl (Nat.le_of_ble_eq_true rfl) dX3_far_15 ⟨Nat.zero_le _, Nat.zero_le _⟩ (fun H locs hP _ _ hS => ?_)
    have hP : va_P D vwCl (cW k a n m ch fr to w th L la sw (rOd n m ch fr to th od io sr) (rIo n m ch fr to th od io sr) (rOc n m ch fr to th od io oc sr) (rFa n m ch fr to w th od io fa sr) (rOn n m ch fr to w th od io on sr) (rGr n m ch fr to w th od io fa gr sr) ch) H := hP
    have hD : va_D (cA a) (cW k a n m ch fr to w th L la sw (rOd n m ch fr to th od io sr) (rIo n m ch fr to th od io sr) (rOc n m ch fr to th od io oc sr) (rFa n m ch fr to w th od io fa sr) (rOn n m ch fr to w th od io on sr) (rGr n m ch fr to w th od io fa gr sr) ch) := cW_D ha
    refine cl_Si (As := []) (rest := []) ⟨hx, hb, hml, hown, hts⟩ (c1_hasRing l ha  hn12 hro.1) (cwV 0 hts gX3_far_X1_hasRing rfl rfl rfl (by decide +kernel) ⟨Nat.le_of_ble_eq_true rfl, Nat.le_of_ble_eq_true rfl⟩) hK hP (ci := 1) (q0 := 8) rfl rfl rfl rfl hl.1 rfl (Nat.le_of_ble_eq_true rfl) dX3_far_18 ⟨Nat.zero_le _, Nat.zero_le _⟩ (fun r18 h18 => ?_)
    subst h18
    refine rn_ifeqb (tgt := 27) hx hb dX3_far_21 (by decide) (fun c21 => ?_) (fun c21 => ?_)
    · refine lv_aload_n hx hb dX3_far_27 rfl (lv_at hl 0 rfl) ?_
      refine va_get (D := D) (ci := 3) (v := .ref (a 8)) (C := RX3) (T := TX3) (N := 3) hx hb hts i3 hown hK hP 0 rfl rfl 2 (by decide) (hts (.fieldLink RX3 28 "SignedPaths" "ringless" "LSignedPaths$Ringless;") (by decide +kernel)) (fun _ h9 => h9) rfl dX3_far_28 ?_
      refine va_get (D := D) (ci := 1) (v := .ref (a 11)) (C := RX1) (T := TX1) (N := 8) hx hb hts i1 hown hK hP 8 rfl rfl 4 (by decide) (hts (.fieldLink RX3 134 "SignedPaths$Ringless" "farthest" "[I") (by decide +kernel)) (fun _ h9 => h9) rfl dX3_far_31 ?_
      refine lv_iload_n hx hb dX3_far_34 rfl (lv_at hl 1 rfl) ?_
      refine rn_iald (v := (rFa n m ch fr to w th od io fa sr) u) hx hb hK hP 11 0 rfl rfl (by omega) (by decide) rfl dX3_far_35 ?_
      exact W.iret (v := (rFa n m ch fr to w th od io fa sr) u) hx hb hr (fun t ht hW => ⟨⟨_, _, rfl, ⟨rfl, (by rw [bw_t c8, stA, if_neg (of_decide_eq_false c21), nI_clamp (by omega)])⟩, by show va_P D vwCl (cW k a n m ch fr to w th L la sw (bw (ixB (nI u) n) (rOd n m ch fr to th od io sr) od) (bw (ixB (nI u) n) (rIo n m ch fr to th od io sr) io) (bw (ixB (nI u) n) (rOc n m ch fr to th od io oc sr) oc) (bw (ixB (nI u) n) (rFa n m ch fr to w th od io fa sr) fa) (bw (ixB (nI u) n) (rOn n m ch fr to w th od io on sr) on) (bw (ixB (nI u) n) (rGr n m ch fr to w th od io fa gr sr) gr) (bw (ixB (nI u) n) (ch) sr)) t.heap; rw [ht]; rw [bw_t c8, bw_t c8, bw_t c8, bw_t c8, bw_t c8, bw_t c8, bw_t c8]; exact hP⟩, hS.F ht⟩) hS.2.2 dX3_far_36
    · refine lv_ldc (v := (-1000000003)) hx hb hown (hts (.constant RX3 105 (-1000000003)) (by decide +kernel)) dX3_far_24 ?_
      exact W.iret (v := (-1000000003)) hx hb hr (fun t ht hW => ⟨⟨_, _, rfl, ⟨rfl, (by rw [bw_t c8, stA, if_pos (of_decide_eq_true c21)])⟩, by show va_P D vwCl (cW k a n m ch fr to w th L la sw (bw (ixB (nI u) n) (rOd n m ch fr to th od io sr) od) (bw (ixB (nI u) n) (rIo n m ch fr to th od io sr) io) (bw (ixB (nI u) n) (rOc n m ch fr to th od io oc sr) oc) (bw (ixB (nI u) n) (rFa n m ch fr to w th od io fa sr) fa) (bw (ixB (nI u) n) (rOn n m ch fr to w th od io on sr) on) (bw (ixB (nI u) n) (rGr n m ch fr to w th od io fa gr sr) gr) (bw (ixB (nI u) n) (ch) sr)) t.heap; rw [ht]; rw [bw_t c8, bw_t c8, bw_t c8, bw_t c8, bw_t c8, bw_t c8, bw_t c8]; exact hP⟩, hS.F ht⟩) hS.2.2 dX3_far_26
  · refine lv_ldc (v := (-1000000001)) hx hb hown (hts (.constant RX3 45 (-1000000001)) (by decide +kernel)) dX3_far_11 ?_
    exact W.iret (v := (-1000000001)) hx hb hr (fun t ht hW => ⟨⟨_, _, rfl, ⟨rfl, (by rw [bw_f c8])⟩, by show va_P D vwCl (cW k a n m ch fr to w th L la sw (bw (ixB x n) (rOd n m ch fr to th od io sr) od) (bw (ixB x n) (rIo n m ch fr to th od io sr) io) (bw (ixB x n) (rOc n m ch fr to th od io oc sr) oc) (bw (ixB x n) (rFa n m ch fr to w th od io fa sr) fa) (bw (ixB x n) (rOn n m ch fr to w th od io on sr) on) (bw (ixB x n) (rGr n m ch fr to w th od io fa gr sr) gr) (bw (ixB x n) (ch) sr)) t.heap; rw [ht]; rw [bw_f c8, bw_f c8, bw_f c8, bw_f c8, bw_f c8, bw_f c8, bw_f c8]; exact hP⟩, hS.F ht⟩) hS.2.2 dX3_far_13
set_option maxHeartbeats 4000000 in
set_option maxRecDepth 100000 in
theorem c3_late (l : Launch) {D : va_G} {k : Nat → ClassId} {a : Nat → Nat} {n : Nat} {m : Nat} {ch : Int32} {fr : Nat → Nat} {to : Nat → Nat} {w : Nat → Int32} {th : Nat → Bool} {L : Nat → Nat → Int32} {la : Nat} {sw : Int32} {od : Nat → Nat} {io : Nat → Bool} {oc : Nat} {fa : Nat → Int32} {on : Nat → Nat → Int32} {gr : Int32} {sr : Int32} (ha : inj 46 a) (x : Int32) (hg : gOK n m fr to) (ho : oc ≤ 12 ∧ ∀ j, j < oc → od j < 12) : Met l yX3_late wsX3_late ({ frames := 5, cells := 0, slots := 0, locals := 125 }) (gPc D k (cW k a n m ch fr to w th L la sw od io oc fa on gr sr) [.ref (a 0), .int x]) (va_Qi (S := Int32) (fun r u => u = r ∧ (r = bw (ixB x n) (stA n (rOc n m ch fr to th od io oc sr) ((rGr n m ch fr to w th od io fa gr sr) - (rOn n m ch fr to w th od io on sr) 11 x.toNatClampNeg)) (-1000000001))) (fun _ t => va_P D vwCl (cW k a n m ch fr to w th L la sw (bw (ixB x n) (rOd n m ch fr to th od io sr) od) (bw (ixB x n) (rIo n m ch fr to th od io sr) io) (bw (ixB x n) (rOc n m ch fr to th od io oc sr) oc) (bw (ixB x n) (rFa n m ch fr to w th od io fa sr) fa) (bw (ixB x n) (rOn n m ch fr to w th od io on sr) on) (bw (ixB x n) (rGr n m ch fr to w th od io fa gr sr) gr) (bw (ixB x n) (ch) sr)) t.heap) (cA a)) 0 0 (cA a) := by
  refine Met.ofW (cc := cX3_late) (maxL := 2) (ret := (some .int)) (by decide) rfl ?_
  intro p e s mt args below meth c s₁ B hml hv
  obtain ⟨rfl, hP, hK⟩ := hv
  have hx := B.exec
  have hb := B.bytes
  have hr := B.returns
  have hts := atoms_spec (ws := wsX3_late) B.pre
  have hown : s.vm.findClass RX3 = some mt.cls := findClass_of_methodNamed B.named
  have hlocks := B.notSynchronized
  have i0 : ∀ w ∈ wsX00, w ∈ wsX3_late := by decide +kernel
  have i1 : ∀ w ∈ wsX10, w ∈ wsX3_late := by decide +kernel
  have i3 : ∀ w ∈ wsX30, w ∈ wsX3_late := by decide +kernel
  have hS : va_S (cA a) s.heap s.heap [] := va_S.rf
  have hD : va_D (cA a) (cW k a n m ch fr to w th L la sw od io oc fa on gr sr) := cW_D ha
  have hl := lv_entry ([.ref (a 0), .int x]) (n := 2) (Nat.le_of_ble_eq_true rfl)
  rw [lg_entry_eq]
  generalize (lg_sl ([.ref (a 0), .int x]) ++ List.replicate (2 - (lg_sl ([.ref (a 0), .int x])).length) Slot.unset).toArray = ls at hl ⊢
  have hl : lv_has ls 2 [(0, .ref (a 0)), (1, .int x)] := hl
  obtain ⟨hn12, hm40, hft⟩ := id hg
  have hro := rO_ok (m := m) (ch := ch) (fr := fr) (to := to) (th := th) (io := io) (sr := sr) hn12 ho
  refine lv_aload_n hx hb dX3_late_0 rfl (lv_at hl 0 rfl) ?_
  refine va_get (D := D) (ci := 3) (v := .ref (a 1)) (C := RX3) (T := TX3) (N := 3) hx hb hts i3 hown hK hP 0 rfl rfl 0 (by decide) (hts (.fieldLink RX3 12 "SignedPaths" "graph" "LSignedPaths$Graph;") (by decide +kernel)) (fun _ h9 => h9) rfl dX3_late_1 ?_
  refine lv_iload_n hx hb dX3_late_4 rfl (lv_at hl 1 rfl) ?_
  refine cl_Si (As := [.int x]) (rest := []) ⟨hx, hb, hml, hown, hts⟩ (c0_hasNode l ha x ) (cwV 1 hts gX3_late_X0_hasNode rfl rfl rfl (by decide +kernel) ⟨Nat.le_of_ble_eq_true rfl, Nat.le_of_ble_eq_true rfl⟩) hK hP (ci := 0) (q0 := 1) rfl rfl rfl rfl hl.1 rfl (Nat.le_of_ble_eq_true rfl) dX3_late_5 ⟨Nat.zero_le _, Nat.zero_le _⟩ (fun r5 h5 => ?_)
  subst h5
  refine rn_ifneb (tgt := 14) hx hb dX3_late_8 (by decide) (fun c8 => ?_) (fun c8 => ?_)
  · obtain ⟨u, hu, rfl⟩ := ixB_t (by omega) c8
    refine lv_aload_n hx hb dX3_late_14 rfl (lv_at hl 0 rfl) ?_
    refine cl_Qr (As := []) (rest := []) ⟨hx, hb, hml, hown, hts⟩ (c3_ringlessNow l ha  hg) (cwV 0 hts gX3_late_X3_ringlessNow rfl rfl rfl (by decide +kernel) ⟨Nat.le_of_ble_eq_true rfl, Nat.le_of_ble_eq_true rfl⟩) hK hP hS (fun _ h => h) (ci := 3) (q0 := 0) rfl rfl rfl rfl hl.1 rfl (Nat.le_of_ble_eq_true rfl) dX3_late_15 ⟨Nat.zero_le _, Nat.zero_le _⟩ (fun H locs hP _ _ hS => ?_)
    have hP : va_P D vwCl (cW k a n m ch fr to w th L la sw (rOd n m ch fr to th od io sr) (rIo n m ch fr to th od io sr) (rOc n m ch fr to th od io oc sr) (rFa n m ch fr to w th od io fa sr) (rOn n m ch fr to w th od io on sr) (rGr n m ch fr to w th od io fa gr sr) ch) H := hP
    have hD : va_D (cA a) (cW k a n m ch fr to w th L la sw (rOd n m ch fr to th od io sr) (rIo n m ch fr to th od io sr) (rOc n m ch fr to th od io oc sr) (rFa n m ch fr to w th od io fa sr) (rOn n m ch fr to w th od io on sr) (rGr n m ch fr to w th od io fa gr sr) ch) := cW_D ha
    refine cl_Si (As := []) (rest := []) ⟨hx, hb, hml, hown, hts⟩ (c1_hasRing l ha  hn12 hro.1) (cwV 0 hts gX3_late_X1_hasRing rfl rfl rfl (by decide +kernel) ⟨Nat.le_of_ble_eq_true rfl, Nat.le_of_ble_eq_true rfl⟩) hK hP (ci := 1) (q0 := 8) rfl rfl rfl rfl hl.1 rfl (Nat.le_of_ble_eq_true rfl) dX3_late_18 ⟨Nat.zero_le _, Nat.zero_le _⟩ (fun r18 h18 => ?_)
    subst h18
    refine rn_ifeqb (tgt := 27) hx hb dX3_late_21 (by decide) (fun c21 => ?_) (fun c21 => ?_)
    · refine lv_aload_n hx hb dX3_late_27 rfl (lv_at hl 0 rfl) ?_
      refine va_get (D := D) (ci := 3) (v := .ref (a 8)) (C := RX3) (T := TX3) (N := 3) hx hb hts i3 hown hK hP 0 rfl rfl 2 (by decide) (hts (.fieldLink RX3 28 "SignedPaths" "ringless" "LSignedPaths$Ringless;") (by decide +kernel)) (fun _ h9 => h9) rfl dX3_late_28 ?_
      refine lv_iload_n hx hb dX3_late_31 rfl (lv_at hl 1 rfl) ?_
      refine cl_Si (As := [.int (nI u)]) (rest := []) ⟨hx, hb, hml, hown, hts⟩ (c1_latest l ha u (by omega)) (cwV 1 hts gX3_late_X1_latest rfl rfl rfl (by decide +kernel) ⟨Nat.le_of_ble_eq_true rfl, Nat.le_of_ble_eq_true rfl⟩) hK hP (ci := 1) (q0 := 8) rfl rfl rfl rfl hl.1 rfl (Nat.le_of_ble_eq_true rfl) dX3_late_32 ⟨Nat.zero_le _, Nat.zero_le _⟩ (fun r32 h32 => ?_)
      subst h32
      exact W.iret (v := (rGr n m ch fr to w th od io fa gr sr) - (rOn n m ch fr to w th od io on sr) 11 u) hx hb hr (fun t ht hW => ⟨⟨_, _, rfl, ⟨rfl, (by rw [bw_t c8, stA, if_neg (of_decide_eq_false c21), nI_clamp (by omega)])⟩, by show va_P D vwCl (cW k a n m ch fr to w th L la sw (bw (ixB (nI u) n) (rOd n m ch fr to th od io sr) od) (bw (ixB (nI u) n) (rIo n m ch fr to th od io sr) io) (bw (ixB (nI u) n) (rOc n m ch fr to th od io oc sr) oc) (bw (ixB (nI u) n) (rFa n m ch fr to w th od io fa sr) fa) (bw (ixB (nI u) n) (rOn n m ch fr to w th od io on sr) on) (bw (ixB (nI u) n) (rGr n m ch fr to w th od io fa gr sr) gr) (bw (ixB (nI u) n) (ch) sr)) t.heap; rw [ht]; rw [bw_t c8, bw_t c8, bw_t c8, bw_t c8, bw_t c8, bw_t c8, bw_t c8]; exact hP⟩, hS.F ht⟩) hS.2.2 dX3_late_35
    · refine lv_ldc (v := (-1000000003)) hx hb hown (hts (.constant RX3 105 (-1000000003)) (by decide +kernel)) dX3_late_24 ?_
      exact W.iret (v := (-1000000003)) hx hb hr (fun t ht hW => ⟨⟨_, _, rfl, ⟨rfl, (by rw [bw_t c8, stA, if_pos (of_decide_eq_true c21)])⟩, by show va_P D vwCl (cW k a n m ch fr to w th L la sw (bw (ixB (nI u) n) (rOd n m ch fr to th od io sr) od) (bw (ixB (nI u) n) (rIo n m ch fr to th od io sr) io) (bw (ixB (nI u) n) (rOc n m ch fr to th od io oc sr) oc) (bw (ixB (nI u) n) (rFa n m ch fr to w th od io fa sr) fa) (bw (ixB (nI u) n) (rOn n m ch fr to w th od io on sr) on) (bw (ixB (nI u) n) (rGr n m ch fr to w th od io fa gr sr) gr) (bw (ixB (nI u) n) (ch) sr)) t.heap; rw [ht]; rw [bw_t c8, bw_t c8, bw_t c8, bw_t c8, bw_t c8, bw_t c8, bw_t c8]; exact hP⟩, hS.F ht⟩) hS.2.2 dX3_late_26
  · refine lv_ldc (v := (-1000000001)) hx hb hown (hts (.constant RX3 45 (-1000000001)) (by decide +kernel)) dX3_late_11 ?_
    exact W.iret (v := (-1000000001)) hx hb hr (fun t ht hW => ⟨⟨_, _, rfl, ⟨rfl, (by rw [bw_f c8])⟩, by show va_P D vwCl (cW k a n m ch fr to w th L la sw (bw (ixB x n) (rOd n m ch fr to th od io sr) od) (bw (ixB x n) (rIo n m ch fr to th od io sr) io) (bw (ixB x n) (rOc n m ch fr to th od io oc sr) oc) (bw (ixB x n) (rFa n m ch fr to w th od io fa sr) fa) (bw (ixB x n) (rOn n m ch fr to w th od io on sr) on) (bw (ixB x n) (rGr n m ch fr to w th od io fa gr sr) gr) (bw (ixB x n) (ch) sr)) t.heap; rw [ht]; rw [bw_f c8, bw_f c8, bw_f c8, bw_f c8, bw_f c8, bw_f c8, bw_f c8]; exact hP⟩, hS.F ht⟩) hS.2.2 dX3_late_13
set_option maxHeartbeats 4000000 in
set_option maxRecDepth 100000 in
theorem c3_whole (l : Launch) {D : va_G} {k : Nat → ClassId} {a : Nat → Nat} {n : Nat} {m : Nat} {ch : Int32} {fr : Nat → Nat} {to : Nat → Nat} {w : Nat → Int32} {th : Nat → Bool} {L : Nat → Nat → Int32} {la : Nat} {sw : Int32} {od : Nat → Nat} {io : Nat → Bool} {oc : Nat} {fa : Nat → Int32} {on : Nat → Nat → Int32} {gr : Int32} {sr : Int32} (ha : inj 46 a)  (hg : gOK n m fr to) (ho : oc ≤ 12 ∧ ∀ j, j < oc → od j < 12) : Met l yX3_whole wsX3_whole ({ frames := 5, cells := 0, slots := 0, locals := 125 }) (gPc D k (cW k a n m ch fr to w th L la sw od io oc fa on gr sr) [.ref (a 0)]) (va_Qi (S := Int32) (fun r u => u = r ∧ (r = stA n (rOc n m ch fr to th od io oc sr) (rGr n m ch fr to w th od io fa gr sr))) (fun _ t => va_P D vwCl (cW k a n m ch fr to w th L la sw (rOd n m ch fr to th od io sr) (rIo n m ch fr to th od io sr) (rOc n m ch fr to th od io oc sr) (rFa n m ch fr to w th od io fa sr) (rOn n m ch fr to w th od io on sr) (rGr n m ch fr to w th od io fa gr sr) ch) t.heap) (cA a)) 0 0 (cA a) := by
  refine Met.ofW (cc := cX3_whole) (maxL := 1) (ret := (some .int)) (by decide) rfl ?_
  intro p e s mt args below meth c s₁ B hml hv
  obtain ⟨rfl, hP, hK⟩ := hv
  have hx := B.exec
  have hb := B.bytes
  have hr := B.returns
  have hts := atoms_spec (ws := wsX3_whole) B.pre
  have hown : s.vm.findClass RX3 = some mt.cls := findClass_of_methodNamed B.named
  have hlocks := B.notSynchronized
  have i1 : ∀ w ∈ wsX10, w ∈ wsX3_whole := by decide +kernel
  have i3 : ∀ w ∈ wsX30, w ∈ wsX3_whole := by decide +kernel
  have hS : va_S (cA a) s.heap s.heap [] := va_S.rf
  have hD : va_D (cA a) (cW k a n m ch fr to w th L la sw od io oc fa on gr sr) := cW_D ha
  have hl := lv_entry ([.ref (a 0)]) (n := 1) (Nat.le_of_ble_eq_true rfl)
  rw [lg_entry_eq]
  generalize (lg_sl ([.ref (a 0)]) ++ List.replicate (1 - (lg_sl ([.ref (a 0)])).length) Slot.unset).toArray = ls at hl ⊢
  have hl : lv_has ls 1 [(0, .ref (a 0))] := hl
  obtain ⟨hn12, hm40, hft⟩ := id hg
  have hro := rO_ok (m := m) (ch := ch) (fr := fr) (to := to) (th := th) (io := io) (sr := sr) hn12 ho
  refine lv_aload_n hx hb dX3_whole_0 rfl (lv_at hl 0 rfl) ?_
  refine cl_Qr (As := []) (rest := []) ⟨hx, hb, hml, hown, hts⟩ (c3_ringlessNow l ha  hg) (cwV 0 hts gX3_whole_X3_ringlessNow rfl rfl rfl (by decide +kernel) ⟨Nat.le_of_ble_eq_true rfl, Nat.le_of_ble_eq_true rfl⟩) hK hP hS (fun _ h => h) (ci := 3) (q0 := 0) rfl rfl rfl rfl hl.1 rfl (Nat.le_of_ble_eq_true rfl) dX3_whole_1 ⟨Nat.zero_le _, Nat.zero_le _⟩ (fun H locs hP _ _ hS => ?_)
  have hP : va_P D vwCl (cW k a n m ch fr to w th L la sw (rOd n m ch fr to th od io sr) (rIo n m ch fr to th od io sr) (rOc n m ch fr to th od io oc sr) (rFa n m ch fr to w th od io fa sr) (rOn n m ch fr to w th od io on sr) (rGr n m ch fr to w th od io fa gr sr) ch) H := hP
  have hD : va_D (cA a) (cW k a n m ch fr to w th L la sw (rOd n m ch fr to th od io sr) (rIo n m ch fr to th od io sr) (rOc n m ch fr to th od io oc sr) (rFa n m ch fr to w th od io fa sr) (rOn n m ch fr to w th od io on sr) (rGr n m ch fr to w th od io fa gr sr) ch) := cW_D ha
  refine cl_Si (As := []) (rest := []) ⟨hx, hb, hml, hown, hts⟩ (c1_hasRing l ha  hn12 hro.1) (cwV 0 hts gX3_whole_X1_hasRing rfl rfl rfl (by decide +kernel) ⟨Nat.le_of_ble_eq_true rfl, Nat.le_of_ble_eq_true rfl⟩) hK hP (ci := 1) (q0 := 8) rfl rfl rfl rfl hl.1 rfl (Nat.le_of_ble_eq_true rfl) dX3_whole_4 ⟨Nat.zero_le _, Nat.zero_le _⟩ (fun r4 h4 => ?_)
  subst h4
  refine rn_ifeqb (tgt := 13) hx hb dX3_whole_7 (by decide) (fun c7 => ?_) (fun c7 => ?_)
  · refine lv_aload_n hx hb dX3_whole_13 rfl (lv_at hl 0 rfl) ?_
    refine va_get (D := D) (ci := 3) (v := .ref (a 8)) (C := RX3) (T := TX3) (N := 3) hx hb hts i3 hown hK hP 0 rfl rfl 2 (by decide) (hts (.fieldLink RX3 28 "SignedPaths" "ringless" "LSignedPaths$Ringless;") (by decide +kernel)) (fun _ h9 => h9) rfl dX3_whole_14 ?_
    refine va_get (D := D) (ci := 1) (v := .int (rGr n m ch fr to w th od io fa gr sr)) (C := RX1) (T := TX1) (N := 8) hx hb hts i1 hown hK hP 8 rfl rfl 6 (by decide) (hts (.fieldLink RX3 140 "SignedPaths$Ringless" "greatest" "I") (by decide +kernel)) (fun _ h9 => h9) rfl dX3_whole_17 ?_
    exact W.iret (v := rGr n m ch fr to w th od io fa gr sr) hx hb hr (fun t ht hW => ⟨⟨_, _, rfl, ⟨rfl, (by rw [stA, if_neg (of_decide_eq_false c7)])⟩, by show va_P D vwCl (cW k a n m ch fr to w th L la sw (rOd n m ch fr to th od io sr) (rIo n m ch fr to th od io sr) (rOc n m ch fr to th od io oc sr) (rFa n m ch fr to w th od io fa sr) (rOn n m ch fr to w th od io on sr) (rGr n m ch fr to w th od io fa gr sr) ch) t.heap; rw [ht]; exact hP⟩, hS.F ht⟩) hS.2.2 dX3_whole_20
  · refine lv_ldc (v := (-1000000003)) hx hb hown (hts (.constant RX3 105 (-1000000003)) (by decide +kernel)) dX3_whole_10 ?_
    exact W.iret (v := (-1000000003)) hx hb hr (fun t ht hW => ⟨⟨_, _, rfl, ⟨rfl, (by rw [stA, if_pos (of_decide_eq_true c7)])⟩, by show va_P D vwCl (cW k a n m ch fr to w th L la sw (rOd n m ch fr to th od io sr) (rIo n m ch fr to th od io sr) (rOc n m ch fr to th od io oc sr) (rFa n m ch fr to w th od io fa sr) (rOn n m ch fr to w th od io on sr) (rGr n m ch fr to w th od io fa gr sr) ch) t.heap; rw [ht]; exact hP⟩, hS.F ht⟩) hS.2.2 dX3_whole_12
set_option maxHeartbeats 4000000 in
set_option maxRecDepth 100000 in
theorem c3_critical (l : Launch) {D : va_G} {k : Nat → ClassId} {a : Nat → Nat} {n : Nat} {m : Nat} {ch : Int32} {fr : Nat → Nat} {to : Nat → Nat} {w : Nat → Int32} {th : Nat → Bool} {L : Nat → Nat → Int32} {la : Nat} {sw : Int32} {od : Nat → Nat} {io : Nat → Bool} {oc : Nat} {fa : Nat → Int32} {on : Nat → Nat → Int32} {gr : Int32} {sr : Int32} (ha : inj 46 a) (x : Int32) (hg : gOK n m fr to) (ho : oc ≤ 12 ∧ ∀ j, j < oc → od j < 12) : Met l yX3_critical wsX3_critical ({ frames := 5, cells := 0, slots := 0, locals := 125 }) (gPc D k (cW k a n m ch fr to w th L la sw od io oc fa on gr sr) [.ref (a 0), .int x]) (va_Qi (S := Int32) (fun r u => u = r ∧ (r = stA n (rOc n m ch fr to th od io oc sr) (oI (crX n m fr to w th (rOn n m ch fr to w th od io on sr) (rGr n m ch fr to w th od io fa gr sr) x)))) (fun _ t => va_P D vwCl (cW k a n m ch fr to w th L la sw (rOd n m ch fr to th od io sr) (rIo n m ch fr to th od io sr) (rOc n m ch fr to th od io oc sr) (rFa n m ch fr to w th od io fa sr) (rOn n m ch fr to w th od io on sr) (rGr n m ch fr to w th od io fa gr sr) ch) t.heap) (cA a)) 0 0 (cA a) := by
  refine Met.ofW (cc := cX3_critical) (maxL := 2) (ret := (some .int)) (by decide) rfl ?_
  intro p e s mt args below meth c s₁ B hml hv
  obtain ⟨rfl, hP, hK⟩ := hv
  have hx := B.exec
  have hb := B.bytes
  have hr := B.returns
  have hts := atoms_spec (ws := wsX3_critical) B.pre
  have hown : s.vm.findClass RX3 = some mt.cls := findClass_of_methodNamed B.named
  have hlocks := B.notSynchronized
  have i1 : ∀ w ∈ wsX10, w ∈ wsX3_critical := by decide +kernel
  have i3 : ∀ w ∈ wsX30, w ∈ wsX3_critical := by decide +kernel
  have hS : va_S (cA a) s.heap s.heap [] := va_S.rf
  have hD : va_D (cA a) (cW k a n m ch fr to w th L la sw od io oc fa on gr sr) := cW_D ha
  have hl := lv_entry ([.ref (a 0), .int x]) (n := 2) (Nat.le_of_ble_eq_true rfl)
  rw [lg_entry_eq]
  generalize (lg_sl ([.ref (a 0), .int x]) ++ List.replicate (2 - (lg_sl ([.ref (a 0), .int x])).length) Slot.unset).toArray = ls at hl ⊢
  have hl : lv_has ls 2 [(0, .ref (a 0)), (1, .int x)] := hl
  obtain ⟨hn12, hm40, hft⟩ := id hg
  have hro := rO_ok (m := m) (ch := ch) (fr := fr) (to := to) (th := th) (io := io) (sr := sr) hn12 ho
  refine lv_aload_n hx hb dX3_critical_0 rfl (lv_at hl 0 rfl) ?_
  refine cl_Qr (As := []) (rest := []) ⟨hx, hb, hml, hown, hts⟩ (c3_ringlessNow l ha  hg) (cwV 0 hts gX3_critical_X3_ringlessNow rfl rfl rfl (by decide +kernel) ⟨Nat.le_of_ble_eq_true rfl, Nat.le_of_ble_eq_true rfl⟩) hK hP hS (fun _ h => h) (ci := 3) (q0 := 0) rfl rfl rfl rfl hl.1 rfl (Nat.le_of_ble_eq_true rfl) dX3_critical_1 ⟨Nat.zero_le _, Nat.zero_le _⟩ (fun H locs hP _ _ hS => ?_)
  have hP : va_P D vwCl (cW k a n m ch fr to w th L la sw (rOd n m ch fr to th od io sr) (rIo n m ch fr to th od io sr) (rOc n m ch fr to th od io oc sr) (rFa n m ch fr to w th od io fa sr) (rOn n m ch fr to w th od io on sr) (rGr n m ch fr to w th od io fa gr sr) ch) H := hP
  have hD : va_D (cA a) (cW k a n m ch fr to w th L la sw (rOd n m ch fr to th od io sr) (rIo n m ch fr to th od io sr) (rOc n m ch fr to th od io oc sr) (rFa n m ch fr to w th od io fa sr) (rOn n m ch fr to w th od io on sr) (rGr n m ch fr to w th od io fa gr sr) ch) := cW_D ha
  refine cl_Si (As := []) (rest := []) ⟨hx, hb, hml, hown, hts⟩ (c1_hasRing l ha  hn12 hro.1) (cwV 0 hts gX3_critical_X1_hasRing rfl rfl rfl (by decide +kernel) ⟨Nat.le_of_ble_eq_true rfl, Nat.le_of_ble_eq_true rfl⟩) hK hP (ci := 1) (q0 := 8) rfl rfl rfl rfl hl.1 rfl (Nat.le_of_ble_eq_true rfl) dX3_critical_4 ⟨Nat.zero_le _, Nat.zero_le _⟩ (fun r4 h4 => ?_)
  subst h4
  refine rn_ifeqb (tgt := 13) hx hb dX3_critical_7 (by decide) (fun c7 => ?_) (fun c7 => ?_)
  · refine lv_aload_n hx hb dX3_critical_13 rfl (lv_at hl 0 rfl) ?_
    refine va_get (D := D) (ci := 3) (v := .ref (a 8)) (C := RX3) (T := TX3) (N := 3) hx hb hts i3 hown hK hP 0 rfl rfl 2 (by decide) (hts (.fieldLink RX3 28 "SignedPaths" "ringless" "LSignedPaths$Ringless;") (by decide +kernel)) (fun _ h9 => h9) rfl dX3_critical_14 ?_
    refine lv_iload_n hx hb dX3_critical_17 rfl (lv_at hl 1 rfl) ?_
    refine cl_Si (As := [.int x]) (rest := []) ⟨hx, hb, hml, hown, hts⟩ (c1_criticalArc l ha x hg) (cwV 1 hts gX3_critical_X1_criticalArc rfl rfl rfl (by decide +kernel) ⟨Nat.le_of_ble_eq_true rfl, Nat.le_of_ble_eq_true rfl⟩) hK hP (ci := 1) (q0 := 8) rfl rfl rfl rfl hl.1 rfl (Nat.le_of_ble_eq_true rfl) dX3_critical_18 ⟨Nat.zero_le _, Nat.zero_le _⟩ (fun r18 h18 => ?_)
    exact W.iret (v := r18) hx hb hr (fun t ht hW => ⟨⟨_, _, rfl, ⟨rfl, (by rw [h18, stA, if_neg (of_decide_eq_false c7)])⟩, by show va_P D vwCl (cW k a n m ch fr to w th L la sw (rOd n m ch fr to th od io sr) (rIo n m ch fr to th od io sr) (rOc n m ch fr to th od io oc sr) (rFa n m ch fr to w th od io fa sr) (rOn n m ch fr to w th od io on sr) (rGr n m ch fr to w th od io fa gr sr) ch) t.heap; rw [ht]; exact hP⟩, hS.F ht⟩) hS.2.2 dX3_critical_21
  · refine lv_ldc (v := (-1000000003)) hx hb hown (hts (.constant RX3 105 (-1000000003)) (by decide +kernel)) dX3_critical_10 ?_
    exact W.iret (v := (-1000000003)) hx hb hr (fun t ht hW => ⟨⟨_, _, rfl, ⟨rfl, (by rw [stA, if_pos (of_decide_eq_true c7)])⟩, by show va_P D vwCl (cW k a n m ch fr to w th L la sw (rOd n m ch fr to th od io sr) (rIo n m ch fr to th od io sr) (rOc n m ch fr to th od io oc sr) (rFa n m ch fr to w th od io fa sr) (rOn n m ch fr to w th od io on sr) (rGr n m ch fr to w th od io fa gr sr) ch) t.heap; rw [ht]; exact hP⟩, hS.F ht⟩) hS.2.2 dX3_critical_12
