set_option maxHeartbeats 4000000 in
set_option maxRecDepth 100000 in
theorem c4_isIn (l : Launch) (x : Int32) (y : Int32) (z : Int32)  : Met l yX4_isIn wsX4_isIn ({ frames := 0, cells := 0, slots := 0, locals := 0 }) (va_Pc [.int x, .int y, .int z] (fun _ => True)) (vp_Si (fun r => r = bI (!(ouB x y z)))) 0 0 nF := by
  refine Met.ofW (cc := cX4_isIn) (maxL := 3) (ret := (some .boolean)) (by decide) rfl ?_
  intro p e s mt args below meth c s₁ B hml hv
  obtain ⟨rfl, -⟩ := hv
  have hx := B.exec
  have hb := B.bytes
  have hr := B.returns
  have hts := atoms_spec (ws := wsX4_isIn) B.pre
  have hown : s.vm.findClass RX4 = some mt.cls := findClass_of_methodNamed B.named
  have hlocks := B.notSynchronized
  have hl := lv_entry ([.int x, .int y, .int z]) (n := 3) (Nat.le_of_ble_eq_true rfl)
  rw [lg_entry_eq]
  generalize (lg_sl ([.int x, .int y, .int z]) ++ List.replicate (3 - (lg_sl ([.int x, .int y, .int z])).length) Slot.unset).toArray = ls at hl ⊢
  have hl : lv_has ls 3 [(0, .int x), (1, .int y), (2, .int z)] := hl
  refine lv_iload_n hx hb dX4_isIn_0 rfl (lv_at hl 0 rfl) ?_
  refine lv_iload_n hx hb dX4_isIn_1 rfl (lv_at hl 1 rfl) ?_
  refine lv_icmp_lt (tgt := 14) hx hb dX4_isIn_2 (by decide) (fun c2 => ?_) (fun c2 => ?_)
  · refine lv_iconst (v := 0) hx hb dX4_isIn_14 (by decide) ?_
    exact W.zret (v := 0) hx hb hr (by decide) (fun t ht hW => ⟨_, rfl, (by first | (simp [ouB, c2, bI]; done) | (simp [ouB, c2, Int32.not_le.mpr c7, bI]; done) | (simp [ouB, c2, Int32.not_lt.mp c7, bI]; done)), ht⟩) (fun q h => absurd h List.not_mem_nil) dX4_isIn_15
  · refine lv_iload_n hx hb dX4_isIn_5 rfl (lv_at hl 0 rfl) ?_
    refine lv_iload_n hx hb dX4_isIn_6 rfl (lv_at hl 2 rfl) ?_
    refine lv_icmp_gt (tgt := 14) hx hb dX4_isIn_7 (by decide) (fun c7 => ?_) (fun c7 => ?_)
    · refine lv_iconst (v := 0) hx hb dX4_isIn_14 (by decide) ?_
      exact W.zret (v := 0) hx hb hr (by decide) (fun t ht hW => ⟨_, rfl, (by first | (simp [ouB, c2, bI]; done) | (simp [ouB, c2, Int32.not_le.mpr c7, bI]; done) | (simp [ouB, c2, Int32.not_lt.mp c7, bI]; done)), ht⟩) (fun q h => absurd h List.not_mem_nil) dX4_isIn_15
    · refine lv_iconst (v := 1) hx hb dX4_isIn_10 (by decide) ?_
      refine lv_goto (tgt := 15) hx hb dX4_isIn_11 (by decide) ?_
      exact W.zret (v := 1) hx hb hr (by decide) (fun t ht hW => ⟨_, rfl, (by first | (simp [ouB, c2, bI]; done) | (simp [ouB, c2, Int32.not_le.mpr c7, bI]; done) | (simp [ouB, c2, Int32.not_lt.mp c7, bI]; done)), ht⟩) (fun q h => absurd h List.not_mem_nil) dX4_isIn_15
set_option maxHeartbeats 4000000 in
set_option maxRecDepth 100000 in
theorem c4_isNode (l : Launch) {D : va_G} {k : Nat → ClassId} {b : Nat → Nat} {n : Nat} {m : Nat} {fr : Nat → Nat} {to : Nat → Nat} {w : Nat → Int32} {th : Nat → Bool} {be : Nat → Int64} {oe : Nat → Int64} {al : Nat → Int64} {pa : Nat → Int64} {bo : Nat → Int64} {rl : Nat} {ra : Nat → Nat} {mo : Nat → Int64} (ha : inj 12 b) (x : Int32) (hle : n ≤ 40) : Met l yX4_isNode wsX4_isNode ({ frames := 1, cells := 0, slots := 0, locals := 22 }) (gPc D k (mW k b n m fr to w th be oe al pa bo rl ra mo) [.ref (b 0), .int x]) (vp_Si (fun r => r = bI (ixB x n))) 0 0 nF := by
  refine Met.ofW (cc := cX4_isNode) (maxL := 2) (ret := (some .boolean)) (by decide) rfl ?_
  intro p e s mt args below meth c s₁ B hml hv
  obtain ⟨rfl, hP, hK⟩ := hv
  have hx := B.exec
  have hb := B.bytes
  have hr := B.returns
  have hts := atoms_spec (ws := wsX4_isNode) B.pre
  have hown : s.vm.findClass RX4 = some mt.cls := findClass_of_methodNamed B.named
  have hlocks := B.notSynchronized
  have i4 : ∀ w ∈ wsX40, w ∈ wsX4_isNode := by decide +kernel
  have hl := lv_entry ([.ref (b 0), .int x]) (n := 2) (Nat.le_of_ble_eq_true rfl)
  rw [lg_entry_eq]
  generalize (lg_sl ([.ref (b 0), .int x]) ++ List.replicate (2 - (lg_sl ([.ref (b 0), .int x])).length) Slot.unset).toArray = ls at hl ⊢
  have hl : lv_has ls 2 [(0, .ref (b 0)), (1, .int x)] := hl
  refine lv_iload_n hx hb dX4_isNode_0 rfl (lv_at hl 1 rfl) ?_
  refine lv_iconst (v := 0) hx hb dX4_isNode_1 (by decide) ?_
  refine lv_aload_n hx hb dX4_isNode_2 rfl (lv_at hl 0 rfl) ?_
  refine va_get (D := D) (ci := 4) (v := .int (nI n)) (C := RX4) (T := TX4) (N := 14) hx hb hts i4 hown hK hP 0 rfl rfl 0 (by decide) (hts (.fieldLink RX4 45 "SignedPathsModel" "n" "I") (by decide +kernel)) (fun _ h9 => h9) rfl dX4_isNode_3 ?_
  refine lv_iconst (v := 1) hx hb dX4_isNode_6 (by decide) ?_
  refine lv_isub hx hb dX4_isNode_7 ?_
  refine cl_Ti (As := [.int x, .int 0, .int ((nI n) - 1)]) (rest := []) ⟨hx, hb, hml, hown, hts⟩ (c4_isIn l x 0 ((nI n) - 1) ) (va_cwS 3 hts gX4_isNode_X4_isIn rfl rfl rfl (by decide +kernel) ⟨Nat.le_of_ble_eq_true rfl, Nat.le_of_ble_eq_true rfl⟩) rfl hl.1 rfl (Nat.le_of_ble_eq_true rfl) dX4_isNode_8 ⟨Nat.zero_le _, Nat.zero_le _⟩ (fun r8 h8 => ?_)
  subst h8
  exact W.zret (v := bI (!(ouB x 0 ((nI n) - 1)))) hx hb hr (bI_n2 _) (fun t ht hW => ⟨_, rfl, (by rw [ouB_ix hle]), ht⟩) (fun q h => absurd h List.not_mem_nil) dX4_isNode_11
set_option maxHeartbeats 4000000 in
set_option maxRecDepth 100000 in
theorem c4_isArc (l : Launch) {D : va_G} {k : Nat → ClassId} {b : Nat → Nat} {n : Nat} {m : Nat} {fr : Nat → Nat} {to : Nat → Nat} {w : Nat → Int32} {th : Nat → Bool} {be : Nat → Int64} {oe : Nat → Int64} {al : Nat → Int64} {pa : Nat → Int64} {bo : Nat → Int64} {rl : Nat} {ra : Nat → Nat} {mo : Nat → Int64} (ha : inj 12 b) (x : Int32) (hle : m ≤ 40) : Met l yX4_isArc wsX4_isArc ({ frames := 1, cells := 0, slots := 0, locals := 22 }) (gPc D k (mW k b n m fr to w th be oe al pa bo rl ra mo) [.ref (b 0), .int x]) (vp_Si (fun r => r = bI (ixB x m))) 0 0 nF := by
  refine Met.ofW (cc := cX4_isArc) (maxL := 2) (ret := (some .boolean)) (by decide) rfl ?_
  intro p e s mt args below meth c s₁ B hml hv
  obtain ⟨rfl, hP, hK⟩ := hv
  have hx := B.exec
  have hb := B.bytes
  have hr := B.returns
  have hts := atoms_spec (ws := wsX4_isArc) B.pre
  have hown : s.vm.findClass RX4 = some mt.cls := findClass_of_methodNamed B.named
  have hlocks := B.notSynchronized
  have i4 : ∀ w ∈ wsX40, w ∈ wsX4_isArc := by decide +kernel
  have hl := lv_entry ([.ref (b 0), .int x]) (n := 2) (Nat.le_of_ble_eq_true rfl)
  rw [lg_entry_eq]
  generalize (lg_sl ([.ref (b 0), .int x]) ++ List.replicate (2 - (lg_sl ([.ref (b 0), .int x])).length) Slot.unset).toArray = ls at hl ⊢
  have hl : lv_has ls 2 [(0, .ref (b 0)), (1, .int x)] := hl
  refine lv_iload_n hx hb dX4_isArc_0 rfl (lv_at hl 1 rfl) ?_
  refine lv_iconst (v := 0) hx hb dX4_isArc_1 (by decide) ?_
  refine lv_aload_n hx hb dX4_isArc_2 rfl (lv_at hl 0 rfl) ?_
  refine va_get (D := D) (ci := 4) (v := .int (nI m)) (C := RX4) (T := TX4) (N := 14) hx hb hts i4 hown hK hP 0 rfl rfl 1 (by decide) (hts (.fieldLink RX4 53 "SignedPathsModel" "arcs" "I") (by decide +kernel)) (fun _ h9 => h9) rfl dX4_isArc_3 ?_
  refine lv_iconst (v := 1) hx hb dX4_isArc_6 (by decide) ?_
  refine lv_isub hx hb dX4_isArc_7 ?_
  refine cl_Ti (As := [.int x, .int 0, .int ((nI m) - 1)]) (rest := []) ⟨hx, hb, hml, hown, hts⟩ (c4_isIn l x 0 ((nI m) - 1) ) (va_cwS 3 hts gX4_isArc_X4_isIn rfl rfl rfl (by decide +kernel) ⟨Nat.le_of_ble_eq_true rfl, Nat.le_of_ble_eq_true rfl⟩) rfl hl.1 rfl (Nat.le_of_ble_eq_true rfl) dX4_isArc_8 ⟨Nat.zero_le _, Nat.zero_le _⟩ (fun r8 h8 => ?_)
  subst h8
  exact W.zret (v := bI (!(ouB x 0 ((nI m) - 1)))) hx hb hr (bI_n2 _) (fun t ht hW => ⟨_, rfl, (by rw [ouB_ix hle]), ht⟩) (fun q h => absurd h List.not_mem_nil) dX4_isArc_11
set_option maxHeartbeats 4000000 in
set_option maxRecDepth 100000 in
theorem c4_node (l : Launch) {D : va_G} {k : Nat → ClassId} {b : Nat → Nat} {n : Nat} {m : Nat} {fr : Nat → Nat} {to : Nat → Nat} {w : Nat → Int32} {th : Nat → Bool} {be : Nat → Int64} {oe : Nat → Int64} {al : Nat → Int64} {pa : Nat → Int64} {bo : Nat → Int64} {rl : Nat} {ra : Nat → Nat} {mo : Nat → Int64} (ha : inj 12 b)  (hn12 : n ≤ 12) : Met l yX4_node wsX4_node ({ frames := 0, cells := 0, slots := 0, locals := 0 }) (gPc D k (mW k b n m fr to w th be oe al pa bo rl ra mo) [.ref (b 0)]) (va_Qi (S := Int32) (fun r u => u = r ∧ (r = bw (decide (n < 12)) (nI n) (-1000000004))) (fun _ t => va_P D vwCl (mW k b (bw (decide (n < 12)) (n + 1) n) m fr to w th be oe al pa bo rl ra mo) t.heap) (mA b)) 0 0 (mA b) := by
  refine Met.ofW (cc := cX4_node) (maxL := 1) (ret := (some .int)) (by decide) rfl ?_
  intro p e s mt args below meth c s₁ B hml hv
  obtain ⟨rfl, hP, hK⟩ := hv
  have hx := B.exec
  have hb := B.bytes
  have hr := B.returns
  have hts := atoms_spec (ws := wsX4_node) B.pre
  have hown : s.vm.findClass RX4 = some mt.cls := findClass_of_methodNamed B.named
  have hlocks := B.notSynchronized
  have i4 : ∀ w ∈ wsX40, w ∈ wsX4_node := by decide +kernel
  have hS : va_S (mA b) s.heap s.heap [] := va_S.rf
  have hD : va_D (mA b) (mW k b n m fr to w th be oe al pa bo rl ra mo) := mW_D ha
  have hl := lv_entry ([.ref (b 0)]) (n := 1) (Nat.le_of_ble_eq_true rfl)
  rw [lg_entry_eq]
  generalize (lg_sl ([.ref (b 0)]) ++ List.replicate (1 - (lg_sl ([.ref (b 0)])).length) Slot.unset).toArray = ls at hl ⊢
  have hl : lv_has ls 1 [(0, .ref (b 0))] := hl
  refine lv_aload_n hx hb dX4_node_0 rfl (lv_at hl 0 rfl) ?_
  refine va_get (D := D) (ci := 4) (v := .int (nI n)) (C := RX4) (T := TX4) (N := 14) hx hb hts i4 hown hK hP 0 rfl rfl 0 (by decide) (hts (.fieldLink RX4 45 "SignedPathsModel" "n" "I") (by decide +kernel)) (fun _ h9 => h9) rfl dX4_node_1 ?_
  refine lv_bipush (v := nI 12) hx hb dX4_node_4 (by decide) ?_
  refine rn_icmp_ne (tgt := 12) hx hb dX4_node_6 (by decide) (by omega) (by omega) (fun c6 => ?_) (fun c6 => ?_)
  · have hc : decide (n < 12) = true := decide_eq_true (by omega)
    refine lv_aload_n hx hb dX4_node_12 rfl (lv_at hl 0 rfl) ?_
    refine lv_dup hx hb dX4_node_13 rfl ?_
    refine va_get (D := D) (ci := 4) (v := .int (nI n)) (C := RX4) (T := TX4) (N := 14) hx hb hts i4 hown hK hP 0 rfl rfl 0 (by decide) (hts (.fieldLink RX4 45 "SignedPathsModel" "n" "I") (by decide +kernel)) (fun _ h9 => h9) rfl dX4_node_14 ?_
    refine lv_iconst (v := nI 1) hx hb dX4_node_17 (by decide) ?_
    refine rn_iadd hx hb  dX4_node_18 ?_
    refine rn_put (ty := .int) (ws' := mW k b (n + 1) m fr to w th be oe al pa bo rl ra mo) hx hb hts i4 tyX4 tyX4_ok nmX4 hown hK hP hD hS 0 rfl rfl 0 (by decide) (hts (.fieldLink RX4 45 "SignedPathsModel" "n" "I") (by decide +kernel)) (fun _ h9 => h9) rfl (by decide +kernel) rfl rfl (Nat.le_of_ble_eq_true rfl) rfl dX4_node_19 (fun H locs hP hD hS => ?_)
    refine lv_aload_n hx hb dX4_node_22 rfl (lv_at hl 0 rfl) ?_
    refine va_get (D := D) (ci := 4) (v := .int (nI (n + 1))) (C := RX4) (T := TX4) (N := 14) hx hb hts i4 hown hK hP 0 rfl rfl 0 (by decide) (hts (.fieldLink RX4 45 "SignedPathsModel" "n" "I") (by decide +kernel)) (fun _ h9 => h9) rfl dX4_node_23 ?_
    refine lv_iconst (v := nI 1) hx hb dX4_node_26 (by decide) ?_
    refine rn_isub hx hb (by omega) dX4_node_27 ?_
    exact W.iret (v := nI ((n + 1) - 1)) hx hb hr (fun t ht hW => ⟨⟨_, _, rfl, ⟨rfl, (by rw [bw_t hc]; rfl)⟩, by show va_P D vwCl (mW k b (bw (decide (n < 12)) (n + 1) n) m fr to w th be oe al pa bo rl ra mo) t.heap; rw [ht]; rw [bw_t hc]; exact hP⟩, hS.F ht⟩) hS.2.2 dX4_node_28
  · have hc : decide (n < 12) = false := decide_eq_false (by omega)
    refine lv_ldc (v := (-1000000004)) hx hb hown (hts (.constant RX4 56 (-1000000004)) (by decide +kernel)) dX4_node_9 ?_
    exact W.iret (v := (-1000000004)) hx hb hr (fun t ht hW => ⟨⟨_, _, rfl, ⟨rfl, (by rw [bw_f hc])⟩, by show va_P D vwCl (mW k b (bw (decide (n < 12)) (n + 1) n) m fr to w th be oe al pa bo rl ra mo) t.heap; rw [ht]; rw [bw_f hc]; exact hP⟩, hS.F ht⟩) hS.2.2 dX4_node_11
set_option maxHeartbeats 4000000 in
set_option maxRecDepth 100000 in
theorem c4_arc (l : Launch) {D : va_G} {k : Nat → ClassId} {b : Nat → Nat} {n : Nat} {m : Nat} {fr : Nat → Nat} {to : Nat → Nat} {w : Nat → Int32} {th : Nat → Bool} {be : Nat → Int64} {oe : Nat → Int64} {al : Nat → Int64} {pa : Nat → Int64} {bo : Nat → Int64} {rl : Nat} {ra : Nat → Nat} {mo : Nat → Int64} (ha : inj 12 b) (x : Int32) (y : Int32) (z : Int32) (hg : gOK n m fr to) : Met l yX4_arc wsX4_arc ({ frames := 2, cells := 0, slots := 0, locals := 43 }) (gPc D k (mW k b n m fr to w th be oe al pa bo rl ra mo) [.ref (b 0), .int x, .int y, .int z]) (va_Qi (S := Int32) (fun r u => u = r ∧ (r = arA n m x y z)) (fun _ t => va_P D vwCl (mW k b n (bw (arB n m x y z) (m + 1) m) (bw (arB n m x y z) (va_up fr m x.toNatClampNeg) fr) (bw (arB n m x y z) (va_up to m y.toNatClampNeg) to) (bw (arB n m x y z) (va_up w m z) w) (bw (arB n m x y z) (va_up th m true) th) be oe al pa bo rl ra mo) t.heap) (mA b)) 0 0 (mA b) := by
  refine Met.ofW (cc := cX4_arc) (maxL := 4) (ret := (some .int)) (by decide) rfl ?_
  intro p e s mt args below meth c s₁ B hml hv
  obtain ⟨rfl, hP, hK⟩ := hv
  have hx := B.exec
  have hb := B.bytes
  have hr := B.returns
  have hts := atoms_spec (ws := wsX4_arc) B.pre
  have hown : s.vm.findClass RX4 = some mt.cls := findClass_of_methodNamed B.named
  have hlocks := B.notSynchronized
  have i4 : ∀ w ∈ wsX40, w ∈ wsX4_arc := by decide +kernel
  have hS : va_S (mA b) s.heap s.heap [] := va_S.rf
  have hD : va_D (mA b) (mW k b n m fr to w th be oe al pa bo rl ra mo) := mW_D ha
  have hl := lv_entry ([.ref (b 0), .int x, .int y, .int z]) (n := 4) (Nat.le_of_ble_eq_true rfl)
  rw [lg_entry_eq]
  generalize (lg_sl ([.ref (b 0), .int x, .int y, .int z]) ++ List.replicate (4 - (lg_sl ([.ref (b 0), .int x, .int y, .int z])).length) Slot.unset).toArray = ls at hl ⊢
  have hl : lv_has ls 4 [(0, .ref (b 0)), (1, .int x), (2, .int y), (3, .int z)] := hl
  obtain ⟨hn12, hm40, hft⟩ := id hg
  refine lv_aload_n hx hb dX4_arc_0 rfl (lv_at hl 0 rfl) ?_
  refine lv_iload_n hx hb dX4_arc_1 rfl (lv_at hl 1 rfl) ?_
  refine cl_Si (As := [.int x]) (rest := []) ⟨hx, hb, hml, hown, hts⟩ (c4_isNode l ha x (by omega)) (cwV 1 hts gX4_arc_X4_isNode rfl rfl rfl (by decide +kernel) ⟨Nat.le_of_ble_eq_true rfl, Nat.le_of_ble_eq_true rfl⟩) hK hP (ci := 4) (q0 := 0) rfl rfl rfl rfl hl.1 rfl (Nat.le_of_ble_eq_true rfl) dX4_arc_2 ⟨Nat.zero_le _, Nat.zero_le _⟩ (fun r2 h2 => ?_)
  subst h2
  refine rn_ifeqb (tgt := 16) hx hb dX4_arc_5 (by decide) (fun c5 => ?_) (fun c5 => ?_)
  · refine lv_ldc (v := (-1000000001)) hx hb hown (hts (.constant RX4 61 (-1000000001)) (by decide +kernel)) dX4_arc_16 ?_
    have hc : arB n m x y z = false := by simp [arB, c5]
    exact W.iret (v := (-1000000001)) hx hb hr (fun t ht hW => ⟨⟨_, _, rfl, ⟨rfl, (by simp [arA, c5])⟩, by show va_P D vwCl (mW k b n (bw (arB n m x y z) (m + 1) m) (bw (arB n m x y z) (va_up fr m x.toNatClampNeg) fr) (bw (arB n m x y z) (va_up to m y.toNatClampNeg) to) (bw (arB n m x y z) (va_up w m z) w) (bw (arB n m x y z) (va_up th m true) th) be oe al pa bo rl ra mo) t.heap; rw [ht]; rw [bw_f hc, bw_f hc, bw_f hc, bw_f hc, bw_f hc]; exact hP⟩, hS.F ht⟩) hS.2.2 dX4_arc_18
  · refine lv_aload_n hx hb dX4_arc_8 rfl (lv_at hl 0 rfl) ?_
    refine lv_iload_n hx hb dX4_arc_9 rfl (lv_at hl 2 rfl) ?_
    refine cl_Si (As := [.int y]) (rest := []) ⟨hx, hb, hml, hown, hts⟩ (c4_isNode l ha y (by omega)) (cwV 1 hts gX4_arc_X4_isNode rfl rfl rfl (by decide +kernel) ⟨Nat.le_of_ble_eq_true rfl, Nat.le_of_ble_eq_true rfl⟩) hK hP (ci := 4) (q0 := 0) rfl rfl rfl rfl hl.1 rfl (Nat.le_of_ble_eq_true rfl) dX4_arc_10 ⟨Nat.zero_le _, Nat.zero_le _⟩ (fun r10 h10 => ?_)
    subst h10
    refine rn_ifneb (tgt := 19) hx hb dX4_arc_13 (by decide) (fun c13 => ?_) (fun c13 => ?_)
    · refine lv_iload_n hx hb dX4_arc_19 rfl (lv_at hl 3 rfl) ?_
      refine lv_sipush (v := (-1000)) hx hb dX4_arc_20 (by decide) ?_
      refine lv_sipush (v := 1000) hx hb dX4_arc_23 (by decide) ?_
      refine cl_Ti (As := [.int z, .int (-1000), .int 1000]) (rest := []) ⟨hx, hb, hml, hown, hts⟩ (c4_isIn l z (-1000) 1000 ) (va_cwS 3 hts gX4_arc_X4_isIn rfl rfl rfl (by decide +kernel) ⟨Nat.le_of_ble_eq_true rfl, Nat.le_of_ble_eq_true rfl⟩) rfl hl.1 rfl (Nat.le_of_ble_eq_true rfl) dX4_arc_26 ⟨Nat.zero_le _, Nat.zero_le _⟩ (fun r26 h26 => ?_)
      subst h26
      refine rn_ifneb (tgt := 35) hx hb dX4_arc_29 (by decide) (fun c29 => ?_) (fun c29 => ?_)
      · have c29 : ouB z (-1000) 1000 = false := by simpa using c29
        refine lv_aload_n hx hb dX4_arc_35 rfl (lv_at hl 0 rfl) ?_
        refine va_get (D := D) (ci := 4) (v := .int (nI m)) (C := RX4) (T := TX4) (N := 14) hx hb hts i4 hown hK hP 0 rfl rfl 1 (by decide) (hts (.fieldLink RX4 53 "SignedPathsModel" "arcs" "I") (by decide +kernel)) (fun _ h9 => h9) rfl dX4_arc_36 ?_
        refine lv_bipush (v := nI 40) hx hb dX4_arc_39 (by decide) ?_
        refine rn_icmp_ne (tgt := 47) hx hb dX4_arc_41 (by decide) (by omega) (by omega) (fun c41 => ?_) (fun c41 => ?_)
        · have hm4 : m < 40 := by omega
          have hc : arB n m x y z = true := by simp [arB, c5, c13, c29, hm4]
          have hA : arA n m x y z = nI m := by simp [arA, c5, c13, c29, hm4]
          obtain ⟨u, hu, rfl⟩ := ixB_t (by omega) c5
          obtain ⟨v, hv, rfl⟩ := ixB_t (by omega) c13
          refine lv_aload_n hx hb dX4_arc_47 rfl (lv_at hl 0 rfl) ?_
          refine va_get (D := D) (ci := 4) (v := .ref (b 1)) (C := RX4) (T := TX4) (N := 14) hx hb hts i4 hown hK hP 0 rfl rfl 2 (by decide) (hts (.fieldLink RX4 7 "SignedPathsModel" "from" "[I") (by decide +kernel)) (fun _ h9 => h9) rfl dX4_arc_48 ?_
          refine lv_aload_n hx hb dX4_arc_51 rfl (lv_at hl 0 rfl) ?_
          refine va_get (D := D) (ci := 4) (v := .int (nI m)) (C := RX4) (T := TX4) (N := 14) hx hb hts i4 hown hK hP 0 rfl rfl 1 (by decide) (hts (.fieldLink RX4 53 "SignedPathsModel" "arcs" "I") (by decide +kernel)) (fun _ h9 => h9) rfl dX4_arc_52 ?_
          refine lv_iload_n hx hb dX4_arc_55 rfl (lv_at hl 1 rfl) ?_
          refine rn_iast (ws' := mW k b n m (va_up fr m u) to w th be oe al pa bo rl ra mo) hx hb hK hP hD hS 1 0 rfl rfl (by omega) (by decide) (by rw [up_nI]; rfl) dX4_arc_56 (fun H locs hP hD hS => ?_)
          refine lv_aload_n hx hb dX4_arc_57 rfl (lv_at hl 0 rfl) ?_
          refine va_get (D := D) (ci := 4) (v := .ref (b 2)) (C := RX4) (T := TX4) (N := 14) hx hb hts i4 hown hK hP 0 rfl rfl 3 (by decide) (hts (.fieldLink RX4 13 "SignedPathsModel" "to" "[I") (by decide +kernel)) (fun _ h9 => h9) rfl dX4_arc_58 ?_
          refine lv_aload_n hx hb dX4_arc_61 rfl (lv_at hl 0 rfl) ?_
          refine va_get (D := D) (ci := 4) (v := .int (nI m)) (C := RX4) (T := TX4) (N := 14) hx hb hts i4 hown hK hP 0 rfl rfl 1 (by decide) (hts (.fieldLink RX4 53 "SignedPathsModel" "arcs" "I") (by decide +kernel)) (fun _ h9 => h9) rfl dX4_arc_62 ?_
          refine lv_iload_n hx hb dX4_arc_65 rfl (lv_at hl 2 rfl) ?_
          refine rn_iast (ws' := mW k b n m (va_up fr m u) (va_up to m v) w th be oe al pa bo rl ra mo) hx hb hK hP hD hS 2 0 rfl rfl (by omega) (by decide) (by rw [up_nI]; rfl) dX4_arc_66 (fun H locs hP hD hS => ?_)
          refine lv_aload_n hx hb dX4_arc_67 rfl (lv_at hl 0 rfl) ?_
          refine va_get (D := D) (ci := 4) (v := .ref (b 3)) (C := RX4) (T := TX4) (N := 14) hx hb hts i4 hown hK hP 0 rfl rfl 4 (by decide) (hts (.fieldLink RX4 16 "SignedPathsModel" "weight" "[I") (by decide +kernel)) (fun _ h9 => h9) rfl dX4_arc_68 ?_
          refine lv_aload_n hx hb dX4_arc_71 rfl (lv_at hl 0 rfl) ?_
          refine va_get (D := D) (ci := 4) (v := .int (nI m)) (C := RX4) (T := TX4) (N := 14) hx hb hts i4 hown hK hP 0 rfl rfl 1 (by decide) (hts (.fieldLink RX4 53 "SignedPathsModel" "arcs" "I") (by decide +kernel)) (fun _ h9 => h9) rfl dX4_arc_72 ?_
          refine lv_iload_n hx hb dX4_arc_75 rfl (lv_at hl 3 rfl) ?_
          refine rn_iast (ws' := mW k b n m (va_up fr m u) (va_up to m v) (va_up w m z) th be oe al pa bo rl ra mo) hx hb hK hP hD hS 3 0 rfl rfl (by omega) (by decide) rfl dX4_arc_76 (fun H locs hP hD hS => ?_)
          refine lv_aload_n hx hb dX4_arc_77 rfl (lv_at hl 0 rfl) ?_
          refine va_get (D := D) (ci := 4) (v := .ref (b 4)) (C := RX4) (T := TX4) (N := 14) hx hb hts i4 hown hK hP 0 rfl rfl 5 (by decide) (hts (.fieldLink RX4 19 "SignedPathsModel" "isThere" "[Z") (by decide +kernel)) (fun _ h9 => h9) rfl dX4_arc_78 ?_
          refine lv_aload_n hx hb dX4_arc_81 rfl (lv_at hl 0 rfl) ?_
          refine va_get (D := D) (ci := 4) (v := .int (nI m)) (C := RX4) (T := TX4) (N := 14) hx hb hts i4 hown hK hP 0 rfl rfl 1 (by decide) (hts (.fieldLink RX4 53 "SignedPathsModel" "arcs" "I") (by decide +kernel)) (fun _ h9 => h9) rfl dX4_arc_82 ?_
          refine lv_iconst (v := bI true) hx hb dX4_arc_85 (by decide) ?_
          refine rn_zast (ws' := mW k b n m (va_up fr m u) (va_up to m v) (va_up w m z) (va_up th m true) be oe al pa bo rl ra mo) hx hb hK hP hD hS 4 1 rfl rfl (by omega) (by decide) (by rw [up_bI]; rfl) dX4_arc_86 (fun H locs hP hD hS => ?_)
          refine lv_aload_n hx hb dX4_arc_87 rfl (lv_at hl 0 rfl) ?_
          refine lv_dup hx hb dX4_arc_88 rfl ?_
          refine va_get (D := D) (ci := 4) (v := .int (nI m)) (C := RX4) (T := TX4) (N := 14) hx hb hts i4 hown hK hP 0 rfl rfl 1 (by decide) (hts (.fieldLink RX4 53 "SignedPathsModel" "arcs" "I") (by decide +kernel)) (fun _ h9 => h9) rfl dX4_arc_89 ?_
          refine lv_iconst (v := nI 1) hx hb dX4_arc_92 (by decide) ?_
          refine rn_iadd hx hb  dX4_arc_93 ?_
          refine rn_put (ty := .int) (ws' := mW k b n (m + 1) (va_up fr m u) (va_up to m v) (va_up w m z) (va_up th m true) be oe al pa bo rl ra mo) hx hb hts i4 tyX4 tyX4_ok nmX4 hown hK hP hD hS 0 rfl rfl 1 (by decide) (hts (.fieldLink RX4 53 "SignedPathsModel" "arcs" "I") (by decide +kernel)) (fun _ h9 => h9) rfl (by decide +kernel) rfl rfl (Nat.le_of_ble_eq_true rfl) rfl dX4_arc_94 (fun H locs hP hD hS => ?_)
          refine lv_aload_n hx hb dX4_arc_97 rfl (lv_at hl 0 rfl) ?_
          refine va_get (D := D) (ci := 4) (v := .int (nI (m + 1))) (C := RX4) (T := TX4) (N := 14) hx hb hts i4 hown hK hP 0 rfl rfl 1 (by decide) (hts (.fieldLink RX4 53 "SignedPathsModel" "arcs" "I") (by decide +kernel)) (fun _ h9 => h9) rfl dX4_arc_98 ?_
          refine lv_iconst (v := nI 1) hx hb dX4_arc_101 (by decide) ?_
          refine rn_isub hx hb (by omega) dX4_arc_102 ?_
          exact W.iret (v := nI ((m + 1) - 1)) hx hb hr (fun t ht hW => ⟨⟨_, _, rfl, ⟨rfl, (by rw [hA]; rfl)⟩, by show va_P D vwCl (mW k b n (bw (arB n m (nI u) (nI v) z) (m + 1) m) (bw (arB n m (nI u) (nI v) z) (va_up fr m (nI u).toNatClampNeg) fr) (bw (arB n m (nI u) (nI v) z) (va_up to m (nI v).toNatClampNeg) to) (bw (arB n m (nI u) (nI v) z) (va_up w m z) w) (bw (arB n m (nI u) (nI v) z) (va_up th m true) th) be oe al pa bo rl ra mo) t.heap; rw [ht]; rw [bw_t hc, bw_t hc, bw_t hc, bw_t hc, bw_t hc, nI_clamp (by omega), nI_clamp (by omega)]; exact hP⟩, hS.F ht⟩) hS.2.2 dX4_arc_103
        · have hc : arB n m x y z = false := by simp [arB, c41]
          refine lv_ldc (v := (-1000000004)) hx hb hown (hts (.constant RX4 56 (-1000000004)) (by decide +kernel)) dX4_arc_44 ?_
          exact W.iret (v := (-1000000004)) hx hb hr (fun t ht hW => ⟨⟨_, _, rfl, ⟨rfl, (by simp [arA, c5, c13, c29, c41])⟩, by show va_P D vwCl (mW k b n (bw (arB n m x y z) (m + 1) m) (bw (arB n m x y z) (va_up fr m x.toNatClampNeg) fr) (bw (arB n m x y z) (va_up to m y.toNatClampNeg) to) (bw (arB n m x y z) (va_up w m z) w) (bw (arB n m x y z) (va_up th m true) th) be oe al pa bo rl ra mo) t.heap; rw [ht]; rw [bw_f hc, bw_f hc, bw_f hc, bw_f hc, bw_f hc]; exact hP⟩, hS.F ht⟩) hS.2.2 dX4_arc_46
      · have c29 : ouB z (-1000) 1000 = true := by simpa using c29
        have hc : arB n m x y z = false := by simp [arB, c29]
        refine lv_ldc (v := (-1000000002)) hx hb hown (hts (.constant RX4 62 (-1000000002)) (by decide +kernel)) dX4_arc_32 ?_
        exact W.iret (v := (-1000000002)) hx hb hr (fun t ht hW => ⟨⟨_, _, rfl, ⟨rfl, (by simp [arA, c5, c13, c29])⟩, by show va_P D vwCl (mW k b n (bw (arB n m x y z) (m + 1) m) (bw (arB n m x y z) (va_up fr m x.toNatClampNeg) fr) (bw (arB n m x y z) (va_up to m y.toNatClampNeg) to) (bw (arB n m x y z) (va_up w m z) w) (bw (arB n m x y z) (va_up th m true) th) be oe al pa bo rl ra mo) t.heap; rw [ht]; rw [bw_f hc, bw_f hc, bw_f hc, bw_f hc, bw_f hc]; exact hP⟩, hS.F ht⟩) hS.2.2 dX4_arc_34
    · refine lv_ldc (v := (-1000000001)) hx hb hown (hts (.constant RX4 61 (-1000000001)) (by decide +kernel)) dX4_arc_16 ?_
      have hc : arB n m x y z = false := by simp [arB, c13]
      exact W.iret (v := (-1000000001)) hx hb hr (fun t ht hW => ⟨⟨_, _, rfl, ⟨rfl, (by simp [arA, c13])⟩, by show va_P D vwCl (mW k b n (bw (arB n m x y z) (m + 1) m) (bw (arB n m x y z) (va_up fr m x.toNatClampNeg) fr) (bw (arB n m x y z) (va_up to m y.toNatClampNeg) to) (bw (arB n m x y z) (va_up w m z) w) (bw (arB n m x y z) (va_up th m true) th) be oe al pa bo rl ra mo) t.heap; rw [ht]; rw [bw_f hc, bw_f hc, bw_f hc, bw_f hc, bw_f hc]; exact hP⟩, hS.F ht⟩) hS.2.2 dX4_arc_18
set_option maxHeartbeats 4000000 in
set_option maxRecDepth 100000 in
theorem c4_weight (l : Launch) {D : va_G} {k : Nat → ClassId} {b : Nat → Nat} {n : Nat} {m : Nat} {fr : Nat → Nat} {to : Nat → Nat} {w : Nat → Int32} {th : Nat → Bool} {be : Nat → Int64} {oe : Nat → Int64} {al : Nat → Int64} {pa : Nat → Int64} {bo : Nat → Int64} {rl : Nat} {ra : Nat → Nat} {mo : Nat → Int64} (ha : inj 12 b) (x : Int32) (z : Int32) (hg : gOK n m fr to) : Met l yX4_weight wsX4_weight ({ frames := 2, cells := 0, slots := 0, locals := 43 }) (gPc D k (mW k b n m fr to w th be oe al pa bo rl ra mo) [.ref (b 0), .int x, .int z]) (va_Qi (S := Int32) (fun r u => u = r ∧ (r = weA m w x z)) (fun _ t => va_P D vwCl (mW k b n m fr to (bw (weB m x z) (va_up w x.toNatClampNeg z) w) th be oe al pa bo rl ra mo) t.heap) (mA b)) 0 0 (mA b) := by
  refine Met.ofW (cc := cX4_weight) (maxL := 4) (ret := (some .int)) (by decide) rfl ?_
  intro p e s mt args below meth c s₁ B hml hv
  obtain ⟨rfl, hP, hK⟩ := hv
  have hx := B.exec
  have hb := B.bytes
  have hr := B.returns
  have hts := atoms_spec (ws := wsX4_weight) B.pre
  have hown : s.vm.findClass RX4 = some mt.cls := findClass_of_methodNamed B.named
  have hlocks := B.notSynchronized
  have i4 : ∀ w ∈ wsX40, w ∈ wsX4_weight := by decide +kernel
  have hS : va_S (mA b) s.heap s.heap [] := va_S.rf
  have hD : va_D (mA b) (mW k b n m fr to w th be oe al pa bo rl ra mo) := mW_D ha
  have hl := lv_entry ([.ref (b 0), .int x, .int z]) (n := 4) (Nat.le_of_ble_eq_true rfl)
  rw [lg_entry_eq]
  generalize (lg_sl ([.ref (b 0), .int x, .int z]) ++ List.replicate (4 - (lg_sl ([.ref (b 0), .int x, .int z])).length) Slot.unset).toArray = ls at hl ⊢
  have hl : lv_has ls 4 [(0, .ref (b 0)), (1, .int x), (2, .int z)] := hl
  obtain ⟨hn12, hm40, hft⟩ := id hg
  refine lv_aload_n hx hb dX4_weight_0 rfl (lv_at hl 0 rfl) ?_
  refine lv_iload_n hx hb dX4_weight_1 rfl (lv_at hl 1 rfl) ?_
  refine cl_Si (As := [.int x]) (rest := []) ⟨hx, hb, hml, hown, hts⟩ (c4_isArc l ha x (by omega)) (cwV 1 hts gX4_weight_X4_isArc rfl rfl rfl (by decide +kernel) ⟨Nat.le_of_ble_eq_true rfl, Nat.le_of_ble_eq_true rfl⟩) hK hP (ci := 4) (q0 := 0) rfl rfl rfl rfl hl.1 rfl (Nat.le_of_ble_eq_true rfl) dX4_weight_2 ⟨Nat.zero_le _, Nat.zero_le _⟩ (fun r2 h2 => ?_)
  subst h2
  refine rn_ifneb (tgt := 11) hx hb dX4_weight_5 (by decide) (fun c5 => ?_) (fun c5 => ?_)
  · refine lv_iload_n hx hb dX4_weight_11 rfl (lv_at hl 2 rfl) ?_
    refine lv_sipush (v := (-1000)) hx hb dX4_weight_12 (by decide) ?_
    refine lv_sipush (v := 1000) hx hb dX4_weight_15 (by decide) ?_
    refine cl_Ti (As := [.int z, .int (-1000), .int 1000]) (rest := []) ⟨hx, hb, hml, hown, hts⟩ (c4_isIn l z (-1000) 1000 ) (va_cwS 3 hts gX4_weight_X4_isIn rfl rfl rfl (by decide +kernel) ⟨Nat.le_of_ble_eq_true rfl, Nat.le_of_ble_eq_true rfl⟩) rfl hl.1 rfl (Nat.le_of_ble_eq_true rfl) dX4_weight_18 ⟨Nat.zero_le _, Nat.zero_le _⟩ (fun r18 h18 => ?_)
    subst h18
    refine rn_ifneb (tgt := 27) hx hb dX4_weight_21 (by decide) (fun c21 => ?_) (fun c21 => ?_)
    · have c21 : ouB z (-1000) 1000 = false := by simpa using c21
      have hc : weB m x z = true := by simp [weB, c5, c21]
      obtain ⟨j, hj, rfl⟩ := ixB_t (by omega) c5
      refine lv_aload_n hx hb dX4_weight_27 rfl (lv_at hl 0 rfl) ?_
      refine va_get (D := D) (ci := 4) (v := .ref (b 3)) (C := RX4) (T := TX4) (N := 14) hx hb hts i4 hown hK hP 0 rfl rfl 4 (by decide) (hts (.fieldLink RX4 16 "SignedPathsModel" "weight" "[I") (by decide +kernel)) (fun _ h9 => h9) rfl dX4_weight_28 ?_
      refine lv_iload_n hx hb dX4_weight_31 rfl (lv_at hl 1 rfl) ?_
      refine rn_iald (v := w j) hx hb hK hP 3 0 rfl rfl (by omega) (by decide) rfl dX4_weight_32 ?_
      refine lv_istore_n (lv' := [(3, .int (w j)), (0, .ref (b 0)), (1, .int (nI j)), (2, .int z)]) hx hb dX4_weight_33 rfl hl (by decide) rfl (fun ls hl => ?_)
      refine lv_aload_n hx hb dX4_weight_34 rfl (lv_at hl 1 rfl) ?_
      refine va_get (D := D) (ci := 4) (v := .ref (b 3)) (C := RX4) (T := TX4) (N := 14) hx hb hts i4 hown hK hP 0 rfl rfl 4 (by decide) (hts (.fieldLink RX4 16 "SignedPathsModel" "weight" "[I") (by decide +kernel)) (fun _ h9 => h9) rfl dX4_weight_35 ?_
      refine lv_iload_n hx hb dX4_weight_38 rfl (lv_at hl 2 rfl) ?_
      refine lv_iload_n hx hb dX4_weight_39 rfl (lv_at hl 3 rfl) ?_
      refine rn_iast (ws' := mW k b n m fr to (va_up w j z) th be oe al pa bo rl ra mo) hx hb hK hP hD hS 3 0 rfl rfl (by omega) (by decide) rfl dX4_weight_40 (fun H locs hP hD hS => ?_)
      refine lv_iload_n hx hb dX4_weight_41 rfl (lv_at hl 0 rfl) ?_
      exact W.iret (v := w j) hx hb hr (fun t ht hW => ⟨⟨_, _, rfl, ⟨rfl, (by rw [weA, if_pos c5, if_neg (by rw [c21]; decide), nI_clamp (by omega)])⟩, by show va_P D vwCl (mW k b n m fr to (bw (weB m (nI j) z) (va_up w (nI j).toNatClampNeg z) w) th be oe al pa bo rl ra mo) t.heap; rw [ht]; rw [bw_t hc, nI_clamp (by omega)]; exact hP⟩, hS.F ht⟩) hS.2.2 dX4_weight_42
    · have c21 : ouB z (-1000) 1000 = true := by simpa using c21
      have hc : weB m x z = false := by simp [weB, c21]
      refine lv_ldc (v := (-1000000002)) hx hb hown (hts (.constant RX4 62 (-1000000002)) (by decide +kernel)) dX4_weight_24 ?_
      exact W.iret (v := (-1000000002)) hx hb hr (fun t ht hW => ⟨⟨_, _, rfl, ⟨rfl, (by simp [weA, c5, c21])⟩, by show va_P D vwCl (mW k b n m fr to (bw (weB m x z) (va_up w x.toNatClampNeg z) w) th be oe al pa bo rl ra mo) t.heap; rw [ht]; rw [bw_f hc]; exact hP⟩, hS.F ht⟩) hS.2.2 dX4_weight_26
  · have hc : weB m x z = false := by simp [weB, c5]
    refine lv_ldc (v := (-1000000001)) hx hb hown (hts (.constant RX4 61 (-1000000001)) (by decide +kernel)) dX4_weight_8 ?_
    exact W.iret (v := (-1000000001)) hx hb hr (fun t ht hW => ⟨⟨_, _, rfl, ⟨rfl, (by simp [weA, c5])⟩, by show va_P D vwCl (mW k b n m fr to (bw (weB m x z) (va_up w x.toNatClampNeg z) w) th be oe al pa bo rl ra mo) t.heap; rw [ht]; rw [bw_f hc]; exact hP⟩, hS.F ht⟩) hS.2.2 dX4_weight_10
set_option maxHeartbeats 4000000 in
set_option maxRecDepth 100000 in
theorem c4_turn (l : Launch) {D : va_G} {k : Nat → ClassId} {b : Nat → Nat} {n : Nat} {m : Nat} {fr : Nat → Nat} {to : Nat → Nat} {w : Nat → Int32} {th : Nat → Bool} {be : Nat → Int64} {oe : Nat → Int64} {al : Nat → Int64} {pa : Nat → Int64} {bo : Nat → Int64} {rl : Nat} {ra : Nat → Nat} {mo : Nat → Int64} (ha : inj 12 b) (x : Int32) (hg : gOK n m fr to) : Met l yX4_turn wsX4_turn ({ frames := 2, cells := 0, slots := 0, locals := 43 }) (gPc D k (mW k b n m fr to w th be oe al pa bo rl ra mo) [.ref (b 0), .int x]) (va_Qi (S := Int32) (fun r u => u = r ∧ (r = bw (ixB x m) (bI (!(th x.toNatClampNeg))) (-1000000001))) (fun _ t => va_P D vwCl (mW k b n m fr to w (bw (ixB x m) (va_up th x.toNatClampNeg (!(th x.toNatClampNeg))) th) be oe al pa bo rl ra mo) t.heap) (mA b)) 0 0 (mA b) := by
  refine Met.ofW (cc := cX4_turn) (maxL := 2) (ret := (some .int)) (by decide) rfl ?_
  intro p e s mt args below meth c s₁ B hml hv
  obtain ⟨rfl, hP, hK⟩ := hv
  have hx := B.exec
  have hb := B.bytes
  have hr := B.returns
  have hts := atoms_spec (ws := wsX4_turn) B.pre
  have hown : s.vm.findClass RX4 = some mt.cls := findClass_of_methodNamed B.named
  have hlocks := B.notSynchronized
  have i4 : ∀ w ∈ wsX40, w ∈ wsX4_turn := by decide +kernel
  have hS : va_S (mA b) s.heap s.heap [] := va_S.rf
  have hD : va_D (mA b) (mW k b n m fr to w th be oe al pa bo rl ra mo) := mW_D ha
  have hl := lv_entry ([.ref (b 0), .int x]) (n := 2) (Nat.le_of_ble_eq_true rfl)
  rw [lg_entry_eq]
  generalize (lg_sl ([.ref (b 0), .int x]) ++ List.replicate (2 - (lg_sl ([.ref (b 0), .int x])).length) Slot.unset).toArray = ls at hl ⊢
  have hl : lv_has ls 2 [(0, .ref (b 0)), (1, .int x)] := hl
  obtain ⟨hn12, hm40, hft⟩ := id hg
  refine lv_aload_n hx hb dX4_turn_0 rfl (lv_at hl 0 rfl) ?_
  refine lv_iload_n hx hb dX4_turn_1 rfl (lv_at hl 1 rfl) ?_
  refine cl_Si (As := [.int x]) (rest := []) ⟨hx, hb, hml, hown, hts⟩ (c4_isArc l ha x (by omega)) (cwV 1 hts gX4_turn_X4_isArc rfl rfl rfl (by decide +kernel) ⟨Nat.le_of_ble_eq_true rfl, Nat.le_of_ble_eq_true rfl⟩) hK hP (ci := 4) (q0 := 0) rfl rfl rfl rfl hl.1 rfl (Nat.le_of_ble_eq_true rfl) dX4_turn_2 ⟨Nat.zero_le _, Nat.zero_le _⟩ (fun r2 h2 => ?_)
  subst h2
  refine rn_ifneb (tgt := 11) hx hb dX4_turn_5 (by decide) (fun c5 => ?_) (fun c5 => ?_)
  · obtain ⟨j, hj, rfl⟩ := ixB_t (by omega) c5
    refine lv_aload_n hx hb dX4_turn_11 rfl (lv_at hl 0 rfl) ?_
    refine va_get (D := D) (ci := 4) (v := .ref (b 4)) (C := RX4) (T := TX4) (N := 14) hx hb hts i4 hown hK hP 0 rfl rfl 5 (by decide) (hts (.fieldLink RX4 19 "SignedPathsModel" "isThere" "[Z") (by decide +kernel)) (fun _ h9 => h9) rfl dX4_turn_12 ?_
    refine lv_iload_n hx hb dX4_turn_15 rfl (lv_at hl 1 rfl) ?_
    refine lv_aload_n hx hb dX4_turn_16 rfl (lv_at hl 0 rfl) ?_
    refine va_get (D := D) (ci := 4) (v := .ref (b 4)) (C := RX4) (T := TX4) (N := 14) hx hb hts i4 hown hK hP 0 rfl rfl 5 (by decide) (hts (.fieldLink RX4 19 "SignedPathsModel" "isThere" "[Z") (by decide +kernel)) (fun _ h9 => h9) rfl dX4_turn_17 ?_
    refine lv_iload_n hx hb dX4_turn_20 rfl (lv_at hl 1 rfl) ?_
    refine rn_zald (v := bI (th j)) hx hb hK hP 4 1 rfl rfl (by omega) (by decide) rfl dX4_turn_21 ?_
    refine rn_ifneb (tgt := 29) hx hb dX4_turn_22 (by decide) (fun c22 => ?_) (fun c22 => ?_)
    · refine lv_iconst (v := bI false) hx hb dX4_turn_29 (by decide) ?_
      refine rn_zast (ws' := mW k b n m fr to w (va_up th j false) be oe al pa bo rl ra mo) hx hb hK hP hD hS 4 1 rfl rfl (by omega) (by decide) (by rw [up_bI]; rfl) dX4_turn_30 (fun H locs hP hD hS => ?_)
      refine lv_aload_n hx hb dX4_turn_31 rfl (lv_at hl 0 rfl) ?_
      refine va_get (D := D) (ci := 4) (v := .ref (b 4)) (C := RX4) (T := TX4) (N := 14) hx hb hts i4 hown hK hP 0 rfl rfl 5 (by decide) (hts (.fieldLink RX4 19 "SignedPathsModel" "isThere" "[Z") (by decide +kernel)) (fun _ h9 => h9) rfl dX4_turn_32 ?_
      refine lv_iload_n hx hb dX4_turn_35 rfl (lv_at hl 1 rfl) ?_
      refine rn_zald (v := bI ((va_up th j false) j)) hx hb hK hP 4 1 rfl rfl (by omega) (by decide) rfl dX4_turn_36 ?_
      refine rn_ifeqb (tgt := 44) hx hb dX4_turn_37 (by decide) (fun c37 => ?_) (fun c37 => absurd c37 (by simp [va_up]))
      refine lv_iconst (v := 0) hx hb dX4_turn_44 (by decide) ?_
      exact W.iret (v := 0) hx hb hr (fun t ht hW => ⟨⟨_, _, rfl, ⟨rfl, (by rw [bw_t c5, nI_clamp (by omega), c22]; rfl)⟩, by show va_P D vwCl (mW k b n m fr to w (bw (ixB (nI j) m) (va_up th (nI j).toNatClampNeg (!(th (nI j).toNatClampNeg))) th) be oe al pa bo rl ra mo) t.heap; rw [ht]; rw [bw_t c5, nI_clamp (by omega), c22]; exact hP⟩, hS.F ht⟩) hS.2.2 dX4_turn_45
    · refine lv_iconst (v := bI true) hx hb dX4_turn_25 (by decide) ?_
      refine lv_goto (tgt := 30) hx hb dX4_turn_26 (by decide) ?_
      refine rn_zast (ws' := mW k b n m fr to w (va_up th j true) be oe al pa bo rl ra mo) hx hb hK hP hD hS 4 1 rfl rfl (by omega) (by decide) (by rw [up_bI]; rfl) dX4_turn_30 (fun H locs hP hD hS => ?_)
      refine lv_aload_n hx hb dX4_turn_31 rfl (lv_at hl 0 rfl) ?_
      refine va_get (D := D) (ci := 4) (v := .ref (b 4)) (C := RX4) (T := TX4) (N := 14) hx hb hts i4 hown hK hP 0 rfl rfl 5 (by decide) (hts (.fieldLink RX4 19 "SignedPathsModel" "isThere" "[Z") (by decide +kernel)) (fun _ h9 => h9) rfl dX4_turn_32 ?_
      refine lv_iload_n hx hb dX4_turn_35 rfl (lv_at hl 1 rfl) ?_
      refine rn_zald (v := bI ((va_up th j true) j)) hx hb hK hP 4 1 rfl rfl (by omega) (by decide) rfl dX4_turn_36 ?_
      refine rn_ifeqb (tgt := 44) hx hb dX4_turn_37 (by decide) (fun c37 => absurd c37 (by simp [va_up])) (fun c37 => ?_)
      refine lv_iconst (v := 1) hx hb dX4_turn_40 (by decide) ?_
      refine lv_goto (tgt := 45) hx hb dX4_turn_41 (by decide) ?_
      exact W.iret (v := 1) hx hb hr (fun t ht hW => ⟨⟨_, _, rfl, ⟨rfl, (by rw [bw_t c5, nI_clamp (by omega), c22]; rfl)⟩, by show va_P D vwCl (mW k b n m fr to w (bw (ixB (nI j) m) (va_up th (nI j).toNatClampNeg (!(th (nI j).toNatClampNeg))) th) be oe al pa bo rl ra mo) t.heap; rw [ht]; rw [bw_t c5, nI_clamp (by omega), c22]; exact hP⟩, hS.F ht⟩) hS.2.2 dX4_turn_45
  · refine lv_ldc (v := (-1000000001)) hx hb hown (hts (.constant RX4 61 (-1000000001)) (by decide +kernel)) dX4_turn_8 ?_
    exact W.iret (v := (-1000000001)) hx hb hr (fun t ht hW => ⟨⟨_, _, rfl, ⟨rfl, (by rw [bw_f c5])⟩, by show va_P D vwCl (mW k b n m fr to w (bw (ixB x m) (va_up th x.toNatClampNeg (!(th x.toNatClampNeg))) th) be oe al pa bo rl ra mo) t.heap; rw [ht]; rw [bw_f c5]; exact hP⟩, hS.F ht⟩) hS.2.2 dX4_turn_10
set_option maxHeartbeats 4000000 in
set_option maxRecDepth 100000 in
theorem c4_clear (l : Launch) {D : va_G} {k : Nat → ClassId} {b : Nat → Nat} {n : Nat} {m : Nat} {fr : Nat → Nat} {to : Nat → Nat} {w : Nat → Int32} {th : Nat → Bool} {be : Nat → Int64} {oe : Nat → Int64} {al : Nat → Int64} {pa : Nat → Int64} {bo : Nat → Int64} {rl : Nat} {ra : Nat → Nat} {mo : Nat → Int64} (ha : inj 12 b)   : Met l yX4_clear wsX4_clear ({ frames := 0, cells := 0, slots := 0, locals := 0 }) (gPc D k (mW k b n m fr to w th be oe al pa bo rl ra mo) [.ref (b 0)]) (va_Qi (S := Int32) (fun r u => u = r ∧ (r = nI m)) (fun _ t => va_P D vwCl (mW k b 0 0 fr to w th be oe al pa bo rl ra mo) t.heap) (mA b)) 0 0 (mA b) := by
  refine Met.ofW (cc := cX4_clear) (maxL := 2) (ret := (some .int)) (by decide) rfl ?_
  intro p e s mt args below meth c s₁ B hml hv
  obtain ⟨rfl, hP, hK⟩ := hv
  have hx := B.exec
  have hb := B.bytes
  have hr := B.returns
  have hts := atoms_spec (ws := wsX4_clear) B.pre
  have hown : s.vm.findClass RX4 = some mt.cls := findClass_of_methodNamed B.named
  have hlocks := B.notSynchronized
  have i4 : ∀ w ∈ wsX40, w ∈ wsX4_clear := by decide +kernel
  have hS : va_S (mA b) s.heap s.heap [] := va_S.rf
  have hD : va_D (mA b) (mW k b n m fr to w th be oe al pa bo rl ra mo) := mW_D ha
  have hl := lv_entry ([.ref (b 0)]) (n := 2) (Nat.le_of_ble_eq_true rfl)
  rw [lg_entry_eq]
  generalize (lg_sl ([.ref (b 0)]) ++ List.replicate (2 - (lg_sl ([.ref (b 0)])).length) Slot.unset).toArray = ls at hl ⊢
  have hl : lv_has ls 2 [(0, .ref (b 0))] := hl
  refine lv_aload_n hx hb dX4_clear_0 rfl (lv_at hl 0 rfl) ?_
  refine va_get (D := D) (ci := 4) (v := .int (nI m)) (C := RX4) (T := TX4) (N := 14) hx hb hts i4 hown hK hP 0 rfl rfl 1 (by decide) (hts (.fieldLink RX4 53 "SignedPathsModel" "arcs" "I") (by decide +kernel)) (fun _ h9 => h9) rfl dX4_clear_1 ?_
  refine lv_istore_n (lv' := [(1, .int (nI m)), (0, .ref (b 0))]) hx hb dX4_clear_4 rfl hl (by decide) rfl (fun ls hl => ?_)
  refine lv_aload_n hx hb dX4_clear_5 rfl (lv_at hl 1 rfl) ?_
  refine lv_iconst (v := nI 0) hx hb dX4_clear_6 (by decide) ?_
  refine rn_put (ty := .int) (ws' := mW k b 0 m fr to w th be oe al pa bo rl ra mo) hx hb hts i4 tyX4 tyX4_ok nmX4 hown hK hP hD hS 0 rfl rfl 0 (by decide) (hts (.fieldLink RX4 45 "SignedPathsModel" "n" "I") (by decide +kernel)) (fun _ h9 => h9) rfl (by decide +kernel) rfl rfl (Nat.le_of_ble_eq_true rfl) rfl dX4_clear_7 (fun H locs hP hD hS => ?_)
  refine lv_aload_n hx hb dX4_clear_10 rfl (lv_at hl 1 rfl) ?_
  refine lv_iconst (v := nI 0) hx hb dX4_clear_11 (by decide) ?_
  refine rn_put (ty := .int) (ws' := mW k b 0 0 fr to w th be oe al pa bo rl ra mo) hx hb hts i4 tyX4 tyX4_ok nmX4 hown hK hP hD hS 0 rfl rfl 1 (by decide) (hts (.fieldLink RX4 53 "SignedPathsModel" "arcs" "I") (by decide +kernel)) (fun _ h9 => h9) rfl (by decide +kernel) rfl rfl (Nat.le_of_ble_eq_true rfl) rfl dX4_clear_12 (fun H locs hP hD hS => ?_)
  refine lv_iload_n hx hb dX4_clear_15 rfl (lv_at hl 0 rfl) ?_
  exact W.iret (v := nI m) hx hb hr (fun t ht hW => ⟨⟨_, _, rfl, ⟨rfl, rfl⟩, by show va_P D vwCl (mW k b 0 0 fr to w th be oe al pa bo rl ra mo) t.heap; rw [ht]; exact hP⟩, hS.F ht⟩) hS.2.2 dX4_clear_16
set_option maxHeartbeats 4000000 in
set_option maxRecDepth 100000 in
theorem c4_told (l : Launch) {D : va_G} {k : Nat → ClassId} {b : Nat → Nat} {n : Nat} {m : Nat} {fr : Nat → Nat} {to : Nat → Nat} {w : Nat → Int32} {th : Nat → Bool} {be : Nat → Int64} {oe : Nat → Int64} {al : Nat → Int64} {pa : Nat → Int64} {bo : Nat → Int64} {rl : Nat} {ra : Nat → Nat} {mo : Nat → Int64} (ha : inj 12 b) (x : Int32) (hm40 : m ≤ 40) : Met l yX4_told wsX4_told ({ frames := 0, cells := 0, slots := 0, locals := 0 }) (gPc D k (mW k b n m fr to w th be oe al pa bo rl ra mo) [.ref (b 0), .int x]) (vp_Si (fun r => r = toA n m th x)) 0 0 nF := by
  refine Met.ofW (cc := cX4_told) (maxL := 4) (ret := (some .int)) (by decide) rfl ?_
  intro p e s mt args below meth c s₁ B hml hv
  obtain ⟨rfl, hP, hK⟩ := hv
  have hx := B.exec
  have hb := B.bytes
  have hr := B.returns
  have hts := atoms_spec (ws := wsX4_told) B.pre
  have hown : s.vm.findClass RX4 = some mt.cls := findClass_of_methodNamed B.named
  have hlocks := B.notSynchronized
  have i4 : ∀ w ∈ wsX40, w ∈ wsX4_told := by decide +kernel
  have hl := lv_entry ([.ref (b 0), .int x]) (n := 4) (Nat.le_of_ble_eq_true rfl)
  rw [lg_entry_eq]
  generalize (lg_sl ([.ref (b 0), .int x]) ++ List.replicate (4 - (lg_sl ([.ref (b 0), .int x])).length) Slot.unset).toArray = ls at hl ⊢
  have hl : lv_has ls 4 [(0, .ref (b 0)), (1, .int x)] := hl
  obtain ⟨Q, hQ⟩ : ∃ Q, Q = MQ below (vp_Si (fun r => r = toA n m th x)) ([.ref (b 0), .int x] : List Value).toArray s 0 0 nF := ⟨_, rfl⟩
  rw [← hQ]
  refine lv_iconst (v := nI 0) hx hb dX4_told_0 (by decide) ?_
  refine lv_istore_n (lv' := [(2, .int (nI 0)), (0, .ref (b 0)), (1, .int x)]) hx hb dX4_told_1 rfl hl (by decide) rfl (fun ls hl => ?_)
  refine lv_iconst (v := nI 0) hx hb dX4_told_2 (by decide) ?_
  refine lv_istore_n (lv' := [(3, .int (nI 0)), (2, .int (nI 0)), (0, .ref (b 0)), (1, .int x)]) hx hb dX4_told_3 rfl hl (by decide) rfl (fun ls hl => ?_)
  have key4 : ∀ (f4 i : Nat), m + 1 ≤ i + f4 → i ≤ m → ∀ (ls : Array Slot), lv_has ls 4 [(0, .ref (b 0)), (1, .int x), (2, .int (nI (fl (ctS th) i 0))), (3, .int (nI i))] → W p l e (headSpec wsX4_told { frames := 0, cells := 0, slots := 0, locals := 0 }).room s mt ([.ref (b 0), .int x] : List Value).toArray below meth c s.heap [] 0 0 Q (F0 mt 4 ls []) := by
    intro f4
    induction f4 with
    | zero => intro i h1 h2; exact absurd h1 (by omega)
    | succ f4 ih4 =>
      intro i hf4 hi4   ls hl
      refine lv_iload_n hx hb dX4_told_4 rfl (lv_at hl 3 rfl) ?_
      refine lv_aload_n hx hb dX4_told_5 rfl (lv_at hl 0 rfl) ?_
      refine va_get (D := D) (ci := 4) (v := .int (nI m)) (C := RX4) (T := TX4) (N := 14) hx hb hts i4 hown hK hP 0 rfl rfl 1 (by decide) (hts (.fieldLink RX4 53 "SignedPathsModel" "arcs" "I") (by decide +kernel)) (fun _ h9 => h9) rfl dX4_told_6 ?_
      refine rn_icmp_ge (tgt := 35) hx hb dX4_told_9 (by decide) (by omega) (by omega) (fun c9 => ?_) (fun c9 => ?_)
      · have e : i = m := by omega
        refine lv_iload_n hx hb dX4_told_35 rfl (lv_at hl 1 rfl) ?_
        refine lv_if_ne (tgt := 46) hx hb dX4_told_36 (by decide) (fun c36 => ?_) (fun c36 => ?_)
        · refine lv_iload_n hx hb dX4_told_46 rfl (lv_at hl 1 rfl) ?_
          refine lv_iconst (v := 1) hx hb dX4_told_47 (by decide) ?_
          refine lv_icmp_ne (tgt := 58) hx hb dX4_told_48 (by decide) (fun c48 => ?_) (fun c48 => ?_)
          · refine lv_iload_n hx hb dX4_told_58 rfl (lv_at hl 1 rfl) ?_
            refine lv_iconst (v := 2) hx hb dX4_told_59 (by decide) ?_
            refine lv_icmp_ne (tgt := 67) hx hb dX4_told_60 (by decide) (fun c60 => ?_) (fun c60 => ?_)
            · refine lv_ldc (v := (-1000000002)) hx hb hown (hts (.constant RX4 62 (-1000000002)) (by decide +kernel)) dX4_told_67 ?_
              rw [hQ]
              exact W.iret (v := (-1000000002)) hx hb hr (fun t ht hW => ⟨_, rfl, (by rw [toA, if_neg c36, if_neg c48, if_neg c60]), ht⟩) (fun q h => absurd h List.not_mem_nil) dX4_told_69
            · refine lv_iload_n hx hb dX4_told_63 rfl (lv_at hl 2 rfl) ?_
              refine lv_goto (tgt := 69) hx hb dX4_told_64 (by decide) ?_
              rw [hQ]
              exact W.iret (v := nI (fl (ctS th) i 0)) hx hb hr (fun t ht hW => ⟨_, rfl, (by rw [toA, if_neg c36, if_neg c48, if_pos c60, e]), ht⟩) (fun q h => absurd h List.not_mem_nil) dX4_told_69
          · refine lv_aload_n hx hb dX4_told_51 rfl (lv_at hl 0 rfl) ?_
            refine va_get (D := D) (ci := 4) (v := .int (nI m)) (C := RX4) (T := TX4) (N := 14) hx hb hts i4 hown hK hP 0 rfl rfl 1 (by decide) (hts (.fieldLink RX4 53 "SignedPathsModel" "arcs" "I") (by decide +kernel)) (fun _ h9 => h9) rfl dX4_told_52 ?_
            refine lv_goto (tgt := 69) hx hb dX4_told_55 (by decide) ?_
            rw [hQ]
            exact W.iret (v := nI m) hx hb hr (fun t ht hW => ⟨_, rfl, (by rw [toA, if_neg c36, if_pos c48]), ht⟩) (fun q h => absurd h List.not_mem_nil) dX4_told_69
        · refine lv_aload_n hx hb dX4_told_39 rfl (lv_at hl 0 rfl) ?_
          refine va_get (D := D) (ci := 4) (v := .int (nI n)) (C := RX4) (T := TX4) (N := 14) hx hb hts i4 hown hK hP 0 rfl rfl 0 (by decide) (hts (.fieldLink RX4 45 "SignedPathsModel" "n" "I") (by decide +kernel)) (fun _ h9 => h9) rfl dX4_told_40 ?_
          refine lv_goto (tgt := 69) hx hb dX4_told_43 (by decide) ?_
          rw [hQ]
          exact W.iret (v := nI n) hx hb hr (fun t ht hW => ⟨_, rfl, (by rw [toA, if_pos c36]), ht⟩) (fun q h => absurd h List.not_mem_nil) dX4_told_69
      · refine lv_iload_n hx hb dX4_told_12 rfl (lv_at hl 2 rfl) ?_
        refine lv_aload_n hx hb dX4_told_13 rfl (lv_at hl 0 rfl) ?_
        refine va_get (D := D) (ci := 4) (v := .ref (b 4)) (C := RX4) (T := TX4) (N := 14) hx hb hts i4 hown hK hP 0 rfl rfl 5 (by decide) (hts (.fieldLink RX4 19 "SignedPathsModel" "isThere" "[Z") (by decide +kernel)) (fun _ h9 => h9) rfl dX4_told_14 ?_
        refine lv_iload_n hx hb dX4_told_17 rfl (lv_at hl 3 rfl) ?_
        refine rn_zald (v := bI (th i)) hx hb hK hP 4 1 rfl rfl (by omega) (by decide) rfl dX4_told_18 ?_
        refine rn_ifeqb (tgt := 26) hx hb dX4_told_19 (by decide) (fun c19 => ?_) (fun c19 => ?_)
        · refine lv_iconst (v := nI 0) hx hb dX4_told_26 (by decide) ?_
          refine rn_iadd hx hb  dX4_told_27 ?_
          refine lv_istore_n (lv' := [(2, .int (nI ((fl (ctS th) i 0) + 0))), (0, .ref (b 0)), (1, .int x), (3, .int (nI i))]) hx hb dX4_told_28 rfl hl (by decide) rfl (fun ls hl => ?_)
          refine lv_iinc (v := nI (i + 1)) (lv' := [(3, .int (nI (i + 1))), (2, .int (nI ((fl (ctS th) i 0) + 0))), (0, .ref (b 0)), (1, .int x)]) hx hb dX4_told_29 hl (k := 3) rfl (nI_1 i) (by decide) rfl (fun ls hl => ?_)
          refine lv_goto (tgt := 4) hx hb dX4_told_32 (by decide) ?_
          have ctq : fl (ctS th) (i + 1) 0 = fl (ctS th) i 0 + 0 := by rw [fl_s]; simp [ctS, c19]
          exact ih4 (i + 1) (by omega) (by omega)  ls (lv_sub hl [2, 3, 1, 0] (by rw [ctq]; rfl))
        · refine lv_iconst (v := nI 1) hx hb dX4_told_22 (by decide) ?_
          refine lv_goto (tgt := 27) hx hb dX4_told_23 (by decide) ?_
          refine rn_iadd hx hb  dX4_told_27 ?_
          refine lv_istore_n (lv' := [(2, .int (nI ((fl (ctS th) i 0) + 1))), (0, .ref (b 0)), (1, .int x), (3, .int (nI i))]) hx hb dX4_told_28 rfl hl (by decide) rfl (fun ls hl => ?_)
          refine lv_iinc (v := nI (i + 1)) (lv' := [(3, .int (nI (i + 1))), (2, .int (nI ((fl (ctS th) i 0) + 1))), (0, .ref (b 0)), (1, .int x)]) hx hb dX4_told_29 hl (k := 3) rfl (nI_1 i) (by decide) rfl (fun ls hl => ?_)
          refine lv_goto (tgt := 4) hx hb dX4_told_32 (by decide) ?_
          have ctq : fl (ctS th) (i + 1) 0 = fl (ctS th) i 0 + 1 := by rw [fl_s]; simp [ctS, c19]
          exact ih4 (i + 1) (by omega) (by omega)  ls (lv_sub hl [2, 3, 1, 0] (by rw [ctq]; rfl))
  exact key4 (m + 1) 0 (by omega) (by omega)  ls (lv_sub hl [2, 3, 1, 0] rfl)
set_option maxHeartbeats 4000000 in
set_option maxRecDepth 100000 in
theorem c4_findBest (l : Launch) {D : va_G} {k : Nat → ClassId} {b : Nat → Nat} {n : Nat} {m : Nat} {fr : Nat → Nat} {to : Nat → Nat} {w : Nat → Int32} {th : Nat → Bool} {be : Nat → Int64} {oe : Nat → Int64} {al : Nat → Int64} {pa : Nat → Int64} {bo : Nat → Int64} {rl : Nat} {ra : Nat → Nat} {mo : Nat → Int64} (ha : inj 12 b)  (hg : gOK n m fr to) : Met l yX4_findBest wsX4_findBest ({ frames := 0, cells := 0, slots := 0, locals := 0 }) (gPc D k (mW k b n m fr to w th be oe al pa bo rl ra mo) [.ref (b 0)]) (va_Qv (S := Unit) (fun _ => True) (fun _ t => va_P D vwCl (mW k b n m fr to w th (fwB n m fr to w th be) oe al pa bo rl ra mo) t.heap) (mA b)) 0 0 (mA b) := by
  refine Met.ofW (cc := cX4_findBest) (maxL := 7) (ret := none) (by decide) rfl ?_
  intro p e s mt args below meth c s₁ B hml hv
  obtain ⟨rfl, hP, hK⟩ := hv
  have hx := B.exec
  have hb := B.bytes
  have hr := B.returns
  have hts := atoms_spec (ws := wsX4_findBest) B.pre
  have hown : s.vm.findClass RX4 = some mt.cls := findClass_of_methodNamed B.named
  have hlocks := B.notSynchronized
  have i4 : ∀ w ∈ wsX40, w ∈ wsX4_findBest := by decide +kernel
  have hS : va_S (mA b) s.heap s.heap [] := va_S.rf
  have hD : va_D (mA b) (mW k b n m fr to w th be oe al pa bo rl ra mo) := mW_D ha
  have hl := lv_entry ([.ref (b 0)]) (n := 7) (Nat.le_of_ble_eq_true rfl)
  rw [lg_entry_eq]
  generalize (lg_sl ([.ref (b 0)]) ++ List.replicate (7 - (lg_sl ([.ref (b 0)])).length) Slot.unset).toArray = ls at hl ⊢
  have hl : lv_has ls 7 [(0, .ref (b 0))] := hl
  obtain ⟨Q, hQ⟩ : ∃ Q, Q = MQ below (va_Qv (S := Unit) (fun _ => True) (fun _ t => va_P D vwCl (mW k b n m fr to w th (fwB n m fr to w th be) oe al pa bo rl ra mo) t.heap) (mA b)) ([.ref (b 0)] : List Value).toArray s 0 0 (mA b) := ⟨_, rfl⟩
  rw [← hQ]
  obtain ⟨hn12, hm40, hft⟩ := id hg
  refine lv_iconst (v := nI 0) hx hb dX4_findBest_0 (by decide) ?_
  refine lv_istore_n (lv' := [(1, .int (nI 0)), (0, .ref (b 0))]) hx hb dX4_findBest_1 rfl hl (by decide) rfl (fun ls hl => ?_)
  have key2 : ∀ (f2 i : Nat), n * 12 + 1 ≤ i + f2 → i ≤ n * 12 → ∀ (H : Heap) (locs : List Loc), va_P D vwCl (mW k b n m fr to w th (fl fb1 i be) oe al pa bo rl ra mo) H → va_S (mA b) s.heap H locs → ∀ (ls : Array Slot), lv_has ls 7 [(0, .ref (b 0)), (1, .int (nI i))] → W p l e (headSpec wsX4_findBest { frames := 0, cells := 0, slots := 0, locals := 0 }).room s mt ([.ref (b 0)] : List Value).toArray below meth c H locs 0 0 Q (F0 mt 2 ls []) := by
    intro f2
    induction f2 with
    | zero => intro i h1 h2; exact absurd h1 (by omega)
    | succ f2 ih2 =>
      intro i hf2 hi2   H locs hP hS ls hl
      have hD : va_D (mA b) (mW k b n m fr to w th (fl fb1 i be) oe al pa bo rl ra mo) := mW_D ha
      refine lv_iload_n hx hb dX4_findBest_2 rfl (lv_at hl 1 rfl) ?_
      refine lv_aload_n hx hb dX4_findBest_3 rfl (lv_at hl 0 rfl) ?_
      refine va_get (D := D) (ci := 4) (v := .int (nI n)) (C := RX4) (T := TX4) (N := 14) hx hb hts i4 hown hK hP 0 rfl rfl 0 (by decide) (hts (.fieldLink RX4 45 "SignedPathsModel" "n" "I") (by decide +kernel)) (fun _ h9 => h9) rfl dX4_findBest_4 ?_
      refine lv_bipush (v := nI 12) hx hb dX4_findBest_7 (by decide) ?_
      refine rn_imul hx hb  dX4_findBest_9 ?_
      refine rn_icmp_ge (tgt := 43) hx hb dX4_findBest_10 (by decide) (by omega) (by omega) (fun c10 => ?_) (fun c10 => ?_)
      · refine lv_iconst (v := nI 0) hx hb dX4_findBest_43 (by decide) ?_
        refine lv_istore_n (lv' := [(1, .int (nI 0)), (0, .ref (b 0))]) hx hb dX4_findBest_44 rfl hl (by decide) rfl (fun ls hl => ?_)
        have key45 : ∀ (f45 i : Nat), m + 1 ≤ i + f45 → i ≤ m → ∀ (H : Heap) (locs : List Loc), va_P D vwCl (mW k b n m fr to w th (fl (fb2 fr to w th) i (fl fb1 (n * 12) be)) oe al pa bo rl ra mo) H → va_S (mA b) s.heap H locs → ∀ (ls : Array Slot), lv_has ls 7 [(0, .ref (b 0)), (1, .int (nI i))] → W p l e (headSpec wsX4_findBest { frames := 0, cells := 0, slots := 0, locals := 0 }).room s mt ([.ref (b 0)] : List Value).toArray below meth c H locs 0 0 Q (F0 mt 45 ls []) := by
          intro f45
          induction f45 with
          | zero => intro i h1 h2; exact absurd h1 (by omega)
          | succ f45 ih45 =>
            intro i hf45 hi45   H locs hP hS ls hl
            have hD : va_D (mA b) (mW k b n m fr to w th (fl (fb2 fr to w th) i (fl fb1 (n * 12) be)) oe al pa bo rl ra mo) := mW_D ha
            refine lv_iload_n hx hb dX4_findBest_45 rfl (lv_at hl 1 rfl) ?_
            refine lv_aload_n hx hb dX4_findBest_46 rfl (lv_at hl 0 rfl) ?_
            refine va_get (D := D) (ci := 4) (v := .int (nI m)) (C := RX4) (T := TX4) (N := 14) hx hb hts i4 hown hK hP 0 rfl rfl 1 (by decide) (hts (.fieldLink RX4 53 "SignedPathsModel" "arcs" "I") (by decide +kernel)) (fun _ h9 => h9) rfl dX4_findBest_47 ?_
            refine rn_icmp_ge (tgt := 126) hx hb dX4_findBest_50 (by decide) (by omega) (by omega) (fun c50 => ?_) (fun c50 => ?_)
            · refine lv_iconst (v := nI 0) hx hb dX4_findBest_126 (by decide) ?_
              refine lv_istore_n (lv' := [(1, .int (nI 0)), (0, .ref (b 0))]) hx hb dX4_findBest_127 rfl hl (by decide) rfl (fun ls hl => ?_)
              have key128 : ∀ (f128 x : Nat), n + 1 ≤ x + f128 → x ≤ n → ∀ (H : Heap) (locs : List Loc), va_P D vwCl (mW k b n m fr to w th (fl (fwM n) x (fwI n m fr to w th be)) oe al pa bo rl ra mo) H → va_S (mA b) s.heap H locs → ∀ (ls : Array Slot), lv_has ls 7 [(0, .ref (b 0)), (1, .int (nI x))] → W p l e (headSpec wsX4_findBest { frames := 0, cells := 0, slots := 0, locals := 0 }).room s mt ([.ref (b 0)] : List Value).toArray below meth c H locs 0 0 Q (F0 mt 128 ls []) := by
                intro f128
                induction f128 with
                | zero => intro x h1 h2; exact absurd h1 (by omega)
                | succ f128 ih128 =>
                  intro x hf128 hi128   H locs hP hS ls hl
                  have hD : va_D (mA b) (mW k b n m fr to w th (fl (fwM n) x (fwI n m fr to w th be)) oe al pa bo rl ra mo) := mW_D ha
                  refine lv_iload_n hx hb dX4_findBest_128 rfl (lv_at hl 1 rfl) ?_
                  refine lv_aload_n hx hb dX4_findBest_129 rfl (lv_at hl 0 rfl) ?_
                  refine va_get (D := D) (ci := 4) (v := .int (nI n)) (C := RX4) (T := TX4) (N := 14) hx hb hts i4 hown hK hP 0 rfl rfl 0 (by decide) (hts (.fieldLink RX4 45 "SignedPathsModel" "n" "I") (by decide +kernel)) (fun _ h9 => h9) rfl dX4_findBest_130 ?_
                  refine rn_icmp_ge (tgt := 306) hx hb dX4_findBest_133 (by decide) (by omega) (by omega) (fun c133 => ?_) (fun c133 => ?_)
                  · rw [hQ]
                    exact W.vret hx hb hr (fun t ht hW => ⟨⟨(), rfl, trivial, by show va_P D vwCl (mW k b n m fr to w th (fwB n m fr to w th be) oe al pa bo rl ra mo) t.heap; rw [ht]; have e : x = n := (by omega); rw [e] at hP; exact hP⟩, hS.F ht⟩) hS.2.2 dX4_findBest_306
                  · refine lv_iconst (v := nI 0) hx hb dX4_findBest_136 (by decide) ?_
                    refine lv_istore_n (lv' := [(2, .int (nI 0)), (0, .ref (b 0)), (1, .int (nI x))]) hx hb dX4_findBest_137 rfl hl (by decide) rfl (fun ls hl => ?_)
                    have key138 : ∀ (f138 u : Nat), n + 1 ≤ u + f138 → u ≤ n → ∀ (H : Heap) (locs : List Loc), va_P D vwCl (mW k b n m fr to w th (fl (fwU n x) u (fl (fwM n) x (fwI n m fr to w th be))) oe al pa bo rl ra mo) H → va_S (mA b) s.heap H locs → ∀ (ls : Array Slot), lv_has ls 7 [(0, .ref (b 0)), (1, .int (nI x)), (2, .int (nI u))] → W p l e (headSpec wsX4_findBest { frames := 0, cells := 0, slots := 0, locals := 0 }).room s mt ([.ref (b 0)] : List Value).toArray below meth c H locs 0 0 Q (F0 mt 138 ls []) := by
                      intro f138
                      induction f138 with
                      | zero => intro u h1 h2; exact absurd h1 (by omega)
                      | succ f138 ih138 =>
                        intro u hf138 hi138   H locs hP hS ls hl
                        have hD : va_D (mA b) (mW k b n m fr to w th (fl (fwU n x) u (fl (fwM n) x (fwI n m fr to w th be))) oe al pa bo rl ra mo) := mW_D ha
                        refine lv_iload_n hx hb dX4_findBest_138 rfl (lv_at hl 2 rfl) ?_
                        refine lv_aload_n hx hb dX4_findBest_139 rfl (lv_at hl 0 rfl) ?_
                        refine va_get (D := D) (ci := 4) (v := .int (nI n)) (C := RX4) (T := TX4) (N := 14) hx hb hts i4 hown hK hP 0 rfl rfl 0 (by decide) (hts (.fieldLink RX4 45 "SignedPathsModel" "n" "I") (by decide +kernel)) (fun _ h9 => h9) rfl dX4_findBest_140 ?_
                        refine rn_icmp_ge (tgt := 300) hx hb dX4_findBest_143 (by decide) (by omega) (by omega) (fun c143 => ?_) (fun c143 => ?_)
                        · refine lv_iinc (v := nI (x + 1)) (lv' := [(1, .int (nI (x + 1))), (0, .ref (b 0)), (2, .int (nI u))]) hx hb dX4_findBest_300 hl (k := 1) rfl (nI_1 x) (by decide) rfl (fun ls hl => ?_)
                          refine lv_goto (tgt := 128) hx hb dX4_findBest_303 (by decide) ?_
                          exact ih128 (x + 1) (by omega) (by omega)  _ _ (by have e : u = n := (by omega); rw [e] at hP; exact hP) hS ls (lv_sub hl [1, 0] rfl)
                        · refine lv_iconst (v := nI 0) hx hb dX4_findBest_146 (by decide) ?_
                          refine lv_istore_n (lv' := [(3, .int (nI 0)), (0, .ref (b 0)), (1, .int (nI x)), (2, .int (nI u))]) hx hb dX4_findBest_147 rfl hl (by decide) rfl (fun ls hl => ?_)
                          have key148 : ∀ (f148 v : Nat), n + 1 ≤ v + f148 → v ≤ n → ∀ (H : Heap) (locs : List Loc), va_P D vwCl (mW k b n m fr to w th (fl (fwS x u) v (fl (fwU n x) u (fl (fwM n) x (fwI n m fr to w th be)))) oe al pa bo rl ra mo) H → va_S (mA b) s.heap H locs → ∀ (ls : Array Slot), lv_has ls 7 [(0, .ref (b 0)), (1, .int (nI x)), (2, .int (nI u)), (3, .int (nI v))] → W p l e (headSpec wsX4_findBest { frames := 0, cells := 0, slots := 0, locals := 0 }).room s mt ([.ref (b 0)] : List Value).toArray below meth c H locs 0 0 Q (F0 mt 148 ls []) := by
                            intro f148
                            induction f148 with
                            | zero => intro v h1 h2; exact absurd h1 (by omega)
                            | succ f148 ih148 =>
                              intro v hf148 hi148   H locs hP hS ls hl
                              have hD : va_D (mA b) (mW k b n m fr to w th (fl (fwS x u) v (fl (fwU n x) u (fl (fwM n) x (fwI n m fr to w th be)))) oe al pa bo rl ra mo) := mW_D ha
                              refine lv_iload_n hx hb dX4_findBest_148 rfl (lv_at hl 3 rfl) ?_
                              refine lv_aload_n hx hb dX4_findBest_149 rfl (lv_at hl 0 rfl) ?_
                              refine va_get (D := D) (ci := 4) (v := .int (nI n)) (C := RX4) (T := TX4) (N := 14) hx hb hts i4 hown hK hP 0 rfl rfl 0 (by decide) (hts (.fieldLink RX4 45 "SignedPathsModel" "n" "I") (by decide +kernel)) (fun _ h9 => h9) rfl dX4_findBest_150 ?_
                              refine rn_icmp_ge (tgt := 294) hx hb dX4_findBest_153 (by decide) (by omega) (by omega) (fun c153 => ?_) (fun c153 => ?_)
                              · refine lv_iinc (v := nI (u + 1)) (lv' := [(2, .int (nI (u + 1))), (0, .ref (b 0)), (1, .int (nI x)), (3, .int (nI v))]) hx hb dX4_findBest_294 hl (k := 2) rfl (nI_1 u) (by decide) rfl (fun ls hl => ?_)
                                refine lv_goto (tgt := 138) hx hb dX4_findBest_297 (by decide) ?_
                                exact ih138 (u + 1) (by omega) (by omega)  _ _ (by have e : v = n := (by omega); rw [e] at hP; exact hP) hS ls (lv_sub hl [1, 2, 0] rfl)
                              · refine lv_aload_n hx hb dX4_findBest_156 rfl (lv_at hl 0 rfl) ?_
                                refine va_get (D := D) (ci := 4) (v := .ref (b 5)) (C := RX4) (T := TX4) (N := 14) hx hb hts i4 hown hK hP 0 rfl rfl 6 (by decide) (hts (.fieldLink RX4 23 "SignedPathsModel" "best" "[J") (by decide +kernel)) (fun _ h9 => h9) rfl dX4_findBest_157 ?_
                                refine lv_bipush (v := nI 12) hx hb dX4_findBest_160 (by decide) ?_
                                refine lv_iload_n hx hb dX4_findBest_162 rfl (lv_at hl 2 rfl) ?_
                                refine rn_imul hx hb  dX4_findBest_163 ?_
                                refine lv_iload_n hx hb dX4_findBest_164 rfl (lv_at hl 1 rfl) ?_
                                refine rn_iadd hx hb  dX4_findBest_165 ?_
                                refine rn_lald (v := (fl (fwS x u) v (fl (fwU n x) u (fl (fwM n) x (fwI n m fr to w th be)))) ((12 * u) + x)) hx hb hK hP 5 3 rfl rfl (by omega) (by decide) rfl dX4_findBest_166 ?_
                                refine lv_aload_n hx hb dX4_findBest_167 rfl (lv_at hl 0 rfl) ?_
                                refine va_get (D := D) (ci := 4) (v := .ref (b 5)) (C := RX4) (T := TX4) (N := 14) hx hb hts i4 hown hK hP 0 rfl rfl 6 (by decide) (hts (.fieldLink RX4 23 "SignedPathsModel" "best" "[J") (by decide +kernel)) (fun _ h9 => h9) rfl dX4_findBest_168 ?_
                                refine lv_bipush (v := nI 12) hx hb dX4_findBest_171 (by decide) ?_
                                refine lv_iload_n hx hb dX4_findBest_173 rfl (lv_at hl 1 rfl) ?_
                                refine rn_imul hx hb  dX4_findBest_174 ?_
                                refine lv_iload_n hx hb dX4_findBest_175 rfl (lv_at hl 3 rfl) ?_
                                refine rn_iadd hx hb  dX4_findBest_176 ?_
                                refine rn_lald (v := (fl (fwS x u) v (fl (fwU n x) u (fl (fwM n) x (fwI n m fr to w th be)))) ((12 * x) + v)) hx hb hK hP 5 3 rfl rfl (by omega) (by decide) rfl dX4_findBest_177 ?_
                                refine lv_ladd hx hb dX4_findBest_178  ?_
                                refine lv_lstore (lv' := [(4, .long (((fl (fwS x u) v (fl (fwU n x) u (fl (fwM n) x (fwI n m fr to w th be)))) ((12 * u) + x)) + ((fl (fwS x u) v (fl (fwU n x) u (fl (fwM n) x (fwI n m fr to w th be)))) ((12 * x) + v)))), (0, .ref (b 0)), (1, .int (nI x)), (2, .int (nI u)), (3, .int (nI v))]) hx hb dX4_findBest_179 hl (by decide) rfl (fun ls hl => ?_)
                                refine lv_aload_n hx hb dX4_findBest_181 rfl (lv_at hl 1 rfl) ?_
                                refine va_get (D := D) (ci := 4) (v := .ref (b 5)) (C := RX4) (T := TX4) (N := 14) hx hb hts i4 hown hK hP 0 rfl rfl 6 (by decide) (hts (.fieldLink RX4 23 "SignedPathsModel" "best" "[J") (by decide +kernel)) (fun _ h9 => h9) rfl dX4_findBest_182 ?_
                                refine lv_bipush (v := nI 12) hx hb dX4_findBest_185 (by decide) ?_
                                refine lv_iload_n hx hb dX4_findBest_187 rfl (lv_at hl 3 rfl) ?_
                                refine rn_imul hx hb  dX4_findBest_188 ?_
                                refine lv_iload_n hx hb dX4_findBest_189 rfl (lv_at hl 2 rfl) ?_
                                refine rn_iadd hx hb  dX4_findBest_190 ?_
                                refine rn_lald (v := (fl (fwS x u) v (fl (fwU n x) u (fl (fwM n) x (fwI n m fr to w th be)))) ((12 * u) + x)) hx hb hK hP 5 3 rfl rfl (by omega) (by decide) rfl dX4_findBest_191 ?_
                                refine lv_ldc2 (v := 1000000000000) hx hb hown (hts (.constantLong RX4 66 1000000000000) (by decide +kernel)) dX4_findBest_192 ?_
                                refine rn_lcmp_ge (tgt := 238) hx hb dX4_findBest_195 dX4_findBest_196 (by decide) (fun c195 => ?_) (fun c195 => ?_)
                                · refine lv_iconst (v := nI 0) hx hb dX4_findBest_238 (by decide) ?_
                                  refine lv_istore (lv' := [(6, .int (nI 0)), (4, .long (((fl (fwS x u) v (fl (fwU n x) u (fl (fwM n) x (fwI n m fr to w th be)))) ((12 * u) + x)) + ((fl (fwS x u) v (fl (fwU n x) u (fl (fwM n) x (fwI n m fr to w th be)))) ((12 * x) + v)))), (0, .ref (b 0)), (1, .int (nI x)), (2, .int (nI u)), (3, .int (nI v))]) hx hb dX4_findBest_239 hl (by decide) rfl (fun ls hl => ?_)
                                  refine lv_aload_n hx hb dX4_findBest_241 rfl (lv_at hl 2 rfl) ?_
                                  refine va_get (D := D) (ci := 4) (v := .ref (b 5)) (C := RX4) (T := TX4) (N := 14) hx hb hts i4 hown hK hP 0 rfl rfl 6 (by decide) (hts (.fieldLink RX4 23 "SignedPathsModel" "best" "[J") (by decide +kernel)) (fun _ h9 => h9) rfl dX4_findBest_242 ?_
                                  refine lv_bipush (v := nI 12) hx hb dX4_findBest_245 (by decide) ?_
                                  refine lv_iload_n hx hb dX4_findBest_247 rfl (lv_at hl 4 rfl) ?_
                                  refine rn_imul hx hb  dX4_findBest_248 ?_
                                  refine lv_iload_n hx hb dX4_findBest_249 rfl (lv_at hl 5 rfl) ?_
                                  refine rn_iadd hx hb  dX4_findBest_250 ?_
                                  refine lv_iload hx hb dX4_findBest_251 (lv_at hl 0 rfl) ?_
                                  refine lv_if_eq (tgt := 276) hx hb dX4_findBest_253 (by decide) (fun _ => ?_) (fun c => absurd (by decide) c)
                                  refine lv_aload_n hx hb dX4_findBest_276 rfl (lv_at hl 2 rfl) ?_
                                  refine va_get (D := D) (ci := 4) (v := .ref (b 5)) (C := RX4) (T := TX4) (N := 14) hx hb hts i4 hown hK hP 0 rfl rfl 6 (by decide) (hts (.fieldLink RX4 23 "SignedPathsModel" "best" "[J") (by decide +kernel)) (fun _ h9 => h9) rfl dX4_findBest_277 ?_
                                  refine lv_bipush (v := nI 12) hx hb dX4_findBest_280 (by decide) ?_
                                  refine lv_iload_n hx hb dX4_findBest_282 rfl (lv_at hl 4 rfl) ?_
                                  refine rn_imul hx hb  dX4_findBest_283 ?_
                                  refine lv_iload_n hx hb dX4_findBest_284 rfl (lv_at hl 5 rfl) ?_
                                  refine rn_iadd hx hb  dX4_findBest_285 ?_
                                  refine rn_lald (v := (fl (fwS x u) v (fl (fwU n x) u (fl (fwM n) x (fwI n m fr to w th be)))) ((12 * u) + v)) hx hb hK hP 5 3 rfl rfl (by omega) (by decide) rfl dX4_findBest_286 ?_
                                  refine rn_last (ws' := mW k b n m fr to w th (va_up (fl (fwS x u) v (fl (fwU n x) u (fl (fwM n) x (fwI n m fr to w th be)))) ((12 * u) + v) ((fl (fwS x u) v (fl (fwU n x) u (fl (fwM n) x (fwI n m fr to w th be)))) ((12 * u) + v))) oe al pa bo rl ra mo) hx hb hK hP hD hS 5 3 rfl rfl (by omega) (by decide) rfl dX4_findBest_287 (fun H locs hP hD hS => ?_)
                                  refine lv_iinc (v := nI (v + 1)) (lv' := [(3, .int (nI (v + 1))), (6, .int (nI 0)), (4, .long (((fl (fwS x u) v (fl (fwU n x) u (fl (fwM n) x (fwI n m fr to w th be)))) ((12 * u) + x)) + ((fl (fwS x u) v (fl (fwU n x) u (fl (fwM n) x (fwI n m fr to w th be)))) ((12 * x) + v)))), (0, .ref (b 0)), (1, .int (nI x)), (2, .int (nI u))]) hx hb dX4_findBest_288 hl (k := 5) rfl (nI_1 v) (by decide) rfl (fun ls hl => ?_)
                                  refine lv_goto (tgt := 148) hx hb dX4_findBest_291 (by decide) ?_
                                  exact ih148 (v + 1) (by omega) (by omega)  _ _ (by rw [fl_s, fwS, fwV, if_pos c195]; exact hP) hS ls (lv_sub hl [3, 4, 5, 0] rfl)
                                · refine lv_aload_n hx hb dX4_findBest_199 rfl (lv_at hl 1 rfl) ?_
                                  refine va_get (D := D) (ci := 4) (v := .ref (b 5)) (C := RX4) (T := TX4) (N := 14) hx hb hts i4 hown hK hP 0 rfl rfl 6 (by decide) (hts (.fieldLink RX4 23 "SignedPathsModel" "best" "[J") (by decide +kernel)) (fun _ h9 => h9) rfl dX4_findBest_200 ?_
                                  refine lv_bipush (v := nI 12) hx hb dX4_findBest_203 (by decide) ?_
                                  refine lv_iload_n hx hb dX4_findBest_205 rfl (lv_at hl 2 rfl) ?_
                                  refine rn_imul hx hb  dX4_findBest_206 ?_
                                  refine lv_iload_n hx hb dX4_findBest_207 rfl (lv_at hl 4 rfl) ?_
                                  refine rn_iadd hx hb  dX4_findBest_208 ?_
                                  refine rn_lald (v := (fl (fwS x u) v (fl (fwU n x) u (fl (fwM n) x (fwI n m fr to w th be)))) ((12 * x) + v)) hx hb hK hP 5 3 rfl rfl (by omega) (by decide) rfl dX4_findBest_209 ?_
                                  refine lv_ldc2 (v := 1000000000000) hx hb hown (hts (.constantLong RX4 66 1000000000000) (by decide +kernel)) dX4_findBest_210 ?_
                                  refine rn_lcmp_ge (tgt := 238) hx hb dX4_findBest_213 dX4_findBest_214 (by decide) (fun c213 => ?_) (fun c213 => ?_)
                                  · refine lv_iconst (v := nI 0) hx hb dX4_findBest_238 (by decide) ?_
                                    refine lv_istore (lv' := [(6, .int (nI 0)), (4, .long (((fl (fwS x u) v (fl (fwU n x) u (fl (fwM n) x (fwI n m fr to w th be)))) ((12 * u) + x)) + ((fl (fwS x u) v (fl (fwU n x) u (fl (fwM n) x (fwI n m fr to w th be)))) ((12 * x) + v)))), (0, .ref (b 0)), (1, .int (nI x)), (2, .int (nI u)), (3, .int (nI v))]) hx hb dX4_findBest_239 hl (by decide) rfl (fun ls hl => ?_)
                                    refine lv_aload_n hx hb dX4_findBest_241 rfl (lv_at hl 2 rfl) ?_
                                    refine va_get (D := D) (ci := 4) (v := .ref (b 5)) (C := RX4) (T := TX4) (N := 14) hx hb hts i4 hown hK hP 0 rfl rfl 6 (by decide) (hts (.fieldLink RX4 23 "SignedPathsModel" "best" "[J") (by decide +kernel)) (fun _ h9 => h9) rfl dX4_findBest_242 ?_
                                    refine lv_bipush (v := nI 12) hx hb dX4_findBest_245 (by decide) ?_
                                    refine lv_iload_n hx hb dX4_findBest_247 rfl (lv_at hl 4 rfl) ?_
                                    refine rn_imul hx hb  dX4_findBest_248 ?_
                                    refine lv_iload_n hx hb dX4_findBest_249 rfl (lv_at hl 5 rfl) ?_
                                    refine rn_iadd hx hb  dX4_findBest_250 ?_
                                    refine lv_iload hx hb dX4_findBest_251 (lv_at hl 0 rfl) ?_
                                    refine lv_if_eq (tgt := 276) hx hb dX4_findBest_253 (by decide) (fun _ => ?_) (fun c => absurd (by decide) c)
                                    refine lv_aload_n hx hb dX4_findBest_276 rfl (lv_at hl 2 rfl) ?_
                                    refine va_get (D := D) (ci := 4) (v := .ref (b 5)) (C := RX4) (T := TX4) (N := 14) hx hb hts i4 hown hK hP 0 rfl rfl 6 (by decide) (hts (.fieldLink RX4 23 "SignedPathsModel" "best" "[J") (by decide +kernel)) (fun _ h9 => h9) rfl dX4_findBest_277 ?_
                                    refine lv_bipush (v := nI 12) hx hb dX4_findBest_280 (by decide) ?_
                                    refine lv_iload_n hx hb dX4_findBest_282 rfl (lv_at hl 4 rfl) ?_
                                    refine rn_imul hx hb  dX4_findBest_283 ?_
                                    refine lv_iload_n hx hb dX4_findBest_284 rfl (lv_at hl 5 rfl) ?_
                                    refine rn_iadd hx hb  dX4_findBest_285 ?_
                                    refine rn_lald (v := (fl (fwS x u) v (fl (fwU n x) u (fl (fwM n) x (fwI n m fr to w th be)))) ((12 * u) + v)) hx hb hK hP 5 3 rfl rfl (by omega) (by decide) rfl dX4_findBest_286 ?_
                                    refine rn_last (ws' := mW k b n m fr to w th (va_up (fl (fwS x u) v (fl (fwU n x) u (fl (fwM n) x (fwI n m fr to w th be)))) ((12 * u) + v) ((fl (fwS x u) v (fl (fwU n x) u (fl (fwM n) x (fwI n m fr to w th be)))) ((12 * u) + v))) oe al pa bo rl ra mo) hx hb hK hP hD hS 5 3 rfl rfl (by omega) (by decide) rfl dX4_findBest_287 (fun H locs hP hD hS => ?_)
                                    refine lv_iinc (v := nI (v + 1)) (lv' := [(3, .int (nI (v + 1))), (6, .int (nI 0)), (4, .long (((fl (fwS x u) v (fl (fwU n x) u (fl (fwM n) x (fwI n m fr to w th be)))) ((12 * u) + x)) + ((fl (fwS x u) v (fl (fwU n x) u (fl (fwM n) x (fwI n m fr to w th be)))) ((12 * x) + v)))), (0, .ref (b 0)), (1, .int (nI x)), (2, .int (nI u))]) hx hb dX4_findBest_288 hl (k := 5) rfl (nI_1 v) (by decide) rfl (fun ls hl => ?_)
                                    refine lv_goto (tgt := 148) hx hb dX4_findBest_291 (by decide) ?_
                                    exact ih148 (v + 1) (by omega) (by omega)  _ _ (by rw [fl_s, fwS, fwV, if_neg c195, if_pos c213]; exact hP) hS ls (lv_sub hl [3, 4, 5, 0] rfl)
                                  · refine lv_lload hx hb dX4_findBest_217 (lv_at hl 0 rfl) ?_
                                    refine lv_aload_n hx hb dX4_findBest_219 rfl (lv_at hl 1 rfl) ?_
                                    refine va_get (D := D) (ci := 4) (v := .ref (b 5)) (C := RX4) (T := TX4) (N := 14) hx hb hts i4 hown hK hP 0 rfl rfl 6 (by decide) (hts (.fieldLink RX4 23 "SignedPathsModel" "best" "[J") (by decide +kernel)) (fun _ h9 => h9) rfl dX4_findBest_220 ?_
                                    refine lv_bipush (v := nI 12) hx hb dX4_findBest_223 (by decide) ?_
                                    refine lv_iload_n hx hb dX4_findBest_225 rfl (lv_at hl 3 rfl) ?_
                                    refine rn_imul hx hb  dX4_findBest_226 ?_
                                    refine lv_iload_n hx hb dX4_findBest_227 rfl (lv_at hl 4 rfl) ?_
                                    refine rn_iadd hx hb  dX4_findBest_228 ?_
                                    refine rn_lald (v := (fl (fwS x u) v (fl (fwU n x) u (fl (fwM n) x (fwI n m fr to w th be)))) ((12 * u) + v)) hx hb hK hP 5 3 rfl rfl (by omega) (by decide) rfl dX4_findBest_229 ?_
                                    refine rn_lcmp_ge (tgt := 238) hx hb dX4_findBest_230 dX4_findBest_231 (by decide) (fun c230 => ?_) (fun c230 => ?_)
                                    · refine lv_iconst (v := nI 0) hx hb dX4_findBest_238 (by decide) ?_
                                      refine lv_istore (lv' := [(6, .int (nI 0)), (4, .long (((fl (fwS x u) v (fl (fwU n x) u (fl (fwM n) x (fwI n m fr to w th be)))) ((12 * u) + x)) + ((fl (fwS x u) v (fl (fwU n x) u (fl (fwM n) x (fwI n m fr to w th be)))) ((12 * x) + v)))), (0, .ref (b 0)), (1, .int (nI x)), (2, .int (nI u)), (3, .int (nI v))]) hx hb dX4_findBest_239 hl (by decide) rfl (fun ls hl => ?_)
                                      refine lv_aload_n hx hb dX4_findBest_241 rfl (lv_at hl 2 rfl) ?_
                                      refine va_get (D := D) (ci := 4) (v := .ref (b 5)) (C := RX4) (T := TX4) (N := 14) hx hb hts i4 hown hK hP 0 rfl rfl 6 (by decide) (hts (.fieldLink RX4 23 "SignedPathsModel" "best" "[J") (by decide +kernel)) (fun _ h9 => h9) rfl dX4_findBest_242 ?_
                                      refine lv_bipush (v := nI 12) hx hb dX4_findBest_245 (by decide) ?_
                                      refine lv_iload_n hx hb dX4_findBest_247 rfl (lv_at hl 4 rfl) ?_
                                      refine rn_imul hx hb  dX4_findBest_248 ?_
                                      refine lv_iload_n hx hb dX4_findBest_249 rfl (lv_at hl 5 rfl) ?_
                                      refine rn_iadd hx hb  dX4_findBest_250 ?_
                                      refine lv_iload hx hb dX4_findBest_251 (lv_at hl 0 rfl) ?_
                                      refine lv_if_eq (tgt := 276) hx hb dX4_findBest_253 (by decide) (fun _ => ?_) (fun c => absurd (by decide) c)
                                      refine lv_aload_n hx hb dX4_findBest_276 rfl (lv_at hl 2 rfl) ?_
                                      refine va_get (D := D) (ci := 4) (v := .ref (b 5)) (C := RX4) (T := TX4) (N := 14) hx hb hts i4 hown hK hP 0 rfl rfl 6 (by decide) (hts (.fieldLink RX4 23 "SignedPathsModel" "best" "[J") (by decide +kernel)) (fun _ h9 => h9) rfl dX4_findBest_277 ?_
                                      refine lv_bipush (v := nI 12) hx hb dX4_findBest_280 (by decide) ?_
                                      refine lv_iload_n hx hb dX4_findBest_282 rfl (lv_at hl 4 rfl) ?_
                                      refine rn_imul hx hb  dX4_findBest_283 ?_
                                      refine lv_iload_n hx hb dX4_findBest_284 rfl (lv_at hl 5 rfl) ?_
                                      refine rn_iadd hx hb  dX4_findBest_285 ?_
                                      refine rn_lald (v := (fl (fwS x u) v (fl (fwU n x) u (fl (fwM n) x (fwI n m fr to w th be)))) ((12 * u) + v)) hx hb hK hP 5 3 rfl rfl (by omega) (by decide) rfl dX4_findBest_286 ?_
                                      refine rn_last (ws' := mW k b n m fr to w th (va_up (fl (fwS x u) v (fl (fwU n x) u (fl (fwM n) x (fwI n m fr to w th be)))) ((12 * u) + v) ((fl (fwS x u) v (fl (fwU n x) u (fl (fwM n) x (fwI n m fr to w th be)))) ((12 * u) + v))) oe al pa bo rl ra mo) hx hb hK hP hD hS 5 3 rfl rfl (by omega) (by decide) rfl dX4_findBest_287 (fun H locs hP hD hS => ?_)
                                      refine lv_iinc (v := nI (v + 1)) (lv' := [(3, .int (nI (v + 1))), (6, .int (nI 0)), (4, .long (((fl (fwS x u) v (fl (fwU n x) u (fl (fwM n) x (fwI n m fr to w th be)))) ((12 * u) + x)) + ((fl (fwS x u) v (fl (fwU n x) u (fl (fwM n) x (fwI n m fr to w th be)))) ((12 * x) + v)))), (0, .ref (b 0)), (1, .int (nI x)), (2, .int (nI u))]) hx hb dX4_findBest_288 hl (k := 5) rfl (nI_1 v) (by decide) rfl (fun ls hl => ?_)
                                      refine lv_goto (tgt := 148) hx hb dX4_findBest_291 (by decide) ?_
                                      exact ih148 (v + 1) (by omega) (by omega)  _ _ (by rw [fl_s, fwS, fwV, if_neg c195, if_neg c213, if_pos c230]; exact hP) hS ls (lv_sub hl [3, 4, 5, 0] rfl)
                                    · refine lv_iconst (v := nI 1) hx hb dX4_findBest_234 (by decide) ?_
                                      refine lv_goto (tgt := 239) hx hb dX4_findBest_235 (by decide) ?_
                                      refine lv_istore (lv' := [(6, .int (nI 1)), (4, .long (((fl (fwS x u) v (fl (fwU n x) u (fl (fwM n) x (fwI n m fr to w th be)))) ((12 * u) + x)) + ((fl (fwS x u) v (fl (fwU n x) u (fl (fwM n) x (fwI n m fr to w th be)))) ((12 * x) + v)))), (0, .ref (b 0)), (1, .int (nI x)), (2, .int (nI u)), (3, .int (nI v))]) hx hb dX4_findBest_239 hl (by decide) rfl (fun ls hl => ?_)
                                      refine lv_aload_n hx hb dX4_findBest_241 rfl (lv_at hl 2 rfl) ?_
                                      refine va_get (D := D) (ci := 4) (v := .ref (b 5)) (C := RX4) (T := TX4) (N := 14) hx hb hts i4 hown hK hP 0 rfl rfl 6 (by decide) (hts (.fieldLink RX4 23 "SignedPathsModel" "best" "[J") (by decide +kernel)) (fun _ h9 => h9) rfl dX4_findBest_242 ?_
                                      refine lv_bipush (v := nI 12) hx hb dX4_findBest_245 (by decide) ?_
                                      refine lv_iload_n hx hb dX4_findBest_247 rfl (lv_at hl 4 rfl) ?_
                                      refine rn_imul hx hb  dX4_findBest_248 ?_
                                      refine lv_iload_n hx hb dX4_findBest_249 rfl (lv_at hl 5 rfl) ?_
                                      refine rn_iadd hx hb  dX4_findBest_250 ?_
                                      refine lv_iload hx hb dX4_findBest_251 (lv_at hl 0 rfl) ?_
                                      refine lv_if_eq (tgt := 276) hx hb dX4_findBest_253 (by decide) (fun c => absurd c (by decide)) (fun _ => ?_)
                                      refine lv_lload hx hb dX4_findBest_256 (lv_at hl 1 rfl) ?_
                                      refine lv_ldc2 (v := (-1000000000000)) hx hb hown (hts (.constantLong RX4 70 (-1000000000000)) (by decide +kernel)) dX4_findBest_258 ?_
                                      refine rn_lcmp_ge (tgt := 271) hx hb dX4_findBest_261 dX4_findBest_262 (by decide) (fun c261 => ?_) (fun c261 => ?_)
                                      · refine lv_lload hx hb dX4_findBest_271 (lv_at hl 1 rfl) ?_
                                        refine lv_goto (tgt := 287) hx hb dX4_findBest_273 (by decide) ?_
                                        refine rn_last (ws' := mW k b n m fr to w th (va_up (fl (fwS x u) v (fl (fwU n x) u (fl (fwM n) x (fwI n m fr to w th be)))) ((12 * u) + v) (((fl (fwS x u) v (fl (fwU n x) u (fl (fwM n) x (fwI n m fr to w th be)))) ((12 * u) + x)) + ((fl (fwS x u) v (fl (fwU n x) u (fl (fwM n) x (fwI n m fr to w th be)))) ((12 * x) + v)))) oe al pa bo rl ra mo) hx hb hK hP hD hS 5 3 rfl rfl (by omega) (by decide) rfl dX4_findBest_287 (fun H locs hP hD hS => ?_)
                                        refine lv_iinc (v := nI (v + 1)) (lv' := [(3, .int (nI (v + 1))), (6, .int (nI 1)), (4, .long (((fl (fwS x u) v (fl (fwU n x) u (fl (fwM n) x (fwI n m fr to w th be)))) ((12 * u) + x)) + ((fl (fwS x u) v (fl (fwU n x) u (fl (fwM n) x (fwI n m fr to w th be)))) ((12 * x) + v)))), (0, .ref (b 0)), (1, .int (nI x)), (2, .int (nI u))]) hx hb dX4_findBest_288 hl (k := 5) rfl (nI_1 v) (by decide) rfl (fun ls hl => ?_)
                                        refine lv_goto (tgt := 148) hx hb dX4_findBest_291 (by decide) ?_
                                        exact ih148 (v + 1) (by omega) (by omega)  _ _ (by rw [fl_s, fwS, fwV, if_neg c195, if_neg c213, if_neg c230, if_pos c261]; exact hP) hS ls (lv_sub hl [3, 4, 5, 0] rfl)
                                      · refine lv_ldc2 (v := (-1000000000000)) hx hb hown (hts (.constantLong RX4 70 (-1000000000000)) (by decide +kernel)) dX4_findBest_265 ?_
                                        refine lv_goto (tgt := 287) hx hb dX4_findBest_268 (by decide) ?_
                                        refine rn_last (ws' := mW k b n m fr to w th (va_up (fl (fwS x u) v (fl (fwU n x) u (fl (fwM n) x (fwI n m fr to w th be)))) ((12 * u) + v) (-1000000000000)) oe al pa bo rl ra mo) hx hb hK hP hD hS 5 3 rfl rfl (by omega) (by decide) rfl dX4_findBest_287 (fun H locs hP hD hS => ?_)
                                        refine lv_iinc (v := nI (v + 1)) (lv' := [(3, .int (nI (v + 1))), (6, .int (nI 1)), (4, .long (((fl (fwS x u) v (fl (fwU n x) u (fl (fwM n) x (fwI n m fr to w th be)))) ((12 * u) + x)) + ((fl (fwS x u) v (fl (fwU n x) u (fl (fwM n) x (fwI n m fr to w th be)))) ((12 * x) + v)))), (0, .ref (b 0)), (1, .int (nI x)), (2, .int (nI u))]) hx hb dX4_findBest_288 hl (k := 5) rfl (nI_1 v) (by decide) rfl (fun ls hl => ?_)
                                        refine lv_goto (tgt := 148) hx hb dX4_findBest_291 (by decide) ?_
                                        exact ih148 (v + 1) (by omega) (by omega)  _ _ (by rw [fl_s, fwS, fwV, if_neg c195, if_neg c213, if_neg c230, if_neg c261]; exact hP) hS ls (lv_sub hl [3, 4, 5, 0] rfl)
                          exact key148 (n + 1) 0 (by omega) (by omega)  _ _ (hP) hS ls (lv_sub hl [1, 2, 3, 0] rfl)
                    exact key138 (n + 1) 0 (by omega) (by omega)  _ _ (hP) hS ls (lv_sub hl [1, 2, 0] rfl)
              exact key128 (n + 1) 0 (by omega) (by omega)  _ _ (by have e : i = m := (by omega); rw [e] at hP; exact hP) hS ls (lv_sub hl [1, 0] rfl)
            · have hi2 := hft i c50
              refine lv_bipush (v := nI 12) hx hb dX4_findBest_53 (by decide) ?_
              refine lv_aload_n hx hb dX4_findBest_55 rfl (lv_at hl 0 rfl) ?_
              refine va_get (D := D) (ci := 4) (v := .ref (b 1)) (C := RX4) (T := TX4) (N := 14) hx hb hts i4 hown hK hP 0 rfl rfl 2 (by decide) (hts (.fieldLink RX4 7 "SignedPathsModel" "from" "[I") (by decide +kernel)) (fun _ h9 => h9) rfl dX4_findBest_56 ?_
              refine lv_iload_n hx hb dX4_findBest_59 rfl (lv_at hl 1 rfl) ?_
              refine rn_iald (v := nI (fr i)) hx hb hK hP 1 0 rfl rfl (by omega) (by decide) rfl dX4_findBest_60 ?_
              refine rn_imul hx hb  dX4_findBest_61 ?_
              refine lv_aload_n hx hb dX4_findBest_62 rfl (lv_at hl 0 rfl) ?_
              refine va_get (D := D) (ci := 4) (v := .ref (b 2)) (C := RX4) (T := TX4) (N := 14) hx hb hts i4 hown hK hP 0 rfl rfl 3 (by decide) (hts (.fieldLink RX4 13 "SignedPathsModel" "to" "[I") (by decide +kernel)) (fun _ h9 => h9) rfl dX4_findBest_63 ?_
              refine lv_iload_n hx hb dX4_findBest_66 rfl (lv_at hl 1 rfl) ?_
              refine rn_iald (v := nI (to i)) hx hb hK hP 2 0 rfl rfl (by omega) (by decide) rfl dX4_findBest_67 ?_
              refine rn_iadd hx hb  dX4_findBest_68 ?_
              refine lv_istore_n (lv' := [(2, .int (nI ((12 * (fr i)) + (to i)))), (0, .ref (b 0)), (1, .int (nI i))]) hx hb dX4_findBest_69 rfl hl (by decide) rfl (fun ls hl => ?_)
              refine lv_ldc2 (v := 1000) hx hb hown (hts (.constantLong RX4 68 1000) (by decide +kernel)) dX4_findBest_70 ?_
              refine lv_aload_n hx hb dX4_findBest_73 rfl (lv_at hl 1 rfl) ?_
              refine va_get (D := D) (ci := 4) (v := .ref (b 3)) (C := RX4) (T := TX4) (N := 14) hx hb hts i4 hown hK hP 0 rfl rfl 4 (by decide) (hts (.fieldLink RX4 16 "SignedPathsModel" "weight" "[I") (by decide +kernel)) (fun _ h9 => h9) rfl dX4_findBest_74 ?_
              refine lv_iload_n hx hb dX4_findBest_77 rfl (lv_at hl 2 rfl) ?_
              refine rn_iald (v := w i) hx hb hK hP 3 0 rfl rfl (by omega) (by decide) rfl dX4_findBest_78 ?_
              refine lv_i2l (v := (w i).toInt64) hx hb dX4_findBest_79 rfl ?_
              refine lv_lmul hx hb dX4_findBest_80  ?_
              refine lv_lconst (v := 1) hx hb dX4_findBest_81 (by decide) ?_
              refine lv_ladd hx hb dX4_findBest_82  ?_
              refine lv_lstore_n (lv' := [(3, .long ((1000 * ((w i).toInt64)) + 1)), (2, .int (nI ((12 * (fr i)) + (to i)))), (0, .ref (b 0)), (1, .int (nI i))]) hx hb dX4_findBest_83 rfl hl (by decide) rfl (fun ls hl => ?_)
              refine lv_aload_n hx hb dX4_findBest_84 rfl (lv_at hl 2 rfl) ?_
              refine va_get (D := D) (ci := 4) (v := .ref (b 5)) (C := RX4) (T := TX4) (N := 14) hx hb hts i4 hown hK hP 0 rfl rfl 6 (by decide) (hts (.fieldLink RX4 23 "SignedPathsModel" "best" "[J") (by decide +kernel)) (fun _ h9 => h9) rfl dX4_findBest_85 ?_
              refine lv_iload_n hx hb dX4_findBest_88 rfl (lv_at hl 1 rfl) ?_
              refine lv_aload_n hx hb dX4_findBest_89 rfl (lv_at hl 2 rfl) ?_
              refine va_get (D := D) (ci := 4) (v := .ref (b 4)) (C := RX4) (T := TX4) (N := 14) hx hb hts i4 hown hK hP 0 rfl rfl 5 (by decide) (hts (.fieldLink RX4 19 "SignedPathsModel" "isThere" "[Z") (by decide +kernel)) (fun _ h9 => h9) rfl dX4_findBest_90 ?_
              refine lv_iload_n hx hb dX4_findBest_93 rfl (lv_at hl 3 rfl) ?_
              refine rn_zald (v := bI (th i)) hx hb hK hP 4 1 rfl rfl (by omega) (by decide) rfl dX4_findBest_94 ?_
              refine rn_ifeqb (tgt := 113) hx hb dX4_findBest_95 (by decide) (fun c95 => ?_) (fun c95 => ?_)
              · refine lv_aload_n hx hb dX4_findBest_113 rfl (lv_at hl 2 rfl) ?_
                refine va_get (D := D) (ci := 4) (v := .ref (b 5)) (C := RX4) (T := TX4) (N := 14) hx hb hts i4 hown hK hP 0 rfl rfl 6 (by decide) (hts (.fieldLink RX4 23 "SignedPathsModel" "best" "[J") (by decide +kernel)) (fun _ h9 => h9) rfl dX4_findBest_114 ?_
                refine lv_iload_n hx hb dX4_findBest_117 rfl (lv_at hl 1 rfl) ?_
                refine rn_lald (v := (fl (fb2 fr to w th) i (fl fb1 (n * 12) be)) ((12 * (fr i)) + (to i))) hx hb hK hP 5 3 rfl rfl (by omega) (by decide) rfl dX4_findBest_118 ?_
                refine rn_last (ws' := mW k b n m fr to w th (va_up (fl (fb2 fr to w th) i (fl fb1 (n * 12) be)) ((12 * (fr i)) + (to i)) ((fl (fb2 fr to w th) i (fl fb1 (n * 12) be)) ((12 * (fr i)) + (to i)))) oe al pa bo rl ra mo) hx hb hK hP hD hS 5 3 rfl rfl (by omega) (by decide) rfl dX4_findBest_119 (fun H locs hP hD hS => ?_)
                refine lv_iinc (v := nI (i + 1)) (lv' := [(1, .int (nI (i + 1))), (3, .long ((1000 * ((w i).toInt64)) + 1)), (2, .int (nI ((12 * (fr i)) + (to i)))), (0, .ref (b 0))]) hx hb dX4_findBest_120 hl (k := 3) rfl (nI_1 i) (by decide) rfl (fun ls hl => ?_)
                refine lv_goto (tgt := 45) hx hb dX4_findBest_123 (by decide) ?_
                exact ih45 (i + 1) (by omega) (by omega)  _ _ (by rw [fl_s, fb2, if_neg (by simp [c95])]; exact hP) hS ls (lv_sub hl [3, 0] rfl)
              · refine lv_lload_n hx hb dX4_findBest_98 rfl (lv_at hl 0 rfl) ?_
                refine lv_aload_n hx hb dX4_findBest_99 rfl (lv_at hl 2 rfl) ?_
                refine va_get (D := D) (ci := 4) (v := .ref (b 5)) (C := RX4) (T := TX4) (N := 14) hx hb hts i4 hown hK hP 0 rfl rfl 6 (by decide) (hts (.fieldLink RX4 23 "SignedPathsModel" "best" "[J") (by decide +kernel)) (fun _ h9 => h9) rfl dX4_findBest_100 ?_
                refine lv_iload_n hx hb dX4_findBest_103 rfl (lv_at hl 1 rfl) ?_
                refine rn_lald (v := (fl (fb2 fr to w th) i (fl fb1 (n * 12) be)) ((12 * (fr i)) + (to i))) hx hb hK hP 5 3 rfl rfl (by omega) (by decide) rfl dX4_findBest_104 ?_
                refine rn_lcmp_ge (tgt := 113) hx hb dX4_findBest_105 dX4_findBest_106 (by decide) (fun c105 => ?_) (fun c105 => ?_)
                · refine lv_aload_n hx hb dX4_findBest_113 rfl (lv_at hl 2 rfl) ?_
                  refine va_get (D := D) (ci := 4) (v := .ref (b 5)) (C := RX4) (T := TX4) (N := 14) hx hb hts i4 hown hK hP 0 rfl rfl 6 (by decide) (hts (.fieldLink RX4 23 "SignedPathsModel" "best" "[J") (by decide +kernel)) (fun _ h9 => h9) rfl dX4_findBest_114 ?_
                  refine lv_iload_n hx hb dX4_findBest_117 rfl (lv_at hl 1 rfl) ?_
                  refine rn_lald (v := (fl (fb2 fr to w th) i (fl fb1 (n * 12) be)) ((12 * (fr i)) + (to i))) hx hb hK hP 5 3 rfl rfl (by omega) (by decide) rfl dX4_findBest_118 ?_
                  refine rn_last (ws' := mW k b n m fr to w th (va_up (fl (fb2 fr to w th) i (fl fb1 (n * 12) be)) ((12 * (fr i)) + (to i)) ((fl (fb2 fr to w th) i (fl fb1 (n * 12) be)) ((12 * (fr i)) + (to i)))) oe al pa bo rl ra mo) hx hb hK hP hD hS 5 3 rfl rfl (by omega) (by decide) rfl dX4_findBest_119 (fun H locs hP hD hS => ?_)
                  refine lv_iinc (v := nI (i + 1)) (lv' := [(1, .int (nI (i + 1))), (3, .long ((1000 * ((w i).toInt64)) + 1)), (2, .int (nI ((12 * (fr i)) + (to i)))), (0, .ref (b 0))]) hx hb dX4_findBest_120 hl (k := 3) rfl (nI_1 i) (by decide) rfl (fun ls hl => ?_)
                  refine lv_goto (tgt := 45) hx hb dX4_findBest_123 (by decide) ?_
                  exact ih45 (i + 1) (by omega) (by omega)  _ _ (by rw [fl_s, fb2, if_pos c95, if_pos c105]; exact hP) hS ls (lv_sub hl [3, 0] rfl)
                · refine lv_lload_n hx hb dX4_findBest_109 rfl (lv_at hl 0 rfl) ?_
                  refine lv_goto (tgt := 119) hx hb dX4_findBest_110 (by decide) ?_
                  refine rn_last (ws' := mW k b n m fr to w th (va_up (fl (fb2 fr to w th) i (fl fb1 (n * 12) be)) ((12 * (fr i)) + (to i)) ((1000 * ((w i).toInt64)) + 1)) oe al pa bo rl ra mo) hx hb hK hP hD hS 5 3 rfl rfl (by omega) (by decide) rfl dX4_findBest_119 (fun H locs hP hD hS => ?_)
                  refine lv_iinc (v := nI (i + 1)) (lv' := [(1, .int (nI (i + 1))), (3, .long ((1000 * ((w i).toInt64)) + 1)), (2, .int (nI ((12 * (fr i)) + (to i)))), (0, .ref (b 0))]) hx hb dX4_findBest_120 hl (k := 3) rfl (nI_1 i) (by decide) rfl (fun ls hl => ?_)
                  refine lv_goto (tgt := 45) hx hb dX4_findBest_123 (by decide) ?_
                  exact ih45 (i + 1) (by omega) (by omega)  _ _ (by rw [fl_s, fb2, if_pos c95, if_neg c105]; exact hP) hS ls (lv_sub hl [3, 0] rfl)
        exact key45 (m + 1) 0 (by omega) (by omega)  _ _ (by have e : i = n * 12 := (by omega); rw [e] at hP; exact hP) hS ls (lv_sub hl [1, 0] rfl)
      · refine lv_aload_n hx hb dX4_findBest_13 rfl (lv_at hl 0 rfl) ?_
        refine va_get (D := D) (ci := 4) (v := .ref (b 5)) (C := RX4) (T := TX4) (N := 14) hx hb hts i4 hown hK hP 0 rfl rfl 6 (by decide) (hts (.fieldLink RX4 23 "SignedPathsModel" "best" "[J") (by decide +kernel)) (fun _ h9 => h9) rfl dX4_findBest_14 ?_
        refine lv_iload_n hx hb dX4_findBest_17 rfl (lv_at hl 1 rfl) ?_
        refine lv_iload_n hx hb dX4_findBest_18 rfl (lv_at hl 1 rfl) ?_
        refine lv_bipush (v := nI 12) hx hb dX4_findBest_19 (by decide) ?_
        refine rn_idiv hx hb (by omega) (by omega) (by omega) dX4_findBest_21 ?_
        refine lv_iload_n hx hb dX4_findBest_22 rfl (lv_at hl 1 rfl) ?_
        refine lv_bipush (v := nI 12) hx hb dX4_findBest_23 (by decide) ?_
        refine rn_irem hx hb (by omega) (by omega) (by omega) dX4_findBest_25 ?_
        refine rn_icmp_ne (tgt := 33) hx hb dX4_findBest_26 (by decide) (by omega) (by omega) (fun c26 => ?_) (fun c26 => ?_)
        · refine lv_ldc2 (v := 1000000000000) hx hb hown (hts (.constantLong RX4 66 1000000000000) (by decide +kernel)) dX4_findBest_33 ?_
          refine rn_last (ws' := mW k b n m fr to w th (va_up (fl fb1 i be) i 1000000000000) oe al pa bo rl ra mo) hx hb hK hP hD hS 5 3 rfl rfl (by omega) (by decide) rfl dX4_findBest_36 (fun H locs hP hD hS => ?_)
          refine lv_iinc (v := nI (i + 1)) (lv' := [(1, .int (nI (i + 1))), (0, .ref (b 0))]) hx hb dX4_findBest_37 hl (k := 1) rfl (nI_1 i) (by decide) rfl (fun ls hl => ?_)
          refine lv_goto (tgt := 2) hx hb dX4_findBest_40 (by decide) ?_
          exact ih2 (i + 1) (by omega) (by omega)  _ _ (by rw [fl_s, fb1, if_neg c26]; exact hP) hS ls (lv_sub hl [1, 0] rfl)
        · refine lv_lconst (v := 0) hx hb dX4_findBest_29 (by decide) ?_
          refine lv_goto (tgt := 36) hx hb dX4_findBest_30 (by decide) ?_
          refine rn_last (ws' := mW k b n m fr to w th (va_up (fl fb1 i be) i 0) oe al pa bo rl ra mo) hx hb hK hP hD hS 5 3 rfl rfl (by omega) (by decide) rfl dX4_findBest_36 (fun H locs hP hD hS => ?_)
          refine lv_iinc (v := nI (i + 1)) (lv' := [(1, .int (nI (i + 1))), (0, .ref (b 0))]) hx hb dX4_findBest_37 hl (k := 1) rfl (nI_1 i) (by decide) rfl (fun ls hl => ?_)
          refine lv_goto (tgt := 2) hx hb dX4_findBest_40 (by decide) ?_
          exact ih2 (i + 1) (by omega) (by omega)  _ _ (by rw [fl_s, fb1, if_pos c26]; exact hP) hS ls (lv_sub hl [1, 0] rfl)
  exact key2 (n * 12 + 1) 0 (by omega) (by omega)  _ _ (hP) hS ls (lv_sub hl [1, 0] rfl)
set_option maxHeartbeats 4000000 in
set_option maxRecDepth 100000 in
theorem c4_isFalling (l : Launch) {D : va_G} {k : Nat → ClassId} {b : Nat → Nat} {n : Nat} {m : Nat} {fr : Nat → Nat} {to : Nat → Nat} {w : Nat → Int32} {th : Nat → Bool} {be : Nat → Int64} {oe : Nat → Int64} {al : Nat → Int64} {pa : Nat → Int64} {bo : Nat → Int64} {rl : Nat} {ra : Nat → Nat} {mo : Nat → Int64} (ha : inj 12 b)  (hg : gOK n m fr to) : Met l yX4_isFalling wsX4_isFalling ({ frames := 1, cells := 0, slots := 0, locals := 26 }) (gPc D k (mW k b n m fr to w th be oe al pa bo rl ra mo) [.ref (b 0)]) (va_Qi (S := Int32) (fun r u => u = r ∧ (r = bI (flB n (fwB n m fr to w th be)))) (fun _ t => va_P D vwCl (mW k b n m fr to w th (fwB n m fr to w th be) oe al pa bo rl ra mo) t.heap) (mA b)) 0 0 (mA b) := by
  refine Met.ofW (cc := cX4_isFalling) (maxL := 3) (ret := (some .boolean)) (by decide) rfl ?_
  intro p e s mt args below meth c s₁ B hml hv
  obtain ⟨rfl, hP, hK⟩ := hv
  have hx := B.exec
  have hb := B.bytes
  have hr := B.returns
  have hts := atoms_spec (ws := wsX4_isFalling) B.pre
  have hown : s.vm.findClass RX4 = some mt.cls := findClass_of_methodNamed B.named
  have hlocks := B.notSynchronized
  have i4 : ∀ w ∈ wsX40, w ∈ wsX4_isFalling := by decide +kernel
  have hS : va_S (mA b) s.heap s.heap [] := va_S.rf
  have hD : va_D (mA b) (mW k b n m fr to w th be oe al pa bo rl ra mo) := mW_D ha
  have hl := lv_entry ([.ref (b 0)]) (n := 3) (Nat.le_of_ble_eq_true rfl)
  rw [lg_entry_eq]
  generalize (lg_sl ([.ref (b 0)]) ++ List.replicate (3 - (lg_sl ([.ref (b 0)])).length) Slot.unset).toArray = ls at hl ⊢
  have hl : lv_has ls 3 [(0, .ref (b 0))] := hl
  obtain ⟨Q, hQ⟩ : ∃ Q, Q = MQ below (va_Qi (S := Int32) (fun r u => u = r ∧ (r = bI (flB n (fwB n m fr to w th be)))) (fun _ t => va_P D vwCl (mW k b n m fr to w th (fwB n m fr to w th be) oe al pa bo rl ra mo) t.heap) (mA b)) ([.ref (b 0)] : List Value).toArray s 0 0 (mA b) := ⟨_, rfl⟩
  rw [← hQ]
  obtain ⟨hn12, hm40, hft⟩ := id hg
  refine lv_aload_n hx hb dX4_isFalling_0 rfl (lv_at hl 0 rfl) ?_
  refine cl_Qv (As := []) (rest := []) ⟨hx, hb, hml, hown, hts⟩ (c4_findBest l ha  hg) (cwV 0 hts gX4_isFalling_X4_findBest rfl rfl rfl (by decide +kernel) ⟨Nat.le_of_ble_eq_true rfl, Nat.le_of_ble_eq_true rfl⟩) hK hP hS (fun _ h => h) (ci := 4) (q0 := 0) rfl rfl rfl rfl hl.1 rfl (Nat.le_of_ble_eq_true rfl) dX4_isFalling_1 ⟨Nat.zero_le _, Nat.zero_le _⟩ (fun H locs h1 hP _ _ hS => ?_)
  have hP : va_P D vwCl (mW k b n m fr to w th (fwB n m fr to w th be) oe al pa bo rl ra mo) H := hP
  have hD : va_D (mA b) (mW k b n m fr to w th (fwB n m fr to w th be) oe al pa bo rl ra mo) := mW_D ha
  refine lv_iconst (v := bI false) hx hb dX4_isFalling_4 (by decide) ?_
  refine lv_istore_n (lv' := [(1, .int (bI false)), (0, .ref (b 0))]) hx hb dX4_isFalling_5 rfl hl (by decide) rfl (fun ls hl => ?_)
  refine lv_iconst (v := nI 0) hx hb dX4_isFalling_6 (by decide) ?_
  refine lv_istore_n (lv' := [(2, .int (nI 0)), (1, .int (bI false)), (0, .ref (b 0))]) hx hb dX4_isFalling_7 rfl hl (by decide) rfl (fun ls hl => ?_)
  have key8 : ∀ (f8 i : Nat), n + 1 ≤ i + f8 → i ≤ n → ∀ (H : Heap) (locs : List Loc), va_P D vwCl (mW k b n m fr to w th (fwB n m fr to w th be) oe al pa bo rl ra mo) H → va_S (mA b) s.heap H locs → ∀ (ls : Array Slot), lv_has ls 3 [(0, .ref (b 0)), (1, .int (bI (anyF (bnP (fwB n m fr to w th be)) i))), (2, .int (nI i))] → W p l e (headSpec wsX4_isFalling { frames := 1, cells := 0, slots := 0, locals := 26 }).room s mt ([.ref (b 0)] : List Value).toArray below meth c H locs 0 0 Q (F0 mt 8 ls []) := by
    intro f8
    induction f8 with
    | zero => intro i h1 h2; exact absurd h1 (by omega)
    | succ f8 ih8 =>
      intro i hf8 hi8   H locs hP hS ls hl
      have hD : va_D (mA b) (mW k b n m fr to w th (fwB n m fr to w th be) oe al pa bo rl ra mo) := mW_D ha
      refine lv_iload_n hx hb dX4_isFalling_8 rfl (lv_at hl 2 rfl) ?_
      refine lv_aload_n hx hb dX4_isFalling_9 rfl (lv_at hl 0 rfl) ?_
      refine va_get (D := D) (ci := 4) (v := .int (nI n)) (C := RX4) (T := TX4) (N := 14) hx hb hts i4 hown hK hP 0 rfl rfl 0 (by decide) (hts (.fieldLink RX4 45 "SignedPathsModel" "n" "I") (by decide +kernel)) (fun _ h9 => h9) rfl dX4_isFalling_10 ?_
      refine rn_icmp_ge (tgt := 48) hx hb dX4_isFalling_13 (by decide) (by omega) (by omega) (fun c13 => ?_) (fun c13 => ?_)
      · refine lv_iload_n hx hb dX4_isFalling_48 rfl (lv_at hl 1 rfl) ?_
        rw [hQ]
        exact W.zret (v := bI (anyF (bnP (fwB n m fr to w th be)) i)) hx hb hr (bI_n2 _) (fun t ht hW => ⟨⟨_, _, rfl, ⟨rfl, (by have e : i = n := (by omega); rw [e]; rfl)⟩, by show va_P D vwCl (mW k b n m fr to w th (fwB n m fr to w th be) oe al pa bo rl ra mo) t.heap; rw [ht]; exact hP⟩, hS.F ht⟩) hS.2.2 dX4_isFalling_49
      · refine lv_iload_n hx hb dX4_isFalling_16 rfl (lv_at hl 1 rfl) ?_
        refine rn_ifneb (tgt := 36) hx hb dX4_isFalling_17 (by decide) (fun c17 => ?_) (fun c17 => ?_)
        · refine lv_iconst (v := bI true) hx hb dX4_isFalling_36 (by decide) ?_
          refine lv_goto (tgt := 41) hx hb dX4_isFalling_37 (by decide) ?_
          refine lv_istore_n (lv' := [(1, .int (bI true)), (0, .ref (b 0)), (2, .int (nI i))]) hx hb dX4_isFalling_41 rfl hl (by decide) rfl (fun ls hl => ?_)
          refine lv_iinc (v := nI (i + 1)) (lv' := [(2, .int (nI (i + 1))), (1, .int (bI true)), (0, .ref (b 0))]) hx hb dX4_isFalling_42 hl (k := 2) rfl (nI_1 i) (by decide) rfl (fun ls hl => ?_)
          refine lv_goto (tgt := 8) hx hb dX4_isFalling_45 (by decide) ?_
          have anq : anyF (bnP (fwB n m fr to w th be)) (i + 1) = true := by simp [anyF, c17]
          exact ih8 (i + 1) (by omega) (by omega)  _ _ (hP) hS ls (lv_sub hl [2, 1, 0] (by rw [anq]; rfl))
        · refine lv_aload_n hx hb dX4_isFalling_20 rfl (lv_at hl 0 rfl) ?_
          refine va_get (D := D) (ci := 4) (v := .ref (b 5)) (C := RX4) (T := TX4) (N := 14) hx hb hts i4 hown hK hP 0 rfl rfl 6 (by decide) (hts (.fieldLink RX4 23 "SignedPathsModel" "best" "[J") (by decide +kernel)) (fun _ h9 => h9) rfl dX4_isFalling_21 ?_
          refine lv_bipush (v := nI 12) hx hb dX4_isFalling_24 (by decide) ?_
          refine lv_iload_n hx hb dX4_isFalling_26 rfl (lv_at hl 2 rfl) ?_
          refine rn_imul hx hb  dX4_isFalling_27 ?_
          refine lv_iload_n hx hb dX4_isFalling_28 rfl (lv_at hl 2 rfl) ?_
          refine rn_iadd hx hb  dX4_isFalling_29 ?_
          refine rn_lald (v := (fwB n m fr to w th be) ((12 * i) + i)) hx hb hK hP 5 3 rfl rfl (by omega) (by decide) rfl dX4_isFalling_30 ?_
          refine lv_lconst (v := 0) hx hb dX4_isFalling_31 (by decide) ?_
          refine rn_lcmp_ge (tgt := 40) hx hb dX4_isFalling_32 dX4_isFalling_33 (by decide) (fun c32 => ?_) (fun c32 => ?_)
          · refine lv_iconst (v := bI false) hx hb dX4_isFalling_40 (by decide) ?_
            refine lv_istore_n (lv' := [(1, .int (bI false)), (0, .ref (b 0)), (2, .int (nI i))]) hx hb dX4_isFalling_41 rfl hl (by decide) rfl (fun ls hl => ?_)
            refine lv_iinc (v := nI (i + 1)) (lv' := [(2, .int (nI (i + 1))), (1, .int (bI false)), (0, .ref (b 0))]) hx hb dX4_isFalling_42 hl (k := 2) rfl (nI_1 i) (by decide) rfl (fun ls hl => ?_)
            refine lv_goto (tgt := 8) hx hb dX4_isFalling_45 (by decide) ?_
            have anq : anyF (bnP (fwB n m fr to w th be)) (i + 1) = false := by simp [anyF, c17, bnP, c32]
            exact ih8 (i + 1) (by omega) (by omega)  _ _ (hP) hS ls (lv_sub hl [2, 1, 0] (by rw [anq]; rfl))
          · refine lv_iconst (v := bI true) hx hb dX4_isFalling_36 (by decide) ?_
            refine lv_goto (tgt := 41) hx hb dX4_isFalling_37 (by decide) ?_
            refine lv_istore_n (lv' := [(1, .int (bI true)), (0, .ref (b 0)), (2, .int (nI i))]) hx hb dX4_isFalling_41 rfl hl (by decide) rfl (fun ls hl => ?_)
            refine lv_iinc (v := nI (i + 1)) (lv' := [(2, .int (nI (i + 1))), (1, .int (bI true)), (0, .ref (b 0))]) hx hb dX4_isFalling_42 hl (k := 2) rfl (nI_1 i) (by decide) rfl (fun ls hl => ?_)
            refine lv_goto (tgt := 8) hx hb dX4_isFalling_45 (by decide) ?_
            have anq : anyF (bnP (fwB n m fr to w th be)) (i + 1) = true := by simp [anyF, c17, bnP, c32]
            exact ih8 (i + 1) (by omega) (by omega)  _ _ (hP) hS ls (lv_sub hl [2, 1, 0] (by rw [anq]; rfl))
  exact key8 (n + 1) 0 (by omega) (by omega)  _ _ (hP) hS ls (lv_sub hl [2, 1, 0] rfl)
set_option maxHeartbeats 4000000 in
set_option maxRecDepth 100000 in
theorem c4_isBottomless (l : Launch) {D : va_G} {k : Nat → ClassId} {b : Nat → Nat} {n : Nat} {m : Nat} {fr : Nat → Nat} {to : Nat → Nat} {w : Nat → Int32} {th : Nat → Bool} {be : Nat → Int64} {oe : Nat → Int64} {al : Nat → Int64} {pa : Nat → Int64} {bo : Nat → Int64} {rl : Nat} {ra : Nat → Nat} {mo : Nat → Int64} (ha : inj 12 b) (u : Nat) (v : Nat) (hg : gOK n m fr to) (hu : u < 12) (hv : v < 12) : Met l yX4_isBottomless wsX4_isBottomless ({ frames := 0, cells := 0, slots := 0, locals := 0 }) (gPc D k (mW k b n m fr to w th be oe al pa bo rl ra mo) [.ref (b 0), .int (nI u), .int (nI v)]) (vp_Si (fun r => r = bI (anyF (bbP be u v) n))) 0 0 nF := by
  refine Met.ofW (cc := cX4_isBottomless) (maxL := 5) (ret := (some .boolean)) (by decide) rfl ?_
  intro p e s mt args below meth c s₁ B hml hv
  obtain ⟨rfl, hP, hK⟩ := hv
  have hx := B.exec
  have hb := B.bytes
  have hr := B.returns
  have hts := atoms_spec (ws := wsX4_isBottomless) B.pre
  have hown : s.vm.findClass RX4 = some mt.cls := findClass_of_methodNamed B.named
  have hlocks := B.notSynchronized
  have i4 : ∀ w ∈ wsX40, w ∈ wsX4_isBottomless := by decide +kernel
  have hl := lv_entry ([.ref (b 0), .int (nI u), .int (nI v)]) (n := 5) (Nat.le_of_ble_eq_true rfl)
  rw [lg_entry_eq]
  generalize (lg_sl ([.ref (b 0), .int (nI u), .int (nI v)]) ++ List.replicate (5 - (lg_sl ([.ref (b 0), .int (nI u), .int (nI v)])).length) Slot.unset).toArray = ls at hl ⊢
  have hl : lv_has ls 5 [(0, .ref (b 0)), (1, .int (nI u)), (2, .int (nI v))] := hl
  obtain ⟨Q, hQ⟩ : ∃ Q, Q = MQ below (vp_Si (fun r => r = bI (anyF (bbP be u v) n))) ([.ref (b 0), .int (nI u), .int (nI v)] : List Value).toArray s 0 0 nF := ⟨_, rfl⟩
  rw [← hQ]
  obtain ⟨hn12, hm40, hft⟩ := id hg
  refine lv_iconst (v := bI false) hx hb dX4_isBottomless_0 (by decide) ?_
  refine lv_istore_n (lv' := [(3, .int (bI false)), (0, .ref (b 0)), (1, .int (nI u)), (2, .int (nI v))]) hx hb dX4_isBottomless_1 rfl hl (by decide) rfl (fun ls hl => ?_)
  refine lv_iconst (v := nI 0) hx hb dX4_isBottomless_2 (by decide) ?_
  refine lv_istore (lv' := [(4, .int (nI 0)), (3, .int (bI false)), (0, .ref (b 0)), (1, .int (nI u)), (2, .int (nI v))]) hx hb dX4_isBottomless_3 hl (by decide) rfl (fun ls hl => ?_)
  have key5 : ∀ (f5 i : Nat), n + 1 ≤ i + f5 → i ≤ n → ∀ (ls : Array Slot), lv_has ls 5 [(0, .ref (b 0)), (1, .int (nI u)), (2, .int (nI v)), (3, .int (bI (anyF (bbP be u v) i))), (4, .int (nI i))] → W p l e (headSpec wsX4_isBottomless { frames := 0, cells := 0, slots := 0, locals := 0 }).room s mt ([.ref (b 0), .int (nI u), .int (nI v)] : List Value).toArray below meth c s.heap [] 0 0 Q (F0 mt 5 ls []) := by
    intro f5
    induction f5 with
    | zero => intro i h1 h2; exact absurd h1 (by omega)
    | succ f5 ih5 =>
      intro i hf5 hi5   ls hl
      refine lv_iload hx hb dX4_isBottomless_5 (lv_at hl 4 rfl) ?_
      refine lv_aload_n hx hb dX4_isBottomless_7 rfl (lv_at hl 0 rfl) ?_
      refine va_get (D := D) (ci := 4) (v := .int (nI n)) (C := RX4) (T := TX4) (N := 14) hx hb hts i4 hown hK hP 0 rfl rfl 0 (by decide) (hts (.fieldLink RX4 45 "SignedPathsModel" "n" "I") (by decide +kernel)) (fun _ h9 => h9) rfl dX4_isBottomless_8 ?_
      refine rn_icmp_ge (tgt := 86) hx hb dX4_isBottomless_11 (by decide) (by omega) (by omega) (fun c11 => ?_) (fun c11 => ?_)
      · refine lv_iload_n hx hb dX4_isBottomless_86 rfl (lv_at hl 3 rfl) ?_
        rw [hQ]
        exact W.zret (v := bI (anyF (bbP be u v) i)) hx hb hr (bI_n2 _) (fun t ht hW => ⟨_, rfl, (by have e : i = n := (by omega); rw [e]), ht⟩) (fun q h => absurd h List.not_mem_nil) dX4_isBottomless_87
      · refine lv_iload_n hx hb dX4_isBottomless_14 rfl (lv_at hl 3 rfl) ?_
        refine rn_ifneb (tgt := 74) hx hb dX4_isBottomless_15 (by decide) (fun c15 => ?_) (fun c15 => ?_)
        · refine lv_iconst (v := bI true) hx hb dX4_isBottomless_74 (by decide) ?_
          refine lv_goto (tgt := 79) hx hb dX4_isBottomless_75 (by decide) ?_
          refine lv_istore_n (lv' := [(3, .int (bI true)), (0, .ref (b 0)), (1, .int (nI u)), (2, .int (nI v)), (4, .int (nI i))]) hx hb dX4_isBottomless_79 rfl hl (by decide) rfl (fun ls hl => ?_)
          refine lv_iinc (v := nI (i + 1)) (lv' := [(4, .int (nI (i + 1))), (3, .int (bI true)), (0, .ref (b 0)), (1, .int (nI u)), (2, .int (nI v))]) hx hb dX4_isBottomless_80 hl (k := 4) rfl (nI_1 i) (by decide) rfl (fun ls hl => ?_)
          refine lv_goto (tgt := 5) hx hb dX4_isBottomless_83 (by decide) ?_
          have anq : anyF (bbP be u v) (i + 1) = true := by simp [anyF, c15]
          exact ih5 (i + 1) (by omega) (by omega)  ls (lv_sub hl [2, 3, 4, 1, 0] (by rw [anq]; rfl))
        · refine lv_aload_n hx hb dX4_isBottomless_18 rfl (lv_at hl 0 rfl) ?_
          refine va_get (D := D) (ci := 4) (v := .ref (b 5)) (C := RX4) (T := TX4) (N := 14) hx hb hts i4 hown hK hP 0 rfl rfl 6 (by decide) (hts (.fieldLink RX4 23 "SignedPathsModel" "best" "[J") (by decide +kernel)) (fun _ h9 => h9) rfl dX4_isBottomless_19 ?_
          refine lv_bipush (v := nI 12) hx hb dX4_isBottomless_22 (by decide) ?_
          refine lv_iload hx hb dX4_isBottomless_24 (lv_at hl 4 rfl) ?_
          refine rn_imul hx hb  dX4_isBottomless_26 ?_
          refine lv_iload hx hb dX4_isBottomless_27 (lv_at hl 4 rfl) ?_
          refine rn_iadd hx hb  dX4_isBottomless_29 ?_
          refine rn_lald (v := be ((12 * i) + i)) hx hb hK hP 5 3 rfl rfl (by omega) (by decide) rfl dX4_isBottomless_30 ?_
          refine lv_lconst (v := 0) hx hb dX4_isBottomless_31 (by decide) ?_
          refine rn_lcmp_ge (tgt := 78) hx hb dX4_isBottomless_32 dX4_isBottomless_33 (by decide) (fun c32 => ?_) (fun c32 => ?_)
          · refine lv_iconst (v := bI false) hx hb dX4_isBottomless_78 (by decide) ?_
            refine lv_istore_n (lv' := [(3, .int (bI false)), (0, .ref (b 0)), (1, .int (nI u)), (2, .int (nI v)), (4, .int (nI i))]) hx hb dX4_isBottomless_79 rfl hl (by decide) rfl (fun ls hl => ?_)
            refine lv_iinc (v := nI (i + 1)) (lv' := [(4, .int (nI (i + 1))), (3, .int (bI false)), (0, .ref (b 0)), (1, .int (nI u)), (2, .int (nI v))]) hx hb dX4_isBottomless_80 hl (k := 4) rfl (nI_1 i) (by decide) rfl (fun ls hl => ?_)
            refine lv_goto (tgt := 5) hx hb dX4_isBottomless_83 (by decide) ?_
            have anq : anyF (bbP be u v) (i + 1) = false := by simp [anyF, c15, bbP, c32]
            exact ih5 (i + 1) (by omega) (by omega)  ls (lv_sub hl [2, 3, 4, 1, 0] (by rw [anq]; rfl))
          · refine lv_aload_n hx hb dX4_isBottomless_36 rfl (lv_at hl 0 rfl) ?_
            refine va_get (D := D) (ci := 4) (v := .ref (b 5)) (C := RX4) (T := TX4) (N := 14) hx hb hts i4 hown hK hP 0 rfl rfl 6 (by decide) (hts (.fieldLink RX4 23 "SignedPathsModel" "best" "[J") (by decide +kernel)) (fun _ h9 => h9) rfl dX4_isBottomless_37 ?_
            refine lv_bipush (v := nI 12) hx hb dX4_isBottomless_40 (by decide) ?_
            refine lv_iload_n hx hb dX4_isBottomless_42 rfl (lv_at hl 1 rfl) ?_
            refine rn_imul hx hb  dX4_isBottomless_43 ?_
            refine lv_iload hx hb dX4_isBottomless_44 (lv_at hl 4 rfl) ?_
            refine rn_iadd hx hb  dX4_isBottomless_46 ?_
            refine rn_lald (v := be ((12 * u) + i)) hx hb hK hP 5 3 rfl rfl (by omega) (by decide) rfl dX4_isBottomless_47 ?_
            refine lv_ldc2 (v := 1000000000000) hx hb hown (hts (.constantLong RX4 66 1000000000000) (by decide +kernel)) dX4_isBottomless_48 ?_
            refine rn_lcmp_ge (tgt := 78) hx hb dX4_isBottomless_51 dX4_isBottomless_52 (by decide) (fun c51 => ?_) (fun c51 => ?_)
            · refine lv_iconst (v := bI false) hx hb dX4_isBottomless_78 (by decide) ?_
              refine lv_istore_n (lv' := [(3, .int (bI false)), (0, .ref (b 0)), (1, .int (nI u)), (2, .int (nI v)), (4, .int (nI i))]) hx hb dX4_isBottomless_79 rfl hl (by decide) rfl (fun ls hl => ?_)
              refine lv_iinc (v := nI (i + 1)) (lv' := [(4, .int (nI (i + 1))), (3, .int (bI false)), (0, .ref (b 0)), (1, .int (nI u)), (2, .int (nI v))]) hx hb dX4_isBottomless_80 hl (k := 4) rfl (nI_1 i) (by decide) rfl (fun ls hl => ?_)
              refine lv_goto (tgt := 5) hx hb dX4_isBottomless_83 (by decide) ?_
              have anq : anyF (bbP be u v) (i + 1) = false := by simp [anyF, c15, bbP, c51]
              exact ih5 (i + 1) (by omega) (by omega)  ls (lv_sub hl [2, 3, 4, 1, 0] (by rw [anq]; rfl))
            · refine lv_aload_n hx hb dX4_isBottomless_55 rfl (lv_at hl 0 rfl) ?_
              refine va_get (D := D) (ci := 4) (v := .ref (b 5)) (C := RX4) (T := TX4) (N := 14) hx hb hts i4 hown hK hP 0 rfl rfl 6 (by decide) (hts (.fieldLink RX4 23 "SignedPathsModel" "best" "[J") (by decide +kernel)) (fun _ h9 => h9) rfl dX4_isBottomless_56 ?_
              refine lv_bipush (v := nI 12) hx hb dX4_isBottomless_59 (by decide) ?_
              refine lv_iload hx hb dX4_isBottomless_61 (lv_at hl 4 rfl) ?_
              refine rn_imul hx hb  dX4_isBottomless_63 ?_
              refine lv_iload_n hx hb dX4_isBottomless_64 rfl (lv_at hl 2 rfl) ?_
              refine rn_iadd hx hb  dX4_isBottomless_65 ?_
              refine rn_lald (v := be ((12 * i) + v)) hx hb hK hP 5 3 rfl rfl (by omega) (by decide) rfl dX4_isBottomless_66 ?_
              refine lv_ldc2 (v := 1000000000000) hx hb hown (hts (.constantLong RX4 66 1000000000000) (by decide +kernel)) dX4_isBottomless_67 ?_
              refine rn_lcmp_ge (tgt := 78) hx hb dX4_isBottomless_70 dX4_isBottomless_71 (by decide) (fun c70 => ?_) (fun c70 => ?_)
              · refine lv_iconst (v := bI false) hx hb dX4_isBottomless_78 (by decide) ?_
                refine lv_istore_n (lv' := [(3, .int (bI false)), (0, .ref (b 0)), (1, .int (nI u)), (2, .int (nI v)), (4, .int (nI i))]) hx hb dX4_isBottomless_79 rfl hl (by decide) rfl (fun ls hl => ?_)
                refine lv_iinc (v := nI (i + 1)) (lv' := [(4, .int (nI (i + 1))), (3, .int (bI false)), (0, .ref (b 0)), (1, .int (nI u)), (2, .int (nI v))]) hx hb dX4_isBottomless_80 hl (k := 4) rfl (nI_1 i) (by decide) rfl (fun ls hl => ?_)
                refine lv_goto (tgt := 5) hx hb dX4_isBottomless_83 (by decide) ?_
                have anq : anyF (bbP be u v) (i + 1) = false := by simp [anyF, c15, bbP, c70]
                exact ih5 (i + 1) (by omega) (by omega)  ls (lv_sub hl [2, 3, 4, 1, 0] (by rw [anq]; rfl))
              · refine lv_iconst (v := bI true) hx hb dX4_isBottomless_74 (by decide) ?_
                refine lv_goto (tgt := 79) hx hb dX4_isBottomless_75 (by decide) ?_
                refine lv_istore_n (lv' := [(3, .int (bI true)), (0, .ref (b 0)), (1, .int (nI u)), (2, .int (nI v)), (4, .int (nI i))]) hx hb dX4_isBottomless_79 rfl hl (by decide) rfl (fun ls hl => ?_)
                refine lv_iinc (v := nI (i + 1)) (lv' := [(4, .int (nI (i + 1))), (3, .int (bI true)), (0, .ref (b 0)), (1, .int (nI u)), (2, .int (nI v))]) hx hb dX4_isBottomless_80 hl (k := 4) rfl (nI_1 i) (by decide) rfl (fun ls hl => ?_)
                refine lv_goto (tgt := 5) hx hb dX4_isBottomless_83 (by decide) ?_
                have anq : anyF (bbP be u v) (i + 1) = true := by simp [anyF, c15, bbP, c32, c51, c70]
                exact ih5 (i + 1) (by omega) (by omega)  ls (lv_sub hl [2, 3, 4, 1, 0] (by rw [anq]; rfl))
  exact key5 (n + 1) 0 (by omega) (by omega)  ls (lv_sub hl [2, 3, 4, 1, 0] rfl)
set_option maxHeartbeats 4000000 in
set_option maxRecDepth 100000 in
theorem c4_weightIn (l : Launch) (q : Int64)  : Met l yX4_weightIn wsX4_weightIn ({ frames := 0, cells := 0, slots := 0, locals := 0 }) (va_Pc [.long q] (fun _ => True)) (vp_Si (fun r => r = wIn q)) 0 0 nF := by
  refine Met.ofW (cc := cX4_weightIn) (maxL := 4) (ret := (some .int)) (by decide) rfl ?_
  intro p e s mt args below meth c s₁ B hml hv
  obtain ⟨rfl, -⟩ := hv
  have hx := B.exec
  have hb := B.bytes
  have hr := B.returns
  have hts := atoms_spec (ws := wsX4_weightIn) B.pre
  have hown : s.vm.findClass RX4 = some mt.cls := findClass_of_methodNamed B.named
  have hlocks := B.notSynchronized
  have hl := lv_entry ([.long q]) (n := 4) (Nat.le_of_ble_eq_true rfl)
  rw [lg_entry_eq]
  generalize (lg_sl ([.long q]) ++ List.replicate (4 - (lg_sl ([.long q])).length) Slot.unset).toArray = ls at hl ⊢
  have hl : lv_has ls 4 [(0, .long q)] := hl
  refine lv_lload_n hx hb dX4_weightIn_0 rfl (lv_at hl 0 rfl) ?_
  refine lv_ldc2 (v := 1000) hx hb hown (hts (.constantLong RX4 68 1000) (by decide +kernel)) dX4_weightIn_1 ?_
  refine lv_ldiv hx hb dX4_weightIn_4 (by decide) ?_
  refine lv_lstore_n (lv' := [(2, .long (q / 1000)), (0, .long q)]) hx hb dX4_weightIn_5 rfl hl (by decide) rfl (fun ls hl => ?_)
  refine lv_lload_n hx hb dX4_weightIn_6 rfl (lv_at hl 0 rfl) ?_
  refine lv_ldc2 (v := 1000) hx hb hown (hts (.constantLong RX4 68 1000) (by decide +kernel)) dX4_weightIn_7 ?_
  refine lv_lmul hx hb dX4_weightIn_10  ?_
  refine lv_lload_n hx hb dX4_weightIn_11 rfl (lv_at hl 1 rfl) ?_
  refine rn_lcmp_le (tgt := 22) hx hb dX4_weightIn_12 dX4_weightIn_13 (by decide) (fun c12 => ?_) (fun c12 => ?_)
  · refine lv_lload_n hx hb dX4_weightIn_22 rfl (lv_at hl 0 rfl) ?_
    refine lv_l2i (v := (q / 1000).toInt32) hx hb dX4_weightIn_23 rfl ?_
    exact W.iret (v := (q / 1000).toInt32) hx hb hr (fun t ht hW => ⟨_, rfl, (by rw [wIn, if_pos c12]), ht⟩) (fun q h => absurd h List.not_mem_nil) dX4_weightIn_24
  · refine lv_lload_n hx hb dX4_weightIn_16 rfl (lv_at hl 0 rfl) ?_
    refine lv_lconst (v := 1) hx hb dX4_weightIn_17 (by decide) ?_
    refine lv_lsub hx hb dX4_weightIn_18  ?_
    refine lv_goto (tgt := 23) hx hb dX4_weightIn_19 (by decide) ?_
    refine lv_l2i (v := ((q / 1000) - 1).toInt32) hx hb dX4_weightIn_23 rfl ?_
    exact W.iret (v := ((q / 1000) - 1).toInt32) hx hb hr (fun t ht hW => ⟨_, rfl, (by rw [wIn, if_neg c12]), ht⟩) (fun q h => absurd h List.not_mem_nil) dX4_weightIn_24
set_option maxHeartbeats 4000000 in
set_option maxRecDepth 100000 in
theorem c4_least (l : Launch) {D : va_G} {k : Nat → ClassId} {b : Nat → Nat} {n : Nat} {m : Nat} {fr : Nat → Nat} {to : Nat → Nat} {w : Nat → Int32} {th : Nat → Bool} {be : Nat → Int64} {oe : Nat → Int64} {al : Nat → Int64} {pa : Nat → Int64} {bo : Nat → Int64} {rl : Nat} {ra : Nat → Nat} {mo : Nat → Int64} (ha : inj 12 b) (x : Int32) (y : Int32) (hg : gOK n m fr to) : Met l yX4_least wsX4_least ({ frames := 2, cells := 0, slots := 0, locals := 43 }) (gPc D k (mW k b n m fr to w th be oe al pa bo rl ra mo) [.ref (b 0), .int x, .int y]) (va_Qi (S := Int32) (fun r u => u = r ∧ (r = bw (ixB x n && ixB y n) (lsA n (fwB n m fr to w th be) x.toNatClampNeg y.toNatClampNeg) (-1000000001))) (fun _ t => va_P D vwCl (mW k b n m fr to w th (bw (ixB x n && ixB y n) (fwB n m fr to w th be) be) oe al pa bo rl ra mo) t.heap) (mA b)) 0 0 (mA b) := by
  refine Met.ofW (cc := cX4_least) (maxL := 3) (ret := (some .int)) (by decide) rfl ?_
  intro p e s mt args below meth c s₁ B hml hv
  obtain ⟨rfl, hP, hK⟩ := hv
  have hx := B.exec
  have hb := B.bytes
  have hr := B.returns
  have hts := atoms_spec (ws := wsX4_least) B.pre
  have hown : s.vm.findClass RX4 = some mt.cls := findClass_of_methodNamed B.named
  have hlocks := B.notSynchronized
  have i4 : ∀ w ∈ wsX40, w ∈ wsX4_least := by decide +kernel
  have hS : va_S (mA b) s.heap s.heap [] := va_S.rf
  have hD : va_D (mA b) (mW k b n m fr to w th be oe al pa bo rl ra mo) := mW_D ha
  have hl := lv_entry ([.ref (b 0), .int x, .int y]) (n := 3) (Nat.le_of_ble_eq_true rfl)
  rw [lg_entry_eq]
  generalize (lg_sl ([.ref (b 0), .int x, .int y]) ++ List.replicate (3 - (lg_sl ([.ref (b 0), .int x, .int y])).length) Slot.unset).toArray = ls at hl ⊢
  have hl : lv_has ls 3 [(0, .ref (b 0)), (1, .int x), (2, .int y)] := hl
  obtain ⟨hn12, hm40, hft⟩ := id hg
  refine lv_aload_n hx hb dX4_least_0 rfl (lv_at hl 0 rfl) ?_
  refine lv_iload_n hx hb dX4_least_1 rfl (lv_at hl 1 rfl) ?_
  refine cl_Si (As := [.int x]) (rest := []) ⟨hx, hb, hml, hown, hts⟩ (c4_isNode l ha x (by omega)) (cwV 1 hts gX4_least_X4_isNode rfl rfl rfl (by decide +kernel) ⟨Nat.le_of_ble_eq_true rfl, Nat.le_of_ble_eq_true rfl⟩) hK hP (ci := 4) (q0 := 0) rfl rfl rfl rfl hl.1 rfl (Nat.le_of_ble_eq_true rfl) dX4_least_2 ⟨Nat.zero_le _, Nat.zero_le _⟩ (fun r2 h2 => ?_)
  subst h2
  refine rn_ifeqb (tgt := 16) hx hb dX4_least_5 (by decide) (fun c5 => ?_) (fun c5 => ?_)
  · refine lv_ldc (v := (-1000000001)) hx hb hown (hts (.constant RX4 61 (-1000000001)) (by decide +kernel)) dX4_least_16 ?_
    have hc : (ixB x n && ixB y n) = false := by simp [c5]
    exact W.iret (v := (-1000000001)) hx hb hr (fun t ht hW => ⟨⟨_, _, rfl, ⟨rfl, (by rw [bw_f hc])⟩, by show va_P D vwCl (mW k b n m fr to w th (bw (ixB x n && ixB y n) (fwB n m fr to w th be) be) oe al pa bo rl ra mo) t.heap; rw [ht]; rw [bw_f hc]; exact hP⟩, hS.F ht⟩) hS.2.2 dX4_least_18
  · refine lv_aload_n hx hb dX4_least_8 rfl (lv_at hl 0 rfl) ?_
    refine lv_iload_n hx hb dX4_least_9 rfl (lv_at hl 2 rfl) ?_
    refine cl_Si (As := [.int y]) (rest := []) ⟨hx, hb, hml, hown, hts⟩ (c4_isNode l ha y (by omega)) (cwV 1 hts gX4_least_X4_isNode rfl rfl rfl (by decide +kernel) ⟨Nat.le_of_ble_eq_true rfl, Nat.le_of_ble_eq_true rfl⟩) hK hP (ci := 4) (q0 := 0) rfl rfl rfl rfl hl.1 rfl (Nat.le_of_ble_eq_true rfl) dX4_least_10 ⟨Nat.zero_le _, Nat.zero_le _⟩ (fun r10 h10 => ?_)
    subst h10
    refine rn_ifneb (tgt := 19) hx hb dX4_least_13 (by decide) (fun c13 => ?_) (fun c13 => ?_)
    · have hc : (ixB x n && ixB y n) = true := by simp [c5, c13]
      obtain ⟨u, hu, rfl⟩ := ixB_t (by omega) c5
      obtain ⟨v, hv, rfl⟩ := ixB_t (by omega) c13
      refine lv_aload_n hx hb dX4_least_19 rfl (lv_at hl 0 rfl) ?_
      refine cl_Qv (As := []) (rest := []) ⟨hx, hb, hml, hown, hts⟩ (c4_findBest l ha  hg) (cwV 0 hts gX4_least_X4_findBest rfl rfl rfl (by decide +kernel) ⟨Nat.le_of_ble_eq_true rfl, Nat.le_of_ble_eq_true rfl⟩) hK hP hS (fun _ h => h) (ci := 4) (q0 := 0) rfl rfl rfl rfl hl.1 rfl (Nat.le_of_ble_eq_true rfl) dX4_least_20 ⟨Nat.zero_le _, Nat.zero_le _⟩ (fun H locs h20 hP _ _ hS => ?_)
      have hP : va_P D vwCl (mW k b n m fr to w th (fwB n m fr to w th be) oe al pa bo rl ra mo) H := hP
      have hD : va_D (mA b) (mW k b n m fr to w th (fwB n m fr to w th be) oe al pa bo rl ra mo) := mW_D ha
      refine lv_aload_n hx hb dX4_least_23 rfl (lv_at hl 0 rfl) ?_
      refine va_get (D := D) (ci := 4) (v := .ref (b 5)) (C := RX4) (T := TX4) (N := 14) hx hb hts i4 hown hK hP 0 rfl rfl 6 (by decide) (hts (.fieldLink RX4 23 "SignedPathsModel" "best" "[J") (by decide +kernel)) (fun _ h9 => h9) rfl dX4_least_24 ?_
      refine lv_bipush (v := nI 12) hx hb dX4_least_27 (by decide) ?_
      refine lv_iload_n hx hb dX4_least_29 rfl (lv_at hl 1 rfl) ?_
      refine rn_imul hx hb  dX4_least_30 ?_
      refine lv_iload_n hx hb dX4_least_31 rfl (lv_at hl 2 rfl) ?_
      refine rn_iadd hx hb  dX4_least_32 ?_
      refine rn_lald (v := (fwB n m fr to w th be) ((12 * u) + v)) hx hb hK hP 5 3 rfl rfl (by omega) (by decide) rfl dX4_least_33 ?_
      refine lv_ldc2 (v := 1000000000000) hx hb hown (hts (.constantLong RX4 66 1000000000000) (by decide +kernel)) dX4_least_34 ?_
      refine rn_lcmp_lt (tgt := 44) hx hb dX4_least_37 dX4_least_38 (by decide) (fun c37 => ?_) (fun c37 => ?_)
      · refine lv_aload_n hx hb dX4_least_44 rfl (lv_at hl 0 rfl) ?_
        refine lv_iload_n hx hb dX4_least_45 rfl (lv_at hl 1 rfl) ?_
        refine lv_iload_n hx hb dX4_least_46 rfl (lv_at hl 2 rfl) ?_
        refine cl_Si (As := [.int (nI u), .int (nI v)]) (rest := []) ⟨hx, hb, hml, hown, hts⟩ (c4_isBottomless l ha u v hg (by omega) (by omega)) (cwV 2 hts gX4_least_X4_isBottomless rfl rfl rfl (by decide +kernel) ⟨Nat.le_of_ble_eq_true rfl, Nat.le_of_ble_eq_true rfl⟩) hK hP (ci := 4) (q0 := 0) rfl rfl rfl rfl hl.1 rfl (Nat.le_of_ble_eq_true rfl) dX4_least_47 ⟨Nat.zero_le _, Nat.zero_le _⟩ (fun r47 h47 => ?_)
        subst h47
        refine rn_ifeqb (tgt := 58) hx hb dX4_least_50 (by decide) (fun c50 => ?_) (fun c50 => ?_)
        · refine lv_aload_n hx hb dX4_least_58 rfl (lv_at hl 0 rfl) ?_
          refine va_get (D := D) (ci := 4) (v := .ref (b 5)) (C := RX4) (T := TX4) (N := 14) hx hb hts i4 hown hK hP 0 rfl rfl 6 (by decide) (hts (.fieldLink RX4 23 "SignedPathsModel" "best" "[J") (by decide +kernel)) (fun _ h9 => h9) rfl dX4_least_59 ?_
          refine lv_bipush (v := nI 12) hx hb dX4_least_62 (by decide) ?_
          refine lv_iload_n hx hb dX4_least_64 rfl (lv_at hl 1 rfl) ?_
          refine rn_imul hx hb  dX4_least_65 ?_
          refine lv_iload_n hx hb dX4_least_66 rfl (lv_at hl 2 rfl) ?_
          refine rn_iadd hx hb  dX4_least_67 ?_
          refine rn_lald (v := (fwB n m fr to w th be) ((12 * u) + v)) hx hb hK hP 5 3 rfl rfl (by omega) (by decide) rfl dX4_least_68 ?_
          refine cl_Ti (As := [.long ((fwB n m fr to w th be) ((12 * u) + v))]) (rest := []) ⟨hx, hb, hml, hown, hts⟩ (c4_weightIn l ((fwB n m fr to w th be) ((12 * u) + v)) ) (va_cwS 1 hts gX4_least_X4_weightIn rfl rfl rfl (by decide +kernel) ⟨Nat.le_of_ble_eq_true rfl, Nat.le_of_ble_eq_true rfl⟩) rfl hl.1 rfl (Nat.le_of_ble_eq_true rfl) dX4_least_69 ⟨Nat.zero_le _, Nat.zero_le _⟩ (fun r69 h69 => ?_)
          subst h69
          exact W.iret (v := wIn ((fwB n m fr to w th be) ((12 * u) + v))) hx hb hr (fun t ht hW => ⟨⟨_, _, rfl, ⟨rfl, (by rw [bw_t hc, nI_clamp (by omega), nI_clamp (by omega), lsA, if_pos c37, if_neg (by rw [c50]; decide)])⟩, by show va_P D vwCl (mW k b n m fr to w th (bw (ixB (nI u) n && ixB (nI v) n) (fwB n m fr to w th be) be) oe al pa bo rl ra mo) t.heap; rw [ht]; rw [bw_t hc]; exact hP⟩, hS.F ht⟩) hS.2.2 dX4_least_72
        · refine lv_ldc (v := (-1000000000)) hx hb hown (hts (.constant RX4 80 (-1000000000)) (by decide +kernel)) dX4_least_53 ?_
          refine lv_goto (tgt := 72) hx hb dX4_least_55 (by decide) ?_
          exact W.iret (v := (-1000000000)) hx hb hr (fun t ht hW => ⟨⟨_, _, rfl, ⟨rfl, (by rw [bw_t hc, nI_clamp (by omega), nI_clamp (by omega), lsA, if_pos c37, if_pos c50])⟩, by show va_P D vwCl (mW k b n m fr to w th (bw (ixB (nI u) n && ixB (nI v) n) (fwB n m fr to w th be) be) oe al pa bo rl ra mo) t.heap; rw [ht]; rw [bw_t hc]; exact hP⟩, hS.F ht⟩) hS.2.2 dX4_least_72
      · refine lv_ldc (v := 1000000000) hx hb hown (hts (.constant RX4 75 1000000000) (by decide +kernel)) dX4_least_41 ?_
        exact W.iret (v := 1000000000) hx hb hr (fun t ht hW => ⟨⟨_, _, rfl, ⟨rfl, (by rw [bw_t hc, nI_clamp (by omega), nI_clamp (by omega), lsA, if_neg c37])⟩, by show va_P D vwCl (mW k b n m fr to w th (bw (ixB (nI u) n && ixB (nI v) n) (fwB n m fr to w th be) be) oe al pa bo rl ra mo) t.heap; rw [ht]; rw [bw_t hc]; exact hP⟩, hS.F ht⟩) hS.2.2 dX4_least_43
    · refine lv_ldc (v := (-1000000001)) hx hb hown (hts (.constant RX4 61 (-1000000001)) (by decide +kernel)) dX4_least_16 ?_
      have hc : (ixB x n && ixB y n) = false := by simp [c13]
      exact W.iret (v := (-1000000001)) hx hb hr (fun t ht hW => ⟨⟨_, _, rfl, ⟨rfl, (by rw [bw_f hc])⟩, by show va_P D vwCl (mW k b n m fr to w th (bw (ixB x n && ixB y n) (fwB n m fr to w th be) be) oe al pa bo rl ra mo) t.heap; rw [ht]; rw [bw_f hc]; exact hP⟩, hS.F ht⟩) hS.2.2 dX4_least_18
set_option maxHeartbeats 4000000 in
set_option maxRecDepth 100000 in
theorem c4_join_ap (l : Launch) {D : va_G} {k : Nat → ClassId} {b : Nat → Nat} {n : Nat} {m : Nat} {fr : Nat → Nat} {to : Nat → Nat} {w : Nat → Int32} {th : Nat → Bool} {be : Nat → Int64} {oe : Nat → Int64} {al : Nat → Int64} {pa : Nat → Int64} {bo : Nat → Int64} {rl : Nat} {ra : Nat → Nat} {mo : Nat → Int64} (ha : inj 12 b)  (hg : gOK n m fr to) : Met l yX4_join wsX4_join ({ frames := 0, cells := 0, slots := 0, locals := 0 }) (gPc D k (mW k b n m fr to w th be oe al pa bo rl ra mo) [.ref (b 0), .ref (b 7), .ref (b 8)]) (va_Qv (S := Unit) (fun _ => True) (fun _ t => va_P D vwCl (mW k b n m fr to w th be oe al pa (jnF n al pa bo) rl ra mo) t.heap) (mA b)) 0 0 (mA b) := by
  refine Met.ofW (cc := cX4_join) (maxL := 12) (ret := none) (by decide) rfl ?_
  intro p e s mt args below meth c s₁ B hml hv
  obtain ⟨rfl, hP, hK⟩ := hv
  have hx := B.exec
  have hb := B.bytes
  have hr := B.returns
  have hts := atoms_spec (ws := wsX4_join) B.pre
  have hown : s.vm.findClass RX4 = some mt.cls := findClass_of_methodNamed B.named
  have hlocks := B.notSynchronized
  have i4 : ∀ w ∈ wsX40, w ∈ wsX4_join := by decide +kernel
  have hS : va_S (mA b) s.heap s.heap [] := va_S.rf
  have hD : va_D (mA b) (mW k b n m fr to w th be oe al pa bo rl ra mo) := mW_D ha
  have hl := lv_entry ([.ref (b 0), .ref (b 7), .ref (b 8)]) (n := 12) (Nat.le_of_ble_eq_true rfl)
  rw [lg_entry_eq]
  generalize (lg_sl ([.ref (b 0), .ref (b 7), .ref (b 8)]) ++ List.replicate (12 - (lg_sl ([.ref (b 0), .ref (b 7), .ref (b 8)])).length) Slot.unset).toArray = ls at hl ⊢
  have hl : lv_has ls 12 [(0, .ref (b 0)), (1, .ref (b 7)), (2, .ref (b 8))] := hl
  obtain ⟨Q, hQ⟩ : ∃ Q, Q = MQ below (va_Qv (S := Unit) (fun _ => True) (fun _ t => va_P D vwCl (mW k b n m fr to w th be oe al pa (jnF n al pa bo) rl ra mo) t.heap) (mA b)) ([.ref (b 0), .ref (b 7), .ref (b 8)] : List Value).toArray s 0 0 (mA b) := ⟨_, rfl⟩
  rw [← hQ]
  obtain ⟨hn12, hm40, hft⟩ := id hg
  refine lv_iconst (v := nI 0) hx hb dX4_join_0 (by decide) ?_
  refine lv_istore_n (lv' := [(3, .int (nI 0)), (0, .ref (b 0)), (1, .ref (b 7)), (2, .ref (b 8))]) hx hb dX4_join_1 rfl hl (by decide) rfl (fun ls hl => ?_)
  have key2 : ∀ (f2 u : Nat), n + 1 ≤ u + f2 → u ≤ n → ∀ (H : Heap) (locs : List Loc), va_P D vwCl (mW k b n m fr to w th be oe al pa (fl (jnU n al pa) u bo) rl ra mo) H → va_S (mA b) s.heap H locs → ∀ (ls : Array Slot), lv_has ls 12 [(0, .ref (b 0)), (1, .ref (b 7)), (2, .ref (b 8)), (3, .int (nI u))] → W p l e (headSpec wsX4_join { frames := 0, cells := 0, slots := 0, locals := 0 }).room s mt ([.ref (b 0), .ref (b 7), .ref (b 8)] : List Value).toArray below meth c H locs 0 0 Q (F0 mt 2 ls []) := by
    intro f2
    induction f2 with
    | zero => intro u h1 h2; exact absurd h1 (by omega)
    | succ f2 ih2 =>
      intro u hf2 hi2   H locs hP hS ls hl
      have hD : va_D (mA b) (mW k b n m fr to w th be oe al pa (fl (jnU n al pa) u bo) rl ra mo) := mW_D ha
      refine lv_iload_n hx hb dX4_join_2 rfl (lv_at hl 3 rfl) ?_
      refine lv_aload_n hx hb dX4_join_3 rfl (lv_at hl 0 rfl) ?_
      refine va_get (D := D) (ci := 4) (v := .int (nI n)) (C := RX4) (T := TX4) (N := 14) hx hb hts i4 hown hK hP 0 rfl rfl 0 (by decide) (hts (.fieldLink RX4 45 "SignedPathsModel" "n" "I") (by decide +kernel)) (fun _ h9 => h9) rfl dX4_join_4 ?_
      refine rn_icmp_ge (tgt := 135) hx hb dX4_join_7 (by decide) (by omega) (by omega) (fun c7 => ?_) (fun c7 => ?_)
      · rw [hQ]
        exact W.vret hx hb hr (fun t ht hW => ⟨⟨(), rfl, trivial, by show va_P D vwCl (mW k b n m fr to w th be oe al pa (jnF n al pa bo) rl ra mo) t.heap; rw [ht]; have e : u = n := (by omega); rw [e] at hP; exact hP⟩, hS.F ht⟩) hS.2.2 dX4_join_135
      · refine lv_iconst (v := nI 0) hx hb dX4_join_10 (by decide) ?_
        refine lv_istore (lv' := [(4, .int (nI 0)), (0, .ref (b 0)), (1, .ref (b 7)), (2, .ref (b 8)), (3, .int (nI u))]) hx hb dX4_join_11 hl (by decide) rfl (fun ls hl => ?_)
        have key13 : ∀ (f13 v : Nat), n + 1 ≤ v + f13 → v ≤ n → ∀ (H : Heap) (locs : List Loc), va_P D vwCl (mW k b n m fr to w th be oe al pa (fl (jnV n al pa u) v (fl (jnU n al pa) u bo)) rl ra mo) H → va_S (mA b) s.heap H locs → ∀ (ls : Array Slot), lv_has ls 12 [(0, .ref (b 0)), (1, .ref (b 7)), (2, .ref (b 8)), (3, .int (nI u)), (4, .int (nI v))] → W p l e (headSpec wsX4_join { frames := 0, cells := 0, slots := 0, locals := 0 }).room s mt ([.ref (b 0), .ref (b 7), .ref (b 8)] : List Value).toArray below meth c H locs 0 0 Q (F0 mt 13 ls []) := by
          intro f13
          induction f13 with
          | zero => intro v h1 h2; exact absurd h1 (by omega)
          | succ f13 ih13 =>
            intro v hf13 hi13   H locs hP hS ls hl
            have hD : va_D (mA b) (mW k b n m fr to w th be oe al pa (fl (jnV n al pa u) v (fl (jnU n al pa) u bo)) rl ra mo) := mW_D ha
            refine lv_iload hx hb dX4_join_13 (lv_at hl 4 rfl) ?_
            refine lv_aload_n hx hb dX4_join_15 rfl (lv_at hl 0 rfl) ?_
            refine va_get (D := D) (ci := 4) (v := .int (nI n)) (C := RX4) (T := TX4) (N := 14) hx hb hts i4 hown hK hP 0 rfl rfl 0 (by decide) (hts (.fieldLink RX4 45 "SignedPathsModel" "n" "I") (by decide +kernel)) (fun _ h9 => h9) rfl dX4_join_16 ?_
            refine rn_icmp_ge (tgt := 129) hx hb dX4_join_19 (by decide) (by omega) (by omega) (fun c19 => ?_) (fun c19 => ?_)
            · refine lv_iinc (v := nI (u + 1)) (lv' := [(3, .int (nI (u + 1))), (0, .ref (b 0)), (1, .ref (b 7)), (2, .ref (b 8)), (4, .int (nI v))]) hx hb dX4_join_129 hl (k := 3) rfl (nI_1 u) (by decide) rfl (fun ls hl => ?_)
              refine lv_goto (tgt := 2) hx hb dX4_join_132 (by decide) ?_
              exact ih2 (u + 1) (by omega) (by omega)  _ _ (by have e : v = n := (by omega); rw [e] at hP; exact hP) hS ls (lv_sub hl [1, 2, 3, 0] rfl)
            · refine lv_ldc2 (v := 1000000000000) hx hb hown (hts (.constantLong RX4 66 1000000000000) (by decide +kernel)) dX4_join_22 ?_
              refine lv_lstore (lv' := [(5, .long 1000000000000), (0, .ref (b 0)), (1, .ref (b 7)), (2, .ref (b 8)), (3, .int (nI u)), (4, .int (nI v))]) hx hb dX4_join_25 hl (by decide) rfl (fun ls hl => ?_)
              refine lv_iconst (v := nI 0) hx hb dX4_join_27 (by decide) ?_
              refine lv_istore (lv' := [(7, .int (nI 0)), (5, .long 1000000000000), (0, .ref (b 0)), (1, .ref (b 7)), (2, .ref (b 8)), (3, .int (nI u)), (4, .int (nI v))]) hx hb dX4_join_28 hl (by decide) rfl (fun ls hl => ?_)
              have key30 : ∀ (f30 x : Nat), n + 1 ≤ x + f30 → x ≤ n → ∀ (H : Heap) (locs : List Loc), va_P D vwCl (mW k b n m fr to w th be oe al pa (fl (jnV n al pa u) v (fl (jnU n al pa) u bo)) rl ra mo) H → va_S (mA b) s.heap H locs → ∀ (ls : Array Slot), lv_has ls 12 [(0, .ref (b 0)), (1, .ref (b 7)), (2, .ref (b 8)), (3, .int (nI u)), (4, .int (nI v)), (5, .long (fl (jnS al pa u v) x 1000000000000)), (7, .int (nI x))] → W p l e (headSpec wsX4_join { frames := 0, cells := 0, slots := 0, locals := 0 }).room s mt ([.ref (b 0), .ref (b 7), .ref (b 8)] : List Value).toArray below meth c H locs 0 0 Q (F0 mt 30 ls []) := by
                intro f30
                induction f30 with
                | zero => intro x h1 h2; exact absurd h1 (by omega)
                | succ f30 ih30 =>
                  intro x hf30 hi30   H locs hP hS ls hl
                  have hD : va_D (mA b) (mW k b n m fr to w th be oe al pa (fl (jnV n al pa u) v (fl (jnU n al pa) u bo)) rl ra mo) := mW_D ha
                  refine lv_iload hx hb dX4_join_30 (lv_at hl 6 rfl) ?_
                  refine lv_aload_n hx hb dX4_join_32 rfl (lv_at hl 0 rfl) ?_
                  refine va_get (D := D) (ci := 4) (v := .int (nI n)) (C := RX4) (T := TX4) (N := 14) hx hb hts i4 hown hK hP 0 rfl rfl 0 (by decide) (hts (.fieldLink RX4 45 "SignedPathsModel" "n" "I") (by decide +kernel)) (fun _ h9 => h9) rfl dX4_join_33 ?_
                  refine rn_icmp_ge (tgt := 109) hx hb dX4_join_36 (by decide) (by omega) (by omega) (fun c36 => ?_) (fun c36 => ?_)
                  · refine lv_aload_n hx hb dX4_join_109 rfl (lv_at hl 0 rfl) ?_
                    refine va_get (D := D) (ci := 4) (v := .ref (b 9)) (C := RX4) (T := TX4) (N := 14) hx hb hts i4 hown hK hP 0 rfl rfl 10 (by decide) (hts (.fieldLink RX4 36 "SignedPathsModel" "both" "[J") (by decide +kernel)) (fun _ h9 => h9) rfl dX4_join_110 ?_
                    refine lv_bipush (v := nI 12) hx hb dX4_join_113 (by decide) ?_
                    refine lv_iload_n hx hb dX4_join_115 rfl (lv_at hl 3 rfl) ?_
                    refine rn_imul hx hb  dX4_join_116 ?_
                    refine lv_iload hx hb dX4_join_117 (lv_at hl 4 rfl) ?_
                    refine rn_iadd hx hb  dX4_join_119 ?_
                    refine lv_lload hx hb dX4_join_120 (lv_at hl 5 rfl) ?_
                    refine rn_last (ws' := mW k b n m fr to w th be oe al pa (va_up (fl (jnV n al pa u) v (fl (jnU n al pa) u bo)) ((12 * u) + v) (fl (jnS al pa u v) x 1000000000000)) rl ra mo) hx hb hK hP hD hS 9 3 rfl rfl (by omega) (by decide) rfl dX4_join_122 (fun H locs hP hD hS => ?_)
                    refine lv_iinc (v := nI (v + 1)) (lv' := [(4, .int (nI (v + 1))), (0, .ref (b 0)), (1, .ref (b 7)), (2, .ref (b 8)), (3, .int (nI u)), (5, .long (fl (jnS al pa u v) x 1000000000000)), (7, .int (nI x))]) hx hb dX4_join_123 hl (k := 4) rfl (nI_1 v) (by decide) rfl (fun ls hl => ?_)
                    refine lv_goto (tgt := 13) hx hb dX4_join_126 (by decide) ?_
                    exact ih13 (v + 1) (by omega) (by omega)  _ _ (by have e : x = n := (by omega); rw [e] at hP; exact hP) hS ls (lv_sub hl [1, 2, 3, 4, 0] rfl)
                  · refine lv_aload_n hx hb dX4_join_39 rfl (lv_at hl 1 rfl) ?_
                    refine lv_bipush (v := nI 12) hx hb dX4_join_40 (by decide) ?_
                    refine lv_iload_n hx hb dX4_join_42 rfl (lv_at hl 3 rfl) ?_
                    refine rn_imul hx hb  dX4_join_43 ?_
                    refine lv_iload hx hb dX4_join_44 (lv_at hl 6 rfl) ?_
                    refine rn_iadd hx hb  dX4_join_46 ?_
                    refine rn_lald (v := al ((12 * u) + x)) hx hb hK hP 7 3 rfl rfl (by omega) (by decide) rfl dX4_join_47 ?_
                    refine lv_lstore (lv' := [(8, .long (al ((12 * u) + x))), (0, .ref (b 0)), (1, .ref (b 7)), (2, .ref (b 8)), (3, .int (nI u)), (4, .int (nI v)), (5, .long (fl (jnS al pa u v) x 1000000000000)), (7, .int (nI x))]) hx hb dX4_join_48 hl (by decide) rfl (fun ls hl => ?_)
                    refine lv_aload_n hx hb dX4_join_50 rfl (lv_at hl 3 rfl) ?_
                    refine lv_bipush (v := nI 12) hx hb dX4_join_51 (by decide) ?_
                    refine lv_iload hx hb dX4_join_53 (lv_at hl 7 rfl) ?_
                    refine rn_imul hx hb  dX4_join_55 ?_
                    refine lv_iload hx hb dX4_join_56 (lv_at hl 5 rfl) ?_
                    refine rn_iadd hx hb  dX4_join_58 ?_
                    refine rn_lald (v := pa ((12 * x) + v)) hx hb hK hP 8 3 rfl rfl (by omega) (by decide) rfl dX4_join_59 ?_
                    refine lv_lstore (lv' := [(10, .long (pa ((12 * x) + v))), (8, .long (al ((12 * u) + x))), (0, .ref (b 0)), (1, .ref (b 7)), (2, .ref (b 8)), (3, .int (nI u)), (4, .int (nI v)), (5, .long (fl (jnS al pa u v) x 1000000000000)), (7, .int (nI x))]) hx hb dX4_join_60 hl (by decide) rfl (fun ls hl => ?_)
                    refine lv_lload hx hb dX4_join_62 (lv_at hl 1 rfl) ?_
                    refine lv_ldc2 (v := 1000000000000) hx hb hown (hts (.constantLong RX4 66 1000000000000) (by decide +kernel)) dX4_join_64 ?_
                    refine rn_lcmp_ge (tgt := 99) hx hb dX4_join_67 dX4_join_68 (by decide) (fun c67 => ?_) (fun c67 => ?_)
                    · refine lv_lload hx hb dX4_join_99 (lv_at hl 7 rfl) ?_
                      refine lv_lstore (lv' := [(5, .long (fl (jnS al pa u v) x 1000000000000)), (10, .long (pa ((12 * x) + v))), (8, .long (al ((12 * u) + x))), (0, .ref (b 0)), (1, .ref (b 7)), (2, .ref (b 8)), (3, .int (nI u)), (4, .int (nI v)), (7, .int (nI x))]) hx hb dX4_join_101 hl (by decide) rfl (fun ls hl => ?_)
                      refine lv_iinc (v := nI (x + 1)) (lv' := [(7, .int (nI (x + 1))), (5, .long (fl (jnS al pa u v) x 1000000000000)), (10, .long (pa ((12 * x) + v))), (8, .long (al ((12 * u) + x))), (0, .ref (b 0)), (1, .ref (b 7)), (2, .ref (b 8)), (3, .int (nI u)), (4, .int (nI v))]) hx hb dX4_join_103 hl (k := 8) rfl (nI_1 x) (by decide) rfl (fun ls hl => ?_)
                      refine lv_goto (tgt := 30) hx hb dX4_join_106 (by decide) ?_
                      have jnq : fl (jnS al pa u v) (x + 1) 1000000000000 = fl (jnS al pa u v) x 1000000000000 := by rw [fl_s, jnS, if_pos c67]
                      exact ih30 (x + 1) (by omega) (by omega)  _ _ (hP) hS ls (lv_sub hl [4, 5, 6, 7, 8, 1, 0] (by rw [jnq]; rfl))
                    · refine lv_lload hx hb dX4_join_71 (lv_at hl 0 rfl) ?_
                      refine lv_ldc2 (v := 1000000000000) hx hb hown (hts (.constantLong RX4 66 1000000000000) (by decide +kernel)) dX4_join_73 ?_
                      refine rn_lcmp_ge (tgt := 99) hx hb dX4_join_76 dX4_join_77 (by decide) (fun c76 => ?_) (fun c76 => ?_)
                      · refine lv_lload hx hb dX4_join_99 (lv_at hl 7 rfl) ?_
                        refine lv_lstore (lv' := [(5, .long (fl (jnS al pa u v) x 1000000000000)), (10, .long (pa ((12 * x) + v))), (8, .long (al ((12 * u) + x))), (0, .ref (b 0)), (1, .ref (b 7)), (2, .ref (b 8)), (3, .int (nI u)), (4, .int (nI v)), (7, .int (nI x))]) hx hb dX4_join_101 hl (by decide) rfl (fun ls hl => ?_)
                        refine lv_iinc (v := nI (x + 1)) (lv' := [(7, .int (nI (x + 1))), (5, .long (fl (jnS al pa u v) x 1000000000000)), (10, .long (pa ((12 * x) + v))), (8, .long (al ((12 * u) + x))), (0, .ref (b 0)), (1, .ref (b 7)), (2, .ref (b 8)), (3, .int (nI u)), (4, .int (nI v))]) hx hb dX4_join_103 hl (k := 8) rfl (nI_1 x) (by decide) rfl (fun ls hl => ?_)
                        refine lv_goto (tgt := 30) hx hb dX4_join_106 (by decide) ?_
                        have jnq : fl (jnS al pa u v) (x + 1) 1000000000000 = fl (jnS al pa u v) x 1000000000000 := by rw [fl_s, jnS, if_neg c67, if_pos c76]
                        exact ih30 (x + 1) (by omega) (by omega)  _ _ (hP) hS ls (lv_sub hl [4, 5, 6, 7, 8, 1, 0] (by rw [jnq]; rfl))
                      · refine lv_lload hx hb dX4_join_80 (lv_at hl 1 rfl) ?_
                        refine lv_lload hx hb dX4_join_82 (lv_at hl 0 rfl) ?_
                        refine lv_ladd hx hb dX4_join_84  ?_
                        refine lv_lload hx hb dX4_join_85 (lv_at hl 7 rfl) ?_
                        refine rn_lcmp_ge (tgt := 99) hx hb dX4_join_87 dX4_join_88 (by decide) (fun c87 => ?_) (fun c87 => ?_)
                        · refine lv_lload hx hb dX4_join_99 (lv_at hl 7 rfl) ?_
                          refine lv_lstore (lv' := [(5, .long (fl (jnS al pa u v) x 1000000000000)), (10, .long (pa ((12 * x) + v))), (8, .long (al ((12 * u) + x))), (0, .ref (b 0)), (1, .ref (b 7)), (2, .ref (b 8)), (3, .int (nI u)), (4, .int (nI v)), (7, .int (nI x))]) hx hb dX4_join_101 hl (by decide) rfl (fun ls hl => ?_)
                          refine lv_iinc (v := nI (x + 1)) (lv' := [(7, .int (nI (x + 1))), (5, .long (fl (jnS al pa u v) x 1000000000000)), (10, .long (pa ((12 * x) + v))), (8, .long (al ((12 * u) + x))), (0, .ref (b 0)), (1, .ref (b 7)), (2, .ref (b 8)), (3, .int (nI u)), (4, .int (nI v))]) hx hb dX4_join_103 hl (k := 8) rfl (nI_1 x) (by decide) rfl (fun ls hl => ?_)
                          refine lv_goto (tgt := 30) hx hb dX4_join_106 (by decide) ?_
                          have jnq : fl (jnS al pa u v) (x + 1) 1000000000000 = fl (jnS al pa u v) x 1000000000000 := by rw [fl_s, jnS, if_neg c67, if_neg c76, if_pos c87]
                          exact ih30 (x + 1) (by omega) (by omega)  _ _ (hP) hS ls (lv_sub hl [4, 5, 6, 7, 8, 1, 0] (by rw [jnq]; rfl))
                        · refine lv_lload hx hb dX4_join_91 (lv_at hl 1 rfl) ?_
                          refine lv_lload hx hb dX4_join_93 (lv_at hl 0 rfl) ?_
                          refine lv_ladd hx hb dX4_join_95  ?_
                          refine lv_goto (tgt := 101) hx hb dX4_join_96 (by decide) ?_
                          refine lv_lstore (lv' := [(5, .long ((al ((12 * u) + x)) + (pa ((12 * x) + v)))), (10, .long (pa ((12 * x) + v))), (8, .long (al ((12 * u) + x))), (0, .ref (b 0)), (1, .ref (b 7)), (2, .ref (b 8)), (3, .int (nI u)), (4, .int (nI v)), (7, .int (nI x))]) hx hb dX4_join_101 hl (by decide) rfl (fun ls hl => ?_)
                          refine lv_iinc (v := nI (x + 1)) (lv' := [(7, .int (nI (x + 1))), (5, .long ((al ((12 * u) + x)) + (pa ((12 * x) + v)))), (10, .long (pa ((12 * x) + v))), (8, .long (al ((12 * u) + x))), (0, .ref (b 0)), (1, .ref (b 7)), (2, .ref (b 8)), (3, .int (nI u)), (4, .int (nI v))]) hx hb dX4_join_103 hl (k := 8) rfl (nI_1 x) (by decide) rfl (fun ls hl => ?_)
                          refine lv_goto (tgt := 30) hx hb dX4_join_106 (by decide) ?_
                          have jnq : fl (jnS al pa u v) (x + 1) 1000000000000 = al (12 * u + x) + pa (12 * x + v) := by rw [fl_s, jnS, if_neg c67, if_neg c76, if_neg c87]
                          exact ih30 (x + 1) (by omega) (by omega)  _ _ (hP) hS ls (lv_sub hl [4, 5, 6, 7, 8, 1, 0] (by rw [jnq]; rfl))
              exact key30 (n + 1) 0 (by omega) (by omega)  _ _ (hP) hS ls (lv_sub hl [2, 3, 4, 5, 6, 1, 0] rfl)
        exact key13 (n + 1) 0 (by omega) (by omega)  _ _ (hP) hS ls (lv_sub hl [1, 2, 3, 4, 0] rfl)
  exact key2 (n + 1) 0 (by omega) (by omega)  _ _ (hP) hS ls (lv_sub hl [1, 2, 3, 0] rfl)
set_option maxHeartbeats 4000000 in
set_option maxRecDepth 100000 in
theorem c4_take_ap (l : Launch) {D : va_G} {k : Nat → ClassId} {b : Nat → Nat} {n : Nat} {m : Nat} {fr : Nat → Nat} {to : Nat → Nat} {w : Nat → Int32} {th : Nat → Bool} {be : Nat → Int64} {oe : Nat → Int64} {al : Nat → Int64} {pa : Nat → Int64} {bo : Nat → Int64} {rl : Nat} {ra : Nat → Nat} {mo : Nat → Int64} (ha : inj 12 b)  (hg : gOK n m fr to) : Met l yX4_take wsX4_take ({ frames := 0, cells := 0, slots := 0, locals := 0 }) (gPc D k (mW k b n m fr to w th be oe al pa bo rl ra mo) [.ref (b 0), .ref (b 7)]) (va_Qv (S := Unit) (fun _ => True) (fun _ t => va_P D vwCl (mW k b n m fr to w th be oe (tkF n bo al) pa bo rl ra mo) t.heap) (mA b)) 0 0 (mA b) := by
  refine Met.ofW (cc := cX4_take) (maxL := 3) (ret := none) (by decide) rfl ?_
  intro p e s mt args below meth c s₁ B hml hv
  obtain ⟨rfl, hP, hK⟩ := hv
  have hx := B.exec
  have hb := B.bytes
  have hr := B.returns
  have hts := atoms_spec (ws := wsX4_take) B.pre
  have hown : s.vm.findClass RX4 = some mt.cls := findClass_of_methodNamed B.named
  have hlocks := B.notSynchronized
  have i4 : ∀ w ∈ wsX40, w ∈ wsX4_take := by decide +kernel
  have hS : va_S (mA b) s.heap s.heap [] := va_S.rf
  have hD : va_D (mA b) (mW k b n m fr to w th be oe al pa bo rl ra mo) := mW_D ha
  have hl := lv_entry ([.ref (b 0), .ref (b 7)]) (n := 3) (Nat.le_of_ble_eq_true rfl)
  rw [lg_entry_eq]
  generalize (lg_sl ([.ref (b 0), .ref (b 7)]) ++ List.replicate (3 - (lg_sl ([.ref (b 0), .ref (b 7)])).length) Slot.unset).toArray = ls at hl ⊢
  have hl : lv_has ls 3 [(0, .ref (b 0)), (1, .ref (b 7))] := hl
  obtain ⟨Q, hQ⟩ : ∃ Q, Q = MQ below (va_Qv (S := Unit) (fun _ => True) (fun _ t => va_P D vwCl (mW k b n m fr to w th be oe (tkF n bo al) pa bo rl ra mo) t.heap) (mA b)) ([.ref (b 0), .ref (b 7)] : List Value).toArray s 0 0 (mA b) := ⟨_, rfl⟩
  rw [← hQ]
  obtain ⟨hn12, hm40, hft⟩ := id hg
  refine lv_iconst (v := nI 0) hx hb dX4_take_0 (by decide) ?_
  refine lv_istore_n (lv' := [(2, .int (nI 0)), (0, .ref (b 0)), (1, .ref (b 7))]) hx hb dX4_take_1 rfl hl (by decide) rfl (fun ls hl => ?_)
  have key2 : ∀ (f2 i : Nat), 12 * n + 1 ≤ i + f2 → i ≤ 12 * n → ∀ (H : Heap) (locs : List Loc), va_P D vwCl (mW k b n m fr to w th be oe (fl (tkS bo) i al) pa bo rl ra mo) H → va_S (mA b) s.heap H locs → ∀ (ls : Array Slot), lv_has ls 3 [(0, .ref (b 0)), (1, .ref (b 7)), (2, .int (nI i))] → W p l e (headSpec wsX4_take { frames := 0, cells := 0, slots := 0, locals := 0 }).room s mt ([.ref (b 0), .ref (b 7)] : List Value).toArray below meth c H locs 0 0 Q (F0 mt 2 ls []) := by
    intro f2
    induction f2 with
    | zero => intro i h1 h2; exact absurd h1 (by omega)
    | succ f2 ih2 =>
      intro i hf2 hi2   H locs hP hS ls hl
      have hD : va_D (mA b) (mW k b n m fr to w th be oe (fl (tkS bo) i al) pa bo rl ra mo) := mW_D ha
      refine lv_iload_n hx hb dX4_take_2 rfl (lv_at hl 2 rfl) ?_
      refine lv_bipush (v := nI 12) hx hb dX4_take_3 (by decide) ?_
      refine lv_aload_n hx hb dX4_take_5 rfl (lv_at hl 0 rfl) ?_
      refine va_get (D := D) (ci := 4) (v := .int (nI n)) (C := RX4) (T := TX4) (N := 14) hx hb hts i4 hown hK hP 0 rfl rfl 0 (by decide) (hts (.fieldLink RX4 45 "SignedPathsModel" "n" "I") (by decide +kernel)) (fun _ h9 => h9) rfl dX4_take_6 ?_
      refine rn_imul hx hb  dX4_take_9 ?_
      refine rn_icmp_ge (tgt := 28) hx hb dX4_take_10 (by decide) (by omega) (by omega) (fun c10 => ?_) (fun c10 => ?_)
      · rw [hQ]
        exact W.vret hx hb hr (fun t ht hW => ⟨⟨(), rfl, trivial, by show va_P D vwCl (mW k b n m fr to w th be oe (tkF n bo al) pa bo rl ra mo) t.heap; rw [ht]; have e : i = 12 * n := (by omega); rw [e] at hP; exact hP⟩, hS.F ht⟩) hS.2.2 dX4_take_28
      · refine lv_aload_n hx hb dX4_take_13 rfl (lv_at hl 1 rfl) ?_
        refine lv_iload_n hx hb dX4_take_14 rfl (lv_at hl 2 rfl) ?_
        refine lv_aload_n hx hb dX4_take_15 rfl (lv_at hl 0 rfl) ?_
        refine va_get (D := D) (ci := 4) (v := .ref (b 9)) (C := RX4) (T := TX4) (N := 14) hx hb hts i4 hown hK hP 0 rfl rfl 10 (by decide) (hts (.fieldLink RX4 36 "SignedPathsModel" "both" "[J") (by decide +kernel)) (fun _ h9 => h9) rfl dX4_take_16 ?_
        refine lv_iload_n hx hb dX4_take_19 rfl (lv_at hl 2 rfl) ?_
        refine rn_lald (v := bo i) hx hb hK hP 9 3 rfl rfl (by omega) (by decide) rfl dX4_take_20 ?_
        refine rn_last (ws' := mW k b n m fr to w th be oe (va_up (fl (tkS bo) i al) i (bo i)) pa bo rl ra mo) hx hb hK hP hD hS 7 3 rfl rfl (by omega) (by decide) rfl dX4_take_21 (fun H locs hP hD hS => ?_)
        refine lv_iinc (v := nI (i + 1)) (lv' := [(2, .int (nI (i + 1))), (0, .ref (b 0)), (1, .ref (b 7))]) hx hb dX4_take_22 hl (k := 2) rfl (nI_1 i) (by decide) rfl (fun ls hl => ?_)
        refine lv_goto (tgt := 2) hx hb dX4_take_25 (by decide) ?_
        exact ih2 (i + 1) (by omega) (by omega)  _ _ (hP) hS ls (lv_sub hl [1, 2, 0] rfl)
  exact key2 (12 * n + 1) 0 (by omega) (by omega)  _ _ (hP) hS ls (lv_sub hl [1, 2, 0] rfl)
set_option maxHeartbeats 4000000 in
set_option maxRecDepth 100000 in
theorem c4_join_pp (l : Launch) {D : va_G} {k : Nat → ClassId} {b : Nat → Nat} {n : Nat} {m : Nat} {fr : Nat → Nat} {to : Nat → Nat} {w : Nat → Int32} {th : Nat → Bool} {be : Nat → Int64} {oe : Nat → Int64} {al : Nat → Int64} {pa : Nat → Int64} {bo : Nat → Int64} {rl : Nat} {ra : Nat → Nat} {mo : Nat → Int64} (ha : inj 12 b)  (hg : gOK n m fr to) : Met l yX4_join wsX4_join ({ frames := 0, cells := 0, slots := 0, locals := 0 }) (gPc D k (mW k b n m fr to w th be oe al pa bo rl ra mo) [.ref (b 0), .ref (b 8), .ref (b 8)]) (va_Qv (S := Unit) (fun _ => True) (fun _ t => va_P D vwCl (mW k b n m fr to w th be oe al pa (jnF n pa pa bo) rl ra mo) t.heap) (mA b)) 0 0 (mA b) := by
  refine Met.ofW (cc := cX4_join) (maxL := 12) (ret := none) (by decide) rfl ?_
  intro p e s mt args below meth c s₁ B hml hv
  obtain ⟨rfl, hP, hK⟩ := hv
  have hx := B.exec
  have hb := B.bytes
  have hr := B.returns
  have hts := atoms_spec (ws := wsX4_join) B.pre
  have hown : s.vm.findClass RX4 = some mt.cls := findClass_of_methodNamed B.named
  have hlocks := B.notSynchronized
  have i4 : ∀ w ∈ wsX40, w ∈ wsX4_join := by decide +kernel
  have hS : va_S (mA b) s.heap s.heap [] := va_S.rf
  have hD : va_D (mA b) (mW k b n m fr to w th be oe al pa bo rl ra mo) := mW_D ha
  have hl := lv_entry ([.ref (b 0), .ref (b 8), .ref (b 8)]) (n := 12) (Nat.le_of_ble_eq_true rfl)
  rw [lg_entry_eq]
  generalize (lg_sl ([.ref (b 0), .ref (b 8), .ref (b 8)]) ++ List.replicate (12 - (lg_sl ([.ref (b 0), .ref (b 8), .ref (b 8)])).length) Slot.unset).toArray = ls at hl ⊢
  have hl : lv_has ls 12 [(0, .ref (b 0)), (1, .ref (b 8)), (2, .ref (b 8))] := hl
  obtain ⟨Q, hQ⟩ : ∃ Q, Q = MQ below (va_Qv (S := Unit) (fun _ => True) (fun _ t => va_P D vwCl (mW k b n m fr to w th be oe al pa (jnF n pa pa bo) rl ra mo) t.heap) (mA b)) ([.ref (b 0), .ref (b 8), .ref (b 8)] : List Value).toArray s 0 0 (mA b) := ⟨_, rfl⟩
  rw [← hQ]
  obtain ⟨hn12, hm40, hft⟩ := id hg
  refine lv_iconst (v := nI 0) hx hb dX4_join_0 (by decide) ?_
  refine lv_istore_n (lv' := [(3, .int (nI 0)), (0, .ref (b 0)), (1, .ref (b 8)), (2, .ref (b 8))]) hx hb dX4_join_1 rfl hl (by decide) rfl (fun ls hl => ?_)
  have key2 : ∀ (f2 u : Nat), n + 1 ≤ u + f2 → u ≤ n → ∀ (H : Heap) (locs : List Loc), va_P D vwCl (mW k b n m fr to w th be oe al pa (fl (jnU n pa pa) u bo) rl ra mo) H → va_S (mA b) s.heap H locs → ∀ (ls : Array Slot), lv_has ls 12 [(0, .ref (b 0)), (1, .ref (b 8)), (2, .ref (b 8)), (3, .int (nI u))] → W p l e (headSpec wsX4_join { frames := 0, cells := 0, slots := 0, locals := 0 }).room s mt ([.ref (b 0), .ref (b 8), .ref (b 8)] : List Value).toArray below meth c H locs 0 0 Q (F0 mt 2 ls []) := by
    intro f2
    induction f2 with
    | zero => intro u h1 h2; exact absurd h1 (by omega)
    | succ f2 ih2 =>
      intro u hf2 hi2   H locs hP hS ls hl
      have hD : va_D (mA b) (mW k b n m fr to w th be oe al pa (fl (jnU n pa pa) u bo) rl ra mo) := mW_D ha
      refine lv_iload_n hx hb dX4_join_2 rfl (lv_at hl 3 rfl) ?_
      refine lv_aload_n hx hb dX4_join_3 rfl (lv_at hl 0 rfl) ?_
      refine va_get (D := D) (ci := 4) (v := .int (nI n)) (C := RX4) (T := TX4) (N := 14) hx hb hts i4 hown hK hP 0 rfl rfl 0 (by decide) (hts (.fieldLink RX4 45 "SignedPathsModel" "n" "I") (by decide +kernel)) (fun _ h9 => h9) rfl dX4_join_4 ?_
      refine rn_icmp_ge (tgt := 135) hx hb dX4_join_7 (by decide) (by omega) (by omega) (fun c7 => ?_) (fun c7 => ?_)
      · rw [hQ]
        exact W.vret hx hb hr (fun t ht hW => ⟨⟨(), rfl, trivial, by show va_P D vwCl (mW k b n m fr to w th be oe al pa (jnF n pa pa bo) rl ra mo) t.heap; rw [ht]; have e : u = n := (by omega); rw [e] at hP; exact hP⟩, hS.F ht⟩) hS.2.2 dX4_join_135
      · refine lv_iconst (v := nI 0) hx hb dX4_join_10 (by decide) ?_
        refine lv_istore (lv' := [(4, .int (nI 0)), (0, .ref (b 0)), (1, .ref (b 8)), (2, .ref (b 8)), (3, .int (nI u))]) hx hb dX4_join_11 hl (by decide) rfl (fun ls hl => ?_)
        have key13 : ∀ (f13 v : Nat), n + 1 ≤ v + f13 → v ≤ n → ∀ (H : Heap) (locs : List Loc), va_P D vwCl (mW k b n m fr to w th be oe al pa (fl (jnV n pa pa u) v (fl (jnU n pa pa) u bo)) rl ra mo) H → va_S (mA b) s.heap H locs → ∀ (ls : Array Slot), lv_has ls 12 [(0, .ref (b 0)), (1, .ref (b 8)), (2, .ref (b 8)), (3, .int (nI u)), (4, .int (nI v))] → W p l e (headSpec wsX4_join { frames := 0, cells := 0, slots := 0, locals := 0 }).room s mt ([.ref (b 0), .ref (b 8), .ref (b 8)] : List Value).toArray below meth c H locs 0 0 Q (F0 mt 13 ls []) := by
          intro f13
          induction f13 with
          | zero => intro v h1 h2; exact absurd h1 (by omega)
          | succ f13 ih13 =>
            intro v hf13 hi13   H locs hP hS ls hl
            have hD : va_D (mA b) (mW k b n m fr to w th be oe al pa (fl (jnV n pa pa u) v (fl (jnU n pa pa) u bo)) rl ra mo) := mW_D ha
            refine lv_iload hx hb dX4_join_13 (lv_at hl 4 rfl) ?_
            refine lv_aload_n hx hb dX4_join_15 rfl (lv_at hl 0 rfl) ?_
            refine va_get (D := D) (ci := 4) (v := .int (nI n)) (C := RX4) (T := TX4) (N := 14) hx hb hts i4 hown hK hP 0 rfl rfl 0 (by decide) (hts (.fieldLink RX4 45 "SignedPathsModel" "n" "I") (by decide +kernel)) (fun _ h9 => h9) rfl dX4_join_16 ?_
            refine rn_icmp_ge (tgt := 129) hx hb dX4_join_19 (by decide) (by omega) (by omega) (fun c19 => ?_) (fun c19 => ?_)
            · refine lv_iinc (v := nI (u + 1)) (lv' := [(3, .int (nI (u + 1))), (0, .ref (b 0)), (1, .ref (b 8)), (2, .ref (b 8)), (4, .int (nI v))]) hx hb dX4_join_129 hl (k := 3) rfl (nI_1 u) (by decide) rfl (fun ls hl => ?_)
              refine lv_goto (tgt := 2) hx hb dX4_join_132 (by decide) ?_
              exact ih2 (u + 1) (by omega) (by omega)  _ _ (by have e : v = n := (by omega); rw [e] at hP; exact hP) hS ls (lv_sub hl [1, 2, 3, 0] rfl)
            · refine lv_ldc2 (v := 1000000000000) hx hb hown (hts (.constantLong RX4 66 1000000000000) (by decide +kernel)) dX4_join_22 ?_
              refine lv_lstore (lv' := [(5, .long 1000000000000), (0, .ref (b 0)), (1, .ref (b 8)), (2, .ref (b 8)), (3, .int (nI u)), (4, .int (nI v))]) hx hb dX4_join_25 hl (by decide) rfl (fun ls hl => ?_)
              refine lv_iconst (v := nI 0) hx hb dX4_join_27 (by decide) ?_
              refine lv_istore (lv' := [(7, .int (nI 0)), (5, .long 1000000000000), (0, .ref (b 0)), (1, .ref (b 8)), (2, .ref (b 8)), (3, .int (nI u)), (4, .int (nI v))]) hx hb dX4_join_28 hl (by decide) rfl (fun ls hl => ?_)
              have key30 : ∀ (f30 x : Nat), n + 1 ≤ x + f30 → x ≤ n → ∀ (H : Heap) (locs : List Loc), va_P D vwCl (mW k b n m fr to w th be oe al pa (fl (jnV n pa pa u) v (fl (jnU n pa pa) u bo)) rl ra mo) H → va_S (mA b) s.heap H locs → ∀ (ls : Array Slot), lv_has ls 12 [(0, .ref (b 0)), (1, .ref (b 8)), (2, .ref (b 8)), (3, .int (nI u)), (4, .int (nI v)), (5, .long (fl (jnS pa pa u v) x 1000000000000)), (7, .int (nI x))] → W p l e (headSpec wsX4_join { frames := 0, cells := 0, slots := 0, locals := 0 }).room s mt ([.ref (b 0), .ref (b 8), .ref (b 8)] : List Value).toArray below meth c H locs 0 0 Q (F0 mt 30 ls []) := by
                intro f30
                induction f30 with
                | zero => intro x h1 h2; exact absurd h1 (by omega)
                | succ f30 ih30 =>
                  intro x hf30 hi30   H locs hP hS ls hl
                  have hD : va_D (mA b) (mW k b n m fr to w th be oe al pa (fl (jnV n pa pa u) v (fl (jnU n pa pa) u bo)) rl ra mo) := mW_D ha
                  refine lv_iload hx hb dX4_join_30 (lv_at hl 6 rfl) ?_
                  refine lv_aload_n hx hb dX4_join_32 rfl (lv_at hl 0 rfl) ?_
                  refine va_get (D := D) (ci := 4) (v := .int (nI n)) (C := RX4) (T := TX4) (N := 14) hx hb hts i4 hown hK hP 0 rfl rfl 0 (by decide) (hts (.fieldLink RX4 45 "SignedPathsModel" "n" "I") (by decide +kernel)) (fun _ h9 => h9) rfl dX4_join_33 ?_
                  refine rn_icmp_ge (tgt := 109) hx hb dX4_join_36 (by decide) (by omega) (by omega) (fun c36 => ?_) (fun c36 => ?_)
                  · refine lv_aload_n hx hb dX4_join_109 rfl (lv_at hl 0 rfl) ?_
                    refine va_get (D := D) (ci := 4) (v := .ref (b 9)) (C := RX4) (T := TX4) (N := 14) hx hb hts i4 hown hK hP 0 rfl rfl 10 (by decide) (hts (.fieldLink RX4 36 "SignedPathsModel" "both" "[J") (by decide +kernel)) (fun _ h9 => h9) rfl dX4_join_110 ?_
                    refine lv_bipush (v := nI 12) hx hb dX4_join_113 (by decide) ?_
                    refine lv_iload_n hx hb dX4_join_115 rfl (lv_at hl 3 rfl) ?_
                    refine rn_imul hx hb  dX4_join_116 ?_
                    refine lv_iload hx hb dX4_join_117 (lv_at hl 4 rfl) ?_
                    refine rn_iadd hx hb  dX4_join_119 ?_
                    refine lv_lload hx hb dX4_join_120 (lv_at hl 5 rfl) ?_
                    refine rn_last (ws' := mW k b n m fr to w th be oe al pa (va_up (fl (jnV n pa pa u) v (fl (jnU n pa pa) u bo)) ((12 * u) + v) (fl (jnS pa pa u v) x 1000000000000)) rl ra mo) hx hb hK hP hD hS 9 3 rfl rfl (by omega) (by decide) rfl dX4_join_122 (fun H locs hP hD hS => ?_)
                    refine lv_iinc (v := nI (v + 1)) (lv' := [(4, .int (nI (v + 1))), (0, .ref (b 0)), (1, .ref (b 8)), (2, .ref (b 8)), (3, .int (nI u)), (5, .long (fl (jnS pa pa u v) x 1000000000000)), (7, .int (nI x))]) hx hb dX4_join_123 hl (k := 4) rfl (nI_1 v) (by decide) rfl (fun ls hl => ?_)
                    refine lv_goto (tgt := 13) hx hb dX4_join_126 (by decide) ?_
                    exact ih13 (v + 1) (by omega) (by omega)  _ _ (by have e : x = n := (by omega); rw [e] at hP; exact hP) hS ls (lv_sub hl [1, 2, 3, 4, 0] rfl)
                  · refine lv_aload_n hx hb dX4_join_39 rfl (lv_at hl 1 rfl) ?_
                    refine lv_bipush (v := nI 12) hx hb dX4_join_40 (by decide) ?_
                    refine lv_iload_n hx hb dX4_join_42 rfl (lv_at hl 3 rfl) ?_
                    refine rn_imul hx hb  dX4_join_43 ?_
                    refine lv_iload hx hb dX4_join_44 (lv_at hl 6 rfl) ?_
                    refine rn_iadd hx hb  dX4_join_46 ?_
                    refine rn_lald (v := pa ((12 * u) + x)) hx hb hK hP 8 3 rfl rfl (by omega) (by decide) rfl dX4_join_47 ?_
                    refine lv_lstore (lv' := [(8, .long (pa ((12 * u) + x))), (0, .ref (b 0)), (1, .ref (b 8)), (2, .ref (b 8)), (3, .int (nI u)), (4, .int (nI v)), (5, .long (fl (jnS pa pa u v) x 1000000000000)), (7, .int (nI x))]) hx hb dX4_join_48 hl (by decide) rfl (fun ls hl => ?_)
                    refine lv_aload_n hx hb dX4_join_50 rfl (lv_at hl 3 rfl) ?_
                    refine lv_bipush (v := nI 12) hx hb dX4_join_51 (by decide) ?_
                    refine lv_iload hx hb dX4_join_53 (lv_at hl 7 rfl) ?_
                    refine rn_imul hx hb  dX4_join_55 ?_
                    refine lv_iload hx hb dX4_join_56 (lv_at hl 5 rfl) ?_
                    refine rn_iadd hx hb  dX4_join_58 ?_
                    refine rn_lald (v := pa ((12 * x) + v)) hx hb hK hP 8 3 rfl rfl (by omega) (by decide) rfl dX4_join_59 ?_
                    refine lv_lstore (lv' := [(10, .long (pa ((12 * x) + v))), (8, .long (pa ((12 * u) + x))), (0, .ref (b 0)), (1, .ref (b 8)), (2, .ref (b 8)), (3, .int (nI u)), (4, .int (nI v)), (5, .long (fl (jnS pa pa u v) x 1000000000000)), (7, .int (nI x))]) hx hb dX4_join_60 hl (by decide) rfl (fun ls hl => ?_)
                    refine lv_lload hx hb dX4_join_62 (lv_at hl 1 rfl) ?_
                    refine lv_ldc2 (v := 1000000000000) hx hb hown (hts (.constantLong RX4 66 1000000000000) (by decide +kernel)) dX4_join_64 ?_
                    refine rn_lcmp_ge (tgt := 99) hx hb dX4_join_67 dX4_join_68 (by decide) (fun c67 => ?_) (fun c67 => ?_)
                    · refine lv_lload hx hb dX4_join_99 (lv_at hl 7 rfl) ?_
                      refine lv_lstore (lv' := [(5, .long (fl (jnS pa pa u v) x 1000000000000)), (10, .long (pa ((12 * x) + v))), (8, .long (pa ((12 * u) + x))), (0, .ref (b 0)), (1, .ref (b 8)), (2, .ref (b 8)), (3, .int (nI u)), (4, .int (nI v)), (7, .int (nI x))]) hx hb dX4_join_101 hl (by decide) rfl (fun ls hl => ?_)
                      refine lv_iinc (v := nI (x + 1)) (lv' := [(7, .int (nI (x + 1))), (5, .long (fl (jnS pa pa u v) x 1000000000000)), (10, .long (pa ((12 * x) + v))), (8, .long (pa ((12 * u) + x))), (0, .ref (b 0)), (1, .ref (b 8)), (2, .ref (b 8)), (3, .int (nI u)), (4, .int (nI v))]) hx hb dX4_join_103 hl (k := 8) rfl (nI_1 x) (by decide) rfl (fun ls hl => ?_)
                      refine lv_goto (tgt := 30) hx hb dX4_join_106 (by decide) ?_
                      have jnq : fl (jnS pa pa u v) (x + 1) 1000000000000 = fl (jnS pa pa u v) x 1000000000000 := by rw [fl_s, jnS, if_pos c67]
                      exact ih30 (x + 1) (by omega) (by omega)  _ _ (hP) hS ls (lv_sub hl [4, 5, 6, 7, 8, 1, 0] (by rw [jnq]; rfl))
                    · refine lv_lload hx hb dX4_join_71 (lv_at hl 0 rfl) ?_
                      refine lv_ldc2 (v := 1000000000000) hx hb hown (hts (.constantLong RX4 66 1000000000000) (by decide +kernel)) dX4_join_73 ?_
                      refine rn_lcmp_ge (tgt := 99) hx hb dX4_join_76 dX4_join_77 (by decide) (fun c76 => ?_) (fun c76 => ?_)
                      · refine lv_lload hx hb dX4_join_99 (lv_at hl 7 rfl) ?_
                        refine lv_lstore (lv' := [(5, .long (fl (jnS pa pa u v) x 1000000000000)), (10, .long (pa ((12 * x) + v))), (8, .long (pa ((12 * u) + x))), (0, .ref (b 0)), (1, .ref (b 8)), (2, .ref (b 8)), (3, .int (nI u)), (4, .int (nI v)), (7, .int (nI x))]) hx hb dX4_join_101 hl (by decide) rfl (fun ls hl => ?_)
                        refine lv_iinc (v := nI (x + 1)) (lv' := [(7, .int (nI (x + 1))), (5, .long (fl (jnS pa pa u v) x 1000000000000)), (10, .long (pa ((12 * x) + v))), (8, .long (pa ((12 * u) + x))), (0, .ref (b 0)), (1, .ref (b 8)), (2, .ref (b 8)), (3, .int (nI u)), (4, .int (nI v))]) hx hb dX4_join_103 hl (k := 8) rfl (nI_1 x) (by decide) rfl (fun ls hl => ?_)
                        refine lv_goto (tgt := 30) hx hb dX4_join_106 (by decide) ?_
                        have jnq : fl (jnS pa pa u v) (x + 1) 1000000000000 = fl (jnS pa pa u v) x 1000000000000 := by rw [fl_s, jnS, if_neg c67, if_pos c76]
                        exact ih30 (x + 1) (by omega) (by omega)  _ _ (hP) hS ls (lv_sub hl [4, 5, 6, 7, 8, 1, 0] (by rw [jnq]; rfl))
                      · refine lv_lload hx hb dX4_join_80 (lv_at hl 1 rfl) ?_
                        refine lv_lload hx hb dX4_join_82 (lv_at hl 0 rfl) ?_
                        refine lv_ladd hx hb dX4_join_84  ?_
                        refine lv_lload hx hb dX4_join_85 (lv_at hl 7 rfl) ?_
                        refine rn_lcmp_ge (tgt := 99) hx hb dX4_join_87 dX4_join_88 (by decide) (fun c87 => ?_) (fun c87 => ?_)
                        · refine lv_lload hx hb dX4_join_99 (lv_at hl 7 rfl) ?_
                          refine lv_lstore (lv' := [(5, .long (fl (jnS pa pa u v) x 1000000000000)), (10, .long (pa ((12 * x) + v))), (8, .long (pa ((12 * u) + x))), (0, .ref (b 0)), (1, .ref (b 8)), (2, .ref (b 8)), (3, .int (nI u)), (4, .int (nI v)), (7, .int (nI x))]) hx hb dX4_join_101 hl (by decide) rfl (fun ls hl => ?_)
                          refine lv_iinc (v := nI (x + 1)) (lv' := [(7, .int (nI (x + 1))), (5, .long (fl (jnS pa pa u v) x 1000000000000)), (10, .long (pa ((12 * x) + v))), (8, .long (pa ((12 * u) + x))), (0, .ref (b 0)), (1, .ref (b 8)), (2, .ref (b 8)), (3, .int (nI u)), (4, .int (nI v))]) hx hb dX4_join_103 hl (k := 8) rfl (nI_1 x) (by decide) rfl (fun ls hl => ?_)
                          refine lv_goto (tgt := 30) hx hb dX4_join_106 (by decide) ?_
                          have jnq : fl (jnS pa pa u v) (x + 1) 1000000000000 = fl (jnS pa pa u v) x 1000000000000 := by rw [fl_s, jnS, if_neg c67, if_neg c76, if_pos c87]
                          exact ih30 (x + 1) (by omega) (by omega)  _ _ (hP) hS ls (lv_sub hl [4, 5, 6, 7, 8, 1, 0] (by rw [jnq]; rfl))
                        · refine lv_lload hx hb dX4_join_91 (lv_at hl 1 rfl) ?_
                          refine lv_lload hx hb dX4_join_93 (lv_at hl 0 rfl) ?_
                          refine lv_ladd hx hb dX4_join_95  ?_
                          refine lv_goto (tgt := 101) hx hb dX4_join_96 (by decide) ?_
                          refine lv_lstore (lv' := [(5, .long ((pa ((12 * u) + x)) + (pa ((12 * x) + v)))), (10, .long (pa ((12 * x) + v))), (8, .long (pa ((12 * u) + x))), (0, .ref (b 0)), (1, .ref (b 8)), (2, .ref (b 8)), (3, .int (nI u)), (4, .int (nI v)), (7, .int (nI x))]) hx hb dX4_join_101 hl (by decide) rfl (fun ls hl => ?_)
                          refine lv_iinc (v := nI (x + 1)) (lv' := [(7, .int (nI (x + 1))), (5, .long ((pa ((12 * u) + x)) + (pa ((12 * x) + v)))), (10, .long (pa ((12 * x) + v))), (8, .long (pa ((12 * u) + x))), (0, .ref (b 0)), (1, .ref (b 8)), (2, .ref (b 8)), (3, .int (nI u)), (4, .int (nI v))]) hx hb dX4_join_103 hl (k := 8) rfl (nI_1 x) (by decide) rfl (fun ls hl => ?_)
                          refine lv_goto (tgt := 30) hx hb dX4_join_106 (by decide) ?_
                          have jnq : fl (jnS pa pa u v) (x + 1) 1000000000000 = pa (12 * u + x) + pa (12 * x + v) := by rw [fl_s, jnS, if_neg c67, if_neg c76, if_neg c87]
                          exact ih30 (x + 1) (by omega) (by omega)  _ _ (hP) hS ls (lv_sub hl [4, 5, 6, 7, 8, 1, 0] (by rw [jnq]; rfl))
              exact key30 (n + 1) 0 (by omega) (by omega)  _ _ (hP) hS ls (lv_sub hl [2, 3, 4, 5, 6, 1, 0] rfl)
        exact key13 (n + 1) 0 (by omega) (by omega)  _ _ (hP) hS ls (lv_sub hl [1, 2, 3, 4, 0] rfl)
  exact key2 (n + 1) 0 (by omega) (by omega)  _ _ (hP) hS ls (lv_sub hl [1, 2, 3, 0] rfl)
set_option maxHeartbeats 4000000 in
set_option maxRecDepth 100000 in
theorem c4_take_pp (l : Launch) {D : va_G} {k : Nat → ClassId} {b : Nat → Nat} {n : Nat} {m : Nat} {fr : Nat → Nat} {to : Nat → Nat} {w : Nat → Int32} {th : Nat → Bool} {be : Nat → Int64} {oe : Nat → Int64} {al : Nat → Int64} {pa : Nat → Int64} {bo : Nat → Int64} {rl : Nat} {ra : Nat → Nat} {mo : Nat → Int64} (ha : inj 12 b)  (hg : gOK n m fr to) : Met l yX4_take wsX4_take ({ frames := 0, cells := 0, slots := 0, locals := 0 }) (gPc D k (mW k b n m fr to w th be oe al pa bo rl ra mo) [.ref (b 0), .ref (b 8)]) (va_Qv (S := Unit) (fun _ => True) (fun _ t => va_P D vwCl (mW k b n m fr to w th be oe al (tkF n bo pa) bo rl ra mo) t.heap) (mA b)) 0 0 (mA b) := by
  refine Met.ofW (cc := cX4_take) (maxL := 3) (ret := none) (by decide) rfl ?_
  intro p e s mt args below meth c s₁ B hml hv
  obtain ⟨rfl, hP, hK⟩ := hv
  have hx := B.exec
  have hb := B.bytes
  have hr := B.returns
  have hts := atoms_spec (ws := wsX4_take) B.pre
  have hown : s.vm.findClass RX4 = some mt.cls := findClass_of_methodNamed B.named
  have hlocks := B.notSynchronized
  have i4 : ∀ w ∈ wsX40, w ∈ wsX4_take := by decide +kernel
  have hS : va_S (mA b) s.heap s.heap [] := va_S.rf
  have hD : va_D (mA b) (mW k b n m fr to w th be oe al pa bo rl ra mo) := mW_D ha
  have hl := lv_entry ([.ref (b 0), .ref (b 8)]) (n := 3) (Nat.le_of_ble_eq_true rfl)
  rw [lg_entry_eq]
  generalize (lg_sl ([.ref (b 0), .ref (b 8)]) ++ List.replicate (3 - (lg_sl ([.ref (b 0), .ref (b 8)])).length) Slot.unset).toArray = ls at hl ⊢
  have hl : lv_has ls 3 [(0, .ref (b 0)), (1, .ref (b 8))] := hl
  obtain ⟨Q, hQ⟩ : ∃ Q, Q = MQ below (va_Qv (S := Unit) (fun _ => True) (fun _ t => va_P D vwCl (mW k b n m fr to w th be oe al (tkF n bo pa) bo rl ra mo) t.heap) (mA b)) ([.ref (b 0), .ref (b 8)] : List Value).toArray s 0 0 (mA b) := ⟨_, rfl⟩
  rw [← hQ]
  obtain ⟨hn12, hm40, hft⟩ := id hg
  refine lv_iconst (v := nI 0) hx hb dX4_take_0 (by decide) ?_
  refine lv_istore_n (lv' := [(2, .int (nI 0)), (0, .ref (b 0)), (1, .ref (b 8))]) hx hb dX4_take_1 rfl hl (by decide) rfl (fun ls hl => ?_)
  have key2 : ∀ (f2 i : Nat), 12 * n + 1 ≤ i + f2 → i ≤ 12 * n → ∀ (H : Heap) (locs : List Loc), va_P D vwCl (mW k b n m fr to w th be oe al (fl (tkS bo) i pa) bo rl ra mo) H → va_S (mA b) s.heap H locs → ∀ (ls : Array Slot), lv_has ls 3 [(0, .ref (b 0)), (1, .ref (b 8)), (2, .int (nI i))] → W p l e (headSpec wsX4_take { frames := 0, cells := 0, slots := 0, locals := 0 }).room s mt ([.ref (b 0), .ref (b 8)] : List Value).toArray below meth c H locs 0 0 Q (F0 mt 2 ls []) := by
    intro f2
    induction f2 with
    | zero => intro i h1 h2; exact absurd h1 (by omega)
    | succ f2 ih2 =>
      intro i hf2 hi2   H locs hP hS ls hl
      have hD : va_D (mA b) (mW k b n m fr to w th be oe al (fl (tkS bo) i pa) bo rl ra mo) := mW_D ha
      refine lv_iload_n hx hb dX4_take_2 rfl (lv_at hl 2 rfl) ?_
      refine lv_bipush (v := nI 12) hx hb dX4_take_3 (by decide) ?_
      refine lv_aload_n hx hb dX4_take_5 rfl (lv_at hl 0 rfl) ?_
      refine va_get (D := D) (ci := 4) (v := .int (nI n)) (C := RX4) (T := TX4) (N := 14) hx hb hts i4 hown hK hP 0 rfl rfl 0 (by decide) (hts (.fieldLink RX4 45 "SignedPathsModel" "n" "I") (by decide +kernel)) (fun _ h9 => h9) rfl dX4_take_6 ?_
      refine rn_imul hx hb  dX4_take_9 ?_
      refine rn_icmp_ge (tgt := 28) hx hb dX4_take_10 (by decide) (by omega) (by omega) (fun c10 => ?_) (fun c10 => ?_)
      · rw [hQ]
        exact W.vret hx hb hr (fun t ht hW => ⟨⟨(), rfl, trivial, by show va_P D vwCl (mW k b n m fr to w th be oe al (tkF n bo pa) bo rl ra mo) t.heap; rw [ht]; have e : i = 12 * n := (by omega); rw [e] at hP; exact hP⟩, hS.F ht⟩) hS.2.2 dX4_take_28
      · refine lv_aload_n hx hb dX4_take_13 rfl (lv_at hl 1 rfl) ?_
        refine lv_iload_n hx hb dX4_take_14 rfl (lv_at hl 2 rfl) ?_
        refine lv_aload_n hx hb dX4_take_15 rfl (lv_at hl 0 rfl) ?_
        refine va_get (D := D) (ci := 4) (v := .ref (b 9)) (C := RX4) (T := TX4) (N := 14) hx hb hts i4 hown hK hP 0 rfl rfl 10 (by decide) (hts (.fieldLink RX4 36 "SignedPathsModel" "both" "[J") (by decide +kernel)) (fun _ h9 => h9) rfl dX4_take_16 ?_
        refine lv_iload_n hx hb dX4_take_19 rfl (lv_at hl 2 rfl) ?_
        refine rn_lald (v := bo i) hx hb hK hP 9 3 rfl rfl (by omega) (by decide) rfl dX4_take_20 ?_
        refine rn_last (ws' := mW k b n m fr to w th be oe al (va_up (fl (tkS bo) i pa) i (bo i)) bo rl ra mo) hx hb hK hP hD hS 8 3 rfl rfl (by omega) (by decide) rfl dX4_take_21 (fun H locs hP hD hS => ?_)
        refine lv_iinc (v := nI (i + 1)) (lv' := [(2, .int (nI (i + 1))), (0, .ref (b 0)), (1, .ref (b 8))]) hx hb dX4_take_22 hl (k := 2) rfl (nI_1 i) (by decide) rfl (fun ls hl => ?_)
        refine lv_goto (tgt := 2) hx hb dX4_take_25 (by decide) ?_
        exact ih2 (i + 1) (by omega) (by omega)  _ _ (hP) hS ls (lv_sub hl [1, 2, 0] rfl)
  exact key2 (12 * n + 1) 0 (by omega) (by omega)  _ _ (hP) hS ls (lv_sub hl [1, 2, 0] rfl)
set_option maxHeartbeats 4000000 in
set_option maxRecDepth 100000 in
theorem c4_findAll (l : Launch) {D : va_G} {k : Nat → ClassId} {b : Nat → Nat} {n : Nat} {m : Nat} {fr : Nat → Nat} {to : Nat → Nat} {w : Nat → Int32} {th : Nat → Bool} {be : Nat → Int64} {oe : Nat → Int64} {al : Nat → Int64} {pa : Nat → Int64} {bo : Nat → Int64} {rl : Nat} {ra : Nat → Nat} {mo : Nat → Int64} (ha : inj 12 b) (x : Nat) (hg : gOK n m fr to) (hx1 : x ≤ 20) : Met l yX4_findAll wsX4_findAll ({ frames := 1, cells := 0, slots := 0, locals := 31 }) (gPc D k (mW k b n m fr to w th be oe al pa bo rl ra mo) [.ref (b 0), .int (nI x)]) (va_Qv (S := Unit) (fun _ => True) (fun _ t => va_P D vwCl (mW k b n m fr to w th be oe ((fgR n m fr to w th al pa bo x).1) ((fgR n m fr to w th al pa bo x).2.1) ((fgR n m fr to w th al pa bo x).2.2) rl ra mo) t.heap) (mA b)) 0 0 (mA b) := by
  refine Met.ofW (cc := cX4_findAll) (maxL := 4) (ret := none) (by decide) rfl ?_
  intro p e s mt args below meth c s₁ B hml hv
  obtain ⟨rfl, hP, hK⟩ := hv
  have hx := B.exec
  have hb := B.bytes
  have hr := B.returns
  have hts := atoms_spec (ws := wsX4_findAll) B.pre
  have hown : s.vm.findClass RX4 = some mt.cls := findClass_of_methodNamed B.named
  have hlocks := B.notSynchronized
  have i4 : ∀ w ∈ wsX40, w ∈ wsX4_findAll := by decide +kernel
  have hS : va_S (mA b) s.heap s.heap [] := va_S.rf
  have hD : va_D (mA b) (mW k b n m fr to w th be oe al pa bo rl ra mo) := mW_D ha
  have hl := lv_entry ([.ref (b 0), .int (nI x)]) (n := 4) (Nat.le_of_ble_eq_true rfl)
  rw [lg_entry_eq]
  generalize (lg_sl ([.ref (b 0), .int (nI x)]) ++ List.replicate (4 - (lg_sl ([.ref (b 0), .int (nI x)])).length) Slot.unset).toArray = ls at hl ⊢
  have hl : lv_has ls 4 [(0, .ref (b 0)), (1, .int (nI x))] := hl
  obtain ⟨Q, hQ⟩ : ∃ Q, Q = MQ below (va_Qv (S := Unit) (fun _ => True) (fun _ t => va_P D vwCl (mW k b n m fr to w th be oe ((fgR n m fr to w th al pa bo x).1) ((fgR n m fr to w th al pa bo x).2.1) ((fgR n m fr to w th al pa bo x).2.2) rl ra mo) t.heap) (mA b)) ([.ref (b 0), .int (nI x)] : List Value).toArray s 0 0 (mA b) := ⟨_, rfl⟩
  rw [← hQ]
  obtain ⟨hn12, hm40, hft⟩ := id hg
  refine lv_iconst (v := nI 0) hx hb dX4_findAll_0 (by decide) ?_
  refine lv_istore_n (lv' := [(2, .int (nI 0)), (0, .ref (b 0)), (1, .int (nI x))]) hx hb dX4_findAll_1 rfl hl (by decide) rfl (fun ls hl => ?_)
  have key2 : ∀ (f2 i : Nat), 12 * n + 1 ≤ i + f2 → i ≤ 12 * n → ∀ (H : Heap) (locs : List Loc), va_P D vwCl (mW k b n m fr to w th be oe (fl fb1 i al) (fl fb1 i pa) bo rl ra mo) H → va_S (mA b) s.heap H locs → ∀ (ls : Array Slot), lv_has ls 4 [(0, .ref (b 0)), (1, .int (nI x)), (2, .int (nI i))] → W p l e (headSpec wsX4_findAll { frames := 1, cells := 0, slots := 0, locals := 31 }).room s mt ([.ref (b 0), .int (nI x)] : List Value).toArray below meth c H locs 0 0 Q (F0 mt 2 ls []) := by
    intro f2
    induction f2 with
    | zero => intro i h1 h2; exact absurd h1 (by omega)
    | succ f2 ih2 =>
      intro i hf2 hi2   H locs hP hS ls hl
      have hD : va_D (mA b) (mW k b n m fr to w th be oe (fl fb1 i al) (fl fb1 i pa) bo rl ra mo) := mW_D ha
      refine lv_iload_n hx hb dX4_findAll_2 rfl (lv_at hl 2 rfl) ?_
      refine lv_bipush (v := nI 12) hx hb dX4_findAll_3 (by decide) ?_
      refine lv_aload_n hx hb dX4_findAll_5 rfl (lv_at hl 0 rfl) ?_
      refine va_get (D := D) (ci := 4) (v := .int (nI n)) (C := RX4) (T := TX4) (N := 14) hx hb hts i4 hown hK hP 0 rfl rfl 0 (by decide) (hts (.fieldLink RX4 45 "SignedPathsModel" "n" "I") (by decide +kernel)) (fun _ h9 => h9) rfl dX4_findAll_6 ?_
      refine rn_imul hx hb  dX4_findAll_9 ?_
      refine rn_icmp_ge (tgt := 55) hx hb dX4_findAll_10 (by decide) (by omega) (by omega) (fun c10 => ?_) (fun c10 => ?_)
      · refine lv_iconst (v := nI 0) hx hb dX4_findAll_55 (by decide) ?_
        refine lv_istore_n (lv' := [(2, .int (nI 0)), (0, .ref (b 0)), (1, .int (nI x))]) hx hb dX4_findAll_56 rfl hl (by decide) rfl (fun ls hl => ?_)
        have key57 : ∀ (f57 i : Nat), m + 1 ≤ i + f57 → i ≤ m → ∀ (H : Heap) (locs : List Loc), va_P D vwCl (mW k b n m fr to w th be oe (fl fb1 (12 * n) al) (fl (fa2 fr to w th) i (fl fb1 (12 * n) pa)) bo rl ra mo) H → va_S (mA b) s.heap H locs → ∀ (ls : Array Slot), lv_has ls 4 [(0, .ref (b 0)), (1, .int (nI x)), (2, .int (nI i))] → W p l e (headSpec wsX4_findAll { frames := 1, cells := 0, slots := 0, locals := 31 }).room s mt ([.ref (b 0), .int (nI x)] : List Value).toArray below meth c H locs 0 0 Q (F0 mt 57 ls []) := by
          intro f57
          induction f57 with
          | zero => intro i h1 h2; exact absurd h1 (by omega)
          | succ f57 ih57 =>
            intro i hf57 hi57   H locs hP hS ls hl
            have hD : va_D (mA b) (mW k b n m fr to w th be oe (fl fb1 (12 * n) al) (fl (fa2 fr to w th) i (fl fb1 (12 * n) pa)) bo rl ra mo) := mW_D ha
            refine lv_iload_n hx hb dX4_findAll_57 rfl (lv_at hl 2 rfl) ?_
            refine lv_aload_n hx hb dX4_findAll_58 rfl (lv_at hl 0 rfl) ?_
            refine va_get (D := D) (ci := 4) (v := .int (nI m)) (C := RX4) (T := TX4) (N := 14) hx hb hts i4 hown hK hP 0 rfl rfl 1 (by decide) (hts (.fieldLink RX4 53 "SignedPathsModel" "arcs" "I") (by decide +kernel)) (fun _ h9 => h9) rfl dX4_findAll_59 ?_
            refine rn_icmp_ge (tgt := 136) hx hb dX4_findAll_62 (by decide) (by omega) (by omega) (fun c62 => ?_) (fun c62 => ?_)
            · refine lv_iload_n hx hb dX4_findAll_136 rfl (lv_at hl 1 rfl) ?_
              refine lv_istore_n (lv' := [(2, .int (nI x)), (0, .ref (b 0)), (1, .int (nI x))]) hx hb dX4_findAll_137 rfl hl (by decide) rfl (fun ls hl => ?_)
              have key138 : ∀ (f138 i : Nat), x + 1 ≤ i + f138 → i ≤ x → ∀ (q1 : Nat), ∀ (t1 : T3), (q1 + i ≤ x ∧ pwF n (x - i) q1 t1 = fgR n m fr to w th al pa bo x) → ∀ (H : Heap) (locs : List Loc), va_P D vwCl (mW k b n m fr to w th be oe t1.1 t1.2.1 t1.2.2 rl ra mo) H → va_S (mA b) s.heap H locs → ∀ (ls : Array Slot), lv_has ls 4 [(0, .ref (b 0)), (1, .int (nI x)), (2, .int (nI q1))] → W p l e (headSpec wsX4_findAll { frames := 1, cells := 0, slots := 0, locals := 31 }).room s mt ([.ref (b 0), .int (nI x)] : List Value).toArray below meth c H locs 0 0 Q (F0 mt 138 ls []) := by
                intro f138
                induction f138 with
                | zero => intro i h1 h2; exact absurd h1 (by omega)
                | succ f138 ih138 =>
                  intro i hf138 hi138 q1 t1 hv138 H locs hP hS ls hl
                  have hD : va_D (mA b) (mW k b n m fr to w th be oe t1.1 t1.2.1 t1.2.2 rl ra mo) := mW_D ha
                  refine lv_iload_n hx hb dX4_findAll_138 rfl (lv_at hl 2 rfl) ?_
                  refine lv_if_le (tgt := 196) hx hb dX4_findAll_139 (by decide) (fun c139 => ?_) (fun c139 => ?_)
                  · have q0 : q1 = 0 := by rcases Nat.eq_zero_or_pos q1 with q | q; exact q; exact absurd c139 (nI_nle q (by omega))
                    rw [hQ]
                    exact W.vret hx hb hr (fun t ht hW => ⟨⟨(), rfl, trivial, by show va_P D vwCl (mW k b n m fr to w th be oe ((fgR n m fr to w th al pa bo x).1) ((fgR n m fr to w th al pa bo x).2.1) ((fgR n m fr to w th al pa bo x).2.2) rl ra mo) t.heap; rw [ht]; rw [q0, pwF_0] at hv138; rw [← hv138.2]; exact hP⟩, hS.F ht⟩) hS.2.2 dX4_findAll_196
                  · have q0 : 0 < q1 := by rcases Nat.eq_zero_or_pos q1 with q | q; (exact absurd (by rw [q]; decide) c139); exact q
                    refine lv_iload_n hx hb dX4_findAll_142 rfl (lv_at hl 2 rfl) ?_
                    refine lv_iconst (v := nI 2) hx hb dX4_findAll_143 (by decide) ?_
                    refine rn_irem hx hb (by omega) (by omega) (by omega) dX4_findAll_144 ?_
                    refine lv_iconst (v := nI 1) hx hb dX4_findAll_145 (by decide) ?_
                    refine rn_icmp_ne (tgt := 169) hx hb dX4_findAll_146 (by decide) (by omega) (by omega) (fun c146 => ?_) (fun c146 => ?_)
                    · refine lv_aload_n hx hb dX4_findAll_169 rfl (lv_at hl 0 rfl) ?_
                      refine lv_aload_n hx hb dX4_findAll_170 rfl (lv_at hl 0 rfl) ?_
                      refine va_get (D := D) (ci := 4) (v := .ref (b 8)) (C := RX4) (T := TX4) (N := 14) hx hb hts i4 hown hK hP 0 rfl rfl 9 (by decide) (hts (.fieldLink RX4 33 "SignedPathsModel" "part" "[J") (by decide +kernel)) (fun _ h9 => h9) rfl dX4_findAll_171 ?_
                      refine lv_aload_n hx hb dX4_findAll_174 rfl (lv_at hl 0 rfl) ?_
                      refine va_get (D := D) (ci := 4) (v := .ref (b 8)) (C := RX4) (T := TX4) (N := 14) hx hb hts i4 hown hK hP 0 rfl rfl 9 (by decide) (hts (.fieldLink RX4 33 "SignedPathsModel" "part" "[J") (by decide +kernel)) (fun _ h9 => h9) rfl dX4_findAll_175 ?_
                      refine cl_Qv (As := [.ref (b 8), .ref (b 8)]) (rest := []) ⟨hx, hb, hml, hown, hts⟩ (c4_join_pp l ha  hg) (cwV 2 hts gX4_findAll_X4_join rfl rfl rfl (by decide +kernel) ⟨Nat.le_of_ble_eq_true rfl, Nat.le_of_ble_eq_true rfl⟩) hK hP hS (fun _ h => h) (ci := 4) (q0 := 0) rfl rfl rfl rfl hl.1 rfl (Nat.le_of_ble_eq_true rfl) dX4_findAll_178 ⟨Nat.zero_le _, Nat.zero_le _⟩ (fun H locs h178 hP _ _ hS => ?_)
                      have hP : va_P D vwCl (mW k b n m fr to w th be oe t1.1 t1.2.1 (jnF n t1.2.1 t1.2.1 t1.2.2) rl ra mo) H := hP
                      have hD : va_D (mA b) (mW k b n m fr to w th be oe t1.1 t1.2.1 (jnF n t1.2.1 t1.2.1 t1.2.2) rl ra mo) := mW_D ha
                      refine lv_aload_n hx hb dX4_findAll_181 rfl (lv_at hl 0 rfl) ?_
                      refine lv_aload_n hx hb dX4_findAll_182 rfl (lv_at hl 0 rfl) ?_
                      refine va_get (D := D) (ci := 4) (v := .ref (b 8)) (C := RX4) (T := TX4) (N := 14) hx hb hts i4 hown hK hP 0 rfl rfl 9 (by decide) (hts (.fieldLink RX4 33 "SignedPathsModel" "part" "[J") (by decide +kernel)) (fun _ h9 => h9) rfl dX4_findAll_183 ?_
                      refine cl_Qv (As := [.ref (b 8)]) (rest := []) ⟨hx, hb, hml, hown, hts⟩ (c4_take_pp l ha  hg) (cwV 1 hts gX4_findAll_X4_take rfl rfl rfl (by decide +kernel) ⟨Nat.le_of_ble_eq_true rfl, Nat.le_of_ble_eq_true rfl⟩) hK hP hS (fun _ h => h) (ci := 4) (q0 := 0) rfl rfl rfl rfl hl.1 rfl (Nat.le_of_ble_eq_true rfl) dX4_findAll_186 ⟨Nat.zero_le _, Nat.zero_le _⟩ (fun H locs h186 hP _ _ hS => ?_)
                      have hP : va_P D vwCl (mW k b n m fr to w th be oe t1.1 (tkF n (jnF n t1.2.1 t1.2.1 t1.2.2) t1.2.1) (jnF n t1.2.1 t1.2.1 t1.2.2) rl ra mo) H := hP
                      have hD : va_D (mA b) (mW k b n m fr to w th be oe t1.1 (tkF n (jnF n t1.2.1 t1.2.1 t1.2.2) t1.2.1) (jnF n t1.2.1 t1.2.1 t1.2.2) rl ra mo) := mW_D ha
                      refine lv_iload_n hx hb dX4_findAll_189 rfl (lv_at hl 2 rfl) ?_
                      refine lv_iconst (v := nI 2) hx hb dX4_findAll_190 (by decide) ?_
                      refine rn_idiv hx hb (by omega) (by omega) (by omega) dX4_findAll_191 ?_
                      refine lv_istore_n (lv' := [(2, .int (nI (q1 / 2))), (0, .ref (b 0)), (1, .int (nI x))]) hx hb dX4_findAll_192 rfl hl (by decide) rfl (fun ls hl => ?_)
                      refine lv_goto (tgt := 138) hx hb dX4_findAll_193 (by decide) ?_
                      exact ih138 (i + 1) (by omega) (by omega) (q1 / 2) (pwE n t1) ⟨by omega, by rw [← hv138.2, show x - i = (x - (i + 1)) + 1 by omega, pwF_s q0, if_neg c146]⟩ _ _ (hP) hS ls (lv_sub hl [1, 2, 0] rfl)
                    · refine lv_aload_n hx hb dX4_findAll_149 rfl (lv_at hl 0 rfl) ?_
                      refine lv_aload_n hx hb dX4_findAll_150 rfl (lv_at hl 0 rfl) ?_
                      refine va_get (D := D) (ci := 4) (v := .ref (b 7)) (C := RX4) (T := TX4) (N := 14) hx hb hts i4 hown hK hP 0 rfl rfl 8 (by decide) (hts (.fieldLink RX4 30 "SignedPathsModel" "all" "[J") (by decide +kernel)) (fun _ h9 => h9) rfl dX4_findAll_151 ?_
                      refine lv_aload_n hx hb dX4_findAll_154 rfl (lv_at hl 0 rfl) ?_
                      refine va_get (D := D) (ci := 4) (v := .ref (b 8)) (C := RX4) (T := TX4) (N := 14) hx hb hts i4 hown hK hP 0 rfl rfl 9 (by decide) (hts (.fieldLink RX4 33 "SignedPathsModel" "part" "[J") (by decide +kernel)) (fun _ h9 => h9) rfl dX4_findAll_155 ?_
                      refine cl_Qv (As := [.ref (b 7), .ref (b 8)]) (rest := []) ⟨hx, hb, hml, hown, hts⟩ (c4_join_ap l ha  hg) (cwV 2 hts gX4_findAll_X4_join rfl rfl rfl (by decide +kernel) ⟨Nat.le_of_ble_eq_true rfl, Nat.le_of_ble_eq_true rfl⟩) hK hP hS (fun _ h => h) (ci := 4) (q0 := 0) rfl rfl rfl rfl hl.1 rfl (Nat.le_of_ble_eq_true rfl) dX4_findAll_158 ⟨Nat.zero_le _, Nat.zero_le _⟩ (fun H locs h158 hP _ _ hS => ?_)
                      have hP : va_P D vwCl (mW k b n m fr to w th be oe t1.1 t1.2.1 (jnF n t1.1 t1.2.1 t1.2.2) rl ra mo) H := hP
                      have hD : va_D (mA b) (mW k b n m fr to w th be oe t1.1 t1.2.1 (jnF n t1.1 t1.2.1 t1.2.2) rl ra mo) := mW_D ha
                      refine lv_aload_n hx hb dX4_findAll_161 rfl (lv_at hl 0 rfl) ?_
                      refine lv_aload_n hx hb dX4_findAll_162 rfl (lv_at hl 0 rfl) ?_
                      refine va_get (D := D) (ci := 4) (v := .ref (b 7)) (C := RX4) (T := TX4) (N := 14) hx hb hts i4 hown hK hP 0 rfl rfl 8 (by decide) (hts (.fieldLink RX4 30 "SignedPathsModel" "all" "[J") (by decide +kernel)) (fun _ h9 => h9) rfl dX4_findAll_163 ?_
                      refine cl_Qv (As := [.ref (b 7)]) (rest := []) ⟨hx, hb, hml, hown, hts⟩ (c4_take_ap l ha  hg) (cwV 1 hts gX4_findAll_X4_take rfl rfl rfl (by decide +kernel) ⟨Nat.le_of_ble_eq_true rfl, Nat.le_of_ble_eq_true rfl⟩) hK hP hS (fun _ h => h) (ci := 4) (q0 := 0) rfl rfl rfl rfl hl.1 rfl (Nat.le_of_ble_eq_true rfl) dX4_findAll_166 ⟨Nat.zero_le _, Nat.zero_le _⟩ (fun H locs h166 hP _ _ hS => ?_)
                      have hP : va_P D vwCl (mW k b n m fr to w th be oe (tkF n (jnF n t1.1 t1.2.1 t1.2.2) t1.1) t1.2.1 (jnF n t1.1 t1.2.1 t1.2.2) rl ra mo) H := hP
                      have hD : va_D (mA b) (mW k b n m fr to w th be oe (tkF n (jnF n t1.1 t1.2.1 t1.2.2) t1.1) t1.2.1 (jnF n t1.1 t1.2.1 t1.2.2) rl ra mo) := mW_D ha
                      refine lv_aload_n hx hb dX4_findAll_169 rfl (lv_at hl 0 rfl) ?_
                      refine lv_aload_n hx hb dX4_findAll_170 rfl (lv_at hl 0 rfl) ?_
                      refine va_get (D := D) (ci := 4) (v := .ref (b 8)) (C := RX4) (T := TX4) (N := 14) hx hb hts i4 hown hK hP 0 rfl rfl 9 (by decide) (hts (.fieldLink RX4 33 "SignedPathsModel" "part" "[J") (by decide +kernel)) (fun _ h9 => h9) rfl dX4_findAll_171 ?_
                      refine lv_aload_n hx hb dX4_findAll_174 rfl (lv_at hl 0 rfl) ?_
                      refine va_get (D := D) (ci := 4) (v := .ref (b 8)) (C := RX4) (T := TX4) (N := 14) hx hb hts i4 hown hK hP 0 rfl rfl 9 (by decide) (hts (.fieldLink RX4 33 "SignedPathsModel" "part" "[J") (by decide +kernel)) (fun _ h9 => h9) rfl dX4_findAll_175 ?_
                      refine cl_Qv (As := [.ref (b 8), .ref (b 8)]) (rest := []) ⟨hx, hb, hml, hown, hts⟩ (c4_join_pp l ha  hg) (cwV 2 hts gX4_findAll_X4_join rfl rfl rfl (by decide +kernel) ⟨Nat.le_of_ble_eq_true rfl, Nat.le_of_ble_eq_true rfl⟩) hK hP hS (fun _ h => h) (ci := 4) (q0 := 0) rfl rfl rfl rfl hl.1 rfl (Nat.le_of_ble_eq_true rfl) dX4_findAll_178 ⟨Nat.zero_le _, Nat.zero_le _⟩ (fun H locs h178 hP _ _ hS => ?_)
                      have hP : va_P D vwCl (mW k b n m fr to w th be oe (tkF n (jnF n t1.1 t1.2.1 t1.2.2) t1.1) t1.2.1 (jnF n t1.2.1 t1.2.1 (jnF n t1.1 t1.2.1 t1.2.2)) rl ra mo) H := hP
                      have hD : va_D (mA b) (mW k b n m fr to w th be oe (tkF n (jnF n t1.1 t1.2.1 t1.2.2) t1.1) t1.2.1 (jnF n t1.2.1 t1.2.1 (jnF n t1.1 t1.2.1 t1.2.2)) rl ra mo) := mW_D ha
                      refine lv_aload_n hx hb dX4_findAll_181 rfl (lv_at hl 0 rfl) ?_
                      refine lv_aload_n hx hb dX4_findAll_182 rfl (lv_at hl 0 rfl) ?_
                      refine va_get (D := D) (ci := 4) (v := .ref (b 8)) (C := RX4) (T := TX4) (N := 14) hx hb hts i4 hown hK hP 0 rfl rfl 9 (by decide) (hts (.fieldLink RX4 33 "SignedPathsModel" "part" "[J") (by decide +kernel)) (fun _ h9 => h9) rfl dX4_findAll_183 ?_
                      refine cl_Qv (As := [.ref (b 8)]) (rest := []) ⟨hx, hb, hml, hown, hts⟩ (c4_take_pp l ha  hg) (cwV 1 hts gX4_findAll_X4_take rfl rfl rfl (by decide +kernel) ⟨Nat.le_of_ble_eq_true rfl, Nat.le_of_ble_eq_true rfl⟩) hK hP hS (fun _ h => h) (ci := 4) (q0 := 0) rfl rfl rfl rfl hl.1 rfl (Nat.le_of_ble_eq_true rfl) dX4_findAll_186 ⟨Nat.zero_le _, Nat.zero_le _⟩ (fun H locs h186 hP _ _ hS => ?_)
                      have hP : va_P D vwCl (mW k b n m fr to w th be oe (tkF n (jnF n t1.1 t1.2.1 t1.2.2) t1.1) (tkF n (jnF n t1.2.1 t1.2.1 (jnF n t1.1 t1.2.1 t1.2.2)) t1.2.1) (jnF n t1.2.1 t1.2.1 (jnF n t1.1 t1.2.1 t1.2.2)) rl ra mo) H := hP
                      have hD : va_D (mA b) (mW k b n m fr to w th be oe (tkF n (jnF n t1.1 t1.2.1 t1.2.2) t1.1) (tkF n (jnF n t1.2.1 t1.2.1 (jnF n t1.1 t1.2.1 t1.2.2)) t1.2.1) (jnF n t1.2.1 t1.2.1 (jnF n t1.1 t1.2.1 t1.2.2)) rl ra mo) := mW_D ha
                      refine lv_iload_n hx hb dX4_findAll_189 rfl (lv_at hl 2 rfl) ?_
                      refine lv_iconst (v := nI 2) hx hb dX4_findAll_190 (by decide) ?_
                      refine rn_idiv hx hb (by omega) (by omega) (by omega) dX4_findAll_191 ?_
                      refine lv_istore_n (lv' := [(2, .int (nI (q1 / 2))), (0, .ref (b 0)), (1, .int (nI x))]) hx hb dX4_findAll_192 rfl hl (by decide) rfl (fun ls hl => ?_)
                      refine lv_goto (tgt := 138) hx hb dX4_findAll_193 (by decide) ?_
                      exact ih138 (i + 1) (by omega) (by omega) (q1 / 2) (pwE n (pwO n t1)) ⟨by omega, by rw [← hv138.2, show x - i = (x - (i + 1)) + 1 by omega, pwF_s q0, if_pos c146]⟩ _ _ (hP) hS ls (lv_sub hl [1, 2, 0] rfl)
              exact key138 (x + 1) 0 (by omega) (by omega) x (pw0 n m fr to w th al pa bo) ⟨by omega, rfl⟩ _ _ (by have e : i = m := (by omega); rw [e] at hP; exact hP) hS ls (lv_sub hl [1, 2, 0] rfl)
            · have hi2 := hft i c62
              refine lv_bipush (v := nI 12) hx hb dX4_findAll_65 (by decide) ?_
              refine lv_aload_n hx hb dX4_findAll_67 rfl (lv_at hl 0 rfl) ?_
              refine va_get (D := D) (ci := 4) (v := .ref (b 1)) (C := RX4) (T := TX4) (N := 14) hx hb hts i4 hown hK hP 0 rfl rfl 2 (by decide) (hts (.fieldLink RX4 7 "SignedPathsModel" "from" "[I") (by decide +kernel)) (fun _ h9 => h9) rfl dX4_findAll_68 ?_
              refine lv_iload_n hx hb dX4_findAll_71 rfl (lv_at hl 2 rfl) ?_
              refine rn_iald (v := nI (fr i)) hx hb hK hP 1 0 rfl rfl (by omega) (by decide) rfl dX4_findAll_72 ?_
              refine rn_imul hx hb  dX4_findAll_73 ?_
              refine lv_aload_n hx hb dX4_findAll_74 rfl (lv_at hl 0 rfl) ?_
              refine va_get (D := D) (ci := 4) (v := .ref (b 2)) (C := RX4) (T := TX4) (N := 14) hx hb hts i4 hown hK hP 0 rfl rfl 3 (by decide) (hts (.fieldLink RX4 13 "SignedPathsModel" "to" "[I") (by decide +kernel)) (fun _ h9 => h9) rfl dX4_findAll_75 ?_
              refine lv_iload_n hx hb dX4_findAll_78 rfl (lv_at hl 2 rfl) ?_
              refine rn_iald (v := nI (to i)) hx hb hK hP 2 0 rfl rfl (by omega) (by decide) rfl dX4_findAll_79 ?_
              refine rn_iadd hx hb  dX4_findAll_80 ?_
              refine lv_istore_n (lv' := [(3, .int (nI ((12 * (fr i)) + (to i)))), (0, .ref (b 0)), (1, .int (nI x)), (2, .int (nI i))]) hx hb dX4_findAll_81 rfl hl (by decide) rfl (fun ls hl => ?_)
              refine lv_aload_n hx hb dX4_findAll_82 rfl (lv_at hl 1 rfl) ?_
              refine va_get (D := D) (ci := 4) (v := .ref (b 8)) (C := RX4) (T := TX4) (N := 14) hx hb hts i4 hown hK hP 0 rfl rfl 9 (by decide) (hts (.fieldLink RX4 33 "SignedPathsModel" "part" "[J") (by decide +kernel)) (fun _ h9 => h9) rfl dX4_findAll_83 ?_
              refine lv_iload_n hx hb dX4_findAll_86 rfl (lv_at hl 0 rfl) ?_
              refine lv_aload_n hx hb dX4_findAll_87 rfl (lv_at hl 1 rfl) ?_
              refine va_get (D := D) (ci := 4) (v := .ref (b 4)) (C := RX4) (T := TX4) (N := 14) hx hb hts i4 hown hK hP 0 rfl rfl 5 (by decide) (hts (.fieldLink RX4 19 "SignedPathsModel" "isThere" "[Z") (by decide +kernel)) (fun _ h9 => h9) rfl dX4_findAll_88 ?_
              refine lv_iload_n hx hb dX4_findAll_91 rfl (lv_at hl 3 rfl) ?_
              refine rn_zald (v := bI (th i)) hx hb hK hP 4 1 rfl rfl (by omega) (by decide) rfl dX4_findAll_92 ?_
              refine rn_ifeqb (tgt := 123) hx hb dX4_findAll_93 (by decide) (fun c93 => ?_) (fun c93 => ?_)
              · refine lv_aload_n hx hb dX4_findAll_123 rfl (lv_at hl 1 rfl) ?_
                refine va_get (D := D) (ci := 4) (v := .ref (b 8)) (C := RX4) (T := TX4) (N := 14) hx hb hts i4 hown hK hP 0 rfl rfl 9 (by decide) (hts (.fieldLink RX4 33 "SignedPathsModel" "part" "[J") (by decide +kernel)) (fun _ h9 => h9) rfl dX4_findAll_124 ?_
                refine lv_iload_n hx hb dX4_findAll_127 rfl (lv_at hl 0 rfl) ?_
                refine rn_lald (v := (fl (fa2 fr to w th) i (fl fb1 (12 * n) pa)) ((12 * (fr i)) + (to i))) hx hb hK hP 8 3 rfl rfl (by omega) (by decide) rfl dX4_findAll_128 ?_
                refine rn_last (ws' := mW k b n m fr to w th be oe (fl fb1 (12 * n) al) (va_up (fl (fa2 fr to w th) i (fl fb1 (12 * n) pa)) ((12 * (fr i)) + (to i)) ((fl (fa2 fr to w th) i (fl fb1 (12 * n) pa)) ((12 * (fr i)) + (to i)))) bo rl ra mo) hx hb hK hP hD hS 8 3 rfl rfl (by omega) (by decide) rfl dX4_findAll_129 (fun H locs hP hD hS => ?_)
                refine lv_iinc (v := nI (i + 1)) (lv' := [(2, .int (nI (i + 1))), (3, .int (nI ((12 * (fr i)) + (to i)))), (0, .ref (b 0)), (1, .int (nI x))]) hx hb dX4_findAll_130 hl (k := 3) rfl (nI_1 i) (by decide) rfl (fun ls hl => ?_)
                refine lv_goto (tgt := 57) hx hb dX4_findAll_133 (by decide) ?_
                exact ih57 (i + 1) (by omega) (by omega)  _ _ (by rw [fl_s, fa2, if_neg (by simp [c93])]; exact hP) hS ls (lv_sub hl [2, 3, 0] rfl)
              · refine lv_aload_n hx hb dX4_findAll_96 rfl (lv_at hl 1 rfl) ?_
                refine va_get (D := D) (ci := 4) (v := .ref (b 3)) (C := RX4) (T := TX4) (N := 14) hx hb hts i4 hown hK hP 0 rfl rfl 4 (by decide) (hts (.fieldLink RX4 16 "SignedPathsModel" "weight" "[I") (by decide +kernel)) (fun _ h9 => h9) rfl dX4_findAll_97 ?_
                refine lv_iload_n hx hb dX4_findAll_100 rfl (lv_at hl 3 rfl) ?_
                refine rn_iald (v := w i) hx hb hK hP 3 0 rfl rfl (by omega) (by decide) rfl dX4_findAll_101 ?_
                refine lv_i2l (v := (w i).toInt64) hx hb dX4_findAll_102 rfl ?_
                refine lv_aload_n hx hb dX4_findAll_103 rfl (lv_at hl 1 rfl) ?_
                refine va_get (D := D) (ci := 4) (v := .ref (b 8)) (C := RX4) (T := TX4) (N := 14) hx hb hts i4 hown hK hP 0 rfl rfl 9 (by decide) (hts (.fieldLink RX4 33 "SignedPathsModel" "part" "[J") (by decide +kernel)) (fun _ h9 => h9) rfl dX4_findAll_104 ?_
                refine lv_iload_n hx hb dX4_findAll_107 rfl (lv_at hl 0 rfl) ?_
                refine rn_lald (v := (fl (fa2 fr to w th) i (fl fb1 (12 * n) pa)) ((12 * (fr i)) + (to i))) hx hb hK hP 8 3 rfl rfl (by omega) (by decide) rfl dX4_findAll_108 ?_
                refine rn_lcmp_ge (tgt := 123) hx hb dX4_findAll_109 dX4_findAll_110 (by decide) (fun c109 => ?_) (fun c109 => ?_)
                · refine lv_aload_n hx hb dX4_findAll_123 rfl (lv_at hl 1 rfl) ?_
                  refine va_get (D := D) (ci := 4) (v := .ref (b 8)) (C := RX4) (T := TX4) (N := 14) hx hb hts i4 hown hK hP 0 rfl rfl 9 (by decide) (hts (.fieldLink RX4 33 "SignedPathsModel" "part" "[J") (by decide +kernel)) (fun _ h9 => h9) rfl dX4_findAll_124 ?_
                  refine lv_iload_n hx hb dX4_findAll_127 rfl (lv_at hl 0 rfl) ?_
                  refine rn_lald (v := (fl (fa2 fr to w th) i (fl fb1 (12 * n) pa)) ((12 * (fr i)) + (to i))) hx hb hK hP 8 3 rfl rfl (by omega) (by decide) rfl dX4_findAll_128 ?_
                  refine rn_last (ws' := mW k b n m fr to w th be oe (fl fb1 (12 * n) al) (va_up (fl (fa2 fr to w th) i (fl fb1 (12 * n) pa)) ((12 * (fr i)) + (to i)) ((fl (fa2 fr to w th) i (fl fb1 (12 * n) pa)) ((12 * (fr i)) + (to i)))) bo rl ra mo) hx hb hK hP hD hS 8 3 rfl rfl (by omega) (by decide) rfl dX4_findAll_129 (fun H locs hP hD hS => ?_)
                  refine lv_iinc (v := nI (i + 1)) (lv' := [(2, .int (nI (i + 1))), (3, .int (nI ((12 * (fr i)) + (to i)))), (0, .ref (b 0)), (1, .int (nI x))]) hx hb dX4_findAll_130 hl (k := 3) rfl (nI_1 i) (by decide) rfl (fun ls hl => ?_)
                  refine lv_goto (tgt := 57) hx hb dX4_findAll_133 (by decide) ?_
                  exact ih57 (i + 1) (by omega) (by omega)  _ _ (by rw [fl_s, fa2, if_pos c93, if_pos c109]; exact hP) hS ls (lv_sub hl [2, 3, 0] rfl)
                · refine lv_aload_n hx hb dX4_findAll_113 rfl (lv_at hl 1 rfl) ?_
                  refine va_get (D := D) (ci := 4) (v := .ref (b 3)) (C := RX4) (T := TX4) (N := 14) hx hb hts i4 hown hK hP 0 rfl rfl 4 (by decide) (hts (.fieldLink RX4 16 "SignedPathsModel" "weight" "[I") (by decide +kernel)) (fun _ h9 => h9) rfl dX4_findAll_114 ?_
                  refine lv_iload_n hx hb dX4_findAll_117 rfl (lv_at hl 3 rfl) ?_
                  refine rn_iald (v := w i) hx hb hK hP 3 0 rfl rfl (by omega) (by decide) rfl dX4_findAll_118 ?_
                  refine lv_i2l (v := (w i).toInt64) hx hb dX4_findAll_119 rfl ?_
                  refine lv_goto (tgt := 129) hx hb dX4_findAll_120 (by decide) ?_
                  refine rn_last (ws' := mW k b n m fr to w th be oe (fl fb1 (12 * n) al) (va_up (fl (fa2 fr to w th) i (fl fb1 (12 * n) pa)) ((12 * (fr i)) + (to i)) ((w i).toInt64)) bo rl ra mo) hx hb hK hP hD hS 8 3 rfl rfl (by omega) (by decide) rfl dX4_findAll_129 (fun H locs hP hD hS => ?_)
                  refine lv_iinc (v := nI (i + 1)) (lv' := [(2, .int (nI (i + 1))), (3, .int (nI ((12 * (fr i)) + (to i)))), (0, .ref (b 0)), (1, .int (nI x))]) hx hb dX4_findAll_130 hl (k := 3) rfl (nI_1 i) (by decide) rfl (fun ls hl => ?_)
                  refine lv_goto (tgt := 57) hx hb dX4_findAll_133 (by decide) ?_
                  exact ih57 (i + 1) (by omega) (by omega)  _ _ (by rw [fl_s, fa2, if_pos c93, if_neg c109]; exact hP) hS ls (lv_sub hl [2, 3, 0] rfl)
        exact key57 (m + 1) 0 (by omega) (by omega)  _ _ (by have e : i = 12 * n := (by omega); rw [e] at hP; exact hP) hS ls (lv_sub hl [1, 2, 0] rfl)
      · refine lv_aload_n hx hb dX4_findAll_13 rfl (lv_at hl 0 rfl) ?_
        refine va_get (D := D) (ci := 4) (v := .ref (b 7)) (C := RX4) (T := TX4) (N := 14) hx hb hts i4 hown hK hP 0 rfl rfl 8 (by decide) (hts (.fieldLink RX4 30 "SignedPathsModel" "all" "[J") (by decide +kernel)) (fun _ h9 => h9) rfl dX4_findAll_14 ?_
        refine lv_iload_n hx hb dX4_findAll_17 rfl (lv_at hl 2 rfl) ?_
        refine lv_iload_n hx hb dX4_findAll_18 rfl (lv_at hl 2 rfl) ?_
        refine lv_bipush (v := nI 12) hx hb dX4_findAll_19 (by decide) ?_
        refine rn_idiv hx hb (by omega) (by omega) (by omega) dX4_findAll_21 ?_
        refine lv_iload_n hx hb dX4_findAll_22 rfl (lv_at hl 2 rfl) ?_
        refine lv_bipush (v := nI 12) hx hb dX4_findAll_23 (by decide) ?_
        refine rn_irem hx hb (by omega) (by omega) (by omega) dX4_findAll_25 ?_
        refine rn_icmp_ne (tgt := 33) hx hb dX4_findAll_26 (by decide) (by omega) (by omega) (fun c26 => ?_) (fun c26 => ?_)
        · refine lv_ldc2 (v := 1000000000000) hx hb hown (hts (.constantLong RX4 66 1000000000000) (by decide +kernel)) dX4_findAll_33 ?_
          refine rn_last (ws' := mW k b n m fr to w th be oe (va_up (fl fb1 i al) i 1000000000000) (fl fb1 i pa) bo rl ra mo) hx hb hK hP hD hS 7 3 rfl rfl (by omega) (by decide) rfl dX4_findAll_36 (fun H locs hP hD hS => ?_)
          refine lv_aload_n hx hb dX4_findAll_37 rfl (lv_at hl 0 rfl) ?_
          refine va_get (D := D) (ci := 4) (v := .ref (b 8)) (C := RX4) (T := TX4) (N := 14) hx hb hts i4 hown hK hP 0 rfl rfl 9 (by decide) (hts (.fieldLink RX4 33 "SignedPathsModel" "part" "[J") (by decide +kernel)) (fun _ h9 => h9) rfl dX4_findAll_38 ?_
          refine lv_iload_n hx hb dX4_findAll_41 rfl (lv_at hl 2 rfl) ?_
          refine lv_aload_n hx hb dX4_findAll_42 rfl (lv_at hl 0 rfl) ?_
          refine va_get (D := D) (ci := 4) (v := .ref (b 7)) (C := RX4) (T := TX4) (N := 14) hx hb hts i4 hown hK hP 0 rfl rfl 8 (by decide) (hts (.fieldLink RX4 30 "SignedPathsModel" "all" "[J") (by decide +kernel)) (fun _ h9 => h9) rfl dX4_findAll_43 ?_
          refine lv_iload_n hx hb dX4_findAll_46 rfl (lv_at hl 2 rfl) ?_
          refine rn_lald (v := 1000000000000) hx hb hK hP 7 3 rfl rfl (by omega) (by decide) (va_up_self _ _ _) dX4_findAll_47 ?_
          refine rn_last (ws' := mW k b n m fr to w th be oe (va_up (fl fb1 i al) i 1000000000000) (va_up (fl fb1 i pa) i 1000000000000) bo rl ra mo) hx hb hK hP hD hS 8 3 rfl rfl (by omega) (by decide) rfl dX4_findAll_48 (fun H locs hP hD hS => ?_)
          refine lv_iinc (v := nI (i + 1)) (lv' := [(2, .int (nI (i + 1))), (0, .ref (b 0)), (1, .int (nI x))]) hx hb dX4_findAll_49 hl (k := 2) rfl (nI_1 i) (by decide) rfl (fun ls hl => ?_)
          refine lv_goto (tgt := 2) hx hb dX4_findAll_52 (by decide) ?_
          exact ih2 (i + 1) (by omega) (by omega)  _ _ (by rw [fl_s, fl_s, fb1, fb1, if_neg c26]; exact hP) hS ls (lv_sub hl [1, 2, 0] rfl)
        · refine lv_lconst (v := 0) hx hb dX4_findAll_29 (by decide) ?_
          refine lv_goto (tgt := 36) hx hb dX4_findAll_30 (by decide) ?_
          refine rn_last (ws' := mW k b n m fr to w th be oe (va_up (fl fb1 i al) i 0) (fl fb1 i pa) bo rl ra mo) hx hb hK hP hD hS 7 3 rfl rfl (by omega) (by decide) rfl dX4_findAll_36 (fun H locs hP hD hS => ?_)
          refine lv_aload_n hx hb dX4_findAll_37 rfl (lv_at hl 0 rfl) ?_
          refine va_get (D := D) (ci := 4) (v := .ref (b 8)) (C := RX4) (T := TX4) (N := 14) hx hb hts i4 hown hK hP 0 rfl rfl 9 (by decide) (hts (.fieldLink RX4 33 "SignedPathsModel" "part" "[J") (by decide +kernel)) (fun _ h9 => h9) rfl dX4_findAll_38 ?_
          refine lv_iload_n hx hb dX4_findAll_41 rfl (lv_at hl 2 rfl) ?_
          refine lv_aload_n hx hb dX4_findAll_42 rfl (lv_at hl 0 rfl) ?_
          refine va_get (D := D) (ci := 4) (v := .ref (b 7)) (C := RX4) (T := TX4) (N := 14) hx hb hts i4 hown hK hP 0 rfl rfl 8 (by decide) (hts (.fieldLink RX4 30 "SignedPathsModel" "all" "[J") (by decide +kernel)) (fun _ h9 => h9) rfl dX4_findAll_43 ?_
          refine lv_iload_n hx hb dX4_findAll_46 rfl (lv_at hl 2 rfl) ?_
          refine rn_lald (v := 0) hx hb hK hP 7 3 rfl rfl (by omega) (by decide) (va_up_self _ _ _) dX4_findAll_47 ?_
          refine rn_last (ws' := mW k b n m fr to w th be oe (va_up (fl fb1 i al) i 0) (va_up (fl fb1 i pa) i 0) bo rl ra mo) hx hb hK hP hD hS 8 3 rfl rfl (by omega) (by decide) rfl dX4_findAll_48 (fun H locs hP hD hS => ?_)
          refine lv_iinc (v := nI (i + 1)) (lv' := [(2, .int (nI (i + 1))), (0, .ref (b 0)), (1, .int (nI x))]) hx hb dX4_findAll_49 hl (k := 2) rfl (nI_1 i) (by decide) rfl (fun ls hl => ?_)
          refine lv_goto (tgt := 2) hx hb dX4_findAll_52 (by decide) ?_
          exact ih2 (i + 1) (by omega) (by omega)  _ _ (by rw [fl_s, fl_s, fb1, fb1, if_pos c26]; exact hP) hS ls (lv_sub hl [1, 2, 0] rfl)
  exact key2 (12 * n + 1) 0 (by omega) (by omega)  _ _ (hP) hS ls (lv_sub hl [1, 2, 0] rfl)
set_option maxHeartbeats 4000000 in
set_option maxRecDepth 100000 in
theorem c4_within (l : Launch) {D : va_G} {k : Nat → ClassId} {b : Nat → Nat} {n : Nat} {m : Nat} {fr : Nat → Nat} {to : Nat → Nat} {w : Nat → Int32} {th : Nat → Bool} {be : Nat → Int64} {oe : Nat → Int64} {al : Nat → Int64} {pa : Nat → Int64} {bo : Nat → Int64} {rl : Nat} {ra : Nat → Nat} {mo : Nat → Int64} (ha : inj 12 b) (x : Int32) (y : Int32) (z : Int32) (hg : gOK n m fr to) : Met l yX4_within wsX4_within ({ frames := 2, cells := 0, slots := 0, locals := 54 }) (gPc D k (mW k b n m fr to w th be oe al pa bo rl ra mo) [.ref (b 0), .int x, .int y, .int z]) (va_Qi (S := Int32) (fun r u => u = r ∧ (r = wiM n (fgR n m fr to w th al pa bo z.toNatClampNeg).1 x y z)) (fun _ t => va_P D vwCl (mW k b n m fr to w th be oe (bw (wiB n x y z) (fgR n m fr to w th al pa bo z.toNatClampNeg).1 al) (bw (wiB n x y z) (fgR n m fr to w th al pa bo z.toNatClampNeg).2.1 pa) (bw (wiB n x y z) (fgR n m fr to w th al pa bo z.toNatClampNeg).2.2 bo) rl ra mo) t.heap) (mA b)) 0 0 (mA b) := by
  refine Met.ofW (cc := cX4_within) (maxL := 4) (ret := (some .int)) (by decide) rfl ?_
  intro p e s mt args below meth c s₁ B hml hv
  obtain ⟨rfl, hP, hK⟩ := hv
  have hx := B.exec
  have hb := B.bytes
  have hr := B.returns
  have hts := atoms_spec (ws := wsX4_within) B.pre
  have hown : s.vm.findClass RX4 = some mt.cls := findClass_of_methodNamed B.named
  have hlocks := B.notSynchronized
  have i4 : ∀ w ∈ wsX40, w ∈ wsX4_within := by decide +kernel
  have hS : va_S (mA b) s.heap s.heap [] := va_S.rf
  have hD : va_D (mA b) (mW k b n m fr to w th be oe al pa bo rl ra mo) := mW_D ha
  have hl := lv_entry ([.ref (b 0), .int x, .int y, .int z]) (n := 4) (Nat.le_of_ble_eq_true rfl)
  rw [lg_entry_eq]
  generalize (lg_sl ([.ref (b 0), .int x, .int y, .int z]) ++ List.replicate (4 - (lg_sl ([.ref (b 0), .int x, .int y, .int z])).length) Slot.unset).toArray = ls at hl ⊢
  have hl : lv_has ls 4 [(0, .ref (b 0)), (1, .int x), (2, .int y), (3, .int z)] := hl
  obtain ⟨hn12, hm40, hft⟩ := id hg
  refine lv_aload_n hx hb dX4_within_0 rfl (lv_at hl 0 rfl) ?_
  refine lv_iload_n hx hb dX4_within_1 rfl (lv_at hl 1 rfl) ?_
  refine cl_Si (As := [.int x]) (rest := []) ⟨hx, hb, hml, hown, hts⟩ (c4_isNode l ha x (by omega)) (cwV 1 hts gX4_within_X4_isNode rfl rfl rfl (by decide +kernel) ⟨Nat.le_of_ble_eq_true rfl, Nat.le_of_ble_eq_true rfl⟩) hK hP (ci := 4) (q0 := 0) rfl rfl rfl rfl hl.1 rfl (Nat.le_of_ble_eq_true rfl) dX4_within_2 ⟨Nat.zero_le _, Nat.zero_le _⟩ (fun r2 h2 => ?_)
  subst h2
  refine rn_ifeqb (tgt := 16) hx hb dX4_within_5 (by decide) (fun c5 => ?_) (fun c5 => ?_)
  · refine lv_ldc (v := (-1000000001)) hx hb hown (hts (.constant RX4 61 (-1000000001)) (by decide +kernel)) dX4_within_16 ?_
    have hc : wiB n x y z = false := by simp [wiB, c5]
    exact W.iret (v := (-1000000001)) hx hb hr (fun t ht hW => ⟨⟨_, _, rfl, ⟨rfl, (by simp [wiM, c5])⟩, by show va_P D vwCl (mW k b n m fr to w th be oe (bw (wiB n x y z) (fgR n m fr to w th al pa bo z.toNatClampNeg).1 al) (bw (wiB n x y z) (fgR n m fr to w th al pa bo z.toNatClampNeg).2.1 pa) (bw (wiB n x y z) (fgR n m fr to w th al pa bo z.toNatClampNeg).2.2 bo) rl ra mo) t.heap; rw [ht]; rw [bw_f hc, bw_f hc, bw_f hc]; exact hP⟩, hS.F ht⟩) hS.2.2 dX4_within_18
  · refine lv_aload_n hx hb dX4_within_8 rfl (lv_at hl 0 rfl) ?_
    refine lv_iload_n hx hb dX4_within_9 rfl (lv_at hl 2 rfl) ?_
    refine cl_Si (As := [.int y]) (rest := []) ⟨hx, hb, hml, hown, hts⟩ (c4_isNode l ha y (by omega)) (cwV 1 hts gX4_within_X4_isNode rfl rfl rfl (by decide +kernel) ⟨Nat.le_of_ble_eq_true rfl, Nat.le_of_ble_eq_true rfl⟩) hK hP (ci := 4) (q0 := 0) rfl rfl rfl rfl hl.1 rfl (Nat.le_of_ble_eq_true rfl) dX4_within_10 ⟨Nat.zero_le _, Nat.zero_le _⟩ (fun r10 h10 => ?_)
    subst h10
    refine rn_ifneb (tgt := 19) hx hb dX4_within_13 (by decide) (fun c13 => ?_) (fun c13 => ?_)
    · refine lv_iload_n hx hb dX4_within_19 rfl (lv_at hl 3 rfl) ?_
      refine lv_iconst (v := 0) hx hb dX4_within_20 (by decide) ?_
      refine lv_bipush (v := 20) hx hb dX4_within_21 (by decide) ?_
      refine cl_Ti (As := [.int z, .int 0, .int 20]) (rest := []) ⟨hx, hb, hml, hown, hts⟩ (c4_isIn l z 0 20 ) (va_cwS 3 hts gX4_within_X4_isIn rfl rfl rfl (by decide +kernel) ⟨Nat.le_of_ble_eq_true rfl, Nat.le_of_ble_eq_true rfl⟩) rfl hl.1 rfl (Nat.le_of_ble_eq_true rfl) dX4_within_23 ⟨Nat.zero_le _, Nat.zero_le _⟩ (fun r23 h23 => ?_)
      subst h23
      refine rn_ifneb (tgt := 32) hx hb dX4_within_26 (by decide) (fun c26 => ?_) (fun c26 => ?_)
      · have c26 : ouB z 0 20 = false := by simpa using c26
        have hc : wiB n x y z = true := by simp [wiB, c5, c13, c26]
        have hc2 : (ixB x n && ixB y n) = true := by simp [c5, c13]
        obtain ⟨u, hu, rfl⟩ := ixB_t (by omega) c5
        obtain ⟨v, hv, rfl⟩ := ixB_t (by omega) c13
        obtain ⟨q, hq, rfl⟩ := ouB_in c26
        have e1 : (nI u).toNatClampNeg = u := nI_clamp (by omega)
        have e2 : (nI v).toNatClampNeg = v := nI_clamp (by omega)
        have e3 : (nI q).toNatClampNeg = q := nI_clamp (by omega)
        refine lv_aload_n hx hb dX4_within_32 rfl (lv_at hl 0 rfl) ?_
        refine lv_iload_n hx hb dX4_within_33 rfl (lv_at hl 3 rfl) ?_
        refine cl_Qv (As := [.int (nI q)]) (rest := []) ⟨hx, hb, hml, hown, hts⟩ (c4_findAll l ha q hg (by omega)) (cwV 1 hts gX4_within_X4_findAll rfl rfl rfl (by decide +kernel) ⟨Nat.le_of_ble_eq_true rfl, Nat.le_of_ble_eq_true rfl⟩) hK hP hS (fun _ h => h) (ci := 4) (q0 := 0) rfl rfl rfl rfl hl.1 rfl (Nat.le_of_ble_eq_true rfl) dX4_within_34 ⟨Nat.zero_le _, Nat.zero_le _⟩ (fun H locs h34 hP _ _ hS => ?_)
        have hP : va_P D vwCl (mW k b n m fr to w th be oe ((fgR n m fr to w th al pa bo q).1) ((fgR n m fr to w th al pa bo q).2.1) ((fgR n m fr to w th al pa bo q).2.2) rl ra mo) H := hP
        have hD : va_D (mA b) (mW k b n m fr to w th be oe ((fgR n m fr to w th al pa bo q).1) ((fgR n m fr to w th al pa bo q).2.1) ((fgR n m fr to w th al pa bo q).2.2) rl ra mo) := mW_D ha
        refine lv_aload_n hx hb dX4_within_37 rfl (lv_at hl 0 rfl) ?_
        refine va_get (D := D) (ci := 4) (v := .ref (b 7)) (C := RX4) (T := TX4) (N := 14) hx hb hts i4 hown hK hP 0 rfl rfl 8 (by decide) (hts (.fieldLink RX4 30 "SignedPathsModel" "all" "[J") (by decide +kernel)) (fun _ h9 => h9) rfl dX4_within_38 ?_
        refine lv_bipush (v := nI 12) hx hb dX4_within_41 (by decide) ?_
        refine lv_iload_n hx hb dX4_within_43 rfl (lv_at hl 1 rfl) ?_
        refine rn_imul hx hb  dX4_within_44 ?_
        refine lv_iload_n hx hb dX4_within_45 rfl (lv_at hl 2 rfl) ?_
        refine rn_iadd hx hb  dX4_within_46 ?_
        refine rn_lald (v := ((fgR n m fr to w th al pa bo q).1) ((12 * u) + v)) hx hb hK hP 7 3 rfl rfl (by omega) (by decide) rfl dX4_within_47 ?_
        refine lv_ldc2 (v := 1000000000000) hx hb hown (hts (.constantLong RX4 66 1000000000000) (by decide +kernel)) dX4_within_48 ?_
        refine rn_lcmp_ge (tgt := 70) hx hb dX4_within_51 dX4_within_52 (by decide) (fun c51 => ?_) (fun c51 => ?_)
        · refine lv_ldc (v := 1000000000) hx hb hown (hts (.constant RX4 75 1000000000) (by decide +kernel)) dX4_within_70 ?_
          exact W.iret (v := 1000000000) hx hb hr (fun t ht hW => ⟨⟨_, _, rfl, ⟨rfl, (by rw [wiM, if_pos hc2, if_neg (by rw [c26]; decide), e1, e2, e3, if_pos c51])⟩, by show va_P D vwCl (mW k b n m fr to w th be oe (bw (wiB n (nI u) (nI v) (nI q)) (fgR n m fr to w th al pa bo (nI q).toNatClampNeg).1 al) (bw (wiB n (nI u) (nI v) (nI q)) (fgR n m fr to w th al pa bo (nI q).toNatClampNeg).2.1 pa) (bw (wiB n (nI u) (nI v) (nI q)) (fgR n m fr to w th al pa bo (nI q).toNatClampNeg).2.2 bo) rl ra mo) t.heap; rw [ht]; rw [bw_t hc, bw_t hc, bw_t hc, e3]; exact hP⟩, hS.F ht⟩) hS.2.2 dX4_within_72
        · refine lv_aload_n hx hb dX4_within_55 rfl (lv_at hl 0 rfl) ?_
          refine va_get (D := D) (ci := 4) (v := .ref (b 7)) (C := RX4) (T := TX4) (N := 14) hx hb hts i4 hown hK hP 0 rfl rfl 8 (by decide) (hts (.fieldLink RX4 30 "SignedPathsModel" "all" "[J") (by decide +kernel)) (fun _ h9 => h9) rfl dX4_within_56 ?_
          refine lv_bipush (v := nI 12) hx hb dX4_within_59 (by decide) ?_
          refine lv_iload_n hx hb dX4_within_61 rfl (lv_at hl 1 rfl) ?_
          refine rn_imul hx hb  dX4_within_62 ?_
          refine lv_iload_n hx hb dX4_within_63 rfl (lv_at hl 2 rfl) ?_
          refine rn_iadd hx hb  dX4_within_64 ?_
          refine rn_lald (v := ((fgR n m fr to w th al pa bo q).1) ((12 * u) + v)) hx hb hK hP 7 3 rfl rfl (by omega) (by decide) rfl dX4_within_65 ?_
          refine lv_l2i (v := (((fgR n m fr to w th al pa bo q).1) ((12 * u) + v)).toInt32) hx hb dX4_within_66 rfl ?_
          refine lv_goto (tgt := 72) hx hb dX4_within_67 (by decide) ?_
          exact W.iret (v := (((fgR n m fr to w th al pa bo q).1) ((12 * u) + v)).toInt32) hx hb hr (fun t ht hW => ⟨⟨_, _, rfl, ⟨rfl, (by rw [wiM, if_pos hc2, if_neg (by rw [c26]; decide), e1, e2, e3, if_neg c51])⟩, by show va_P D vwCl (mW k b n m fr to w th be oe (bw (wiB n (nI u) (nI v) (nI q)) (fgR n m fr to w th al pa bo (nI q).toNatClampNeg).1 al) (bw (wiB n (nI u) (nI v) (nI q)) (fgR n m fr to w th al pa bo (nI q).toNatClampNeg).2.1 pa) (bw (wiB n (nI u) (nI v) (nI q)) (fgR n m fr to w th al pa bo (nI q).toNatClampNeg).2.2 bo) rl ra mo) t.heap; rw [ht]; rw [bw_t hc, bw_t hc, bw_t hc, e3]; exact hP⟩, hS.F ht⟩) hS.2.2 dX4_within_72
      · have c26 : ouB z 0 20 = true := by simpa using c26
        have hc : wiB n x y z = false := by simp [wiB, c26]
        refine lv_ldc (v := (-1000000002)) hx hb hown (hts (.constant RX4 62 (-1000000002)) (by decide +kernel)) dX4_within_29 ?_
        exact W.iret (v := (-1000000002)) hx hb hr (fun t ht hW => ⟨⟨_, _, rfl, ⟨rfl, (by simp [wiM, c5, c13, c26])⟩, by show va_P D vwCl (mW k b n m fr to w th be oe (bw (wiB n x y z) (fgR n m fr to w th al pa bo z.toNatClampNeg).1 al) (bw (wiB n x y z) (fgR n m fr to w th al pa bo z.toNatClampNeg).2.1 pa) (bw (wiB n x y z) (fgR n m fr to w th al pa bo z.toNatClampNeg).2.2 bo) rl ra mo) t.heap; rw [ht]; rw [bw_f hc, bw_f hc, bw_f hc]; exact hP⟩, hS.F ht⟩) hS.2.2 dX4_within_31
    · refine lv_ldc (v := (-1000000001)) hx hb hown (hts (.constant RX4 61 (-1000000001)) (by decide +kernel)) dX4_within_16 ?_
      have hc : wiB n x y z = false := by simp [wiB, c13]
      exact W.iret (v := (-1000000001)) hx hb hr (fun t ht hW => ⟨⟨_, _, rfl, ⟨rfl, (by simp [wiM, c13])⟩, by show va_P D vwCl (mW k b n m fr to w th be oe (bw (wiB n x y z) (fgR n m fr to w th al pa bo z.toNatClampNeg).1 al) (bw (wiB n x y z) (fgR n m fr to w th al pa bo z.toNatClampNeg).2.1 pa) (bw (wiB n x y z) (fgR n m fr to w th al pa bo z.toNatClampNeg).2.2 bo) rl ra mo) t.heap; rw [ht]; rw [bw_f hc, bw_f hc, bw_f hc]; exact hP⟩, hS.F ht⟩) hS.2.2 dX4_within_18
set_option maxHeartbeats 4000000 in
set_option maxRecDepth 100000 in
theorem c4_heightOf (l : Launch) {D : va_G} {k : Nat → ClassId} {b : Nat → Nat} {n : Nat} {m : Nat} {fr : Nat → Nat} {to : Nat → Nat} {w : Nat → Int32} {th : Nat → Bool} {be : Nat → Int64} {oe : Nat → Int64} {al : Nat → Int64} {pa : Nat → Int64} {bo : Nat → Int64} {rl : Nat} {ra : Nat → Nat} {mo : Nat → Int64} (ha : inj 12 b) (v : Nat) (hg : gOK n m fr to) (hv : v < 12) : Met l yX4_heightOf wsX4_heightOf ({ frames := 1, cells := 0, slots := 0, locals := 23 }) (gPc D k (mW k b n m fr to w th be oe al pa bo rl ra mo) [.ref (b 0), .int (nI v)]) (vp_Si (fun r => r = htF n be v)) 0 0 nF := by
  refine Met.ofW (cc := cX4_heightOf) (maxL := 5) (ret := (some .int)) (by decide) rfl ?_
  intro p e s mt args below meth c s₁ B hml hv
  obtain ⟨rfl, hP, hK⟩ := hv
  have hx := B.exec
  have hb := B.bytes
  have hr := B.returns
  have hts := atoms_spec (ws := wsX4_heightOf) B.pre
  have hown : s.vm.findClass RX4 = some mt.cls := findClass_of_methodNamed B.named
  have hlocks := B.notSynchronized
  have i4 : ∀ w ∈ wsX40, w ∈ wsX4_heightOf := by decide +kernel
  have hl := lv_entry ([.ref (b 0), .int (nI v)]) (n := 5) (Nat.le_of_ble_eq_true rfl)
  rw [lg_entry_eq]
  generalize (lg_sl ([.ref (b 0), .int (nI v)]) ++ List.replicate (5 - (lg_sl ([.ref (b 0), .int (nI v)])).length) Slot.unset).toArray = ls at hl ⊢
  have hl : lv_has ls 5 [(0, .ref (b 0)), (1, .int (nI v))] := hl
  obtain ⟨Q, hQ⟩ : ∃ Q, Q = MQ below (vp_Si (fun r => r = htF n be v)) ([.ref (b 0), .int (nI v)] : List Value).toArray s 0 0 nF := ⟨_, rfl⟩
  rw [← hQ]
  obtain ⟨hn12, hm40, hft⟩ := id hg
  refine lv_lconst (v := 0) hx hb dX4_heightOf_0 (by decide) ?_
  refine lv_lstore_n (lv' := [(2, .long 0), (0, .ref (b 0)), (1, .int (nI v))]) hx hb dX4_heightOf_1 rfl hl (by decide) rfl (fun ls hl => ?_)
  refine lv_iconst (v := nI 0) hx hb dX4_heightOf_2 (by decide) ?_
  refine lv_istore (lv' := [(4, .int (nI 0)), (2, .long 0), (0, .ref (b 0)), (1, .int (nI v))]) hx hb dX4_heightOf_3 hl (by decide) rfl (fun ls hl => ?_)
  have key5 : ∀ (f5 i : Nat), n + 1 ≤ i + f5 → i ≤ n → ∀ (ls : Array Slot), lv_has ls 5 [(0, .ref (b 0)), (1, .int (nI v)), (2, .long (fl (htS be v) i 0)), (4, .int (nI i))] → W p l e (headSpec wsX4_heightOf { frames := 1, cells := 0, slots := 0, locals := 23 }).room s mt ([.ref (b 0), .int (nI v)] : List Value).toArray below meth c s.heap [] 0 0 Q (F0 mt 5 ls []) := by
    intro f5
    induction f5 with
    | zero => intro i h1 h2; exact absurd h1 (by omega)
    | succ f5 ih5 =>
      intro i hf5 hi5   ls hl
      refine lv_iload hx hb dX4_heightOf_5 (lv_at hl 3 rfl) ?_
      refine lv_aload_n hx hb dX4_heightOf_7 rfl (lv_at hl 0 rfl) ?_
      refine va_get (D := D) (ci := 4) (v := .int (nI n)) (C := RX4) (T := TX4) (N := 14) hx hb hts i4 hown hK hP 0 rfl rfl 0 (by decide) (hts (.fieldLink RX4 45 "SignedPathsModel" "n" "I") (by decide +kernel)) (fun _ h9 => h9) rfl dX4_heightOf_8 ?_
      refine rn_icmp_ge (tgt := 54) hx hb dX4_heightOf_11 (by decide) (by omega) (by omega) (fun c11 => ?_) (fun c11 => ?_)
      · refine lv_lload_n hx hb dX4_heightOf_54 rfl (lv_at hl 2 rfl) ?_
        refine cl_Ti (As := [.long (fl (htS be v) i 0)]) (rest := []) ⟨hx, hb, hml, hown, hts⟩ (c4_weightIn l (fl (htS be v) i 0) ) (va_cwS 1 hts gX4_heightOf_X4_weightIn rfl rfl rfl (by decide +kernel) ⟨Nat.le_of_ble_eq_true rfl, Nat.le_of_ble_eq_true rfl⟩) rfl hl.1 rfl (Nat.le_of_ble_eq_true rfl) dX4_heightOf_55 ⟨Nat.zero_le _, Nat.zero_le _⟩ (fun r55 h55 => ?_)
        subst h55
        rw [hQ]
        exact W.iret (v := wIn (fl (htS be v) i 0)) hx hb hr (fun t ht hW => ⟨_, rfl, (by have e : i = n := (by omega); rw [e]; rfl), ht⟩) (fun q h => absurd h List.not_mem_nil) dX4_heightOf_58
      · refine lv_aload_n hx hb dX4_heightOf_14 rfl (lv_at hl 0 rfl) ?_
        refine va_get (D := D) (ci := 4) (v := .ref (b 5)) (C := RX4) (T := TX4) (N := 14) hx hb hts i4 hown hK hP 0 rfl rfl 6 (by decide) (hts (.fieldLink RX4 23 "SignedPathsModel" "best" "[J") (by decide +kernel)) (fun _ h9 => h9) rfl dX4_heightOf_15 ?_
        refine lv_bipush (v := nI 12) hx hb dX4_heightOf_18 (by decide) ?_
        refine lv_iload hx hb dX4_heightOf_20 (lv_at hl 3 rfl) ?_
        refine rn_imul hx hb  dX4_heightOf_22 ?_
        refine lv_iload_n hx hb dX4_heightOf_23 rfl (lv_at hl 1 rfl) ?_
        refine rn_iadd hx hb  dX4_heightOf_24 ?_
        refine rn_lald (v := be ((12 * i) + v)) hx hb hK hP 5 3 rfl rfl (by omega) (by decide) rfl dX4_heightOf_25 ?_
        refine lv_lload_n hx hb dX4_heightOf_26 rfl (lv_at hl 2 rfl) ?_
        refine rn_lcmp_ge (tgt := 46) hx hb dX4_heightOf_27 dX4_heightOf_28 (by decide) (fun c27 => ?_) (fun c27 => ?_)
        · refine lv_lload_n hx hb dX4_heightOf_46 rfl (lv_at hl 2 rfl) ?_
          refine lv_lstore_n (lv' := [(2, .long (fl (htS be v) i 0)), (0, .ref (b 0)), (1, .int (nI v)), (4, .int (nI i))]) hx hb dX4_heightOf_47 rfl hl (by decide) rfl (fun ls hl => ?_)
          refine lv_iinc (v := nI (i + 1)) (lv' := [(4, .int (nI (i + 1))), (2, .long (fl (htS be v) i 0)), (0, .ref (b 0)), (1, .int (nI v))]) hx hb dX4_heightOf_48 hl (k := 3) rfl (nI_1 i) (by decide) rfl (fun ls hl => ?_)
          refine lv_goto (tgt := 5) hx hb dX4_heightOf_51 (by decide) ?_
          have htq : fl (htS be v) (i + 1) 0 = fl (htS be v) i 0 := by rw [fl_s, htS, if_pos c27]
          exact ih5 (i + 1) (by omega) (by omega)  ls (lv_sub hl [2, 3, 1, 0] (by rw [htq]; rfl))
        · refine lv_aload_n hx hb dX4_heightOf_31 rfl (lv_at hl 0 rfl) ?_
          refine va_get (D := D) (ci := 4) (v := .ref (b 5)) (C := RX4) (T := TX4) (N := 14) hx hb hts i4 hown hK hP 0 rfl rfl 6 (by decide) (hts (.fieldLink RX4 23 "SignedPathsModel" "best" "[J") (by decide +kernel)) (fun _ h9 => h9) rfl dX4_heightOf_32 ?_
          refine lv_bipush (v := nI 12) hx hb dX4_heightOf_35 (by decide) ?_
          refine lv_iload hx hb dX4_heightOf_37 (lv_at hl 3 rfl) ?_
          refine rn_imul hx hb  dX4_heightOf_39 ?_
          refine lv_iload_n hx hb dX4_heightOf_40 rfl (lv_at hl 1 rfl) ?_
          refine rn_iadd hx hb  dX4_heightOf_41 ?_
          refine rn_lald (v := be ((12 * i) + v)) hx hb hK hP 5 3 rfl rfl (by omega) (by decide) rfl dX4_heightOf_42 ?_
          refine lv_goto (tgt := 47) hx hb dX4_heightOf_43 (by decide) ?_
          refine lv_lstore_n (lv' := [(2, .long (be ((12 * i) + v))), (0, .ref (b 0)), (1, .int (nI v)), (4, .int (nI i))]) hx hb dX4_heightOf_47 rfl hl (by decide) rfl (fun ls hl => ?_)
          refine lv_iinc (v := nI (i + 1)) (lv' := [(4, .int (nI (i + 1))), (2, .long (be ((12 * i) + v))), (0, .ref (b 0)), (1, .int (nI v))]) hx hb dX4_heightOf_48 hl (k := 3) rfl (nI_1 i) (by decide) rfl (fun ls hl => ?_)
          refine lv_goto (tgt := 5) hx hb dX4_heightOf_51 (by decide) ?_
          have htq : fl (htS be v) (i + 1) 0 = be (12 * i + v) := by rw [fl_s, htS, if_neg c27]
          exact ih5 (i + 1) (by omega) (by omega)  ls (lv_sub hl [2, 3, 1, 0] (by rw [htq]; rfl))
  exact key5 (n + 1) 0 (by omega) (by omega)  ls (lv_sub hl [2, 3, 1, 0] rfl)
set_option maxHeartbeats 4000000 in
set_option maxRecDepth 100000 in
theorem c4_height (l : Launch) {D : va_G} {k : Nat → ClassId} {b : Nat → Nat} {n : Nat} {m : Nat} {fr : Nat → Nat} {to : Nat → Nat} {w : Nat → Int32} {th : Nat → Bool} {be : Nat → Int64} {oe : Nat → Int64} {al : Nat → Int64} {pa : Nat → Int64} {bo : Nat → Int64} {rl : Nat} {ra : Nat → Nat} {mo : Nat → Int64} (ha : inj 12 b) (x : Int32) (hg : gOK n m fr to) : Met l yX4_height wsX4_height ({ frames := 2, cells := 0, slots := 0, locals := 48 }) (gPc D k (mW k b n m fr to w th be oe al pa bo rl ra mo) [.ref (b 0), .int x]) (va_Qi (S := Int32) (fun r u => u = r ∧ (r = bw (ixB x n) (heM n (fwB n m fr to w th be) x.toNatClampNeg) (-1000000001))) (fun _ t => va_P D vwCl (mW k b n m fr to w th (bw (ixB x n) (fwB n m fr to w th be) be) oe al pa bo rl ra mo) t.heap) (mA b)) 0 0 (mA b) := by
  refine Met.ofW (cc := cX4_height) (maxL := 2) (ret := (some .int)) (by decide) rfl ?_
  intro p e s mt args below meth c s₁ B hml hv
  obtain ⟨rfl, hP, hK⟩ := hv
  have hx := B.exec
  have hb := B.bytes
  have hr := B.returns
  have hts := atoms_spec (ws := wsX4_height) B.pre
  have hown : s.vm.findClass RX4 = some mt.cls := findClass_of_methodNamed B.named
  have hlocks := B.notSynchronized
  have i4 : ∀ w ∈ wsX40, w ∈ wsX4_height := by decide +kernel
  have hS : va_S (mA b) s.heap s.heap [] := va_S.rf
  have hD : va_D (mA b) (mW k b n m fr to w th be oe al pa bo rl ra mo) := mW_D ha
  have hl := lv_entry ([.ref (b 0), .int x]) (n := 2) (Nat.le_of_ble_eq_true rfl)
  rw [lg_entry_eq]
  generalize (lg_sl ([.ref (b 0), .int x]) ++ List.replicate (2 - (lg_sl ([.ref (b 0), .int x])).length) Slot.unset).toArray = ls at hl ⊢
  have hl : lv_has ls 2 [(0, .ref (b 0)), (1, .int x)] := hl
  obtain ⟨hn12, hm40, hft⟩ := id hg
  refine lv_aload_n hx hb dX4_height_0 rfl (lv_at hl 0 rfl) ?_
  refine lv_iload_n hx hb dX4_height_1 rfl (lv_at hl 1 rfl) ?_
  refine cl_Si (As := [.int x]) (rest := []) ⟨hx, hb, hml, hown, hts⟩ (c4_isNode l ha x (by omega)) (cwV 1 hts gX4_height_X4_isNode rfl rfl rfl (by decide +kernel) ⟨Nat.le_of_ble_eq_true rfl, Nat.le_of_ble_eq_true rfl⟩) hK hP (ci := 4) (q0 := 0) rfl rfl rfl rfl hl.1 rfl (Nat.le_of_ble_eq_true rfl) dX4_height_2 ⟨Nat.zero_le _, Nat.zero_le _⟩ (fun r2 h2 => ?_)
  subst h2
  refine rn_ifneb (tgt := 11) hx hb dX4_height_5 (by decide) (fun c5 => ?_) (fun c5 => ?_)
  · obtain ⟨u, hu, rfl⟩ := ixB_t (by omega) c5
    have e1 : (nI u).toNatClampNeg = u := nI_clamp (by omega)
    refine lv_aload_n hx hb dX4_height_11 rfl (lv_at hl 0 rfl) ?_
    refine cl_Qi (As := []) (rest := []) ⟨hx, hb, hml, hown, hts⟩ (c4_isFalling l ha  hg) (cwV 0 hts gX4_height_X4_isFalling rfl rfl rfl (by decide +kernel) ⟨Nat.le_of_ble_eq_true rfl, Nat.le_of_ble_eq_true rfl⟩) hK hP hS (fun _ h => h) (ci := 4) (q0 := 0) rfl rfl rfl rfl hl.1 rfl (Nat.le_of_ble_eq_true rfl) dX4_height_12 ⟨Nat.zero_le _, Nat.zero_le _⟩ (fun r12 H locs h12 hP _ _ hS => ?_)
    have hP : va_P D vwCl (mW k b n m fr to w th (fwB n m fr to w th be) oe al pa bo rl ra mo) H := hP
    have hD : va_D (mA b) (mW k b n m fr to w th (fwB n m fr to w th be) oe al pa bo rl ra mo) := mW_D ha
    subst h12
    refine rn_ifeqb (tgt := 23) hx hb dX4_height_15 (by decide) (fun c15 => ?_) (fun c15 => ?_)
    · refine lv_aload_n hx hb dX4_height_23 rfl (lv_at hl 0 rfl) ?_
      refine lv_iload_n hx hb dX4_height_24 rfl (lv_at hl 1 rfl) ?_
      refine cl_Si (As := [.int (nI u)]) (rest := []) ⟨hx, hb, hml, hown, hts⟩ (c4_heightOf l ha u hg (by omega)) (cwV 1 hts gX4_height_X4_heightOf rfl rfl rfl (by decide +kernel) ⟨Nat.le_of_ble_eq_true rfl, Nat.le_of_ble_eq_true rfl⟩) hK hP (ci := 4) (q0 := 0) rfl rfl rfl rfl hl.1 rfl (Nat.le_of_ble_eq_true rfl) dX4_height_25 ⟨Nat.zero_le _, Nat.zero_le _⟩ (fun r25 h25 => ?_)
      subst h25
      exact W.iret (v := htF n (fwB n m fr to w th be) u) hx hb hr (fun t ht hW => ⟨⟨_, _, rfl, ⟨rfl, (by rw [bw_t c5, heM, if_neg (by rw [c15]; decide), e1])⟩, by show va_P D vwCl (mW k b n m fr to w th (bw (ixB (nI u) n) (fwB n m fr to w th be) be) oe al pa bo rl ra mo) t.heap; rw [ht]; rw [bw_t c5]; exact hP⟩, hS.F ht⟩) hS.2.2 dX4_height_28
    · refine lv_ldc (v := (-1000000003)) hx hb hown (hts (.constant RX4 118 (-1000000003)) (by decide +kernel)) dX4_height_18 ?_
      refine lv_goto (tgt := 28) hx hb dX4_height_20 (by decide) ?_
      exact W.iret (v := (-1000000003)) hx hb hr (fun t ht hW => ⟨⟨_, _, rfl, ⟨rfl, (by rw [bw_t c5, heM, if_pos c15])⟩, by show va_P D vwCl (mW k b n m fr to w th (bw (ixB (nI u) n) (fwB n m fr to w th be) be) oe al pa bo rl ra mo) t.heap; rw [ht]; rw [bw_t c5]; exact hP⟩, hS.F ht⟩) hS.2.2 dX4_height_28
  · refine lv_ldc (v := (-1000000001)) hx hb hown (hts (.constant RX4 61 (-1000000001)) (by decide +kernel)) dX4_height_8 ?_
    exact W.iret (v := (-1000000001)) hx hb hr (fun t ht hW => ⟨⟨_, _, rfl, ⟨rfl, (by rw [bw_f c5])⟩, by show va_P D vwCl (mW k b n m fr to w th (bw (ixB x n) (fwB n m fr to w th be) be) oe al pa bo rl ra mo) t.heap; rw [ht]; rw [bw_f c5]; exact hP⟩, hS.F ht⟩) hS.2.2 dX4_height_10
set_option maxHeartbeats 4000000 in
set_option maxRecDepth 100000 in
theorem c4_lifted (l : Launch) {D : va_G} {k : Nat → ClassId} {b : Nat → Nat} {n : Nat} {m : Nat} {fr : Nat → Nat} {to : Nat → Nat} {w : Nat → Int32} {th : Nat → Bool} {be : Nat → Int64} {oe : Nat → Int64} {al : Nat → Int64} {pa : Nat → Int64} {bo : Nat → Int64} {rl : Nat} {ra : Nat → Nat} {mo : Nat → Int64} (ha : inj 12 b) (x : Int32) (hg : gOK n m fr to) : Met l yX4_lifted wsX4_lifted ({ frames := 2, cells := 0, slots := 0, locals := 48 }) (gPc D k (mW k b n m fr to w th be oe al pa bo rl ra mo) [.ref (b 0), .int x]) (va_Qi (S := Int32) (fun r u => u = r ∧ (r = liM n m fr to w th (fwB n m fr to w th be) x)) (fun _ t => va_P D vwCl (mW k b n m fr to w th (bw (ixB x m) (fwB n m fr to w th be) be) oe al pa bo rl ra mo) t.heap) (mA b)) 0 0 (mA b) := by
  refine Met.ofW (cc := cX4_lifted) (maxL := 2) (ret := (some .int)) (by decide) rfl ?_
  intro p e s mt args below meth c s₁ B hml hv
  obtain ⟨rfl, hP, hK⟩ := hv
  have hx := B.exec
  have hb := B.bytes
  have hr := B.returns
  have hts := atoms_spec (ws := wsX4_lifted) B.pre
  have hown : s.vm.findClass RX4 = some mt.cls := findClass_of_methodNamed B.named
  have hlocks := B.notSynchronized
  have i4 : ∀ w ∈ wsX40, w ∈ wsX4_lifted := by decide +kernel
  have hS : va_S (mA b) s.heap s.heap [] := va_S.rf
  have hD : va_D (mA b) (mW k b n m fr to w th be oe al pa bo rl ra mo) := mW_D ha
  have hl := lv_entry ([.ref (b 0), .int x]) (n := 2) (Nat.le_of_ble_eq_true rfl)
  rw [lg_entry_eq]
  generalize (lg_sl ([.ref (b 0), .int x]) ++ List.replicate (2 - (lg_sl ([.ref (b 0), .int x])).length) Slot.unset).toArray = ls at hl ⊢
  have hl : lv_has ls 2 [(0, .ref (b 0)), (1, .int x)] := hl
  obtain ⟨hn12, hm40, hft⟩ := id hg
  refine lv_aload_n hx hb dX4_lifted_0 rfl (lv_at hl 0 rfl) ?_
  refine lv_iload_n hx hb dX4_lifted_1 rfl (lv_at hl 1 rfl) ?_
  refine cl_Si (As := [.int x]) (rest := []) ⟨hx, hb, hml, hown, hts⟩ (c4_isArc l ha x (by omega)) (cwV 1 hts gX4_lifted_X4_isArc rfl rfl rfl (by decide +kernel) ⟨Nat.le_of_ble_eq_true rfl, Nat.le_of_ble_eq_true rfl⟩) hK hP (ci := 4) (q0 := 0) rfl rfl rfl rfl hl.1 rfl (Nat.le_of_ble_eq_true rfl) dX4_lifted_2 ⟨Nat.zero_le _, Nat.zero_le _⟩ (fun r2 h2 => ?_)
  subst h2
  refine rn_ifneb (tgt := 11) hx hb dX4_lifted_5 (by decide) (fun c5 => ?_) (fun c5 => ?_)
  · obtain ⟨j, hj, rfl⟩ := ixB_t (by omega) c5
    have e1 : (nI j).toNatClampNeg = j := nI_clamp (by omega)
    have hj2 := hft j hj
    refine lv_aload_n hx hb dX4_lifted_11 rfl (lv_at hl 0 rfl) ?_
    refine cl_Qi (As := []) (rest := []) ⟨hx, hb, hml, hown, hts⟩ (c4_isFalling l ha  hg) (cwV 0 hts gX4_lifted_X4_isFalling rfl rfl rfl (by decide +kernel) ⟨Nat.le_of_ble_eq_true rfl, Nat.le_of_ble_eq_true rfl⟩) hK hP hS (fun _ h => h) (ci := 4) (q0 := 0) rfl rfl rfl rfl hl.1 rfl (Nat.le_of_ble_eq_true rfl) dX4_lifted_12 ⟨Nat.zero_le _, Nat.zero_le _⟩ (fun r12 H locs h12 hP _ _ hS => ?_)
    have hP : va_P D vwCl (mW k b n m fr to w th (fwB n m fr to w th be) oe al pa bo rl ra mo) H := hP
    have hD : va_D (mA b) (mW k b n m fr to w th (fwB n m fr to w th be) oe al pa bo rl ra mo) := mW_D ha
    subst h12
    refine rn_ifneb (tgt := 27) hx hb dX4_lifted_15 (by decide) (fun c15 => ?_) (fun c15 => ?_)
    · refine lv_ldc (v := (-1000000003)) hx hb hown (hts (.constant RX4 118 (-1000000003)) (by decide +kernel)) dX4_lifted_27 ?_
      refine lv_goto (tgt := 60) hx hb dX4_lifted_29 (by decide) ?_
      exact W.iret (v := (-1000000003)) hx hb hr (fun t ht hW => ⟨⟨_, _, rfl, ⟨rfl, (by rw [liM, if_pos c5, if_pos c15])⟩, by show va_P D vwCl (mW k b n m fr to w th (bw (ixB (nI j) m) (fwB n m fr to w th be) be) oe al pa bo rl ra mo) t.heap; rw [ht]; rw [bw_t c5]; exact hP⟩, hS.F ht⟩) hS.2.2 dX4_lifted_60
    · refine lv_aload_n hx hb dX4_lifted_18 rfl (lv_at hl 0 rfl) ?_
      refine va_get (D := D) (ci := 4) (v := .ref (b 4)) (C := RX4) (T := TX4) (N := 14) hx hb hts i4 hown hK hP 0 rfl rfl 5 (by decide) (hts (.fieldLink RX4 19 "SignedPathsModel" "isThere" "[Z") (by decide +kernel)) (fun _ h9 => h9) rfl dX4_lifted_19 ?_
      refine lv_iload_n hx hb dX4_lifted_22 rfl (lv_at hl 1 rfl) ?_
      refine rn_zald (v := bI (th j)) hx hb hK hP 4 1 rfl rfl (by omega) (by decide) rfl dX4_lifted_23 ?_
      refine rn_ifneb (tgt := 32) hx hb dX4_lifted_24 (by decide) (fun c24 => ?_) (fun c24 => ?_)
      · refine lv_aload_n hx hb dX4_lifted_32 rfl (lv_at hl 0 rfl) ?_
        refine va_get (D := D) (ci := 4) (v := .ref (b 3)) (C := RX4) (T := TX4) (N := 14) hx hb hts i4 hown hK hP 0 rfl rfl 4 (by decide) (hts (.fieldLink RX4 16 "SignedPathsModel" "weight" "[I") (by decide +kernel)) (fun _ h9 => h9) rfl dX4_lifted_33 ?_
        refine lv_iload_n hx hb dX4_lifted_36 rfl (lv_at hl 1 rfl) ?_
        refine rn_iald (v := w j) hx hb hK hP 3 0 rfl rfl (by omega) (by decide) rfl dX4_lifted_37 ?_
        refine lv_aload_n hx hb dX4_lifted_38 rfl (lv_at hl 0 rfl) ?_
        refine lv_aload_n hx hb dX4_lifted_39 rfl (lv_at hl 0 rfl) ?_
        refine va_get (D := D) (ci := 4) (v := .ref (b 1)) (C := RX4) (T := TX4) (N := 14) hx hb hts i4 hown hK hP 0 rfl rfl 2 (by decide) (hts (.fieldLink RX4 7 "SignedPathsModel" "from" "[I") (by decide +kernel)) (fun _ h9 => h9) rfl dX4_lifted_40 ?_
        refine lv_iload_n hx hb dX4_lifted_43 rfl (lv_at hl 1 rfl) ?_
        refine rn_iald (v := nI (fr j)) hx hb hK hP 1 0 rfl rfl (by omega) (by decide) rfl dX4_lifted_44 ?_
        refine cl_Si (As := [.int (nI (fr j))]) (rest := [.int (w j)]) ⟨hx, hb, hml, hown, hts⟩ (c4_heightOf l ha (fr j) hg (by omega)) (cwV 1 hts gX4_lifted_X4_heightOf rfl rfl rfl (by decide +kernel) ⟨Nat.le_of_ble_eq_true rfl, Nat.le_of_ble_eq_true rfl⟩) hK hP (ci := 4) (q0 := 0) rfl rfl rfl rfl hl.1 rfl (Nat.le_of_ble_eq_true rfl) dX4_lifted_45 ⟨Nat.zero_le _, Nat.zero_le _⟩ (fun r45 h45 => ?_)
        subst h45
        refine lv_iadd hx hb dX4_lifted_48 ?_
        refine lv_aload_n hx hb dX4_lifted_49 rfl (lv_at hl 0 rfl) ?_
        refine lv_aload_n hx hb dX4_lifted_50 rfl (lv_at hl 0 rfl) ?_
        refine va_get (D := D) (ci := 4) (v := .ref (b 2)) (C := RX4) (T := TX4) (N := 14) hx hb hts i4 hown hK hP 0 rfl rfl 3 (by decide) (hts (.fieldLink RX4 13 "SignedPathsModel" "to" "[I") (by decide +kernel)) (fun _ h9 => h9) rfl dX4_lifted_51 ?_
        refine lv_iload_n hx hb dX4_lifted_54 rfl (lv_at hl 1 rfl) ?_
        refine rn_iald (v := nI (to j)) hx hb hK hP 2 0 rfl rfl (by omega) (by decide) rfl dX4_lifted_55 ?_
        refine cl_Si (As := [.int (nI (to j))]) (rest := [.int ((w j) + (htF n (fwB n m fr to w th be) (fr j)))]) ⟨hx, hb, hml, hown, hts⟩ (c4_heightOf l ha (to j) hg (by omega)) (cwV 1 hts gX4_lifted_X4_heightOf rfl rfl rfl (by decide +kernel) ⟨Nat.le_of_ble_eq_true rfl, Nat.le_of_ble_eq_true rfl⟩) hK hP (ci := 4) (q0 := 0) rfl rfl rfl rfl hl.1 rfl (Nat.le_of_ble_eq_true rfl) dX4_lifted_56 ⟨Nat.zero_le _, Nat.zero_le _⟩ (fun r56 h56 => ?_)
        subst h56
        refine lv_isub hx hb dX4_lifted_59 ?_
        exact W.iret (v := ((w j) + (htF n (fwB n m fr to w th be) (fr j))) - (htF n (fwB n m fr to w th be) (to j))) hx hb hr (fun t ht hW => ⟨⟨_, _, rfl, ⟨rfl, (by rw [liM, if_pos c5, if_neg (by rw [c15]; decide), e1, if_pos c24])⟩, by show va_P D vwCl (mW k b n m fr to w th (bw (ixB (nI j) m) (fwB n m fr to w th be) be) oe al pa bo rl ra mo) t.heap; rw [ht]; rw [bw_t c5]; exact hP⟩, hS.F ht⟩) hS.2.2 dX4_lifted_60
      · refine lv_ldc (v := (-1000000003)) hx hb hown (hts (.constant RX4 118 (-1000000003)) (by decide +kernel)) dX4_lifted_27 ?_
        refine lv_goto (tgt := 60) hx hb dX4_lifted_29 (by decide) ?_
        exact W.iret (v := (-1000000003)) hx hb hr (fun t ht hW => ⟨⟨_, _, rfl, ⟨rfl, (by rw [liM, if_pos c5, if_neg (by rw [c15]; decide), e1, if_neg (by rw [c24]; decide)])⟩, by show va_P D vwCl (mW k b n m fr to w th (bw (ixB (nI j) m) (fwB n m fr to w th be) be) oe al pa bo rl ra mo) t.heap; rw [ht]; rw [bw_t c5]; exact hP⟩, hS.F ht⟩) hS.2.2 dX4_lifted_60
  · refine lv_ldc (v := (-1000000001)) hx hb hown (hts (.constant RX4 61 (-1000000001)) (by decide +kernel)) dX4_lifted_8 ?_
    exact W.iret (v := (-1000000001)) hx hb hr (fun t ht hW => ⟨⟨_, _, rfl, ⟨rfl, (by simp [liM, c5])⟩, by show va_P D vwCl (mW k b n m fr to w th (bw (ixB x m) (fwB n m fr to w th be) be) oe al pa bo rl ra mo) t.heap; rw [ht]; rw [bw_f c5]; exact hP⟩, hS.F ht⟩) hS.2.2 dX4_lifted_10
set_option maxHeartbeats 4000000 in
set_option maxRecDepth 100000 in
theorem c4_spare (l : Launch) {D : va_G} {k : Nat → ClassId} {b : Nat → Nat} {n : Nat} {m : Nat} {fr : Nat → Nat} {to : Nat → Nat} {w : Nat → Int32} {th : Nat → Bool} {be : Nat → Int64} {oe : Nat → Int64} {al : Nat → Int64} {pa : Nat → Int64} {bo : Nat → Int64} {rl : Nat} {ra : Nat → Nat} {mo : Nat → Int64} (ha : inj 12 b) (x : Int32) (hg : gOK n m fr to) : Met l yX4_spare wsX4_spare ({ frames := 2, cells := 0, slots := 0, locals := 48 }) (gPc D k (mW k b n m fr to w th be oe al pa bo rl ra mo) [.ref (b 0), .int x]) (va_Qi (S := Int32) (fun r u => u = r ∧ (r = spM n m fr to w th (fwB n m fr to w th be) x)) (fun _ t => va_P D vwCl (mW k b n m fr to w th (bw (ixB x m) (fwB n m fr to w th be) be) oe al pa bo rl ra mo) t.heap) (mA b)) 0 0 (mA b) := by
  refine Met.ofW (cc := cX4_spare) (maxL := 4) (ret := (some .int)) (by decide) rfl ?_
  intro p e s mt args below meth c s₁ B hml hv
  obtain ⟨rfl, hP, hK⟩ := hv
  have hx := B.exec
  have hb := B.bytes
  have hr := B.returns
  have hts := atoms_spec (ws := wsX4_spare) B.pre
  have hown : s.vm.findClass RX4 = some mt.cls := findClass_of_methodNamed B.named
  have hlocks := B.notSynchronized
  have i4 : ∀ w ∈ wsX40, w ∈ wsX4_spare := by decide +kernel
  have hS : va_S (mA b) s.heap s.heap [] := va_S.rf
  have hD : va_D (mA b) (mW k b n m fr to w th be oe al pa bo rl ra mo) := mW_D ha
  have hl := lv_entry ([.ref (b 0), .int x]) (n := 4) (Nat.le_of_ble_eq_true rfl)
  rw [lg_entry_eq]
  generalize (lg_sl ([.ref (b 0), .int x]) ++ List.replicate (4 - (lg_sl ([.ref (b 0), .int x])).length) Slot.unset).toArray = ls at hl ⊢
  have hl : lv_has ls 4 [(0, .ref (b 0)), (1, .int x)] := hl
  obtain ⟨hn12, hm40, hft⟩ := id hg
  refine lv_aload_n hx hb dX4_spare_0 rfl (lv_at hl 0 rfl) ?_
  refine lv_iload_n hx hb dX4_spare_1 rfl (lv_at hl 1 rfl) ?_
  refine cl_Si (As := [.int x]) (rest := []) ⟨hx, hb, hml, hown, hts⟩ (c4_isArc l ha x (by omega)) (cwV 1 hts gX4_spare_X4_isArc rfl rfl rfl (by decide +kernel) ⟨Nat.le_of_ble_eq_true rfl, Nat.le_of_ble_eq_true rfl⟩) hK hP (ci := 4) (q0 := 0) rfl rfl rfl rfl hl.1 rfl (Nat.le_of_ble_eq_true rfl) dX4_spare_2 ⟨Nat.zero_le _, Nat.zero_le _⟩ (fun r2 h2 => ?_)
  subst h2
  refine rn_ifneb (tgt := 11) hx hb dX4_spare_5 (by decide) (fun c5 => ?_) (fun c5 => ?_)
  · obtain ⟨j, hj, rfl⟩ := ixB_t (by omega) c5
    have e1 : (nI j).toNatClampNeg = j := nI_clamp (by omega)
    have hj2 := hft j hj
    refine lv_aload_n hx hb dX4_spare_11 rfl (lv_at hl 0 rfl) ?_
    refine cl_Qi (As := []) (rest := []) ⟨hx, hb, hml, hown, hts⟩ (c4_isFalling l ha  hg) (cwV 0 hts gX4_spare_X4_isFalling rfl rfl rfl (by decide +kernel) ⟨Nat.le_of_ble_eq_true rfl, Nat.le_of_ble_eq_true rfl⟩) hK hP hS (fun _ h => h) (ci := 4) (q0 := 0) rfl rfl rfl rfl hl.1 rfl (Nat.le_of_ble_eq_true rfl) dX4_spare_12 ⟨Nat.zero_le _, Nat.zero_le _⟩ (fun r12 H locs h12 hP _ _ hS => ?_)
    have hP : va_P D vwCl (mW k b n m fr to w th (fwB n m fr to w th be) oe al pa bo rl ra mo) H := hP
    have hD : va_D (mA b) (mW k b n m fr to w th (fwB n m fr to w th be) oe al pa bo rl ra mo) := mW_D ha
    subst h12
    refine rn_ifneb (tgt := 27) hx hb dX4_spare_15 (by decide) (fun c15 => ?_) (fun c15 => ?_)
    · refine lv_ldc (v := (-1000000003)) hx hb hown (hts (.constant RX4 118 (-1000000003)) (by decide +kernel)) dX4_spare_27 ?_
      exact W.iret (v := (-1000000003)) hx hb hr (fun t ht hW => ⟨⟨_, _, rfl, ⟨rfl, (by rw [spM, if_pos c5, if_pos c15])⟩, by show va_P D vwCl (mW k b n m fr to w th (bw (ixB (nI j) m) (fwB n m fr to w th be) be) oe al pa bo rl ra mo) t.heap; rw [ht]; rw [bw_t c5]; exact hP⟩, hS.F ht⟩) hS.2.2 dX4_spare_29
    · refine lv_aload_n hx hb dX4_spare_18 rfl (lv_at hl 0 rfl) ?_
      refine va_get (D := D) (ci := 4) (v := .ref (b 4)) (C := RX4) (T := TX4) (N := 14) hx hb hts i4 hown hK hP 0 rfl rfl 5 (by decide) (hts (.fieldLink RX4 19 "SignedPathsModel" "isThere" "[Z") (by decide +kernel)) (fun _ h9 => h9) rfl dX4_spare_19 ?_
      refine lv_iload_n hx hb dX4_spare_22 rfl (lv_at hl 1 rfl) ?_
      refine rn_zald (v := bI (th j)) hx hb hK hP 4 1 rfl rfl (by omega) (by decide) rfl dX4_spare_23 ?_
      refine rn_ifneb (tgt := 30) hx hb dX4_spare_24 (by decide) (fun c24 => ?_) (fun c24 => ?_)
      · refine lv_aload_n hx hb dX4_spare_30 rfl (lv_at hl 0 rfl) ?_
        refine va_get (D := D) (ci := 4) (v := .ref (b 5)) (C := RX4) (T := TX4) (N := 14) hx hb hts i4 hown hK hP 0 rfl rfl 6 (by decide) (hts (.fieldLink RX4 23 "SignedPathsModel" "best" "[J") (by decide +kernel)) (fun _ h9 => h9) rfl dX4_spare_31 ?_
        refine lv_bipush (v := nI 12) hx hb dX4_spare_34 (by decide) ?_
        refine lv_aload_n hx hb dX4_spare_36 rfl (lv_at hl 0 rfl) ?_
        refine va_get (D := D) (ci := 4) (v := .ref (b 2)) (C := RX4) (T := TX4) (N := 14) hx hb hts i4 hown hK hP 0 rfl rfl 3 (by decide) (hts (.fieldLink RX4 13 "SignedPathsModel" "to" "[I") (by decide +kernel)) (fun _ h9 => h9) rfl dX4_spare_37 ?_
        refine lv_iload_n hx hb dX4_spare_40 rfl (lv_at hl 1 rfl) ?_
        refine rn_iald (v := nI (to j)) hx hb hK hP 2 0 rfl rfl (by omega) (by decide) rfl dX4_spare_41 ?_
        refine rn_imul hx hb  dX4_spare_42 ?_
        refine lv_aload_n hx hb dX4_spare_43 rfl (lv_at hl 0 rfl) ?_
        refine va_get (D := D) (ci := 4) (v := .ref (b 1)) (C := RX4) (T := TX4) (N := 14) hx hb hts i4 hown hK hP 0 rfl rfl 2 (by decide) (hts (.fieldLink RX4 7 "SignedPathsModel" "from" "[I") (by decide +kernel)) (fun _ h9 => h9) rfl dX4_spare_44 ?_
        refine lv_iload_n hx hb dX4_spare_47 rfl (lv_at hl 1 rfl) ?_
        refine rn_iald (v := nI (fr j)) hx hb hK hP 1 0 rfl rfl (by omega) (by decide) rfl dX4_spare_48 ?_
        refine rn_iadd hx hb  dX4_spare_49 ?_
        refine rn_lald (v := (fwB n m fr to w th be) ((12 * (to j)) + (fr j))) hx hb hK hP 5 3 rfl rfl (by omega) (by decide) rfl dX4_spare_50 ?_
        refine lv_lstore_n (lv' := [(2, .long ((fwB n m fr to w th be) ((12 * (to j)) + (fr j)))), (0, .ref (b 0)), (1, .int (nI j))]) hx hb dX4_spare_51 rfl hl (by decide) rfl (fun ls hl => ?_)
        refine lv_lload_n hx hb dX4_spare_52 rfl (lv_at hl 0 rfl) ?_
        refine lv_ldc2 (v := 1000000000000) hx hb hown (hts (.constantLong RX4 66 1000000000000) (by decide +kernel)) dX4_spare_53 ?_
        refine rn_lcmp_lt (tgt := 65) hx hb dX4_spare_56 dX4_spare_57 (by decide) (fun c56 => ?_) (fun c56 => ?_)
        · refine lv_aload_n hx hb dX4_spare_65 rfl (lv_at hl 1 rfl) ?_
          refine va_get (D := D) (ci := 4) (v := .ref (b 3)) (C := RX4) (T := TX4) (N := 14) hx hb hts i4 hown hK hP 0 rfl rfl 4 (by decide) (hts (.fieldLink RX4 16 "SignedPathsModel" "weight" "[I") (by decide +kernel)) (fun _ h9 => h9) rfl dX4_spare_66 ?_
          refine lv_iload_n hx hb dX4_spare_69 rfl (lv_at hl 2 rfl) ?_
          refine rn_iald (v := w j) hx hb hK hP 3 0 rfl rfl (by omega) (by decide) rfl dX4_spare_70 ?_
          refine lv_lload_n hx hb dX4_spare_71 rfl (lv_at hl 0 rfl) ?_
          refine cl_Ti (As := [.long ((fwB n m fr to w th be) ((12 * (to j)) + (fr j)))]) (rest := [.int (w j)]) ⟨hx, hb, hml, hown, hts⟩ (c4_weightIn l ((fwB n m fr to w th be) ((12 * (to j)) + (fr j))) ) (va_cwS 1 hts gX4_spare_X4_weightIn rfl rfl rfl (by decide +kernel) ⟨Nat.le_of_ble_eq_true rfl, Nat.le_of_ble_eq_true rfl⟩) rfl hl.1 rfl (Nat.le_of_ble_eq_true rfl) dX4_spare_72 ⟨Nat.zero_le _, Nat.zero_le _⟩ (fun r72 h72 => ?_)
          subst h72
          refine lv_iadd hx hb dX4_spare_75 ?_
          exact W.iret (v := (w j) + (wIn ((fwB n m fr to w th be) ((12 * (to j)) + (fr j))))) hx hb hr (fun t ht hW => ⟨⟨_, _, rfl, ⟨rfl, (by rw [spM, if_pos c5, if_neg (by rw [c15]; decide), e1, if_pos c24, if_pos c56])⟩, by show va_P D vwCl (mW k b n m fr to w th (bw (ixB (nI j) m) (fwB n m fr to w th be) be) oe al pa bo rl ra mo) t.heap; rw [ht]; rw [bw_t c5]; exact hP⟩, hS.F ht⟩) hS.2.2 dX4_spare_76
        · refine lv_ldc (v := 1000000000) hx hb hown (hts (.constant RX4 75 1000000000) (by decide +kernel)) dX4_spare_60 ?_
          refine lv_goto (tgt := 76) hx hb dX4_spare_62 (by decide) ?_
          exact W.iret (v := 1000000000) hx hb hr (fun t ht hW => ⟨⟨_, _, rfl, ⟨rfl, (by rw [spM, if_pos c5, if_neg (by rw [c15]; decide), e1, if_pos c24, if_neg c56])⟩, by show va_P D vwCl (mW k b n m fr to w th (bw (ixB (nI j) m) (fwB n m fr to w th be) be) oe al pa bo rl ra mo) t.heap; rw [ht]; rw [bw_t c5]; exact hP⟩, hS.F ht⟩) hS.2.2 dX4_spare_76
      · refine lv_ldc (v := (-1000000003)) hx hb hown (hts (.constant RX4 118 (-1000000003)) (by decide +kernel)) dX4_spare_27 ?_
        exact W.iret (v := (-1000000003)) hx hb hr (fun t ht hW => ⟨⟨_, _, rfl, ⟨rfl, (by rw [spM, if_pos c5, if_neg (by rw [c15]; decide), e1, if_neg (by rw [c24]; decide)])⟩, by show va_P D vwCl (mW k b n m fr to w th (bw (ixB (nI j) m) (fwB n m fr to w th be) be) oe al pa bo rl ra mo) t.heap; rw [ht]; rw [bw_t c5]; exact hP⟩, hS.F ht⟩) hS.2.2 dX4_spare_29
  · refine lv_ldc (v := (-1000000001)) hx hb hown (hts (.constant RX4 61 (-1000000001)) (by decide +kernel)) dX4_spare_8 ?_
    exact W.iret (v := (-1000000001)) hx hb hr (fun t ht hW => ⟨⟨_, _, rfl, ⟨rfl, (by simp [spM, c5])⟩, by show va_P D vwCl (mW k b n m fr to w th (bw (ixB x m) (fwB n m fr to w th be) be) oe al pa bo rl ra mo) t.heap; rw [ht]; rw [bw_f c5]; exact hP⟩, hS.F ht⟩) hS.2.2 dX4_spare_10
