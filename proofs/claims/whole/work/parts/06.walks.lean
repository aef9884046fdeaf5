set_option maxHeartbeats 4000000 in
set_option maxRecDepth 100000 in
theorem c2_lightest (l : Launch) {D : va_G} {k : Nat → ClassId} {a : Nat → Nat} {n : Nat} {m : Nat} {ch : Int32} {fr : Nat → Nat} {to : Nat → Nat} {w : Nat → Int32} {th : Nat → Bool} {L : Nat → Nat → Int32} {la : Nat} {sw : Int32} {od : Nat → Nat} {io : Nat → Bool} {oc : Nat} {fa : Nat → Int32} {on : Nat → Nat → Int32} {gr : Int32} {sr : Int32} (ha : inj 46 a) (i : Nat) (u : Nat) (v : Nat) (hi : i < 21) (hu : u < 12) (hv : v < 12) : Met l yX2_lightest wsX2_lightest ({ frames := 0, cells := 0, slots := 0, locals := 0 }) (gPc D k (cW k a n m ch fr to w th L la sw od io oc fa on gr sr) [.ref (a 6), .int (nI i), .int (nI u), .int (nI v)]) (vp_Si (fun r => r = L i (u * 12 + v))) 0 0 nF := by
  refine Met.ofW (cc := cX2_lightest) (maxL := 4) (ret := (some .int)) (by decide) rfl ?_
  intro p e s mt args below meth c s₁ B hml hv
  obtain ⟨rfl, hP, hK⟩ := hv
  have hx := B.exec
  have hb := B.bytes
  have hr := B.returns
  have hts := atoms_spec (ws := wsX2_lightest) B.pre
  have hown : s.vm.findClass RX2 = some mt.cls := findClass_of_methodNamed B.named
  have hlocks := B.notSynchronized
  have i2 : ∀ w ∈ wsX20, w ∈ wsX2_lightest := by decide +kernel
  have hl := lv_entry ([.ref (a 6), .int (nI i), .int (nI u), .int (nI v)]) (n := 4) (Nat.le_of_ble_eq_true rfl)
  rw [lg_entry_eq]
  generalize (lg_sl ([.ref (a 6), .int (nI i), .int (nI u), .int (nI v)]) ++ List.replicate (4 - (lg_sl ([.ref (a 6), .int (nI i), .int (nI u), .int (nI v)])).length) Slot.unset).toArray = ls at hl ⊢
  have hl : lv_has ls 4 [(0, .ref (a 6)), (1, .int (nI i)), (2, .int (nI u)), (3, .int (nI v))] := hl
  refine lv_aload_n hx hb dX2_lightest_0 rfl (lv_at hl 0 rfl) ?_
  refine va_get (D := D) (ci := 2) (v := .ref (a 7)) (C := RX2) (T := TX2) (N := 4) hx hb hts i2 hown hK hP 6 rfl rfl 1 (by decide) (hts (.fieldLink RX2 17 "SignedPaths$Walks" "layers" "[[I") (by decide +kernel)) (fun _ h9 => h9) rfl dX2_lightest_1 ?_
  refine lv_iload_n hx hb dX2_lightest_4 rfl (lv_at hl 1 rfl) ?_
  refine rn_aald (y := a (13 + i)) hx hb hK hP 7 2 rfl rfl (by omega) (by decide) (if_pos (by omega)) dX2_lightest_5 ?_
  refine lv_iload_n hx hb dX2_lightest_6 rfl (lv_at hl 2 rfl) ?_
  refine lv_bipush (v := nI 12) hx hb dX2_lightest_7 (by decide) ?_
  refine rn_imul hx hb  dX2_lightest_9 ?_
  refine lv_iload_n hx hb dX2_lightest_10 rfl (lv_at hl 3 rfl) ?_
  refine rn_iadd hx hb  dX2_lightest_11 ?_
  refine rn_iald (v := L i ((u * 12) + v)) hx hb hK hP (13 + i) 0 (cW_row (by omega)) rfl (by omega) (by decide) rfl dX2_lightest_12 ?_
  exact W.iret (v := L i ((u * 12) + v)) hx hb hr (fun t ht hW => ⟨_, rfl, rfl, ht⟩) (fun q h => absurd h List.not_mem_nil) dX2_lightest_13
set_option maxHeartbeats 4000000 in
set_option maxRecDepth 100000 in
theorem c2_isWalk (l : Launch) {D : va_G} {k : Nat → ClassId} {a : Nat → Nat} {n : Nat} {m : Nat} {ch : Int32} {fr : Nat → Nat} {to : Nat → Nat} {w : Nat → Int32} {th : Nat → Bool} {L : Nat → Nat → Int32} {la : Nat} {sw : Int32} {od : Nat → Nat} {io : Nat → Bool} {oc : Nat} {fa : Nat → Int32} {on : Nat → Nat → Int32} {gr : Int32} {sr : Int32} (ha : inj 46 a) (u : Nat) (v : Nat) (hu : u < 12) (hv : v < 12) : Met l yX2_isWalk wsX2_isWalk ({ frames := 1, cells := 0, slots := 0, locals := 23 }) (gPc D k (cW k a n m ch fr to w th L la sw od io oc fa on gr sr) [.ref (a 6), .int (nI u), .int (nI v)]) (vp_Si (fun r => r = bI (isWk L u v))) 0 0 nF := by
  refine Met.ofW (cc := cX2_isWalk) (maxL := 3) (ret := (some .boolean)) (by decide) rfl ?_
  intro p e s mt args below meth c s₁ B hml hv
  obtain ⟨rfl, hP, hK⟩ := hv
  have hx := B.exec
  have hb := B.bytes
  have hr := B.returns
  have hts := atoms_spec (ws := wsX2_isWalk) B.pre
  have hown : s.vm.findClass RX2 = some mt.cls := findClass_of_methodNamed B.named
  have hlocks := B.notSynchronized
  have i2 : ∀ w ∈ wsX20, w ∈ wsX2_isWalk := by decide +kernel
  have hl := lv_entry ([.ref (a 6), .int (nI u), .int (nI v)]) (n := 3) (Nat.le_of_ble_eq_true rfl)
  rw [lg_entry_eq]
  generalize (lg_sl ([.ref (a 6), .int (nI u), .int (nI v)]) ++ List.replicate (3 - (lg_sl ([.ref (a 6), .int (nI u), .int (nI v)])).length) Slot.unset).toArray = ls at hl ⊢
  have hl : lv_has ls 3 [(0, .ref (a 6)), (1, .int (nI u)), (2, .int (nI v))] := hl
  refine lv_aload_n hx hb dX2_isWalk_0 rfl (lv_at hl 0 rfl) ?_
  refine lv_bipush (v := nI 12) hx hb dX2_isWalk_1 (by decide) ?_
  refine lv_iload_n hx hb dX2_isWalk_3 rfl (lv_at hl 1 rfl) ?_
  refine lv_iload_n hx hb dX2_isWalk_4 rfl (lv_at hl 2 rfl) ?_
  refine cl_Si (As := [.int (nI 12), .int (nI u), .int (nI v)]) (rest := []) ⟨hx, hb, hml, hown, hts⟩ (c2_lightest l ha 12 u v (by omega) (by omega) (by omega)) (cwV 3 hts gX2_isWalk_X2_lightest rfl rfl rfl (by decide +kernel) ⟨Nat.le_of_ble_eq_true rfl, Nat.le_of_ble_eq_true rfl⟩) hK hP (ci := 2) (q0 := 6) rfl rfl rfl rfl hl.1 rfl (Nat.le_of_ble_eq_true rfl) dX2_isWalk_5 ⟨Nat.zero_le _, Nat.zero_le _⟩ (fun r5 h5 => ?_)
  subst h5
  refine lv_ldc (v := 1000000000) hx hb hown (hts (.constant RX2 42 1000000000) (by decide +kernel)) dX2_isWalk_8 ?_
  refine lv_icmp_eq (tgt := 17) hx hb dX2_isWalk_10 (by decide) (fun c10 => ?_) (fun c10 => ?_)
  · refine lv_iconst (v := 0) hx hb dX2_isWalk_17 (by decide) ?_
    exact W.zret (v := 0) hx hb hr (by decide) (fun t ht hW => ⟨_, rfl, (by simp [isWk, c10, bI]), ht⟩) (fun q h => absurd h List.not_mem_nil) dX2_isWalk_18
  · refine lv_iconst (v := 1) hx hb dX2_isWalk_13 (by decide) ?_
    refine lv_goto (tgt := 18) hx hb dX2_isWalk_14 (by decide) ?_
    exact W.zret (v := 1) hx hb hr (by decide) (fun t ht hW => ⟨_, rfl, (by simp [isWk, c10, bI]), ht⟩) (fun q h => absurd h List.not_mem_nil) dX2_isWalk_18
set_option maxHeartbeats 4000000 in
set_option maxRecDepth 100000 in
theorem c2_fallsAt (l : Launch) {D : va_G} {k : Nat → ClassId} {a : Nat → Nat} {n : Nat} {m : Nat} {ch : Int32} {fr : Nat → Nat} {to : Nat → Nat} {w : Nat → Int32} {th : Nat → Bool} {L : Nat → Nat → Int32} {la : Nat} {sw : Int32} {od : Nat → Nat} {io : Nat → Bool} {oc : Nat} {fa : Nat → Int32} {on : Nat → Nat → Int32} {gr : Int32} {sr : Int32} (ha : inj 46 a) (u : Nat) (hu : u < 12) : Met l yX2_fallsAt wsX2_fallsAt ({ frames := 1, cells := 0, slots := 0, locals := 23 }) (gPc D k (cW k a n m ch fr to w th L la sw od io oc fa on gr sr) [.ref (a 6), .int (nI u)]) (vp_Si (fun r => r = bI (falls L u))) 0 0 nF := by
  refine Met.ofW (cc := cX2_fallsAt) (maxL := 2) (ret := (some .boolean)) (by decide) rfl ?_
  intro p e s mt args below meth c s₁ B hml hv
  obtain ⟨rfl, hP, hK⟩ := hv
  have hx := B.exec
  have hb := B.bytes
  have hr := B.returns
  have hts := atoms_spec (ws := wsX2_fallsAt) B.pre
  have hown : s.vm.findClass RX2 = some mt.cls := findClass_of_methodNamed B.named
  have hlocks := B.notSynchronized
  have i2 : ∀ w ∈ wsX20, w ∈ wsX2_fallsAt := by decide +kernel
  have hl := lv_entry ([.ref (a 6), .int (nI u)]) (n := 2) (Nat.le_of_ble_eq_true rfl)
  rw [lg_entry_eq]
  generalize (lg_sl ([.ref (a 6), .int (nI u)]) ++ List.replicate (2 - (lg_sl ([.ref (a 6), .int (nI u)])).length) Slot.unset).toArray = ls at hl ⊢
  have hl : lv_has ls 2 [(0, .ref (a 6)), (1, .int (nI u))] := hl
  refine lv_aload_n hx hb dX2_fallsAt_0 rfl (lv_at hl 0 rfl) ?_
  refine lv_bipush (v := nI 12) hx hb dX2_fallsAt_1 (by decide) ?_
  refine lv_iload_n hx hb dX2_fallsAt_3 rfl (lv_at hl 1 rfl) ?_
  refine lv_iload_n hx hb dX2_fallsAt_4 rfl (lv_at hl 1 rfl) ?_
  refine cl_Si (As := [.int (nI 12), .int (nI u), .int (nI u)]) (rest := []) ⟨hx, hb, hml, hown, hts⟩ (c2_lightest l ha 12 u u (by omega) (by omega) (by omega)) (cwV 3 hts gX2_fallsAt_X2_lightest rfl rfl rfl (by decide +kernel) ⟨Nat.le_of_ble_eq_true rfl, Nat.le_of_ble_eq_true rfl⟩) hK hP (ci := 2) (q0 := 6) rfl rfl rfl rfl hl.1 rfl (Nat.le_of_ble_eq_true rfl) dX2_fallsAt_5 ⟨Nat.zero_le _, Nat.zero_le _⟩ (fun r5 h5 => ?_)
  subst h5
  refine lv_if_ge (tgt := 15) hx hb dX2_fallsAt_8 (by decide) (fun c8 => ?_) (fun c8 => ?_)
  · refine lv_iconst (v := 0) hx hb dX2_fallsAt_15 (by decide) ?_
    exact W.zret (v := 0) hx hb hr (by decide) (fun t ht hW => ⟨_, rfl, (by simp [falls, c8, bI]), ht⟩) (fun q h => absurd h List.not_mem_nil) dX2_fallsAt_16
  · refine lv_iconst (v := 1) hx hb dX2_fallsAt_11 (by decide) ?_
    refine lv_goto (tgt := 16) hx hb dX2_fallsAt_12 (by decide) ?_
    exact W.zret (v := 1) hx hb hr (by decide) (fun t ht hW => ⟨_, rfl, (by simp [falls, c8, bI]), ht⟩) (fun q h => absurd h List.not_mem_nil) dX2_fallsAt_16
set_option maxHeartbeats 4000000 in
set_option maxRecDepth 100000 in
theorem c2_someRingFalls (l : Launch) {D : va_G} {k : Nat → ClassId} {a : Nat → Nat} {n : Nat} {m : Nat} {ch : Int32} {fr : Nat → Nat} {to : Nat → Nat} {w : Nat → Int32} {th : Nat → Bool} {L : Nat → Nat → Int32} {la : Nat} {sw : Int32} {od : Nat → Nat} {io : Nat → Bool} {oc : Nat} {fa : Nat → Int32} {on : Nat → Nat → Int32} {gr : Int32} {sr : Int32} (ha : inj 46 a)  (hg : gOK n m fr to) : Met l yX2_someRingFalls wsX2_someRingFalls ({ frames := 2, cells := 0, slots := 0, locals := 44 }) (gPc D k (cW k a n m ch fr to w th L la sw od io oc fa on gr sr) [.ref (a 6)]) (vp_Si (fun r => r = bI (someF n L))) 0 0 nF := by
  refine Met.ofW (cc := cX2_someRingFalls) (maxL := 2) (ret := (some .boolean)) (by decide) rfl ?_
  intro p e s mt args below meth c s₁ B hml hv
  obtain ⟨rfl, hP, hK⟩ := hv
  have hx := B.exec
  have hb := B.bytes
  have hr := B.returns
  have hts := atoms_spec (ws := wsX2_someRingFalls) B.pre
  have hown : s.vm.findClass RX2 = some mt.cls := findClass_of_methodNamed B.named
  have hlocks := B.notSynchronized
  have i0 : ∀ w ∈ wsX00, w ∈ wsX2_someRingFalls := by decide +kernel
  have i2 : ∀ w ∈ wsX20, w ∈ wsX2_someRingFalls := by decide +kernel
  have hl := lv_entry ([.ref (a 6)]) (n := 2) (Nat.le_of_ble_eq_true rfl)
  rw [lg_entry_eq]
  generalize (lg_sl ([.ref (a 6)]) ++ List.replicate (2 - (lg_sl ([.ref (a 6)])).length) Slot.unset).toArray = ls at hl ⊢
  have hl : lv_has ls 2 [(0, .ref (a 6))] := hl
  obtain ⟨Q, hQ⟩ : ∃ Q, Q = MQ below (vp_Si (fun r => r = bI (someF n L))) ([.ref (a 6)] : List Value).toArray s 0 0 nF := ⟨_, rfl⟩
  rw [← hQ]
  obtain ⟨hn12, hm40, hft⟩ := id hg
  refine lv_iconst (v := nI 0) hx hb dX2_someRingFalls_0 (by decide) ?_
  refine lv_istore_n (lv' := [(1, .int (nI 0)), (0, .ref (a 6))]) hx hb dX2_someRingFalls_1 rfl hl (by decide) rfl (fun ls hl => ?_)
  have key2 : ∀ (f2 i : Nat), n + 1 ≤ i + f2 → i ≤ n → (∀ j, j < i → falls L j = false) → ∀ (ls : Array Slot), lv_has ls 2 [(0, .ref (a 6)), (1, .int (nI i))] → W p l e (headSpec wsX2_someRingFalls { frames := 2, cells := 0, slots := 0, locals := 44 }).room s mt ([.ref (a 6)] : List Value).toArray below meth c s.heap [] 0 0 Q (F0 mt 2 ls []) := by
    intro f2
    induction f2 with
    | zero => intro i h1 h2; exact absurd h1 (by omega)
    | succ f2 ih2 =>
      intro i hf2 hi2  hv2 ls hl
      refine lv_iload_n hx hb dX2_someRingFalls_2 rfl (lv_at hl 1 rfl) ?_
      refine lv_aload_n hx hb dX2_someRingFalls_3 rfl (lv_at hl 0 rfl) ?_
      refine va_get (D := D) (ci := 2) (v := .ref (a 1)) (C := RX2) (T := TX2) (N := 4) hx hb hts i2 hown hK hP 6 rfl rfl 0 (by decide) (hts (.fieldLink RX2 9 "SignedPaths$Walks" "graph" "LSignedPaths$Graph;") (by decide +kernel)) (fun _ h9 => h9) rfl dX2_someRingFalls_4 ?_
      refine va_get (D := D) (ci := 0) (v := .int (nI n)) (C := RX0) (T := TX0) (N := 7) hx hb hts i0 hown hK hP 1 rfl rfl 0 (by decide) (hts (.fieldLink RX2 39 "SignedPaths$Graph" "nodes" "I") (by decide +kernel)) (fun _ h9 => h9) rfl dX2_someRingFalls_7 ?_
      refine rn_icmp_ge (tgt := 29) hx hb dX2_someRingFalls_10 (by decide) (by omega) (by omega) (fun c10 => ?_) (fun c10 => ?_)
      · refine lv_iconst (v := 0) hx hb dX2_someRingFalls_29 (by decide) ?_
        rw [hQ]
        exact W.zret (v := 0) hx hb hr (by decide) (fun t ht hW => ⟨_, rfl, (by rw [someF, fst_no (fun j hj => hv2 j (by omega))]; rfl), ht⟩) (fun q h => absurd h List.not_mem_nil) dX2_someRingFalls_30
      · refine lv_aload_n hx hb dX2_someRingFalls_13 rfl (lv_at hl 0 rfl) ?_
        refine lv_iload_n hx hb dX2_someRingFalls_14 rfl (lv_at hl 1 rfl) ?_
        refine cl_Si (As := [.int (nI i)]) (rest := []) ⟨hx, hb, hml, hown, hts⟩ (c2_fallsAt l ha i (by omega)) (cwV 1 hts gX2_someRingFalls_X2_fallsAt rfl rfl rfl (by decide +kernel) ⟨Nat.le_of_ble_eq_true rfl, Nat.le_of_ble_eq_true rfl⟩) hK hP (ci := 2) (q0 := 6) rfl rfl rfl rfl hl.1 rfl (Nat.le_of_ble_eq_true rfl) dX2_someRingFalls_15 ⟨Nat.zero_le _, Nat.zero_le _⟩ (fun r15 h15 => ?_)
        subst h15
        refine rn_ifeqb (tgt := 23) hx hb dX2_someRingFalls_18 (by decide) (fun c18 => ?_) (fun c18 => ?_)
        · refine lv_iinc (v := nI (i + 1)) (lv' := [(1, .int (nI (i + 1))), (0, .ref (a 6))]) hx hb dX2_someRingFalls_23 hl (k := 1) rfl (nI_1 i) (by decide) rfl (fun ls hl => ?_)
          refine lv_goto (tgt := 2) hx hb dX2_someRingFalls_26 (by decide) ?_
          exact ih2 (i + 1) (by omega) (by omega) (lt_s hv2 c18) ls (lv_sub hl [1, 0] rfl)
        · refine lv_iconst (v := 1) hx hb dX2_someRingFalls_21 (by decide) ?_
          rw [hQ]
          exact W.zret (v := 1) hx hb hr (by decide) (fun t ht hW => ⟨_, rfl, (by rw [someF, fst_yes hv2 c18 c10]; rfl), ht⟩) (fun q h => absurd h List.not_mem_nil) dX2_someRingFalls_22
  exact key2 (n + 1) 0 (by omega) (by omega) (fun j h => absurd h (Nat.not_lt_zero j)) ls (lv_sub hl [1, 0] rfl)
set_option maxHeartbeats 4000000 in
set_option maxRecDepth 100000 in
theorem c2_isBottomless (l : Launch) {D : va_G} {k : Nat → ClassId} {a : Nat → Nat} {n : Nat} {m : Nat} {ch : Int32} {fr : Nat → Nat} {to : Nat → Nat} {w : Nat → Int32} {th : Nat → Bool} {L : Nat → Nat → Int32} {la : Nat} {sw : Int32} {od : Nat → Nat} {io : Nat → Bool} {oc : Nat} {fa : Nat → Int32} {on : Nat → Nat → Int32} {gr : Int32} {sr : Int32} (ha : inj 46 a) (u : Nat) (v : Nat) (hg : gOK n m fr to) (hu : u < 12) (hv : v < 12) : Met l yX2_isBottomless wsX2_isBottomless ({ frames := 2, cells := 0, slots := 0, locals := 45 }) (gPc D k (cW k a n m ch fr to w th L la sw od io oc fa on gr sr) [.ref (a 6), .int (nI u), .int (nI v)]) (vp_Si (fun r => r = bI (bot n L u v))) 0 0 nF := by
  refine Met.ofW (cc := cX2_isBottomless) (maxL := 4) (ret := (some .boolean)) (by decide) rfl ?_
  intro p e s mt args below meth c s₁ B hml hv
  obtain ⟨rfl, hP, hK⟩ := hv
  have hx := B.exec
  have hb := B.bytes
  have hr := B.returns
  have hts := atoms_spec (ws := wsX2_isBottomless) B.pre
  have hown : s.vm.findClass RX2 = some mt.cls := findClass_of_methodNamed B.named
  have hlocks := B.notSynchronized
  have i0 : ∀ w ∈ wsX00, w ∈ wsX2_isBottomless := by decide +kernel
  have i2 : ∀ w ∈ wsX20, w ∈ wsX2_isBottomless := by decide +kernel
  have hl := lv_entry ([.ref (a 6), .int (nI u), .int (nI v)]) (n := 4) (Nat.le_of_ble_eq_true rfl)
  rw [lg_entry_eq]
  generalize (lg_sl ([.ref (a 6), .int (nI u), .int (nI v)]) ++ List.replicate (4 - (lg_sl ([.ref (a 6), .int (nI u), .int (nI v)])).length) Slot.unset).toArray = ls at hl ⊢
  have hl : lv_has ls 4 [(0, .ref (a 6)), (1, .int (nI u)), (2, .int (nI v))] := hl
  obtain ⟨Q, hQ⟩ : ∃ Q, Q = MQ below (vp_Si (fun r => r = bI (bot n L u v))) ([.ref (a 6), .int (nI u), .int (nI v)] : List Value).toArray s 0 0 nF := ⟨_, rfl⟩
  rw [← hQ]
  obtain ⟨hn12, hm40, hft⟩ := id hg
  refine lv_iconst (v := nI 0) hx hb dX2_isBottomless_0 (by decide) ?_
  refine lv_istore_n (lv' := [(3, .int (nI 0)), (0, .ref (a 6)), (1, .int (nI u)), (2, .int (nI v))]) hx hb dX2_isBottomless_1 rfl hl (by decide) rfl (fun ls hl => ?_)
  have key2 : ∀ (f2 i : Nat), n + 1 ≤ i + f2 → i ≤ n → (∀ j, j < i → botP L u v j = false) → ∀ (ls : Array Slot), lv_has ls 4 [(0, .ref (a 6)), (1, .int (nI u)), (2, .int (nI v)), (3, .int (nI i))] → W p l e (headSpec wsX2_isBottomless { frames := 2, cells := 0, slots := 0, locals := 45 }).room s mt ([.ref (a 6), .int (nI u), .int (nI v)] : List Value).toArray below meth c s.heap [] 0 0 Q (F0 mt 2 ls []) := by
    intro f2
    induction f2 with
    | zero => intro i h1 h2; exact absurd h1 (by omega)
    | succ f2 ih2 =>
      intro i hf2 hi2  hv2 ls hl
      refine lv_iload_n hx hb dX2_isBottomless_2 rfl (lv_at hl 3 rfl) ?_
      refine lv_aload_n hx hb dX2_isBottomless_3 rfl (lv_at hl 0 rfl) ?_
      refine va_get (D := D) (ci := 2) (v := .ref (a 1)) (C := RX2) (T := TX2) (N := 4) hx hb hts i2 hown hK hP 6 rfl rfl 0 (by decide) (hts (.fieldLink RX2 9 "SignedPaths$Walks" "graph" "LSignedPaths$Graph;") (by decide +kernel)) (fun _ h9 => h9) rfl dX2_isBottomless_4 ?_
      refine va_get (D := D) (ci := 0) (v := .int (nI n)) (C := RX0) (T := TX0) (N := 7) hx hb hts i0 hown hK hP 1 rfl rfl 0 (by decide) (hts (.fieldLink RX2 39 "SignedPaths$Graph" "nodes" "I") (by decide +kernel)) (fun _ h9 => h9) rfl dX2_isBottomless_7 ?_
      refine rn_icmp_ge (tgt := 47) hx hb dX2_isBottomless_10 (by decide) (by omega) (by omega) (fun c10 => ?_) (fun c10 => ?_)
      · refine lv_iconst (v := 0) hx hb dX2_isBottomless_47 (by decide) ?_
        rw [hQ]
        exact W.zret (v := 0) hx hb hr (by decide) (fun t ht hW => ⟨_, rfl, (by rw [bot, fst_no (fun j hj => hv2 j (by omega))]; rfl), ht⟩) (fun q h => absurd h List.not_mem_nil) dX2_isBottomless_48
      · refine lv_aload_n hx hb dX2_isBottomless_13 rfl (lv_at hl 0 rfl) ?_
        refine lv_iload_n hx hb dX2_isBottomless_14 rfl (lv_at hl 3 rfl) ?_
        refine cl_Si (As := [.int (nI i)]) (rest := []) ⟨hx, hb, hml, hown, hts⟩ (c2_fallsAt l ha i (by omega)) (cwV 1 hts gX2_isBottomless_X2_fallsAt rfl rfl rfl (by decide +kernel) ⟨Nat.le_of_ble_eq_true rfl, Nat.le_of_ble_eq_true rfl⟩) hK hP (ci := 2) (q0 := 6) rfl rfl rfl rfl hl.1 rfl (Nat.le_of_ble_eq_true rfl) dX2_isBottomless_15 ⟨Nat.zero_le _, Nat.zero_le _⟩ (fun r15 h15 => ?_)
        subst h15
        refine rn_ifeqb (tgt := 41) hx hb dX2_isBottomless_18 (by decide) (fun c18 => ?_) (fun c18 => ?_)
        · refine lv_iinc (v := nI (i + 1)) (lv' := [(3, .int (nI (i + 1))), (0, .ref (a 6)), (1, .int (nI u)), (2, .int (nI v))]) hx hb dX2_isBottomless_41 hl (k := 3) rfl (nI_1 i) (by decide) rfl (fun ls hl => ?_)
          refine lv_goto (tgt := 2) hx hb dX2_isBottomless_44 (by decide) ?_
          exact ih2 (i + 1) (by omega) (by omega) (lt_s hv2 (by simp [botP, c18])) ls (lv_sub hl [1, 2, 3, 0] rfl)
        · refine lv_aload_n hx hb dX2_isBottomless_21 rfl (lv_at hl 0 rfl) ?_
          refine lv_iload_n hx hb dX2_isBottomless_22 rfl (lv_at hl 1 rfl) ?_
          refine lv_iload_n hx hb dX2_isBottomless_23 rfl (lv_at hl 3 rfl) ?_
          refine cl_Si (As := [.int (nI u), .int (nI i)]) (rest := []) ⟨hx, hb, hml, hown, hts⟩ (c2_isWalk l ha u i (by omega) (by omega)) (cwV 2 hts gX2_isBottomless_X2_isWalk rfl rfl rfl (by decide +kernel) ⟨Nat.le_of_ble_eq_true rfl, Nat.le_of_ble_eq_true rfl⟩) hK hP (ci := 2) (q0 := 6) rfl rfl rfl rfl hl.1 rfl (Nat.le_of_ble_eq_true rfl) dX2_isBottomless_24 ⟨Nat.zero_le _, Nat.zero_le _⟩ (fun r24 h24 => ?_)
          subst h24
          refine rn_ifeqb (tgt := 41) hx hb dX2_isBottomless_27 (by decide) (fun c27 => ?_) (fun c27 => ?_)
          · refine lv_iinc (v := nI (i + 1)) (lv' := [(3, .int (nI (i + 1))), (0, .ref (a 6)), (1, .int (nI u)), (2, .int (nI v))]) hx hb dX2_isBottomless_41 hl (k := 3) rfl (nI_1 i) (by decide) rfl (fun ls hl => ?_)
            refine lv_goto (tgt := 2) hx hb dX2_isBottomless_44 (by decide) ?_
            exact ih2 (i + 1) (by omega) (by omega) (lt_s hv2 (by simp [botP, c27])) ls (lv_sub hl [1, 2, 3, 0] rfl)
          · refine lv_aload_n hx hb dX2_isBottomless_30 rfl (lv_at hl 0 rfl) ?_
            refine lv_iload_n hx hb dX2_isBottomless_31 rfl (lv_at hl 3 rfl) ?_
            refine lv_iload_n hx hb dX2_isBottomless_32 rfl (lv_at hl 2 rfl) ?_
            refine cl_Si (As := [.int (nI i), .int (nI v)]) (rest := []) ⟨hx, hb, hml, hown, hts⟩ (c2_isWalk l ha i v (by omega) (by omega)) (cwV 2 hts gX2_isBottomless_X2_isWalk rfl rfl rfl (by decide +kernel) ⟨Nat.le_of_ble_eq_true rfl, Nat.le_of_ble_eq_true rfl⟩) hK hP (ci := 2) (q0 := 6) rfl rfl rfl rfl hl.1 rfl (Nat.le_of_ble_eq_true rfl) dX2_isBottomless_33 ⟨Nat.zero_le _, Nat.zero_le _⟩ (fun r33 h33 => ?_)
            subst h33
            refine rn_ifeqb (tgt := 41) hx hb dX2_isBottomless_36 (by decide) (fun c36 => ?_) (fun c36 => ?_)
            · refine lv_iinc (v := nI (i + 1)) (lv' := [(3, .int (nI (i + 1))), (0, .ref (a 6)), (1, .int (nI u)), (2, .int (nI v))]) hx hb dX2_isBottomless_41 hl (k := 3) rfl (nI_1 i) (by decide) rfl (fun ls hl => ?_)
              refine lv_goto (tgt := 2) hx hb dX2_isBottomless_44 (by decide) ?_
              exact ih2 (i + 1) (by omega) (by omega) (lt_s hv2 (by simp [botP, c36])) ls (lv_sub hl [1, 2, 3, 0] rfl)
            · refine lv_iconst (v := 1) hx hb dX2_isBottomless_39 (by decide) ?_
              rw [hQ]
              exact W.zret (v := 1) hx hb hr (by decide) (fun t ht hW => ⟨_, rfl, (by rw [bot, fst_yes hv2 (by simp [botP, c18, c27, c36]) c10]; rfl), ht⟩) (fun q h => absurd h List.not_mem_nil) dX2_isBottomless_40
  exact key2 (n + 1) 0 (by omega) (by omega) (fun j h => absurd h (Nat.not_lt_zero j)) ls (lv_sub hl [1, 2, 3, 0] rfl)
set_option maxHeartbeats 4000000 in
set_option maxRecDepth 100000 in
theorem c2_leastWeight (l : Launch) {D : va_G} {k : Nat → ClassId} {a : Nat → Nat} {n : Nat} {m : Nat} {ch : Int32} {fr : Nat → Nat} {to : Nat → Nat} {w : Nat → Int32} {th : Nat → Bool} {L : Nat → Nat → Int32} {la : Nat} {sw : Int32} {od : Nat → Nat} {io : Nat → Bool} {oc : Nat} {fa : Nat → Int32} {on : Nat → Nat → Int32} {gr : Int32} {sr : Int32} (ha : inj 46 a) (u : Nat) (v : Nat) (hg : gOK n m fr to) (hu : u < 12) (hv : v < 12) : Met l yX2_leastWeight wsX2_leastWeight ({ frames := 3, cells := 0, slots := 0, locals := 68 }) (gPc D k (cW k a n m ch fr to w th L la sw od io oc fa on gr sr) [.ref (a 6), .int (nI u), .int (nI v)]) (vp_Si (fun r => r = leastF n L u v)) 0 0 nF := by
  refine Met.ofW (cc := cX2_leastWeight) (maxL := 3) (ret := (some .int)) (by decide) rfl ?_
  intro p e s mt args below meth c s₁ B hml hv
  obtain ⟨rfl, hP, hK⟩ := hv
  have hx := B.exec
  have hb := B.bytes
  have hr := B.returns
  have hts := atoms_spec (ws := wsX2_leastWeight) B.pre
  have hown : s.vm.findClass RX2 = some mt.cls := findClass_of_methodNamed B.named
  have hlocks := B.notSynchronized
  have i2 : ∀ w ∈ wsX20, w ∈ wsX2_leastWeight := by decide +kernel
  have hl := lv_entry ([.ref (a 6), .int (nI u), .int (nI v)]) (n := 3) (Nat.le_of_ble_eq_true rfl)
  rw [lg_entry_eq]
  generalize (lg_sl ([.ref (a 6), .int (nI u), .int (nI v)]) ++ List.replicate (3 - (lg_sl ([.ref (a 6), .int (nI u), .int (nI v)])).length) Slot.unset).toArray = ls at hl ⊢
  have hl : lv_has ls 3 [(0, .ref (a 6)), (1, .int (nI u)), (2, .int (nI v))] := hl
  refine lv_aload_n hx hb dX2_leastWeight_0 rfl (lv_at hl 0 rfl) ?_
  refine lv_iload_n hx hb dX2_leastWeight_1 rfl (lv_at hl 1 rfl) ?_
  refine lv_iload_n hx hb dX2_leastWeight_2 rfl (lv_at hl 2 rfl) ?_
  refine cl_Si (As := [.int (nI u), .int (nI v)]) (rest := []) ⟨hx, hb, hml, hown, hts⟩ (c2_isBottomless l ha u v hg (by omega) (by omega)) (cwV 2 hts gX2_leastWeight_X2_isBottomless rfl rfl rfl (by decide +kernel) ⟨Nat.le_of_ble_eq_true rfl, Nat.le_of_ble_eq_true rfl⟩) hK hP (ci := 2) (q0 := 6) rfl rfl rfl rfl hl.1 rfl (Nat.le_of_ble_eq_true rfl) dX2_leastWeight_3 ⟨Nat.zero_le _, Nat.zero_le _⟩ (fun r3 h3 => ?_)
  subst h3
  refine rn_ifeqb (tgt := 14) hx hb dX2_leastWeight_6 (by decide) (fun c6 => ?_) (fun c6 => ?_)
  · refine lv_aload_n hx hb dX2_leastWeight_14 rfl (lv_at hl 0 rfl) ?_
    refine lv_bipush (v := nI 12) hx hb dX2_leastWeight_15 (by decide) ?_
    refine lv_iload_n hx hb dX2_leastWeight_17 rfl (lv_at hl 1 rfl) ?_
    refine lv_iload_n hx hb dX2_leastWeight_18 rfl (lv_at hl 2 rfl) ?_
    refine cl_Si (As := [.int (nI 12), .int (nI u), .int (nI v)]) (rest := []) ⟨hx, hb, hml, hown, hts⟩ (c2_lightest l ha 12 u v (by omega) (by omega) (by omega)) (cwV 3 hts gX2_leastWeight_X2_lightest rfl rfl rfl (by decide +kernel) ⟨Nat.le_of_ble_eq_true rfl, Nat.le_of_ble_eq_true rfl⟩) hK hP (ci := 2) (q0 := 6) rfl rfl rfl rfl hl.1 rfl (Nat.le_of_ble_eq_true rfl) dX2_leastWeight_19 ⟨Nat.zero_le _, Nat.zero_le _⟩ (fun r19 h19 => ?_)
    subst h19
    exact W.iret (v := L 12 (u * 12 + v)) hx hb hr (fun t ht hW => ⟨_, rfl, (by simp [leastF, c6]), ht⟩) (fun q h => absurd h List.not_mem_nil) dX2_leastWeight_22
  · refine lv_ldc (v := (-1000000000)) hx hb hown (hts (.constant RX2 85 (-1000000000)) (by decide +kernel)) dX2_leastWeight_9 ?_
    refine lv_goto (tgt := 22) hx hb dX2_leastWeight_11 (by decide) ?_
    exact W.iret (v := (-1000000000)) hx hb hr (fun t ht hW => ⟨_, rfl, (by simp [leastF, c6]), ht⟩) (fun q h => absurd h List.not_mem_nil) dX2_leastWeight_22
set_option maxHeartbeats 4000000 in
set_option maxRecDepth 100000 in
theorem c2_fewestArcs (l : Launch) {D : va_G} {k : Nat → ClassId} {a : Nat → Nat} {n : Nat} {m : Nat} {ch : Int32} {fr : Nat → Nat} {to : Nat → Nat} {w : Nat → Int32} {th : Nat → Bool} {L : Nat → Nat → Int32} {la : Nat} {sw : Int32} {od : Nat → Nat} {io : Nat → Bool} {oc : Nat} {fa : Nat → Int32} {on : Nat → Nat → Int32} {gr : Int32} {sr : Int32} (ha : inj 46 a) (u : Nat) (v : Nat) (q : Int32) (hu : u < 12) (hv : v < 12) : Met l yX2_fewestArcs wsX2_fewestArcs ({ frames := 1, cells := 0, slots := 0, locals := 23 }) (gPc D k (cW k a n m ch fr to w th L la sw od io oc fa on gr sr) [.ref (a 6), .int (nI u), .int (nI v), .int q]) (vp_Si (fun r => r = nI (fewA L u v q))) 0 0 nF := by
  refine Met.ofW (cc := cX2_fewestArcs) (maxL := 5) (ret := (some .int)) (by decide) rfl ?_
  intro p e s mt args below meth c s₁ B hml hv
  obtain ⟨rfl, hP, hK⟩ := hv
  have hx := B.exec
  have hb := B.bytes
  have hr := B.returns
  have hts := atoms_spec (ws := wsX2_fewestArcs) B.pre
  have hown : s.vm.findClass RX2 = some mt.cls := findClass_of_methodNamed B.named
  have hlocks := B.notSynchronized
  have i2 : ∀ w ∈ wsX20, w ∈ wsX2_fewestArcs := by decide +kernel
  have hl := lv_entry ([.ref (a 6), .int (nI u), .int (nI v), .int q]) (n := 5) (Nat.le_of_ble_eq_true rfl)
  rw [lg_entry_eq]
  generalize (lg_sl ([.ref (a 6), .int (nI u), .int (nI v), .int q]) ++ List.replicate (5 - (lg_sl ([.ref (a 6), .int (nI u), .int (nI v), .int q])).length) Slot.unset).toArray = ls at hl ⊢
  have hl : lv_has ls 5 [(0, .ref (a 6)), (1, .int (nI u)), (2, .int (nI v)), (3, .int q)] := hl
  obtain ⟨Q, hQ⟩ : ∃ Q, Q = MQ below (vp_Si (fun r => r = nI (fewA L u v q))) ([.ref (a 6), .int (nI u), .int (nI v), .int q] : List Value).toArray s 0 0 nF := ⟨_, rfl⟩
  rw [← hQ]
  refine lv_iconst (v := nI 0) hx hb dX2_fewestArcs_0 (by decide) ?_
  refine lv_istore (lv' := [(4, .int (nI 0)), (0, .ref (a 6)), (1, .int (nI u)), (2, .int (nI v)), (3, .int q)]) hx hb dX2_fewestArcs_1 hl (by decide) rfl (fun ls hl => ?_)
  have key3 : ∀ (f3 i : Nat), 12 + 1 ≤ i + f3 → i ≤ 12 → (∀ j, j < i → fewP L u v q j = false) → ∀ (ls : Array Slot), lv_has ls 5 [(0, .ref (a 6)), (1, .int (nI u)), (2, .int (nI v)), (3, .int q), (4, .int (nI i))] → W p l e (headSpec wsX2_fewestArcs { frames := 1, cells := 0, slots := 0, locals := 23 }).room s mt ([.ref (a 6), .int (nI u), .int (nI v), .int q] : List Value).toArray below meth c s.heap [] 0 0 Q (F0 mt 3 ls []) := by
    intro f3
    induction f3 with
    | zero => intro i h1 h2; exact absurd h1 (by omega)
    | succ f3 ih3 =>
      intro i hf3 hi3  hv3 ls hl
      refine lv_iload hx hb dX2_fewestArcs_3 (lv_at hl 4 rfl) ?_
      refine lv_bipush (v := nI 12) hx hb dX2_fewestArcs_5 (by decide) ?_
      refine rn_icmp_ge (tgt := 28) hx hb dX2_fewestArcs_7 (by decide) (by omega) (by omega) (fun c7 => ?_) (fun c7 => ?_)
      · refine lv_iload hx hb dX2_fewestArcs_28 (lv_at hl 4 rfl) ?_
        rw [hQ]
        exact W.iret (v := nI i) hx hb hr (fun t ht hW => ⟨_, rfl, (by rw [fewA, fst_no (fun j hj => hv3 j (by omega))]; have e : i = 12 := (by omega); rw [e]; rfl), ht⟩) (fun q h => absurd h List.not_mem_nil) dX2_fewestArcs_30
      · refine lv_aload_n hx hb dX2_fewestArcs_10 rfl (lv_at hl 0 rfl) ?_
        refine lv_iload hx hb dX2_fewestArcs_11 (lv_at hl 4 rfl) ?_
        refine lv_iload_n hx hb dX2_fewestArcs_13 rfl (lv_at hl 1 rfl) ?_
        refine lv_iload_n hx hb dX2_fewestArcs_14 rfl (lv_at hl 2 rfl) ?_
        refine cl_Si (As := [.int (nI i), .int (nI u), .int (nI v)]) (rest := []) ⟨hx, hb, hml, hown, hts⟩ (c2_lightest l ha i u v (by omega) (by omega) (by omega)) (cwV 3 hts gX2_fewestArcs_X2_lightest rfl rfl rfl (by decide +kernel) ⟨Nat.le_of_ble_eq_true rfl, Nat.le_of_ble_eq_true rfl⟩) hK hP (ci := 2) (q0 := 6) rfl rfl rfl rfl hl.1 rfl (Nat.le_of_ble_eq_true rfl) dX2_fewestArcs_15 ⟨Nat.zero_le _, Nat.zero_le _⟩ (fun r15 h15 => ?_)
        subst h15
        refine lv_iload_n hx hb dX2_fewestArcs_18 rfl (lv_at hl 3 rfl) ?_
        refine lv_icmp_le (tgt := 28) hx hb dX2_fewestArcs_19 (by decide) (fun c19 => ?_) (fun c19 => ?_)
        · refine lv_iload hx hb dX2_fewestArcs_28 (lv_at hl 4 rfl) ?_
          rw [hQ]
          exact W.iret (v := nI i) hx hb hr (fun t ht hW => ⟨_, rfl, (by rw [fewA, fst_yes hv3 (by simp [fewP, c19]) c7]; rfl), ht⟩) (fun q h => absurd h List.not_mem_nil) dX2_fewestArcs_30
        · refine lv_iinc (v := nI (i + 1)) (lv' := [(4, .int (nI (i + 1))), (0, .ref (a 6)), (1, .int (nI u)), (2, .int (nI v)), (3, .int q)]) hx hb dX2_fewestArcs_22 hl (k := 4) rfl (nI_1 i) (by decide) rfl (fun ls hl => ?_)
          refine lv_goto (tgt := 3) hx hb dX2_fewestArcs_25 (by decide) ?_
          exact ih3 (i + 1) (by omega) (by omega) (lt_s hv3 (by simp [fewP, c19])) ls (lv_sub hl [1, 2, 3, 4, 0] rfl)
  exact key3 (12 + 1) 0 (by omega) (by omega) (fun j h => absurd h (Nat.not_lt_zero j)) ls (lv_sub hl [1, 2, 3, 4, 0] rfl)
set_option maxHeartbeats 4000000 in
set_option maxRecDepth 100000 in
theorem c2_canEnd (l : Launch) {D : va_G} {k : Nat → ClassId} {a : Nat → Nat} {n : Nat} {m : Nat} {ch : Int32} {fr : Nat → Nat} {to : Nat → Nat} {w : Nat → Int32} {th : Nat → Bool} {L : Nat → Nat → Int32} {la : Nat} {sw : Int32} {od : Nat → Nat} {io : Nat → Bool} {oc : Nat} {fa : Nat → Int32} {on : Nat → Nat → Int32} {gr : Int32} {sr : Int32} (ha : inj 46 a) (j : Nat) (v : Nat) (b : Nat) (q : Int32) (hg : gOK n m fr to) (hj : j < m) (hv : v < 12) (hb1 : b < 21) : Met l yX2_canEnd wsX2_canEnd ({ frames := 1, cells := 0, slots := 0, locals := 23 }) (gPc D k (cW k a n m ch fr to w th L la sw od io oc fa on gr sr) [.ref (a 6), .int (nI j), .int (nI v), .int (nI b), .int q]) (vp_Si (fun r => r = bI (canE to w th L j v b q))) 0 0 nF := by
  refine Met.ofW (cc := cX2_canEnd) (maxL := 6) (ret := (some .boolean)) (by decide) rfl ?_
  intro p e s mt args below meth c s₁ B hml hv
  obtain ⟨rfl, hP, hK⟩ := hv
  have hx := B.exec
  have hb := B.bytes
  have hr := B.returns
  have hts := atoms_spec (ws := wsX2_canEnd) B.pre
  have hown : s.vm.findClass RX2 = some mt.cls := findClass_of_methodNamed B.named
  have hlocks := B.notSynchronized
  have i0 : ∀ w ∈ wsX00, w ∈ wsX2_canEnd := by decide +kernel
  have i2 : ∀ w ∈ wsX20, w ∈ wsX2_canEnd := by decide +kernel
  have hl := lv_entry ([.ref (a 6), .int (nI j), .int (nI v), .int (nI b), .int q]) (n := 6) (Nat.le_of_ble_eq_true rfl)
  rw [lg_entry_eq]
  generalize (lg_sl ([.ref (a 6), .int (nI j), .int (nI v), .int (nI b), .int q]) ++ List.replicate (6 - (lg_sl ([.ref (a 6), .int (nI j), .int (nI v), .int (nI b), .int q])).length) Slot.unset).toArray = ls at hl ⊢
  have hl : lv_has ls 6 [(0, .ref (a 6)), (1, .int (nI j)), (2, .int (nI v)), (3, .int (nI b)), (4, .int q)] := hl
  obtain ⟨hn12, hm40, hft⟩ := id hg
  have hj2 := hft j hj
  refine lv_aload_n hx hb dX2_canEnd_0 rfl (lv_at hl 0 rfl) ?_
  refine va_get (D := D) (ci := 2) (v := .ref (a 1)) (C := RX2) (T := TX2) (N := 4) hx hb hts i2 hown hK hP 6 rfl rfl 0 (by decide) (hts (.fieldLink RX2 9 "SignedPaths$Walks" "graph" "LSignedPaths$Graph;") (by decide +kernel)) (fun _ h9 => h9) rfl dX2_canEnd_1 ?_
  refine va_get (D := D) (ci := 0) (v := .ref (a 5)) (C := RX0) (T := TX0) (N := 7) hx hb hts i0 hown hK hP 1 rfl rfl 6 (by decide) (hts (.fieldLink RX2 52 "SignedPaths$Graph" "there" "[Z") (by decide +kernel)) (fun _ h9 => h9) rfl dX2_canEnd_4 ?_
  refine lv_iload_n hx hb dX2_canEnd_7 rfl (lv_at hl 1 rfl) ?_
  refine rn_zald (v := bI (th j)) hx hb hK hP 5 1 rfl rfl (by omega) (by decide) rfl dX2_canEnd_8 ?_
  refine rn_ifneb (tgt := 14) hx hb dX2_canEnd_9 (by decide) (fun c9 => ?_) (fun c9 => ?_)
  · refine lv_aload_n hx hb dX2_canEnd_14 rfl (lv_at hl 0 rfl) ?_
    refine lv_iload_n hx hb dX2_canEnd_15 rfl (lv_at hl 3 rfl) ?_
    refine lv_aload_n hx hb dX2_canEnd_16 rfl (lv_at hl 0 rfl) ?_
    refine va_get (D := D) (ci := 2) (v := .ref (a 1)) (C := RX2) (T := TX2) (N := 4) hx hb hts i2 hown hK hP 6 rfl rfl 0 (by decide) (hts (.fieldLink RX2 9 "SignedPaths$Walks" "graph" "LSignedPaths$Graph;") (by decide +kernel)) (fun _ h9 => h9) rfl dX2_canEnd_17 ?_
    refine va_get (D := D) (ci := 0) (v := .ref (a 3)) (C := RX0) (T := TX0) (N := 7) hx hb hts i0 hown hK hP 1 rfl rfl 4 (by decide) (hts (.fieldLink RX2 64 "SignedPaths$Graph" "to" "[I") (by decide +kernel)) (fun _ h9 => h9) rfl dX2_canEnd_20 ?_
    refine lv_iload_n hx hb dX2_canEnd_23 rfl (lv_at hl 1 rfl) ?_
    refine rn_iald (v := nI (to j)) hx hb hK hP 3 0 rfl rfl (by omega) (by decide) rfl dX2_canEnd_24 ?_
    refine lv_iload_n hx hb dX2_canEnd_25 rfl (lv_at hl 2 rfl) ?_
    refine cl_Si (As := [.int (nI b), .int (nI (to j)), .int (nI v)]) (rest := []) ⟨hx, hb, hml, hown, hts⟩ (c2_lightest l ha b (to j) v (by omega) (by omega) (by omega)) (cwV 3 hts gX2_canEnd_X2_lightest rfl rfl rfl (by decide +kernel) ⟨Nat.le_of_ble_eq_true rfl, Nat.le_of_ble_eq_true rfl⟩) hK hP (ci := 2) (q0 := 6) rfl rfl rfl rfl hl.1 rfl (Nat.le_of_ble_eq_true rfl) dX2_canEnd_26 ⟨Nat.zero_le _, Nat.zero_le _⟩ (fun r26 h26 => ?_)
    subst h26
    refine lv_istore (lv' := [(5, .int (L b ((to j) * 12 + v))), (0, .ref (a 6)), (1, .int (nI j)), (2, .int (nI v)), (3, .int (nI b)), (4, .int q)]) hx hb dX2_canEnd_29 hl (by decide) rfl (fun ls hl => ?_)
    refine lv_iload hx hb dX2_canEnd_31 (lv_at hl 0 rfl) ?_
    refine lv_ldc (v := 1000000000) hx hb hown (hts (.constant RX2 42 1000000000) (by decide +kernel)) dX2_canEnd_33 ?_
    refine lv_icmp_eq (tgt := 59) hx hb dX2_canEnd_35 (by decide) (fun c35 => ?_) (fun c35 => ?_)
    · refine lv_iconst (v := 0) hx hb dX2_canEnd_59 (by decide) ?_
      exact W.zret (v := 0) hx hb hr (by decide) (fun t ht hW => ⟨_, rfl, (by first | (simp [canE, c9, c35, bI]; done) | (simp [canE, c9, c35, c52, bI]; done)), ht⟩) (fun q h => absurd h List.not_mem_nil) dX2_canEnd_60
    · refine lv_aload_n hx hb dX2_canEnd_38 rfl (lv_at hl 1 rfl) ?_
      refine va_get (D := D) (ci := 2) (v := .ref (a 1)) (C := RX2) (T := TX2) (N := 4) hx hb hts i2 hown hK hP 6 rfl rfl 0 (by decide) (hts (.fieldLink RX2 9 "SignedPaths$Walks" "graph" "LSignedPaths$Graph;") (by decide +kernel)) (fun _ h9 => h9) rfl dX2_canEnd_39 ?_
      refine va_get (D := D) (ci := 0) (v := .ref (a 4)) (C := RX0) (T := TX0) (N := 7) hx hb hts i0 hown hK hP 1 rfl rfl 5 (by decide) (hts (.fieldLink RX2 67 "SignedPaths$Graph" "weight" "[I") (by decide +kernel)) (fun _ h9 => h9) rfl dX2_canEnd_42 ?_
      refine lv_iload_n hx hb dX2_canEnd_45 rfl (lv_at hl 2 rfl) ?_
      refine rn_iald (v := w j) hx hb hK hP 4 0 rfl rfl (by omega) (by decide) rfl dX2_canEnd_46 ?_
      refine lv_iload hx hb dX2_canEnd_47 (lv_at hl 0 rfl) ?_
      refine lv_iadd hx hb dX2_canEnd_49 ?_
      refine lv_iload hx hb dX2_canEnd_50 (lv_at hl 5 rfl) ?_
      refine lv_icmp_gt (tgt := 59) hx hb dX2_canEnd_52 (by decide) (fun c52 => ?_) (fun c52 => ?_)
      · refine lv_iconst (v := 0) hx hb dX2_canEnd_59 (by decide) ?_
        exact W.zret (v := 0) hx hb hr (by decide) (fun t ht hW => ⟨_, rfl, (by first | (simp [canE, c9, c35, bI]; done) | (simp [canE, c9, c35, c52, bI]; done)), ht⟩) (fun q h => absurd h List.not_mem_nil) dX2_canEnd_60
      · refine lv_iconst (v := 1) hx hb dX2_canEnd_55 (by decide) ?_
        refine lv_goto (tgt := 60) hx hb dX2_canEnd_56 (by decide) ?_
        exact W.zret (v := 1) hx hb hr (by decide) (fun t ht hW => ⟨_, rfl, (by first | (simp [canE, c9, c35, bI]; done) | (simp [canE, c9, c35, c52, bI]; done)), ht⟩) (fun q h => absurd h List.not_mem_nil) dX2_canEnd_60
  · refine lv_iconst (v := 0) hx hb dX2_canEnd_12 (by decide) ?_
    exact W.zret (v := 0) hx hb hr (by decide) (fun t ht hW => ⟨_, rfl, (by simp [canE, c9, bI]), ht⟩) (fun q h => absurd h List.not_mem_nil) dX2_canEnd_13
set_option maxHeartbeats 4000000 in
set_option maxRecDepth 100000 in
theorem c2_firstArc (l : Launch) {D : va_G} {k : Nat → ClassId} {a : Nat → Nat} {n : Nat} {m : Nat} {ch : Int32} {fr : Nat → Nat} {to : Nat → Nat} {w : Nat → Int32} {th : Nat → Bool} {L : Nat → Nat → Int32} {la : Nat} {sw : Int32} {od : Nat → Nat} {io : Nat → Bool} {oc : Nat} {fa : Nat → Int32} {on : Nat → Nat → Int32} {gr : Int32} {sr : Int32} (ha : inj 46 a) (u : Nat) (v : Nat) (b : Nat) (q : Int32) (hg : gOK n m fr to) (hu : u < 12) (hv : v < 12) (hb1 : b < 21) : Met l yX2_firstArc wsX2_firstArc ({ frames := 2, cells := 0, slots := 0, locals := 48 }) (gPc D k (cW k a n m ch fr to w th L la sw od io oc fa on gr sr) [.ref (a 6), .int (nI u), .int (nI v), .int (nI b), .int q]) (vp_Si (fun r => r = oI (fst (faP fr to w th L u v b q) m))) 0 0 nF := by
  refine Met.ofW (cc := cX2_firstArc) (maxL := 6) (ret := (some .int)) (by decide) rfl ?_
  intro p e s mt args below meth c s₁ B hml hv
  obtain ⟨rfl, hP, hK⟩ := hv
  have hx := B.exec
  have hb := B.bytes
  have hr := B.returns
  have hts := atoms_spec (ws := wsX2_firstArc) B.pre
  have hown : s.vm.findClass RX2 = some mt.cls := findClass_of_methodNamed B.named
  have hlocks := B.notSynchronized
  have i0 : ∀ w ∈ wsX00, w ∈ wsX2_firstArc := by decide +kernel
  have i2 : ∀ w ∈ wsX20, w ∈ wsX2_firstArc := by decide +kernel
  have hl := lv_entry ([.ref (a 6), .int (nI u), .int (nI v), .int (nI b), .int q]) (n := 6) (Nat.le_of_ble_eq_true rfl)
  rw [lg_entry_eq]
  generalize (lg_sl ([.ref (a 6), .int (nI u), .int (nI v), .int (nI b), .int q]) ++ List.replicate (6 - (lg_sl ([.ref (a 6), .int (nI u), .int (nI v), .int (nI b), .int q])).length) Slot.unset).toArray = ls at hl ⊢
  have hl : lv_has ls 6 [(0, .ref (a 6)), (1, .int (nI u)), (2, .int (nI v)), (3, .int (nI b)), (4, .int q)] := hl
  obtain ⟨Q, hQ⟩ : ∃ Q, Q = MQ below (vp_Si (fun r => r = oI (fst (faP fr to w th L u v b q) m))) ([.ref (a 6), .int (nI u), .int (nI v), .int (nI b), .int q] : List Value).toArray s 0 0 nF := ⟨_, rfl⟩
  rw [← hQ]
  obtain ⟨hn12, hm40, hft⟩ := id hg
  refine lv_iconst (v := nI 0) hx hb dX2_firstArc_0 (by decide) ?_
  refine lv_istore (lv' := [(5, .int (nI 0)), (0, .ref (a 6)), (1, .int (nI u)), (2, .int (nI v)), (3, .int (nI b)), (4, .int q)]) hx hb dX2_firstArc_1 hl (by decide) rfl (fun ls hl => ?_)
  have key3 : ∀ (f3 i : Nat), m + 1 ≤ i + f3 → i ≤ m → (∀ j, j < i → faP fr to w th L u v b q j = false) → ∀ (ls : Array Slot), lv_has ls 6 [(0, .ref (a 6)), (1, .int (nI u)), (2, .int (nI v)), (3, .int (nI b)), (4, .int q), (5, .int (nI i))] → W p l e (headSpec wsX2_firstArc { frames := 2, cells := 0, slots := 0, locals := 48 }).room s mt ([.ref (a 6), .int (nI u), .int (nI v), .int (nI b), .int q] : List Value).toArray below meth c s.heap [] 0 0 Q (F0 mt 3 ls []) := by
    intro f3
    induction f3 with
    | zero => intro i h1 h2; exact absurd h1 (by omega)
    | succ f3 ih3 =>
      intro i hf3 hi3  hv3 ls hl
      refine lv_iload hx hb dX2_firstArc_3 (lv_at hl 5 rfl) ?_
      refine lv_aload_n hx hb dX2_firstArc_5 rfl (lv_at hl 0 rfl) ?_
      refine va_get (D := D) (ci := 2) (v := .ref (a 1)) (C := RX2) (T := TX2) (N := 4) hx hb hts i2 hown hK hP 6 rfl rfl 0 (by decide) (hts (.fieldLink RX2 9 "SignedPaths$Walks" "graph" "LSignedPaths$Graph;") (by decide +kernel)) (fun _ h9 => h9) rfl dX2_firstArc_6 ?_
      refine va_get (D := D) (ci := 0) (v := .int (nI m)) (C := RX0) (T := TX0) (N := 7) hx hb hts i0 hown hK hP 1 rfl rfl 1 (by decide) (hts (.fieldLink RX2 49 "SignedPaths$Graph" "arcs" "I") (by decide +kernel)) (fun _ h9 => h9) rfl dX2_firstArc_9 ?_
      refine rn_icmp_ge (tgt := 51) hx hb dX2_firstArc_12 (by decide) (by omega) (by omega) (fun c12 => ?_) (fun c12 => ?_)
      · refine lv_iconst (v := (-1)) hx hb dX2_firstArc_51 (by decide) ?_
        rw [hQ]
        exact W.iret (v := (-1)) hx hb hr (fun t ht hW => ⟨_, rfl, (by rw [fst_no (fun j hj => hv3 j (by omega))]; rfl), ht⟩) (fun q h => absurd h List.not_mem_nil) dX2_firstArc_52
      · refine lv_aload_n hx hb dX2_firstArc_15 rfl (lv_at hl 0 rfl) ?_
        refine va_get (D := D) (ci := 2) (v := .ref (a 1)) (C := RX2) (T := TX2) (N := 4) hx hb hts i2 hown hK hP 6 rfl rfl 0 (by decide) (hts (.fieldLink RX2 9 "SignedPaths$Walks" "graph" "LSignedPaths$Graph;") (by decide +kernel)) (fun _ h9 => h9) rfl dX2_firstArc_16 ?_
        refine va_get (D := D) (ci := 0) (v := .ref (a 2)) (C := RX0) (T := TX0) (N := 7) hx hb hts i0 hown hK hP 1 rfl rfl 3 (by decide) (hts (.fieldLink RX2 60 "SignedPaths$Graph" "from" "[I") (by decide +kernel)) (fun _ h9 => h9) rfl dX2_firstArc_19 ?_
        refine lv_iload hx hb dX2_firstArc_22 (lv_at hl 5 rfl) ?_
        refine rn_iald (v := nI (fr i)) hx hb hK hP 2 0 rfl rfl (by omega) (by decide) rfl dX2_firstArc_24 ?_
        refine lv_iload_n hx hb dX2_firstArc_25 rfl (lv_at hl 1 rfl) ?_
        have hi2 := hft i c12
        refine rn_icmp_ne (tgt := 45) hx hb dX2_firstArc_26 (by decide) (by omega) (by omega) (fun c26 => ?_) (fun c26 => ?_)
        · refine lv_iinc (v := nI (i + 1)) (lv' := [(5, .int (nI (i + 1))), (0, .ref (a 6)), (1, .int (nI u)), (2, .int (nI v)), (3, .int (nI b)), (4, .int q)]) hx hb dX2_firstArc_45 hl (k := 5) rfl (nI_1 i) (by decide) rfl (fun ls hl => ?_)
          refine lv_goto (tgt := 3) hx hb dX2_firstArc_48 (by decide) ?_
          exact ih3 (i + 1) (by omega) (by omega) (lt_s hv3 (by simp [faP, c26])) ls (lv_sub hl [1, 2, 3, 4, 5, 0] rfl)
        · refine lv_aload_n hx hb dX2_firstArc_29 rfl (lv_at hl 0 rfl) ?_
          refine lv_iload hx hb dX2_firstArc_30 (lv_at hl 5 rfl) ?_
          refine lv_iload_n hx hb dX2_firstArc_32 rfl (lv_at hl 2 rfl) ?_
          refine lv_iload_n hx hb dX2_firstArc_33 rfl (lv_at hl 3 rfl) ?_
          refine lv_iload hx hb dX2_firstArc_34 (lv_at hl 4 rfl) ?_
          refine cl_Si (As := [.int (nI i), .int (nI v), .int (nI b), .int q]) (rest := []) ⟨hx, hb, hml, hown, hts⟩ (c2_canEnd l ha i v b q hg (by omega) (by omega) (by omega)) (cwV 4 hts gX2_firstArc_X2_canEnd rfl rfl rfl (by decide +kernel) ⟨Nat.le_of_ble_eq_true rfl, Nat.le_of_ble_eq_true rfl⟩) hK hP (ci := 2) (q0 := 6) rfl rfl rfl rfl hl.1 rfl (Nat.le_of_ble_eq_true rfl) dX2_firstArc_36 ⟨Nat.zero_le _, Nat.zero_le _⟩ (fun r36 h36 => ?_)
          subst h36
          refine rn_ifeqb (tgt := 45) hx hb dX2_firstArc_39 (by decide) (fun c39 => ?_) (fun c39 => ?_)
          · refine lv_iinc (v := nI (i + 1)) (lv' := [(5, .int (nI (i + 1))), (0, .ref (a 6)), (1, .int (nI u)), (2, .int (nI v)), (3, .int (nI b)), (4, .int q)]) hx hb dX2_firstArc_45 hl (k := 5) rfl (nI_1 i) (by decide) rfl (fun ls hl => ?_)
            refine lv_goto (tgt := 3) hx hb dX2_firstArc_48 (by decide) ?_
            exact ih3 (i + 1) (by omega) (by omega) (lt_s hv3 (by simp [faP, c39])) ls (lv_sub hl [1, 2, 3, 4, 5, 0] rfl)
          · refine lv_iload hx hb dX2_firstArc_42 (lv_at hl 5 rfl) ?_
            rw [hQ]
            exact W.iret (v := nI i) hx hb hr (fun t ht hW => ⟨_, rfl, (by rw [fst_yes hv3 (by simp [faP, c26, c39]) c12]; rfl), ht⟩) (fun q h => absurd h List.not_mem_nil) dX2_firstArc_44
  exact key3 (m + 1) 0 (by omega) (by omega) (fun j h => absurd h (Nat.not_lt_zero j)) ls (lv_sub hl [1, 2, 3, 4, 5, 0] rfl)
set_option maxHeartbeats 4000000 in
set_option maxRecDepth 100000 in
theorem c2_rowArc (l : Launch) {D : va_G} {k : Nat → ClassId} {a : Nat → Nat} {n : Nat} {m : Nat} {ch : Int32} {fr : Nat → Nat} {to : Nat → Nat} {w : Nat → Int32} {th : Nat → Bool} {L : Nat → Nat → Int32} {la : Nat} {sw : Int32} {od : Nat → Nat} {io : Nat → Bool} {oc : Nat} {fa : Nat → Int32} {on : Nat → Nat → Int32} {gr : Int32} {sr : Int32} (ha : inj 46 a) (u : Nat) (v : Nat) (b : Nat) (q : Int32) (x : Int32) (hg : gOK n m fr to) (hu : u < 12) (hv : v < 12) (hb1 : b ≤ 20) : Met l yX2_rowArc wsX2_rowArc ({ frames := 3, cells := 0, slots := 0, locals := 73 }) (gPc D k (cW k a n m ch fr to w th L la sw od io oc fa on gr sr) [.ref (a 6), .int (nI u), .int (nI v), .int (nI b), .int q, .int x]) (vp_Si (fun r => r = oI (rowX m fr to w th L u v b q x))) 0 0 nF := by
  refine Met.ofW (cc := cX2_rowArc) (maxL := 10) (ret := (some .int)) (by decide) rfl ?_
  intro p e s mt args below meth c s₁ B hml hv
  obtain ⟨rfl, hP, hK⟩ := hv
  have hx := B.exec
  have hb := B.bytes
  have hr := B.returns
  have hts := atoms_spec (ws := wsX2_rowArc) B.pre
  have hown : s.vm.findClass RX2 = some mt.cls := findClass_of_methodNamed B.named
  have hlocks := B.notSynchronized
  have i0 : ∀ w ∈ wsX00, w ∈ wsX2_rowArc := by decide +kernel
  have i2 : ∀ w ∈ wsX20, w ∈ wsX2_rowArc := by decide +kernel
  have hl := lv_entry ([.ref (a 6), .int (nI u), .int (nI v), .int (nI b), .int q, .int x]) (n := 10) (Nat.le_of_ble_eq_true rfl)
  rw [lg_entry_eq]
  generalize (lg_sl ([.ref (a 6), .int (nI u), .int (nI v), .int (nI b), .int q, .int x]) ++ List.replicate (10 - (lg_sl ([.ref (a 6), .int (nI u), .int (nI v), .int (nI b), .int q, .int x])).length) Slot.unset).toArray = ls at hl ⊢
  have hl : lv_has ls 10 [(0, .ref (a 6)), (1, .int (nI u)), (2, .int (nI v)), (3, .int (nI b)), (4, .int q), (5, .int x)] := hl
  obtain ⟨Q, hQ⟩ : ∃ Q, Q = MQ below (vp_Si (fun r => r = oI (rowX m fr to w th L u v b q x))) ([.ref (a 6), .int (nI u), .int (nI v), .int (nI b), .int q, .int x] : List Value).toArray s 0 0 nF := ⟨_, rfl⟩
  rw [← hQ]
  obtain ⟨hn12, hm40, hft⟩ := id hg
  refine lv_iload hx hb dX2_rowArc_0 (lv_at hl 5 rfl) ?_
  refine lv_if_lt (tgt := 11) hx hb dX2_rowArc_2 (by decide) (fun c2 => ?_) (fun c2 => ?_)
  · refine lv_iconst (v := (-1)) hx hb dX2_rowArc_11 (by decide) ?_
    rw [hQ]
    exact W.iret (v := (-1)) hx hb hr (fun t ht hW => ⟨_, rfl, (by first | (simp [rowX, c2, oI]; done) | (simp [rowX, c2, c8, oI]; done)), ht⟩) (fun q h => absurd h List.not_mem_nil) dX2_rowArc_12
  · refine lv_iload hx hb dX2_rowArc_5 (lv_at hl 5 rfl) ?_
    refine lv_iload_n hx hb dX2_rowArc_7 rfl (lv_at hl 3 rfl) ?_
    refine lv_icmp_lt (tgt := 13) hx hb dX2_rowArc_8 (by decide) (fun c8 => ?_) (fun c8 => ?_)
    · obtain ⟨y, hy, hxy⟩ := nI_of c2
      rw [hxy] at c8
      have hyb : y < b := (nI_ltI hy (by omega)).mp c8
      have hRX := rowX_in (m := m) (fr := fr) (to := to) (w := w) (th := th) (L := L) (u := u) (v := v) (q := q) hy c8
      refine lv_iload_n hx hb dX2_rowArc_13 rfl (lv_at hl 1 rfl) ?_
      refine lv_istore (lv' := [(6, .int (nI u)), (0, .ref (a 6)), (1, .int (nI u)), (2, .int (nI v)), (3, .int (nI b)), (4, .int q), (5, .int x)]) hx hb dX2_rowArc_14 hl (by decide) rfl (fun ls hl => ?_)
      refine lv_iload hx hb dX2_rowArc_16 (lv_at hl 5 rfl) ?_
      refine lv_istore (lv' := [(7, .int q), (6, .int (nI u)), (0, .ref (a 6)), (1, .int (nI u)), (2, .int (nI v)), (3, .int (nI b)), (4, .int q), (5, .int x)]) hx hb dX2_rowArc_18 hl (by decide) rfl (fun ls hl => ?_)
      refine lv_iconst (v := (-1)) hx hb dX2_rowArc_20 (by decide) ?_
      refine lv_istore (lv' := [(8, .int (-1)), (7, .int q), (6, .int (nI u)), (0, .ref (a 6)), (1, .int (nI u)), (2, .int (nI v)), (3, .int (nI b)), (4, .int q), (5, .int x)]) hx hb dX2_rowArc_21 hl (by decide) rfl (fun ls hl => ?_)
      refine lv_iconst (v := nI 0) hx hb dX2_rowArc_23 (by decide) ?_
      refine lv_istore (lv' := [(9, .int (nI 0)), (8, .int (-1)), (7, .int q), (6, .int (nI u)), (0, .ref (a 6)), (1, .int (nI u)), (2, .int (nI v)), (3, .int (nI b)), (4, .int q), (5, .int x)]) hx hb dX2_rowArc_24 hl (by decide) rfl (fun ls hl => ?_)
      have key26 : ∀ (f26 i : Nat), y + 1 + 1 ≤ i + f26 → i ≤ y + 1 → ∀ (nd : Nat), ∀ (lf : Int32), ∀ (ar : Int32), (nd < 12 ∧ (i ≤ y → rowF m fr to w th L v (y - i) nd (b - i) lf = rowF m fr to w th L v y u b q) ∧ (i = y + 1 → ar = oI (rowF m fr to w th L v y u b q))) → ∀ (ls : Array Slot), lv_has ls 10 [(0, .ref (a 6)), (1, .int (nI u)), (2, .int (nI v)), (3, .int (nI b)), (4, .int q), (5, .int x), (6, .int (nI nd)), (7, .int lf), (8, .int ar), (9, .int (nI i))] → W p l e (headSpec wsX2_rowArc { frames := 3, cells := 0, slots := 0, locals := 73 }).room s mt ([.ref (a 6), .int (nI u), .int (nI v), .int (nI b), .int q, .int x] : List Value).toArray below meth c s.heap [] 0 0 Q (F0 mt 26 ls []) := by
        intro f26
        induction f26 with
        | zero => intro i h1 h2; exact absurd h1 (by omega)
        | succ f26 ih26 =>
          intro i hf26 hi26 nd lf ar hv26 ls hl
          refine lv_iload hx hb dX2_rowArc_26 (lv_at hl 9 rfl) ?_
          refine lv_iload hx hb dX2_rowArc_28 (lv_at hl 5 rfl) ?_
          refine lv_icmp_gt (tgt := 91) hx hb dX2_rowArc_30 (by decide) (fun c30 => ?_) (fun c30 => ?_)
          · rw [hxy] at c30
            have c30 := (nI_ltI hy (by omega)).mp c30
            refine lv_iload hx hb dX2_rowArc_91 (lv_at hl 8 rfl) ?_
            rw [hQ]
            exact W.iret (v := ar) hx hb hr (fun t ht hW => ⟨_, rfl, (by rw [hxy, hRX]; exact hv26.2.2 (by omega)), ht⟩) (fun q h => absurd h List.not_mem_nil) dX2_rowArc_93
          · rw [hxy] at c30
            have c30 : i ≤ y := by have h2 : ¬ y < i := fun z => c30 ((nI_ltI hy (by omega)).mpr z); omega
            refine lv_aload_n hx hb dX2_rowArc_33 rfl (lv_at hl 0 rfl) ?_
            refine lv_iload hx hb dX2_rowArc_34 (lv_at hl 6 rfl) ?_
            refine lv_iload_n hx hb dX2_rowArc_36 rfl (lv_at hl 2 rfl) ?_
            refine lv_iload_n hx hb dX2_rowArc_37 rfl (lv_at hl 3 rfl) ?_
            refine lv_iload hx hb dX2_rowArc_38 (lv_at hl 9 rfl) ?_
            refine rn_isub hx hb (by omega) dX2_rowArc_40 ?_
            refine lv_iconst (v := nI 1) hx hb dX2_rowArc_41 (by decide) ?_
            refine rn_isub hx hb (by omega) dX2_rowArc_42 ?_
            refine lv_iload hx hb dX2_rowArc_43 (lv_at hl 7 rfl) ?_
            refine cl_Si (As := [.int (nI nd), .int (nI v), .int (nI ((b - i) - 1)), .int lf]) (rest := []) ⟨hx, hb, hml, hown, hts⟩ (c2_firstArc l ha nd v ((b - i) - 1) lf hg hv26.1 (by omega) (by omega)) (cwV 4 hts gX2_rowArc_X2_firstArc rfl rfl rfl (by decide +kernel) ⟨Nat.le_of_ble_eq_true rfl, Nat.le_of_ble_eq_true rfl⟩) hK hP (ci := 2) (q0 := 6) rfl rfl rfl rfl hl.1 rfl (Nat.le_of_ble_eq_true rfl) dX2_rowArc_45 ⟨Nat.zero_le _, Nat.zero_le _⟩ (fun r45 h45 => ?_)
            rcases oI_cases h45 with ⟨g45, rfl⟩ | ⟨j45, g45, rfl⟩
            · refine lv_istore (lv' := [(8, .int (-1)), (0, .ref (a 6)), (1, .int (nI u)), (2, .int (nI v)), (3, .int (nI b)), (4, .int q), (5, .int x), (6, .int (nI nd)), (7, .int lf), (9, .int (nI i))]) hx hb dX2_rowArc_48 hl (by decide) rfl (fun ls hl => ?_)
              refine lv_iload hx hb dX2_rowArc_50 (lv_at hl 0 rfl) ?_
              refine lv_iconst (v := (-1)) hx hb dX2_rowArc_52 (by decide) ?_
              refine lv_icmp_ne (tgt := 58) hx hb dX2_rowArc_53 (by decide) (fun c53 => absurd rfl c53) (fun c53 => ?_)
              refine lv_iconst (v := (-1)) hx hb dX2_rowArc_56 (by decide) ?_
              rw [hQ]
              exact W.iret (v := (-1)) hx hb hr (fun t ht hW => ⟨_, rfl, (by rw [hxy, hRX, ← hv26.2.1 c30, rowF_none g45]; rfl), ht⟩) (fun q h => absurd h List.not_mem_nil) dX2_rowArc_57
            · obtain ⟨hj1, -, -⟩ := fst_inv g45
              refine lv_istore (lv' := [(8, .int (nI j45)), (0, .ref (a 6)), (1, .int (nI u)), (2, .int (nI v)), (3, .int (nI b)), (4, .int q), (5, .int x), (6, .int (nI nd)), (7, .int lf), (9, .int (nI i))]) hx hb dX2_rowArc_48 hl (by decide) rfl (fun ls hl => ?_)
              refine lv_iload hx hb dX2_rowArc_50 (lv_at hl 0 rfl) ?_
              refine lv_iconst (v := (-1)) hx hb dX2_rowArc_52 (by decide) ?_
              refine lv_icmp_ne (tgt := 58) hx hb dX2_rowArc_53 (by decide) (fun c53 => ?_) (fun c53 => absurd c53 (nI_m1 (by omega)))
              have hj2 := hft _ hj1
              refine lv_iload hx hb dX2_rowArc_58 (lv_at hl 8 rfl) ?_
              refine lv_aload_n hx hb dX2_rowArc_60 rfl (lv_at hl 1 rfl) ?_
              refine va_get (D := D) (ci := 2) (v := .ref (a 1)) (C := RX2) (T := TX2) (N := 4) hx hb hts i2 hown hK hP 6 rfl rfl 0 (by decide) (hts (.fieldLink RX2 9 "SignedPaths$Walks" "graph" "LSignedPaths$Graph;") (by decide +kernel)) (fun _ h9 => h9) rfl dX2_rowArc_61 ?_
              refine va_get (D := D) (ci := 0) (v := .ref (a 4)) (C := RX0) (T := TX0) (N := 7) hx hb hts i0 hown hK hP 1 rfl rfl 5 (by decide) (hts (.fieldLink RX2 67 "SignedPaths$Graph" "weight" "[I") (by decide +kernel)) (fun _ h9 => h9) rfl dX2_rowArc_64 ?_
              refine lv_iload hx hb dX2_rowArc_67 (lv_at hl 0 rfl) ?_
              refine rn_iald (v := w j45) hx hb hK hP 4 0 rfl rfl (by omega) (by decide) rfl dX2_rowArc_69 ?_
              refine lv_isub hx hb dX2_rowArc_70 ?_
              refine lv_istore (lv' := [(7, .int (lf - (w j45))), (8, .int (nI j45)), (0, .ref (a 6)), (1, .int (nI u)), (2, .int (nI v)), (3, .int (nI b)), (4, .int q), (5, .int x), (6, .int (nI nd)), (9, .int (nI i))]) hx hb dX2_rowArc_71 hl (by decide) rfl (fun ls hl => ?_)
              refine lv_aload_n hx hb dX2_rowArc_73 rfl (lv_at hl 2 rfl) ?_
              refine va_get (D := D) (ci := 2) (v := .ref (a 1)) (C := RX2) (T := TX2) (N := 4) hx hb hts i2 hown hK hP 6 rfl rfl 0 (by decide) (hts (.fieldLink RX2 9 "SignedPaths$Walks" "graph" "LSignedPaths$Graph;") (by decide +kernel)) (fun _ h9 => h9) rfl dX2_rowArc_74 ?_
              refine va_get (D := D) (ci := 0) (v := .ref (a 3)) (C := RX0) (T := TX0) (N := 7) hx hb hts i0 hown hK hP 1 rfl rfl 4 (by decide) (hts (.fieldLink RX2 64 "SignedPaths$Graph" "to" "[I") (by decide +kernel)) (fun _ h9 => h9) rfl dX2_rowArc_77 ?_
              refine lv_iload hx hb dX2_rowArc_80 (lv_at hl 1 rfl) ?_
              refine rn_iald (v := nI (to j45)) hx hb hK hP 3 0 rfl rfl (by omega) (by decide) rfl dX2_rowArc_82 ?_
              refine lv_istore (lv' := [(6, .int (nI (to j45))), (7, .int (lf - (w j45))), (8, .int (nI j45)), (0, .ref (a 6)), (1, .int (nI u)), (2, .int (nI v)), (3, .int (nI b)), (4, .int q), (5, .int x), (9, .int (nI i))]) hx hb dX2_rowArc_83 hl (by decide) rfl (fun ls hl => ?_)
              refine lv_iinc (v := nI (i + 1)) (lv' := [(9, .int (nI (i + 1))), (6, .int (nI (to j45))), (7, .int (lf - (w j45))), (8, .int (nI j45)), (0, .ref (a 6)), (1, .int (nI u)), (2, .int (nI v)), (3, .int (nI b)), (4, .int q), (5, .int x)]) hx hb dX2_rowArc_85 hl (k := 9) rfl (nI_1 i) (by decide) rfl (fun ls hl => ?_)
              refine lv_goto (tgt := 26) hx hb dX2_rowArc_88 (by decide) ?_
              exact ih26 (i + 1) (by omega) (by omega) (to j45) (lf - w j45) (nI j45) ⟨by omega, fun h => by rw [← hv26.2.1 c30, show y - i = (y - (i + 1)) + 1 by omega, rowF_s g45]; rfl, fun h => by rw [← hv26.2.1 c30, show y - i = 0 by omega, rowF_0, g45]; rfl⟩ ls (lv_sub hl [4, 5, 6, 7, 8, 9, 1, 2, 3, 0] rfl)
      exact key26 (y + 1 + 1) 0 (by omega) (by omega) u q (-1) ⟨hu, fun _ => rfl, fun h => absurd h (by omega)⟩ ls (lv_sub hl [4, 5, 6, 7, 8, 9, 3, 2, 1, 0] rfl)
    · refine lv_iconst (v := (-1)) hx hb dX2_rowArc_11 (by decide) ?_
      rw [hQ]
      exact W.iret (v := (-1)) hx hb hr (fun t ht hW => ⟨_, rfl, (by first | (simp [rowX, c2, oI]; done) | (simp [rowX, c2, c8, oI]; done)), ht⟩) (fun q h => absurd h List.not_mem_nil) dX2_rowArc_12
set_option maxHeartbeats 4000000 in
set_option maxRecDepth 100000 in
theorem c2_wayArc (l : Launch) {D : va_G} {k : Nat → ClassId} {a : Nat → Nat} {n : Nat} {m : Nat} {ch : Int32} {fr : Nat → Nat} {to : Nat → Nat} {w : Nat → Int32} {th : Nat → Bool} {L : Nat → Nat → Int32} {la : Nat} {sw : Int32} {od : Nat → Nat} {io : Nat → Bool} {oc : Nat} {fa : Nat → Int32} {on : Nat → Nat → Int32} {gr : Int32} {sr : Int32} (ha : inj 46 a) (u : Nat) (v : Nat) (x : Int32) (hg : gOK n m fr to) (hu : u < 12) (hv : v < 12) : Met l yX2_wayArc wsX2_wayArc ({ frames := 4, cells := 0, slots := 0, locals := 102 }) (gPc D k (cW k a n m ch fr to w th L la sw od io oc fa on gr sr) [.ref (a 6), .int (nI u), .int (nI v), .int x]) (vp_Si (fun r => r = oI (wayX n m fr to w th L u v x))) 0 0 nF := by
  refine Met.ofW (cc := cX2_wayArc) (maxL := 5) (ret := (some .int)) (by decide) rfl ?_
  intro p e s mt args below meth c s₁ B hml hv
  obtain ⟨rfl, hP, hK⟩ := hv
  have hx := B.exec
  have hb := B.bytes
  have hr := B.returns
  have hts := atoms_spec (ws := wsX2_wayArc) B.pre
  have hown : s.vm.findClass RX2 = some mt.cls := findClass_of_methodNamed B.named
  have hlocks := B.notSynchronized
  have i2 : ∀ w ∈ wsX20, w ∈ wsX2_wayArc := by decide +kernel
  have hl := lv_entry ([.ref (a 6), .int (nI u), .int (nI v), .int x]) (n := 5) (Nat.le_of_ble_eq_true rfl)
  rw [lg_entry_eq]
  generalize (lg_sl ([.ref (a 6), .int (nI u), .int (nI v), .int x]) ++ List.replicate (5 - (lg_sl ([.ref (a 6), .int (nI u), .int (nI v), .int x])).length) Slot.unset).toArray = ls at hl ⊢
  have hl : lv_has ls 5 [(0, .ref (a 6)), (1, .int (nI u)), (2, .int (nI v)), (3, .int x)] := hl
  refine lv_aload_n hx hb dX2_wayArc_0 rfl (lv_at hl 0 rfl) ?_
  refine lv_iload_n hx hb dX2_wayArc_1 rfl (lv_at hl 1 rfl) ?_
  refine lv_iload_n hx hb dX2_wayArc_2 rfl (lv_at hl 2 rfl) ?_
  refine cl_Si (As := [.int (nI u), .int (nI v)]) (rest := []) ⟨hx, hb, hml, hown, hts⟩ (c2_leastWeight l ha u v hg (by omega) (by omega)) (cwV 2 hts gX2_wayArc_X2_leastWeight rfl rfl rfl (by decide +kernel) ⟨Nat.le_of_ble_eq_true rfl, Nat.le_of_ble_eq_true rfl⟩) hK hP (ci := 2) (q0 := 6) rfl rfl rfl rfl hl.1 rfl (Nat.le_of_ble_eq_true rfl) dX2_wayArc_3 ⟨Nat.zero_le _, Nat.zero_le _⟩ (fun r3 h3 => ?_)
  subst h3
  refine lv_istore (lv' := [(4, .int (leastF n L u v)), (0, .ref (a 6)), (1, .int (nI u)), (2, .int (nI v)), (3, .int x)]) hx hb dX2_wayArc_6 hl (by decide) rfl (fun ls hl => ?_)
  refine lv_iload hx hb dX2_wayArc_8 (lv_at hl 0 rfl) ?_
  refine lv_ldc (v := 1000000000) hx hb hown (hts (.constant RX2 42 1000000000) (by decide +kernel)) dX2_wayArc_10 ?_
  refine lv_icmp_eq (tgt := 22) hx hb dX2_wayArc_12 (by decide) (fun c12 => ?_) (fun c12 => ?_)
  · refine lv_iconst (v := (-1)) hx hb dX2_wayArc_22 (by decide) ?_
    exact W.iret (v := (-1)) hx hb hr (fun t ht hW => ⟨_, rfl, (by first | (simp [wayX, c12, oI]; done) | (simp [wayX, c12, c19, oI]; done) | (rw [wayX, if_neg c12, if_pos (by simpa using c19)]; rfl)), ht⟩) (fun q h => absurd h List.not_mem_nil) dX2_wayArc_23
  · refine lv_iload hx hb dX2_wayArc_15 (lv_at hl 0 rfl) ?_
    refine lv_ldc (v := (-1000000000)) hx hb hown (hts (.constant RX2 85 (-1000000000)) (by decide +kernel)) dX2_wayArc_17 ?_
    refine lv_icmp_ne (tgt := 24) hx hb dX2_wayArc_19 (by decide) (fun c19 => ?_) (fun c19 => ?_)
    · refine lv_aload_n hx hb dX2_wayArc_24 rfl (lv_at hl 1 rfl) ?_
      refine lv_iload_n hx hb dX2_wayArc_25 rfl (lv_at hl 2 rfl) ?_
      refine lv_iload_n hx hb dX2_wayArc_26 rfl (lv_at hl 3 rfl) ?_
      refine lv_aload_n hx hb dX2_wayArc_27 rfl (lv_at hl 1 rfl) ?_
      refine lv_iload_n hx hb dX2_wayArc_28 rfl (lv_at hl 2 rfl) ?_
      refine lv_iload_n hx hb dX2_wayArc_29 rfl (lv_at hl 3 rfl) ?_
      refine lv_iload hx hb dX2_wayArc_30 (lv_at hl 0 rfl) ?_
      refine cl_Si (As := [.int (nI u), .int (nI v), .int (leastF n L u v)]) (rest := [.int (nI v), .int (nI u), .ref (a 6)]) ⟨hx, hb, hml, hown, hts⟩ (c2_fewestArcs l ha u v (leastF n L u v) (by omega) (by omega)) (cwV 3 hts gX2_wayArc_X2_fewestArcs rfl rfl rfl (by decide +kernel) ⟨Nat.le_of_ble_eq_true rfl, Nat.le_of_ble_eq_true rfl⟩) hK hP (ci := 2) (q0 := 6) rfl rfl rfl rfl hl.1 rfl (Nat.le_of_ble_eq_true rfl) dX2_wayArc_32 ⟨Nat.zero_le _, Nat.zero_le _⟩ (fun r32 h32 => ?_)
      subst h32
      refine lv_iload hx hb dX2_wayArc_35 (lv_at hl 0 rfl) ?_
      refine lv_iload_n hx hb dX2_wayArc_37 rfl (lv_at hl 4 rfl) ?_
      refine cl_Si (As := [.int (nI u), .int (nI v), .int (nI (fewA L u v (leastF n L u v))), .int (leastF n L u v), .int x]) (rest := []) ⟨hx, hb, hml, hown, hts⟩ (c2_rowArc l ha u v (fewA L u v (leastF n L u v)) (leastF n L u v) x hg (by omega) (by omega) (Nat.le_trans (fewA_le _ _ _ _) (by decide))) (cwV 5 hts gX2_wayArc_X2_rowArc rfl rfl rfl (by decide +kernel) ⟨Nat.le_of_ble_eq_true rfl, Nat.le_of_ble_eq_true rfl⟩) hK hP (ci := 2) (q0 := 6) rfl rfl rfl rfl hl.1 rfl (Nat.le_of_ble_eq_true rfl) dX2_wayArc_38 ⟨Nat.zero_le _, Nat.zero_le _⟩ (fun r38 h38 => ?_)
      exact W.iret (v := r38) hx hb hr (fun t ht hW => ⟨_, rfl, (by rw [h38, wayX, if_neg c12, if_neg c19]), ht⟩) (fun q h => absurd h List.not_mem_nil) dX2_wayArc_41
    · refine lv_iconst (v := (-1)) hx hb dX2_wayArc_22 (by decide) ?_
      exact W.iret (v := (-1)) hx hb hr (fun t ht hW => ⟨_, rfl, (by first | (simp [wayX, c12, oI]; done) | (simp [wayX, c12, c19, oI]; done) | (rw [wayX, if_neg c12, if_pos (by simpa using c19)]; rfl)), ht⟩) (fun q h => absurd h List.not_mem_nil) dX2_wayArc_23
set_option maxHeartbeats 4000000 in
set_option maxRecDepth 100000 in
theorem c2_restsAfter (l : Launch) {D : va_G} {k : Nat → ClassId} {a : Nat → Nat} {n : Nat} {m : Nat} {ch : Int32} {fr : Nat → Nat} {to : Nat → Nat} {w : Nat → Int32} {th : Nat → Bool} {L : Nat → Nat → Int32} {la : Nat} {sw : Int32} {od : Nat → Nat} {io : Nat → Bool} {oc : Nat} {fa : Nat → Int32} {on : Nat → Nat → Int32} {gr : Int32} {sr : Int32} (ha : inj 46 a) (b : Nat) (u : Nat) (hg : gOK n m fr to) (hb1 : b < 20) (hu : u < 12) : Met l yX2_restsAfter wsX2_restsAfter ({ frames := 1, cells := 0, slots := 0, locals := 23 }) (gPc D k (cW k a n m ch fr to w th L la sw od io oc fa on gr sr) [.ref (a 6), .int (nI b), .int (nI u)]) (vp_Si (fun r => r = bI (rests n L u b))) 0 0 nF := by
  refine Met.ofW (cc := cX2_restsAfter) (maxL := 4) (ret := (some .boolean)) (by decide) rfl ?_
  intro p e s mt args below meth c s₁ B hml hv
  obtain ⟨rfl, hP, hK⟩ := hv
  have hx := B.exec
  have hb := B.bytes
  have hr := B.returns
  have hts := atoms_spec (ws := wsX2_restsAfter) B.pre
  have hown : s.vm.findClass RX2 = some mt.cls := findClass_of_methodNamed B.named
  have hlocks := B.notSynchronized
  have i0 : ∀ w ∈ wsX00, w ∈ wsX2_restsAfter := by decide +kernel
  have i2 : ∀ w ∈ wsX20, w ∈ wsX2_restsAfter := by decide +kernel
  have hl := lv_entry ([.ref (a 6), .int (nI b), .int (nI u)]) (n := 4) (Nat.le_of_ble_eq_true rfl)
  rw [lg_entry_eq]
  generalize (lg_sl ([.ref (a 6), .int (nI b), .int (nI u)]) ++ List.replicate (4 - (lg_sl ([.ref (a 6), .int (nI b), .int (nI u)])).length) Slot.unset).toArray = ls at hl ⊢
  have hl : lv_has ls 4 [(0, .ref (a 6)), (1, .int (nI b)), (2, .int (nI u))] := hl
  obtain ⟨Q, hQ⟩ : ∃ Q, Q = MQ below (vp_Si (fun r => r = bI (rests n L u b))) ([.ref (a 6), .int (nI b), .int (nI u)] : List Value).toArray s 0 0 nF := ⟨_, rfl⟩
  rw [← hQ]
  obtain ⟨hn12, hm40, hft⟩ := id hg
  refine lv_iconst (v := nI 0) hx hb dX2_restsAfter_0 (by decide) ?_
  refine lv_istore_n (lv' := [(3, .int (nI 0)), (0, .ref (a 6)), (1, .int (nI b)), (2, .int (nI u))]) hx hb dX2_restsAfter_1 rfl hl (by decide) rfl (fun ls hl => ?_)
  have key2 : ∀ (f2 i : Nat), n + 1 ≤ i + f2 → i ≤ n → (∀ j, j < i → resP L b u j = false) → ∀ (ls : Array Slot), lv_has ls 4 [(0, .ref (a 6)), (1, .int (nI b)), (2, .int (nI u)), (3, .int (nI i))] → W p l e (headSpec wsX2_restsAfter { frames := 1, cells := 0, slots := 0, locals := 23 }).room s mt ([.ref (a 6), .int (nI b), .int (nI u)] : List Value).toArray below meth c s.heap [] 0 0 Q (F0 mt 2 ls []) := by
    intro f2
    induction f2 with
    | zero => intro i h1 h2; exact absurd h1 (by omega)
    | succ f2 ih2 =>
      intro i hf2 hi2  hv2 ls hl
      refine lv_iload_n hx hb dX2_restsAfter_2 rfl (lv_at hl 3 rfl) ?_
      refine lv_aload_n hx hb dX2_restsAfter_3 rfl (lv_at hl 0 rfl) ?_
      refine va_get (D := D) (ci := 2) (v := .ref (a 1)) (C := RX2) (T := TX2) (N := 4) hx hb hts i2 hown hK hP 6 rfl rfl 0 (by decide) (hts (.fieldLink RX2 9 "SignedPaths$Walks" "graph" "LSignedPaths$Graph;") (by decide +kernel)) (fun _ h9 => h9) rfl dX2_restsAfter_4 ?_
      refine va_get (D := D) (ci := 0) (v := .int (nI n)) (C := RX0) (T := TX0) (N := 7) hx hb hts i0 hown hK hP 1 rfl rfl 0 (by decide) (hts (.fieldLink RX2 39 "SignedPaths$Graph" "nodes" "I") (by decide +kernel)) (fun _ h9 => h9) rfl dX2_restsAfter_7 ?_
      refine rn_icmp_ge (tgt := 40) hx hb dX2_restsAfter_10 (by decide) (by omega) (by omega) (fun c10 => ?_) (fun c10 => ?_)
      · refine lv_iconst (v := 1) hx hb dX2_restsAfter_40 (by decide) ?_
        rw [hQ]
        exact W.zret (v := 1) hx hb hr (by decide) (fun t ht hW => ⟨_, rfl, (by rw [rests, fst_no (fun j hj => hv2 j (by omega))]; rfl), ht⟩) (fun q h => absurd h List.not_mem_nil) dX2_restsAfter_41
      · refine lv_aload_n hx hb dX2_restsAfter_13 rfl (lv_at hl 0 rfl) ?_
        refine lv_iload_n hx hb dX2_restsAfter_14 rfl (lv_at hl 1 rfl) ?_
        refine lv_iload_n hx hb dX2_restsAfter_15 rfl (lv_at hl 2 rfl) ?_
        refine lv_iload_n hx hb dX2_restsAfter_16 rfl (lv_at hl 3 rfl) ?_
        refine cl_Si (As := [.int (nI b), .int (nI u), .int (nI i)]) (rest := []) ⟨hx, hb, hml, hown, hts⟩ (c2_lightest l ha b u i (by omega) (by omega) (by omega)) (cwV 3 hts gX2_restsAfter_X2_lightest rfl rfl rfl (by decide +kernel) ⟨Nat.le_of_ble_eq_true rfl, Nat.le_of_ble_eq_true rfl⟩) hK hP (ci := 2) (q0 := 6) rfl rfl rfl rfl hl.1 rfl (Nat.le_of_ble_eq_true rfl) dX2_restsAfter_17 ⟨Nat.zero_le _, Nat.zero_le _⟩ (fun r17 h17 => ?_)
        subst h17
        refine lv_aload_n hx hb dX2_restsAfter_20 rfl (lv_at hl 0 rfl) ?_
        refine lv_iload_n hx hb dX2_restsAfter_21 rfl (lv_at hl 1 rfl) ?_
        refine lv_iconst (v := nI 1) hx hb dX2_restsAfter_22 (by decide) ?_
        refine rn_iadd hx hb  dX2_restsAfter_23 ?_
        refine lv_iload_n hx hb dX2_restsAfter_24 rfl (lv_at hl 2 rfl) ?_
        refine lv_iload_n hx hb dX2_restsAfter_25 rfl (lv_at hl 3 rfl) ?_
        refine cl_Si (As := [.int (nI (b + 1)), .int (nI u), .int (nI i)]) (rest := [.int (L b (u * 12 + i))]) ⟨hx, hb, hml, hown, hts⟩ (c2_lightest l ha (b + 1) u i (by omega) (by omega) (by omega)) (cwV 3 hts gX2_restsAfter_X2_lightest rfl rfl rfl (by decide +kernel) ⟨Nat.le_of_ble_eq_true rfl, Nat.le_of_ble_eq_true rfl⟩) hK hP (ci := 2) (q0 := 6) rfl rfl rfl rfl hl.1 rfl (Nat.le_of_ble_eq_true rfl) dX2_restsAfter_26 ⟨Nat.zero_le _, Nat.zero_le _⟩ (fun r26 h26 => ?_)
        subst h26
        refine lv_icmp_eq (tgt := 34) hx hb dX2_restsAfter_29 (by decide) (fun c29 => ?_) (fun c29 => ?_)
        · refine lv_iinc (v := nI (i + 1)) (lv' := [(3, .int (nI (i + 1))), (0, .ref (a 6)), (1, .int (nI b)), (2, .int (nI u))]) hx hb dX2_restsAfter_34 hl (k := 3) rfl (nI_1 i) (by decide) rfl (fun ls hl => ?_)
          refine lv_goto (tgt := 2) hx hb dX2_restsAfter_37 (by decide) ?_
          exact ih2 (i + 1) (by omega) (by omega) (lt_s hv2 (by simp [resP, c29])) ls (lv_sub hl [1, 2, 3, 0] rfl)
        · refine lv_iconst (v := 0) hx hb dX2_restsAfter_32 (by decide) ?_
          rw [hQ]
          exact W.zret (v := 0) hx hb hr (by decide) (fun t ht hW => ⟨_, rfl, (by rw [rests, fst_yes hv2 (by simp [resP, c29]) c10]; rfl), ht⟩) (fun q h => absurd h List.not_mem_nil) dX2_restsAfter_33
  exact key2 (n + 1) 0 (by omega) (by omega) (fun j h => absurd h (Nat.not_lt_zero j)) ls (lv_sub hl [1, 2, 3, 0] rfl)
set_option maxHeartbeats 4000000 in
set_option maxRecDepth 100000 in
theorem c2_roundsToRest (l : Launch) {D : va_G} {k : Nat → ClassId} {a : Nat → Nat} {n : Nat} {m : Nat} {ch : Int32} {fr : Nat → Nat} {to : Nat → Nat} {w : Nat → Int32} {th : Nat → Bool} {L : Nat → Nat → Int32} {la : Nat} {sw : Int32} {od : Nat → Nat} {io : Nat → Bool} {oc : Nat} {fa : Nat → Int32} {on : Nat → Nat → Int32} {gr : Int32} {sr : Int32} (ha : inj 46 a) (u : Nat) (hg : gOK n m fr to) (hu : u < 12) : Met l yX2_roundsToRest wsX2_roundsToRest ({ frames := 2, cells := 0, slots := 0, locals := 46 }) (gPc D k (cW k a n m ch fr to w th L la sw od io oc fa on gr sr) [.ref (a 6), .int (nI u)]) (vp_Si (fun r => r = oI (rndO n L u))) 0 0 nF := by
  refine Met.ofW (cc := cX2_roundsToRest) (maxL := 3) (ret := (some .int)) (by decide) rfl ?_
  intro p e s mt args below meth c s₁ B hml hv
  obtain ⟨rfl, hP, hK⟩ := hv
  have hx := B.exec
  have hb := B.bytes
  have hr := B.returns
  have hts := atoms_spec (ws := wsX2_roundsToRest) B.pre
  have hown : s.vm.findClass RX2 = some mt.cls := findClass_of_methodNamed B.named
  have hlocks := B.notSynchronized
  have i2 : ∀ w ∈ wsX20, w ∈ wsX2_roundsToRest := by decide +kernel
  have hl := lv_entry ([.ref (a 6), .int (nI u)]) (n := 3) (Nat.le_of_ble_eq_true rfl)
  rw [lg_entry_eq]
  generalize (lg_sl ([.ref (a 6), .int (nI u)]) ++ List.replicate (3 - (lg_sl ([.ref (a 6), .int (nI u)])).length) Slot.unset).toArray = ls at hl ⊢
  have hl : lv_has ls 3 [(0, .ref (a 6)), (1, .int (nI u))] := hl
  obtain ⟨Q, hQ⟩ : ∃ Q, Q = MQ below (vp_Si (fun r => r = oI (rndO n L u))) ([.ref (a 6), .int (nI u)] : List Value).toArray s 0 0 nF := ⟨_, rfl⟩
  rw [← hQ]
  obtain ⟨hn12, hm40, hft⟩ := id hg
  refine lv_iconst (v := nI 0) hx hb dX2_roundsToRest_0 (by decide) ?_
  refine lv_istore_n (lv' := [(2, .int (nI 0)), (0, .ref (a 6)), (1, .int (nI u))]) hx hb dX2_roundsToRest_1 rfl hl (by decide) rfl (fun ls hl => ?_)
  have key2 : ∀ (f2 i : Nat), 12 + 1 ≤ i + f2 → i ≤ 12 → (∀ j, j < i → rests n L u j = false) → ∀ (ls : Array Slot), lv_has ls 3 [(0, .ref (a 6)), (1, .int (nI u)), (2, .int (nI i))] → W p l e (headSpec wsX2_roundsToRest { frames := 2, cells := 0, slots := 0, locals := 46 }).room s mt ([.ref (a 6), .int (nI u)] : List Value).toArray below meth c s.heap [] 0 0 Q (F0 mt 2 ls []) := by
    intro f2
    induction f2 with
    | zero => intro i h1 h2; exact absurd h1 (by omega)
    | succ f2 ih2 =>
      intro i hf2 hi2  hv2 ls hl
      refine lv_iload_n hx hb dX2_roundsToRest_2 rfl (lv_at hl 2 rfl) ?_
      refine lv_bipush (v := nI 12) hx hb dX2_roundsToRest_3 (by decide) ?_
      refine rn_icmp_ge (tgt := 25) hx hb dX2_roundsToRest_5 (by decide) (by omega) (by omega) (fun c5 => ?_) (fun c5 => ?_)
      · refine lv_iconst (v := (-1)) hx hb dX2_roundsToRest_25 (by decide) ?_
        rw [hQ]
        exact W.iret (v := (-1)) hx hb hr (fun t ht hW => ⟨_, rfl, (by rw [rndO, fst_no (fun j hj => hv2 j (by omega))]; rfl), ht⟩) (fun q h => absurd h List.not_mem_nil) dX2_roundsToRest_26
      · refine lv_aload_n hx hb dX2_roundsToRest_8 rfl (lv_at hl 0 rfl) ?_
        refine lv_iload_n hx hb dX2_roundsToRest_9 rfl (lv_at hl 2 rfl) ?_
        refine lv_iload_n hx hb dX2_roundsToRest_10 rfl (lv_at hl 1 rfl) ?_
        refine cl_Si (As := [.int (nI i), .int (nI u)]) (rest := []) ⟨hx, hb, hml, hown, hts⟩ (c2_restsAfter l ha i u hg (by omega) (by omega)) (cwV 2 hts gX2_roundsToRest_X2_restsAfter rfl rfl rfl (by decide +kernel) ⟨Nat.le_of_ble_eq_true rfl, Nat.le_of_ble_eq_true rfl⟩) hK hP (ci := 2) (q0 := 6) rfl rfl rfl rfl hl.1 rfl (Nat.le_of_ble_eq_true rfl) dX2_roundsToRest_11 ⟨Nat.zero_le _, Nat.zero_le _⟩ (fun r11 h11 => ?_)
        subst h11
        refine rn_ifeqb (tgt := 19) hx hb dX2_roundsToRest_14 (by decide) (fun c14 => ?_) (fun c14 => ?_)
        · refine lv_iinc (v := nI (i + 1)) (lv' := [(2, .int (nI (i + 1))), (0, .ref (a 6)), (1, .int (nI u))]) hx hb dX2_roundsToRest_19 hl (k := 2) rfl (nI_1 i) (by decide) rfl (fun ls hl => ?_)
          refine lv_goto (tgt := 2) hx hb dX2_roundsToRest_22 (by decide) ?_
          exact ih2 (i + 1) (by omega) (by omega) (lt_s hv2 c14) ls (lv_sub hl [1, 2, 0] rfl)
        · refine lv_iload_n hx hb dX2_roundsToRest_17 rfl (lv_at hl 2 rfl) ?_
          rw [hQ]
          exact W.iret (v := nI i) hx hb hr (fun t ht hW => ⟨_, rfl, (by rw [rndO, fst_yes hv2 c14 c5]; rfl), ht⟩) (fun q h => absurd h List.not_mem_nil) dX2_roundsToRest_18
  exact key2 (12 + 1) 0 (by omega) (by omega) (fun j h => absurd h (Nat.not_lt_zero j)) ls (lv_sub hl [1, 2, 0] rfl)
set_option maxHeartbeats 4000000 in
set_option maxRecDepth 100000 in
theorem c2_firstShownArc (l : Launch) {D : va_G} {k : Nat → ClassId} {a : Nat → Nat} {n : Nat} {m : Nat} {ch : Int32} {fr : Nat → Nat} {to : Nat → Nat} {w : Nat → Int32} {th : Nat → Bool} {L : Nat → Nat → Int32} {la : Nat} {sw : Int32} {od : Nat → Nat} {io : Nat → Bool} {oc : Nat} {fa : Nat → Int32} {on : Nat → Nat → Int32} {gr : Int32} {sr : Int32} (ha : inj 46 a) (b : Nat) (hg : gOK n m fr to) (hb0 : 1 ≤ b) (hb1 : b ≤ 20) : Met l yX2_firstShownArc wsX2_firstShownArc ({ frames := 2, cells := 0, slots := 0, locals := 48 }) (gPc D k (cW k a n m ch fr to w th L la sw od io oc fa on gr sr) [.ref (a 6), .int (nI b)]) (vp_Si (fun r => r = oI (fsO m fr to w th L b))) 0 0 nF := by
  refine Met.ofW (cc := cX2_firstShownArc) (maxL := 3) (ret := (some .int)) (by decide) rfl ?_
  intro p e s mt args below meth c s₁ B hml hv
  obtain ⟨rfl, hP, hK⟩ := hv
  have hx := B.exec
  have hb := B.bytes
  have hr := B.returns
  have hts := atoms_spec (ws := wsX2_firstShownArc) B.pre
  have hown : s.vm.findClass RX2 = some mt.cls := findClass_of_methodNamed B.named
  have hlocks := B.notSynchronized
  have i0 : ∀ w ∈ wsX00, w ∈ wsX2_firstShownArc := by decide +kernel
  have i2 : ∀ w ∈ wsX20, w ∈ wsX2_firstShownArc := by decide +kernel
  have hl := lv_entry ([.ref (a 6), .int (nI b)]) (n := 3) (Nat.le_of_ble_eq_true rfl)
  rw [lg_entry_eq]
  generalize (lg_sl ([.ref (a 6), .int (nI b)]) ++ List.replicate (3 - (lg_sl ([.ref (a 6), .int (nI b)])).length) Slot.unset).toArray = ls at hl ⊢
  have hl : lv_has ls 3 [(0, .ref (a 6)), (1, .int (nI b))] := hl
  obtain ⟨Q, hQ⟩ : ∃ Q, Q = MQ below (vp_Si (fun r => r = oI (fsO m fr to w th L b))) ([.ref (a 6), .int (nI b)] : List Value).toArray s 0 0 nF := ⟨_, rfl⟩
  rw [← hQ]
  obtain ⟨hn12, hm40, hft⟩ := id hg
  refine lv_iconst (v := nI 0) hx hb dX2_firstShownArc_0 (by decide) ?_
  refine lv_istore_n (lv' := [(2, .int (nI 0)), (0, .ref (a 6)), (1, .int (nI b))]) hx hb dX2_firstShownArc_1 rfl hl (by decide) rfl (fun ls hl => ?_)
  have key2 : ∀ (f2 i : Nat), m + 1 ≤ i + f2 → i ≤ m → (∀ j, j < i → fsP fr to w th L b j = false) → ∀ (ls : Array Slot), lv_has ls 3 [(0, .ref (a 6)), (1, .int (nI b)), (2, .int (nI i))] → W p l e (headSpec wsX2_firstShownArc { frames := 2, cells := 0, slots := 0, locals := 48 }).room s mt ([.ref (a 6), .int (nI b)] : List Value).toArray below meth c s.heap [] 0 0 Q (F0 mt 2 ls []) := by
    intro f2
    induction f2 with
    | zero => intro i h1 h2; exact absurd h1 (by omega)
    | succ f2 ih2 =>
      intro i hf2 hi2  hv2 ls hl
      refine lv_iload_n hx hb dX2_firstShownArc_2 rfl (lv_at hl 2 rfl) ?_
      refine lv_aload_n hx hb dX2_firstShownArc_3 rfl (lv_at hl 0 rfl) ?_
      refine va_get (D := D) (ci := 2) (v := .ref (a 1)) (C := RX2) (T := TX2) (N := 4) hx hb hts i2 hown hK hP 6 rfl rfl 0 (by decide) (hts (.fieldLink RX2 9 "SignedPaths$Walks" "graph" "LSignedPaths$Graph;") (by decide +kernel)) (fun _ h9 => h9) rfl dX2_firstShownArc_4 ?_
      refine va_get (D := D) (ci := 0) (v := .int (nI m)) (C := RX0) (T := TX0) (N := 7) hx hb hts i0 hown hK hP 1 rfl rfl 1 (by decide) (hts (.fieldLink RX2 49 "SignedPaths$Graph" "arcs" "I") (by decide +kernel)) (fun _ h9 => h9) rfl dX2_firstShownArc_7 ?_
      refine rn_icmp_ge (tgt := 42) hx hb dX2_firstShownArc_10 (by decide) (by omega) (by omega) (fun c10 => ?_) (fun c10 => ?_)
      · refine lv_iconst (v := (-1)) hx hb dX2_firstShownArc_42 (by decide) ?_
        rw [hQ]
        exact W.iret (v := (-1)) hx hb hr (fun t ht hW => ⟨_, rfl, (by rw [fsO, fst_no (fun j hj => hv2 j (by omega))]; rfl), ht⟩) (fun q h => absurd h List.not_mem_nil) dX2_firstShownArc_43
      · have hi2 := hft i c10
        refine lv_aload_n hx hb dX2_firstShownArc_13 rfl (lv_at hl 0 rfl) ?_
        refine lv_iload_n hx hb dX2_firstShownArc_14 rfl (lv_at hl 2 rfl) ?_
        refine lv_aload_n hx hb dX2_firstShownArc_15 rfl (lv_at hl 0 rfl) ?_
        refine va_get (D := D) (ci := 2) (v := .ref (a 1)) (C := RX2) (T := TX2) (N := 4) hx hb hts i2 hown hK hP 6 rfl rfl 0 (by decide) (hts (.fieldLink RX2 9 "SignedPaths$Walks" "graph" "LSignedPaths$Graph;") (by decide +kernel)) (fun _ h9 => h9) rfl dX2_firstShownArc_16 ?_
        refine va_get (D := D) (ci := 0) (v := .ref (a 2)) (C := RX0) (T := TX0) (N := 7) hx hb hts i0 hown hK hP 1 rfl rfl 3 (by decide) (hts (.fieldLink RX2 60 "SignedPaths$Graph" "from" "[I") (by decide +kernel)) (fun _ h9 => h9) rfl dX2_firstShownArc_19 ?_
        refine lv_iload_n hx hb dX2_firstShownArc_22 rfl (lv_at hl 2 rfl) ?_
        refine rn_iald (v := nI (fr i)) hx hb hK hP 2 0 rfl rfl (by omega) (by decide) rfl dX2_firstShownArc_23 ?_
        refine lv_iload_n hx hb dX2_firstShownArc_24 rfl (lv_at hl 1 rfl) ?_
        refine lv_iconst (v := nI 1) hx hb dX2_firstShownArc_25 (by decide) ?_
        refine rn_isub hx hb (by omega) dX2_firstShownArc_26 ?_
        refine lv_iconst (v := (-1)) hx hb dX2_firstShownArc_27 (by decide) ?_
        refine cl_Si (As := [.int (nI i), .int (nI (fr i)), .int (nI (b - 1)), .int (-1)]) (rest := []) ⟨hx, hb, hml, hown, hts⟩ (c2_canEnd l ha i (fr i) (b - 1) (-1) hg (by omega) (by omega) (by omega)) (cwV 4 hts gX2_firstShownArc_X2_canEnd rfl rfl rfl (by decide +kernel) ⟨Nat.le_of_ble_eq_true rfl, Nat.le_of_ble_eq_true rfl⟩) hK hP (ci := 2) (q0 := 6) rfl rfl rfl rfl hl.1 rfl (Nat.le_of_ble_eq_true rfl) dX2_firstShownArc_28 ⟨Nat.zero_le _, Nat.zero_le _⟩ (fun r28 h28 => ?_)
        subst h28
        refine rn_ifeqb (tgt := 36) hx hb dX2_firstShownArc_31 (by decide) (fun c31 => ?_) (fun c31 => ?_)
        · refine lv_iinc (v := nI (i + 1)) (lv' := [(2, .int (nI (i + 1))), (0, .ref (a 6)), (1, .int (nI b))]) hx hb dX2_firstShownArc_36 hl (k := 2) rfl (nI_1 i) (by decide) rfl (fun ls hl => ?_)
          refine lv_goto (tgt := 2) hx hb dX2_firstShownArc_39 (by decide) ?_
          exact ih2 (i + 1) (by omega) (by omega) (lt_s hv2 c31) ls (lv_sub hl [1, 2, 0] rfl)
        · refine lv_iload_n hx hb dX2_firstShownArc_34 rfl (lv_at hl 2 rfl) ?_
          rw [hQ]
          exact W.iret (v := nI i) hx hb hr (fun t ht hW => ⟨_, rfl, (by rw [fsO, fst_yes hv2 c31 c10]; rfl), ht⟩) (fun q h => absurd h List.not_mem_nil) dX2_firstShownArc_35
  exact key2 (m + 1) 0 (by omega) (by omega) (fun j h => absurd h (Nat.not_lt_zero j)) ls (lv_sub hl [1, 2, 0] rfl)
set_option maxHeartbeats 4000000 in
set_option maxRecDepth 100000 in
theorem c2_lowest (l : Launch) {D : va_G} {k : Nat → ClassId} {a : Nat → Nat} {n : Nat} {m : Nat} {ch : Int32} {fr : Nat → Nat} {to : Nat → Nat} {w : Nat → Int32} {th : Nat → Bool} {L : Nat → Nat → Int32} {la : Nat} {sw : Int32} {od : Nat → Nat} {io : Nat → Bool} {oc : Nat} {fa : Nat → Int32} {on : Nat → Nat → Int32} {gr : Int32} {sr : Int32} (ha : inj 46 a) (v : Nat) (hg : gOK n m fr to) (hv : v < 12) : Met l yX2_lowest wsX2_lowest ({ frames := 1, cells := 0, slots := 0, locals := 23 }) (gPc D k (cW k a n m ch fr to w th L la sw od io oc fa on gr sr) [.ref (a 6), .int (nI v)]) (vp_Si (fun r => r = lowF n L v)) 0 0 nF := by
  refine Met.ofW (cc := cX2_lowest) (maxL := 4) (ret := (some .int)) (by decide) rfl ?_
  intro p e s mt args below meth c s₁ B hml hv
  obtain ⟨rfl, hP, hK⟩ := hv
  have hx := B.exec
  have hb := B.bytes
  have hr := B.returns
  have hts := atoms_spec (ws := wsX2_lowest) B.pre
  have hown : s.vm.findClass RX2 = some mt.cls := findClass_of_methodNamed B.named
  have hlocks := B.notSynchronized
  have i0 : ∀ w ∈ wsX00, w ∈ wsX2_lowest := by decide +kernel
  have i2 : ∀ w ∈ wsX20, w ∈ wsX2_lowest := by decide +kernel
  have hl := lv_entry ([.ref (a 6), .int (nI v)]) (n := 4) (Nat.le_of_ble_eq_true rfl)
  rw [lg_entry_eq]
  generalize (lg_sl ([.ref (a 6), .int (nI v)]) ++ List.replicate (4 - (lg_sl ([.ref (a 6), .int (nI v)])).length) Slot.unset).toArray = ls at hl ⊢
  have hl : lv_has ls 4 [(0, .ref (a 6)), (1, .int (nI v))] := hl
  obtain ⟨Q, hQ⟩ : ∃ Q, Q = MQ below (vp_Si (fun r => r = lowF n L v)) ([.ref (a 6), .int (nI v)] : List Value).toArray s 0 0 nF := ⟨_, rfl⟩
  rw [← hQ]
  obtain ⟨hn12, hm40, hft⟩ := id hg
  refine lv_iconst (v := 0) hx hb dX2_lowest_0 (by decide) ?_
  refine lv_istore_n (lv' := [(2, .int 0), (0, .ref (a 6)), (1, .int (nI v))]) hx hb dX2_lowest_1 rfl hl (by decide) rfl (fun ls hl => ?_)
  refine lv_iconst (v := nI 0) hx hb dX2_lowest_2 (by decide) ?_
  refine lv_istore_n (lv' := [(3, .int (nI 0)), (2, .int 0), (0, .ref (a 6)), (1, .int (nI v))]) hx hb dX2_lowest_3 rfl hl (by decide) rfl (fun ls hl => ?_)
  have key4 : ∀ (f4 i : Nat), n + 1 ≤ i + f4 → i ≤ n → ∀ (ls : Array Slot), lv_has ls 4 [(0, .ref (a 6)), (1, .int (nI v)), (2, .int (fl (loS L v) i 0)), (3, .int (nI i))] → W p l e (headSpec wsX2_lowest { frames := 1, cells := 0, slots := 0, locals := 23 }).room s mt ([.ref (a 6), .int (nI v)] : List Value).toArray below meth c s.heap [] 0 0 Q (F0 mt 4 ls []) := by
    intro f4
    induction f4 with
    | zero => intro i h1 h2; exact absurd h1 (by omega)
    | succ f4 ih4 =>
      intro i hf4 hi4   ls hl
      refine lv_iload_n hx hb dX2_lowest_4 rfl (lv_at hl 3 rfl) ?_
      refine lv_aload_n hx hb dX2_lowest_5 rfl (lv_at hl 0 rfl) ?_
      refine va_get (D := D) (ci := 2) (v := .ref (a 1)) (C := RX2) (T := TX2) (N := 4) hx hb hts i2 hown hK hP 6 rfl rfl 0 (by decide) (hts (.fieldLink RX2 9 "SignedPaths$Walks" "graph" "LSignedPaths$Graph;") (by decide +kernel)) (fun _ h9 => h9) rfl dX2_lowest_6 ?_
      refine va_get (D := D) (ci := 0) (v := .int (nI n)) (C := RX0) (T := TX0) (N := 7) hx hb hts i0 hown hK hP 1 rfl rfl 0 (by decide) (hts (.fieldLink RX2 39 "SignedPaths$Graph" "nodes" "I") (by decide +kernel)) (fun _ h9 => h9) rfl dX2_lowest_9 ?_
      refine rn_icmp_ge (tgt := 34) hx hb dX2_lowest_12 (by decide) (by omega) (by omega) (fun c12 => ?_) (fun c12 => ?_)
      · refine lv_iload_n hx hb dX2_lowest_34 rfl (lv_at hl 2 rfl) ?_
        rw [hQ]
        exact W.iret (v := fl (loS L v) i 0) hx hb hr (fun t ht hW => ⟨_, rfl, (by have e : i = n := (by omega); rw [e]; rfl), ht⟩) (fun q h => absurd h List.not_mem_nil) dX2_lowest_35
      · refine lv_iload_n hx hb dX2_lowest_15 rfl (lv_at hl 2 rfl) ?_
        refine lv_aload_n hx hb dX2_lowest_16 rfl (lv_at hl 0 rfl) ?_
        refine lv_bipush (v := nI 12) hx hb dX2_lowest_17 (by decide) ?_
        refine lv_iload_n hx hb dX2_lowest_19 rfl (lv_at hl 3 rfl) ?_
        refine lv_iload_n hx hb dX2_lowest_20 rfl (lv_at hl 1 rfl) ?_
        refine cl_Si (As := [.int (nI 12), .int (nI i), .int (nI v)]) (rest := [.int (fl (loS L v) i 0)]) ⟨hx, hb, hml, hown, hts⟩ (c2_lightest l ha 12 i v (by omega) (by omega) (by omega)) (cwV 3 hts gX2_lowest_X2_lightest rfl rfl rfl (by decide +kernel) ⟨Nat.le_of_ble_eq_true rfl, Nat.le_of_ble_eq_true rfl⟩) hK hP (ci := 2) (q0 := 6) rfl rfl rfl rfl hl.1 rfl (Nat.le_of_ble_eq_true rfl) dX2_lowest_21 ⟨Nat.zero_le _, Nat.zero_le _⟩ (fun r21 h21 => ?_)
        subst h21
        refine va_mmin hx hb (by rw [hml]; exact hl.1.symm) hown (hts (.methodLink RX2 116 Lib.Math.min.name) (by decide +kernel)) (hts (.static Lib.Math.min.name) (by decide +kernel)) (hts (.initialized "java/lang/Math") (by decide +kernel)) (hts (.code Lib.Math.min.name Lib.Math.min.code 2 (some .int)) (by decide +kernel)) (Nat.le_of_ble_eq_true rfl) (Nat.le_of_ble_eq_true rfl) (Nat.zero_le _) (Nat.zero_le _) dX2_lowest_24 ?_
        refine lv_istore_n (lv' := [(2, .int (if L 12 (i * 12 + v) < fl (loS L v) i 0 then L 12 (i * 12 + v) else fl (loS L v) i 0)), (0, .ref (a 6)), (1, .int (nI v)), (3, .int (nI i))]) hx hb dX2_lowest_27 rfl hl (by decide) rfl (fun ls hl => ?_)
        refine lv_iinc (v := nI (i + 1)) (lv' := [(3, .int (nI (i + 1))), (2, .int (if L 12 (i * 12 + v) < fl (loS L v) i 0 then L 12 (i * 12 + v) else fl (loS L v) i 0)), (0, .ref (a 6)), (1, .int (nI v))]) hx hb dX2_lowest_28 hl (k := 3) rfl (nI_1 i) (by decide) rfl (fun ls hl => ?_)
        refine lv_goto (tgt := 4) hx hb dX2_lowest_31 (by decide) ?_
        exact ih4 (i + 1) (by omega) (by omega)  ls (lv_sub hl [2, 3, 1, 0] rfl)
  exact key4 (n + 1) 0 (by omega) (by omega)  ls (lv_sub hl [2, 3, 1, 0] rfl)
set_option maxHeartbeats 4000000 in
set_option maxRecDepth 100000 in
theorem c2_shownLength (l : Launch) {D : va_G} {k : Nat → ClassId} {a : Nat → Nat} {n : Nat} {m : Nat} {ch : Int32} {fr : Nat → Nat} {to : Nat → Nat} {w : Nat → Int32} {th : Nat → Bool} {L : Nat → Nat → Int32} {la : Nat} {sw : Int32} {od : Nat → Nat} {io : Nat → Bool} {oc : Nat} {fa : Nat → Int32} {on : Nat → Nat → Int32} {gr : Int32} {sr : Int32} (ha : inj 46 a)  (hg : gOK n m fr to) : Met l yX2_shownLength wsX2_shownLength ({ frames := 1, cells := 0, slots := 0, locals := 23 }) (gPc D k (cW k a n m ch fr to w th L la sw od io oc fa on gr sr) [.ref (a 6)]) (vp_Si (fun r => r = nI (shL n L))) 0 0 nF := by
  refine Met.ofW (cc := cX2_shownLength) (maxL := 3) (ret := (some .int)) (by decide) rfl ?_
  intro p e s mt args below meth c s₁ B hml hv
  obtain ⟨rfl, hP, hK⟩ := hv
  have hx := B.exec
  have hb := B.bytes
  have hr := B.returns
  have hts := atoms_spec (ws := wsX2_shownLength) B.pre
  have hown : s.vm.findClass RX2 = some mt.cls := findClass_of_methodNamed B.named
  have hlocks := B.notSynchronized
  have i0 : ∀ w ∈ wsX00, w ∈ wsX2_shownLength := by decide +kernel
  have i2 : ∀ w ∈ wsX20, w ∈ wsX2_shownLength := by decide +kernel
  have hl := lv_entry ([.ref (a 6)]) (n := 3) (Nat.le_of_ble_eq_true rfl)
  rw [lg_entry_eq]
  generalize (lg_sl ([.ref (a 6)]) ++ List.replicate (3 - (lg_sl ([.ref (a 6)])).length) Slot.unset).toArray = ls at hl ⊢
  have hl : lv_has ls 3 [(0, .ref (a 6))] := hl
  obtain ⟨Q, hQ⟩ : ∃ Q, Q = MQ below (vp_Si (fun r => r = nI (shL n L))) ([.ref (a 6)] : List Value).toArray s 0 0 nF := ⟨_, rfl⟩
  rw [← hQ]
  obtain ⟨hn12, hm40, hft⟩ := id hg
  refine lv_iconst (v := nI 1) hx hb dX2_shownLength_0 (by decide) ?_
  refine lv_istore_n (lv' := [(1, .int (nI 1)), (0, .ref (a 6))]) hx hb dX2_shownLength_1 rfl hl (by decide) rfl (fun ls hl => ?_)
  have key2 : ∀ (f2 i : Nat), 12 + 1 ≤ i + f2 → i ≤ 12 → (∀ j, j < i → negK n L j = false) → ∀ (ls : Array Slot), lv_has ls 3 [(0, .ref (a 6)), (1, .int (nI (i + 1)))] → W p l e (headSpec wsX2_shownLength { frames := 1, cells := 0, slots := 0, locals := 23 }).room s mt ([.ref (a 6)] : List Value).toArray below meth c s.heap [] 0 0 Q (F0 mt 2 ls []) := by
    intro f2
    induction f2 with
    | zero => intro i h1 h2; exact absurd h1 (by omega)
    | succ f2 ih2 =>
      intro i hf2 hi2  hv2 ls hl
      refine lv_iload_n hx hb dX2_shownLength_2 rfl (lv_at hl 1 rfl) ?_
      refine lv_bipush (v := nI 12) hx hb dX2_shownLength_3 (by decide) ?_
      refine rn_icmp_gt (tgt := 45) hx hb dX2_shownLength_5 (by decide) (by omega) (by omega) (fun c5 => ?_) (fun c5 => ?_)
      · refine lv_iconst (v := 0) hx hb dX2_shownLength_45 (by decide) ?_
        rw [hQ]
        exact W.iret (v := 0) hx hb hr (fun t ht hW => ⟨_, rfl, (by rw [shL, shLo, fst_no (fun j hj => hv2 j (by omega))]; rfl), ht⟩) (fun q h => absurd h List.not_mem_nil) dX2_shownLength_46
      · refine lv_iconst (v := nI 0) hx hb dX2_shownLength_8 (by decide) ?_
        refine lv_istore_n (lv' := [(2, .int (nI 0)), (0, .ref (a 6)), (1, .int (nI (i + 1)))]) hx hb dX2_shownLength_9 rfl hl (by decide) rfl (fun ls hl => ?_)
        have key10 : ∀ (f10 u : Nat), n + 1 ≤ u + f10 → u ≤ n → (∀ j, j < u → negP L (i + 1) j = false) → ∀ (ls : Array Slot), lv_has ls 3 [(0, .ref (a 6)), (1, .int (nI (i + 1))), (2, .int (nI u))] → W p l e (headSpec wsX2_shownLength { frames := 1, cells := 0, slots := 0, locals := 23 }).room s mt ([.ref (a 6)] : List Value).toArray below meth c s.heap [] 0 0 Q (F0 mt 10 ls []) := by
          intro f10
          induction f10 with
          | zero => intro u h1 h2; exact absurd h1 (by omega)
          | succ f10 ih10 =>
            intro u hf10 hi10  hv10 ls hl
            refine lv_iload_n hx hb dX2_shownLength_10 rfl (lv_at hl 2 rfl) ?_
            refine lv_aload_n hx hb dX2_shownLength_11 rfl (lv_at hl 0 rfl) ?_
            refine va_get (D := D) (ci := 2) (v := .ref (a 1)) (C := RX2) (T := TX2) (N := 4) hx hb hts i2 hown hK hP 6 rfl rfl 0 (by decide) (hts (.fieldLink RX2 9 "SignedPaths$Walks" "graph" "LSignedPaths$Graph;") (by decide +kernel)) (fun _ h9 => h9) rfl dX2_shownLength_12 ?_
            refine va_get (D := D) (ci := 0) (v := .int (nI n)) (C := RX0) (T := TX0) (N := 7) hx hb hts i0 hown hK hP 1 rfl rfl 0 (by decide) (hts (.fieldLink RX2 39 "SignedPaths$Graph" "nodes" "I") (by decide +kernel)) (fun _ h9 => h9) rfl dX2_shownLength_15 ?_
            refine rn_icmp_ge (tgt := 39) hx hb dX2_shownLength_18 (by decide) (by omega) (by omega) (fun c18 => ?_) (fun c18 => ?_)
            · refine lv_iinc (v := nI (i + 1 + 1)) (lv' := [(1, .int (nI (i + 1 + 1))), (0, .ref (a 6)), (2, .int (nI u))]) hx hb dX2_shownLength_39 hl (k := 1) rfl (nI_1 (i + 1)) (by decide) rfl (fun ls hl => ?_)
              refine lv_goto (tgt := 2) hx hb dX2_shownLength_42 (by decide) ?_
              exact ih2 (i + 1) (by omega) (by omega) (lt_s hv2 (by rw [negK, fst_no (fun j hj => hv10 j (by omega))]; rfl)) ls (lv_sub hl [1, 0] rfl)
            · refine lv_aload_n hx hb dX2_shownLength_21 rfl (lv_at hl 0 rfl) ?_
              refine lv_iload_n hx hb dX2_shownLength_22 rfl (lv_at hl 1 rfl) ?_
              refine lv_iload_n hx hb dX2_shownLength_23 rfl (lv_at hl 2 rfl) ?_
              refine lv_iload_n hx hb dX2_shownLength_24 rfl (lv_at hl 2 rfl) ?_
              refine cl_Si (As := [.int (nI (i + 1)), .int (nI u), .int (nI u)]) (rest := []) ⟨hx, hb, hml, hown, hts⟩ (c2_lightest l ha (i + 1) u u (by omega) (by omega) (by omega)) (cwV 3 hts gX2_shownLength_X2_lightest rfl rfl rfl (by decide +kernel) ⟨Nat.le_of_ble_eq_true rfl, Nat.le_of_ble_eq_true rfl⟩) hK hP (ci := 2) (q0 := 6) rfl rfl rfl rfl hl.1 rfl (Nat.le_of_ble_eq_true rfl) dX2_shownLength_25 ⟨Nat.zero_le _, Nat.zero_le _⟩ (fun r25 h25 => ?_)
              subst h25
              refine lv_if_ge (tgt := 33) hx hb dX2_shownLength_28 (by decide) (fun c28 => ?_) (fun c28 => ?_)
              · refine lv_iinc (v := nI (u + 1)) (lv' := [(2, .int (nI (u + 1))), (0, .ref (a 6)), (1, .int (nI (i + 1)))]) hx hb dX2_shownLength_33 hl (k := 2) rfl (nI_1 u) (by decide) rfl (fun ls hl => ?_)
                refine lv_goto (tgt := 10) hx hb dX2_shownLength_36 (by decide) ?_
                exact ih10 (u + 1) (by omega) (by omega) (lt_s hv10 (by simp [negP, c28])) ls (lv_sub hl [1, 2, 0] rfl)
              · refine lv_iload_n hx hb dX2_shownLength_31 rfl (lv_at hl 1 rfl) ?_
                rw [hQ]
                exact W.iret (v := nI (i + 1)) hx hb hr (fun t ht hW => ⟨_, rfl, (by rw [shL, shLo, fst_yes hv2 (by rw [negK, fst_yes hv10 (by simp [negP, c28]) c18]; rfl) (by omega)]), ht⟩) (fun q h => absurd h List.not_mem_nil) dX2_shownLength_32
        exact key10 (n + 1) 0 (by omega) (by omega) (fun j h => absurd h (Nat.not_lt_zero j)) ls (lv_sub hl [1, 2, 0] rfl)
  exact key2 (12 + 1) 0 (by omega) (by omega) (fun j h => absurd h (Nat.not_lt_zero j)) ls (lv_sub hl [1, 0] rfl)
set_option maxHeartbeats 4000000 in
set_option maxRecDepth 100000 in
theorem c2_shownArc (l : Launch) {D : va_G} {k : Nat → ClassId} {a : Nat → Nat} {n : Nat} {m : Nat} {ch : Int32} {fr : Nat → Nat} {to : Nat → Nat} {w : Nat → Int32} {th : Nat → Bool} {L : Nat → Nat → Int32} {la : Nat} {sw : Int32} {od : Nat → Nat} {io : Nat → Bool} {oc : Nat} {fa : Nat → Int32} {on : Nat → Nat → Int32} {gr : Int32} {sr : Int32} (ha : inj 46 a) (x : Int32) (hg : gOK n m fr to) : Met l yX2_shownArc wsX2_shownArc ({ frames := 4, cells := 0, slots := 0, locals := 102 }) (gPc D k (cW k a n m ch fr to w th L la sw od io oc fa on gr sr) [.ref (a 6), .int x]) (vp_Si (fun r => r = oI (shX n m fr to w th L x))) 0 0 nF := by
  refine Met.ofW (cc := cX2_shownArc) (maxL := 4) (ret := (some .int)) (by decide) rfl ?_
  intro p e s mt args below meth c s₁ B hml hv
  obtain ⟨rfl, hP, hK⟩ := hv
  have hx := B.exec
  have hb := B.bytes
  have hr := B.returns
  have hts := atoms_spec (ws := wsX2_shownArc) B.pre
  have hown : s.vm.findClass RX2 = some mt.cls := findClass_of_methodNamed B.named
  have hlocks := B.notSynchronized
  have i0 : ∀ w ∈ wsX00, w ∈ wsX2_shownArc := by decide +kernel
  have i2 : ∀ w ∈ wsX20, w ∈ wsX2_shownArc := by decide +kernel
  have hl := lv_entry ([.ref (a 6), .int x]) (n := 4) (Nat.le_of_ble_eq_true rfl)
  rw [lg_entry_eq]
  generalize (lg_sl ([.ref (a 6), .int x]) ++ List.replicate (4 - (lg_sl ([.ref (a 6), .int x])).length) Slot.unset).toArray = ls at hl ⊢
  have hl : lv_has ls 4 [(0, .ref (a 6)), (1, .int x)] := hl
  obtain ⟨hn12, hm40, hft⟩ := id hg
  have hs12 := shL_le n L
  refine lv_aload_n hx hb dX2_shownArc_0 rfl (lv_at hl 0 rfl) ?_
  refine cl_Si (As := []) (rest := []) ⟨hx, hb, hml, hown, hts⟩ (c2_shownLength l ha  hg) (cwV 0 hts gX2_shownArc_X2_shownLength rfl rfl rfl (by decide +kernel) ⟨Nat.le_of_ble_eq_true rfl, Nat.le_of_ble_eq_true rfl⟩) hK hP (ci := 2) (q0 := 6) rfl rfl rfl rfl hl.1 rfl (Nat.le_of_ble_eq_true rfl) dX2_shownArc_1 ⟨Nat.zero_le _, Nat.zero_le _⟩ (fun r1 h1 => ?_)
  subst h1
  refine lv_istore_n (lv' := [(2, .int (nI (shL n L))), (0, .ref (a 6)), (1, .int x)]) hx hb dX2_shownArc_4 rfl hl (by decide) rfl (fun ls hl => ?_)
  refine lv_iload_n hx hb dX2_shownArc_5 rfl (lv_at hl 2 rfl) ?_
  refine lv_if_lt (tgt := 14) hx hb dX2_shownArc_6 (by decide) (fun c6 => ?_) (fun c6 => ?_)
  · refine lv_iconst (v := (-1)) hx hb dX2_shownArc_14 (by decide) ?_
    exact W.iret (v := (-1)) hx hb hr (fun t ht hW => ⟨_, rfl, (by first | (simp [shX, c6, oI]; done) | (simp [shX, c6, c11, oI]; done)), ht⟩) (fun q h => absurd h List.not_mem_nil) dX2_shownArc_15
  · refine lv_iload_n hx hb dX2_shownArc_9 rfl (lv_at hl 2 rfl) ?_
    refine lv_iload_n hx hb dX2_shownArc_10 rfl (lv_at hl 0 rfl) ?_
    refine lv_icmp_lt (tgt := 16) hx hb dX2_shownArc_11 (by decide) (fun c11 => ?_) (fun c11 => ?_)
    · obtain ⟨y, hy, hxy⟩ := nI_of c6
      have hyb : y < shL n L := (nI_ltI hy (by omega)).mp (by rw [← hxy]; exact c11)
      refine lv_aload_n hx hb dX2_shownArc_16 rfl (lv_at hl 1 rfl) ?_
      refine lv_iload_n hx hb dX2_shownArc_17 rfl (lv_at hl 0 rfl) ?_
      refine cl_Si (As := [.int (nI (shL n L))]) (rest := []) ⟨hx, hb, hml, hown, hts⟩ (c2_firstShownArc l ha (shL n L) hg (by omega) (by omega)) (cwV 1 hts gX2_shownArc_X2_firstShownArc rfl rfl rfl (by decide +kernel) ⟨Nat.le_of_ble_eq_true rfl, Nat.le_of_ble_eq_true rfl⟩) hK hP (ci := 2) (q0 := 6) rfl rfl rfl rfl hl.1 rfl (Nat.le_of_ble_eq_true rfl) dX2_shownArc_18 ⟨Nat.zero_le _, Nat.zero_le _⟩ (fun r18 h18 => ?_)
      rcases oI_cases h18 with ⟨g18, rfl⟩ | ⟨j18, g18, rfl⟩
      · refine lv_istore_n (lv' := [(3, .int (-1)), (2, .int (nI (shL n L))), (0, .ref (a 6)), (1, .int x)]) hx hb dX2_shownArc_21 rfl hl (by decide) rfl (fun ls hl => ?_)
        refine lv_iload_n hx hb dX2_shownArc_22 rfl (lv_at hl 3 rfl) ?_
        refine lv_if_eq (tgt := 31) hx hb dX2_shownArc_23 (by decide) (fun c23 => ?_) (fun c23 => ?_)
        · refine lv_iload_n hx hb dX2_shownArc_31 rfl (lv_at hl 0 rfl) ?_
          exact W.iret (v := (-1)) hx hb hr (fun t ht hW => ⟨_, rfl, (by first | (rw [shX, if_neg c6, if_pos c11, if_pos c23, g18]; rfl) | (rw [shX, if_neg c6, if_pos c11, if_neg c23, g18]; rfl)), ht⟩) (fun q h => absurd h List.not_mem_nil) dX2_shownArc_32
        · refine lv_iload_n hx hb dX2_shownArc_26 rfl (lv_at hl 0 rfl) ?_
          refine lv_iconst (v := (-1)) hx hb dX2_shownArc_27 (by decide) ?_
          refine lv_icmp_ne (tgt := 33) hx hb dX2_shownArc_28 (by decide) (fun c28 => absurd rfl c28) (fun c28 => ?_)
          refine lv_iload_n hx hb dX2_shownArc_31 rfl (lv_at hl 0 rfl) ?_
          exact W.iret (v := (-1)) hx hb hr (fun t ht hW => ⟨_, rfl, (by first | (rw [shX, if_neg c6, if_pos c11, if_pos c23, g18]; rfl) | (rw [shX, if_neg c6, if_pos c11, if_neg c23, g18]; rfl)), ht⟩) (fun q h => absurd h List.not_mem_nil) dX2_shownArc_32
      · obtain ⟨hj1, -, -⟩ := fst_inv g18
        have hj2 := hft _ hj1
        refine lv_istore_n (lv' := [(3, .int (nI j18)), (2, .int (nI (shL n L))), (0, .ref (a 6)), (1, .int x)]) hx hb dX2_shownArc_21 rfl hl (by decide) rfl (fun ls hl => ?_)
        refine lv_iload_n hx hb dX2_shownArc_22 rfl (lv_at hl 3 rfl) ?_
        refine lv_if_eq (tgt := 31) hx hb dX2_shownArc_23 (by decide) (fun c23 => ?_) (fun c23 => ?_)
        · refine lv_iload_n hx hb dX2_shownArc_31 rfl (lv_at hl 0 rfl) ?_
          exact W.iret (v := nI j18) hx hb hr (fun t ht hW => ⟨_, rfl, (by first | (rw [shX, if_neg c6, if_pos c11, if_pos c23, g18]; rfl) | (rw [shX, if_neg c6, if_pos c11, if_neg c23, g18]; rfl)), ht⟩) (fun q h => absurd h List.not_mem_nil) dX2_shownArc_32
        · refine lv_iload_n hx hb dX2_shownArc_26 rfl (lv_at hl 0 rfl) ?_
          refine lv_iconst (v := (-1)) hx hb dX2_shownArc_27 (by decide) ?_
          refine lv_icmp_ne (tgt := 33) hx hb dX2_shownArc_28 (by decide) (fun c28 => ?_) (fun c28 => absurd c28 (nI_m1 (by omega)))
          refine lv_aload_n hx hb dX2_shownArc_33 rfl (lv_at hl 2 rfl) ?_
          refine lv_aload_n hx hb dX2_shownArc_34 rfl (lv_at hl 2 rfl) ?_
          refine va_get (D := D) (ci := 2) (v := .ref (a 1)) (C := RX2) (T := TX2) (N := 4) hx hb hts i2 hown hK hP 6 rfl rfl 0 (by decide) (hts (.fieldLink RX2 9 "SignedPaths$Walks" "graph" "LSignedPaths$Graph;") (by decide +kernel)) (fun _ h9 => h9) rfl dX2_shownArc_35 ?_
          refine va_get (D := D) (ci := 0) (v := .ref (a 3)) (C := RX0) (T := TX0) (N := 7) hx hb hts i0 hown hK hP 1 rfl rfl 4 (by decide) (hts (.fieldLink RX2 64 "SignedPaths$Graph" "to" "[I") (by decide +kernel)) (fun _ h9 => h9) rfl dX2_shownArc_38 ?_
          refine lv_iload_n hx hb dX2_shownArc_41 rfl (lv_at hl 0 rfl) ?_
          refine rn_iald (v := nI (to j18)) hx hb hK hP 3 0 rfl rfl (by omega) (by decide) rfl dX2_shownArc_42 ?_
          refine lv_aload_n hx hb dX2_shownArc_43 rfl (lv_at hl 2 rfl) ?_
          refine va_get (D := D) (ci := 2) (v := .ref (a 1)) (C := RX2) (T := TX2) (N := 4) hx hb hts i2 hown hK hP 6 rfl rfl 0 (by decide) (hts (.fieldLink RX2 9 "SignedPaths$Walks" "graph" "LSignedPaths$Graph;") (by decide +kernel)) (fun _ h9 => h9) rfl dX2_shownArc_44 ?_
          refine va_get (D := D) (ci := 0) (v := .ref (a 2)) (C := RX0) (T := TX0) (N := 7) hx hb hts i0 hown hK hP 1 rfl rfl 3 (by decide) (hts (.fieldLink RX2 60 "SignedPaths$Graph" "from" "[I") (by decide +kernel)) (fun _ h9 => h9) rfl dX2_shownArc_47 ?_
          refine lv_iload_n hx hb dX2_shownArc_50 rfl (lv_at hl 0 rfl) ?_
          refine rn_iald (v := nI (fr j18)) hx hb hK hP 2 0 rfl rfl (by omega) (by decide) rfl dX2_shownArc_51 ?_
          refine lv_iload_n hx hb dX2_shownArc_52 rfl (lv_at hl 1 rfl) ?_
          refine lv_iconst (v := nI 1) hx hb dX2_shownArc_53 (by decide) ?_
          refine rn_isub hx hb (by omega) dX2_shownArc_54 ?_
          refine lv_iconst (v := (-1)) hx hb dX2_shownArc_55 (by decide) ?_
          refine lv_aload_n hx hb dX2_shownArc_56 rfl (lv_at hl 2 rfl) ?_
          refine va_get (D := D) (ci := 2) (v := .ref (a 1)) (C := RX2) (T := TX2) (N := 4) hx hb hts i2 hown hK hP 6 rfl rfl 0 (by decide) (hts (.fieldLink RX2 9 "SignedPaths$Walks" "graph" "LSignedPaths$Graph;") (by decide +kernel)) (fun _ h9 => h9) rfl dX2_shownArc_57 ?_
          refine va_get (D := D) (ci := 0) (v := .ref (a 4)) (C := RX0) (T := TX0) (N := 7) hx hb hts i0 hown hK hP 1 rfl rfl 5 (by decide) (hts (.fieldLink RX2 67 "SignedPaths$Graph" "weight" "[I") (by decide +kernel)) (fun _ h9 => h9) rfl dX2_shownArc_60 ?_
          refine lv_iload_n hx hb dX2_shownArc_63 rfl (lv_at hl 0 rfl) ?_
          refine rn_iald (v := w j18) hx hb hK hP 4 0 rfl rfl (by omega) (by decide) rfl dX2_shownArc_64 ?_
          refine lv_isub hx hb dX2_shownArc_65 ?_
          refine lv_iload_n hx hb dX2_shownArc_66 rfl (lv_at hl 3 rfl) ?_
          refine lv_iconst (v := 1) hx hb dX2_shownArc_67 (by decide) ?_
          refine lv_isub hx hb dX2_shownArc_68 ?_
          refine cl_Si (As := [.int (nI (to j18)), .int (nI (fr j18)), .int (nI ((shL n L) - 1)), .int ((-1) - (w j18)), .int (x - 1)]) (rest := []) ⟨hx, hb, hml, hown, hts⟩ (c2_rowArc l ha (to j18) (fr j18) ((shL n L) - 1) ((-1) - (w j18)) (x - 1) hg (by omega) (by omega) (by omega)) (cwV 5 hts gX2_shownArc_X2_rowArc rfl rfl rfl (by decide +kernel) ⟨Nat.le_of_ble_eq_true rfl, Nat.le_of_ble_eq_true rfl⟩) hK hP (ci := 2) (q0 := 6) rfl rfl rfl rfl hl.1 rfl (Nat.le_of_ble_eq_true rfl) dX2_shownArc_69 ⟨Nat.zero_le _, Nat.zero_le _⟩ (fun r69 h69 => ?_)
          exact W.iret (v := r69) hx hb hr (fun t ht hW => ⟨_, rfl, (by rw [h69, shX, if_neg c6, if_pos c11, if_neg c23, g18]), ht⟩) (fun q h => absurd h List.not_mem_nil) dX2_shownArc_72
    · refine lv_iconst (v := (-1)) hx hb dX2_shownArc_14 (by decide) ?_
      exact W.iret (v := (-1)) hx hb hr (fun t ht hW => ⟨_, rfl, (by first | (simp [shX, c6, oI]; done) | (simp [shX, c6, c11, oI]; done)), ht⟩) (fun q h => absurd h List.not_mem_nil) dX2_shownArc_15
