set_option maxHeartbeats 4000000 in
set_option maxRecDepth 100000 in
theorem c1_hasRing (l : Launch) {D : va_G} {k : Nat → ClassId} {a : Nat → Nat} {n : Nat} {m : Nat} {ch : Int32} {fr : Nat → Nat} {to : Nat → Nat} {w : Nat → Int32} {th : Nat → Bool} {L : Nat → Nat → Int32} {la : Nat} {sw : Int32} {od : Nat → Nat} {io : Nat → Bool} {oc : Nat} {fa : Nat → Int32} {on : Nat → Nat → Int32} {gr : Int32} {sr : Int32} (ha : inj 46 a)  (hn12 : n ≤ 12) (hoc : oc ≤ 12) : Met l yX1_hasRing wsX1_hasRing ({ frames := 0, cells := 0, slots := 0, locals := 0 }) (gPc D k (cW k a n m ch fr to w th L la sw od io oc fa on gr sr) [.ref (a 8)]) (vp_Si (fun r => r = bI (decide (oc < n)))) 0 0 nF := by
  refine Met.ofW (cc := cX1_hasRing) (maxL := 1) (ret := (some .boolean)) (by decide) rfl ?_
  intro p e s mt args below meth c s₁ B hml hv
  obtain ⟨rfl, hP, hK⟩ := hv
  have hx := B.exec
  have hb := B.bytes
  have hr := B.returns
  have hts := atoms_spec (ws := wsX1_hasRing) B.pre
  have hown : s.vm.findClass RX1 = some mt.cls := findClass_of_methodNamed B.named
  have hlocks := B.notSynchronized
  have i0 : ∀ w ∈ wsX00, w ∈ wsX1_hasRing := by decide +kernel
  have i1 : ∀ w ∈ wsX10, w ∈ wsX1_hasRing := by decide +kernel
  have hl := lv_entry ([.ref (a 8)]) (n := 1) (Nat.le_of_ble_eq_true rfl)
  rw [lg_entry_eq]
  generalize (lg_sl ([.ref (a 8)]) ++ List.replicate (1 - (lg_sl ([.ref (a 8)])).length) Slot.unset).toArray = ls at hl ⊢
  have hl : lv_has ls 1 [(0, .ref (a 8))] := hl
  refine lv_aload_n hx hb dX1_hasRing_0 rfl (lv_at hl 0 rfl) ?_
  refine va_get (D := D) (ci := 1) (v := .int (nI oc)) (C := RX1) (T := TX1) (N := 8) hx hb hts i1 hown hK hP 8 rfl rfl 3 (by decide) (hts (.fieldLink RX1 23 "SignedPaths$Ringless" "orderedCount" "I") (by decide +kernel)) (fun _ h9 => h9) rfl dX1_hasRing_1 ?_
  refine lv_aload_n hx hb dX1_hasRing_4 rfl (lv_at hl 0 rfl) ?_
  refine va_get (D := D) (ci := 1) (v := .ref (a 1)) (C := RX1) (T := TX1) (N := 8) hx hb hts i1 hown hK hP 8 rfl rfl 0 (by decide) (hts (.fieldLink RX1 9 "SignedPaths$Ringless" "graph" "LSignedPaths$Graph;") (by decide +kernel)) (fun _ h9 => h9) rfl dX1_hasRing_5 ?_
  refine va_get (D := D) (ci := 0) (v := .int (nI n)) (C := RX0) (T := TX0) (N := 7) hx hb hts i0 hown hK hP 1 rfl rfl 0 (by decide) (hts (.fieldLink RX1 62 "SignedPaths$Graph" "nodes" "I") (by decide +kernel)) (fun _ h9 => h9) rfl dX1_hasRing_8 ?_
  refine rn_icmp_ge (tgt := 18) hx hb dX1_hasRing_11 (by decide) (by omega) (by omega) (fun c11 => ?_) (fun c11 => ?_)
  · refine lv_iconst (v := 0) hx hb dX1_hasRing_18 (by decide) ?_
    exact W.zret (v := 0) hx hb hr (by decide) (fun t ht hW => ⟨_, rfl, (by simp [bI, c11]; try omega), ht⟩) (fun q h => absurd h List.not_mem_nil) dX1_hasRing_19
  · refine lv_iconst (v := 1) hx hb dX1_hasRing_14 (by decide) ?_
    refine lv_goto (tgt := 19) hx hb dX1_hasRing_15 (by decide) ?_
    exact W.zret (v := 1) hx hb hr (by decide) (fun t ht hW => ⟨_, rfl, (by simp [bI, c11]; try omega), ht⟩) (fun q h => absurd h List.not_mem_nil) dX1_hasRing_19
set_option maxHeartbeats 4000000 in
set_option maxRecDepth 100000 in
theorem c1_waits (l : Launch) {D : va_G} {k : Nat → ClassId} {a : Nat → Nat} {n : Nat} {m : Nat} {ch : Int32} {fr : Nat → Nat} {to : Nat → Nat} {w : Nat → Int32} {th : Nat → Bool} {L : Nat → Nat → Int32} {la : Nat} {sw : Int32} {od : Nat → Nat} {io : Nat → Bool} {oc : Nat} {fa : Nat → Int32} {on : Nat → Nat → Int32} {gr : Int32} {sr : Int32} (ha : inj 46 a) (x : Nat) (hg : gOK n m fr to) (hx1 : x < 12) : Met l yX1_waits wsX1_waits ({ frames := 0, cells := 0, slots := 0, locals := 0 }) (gPc D k (cW k a n m ch fr to w th L la sw od io oc fa on gr sr) [.ref (a 8), .int (nI x)]) (vp_Si (fun r => r = bI (waB m fr to th io x))) 0 0 nF := by
  refine Met.ofW (cc := cX1_waits) (maxL := 3) (ret := (some .boolean)) (by decide) rfl ?_
  intro p e s mt args below meth c s₁ B hml hv
  obtain ⟨rfl, hP, hK⟩ := hv
  have hx := B.exec
  have hb := B.bytes
  have hr := B.returns
  have hts := atoms_spec (ws := wsX1_waits) B.pre
  have hown : s.vm.findClass RX1 = some mt.cls := findClass_of_methodNamed B.named
  have hlocks := B.notSynchronized
  have i0 : ∀ w ∈ wsX00, w ∈ wsX1_waits := by decide +kernel
  have i1 : ∀ w ∈ wsX10, w ∈ wsX1_waits := by decide +kernel
  have hl := lv_entry ([.ref (a 8), .int (nI x)]) (n := 3) (Nat.le_of_ble_eq_true rfl)
  rw [lg_entry_eq]
  generalize (lg_sl ([.ref (a 8), .int (nI x)]) ++ List.replicate (3 - (lg_sl ([.ref (a 8), .int (nI x)])).length) Slot.unset).toArray = ls at hl ⊢
  have hl : lv_has ls 3 [(0, .ref (a 8)), (1, .int (nI x))] := hl
  obtain ⟨Q, hQ⟩ : ∃ Q, Q = MQ below (vp_Si (fun r => r = bI (waB m fr to th io x))) ([.ref (a 8), .int (nI x)] : List Value).toArray s 0 0 nF := ⟨_, rfl⟩
  rw [← hQ]
  obtain ⟨hn12, hm40, hft⟩ := id hg
  refine lv_iconst (v := nI 0) hx hb dX1_waits_0 (by decide) ?_
  refine lv_istore_n (lv' := [(2, .int (nI 0)), (0, .ref (a 8)), (1, .int (nI x))]) hx hb dX1_waits_1 rfl hl (by decide) rfl (fun ls hl => ?_)
  have key2 : ∀ (f2 i : Nat), m + 1 ≤ i + f2 → i ≤ m → (∀ j, j < i → waP fr to th io x j = false) → ∀ (ls : Array Slot), lv_has ls 3 [(0, .ref (a 8)), (1, .int (nI x)), (2, .int (nI i))] → W p l e (headSpec wsX1_waits { frames := 0, cells := 0, slots := 0, locals := 0 }).room s mt ([.ref (a 8), .int (nI x)] : List Value).toArray below meth c s.heap [] 0 0 Q (F0 mt 2 ls []) := by
    intro f2
    induction f2 with
    | zero => intro i h1 h2; exact absurd h1 (by omega)
    | succ f2 ih2 =>
      intro i hf2 hi2  hv2 ls hl
      refine lv_iload_n hx hb dX1_waits_2 rfl (lv_at hl 2 rfl) ?_
      refine lv_aload_n hx hb dX1_waits_3 rfl (lv_at hl 0 rfl) ?_
      refine va_get (D := D) (ci := 1) (v := .ref (a 1)) (C := RX1) (T := TX1) (N := 8) hx hb hts i1 hown hK hP 8 rfl rfl 0 (by decide) (hts (.fieldLink RX1 9 "SignedPaths$Ringless" "graph" "LSignedPaths$Graph;") (by decide +kernel)) (fun _ h9 => h9) rfl dX1_waits_4 ?_
      refine va_get (D := D) (ci := 0) (v := .int (nI m)) (C := RX0) (T := TX0) (N := 7) hx hb hts i0 hown hK hP 1 rfl rfl 1 (by decide) (hts (.fieldLink RX1 73 "SignedPaths$Graph" "arcs" "I") (by decide +kernel)) (fun _ h9 => h9) rfl dX1_waits_7 ?_
      refine rn_icmp_ge (tgt := 63) hx hb dX1_waits_10 (by decide) (by omega) (by omega) (fun c10 => ?_) (fun c10 => ?_)
      · refine lv_iconst (v := 0) hx hb dX1_waits_63 (by decide) ?_
        rw [hQ]
        exact W.zret (v := 0) hx hb hr (by decide) (fun t ht hW => ⟨_, rfl, (by rw [waB, fst_no (fun j hj => hv2 j (by omega))]; rfl), ht⟩) (fun q h => absurd h List.not_mem_nil) dX1_waits_64
      · have hi2 := hft i c10
        refine lv_aload_n hx hb dX1_waits_13 rfl (lv_at hl 0 rfl) ?_
        refine va_get (D := D) (ci := 1) (v := .ref (a 1)) (C := RX1) (T := TX1) (N := 8) hx hb hts i1 hown hK hP 8 rfl rfl 0 (by decide) (hts (.fieldLink RX1 9 "SignedPaths$Ringless" "graph" "LSignedPaths$Graph;") (by decide +kernel)) (fun _ h9 => h9) rfl dX1_waits_14 ?_
        refine va_get (D := D) (ci := 0) (v := .ref (a 5)) (C := RX0) (T := TX0) (N := 7) hx hb hts i0 hown hK hP 1 rfl rfl 6 (by decide) (hts (.fieldLink RX1 76 "SignedPaths$Graph" "there" "[Z") (by decide +kernel)) (fun _ h9 => h9) rfl dX1_waits_17 ?_
        refine lv_iload_n hx hb dX1_waits_20 rfl (lv_at hl 2 rfl) ?_
        refine rn_zald (v := bI (th i)) hx hb hK hP 5 1 rfl rfl (by omega) (by decide) rfl dX1_waits_21 ?_
        refine rn_ifeqb (tgt := 57) hx hb dX1_waits_22 (by decide) (fun c22 => ?_) (fun c22 => ?_)
        · refine lv_iinc (v := nI (i + 1)) (lv' := [(2, .int (nI (i + 1))), (0, .ref (a 8)), (1, .int (nI x))]) hx hb dX1_waits_57 hl (k := 2) rfl (nI_1 i) (by decide) rfl (fun ls hl => ?_)
          refine lv_goto (tgt := 2) hx hb dX1_waits_60 (by decide) ?_
          exact ih2 (i + 1) (by omega) (by omega) (lt_s hv2 (by simp [waP, c22])) ls (lv_sub hl [1, 2, 0] rfl)
        · refine lv_aload_n hx hb dX1_waits_25 rfl (lv_at hl 0 rfl) ?_
          refine va_get (D := D) (ci := 1) (v := .ref (a 1)) (C := RX1) (T := TX1) (N := 8) hx hb hts i1 hown hK hP 8 rfl rfl 0 (by decide) (hts (.fieldLink RX1 9 "SignedPaths$Ringless" "graph" "LSignedPaths$Graph;") (by decide +kernel)) (fun _ h9 => h9) rfl dX1_waits_26 ?_
          refine va_get (D := D) (ci := 0) (v := .ref (a 3)) (C := RX0) (T := TX0) (N := 7) hx hb hts i0 hown hK hP 1 rfl rfl 4 (by decide) (hts (.fieldLink RX1 79 "SignedPaths$Graph" "to" "[I") (by decide +kernel)) (fun _ h9 => h9) rfl dX1_waits_29 ?_
          refine lv_iload_n hx hb dX1_waits_32 rfl (lv_at hl 2 rfl) ?_
          refine rn_iald (v := nI (to i)) hx hb hK hP 3 0 rfl rfl (by omega) (by decide) rfl dX1_waits_33 ?_
          refine lv_iload_n hx hb dX1_waits_34 rfl (lv_at hl 1 rfl) ?_
          refine rn_icmp_ne (tgt := 57) hx hb dX1_waits_35 (by decide) (by omega) (by omega) (fun c35 => ?_) (fun c35 => ?_)
          · refine lv_iinc (v := nI (i + 1)) (lv' := [(2, .int (nI (i + 1))), (0, .ref (a 8)), (1, .int (nI x))]) hx hb dX1_waits_57 hl (k := 2) rfl (nI_1 i) (by decide) rfl (fun ls hl => ?_)
            refine lv_goto (tgt := 2) hx hb dX1_waits_60 (by decide) ?_
            exact ih2 (i + 1) (by omega) (by omega) (lt_s hv2 (by simp [waP, c35])) ls (lv_sub hl [1, 2, 0] rfl)
          · refine lv_aload_n hx hb dX1_waits_38 rfl (lv_at hl 0 rfl) ?_
            refine va_get (D := D) (ci := 1) (v := .ref (a 10)) (C := RX1) (T := TX1) (N := 8) hx hb hts i1 hown hK hP 8 rfl rfl 2 (by decide) (hts (.fieldLink RX1 19 "SignedPaths$Ringless" "isOrdered" "[Z") (by decide +kernel)) (fun _ h9 => h9) rfl dX1_waits_39 ?_
            refine lv_aload_n hx hb dX1_waits_42 rfl (lv_at hl 0 rfl) ?_
            refine va_get (D := D) (ci := 1) (v := .ref (a 1)) (C := RX1) (T := TX1) (N := 8) hx hb hts i1 hown hK hP 8 rfl rfl 0 (by decide) (hts (.fieldLink RX1 9 "SignedPaths$Ringless" "graph" "LSignedPaths$Graph;") (by decide +kernel)) (fun _ h9 => h9) rfl dX1_waits_43 ?_
            refine va_get (D := D) (ci := 0) (v := .ref (a 2)) (C := RX0) (T := TX0) (N := 7) hx hb hts i0 hown hK hP 1 rfl rfl 3 (by decide) (hts (.fieldLink RX1 82 "SignedPaths$Graph" "from" "[I") (by decide +kernel)) (fun _ h9 => h9) rfl dX1_waits_46 ?_
            refine lv_iload_n hx hb dX1_waits_49 rfl (lv_at hl 2 rfl) ?_
            refine rn_iald (v := nI (fr i)) hx hb hK hP 2 0 rfl rfl (by omega) (by decide) rfl dX1_waits_50 ?_
            refine rn_zald (v := bI (io (fr i))) hx hb hK hP 10 1 rfl rfl (by omega) (by decide) rfl dX1_waits_51 ?_
            refine rn_ifneb (tgt := 57) hx hb dX1_waits_52 (by decide) (fun c52 => ?_) (fun c52 => ?_)
            · refine lv_iinc (v := nI (i + 1)) (lv' := [(2, .int (nI (i + 1))), (0, .ref (a 8)), (1, .int (nI x))]) hx hb dX1_waits_57 hl (k := 2) rfl (nI_1 i) (by decide) rfl (fun ls hl => ?_)
              refine lv_goto (tgt := 2) hx hb dX1_waits_60 (by decide) ?_
              exact ih2 (i + 1) (by omega) (by omega) (lt_s hv2 (by simp [waP, c52])) ls (lv_sub hl [1, 2, 0] rfl)
            · refine lv_iconst (v := 1) hx hb dX1_waits_55 (by decide) ?_
              rw [hQ]
              exact W.zret (v := 1) hx hb hr (by decide) (fun t ht hW => ⟨_, rfl, (by rw [waB, fst_yes hv2 (by simp [waP, c22, c35, c52]) c10]; rfl), ht⟩) (fun q h => absurd h List.not_mem_nil) dX1_waits_56
  exact key2 (m + 1) 0 (by omega) (by omega) (fun j h => absurd h (Nat.not_lt_zero j)) ls (lv_sub hl [1, 2, 0] rfl)
set_option maxHeartbeats 4000000 in
set_option maxRecDepth 100000 in
theorem c1_nextNode (l : Launch) {D : va_G} {k : Nat → ClassId} {a : Nat → Nat} {n : Nat} {m : Nat} {ch : Int32} {fr : Nat → Nat} {to : Nat → Nat} {w : Nat → Int32} {th : Nat → Bool} {L : Nat → Nat → Int32} {la : Nat} {sw : Int32} {od : Nat → Nat} {io : Nat → Bool} {oc : Nat} {fa : Nat → Int32} {on : Nat → Nat → Int32} {gr : Int32} {sr : Int32} (ha : inj 46 a)  (hg : gOK n m fr to) : Met l yX1_nextNode wsX1_nextNode ({ frames := 1, cells := 0, slots := 0, locals := 22 }) (gPc D k (cW k a n m ch fr to w th L la sw od io oc fa on gr sr) [.ref (a 8)]) (vp_Si (fun r => r = oI (nextO n m fr to th io))) 0 0 nF := by
  refine Met.ofW (cc := cX1_nextNode) (maxL := 2) (ret := (some .int)) (by decide) rfl ?_
  intro p e s mt args below meth c s₁ B hml hv
  obtain ⟨rfl, hP, hK⟩ := hv
  have hx := B.exec
  have hb := B.bytes
  have hr := B.returns
  have hts := atoms_spec (ws := wsX1_nextNode) B.pre
  have hown : s.vm.findClass RX1 = some mt.cls := findClass_of_methodNamed B.named
  have hlocks := B.notSynchronized
  have i0 : ∀ w ∈ wsX00, w ∈ wsX1_nextNode := by decide +kernel
  have i1 : ∀ w ∈ wsX10, w ∈ wsX1_nextNode := by decide +kernel
  have hl := lv_entry ([.ref (a 8)]) (n := 2) (Nat.le_of_ble_eq_true rfl)
  rw [lg_entry_eq]
  generalize (lg_sl ([.ref (a 8)]) ++ List.replicate (2 - (lg_sl ([.ref (a 8)])).length) Slot.unset).toArray = ls at hl ⊢
  have hl : lv_has ls 2 [(0, .ref (a 8))] := hl
  obtain ⟨Q, hQ⟩ : ∃ Q, Q = MQ below (vp_Si (fun r => r = oI (nextO n m fr to th io))) ([.ref (a 8)] : List Value).toArray s 0 0 nF := ⟨_, rfl⟩
  rw [← hQ]
  obtain ⟨hn12, hm40, hft⟩ := id hg
  refine lv_iconst (v := nI 0) hx hb dX1_nextNode_0 (by decide) ?_
  refine lv_istore_n (lv' := [(1, .int (nI 0)), (0, .ref (a 8))]) hx hb dX1_nextNode_1 rfl hl (by decide) rfl (fun ls hl => ?_)
  have key2 : ∀ (f2 i : Nat), n + 1 ≤ i + f2 → i ≤ n → (∀ j, j < i → nxP m fr to th io j = false) → ∀ (ls : Array Slot), lv_has ls 2 [(0, .ref (a 8)), (1, .int (nI i))] → W p l e (headSpec wsX1_nextNode { frames := 1, cells := 0, slots := 0, locals := 22 }).room s mt ([.ref (a 8)] : List Value).toArray below meth c s.heap [] 0 0 Q (F0 mt 2 ls []) := by
    intro f2
    induction f2 with
    | zero => intro i h1 h2; exact absurd h1 (by omega)
    | succ f2 ih2 =>
      intro i hf2 hi2  hv2 ls hl
      refine lv_iload_n hx hb dX1_nextNode_2 rfl (lv_at hl 1 rfl) ?_
      refine lv_aload_n hx hb dX1_nextNode_3 rfl (lv_at hl 0 rfl) ?_
      refine va_get (D := D) (ci := 1) (v := .ref (a 1)) (C := RX1) (T := TX1) (N := 8) hx hb hts i1 hown hK hP 8 rfl rfl 0 (by decide) (hts (.fieldLink RX1 9 "SignedPaths$Ringless" "graph" "LSignedPaths$Graph;") (by decide +kernel)) (fun _ h9 => h9) rfl dX1_nextNode_4 ?_
      refine va_get (D := D) (ci := 0) (v := .int (nI n)) (C := RX0) (T := TX0) (N := 7) hx hb hts i0 hown hK hP 1 rfl rfl 0 (by decide) (hts (.fieldLink RX1 62 "SignedPaths$Graph" "nodes" "I") (by decide +kernel)) (fun _ h9 => h9) rfl dX1_nextNode_7 ?_
      refine rn_icmp_ge (tgt := 38) hx hb dX1_nextNode_10 (by decide) (by omega) (by omega) (fun c10 => ?_) (fun c10 => ?_)
      · refine lv_iconst (v := (-1)) hx hb dX1_nextNode_38 (by decide) ?_
        rw [hQ]
        exact W.iret (v := (-1)) hx hb hr (fun t ht hW => ⟨_, rfl, (by rw [nextO, fst_no (fun j hj => hv2 j (by omega))]; rfl), ht⟩) (fun q h => absurd h List.not_mem_nil) dX1_nextNode_39
      · refine lv_aload_n hx hb dX1_nextNode_13 rfl (lv_at hl 0 rfl) ?_
        refine va_get (D := D) (ci := 1) (v := .ref (a 10)) (C := RX1) (T := TX1) (N := 8) hx hb hts i1 hown hK hP 8 rfl rfl 2 (by decide) (hts (.fieldLink RX1 19 "SignedPaths$Ringless" "isOrdered" "[Z") (by decide +kernel)) (fun _ h9 => h9) rfl dX1_nextNode_14 ?_
        refine lv_iload_n hx hb dX1_nextNode_17 rfl (lv_at hl 1 rfl) ?_
        refine rn_zald (v := bI (io i)) hx hb hK hP 10 1 rfl rfl (by omega) (by decide) rfl dX1_nextNode_18 ?_
        refine rn_ifneb (tgt := 32) hx hb dX1_nextNode_19 (by decide) (fun c19 => ?_) (fun c19 => ?_)
        · refine lv_iinc (v := nI (i + 1)) (lv' := [(1, .int (nI (i + 1))), (0, .ref (a 8))]) hx hb dX1_nextNode_32 hl (k := 1) rfl (nI_1 i) (by decide) rfl (fun ls hl => ?_)
          refine lv_goto (tgt := 2) hx hb dX1_nextNode_35 (by decide) ?_
          exact ih2 (i + 1) (by omega) (by omega) (lt_s hv2 (by simp [nxP, c19])) ls (lv_sub hl [1, 0] rfl)
        · refine lv_aload_n hx hb dX1_nextNode_22 rfl (lv_at hl 0 rfl) ?_
          refine lv_iload_n hx hb dX1_nextNode_23 rfl (lv_at hl 1 rfl) ?_
          refine cl_Si (As := [.int (nI i)]) (rest := []) ⟨hx, hb, hml, hown, hts⟩ (c1_waits l ha i hg (by omega)) (cwV 1 hts gX1_nextNode_X1_waits rfl rfl rfl (by decide +kernel) ⟨Nat.le_of_ble_eq_true rfl, Nat.le_of_ble_eq_true rfl⟩) hK hP (ci := 1) (q0 := 8) rfl rfl rfl rfl hl.1 rfl (Nat.le_of_ble_eq_true rfl) dX1_nextNode_24 ⟨Nat.zero_le _, Nat.zero_le _⟩ (fun r24 h24 => ?_)
          subst h24
          refine rn_ifneb (tgt := 32) hx hb dX1_nextNode_27 (by decide) (fun c27 => ?_) (fun c27 => ?_)
          · refine lv_iinc (v := nI (i + 1)) (lv' := [(1, .int (nI (i + 1))), (0, .ref (a 8))]) hx hb dX1_nextNode_32 hl (k := 1) rfl (nI_1 i) (by decide) rfl (fun ls hl => ?_)
            refine lv_goto (tgt := 2) hx hb dX1_nextNode_35 (by decide) ?_
            exact ih2 (i + 1) (by omega) (by omega) (lt_s hv2 (by simp [nxP, c27])) ls (lv_sub hl [1, 0] rfl)
          · refine lv_iload_n hx hb dX1_nextNode_30 rfl (lv_at hl 1 rfl) ?_
            rw [hQ]
            exact W.iret (v := nI i) hx hb hr (fun t ht hW => ⟨_, rfl, (by rw [nextO, fst_yes hv2 (by simp [nxP, c19, c27]) c10]; rfl), ht⟩) (fun q h => absurd h List.not_mem_nil) dX1_nextNode_31
  exact key2 (n + 1) 0 (by omega) (by omega) (fun j h => absurd h (Nat.not_lt_zero j)) ls (lv_sub hl [1, 0] rfl)
set_option maxHeartbeats 4000000 in
set_option maxRecDepth 100000 in
theorem c1_findOrder (l : Launch) {D : va_G} {k : Nat → ClassId} {a : Nat → Nat} {n : Nat} {m : Nat} {ch : Int32} {fr : Nat → Nat} {to : Nat → Nat} {w : Nat → Int32} {th : Nat → Bool} {L : Nat → Nat → Int32} {la : Nat} {sw : Int32} {od : Nat → Nat} {io : Nat → Bool} {oc : Nat} {fa : Nat → Int32} {on : Nat → Nat → Int32} {gr : Int32} {sr : Int32} (ha : inj 46 a)  (hg : gOK n m fr to) : Met l yX1_findOrder wsX1_findOrder ({ frames := 2, cells := 0, slots := 0, locals := 43 }) (gPc D k (cW k a n m ch fr to w th L la sw od io oc fa on gr sr) [.ref (a 8)]) (va_Qv (S := Unit) (fun _ => True) (fun _ t => va_P D vwCl (cW k a n m ch fr to w th L la sw ((ordR n m fr to th od io).1) ((ordR n m fr to th od io).2.1) ((ordR n m fr to th od io).2.2) fa on gr sr) t.heap) (cA a)) 0 0 (cA a) := by
  refine Met.ofW (cc := cX1_findOrder) (maxL := 3) (ret := none) (by decide) rfl ?_
  intro p e s mt args below meth c s₁ B hml hv
  obtain ⟨rfl, hP, hK⟩ := hv
  have hx := B.exec
  have hb := B.bytes
  have hr := B.returns
  have hts := atoms_spec (ws := wsX1_findOrder) B.pre
  have hown : s.vm.findClass RX1 = some mt.cls := findClass_of_methodNamed B.named
  have hlocks := B.notSynchronized
  have i0 : ∀ w ∈ wsX00, w ∈ wsX1_findOrder := by decide +kernel
  have i1 : ∀ w ∈ wsX10, w ∈ wsX1_findOrder := by decide +kernel
  have hS : va_S (cA a) s.heap s.heap [] := va_S.rf
  have hD : va_D (cA a) (cW k a n m ch fr to w th L la sw od io oc fa on gr sr) := cW_D ha
  have hl := lv_entry ([.ref (a 8)]) (n := 3) (Nat.le_of_ble_eq_true rfl)
  rw [lg_entry_eq]
  generalize (lg_sl ([.ref (a 8)]) ++ List.replicate (3 - (lg_sl ([.ref (a 8)])).length) Slot.unset).toArray = ls at hl ⊢
  have hl : lv_has ls 3 [(0, .ref (a 8))] := hl
  obtain ⟨Q, hQ⟩ : ∃ Q, Q = MQ below (va_Qv (S := Unit) (fun _ => True) (fun _ t => va_P D vwCl (cW k a n m ch fr to w th L la sw ((ordR n m fr to th od io).1) ((ordR n m fr to th od io).2.1) ((ordR n m fr to th od io).2.2) fa on gr sr) t.heap) (cA a)) ([.ref (a 8)] : List Value).toArray s 0 0 (cA a) := ⟨_, rfl⟩
  rw [← hQ]
  obtain ⟨hn12, hm40, hft⟩ := id hg
  refine lv_aload_n hx hb dX1_findOrder_0 rfl (lv_at hl 0 rfl) ?_
  refine lv_iconst (v := nI 0) hx hb dX1_findOrder_1 (by decide) ?_
  refine rn_put (ty := .int) (ws' := cW k a n m ch fr to w th L la sw od io 0 fa on gr sr) hx hb hts i1 tyX1 tyX1_ok nmX1 hown hK hP hD hS 8 rfl rfl 3 (by decide) (hts (.fieldLink RX1 23 "SignedPaths$Ringless" "orderedCount" "I") (by decide +kernel)) (fun _ h9 => h9) rfl (by decide +kernel) rfl rfl (Nat.le_of_ble_eq_true rfl) rfl dX1_findOrder_2 (fun H locs hP hD hS => ?_)
  refine lv_iconst (v := nI 0) hx hb dX1_findOrder_5 (by decide) ?_
  refine lv_istore_n (lv' := [(1, .int (nI 0)), (0, .ref (a 8))]) hx hb dX1_findOrder_6 rfl hl (by decide) rfl (fun ls hl => ?_)
  have key7 : ∀ (f7 i : Nat), n + 1 ≤ i + f7 → i ≤ n → ∀ (H : Heap) (locs : List Loc), va_P D vwCl (cW k a n m ch fr to w th L la sw od (fl clS i io) 0 fa on gr sr) H → va_S (cA a) s.heap H locs → ∀ (ls : Array Slot), lv_has ls 3 [(0, .ref (a 8)), (1, .int (nI i))] → W p l e (headSpec wsX1_findOrder { frames := 2, cells := 0, slots := 0, locals := 43 }).room s mt ([.ref (a 8)] : List Value).toArray below meth c H locs 0 0 Q (F0 mt 7 ls []) := by
    intro f7
    induction f7 with
    | zero => intro i h1 h2; exact absurd h1 (by omega)
    | succ f7 ih7 =>
      intro i hf7 hi7   H locs hP hS ls hl
      have hD : va_D (cA a) (cW k a n m ch fr to w th L la sw od (fl clS i io) 0 fa on gr sr) := cW_D ha
      refine lv_iload_n hx hb dX1_findOrder_7 rfl (lv_at hl 1 rfl) ?_
      refine lv_aload_n hx hb dX1_findOrder_8 rfl (lv_at hl 0 rfl) ?_
      refine va_get (D := D) (ci := 1) (v := .ref (a 1)) (C := RX1) (T := TX1) (N := 8) hx hb hts i1 hown hK hP 8 rfl rfl 0 (by decide) (hts (.fieldLink RX1 9 "SignedPaths$Ringless" "graph" "LSignedPaths$Graph;") (by decide +kernel)) (fun _ h9 => h9) rfl dX1_findOrder_9 ?_
      refine va_get (D := D) (ci := 0) (v := .int (nI n)) (C := RX0) (T := TX0) (N := 7) hx hb hts i0 hown hK hP 1 rfl rfl 0 (by decide) (hts (.fieldLink RX1 62 "SignedPaths$Graph" "nodes" "I") (by decide +kernel)) (fun _ h9 => h9) rfl dX1_findOrder_12 ?_
      refine rn_icmp_ge (tgt := 31) hx hb dX1_findOrder_15 (by decide) (by omega) (by omega) (fun c15 => ?_) (fun c15 => ?_)
      · refine lv_iconst (v := nI 0) hx hb dX1_findOrder_31 (by decide) ?_
        refine lv_istore_n (lv' := [(1, .int (nI 0)), (0, .ref (a 8))]) hx hb dX1_findOrder_32 rfl hl (by decide) rfl (fun ls hl => ?_)
        have key33 : ∀ (f33 i : Nat), n + 1 ≤ i + f33 → i ≤ n → ∀ (od1 : Nat → Nat), ∀ (io1 : Nat → Bool), (ordF n m fr to th (n - i) i od1 io1 = ordR n m fr to th od io) → ∀ (H : Heap) (locs : List Loc), va_P D vwCl (cW k a n m ch fr to w th L la sw od1 io1 i fa on gr sr) H → va_S (cA a) s.heap H locs → ∀ (ls : Array Slot), lv_has ls 3 [(0, .ref (a 8)), (1, .int (nI i))] → W p l e (headSpec wsX1_findOrder { frames := 2, cells := 0, slots := 0, locals := 43 }).room s mt ([.ref (a 8)] : List Value).toArray below meth c H locs 0 0 Q (F0 mt 33 ls []) := by
          intro f33
          induction f33 with
          | zero => intro i h1 h2; exact absurd h1 (by omega)
          | succ f33 ih33 =>
            intro i hf33 hi33 od1 io1 hv33 H locs hP hS ls hl
            have hD : va_D (cA a) (cW k a n m ch fr to w th L la sw od1 io1 i fa on gr sr) := cW_D ha
            refine lv_iload_n hx hb dX1_findOrder_33 rfl (lv_at hl 1 rfl) ?_
            refine lv_aload_n hx hb dX1_findOrder_34 rfl (lv_at hl 0 rfl) ?_
            refine va_get (D := D) (ci := 1) (v := .ref (a 1)) (C := RX1) (T := TX1) (N := 8) hx hb hts i1 hown hK hP 8 rfl rfl 0 (by decide) (hts (.fieldLink RX1 9 "SignedPaths$Ringless" "graph" "LSignedPaths$Graph;") (by decide +kernel)) (fun _ h9 => h9) rfl dX1_findOrder_35 ?_
            refine va_get (D := D) (ci := 0) (v := .int (nI n)) (C := RX0) (T := TX0) (N := 7) hx hb hts i0 hown hK hP 1 rfl rfl 0 (by decide) (hts (.fieldLink RX1 62 "SignedPaths$Graph" "nodes" "I") (by decide +kernel)) (fun _ h9 => h9) rfl dX1_findOrder_38 ?_
            refine rn_icmp_ge (tgt := 82) hx hb dX1_findOrder_41 (by decide) (by omega) (by omega) (fun c41 => ?_) (fun c41 => ?_)
            · rw [hQ]
              exact W.vret hx hb hr (fun t ht hW => ⟨⟨(), rfl, trivial, by show va_P D vwCl (cW k a n m ch fr to w th L la sw ((ordR n m fr to th od io).1) ((ordR n m fr to th od io).2.1) ((ordR n m fr to th od io).2.2) fa on gr sr) t.heap; rw [ht]; have e : i = n := (by omega); rw [← hv33, show n - i = 0 by omega]; exact hP⟩, hS.F ht⟩) hS.2.2 dX1_findOrder_82
            · refine lv_aload_n hx hb dX1_findOrder_44 rfl (lv_at hl 0 rfl) ?_
              refine cl_Si (As := []) (rest := []) ⟨hx, hb, hml, hown, hts⟩ (c1_nextNode l ha  hg) (cwV 0 hts gX1_findOrder_X1_nextNode rfl rfl rfl (by decide +kernel) ⟨Nat.le_of_ble_eq_true rfl, Nat.le_of_ble_eq_true rfl⟩) hK hP (ci := 1) (q0 := 8) rfl rfl rfl rfl hl.1 rfl (Nat.le_of_ble_eq_true rfl) dX1_findOrder_45 ⟨Nat.zero_le _, Nat.zero_le _⟩ (fun r45 h45 => ?_)
              rcases oI_cases h45 with ⟨g45, rfl⟩ | ⟨j45, g45, rfl⟩
              · refine lv_istore_n (lv' := [(2, .int (-1)), (0, .ref (a 8)), (1, .int (nI i))]) hx hb dX1_findOrder_48 rfl hl (by decide) rfl (fun ls hl => ?_)
                refine lv_iload_n hx hb dX1_findOrder_49 rfl (lv_at hl 0 rfl) ?_
                refine lv_iconst (v := (-1)) hx hb dX1_findOrder_50 (by decide) ?_
                refine lv_icmp_ne (tgt := 55) hx hb dX1_findOrder_51 (by decide) (fun c51 => absurd rfl c51) (fun c51 => ?_)
                rw [hQ]
                exact W.vret hx hb hr (fun t ht hW => ⟨⟨(), rfl, trivial, by show va_P D vwCl (cW k a n m ch fr to w th L la sw ((ordR n m fr to th od io).1) ((ordR n m fr to th od io).2.1) ((ordR n m fr to th od io).2.2) fa on gr sr) t.heap; rw [ht]; rw [← hv33, ordF_none g45]; exact hP⟩, hS.F ht⟩) hS.2.2 dX1_findOrder_54
              · obtain ⟨hj1, -, -⟩ := fst_inv g45
                refine lv_istore_n (lv' := [(2, .int (nI j45)), (0, .ref (a 8)), (1, .int (nI i))]) hx hb dX1_findOrder_48 rfl hl (by decide) rfl (fun ls hl => ?_)
                refine lv_iload_n hx hb dX1_findOrder_49 rfl (lv_at hl 0 rfl) ?_
                refine lv_iconst (v := (-1)) hx hb dX1_findOrder_50 (by decide) ?_
                refine lv_icmp_ne (tgt := 55) hx hb dX1_findOrder_51 (by decide) (fun c51 => ?_) (fun c51 => absurd c51 (nI_m1 (by omega)))
                refine lv_aload_n hx hb dX1_findOrder_55 rfl (lv_at hl 1 rfl) ?_
                refine va_get (D := D) (ci := 1) (v := .ref (a 9)) (C := RX1) (T := TX1) (N := 8) hx hb hts i1 hown hK hP 8 rfl rfl 1 (by decide) (hts (.fieldLink RX1 15 "SignedPaths$Ringless" "ordered" "[I") (by decide +kernel)) (fun _ h9 => h9) rfl dX1_findOrder_56 ?_
                refine lv_iload_n hx hb dX1_findOrder_59 rfl (lv_at hl 2 rfl) ?_
                refine lv_iload_n hx hb dX1_findOrder_60 rfl (lv_at hl 0 rfl) ?_
                refine rn_iast (ws' := cW k a n m ch fr to w th L la sw (va_up od1 i j45) io1 i fa on gr sr) hx hb hK hP hD hS 9 0 rfl rfl (by omega) (by decide) (by rw [up_nI]; rfl) dX1_findOrder_61 (fun H locs hP hD hS => ?_)
                refine lv_aload_n hx hb dX1_findOrder_62 rfl (lv_at hl 1 rfl) ?_
                refine va_get (D := D) (ci := 1) (v := .ref (a 10)) (C := RX1) (T := TX1) (N := 8) hx hb hts i1 hown hK hP 8 rfl rfl 2 (by decide) (hts (.fieldLink RX1 19 "SignedPaths$Ringless" "isOrdered" "[Z") (by decide +kernel)) (fun _ h9 => h9) rfl dX1_findOrder_63 ?_
                refine lv_iload_n hx hb dX1_findOrder_66 rfl (lv_at hl 0 rfl) ?_
                refine lv_iconst (v := bI true) hx hb dX1_findOrder_67 (by decide) ?_
                refine rn_zast (ws' := cW k a n m ch fr to w th L la sw (va_up od1 i j45) (va_up io1 j45 true) i fa on gr sr) hx hb hK hP hD hS 10 1 rfl rfl (by omega) (by decide) (by rw [up_bI]; rfl) dX1_findOrder_68 (fun H locs hP hD hS => ?_)
                refine lv_aload_n hx hb dX1_findOrder_69 rfl (lv_at hl 1 rfl) ?_
                refine lv_iload_n hx hb dX1_findOrder_70 rfl (lv_at hl 2 rfl) ?_
                refine lv_iconst (v := nI 1) hx hb dX1_findOrder_71 (by decide) ?_
                refine rn_iadd hx hb  dX1_findOrder_72 ?_
                refine rn_put (ty := .int) (ws' := cW k a n m ch fr to w th L la sw (va_up od1 i j45) (va_up io1 j45 true) (i + 1) fa on gr sr) hx hb hts i1 tyX1 tyX1_ok nmX1 hown hK hP hD hS 8 rfl rfl 3 (by decide) (hts (.fieldLink RX1 23 "SignedPaths$Ringless" "orderedCount" "I") (by decide +kernel)) (fun _ h9 => h9) rfl (by decide +kernel) rfl rfl (Nat.le_of_ble_eq_true rfl) rfl dX1_findOrder_73 (fun H locs hP hD hS => ?_)
                refine lv_iinc (v := nI (i + 1)) (lv' := [(1, .int (nI (i + 1))), (2, .int (nI j45)), (0, .ref (a 8))]) hx hb dX1_findOrder_76 hl (k := 2) rfl (nI_1 i) (by decide) rfl (fun ls hl => ?_)
                refine lv_goto (tgt := 33) hx hb dX1_findOrder_79 (by decide) ?_
                exact ih33 (i + 1) (by omega) (by omega) (va_up od1 i j45) (va_up io1 j45 true) (by rw [← hv33, show n - i = (n - (i + 1)) + 1 by omega, ordF_some g45]) _ _ (hP) hS ls (lv_sub hl [2, 0] rfl)
        exact key33 (n + 1) 0 (by omega) (by omega) od (fl clS n io) rfl _ _ (by have e : i = n := (by omega); rw [e] at hP; exact hP) hS ls (lv_sub hl [1, 0] rfl)
      · refine lv_aload_n hx hb dX1_findOrder_18 rfl (lv_at hl 0 rfl) ?_
        refine va_get (D := D) (ci := 1) (v := .ref (a 10)) (C := RX1) (T := TX1) (N := 8) hx hb hts i1 hown hK hP 8 rfl rfl 2 (by decide) (hts (.fieldLink RX1 19 "SignedPaths$Ringless" "isOrdered" "[Z") (by decide +kernel)) (fun _ h9 => h9) rfl dX1_findOrder_19 ?_
        refine lv_iload_n hx hb dX1_findOrder_22 rfl (lv_at hl 1 rfl) ?_
        refine lv_iconst (v := bI false) hx hb dX1_findOrder_23 (by decide) ?_
        refine rn_zast (ws' := cW k a n m ch fr to w th L la sw od (va_up (fl clS i io) i false) 0 fa on gr sr) hx hb hK hP hD hS 10 1 rfl rfl (by omega) (by decide) (by rw [up_bI]; rfl) dX1_findOrder_24 (fun H locs hP hD hS => ?_)
        refine lv_iinc (v := nI (i + 1)) (lv' := [(1, .int (nI (i + 1))), (0, .ref (a 8))]) hx hb dX1_findOrder_25 hl (k := 1) rfl (nI_1 i) (by decide) rfl (fun ls hl => ?_)
        refine lv_goto (tgt := 7) hx hb dX1_findOrder_28 (by decide) ?_
        exact ih7 (i + 1) (by omega) (by omega)  _ _ (hP) hS ls (lv_sub hl [1, 0] rfl)
  exact key7 (n + 1) 0 (by omega) (by omega)  _ _ (hP) hS ls (lv_sub hl [1, 0] rfl)
set_option maxHeartbeats 4000000 in
set_option maxRecDepth 100000 in
theorem c1_handOnFrom (l : Launch) {D : va_G} {k : Nat → ClassId} {a : Nat → Nat} {n : Nat} {m : Nat} {ch : Int32} {fr : Nat → Nat} {to : Nat → Nat} {w : Nat → Int32} {th : Nat → Bool} {L : Nat → Nat → Int32} {la : Nat} {sw : Int32} {od : Nat → Nat} {io : Nat → Bool} {oc : Nat} {fa : Nat → Int32} {on : Nat → Nat → Int32} {gr : Int32} {sr : Int32} (ha : inj 46 a) (x : Nat) (hg : gOK n m fr to) (hx1 : x < 12) : Met l yX1_handOnFrom wsX1_handOnFrom ({ frames := 1, cells := 0, slots := 0, locals := 15 }) (gPc D k (cW k a n m ch fr to w th L la sw od io oc fa on gr sr) [.ref (a 8), .int (nI x)]) (va_Qv (S := Unit) (fun _ => True) (fun _ t => va_P D vwCl (cW k a n m ch fr to w th L la sw od io oc (hoF m fr to w th x fa) on gr sr) t.heap) (cA a)) 0 0 (cA a) := by
  refine Met.ofW (cc := cX1_handOnFrom) (maxL := 4) (ret := none) (by decide) rfl ?_
  intro p e s mt args below meth c s₁ B hml hv
  obtain ⟨rfl, hP, hK⟩ := hv
  have hx := B.exec
  have hb := B.bytes
  have hr := B.returns
  have hts := atoms_spec (ws := wsX1_handOnFrom) B.pre
  have hown : s.vm.findClass RX1 = some mt.cls := findClass_of_methodNamed B.named
  have hlocks := B.notSynchronized
  have i0 : ∀ w ∈ wsX00, w ∈ wsX1_handOnFrom := by decide +kernel
  have i1 : ∀ w ∈ wsX10, w ∈ wsX1_handOnFrom := by decide +kernel
  have hS : va_S (cA a) s.heap s.heap [] := va_S.rf
  have hD : va_D (cA a) (cW k a n m ch fr to w th L la sw od io oc fa on gr sr) := cW_D ha
  have hl := lv_entry ([.ref (a 8), .int (nI x)]) (n := 4) (Nat.le_of_ble_eq_true rfl)
  rw [lg_entry_eq]
  generalize (lg_sl ([.ref (a 8), .int (nI x)]) ++ List.replicate (4 - (lg_sl ([.ref (a 8), .int (nI x)])).length) Slot.unset).toArray = ls at hl ⊢
  have hl : lv_has ls 4 [(0, .ref (a 8)), (1, .int (nI x))] := hl
  obtain ⟨Q, hQ⟩ : ∃ Q, Q = MQ below (va_Qv (S := Unit) (fun _ => True) (fun _ t => va_P D vwCl (cW k a n m ch fr to w th L la sw od io oc (hoF m fr to w th x fa) on gr sr) t.heap) (cA a)) ([.ref (a 8), .int (nI x)] : List Value).toArray s 0 0 (cA a) := ⟨_, rfl⟩
  rw [← hQ]
  obtain ⟨hn12, hm40, hft⟩ := id hg
  refine lv_iconst (v := nI 0) hx hb dX1_handOnFrom_0 (by decide) ?_
  refine lv_istore_n (lv' := [(2, .int (nI 0)), (0, .ref (a 8)), (1, .int (nI x))]) hx hb dX1_handOnFrom_1 rfl hl (by decide) rfl (fun ls hl => ?_)
  have key2 : ∀ (f2 i : Nat), m + 1 ≤ i + f2 → i ≤ m → ∀ (H : Heap) (locs : List Loc), va_P D vwCl (cW k a n m ch fr to w th L la sw od io oc (fl (hoS fr to w th x) i fa) on gr sr) H → va_S (cA a) s.heap H locs → ∀ (ls : Array Slot), lv_has ls 4 [(0, .ref (a 8)), (1, .int (nI x)), (2, .int (nI i))] → W p l e (headSpec wsX1_handOnFrom { frames := 1, cells := 0, slots := 0, locals := 15 }).room s mt ([.ref (a 8), .int (nI x)] : List Value).toArray below meth c H locs 0 0 Q (F0 mt 2 ls []) := by
    intro f2
    induction f2 with
    | zero => intro i h1 h2; exact absurd h1 (by omega)
    | succ f2 ih2 =>
      intro i hf2 hi2   H locs hP hS ls hl
      have hD : va_D (cA a) (cW k a n m ch fr to w th L la sw od io oc (fl (hoS fr to w th x) i fa) on gr sr) := cW_D ha
      refine lv_iload_n hx hb dX1_handOnFrom_2 rfl (lv_at hl 2 rfl) ?_
      refine lv_aload_n hx hb dX1_handOnFrom_3 rfl (lv_at hl 0 rfl) ?_
      refine va_get (D := D) (ci := 1) (v := .ref (a 1)) (C := RX1) (T := TX1) (N := 8) hx hb hts i1 hown hK hP 8 rfl rfl 0 (by decide) (hts (.fieldLink RX1 9 "SignedPaths$Ringless" "graph" "LSignedPaths$Graph;") (by decide +kernel)) (fun _ h9 => h9) rfl dX1_handOnFrom_4 ?_
      refine va_get (D := D) (ci := 0) (v := .int (nI m)) (C := RX0) (T := TX0) (N := 7) hx hb hts i0 hown hK hP 1 rfl rfl 1 (by decide) (hts (.fieldLink RX1 73 "SignedPaths$Graph" "arcs" "I") (by decide +kernel)) (fun _ h9 => h9) rfl dX1_handOnFrom_7 ?_
      refine rn_icmp_ge (tgt := 85) hx hb dX1_handOnFrom_10 (by decide) (by omega) (by omega) (fun c10 => ?_) (fun c10 => ?_)
      · rw [hQ]
        exact W.vret hx hb hr (fun t ht hW => ⟨⟨(), rfl, trivial, by show va_P D vwCl (cW k a n m ch fr to w th L la sw od io oc (hoF m fr to w th x fa) on gr sr) t.heap; rw [ht]; have e : i = m := (by omega); rw [e] at hP; exact hP⟩, hS.F ht⟩) hS.2.2 dX1_handOnFrom_85
      · have hi2 := hft i c10
        refine lv_aload_n hx hb dX1_handOnFrom_13 rfl (lv_at hl 0 rfl) ?_
        refine va_get (D := D) (ci := 1) (v := .ref (a 1)) (C := RX1) (T := TX1) (N := 8) hx hb hts i1 hown hK hP 8 rfl rfl 0 (by decide) (hts (.fieldLink RX1 9 "SignedPaths$Ringless" "graph" "LSignedPaths$Graph;") (by decide +kernel)) (fun _ h9 => h9) rfl dX1_handOnFrom_14 ?_
        refine va_get (D := D) (ci := 0) (v := .ref (a 5)) (C := RX0) (T := TX0) (N := 7) hx hb hts i0 hown hK hP 1 rfl rfl 6 (by decide) (hts (.fieldLink RX1 76 "SignedPaths$Graph" "there" "[Z") (by decide +kernel)) (fun _ h9 => h9) rfl dX1_handOnFrom_17 ?_
        refine lv_iload_n hx hb dX1_handOnFrom_20 rfl (lv_at hl 2 rfl) ?_
        refine rn_zald (v := bI (th i)) hx hb hK hP 5 1 rfl rfl (by omega) (by decide) rfl dX1_handOnFrom_21 ?_
        refine rn_ifeqb (tgt := 79) hx hb dX1_handOnFrom_22 (by decide) (fun c22 => ?_) (fun c22 => ?_)
        · refine lv_iinc (v := nI (i + 1)) (lv' := [(2, .int (nI (i + 1))), (0, .ref (a 8)), (1, .int (nI x))]) hx hb dX1_handOnFrom_79 hl (k := 2) rfl (nI_1 i) (by decide) rfl (fun ls hl => ?_)
          refine lv_goto (tgt := 2) hx hb dX1_handOnFrom_82 (by decide) ?_
          exact ih2 (i + 1) (by omega) (by omega)  _ _ (by rw [fl_s, hoS, if_neg (by simp [c22])]; exact hP) hS ls (lv_sub hl [1, 2, 0] rfl)
        · refine lv_aload_n hx hb dX1_handOnFrom_25 rfl (lv_at hl 0 rfl) ?_
          refine va_get (D := D) (ci := 1) (v := .ref (a 1)) (C := RX1) (T := TX1) (N := 8) hx hb hts i1 hown hK hP 8 rfl rfl 0 (by decide) (hts (.fieldLink RX1 9 "SignedPaths$Ringless" "graph" "LSignedPaths$Graph;") (by decide +kernel)) (fun _ h9 => h9) rfl dX1_handOnFrom_26 ?_
          refine va_get (D := D) (ci := 0) (v := .ref (a 2)) (C := RX0) (T := TX0) (N := 7) hx hb hts i0 hown hK hP 1 rfl rfl 3 (by decide) (hts (.fieldLink RX1 82 "SignedPaths$Graph" "from" "[I") (by decide +kernel)) (fun _ h9 => h9) rfl dX1_handOnFrom_29 ?_
          refine lv_iload_n hx hb dX1_handOnFrom_32 rfl (lv_at hl 2 rfl) ?_
          refine rn_iald (v := nI (fr i)) hx hb hK hP 2 0 rfl rfl (by omega) (by decide) rfl dX1_handOnFrom_33 ?_
          refine lv_iload_n hx hb dX1_handOnFrom_34 rfl (lv_at hl 1 rfl) ?_
          refine rn_icmp_ne (tgt := 79) hx hb dX1_handOnFrom_35 (by decide) (by omega) (by omega) (fun c35 => ?_) (fun c35 => ?_)
          · refine lv_iinc (v := nI (i + 1)) (lv' := [(2, .int (nI (i + 1))), (0, .ref (a 8)), (1, .int (nI x))]) hx hb dX1_handOnFrom_79 hl (k := 2) rfl (nI_1 i) (by decide) rfl (fun ls hl => ?_)
            refine lv_goto (tgt := 2) hx hb dX1_handOnFrom_82 (by decide) ?_
            exact ih2 (i + 1) (by omega) (by omega)  _ _ (by rw [fl_s, hoS, if_pos c22, if_neg c35]; exact hP) hS ls (lv_sub hl [1, 2, 0] rfl)
          · refine lv_aload_n hx hb dX1_handOnFrom_38 rfl (lv_at hl 0 rfl) ?_
            refine va_get (D := D) (ci := 1) (v := .ref (a 1)) (C := RX1) (T := TX1) (N := 8) hx hb hts i1 hown hK hP 8 rfl rfl 0 (by decide) (hts (.fieldLink RX1 9 "SignedPaths$Ringless" "graph" "LSignedPaths$Graph;") (by decide +kernel)) (fun _ h9 => h9) rfl dX1_handOnFrom_39 ?_
            refine va_get (D := D) (ci := 0) (v := .ref (a 3)) (C := RX0) (T := TX0) (N := 7) hx hb hts i0 hown hK hP 1 rfl rfl 4 (by decide) (hts (.fieldLink RX1 79 "SignedPaths$Graph" "to" "[I") (by decide +kernel)) (fun _ h9 => h9) rfl dX1_handOnFrom_42 ?_
            refine lv_iload_n hx hb dX1_handOnFrom_45 rfl (lv_at hl 2 rfl) ?_
            refine rn_iald (v := nI (to i)) hx hb hK hP 3 0 rfl rfl (by omega) (by decide) rfl dX1_handOnFrom_46 ?_
            refine lv_istore_n (lv' := [(3, .int (nI (to i))), (0, .ref (a 8)), (1, .int (nI x)), (2, .int (nI i))]) hx hb dX1_handOnFrom_47 rfl hl (by decide) rfl (fun ls hl => ?_)
            refine lv_aload_n hx hb dX1_handOnFrom_48 rfl (lv_at hl 1 rfl) ?_
            refine va_get (D := D) (ci := 1) (v := .ref (a 11)) (C := RX1) (T := TX1) (N := 8) hx hb hts i1 hown hK hP 8 rfl rfl 4 (by decide) (hts (.fieldLink RX1 27 "SignedPaths$Ringless" "farthest" "[I") (by decide +kernel)) (fun _ h9 => h9) rfl dX1_handOnFrom_49 ?_
            refine lv_iload_n hx hb dX1_handOnFrom_52 rfl (lv_at hl 0 rfl) ?_
            refine lv_aload_n hx hb dX1_handOnFrom_53 rfl (lv_at hl 1 rfl) ?_
            refine va_get (D := D) (ci := 1) (v := .ref (a 11)) (C := RX1) (T := TX1) (N := 8) hx hb hts i1 hown hK hP 8 rfl rfl 4 (by decide) (hts (.fieldLink RX1 27 "SignedPaths$Ringless" "farthest" "[I") (by decide +kernel)) (fun _ h9 => h9) rfl dX1_handOnFrom_54 ?_
            refine lv_iload_n hx hb dX1_handOnFrom_57 rfl (lv_at hl 0 rfl) ?_
            refine rn_iald (v := (fl (hoS fr to w th x) i fa) (to i)) hx hb hK hP 11 0 rfl rfl (by omega) (by decide) rfl dX1_handOnFrom_58 ?_
            refine lv_aload_n hx hb dX1_handOnFrom_59 rfl (lv_at hl 1 rfl) ?_
            refine va_get (D := D) (ci := 1) (v := .ref (a 11)) (C := RX1) (T := TX1) (N := 8) hx hb hts i1 hown hK hP 8 rfl rfl 4 (by decide) (hts (.fieldLink RX1 27 "SignedPaths$Ringless" "farthest" "[I") (by decide +kernel)) (fun _ h9 => h9) rfl dX1_handOnFrom_60 ?_
            refine lv_iload_n hx hb dX1_handOnFrom_63 rfl (lv_at hl 2 rfl) ?_
            refine rn_iald (v := (fl (hoS fr to w th x) i fa) x) hx hb hK hP 11 0 rfl rfl (by omega) (by decide) rfl dX1_handOnFrom_64 ?_
            refine lv_aload_n hx hb dX1_handOnFrom_65 rfl (lv_at hl 1 rfl) ?_
            refine va_get (D := D) (ci := 1) (v := .ref (a 1)) (C := RX1) (T := TX1) (N := 8) hx hb hts i1 hown hK hP 8 rfl rfl 0 (by decide) (hts (.fieldLink RX1 9 "SignedPaths$Ringless" "graph" "LSignedPaths$Graph;") (by decide +kernel)) (fun _ h9 => h9) rfl dX1_handOnFrom_66 ?_
            refine va_get (D := D) (ci := 0) (v := .ref (a 4)) (C := RX0) (T := TX0) (N := 7) hx hb hts i0 hown hK hP 1 rfl rfl 5 (by decide) (hts (.fieldLink RX1 89 "SignedPaths$Graph" "weight" "[I") (by decide +kernel)) (fun _ h9 => h9) rfl dX1_handOnFrom_69 ?_
            refine lv_iload_n hx hb dX1_handOnFrom_72 rfl (lv_at hl 3 rfl) ?_
            refine rn_iald (v := w i) hx hb hK hP 4 0 rfl rfl (by omega) (by decide) rfl dX1_handOnFrom_73 ?_
            refine lv_iadd hx hb dX1_handOnFrom_74 ?_
            refine va_mmax hx hb (by rw [hml]; exact hl.1.symm) hown (hts (.methodLink RX1 92 Lib.Math.max.name) (by decide +kernel)) (hts (.static Lib.Math.max.name) (by decide +kernel)) (hts (.initialized "java/lang/Math") (by decide +kernel)) (hts (.code Lib.Math.max.name Lib.Math.max.code 2 (some .int)) (by decide +kernel)) (Nat.le_of_ble_eq_true rfl) (Nat.le_of_ble_eq_true rfl) (Nat.zero_le _) (Nat.zero_le _) dX1_handOnFrom_75 ?_
            refine rn_iast (ws' := cW k a n m ch fr to w th L la sw od io oc (va_up (fl (hoS fr to w th x) i fa) (to i) (if (fl (hoS fr to w th x) i fa) (to i) < ((fl (hoS fr to w th x) i fa) x) + (w i) then ((fl (hoS fr to w th x) i fa) x) + (w i) else (fl (hoS fr to w th x) i fa) (to i))) on gr sr) hx hb hK hP hD hS 11 0 rfl rfl (by omega) (by decide) rfl dX1_handOnFrom_78 (fun H locs hP hD hS => ?_)
            refine lv_iinc (v := nI (i + 1)) (lv' := [(2, .int (nI (i + 1))), (3, .int (nI (to i))), (0, .ref (a 8)), (1, .int (nI x))]) hx hb dX1_handOnFrom_79 hl (k := 3) rfl (nI_1 i) (by decide) rfl (fun ls hl => ?_)
            refine lv_goto (tgt := 2) hx hb dX1_handOnFrom_82 (by decide) ?_
            exact ih2 (i + 1) (by omega) (by omega)  _ _ (by rw [fl_s, hoS, if_pos c22, if_pos c35]; exact hP) hS ls (lv_sub hl [2, 3, 0] rfl)
  exact key2 (m + 1) 0 (by omega) (by omega)  _ _ (hP) hS ls (lv_sub hl [1, 2, 0] rfl)
set_option maxHeartbeats 4000000 in
set_option maxRecDepth 100000 in
theorem c1_findFarthest (l : Launch) {D : va_G} {k : Nat → ClassId} {a : Nat → Nat} {n : Nat} {m : Nat} {ch : Int32} {fr : Nat → Nat} {to : Nat → Nat} {w : Nat → Int32} {th : Nat → Bool} {L : Nat → Nat → Int32} {la : Nat} {sw : Int32} {od : Nat → Nat} {io : Nat → Bool} {oc : Nat} {fa : Nat → Int32} {on : Nat → Nat → Int32} {gr : Int32} {sr : Int32} (ha : inj 46 a)  (hg : gOK n m fr to) (ho : oc ≤ 12 ∧ ∀ j, j < oc → od j < 12) : Met l yX1_findFarthest wsX1_findFarthest ({ frames := 2, cells := 0, slots := 0, locals := 38 }) (gPc D k (cW k a n m ch fr to w th L la sw od io oc fa on gr sr) [.ref (a 8)]) (va_Qv (S := Unit) (fun _ => True) (fun _ t => va_P D vwCl (cW k a n m ch fr to w th L la sw od io oc (faR n m fr to w th od oc fa) on gr sr) t.heap) (cA a)) 0 0 (cA a) := by
  refine Met.ofW (cc := cX1_findFarthest) (maxL := 2) (ret := none) (by decide) rfl ?_
  intro p e s mt args below meth c s₁ B hml hv
  obtain ⟨rfl, hP, hK⟩ := hv
  have hx := B.exec
  have hb := B.bytes
  have hr := B.returns
  have hts := atoms_spec (ws := wsX1_findFarthest) B.pre
  have hown : s.vm.findClass RX1 = some mt.cls := findClass_of_methodNamed B.named
  have hlocks := B.notSynchronized
  have i0 : ∀ w ∈ wsX00, w ∈ wsX1_findFarthest := by decide +kernel
  have i1 : ∀ w ∈ wsX10, w ∈ wsX1_findFarthest := by decide +kernel
  have hS : va_S (cA a) s.heap s.heap [] := va_S.rf
  have hD : va_D (cA a) (cW k a n m ch fr to w th L la sw od io oc fa on gr sr) := cW_D ha
  have hl := lv_entry ([.ref (a 8)]) (n := 2) (Nat.le_of_ble_eq_true rfl)
  rw [lg_entry_eq]
  generalize (lg_sl ([.ref (a 8)]) ++ List.replicate (2 - (lg_sl ([.ref (a 8)])).length) Slot.unset).toArray = ls at hl ⊢
  have hl : lv_has ls 2 [(0, .ref (a 8))] := hl
  obtain ⟨Q, hQ⟩ : ∃ Q, Q = MQ below (va_Qv (S := Unit) (fun _ => True) (fun _ t => va_P D vwCl (cW k a n m ch fr to w th L la sw od io oc (faR n m fr to w th od oc fa) on gr sr) t.heap) (cA a)) ([.ref (a 8)] : List Value).toArray s 0 0 (cA a) := ⟨_, rfl⟩
  rw [← hQ]
  obtain ⟨hn12, hm40, hft⟩ := id hg
  obtain ⟨hoc, hod⟩ := ho
  refine lv_iconst (v := nI 0) hx hb dX1_findFarthest_0 (by decide) ?_
  refine lv_istore_n (lv' := [(1, .int (nI 0)), (0, .ref (a 8))]) hx hb dX1_findFarthest_1 rfl hl (by decide) rfl (fun ls hl => ?_)
  have key2 : ∀ (f2 i : Nat), n + 1 ≤ i + f2 → i ≤ n → ∀ (H : Heap) (locs : List Loc), va_P D vwCl (cW k a n m ch fr to w th L la sw od io oc (fl zS i fa) on gr sr) H → va_S (cA a) s.heap H locs → ∀ (ls : Array Slot), lv_has ls 2 [(0, .ref (a 8)), (1, .int (nI i))] → W p l e (headSpec wsX1_findFarthest { frames := 2, cells := 0, slots := 0, locals := 38 }).room s mt ([.ref (a 8)] : List Value).toArray below meth c H locs 0 0 Q (F0 mt 2 ls []) := by
    intro f2
    induction f2 with
    | zero => intro i h1 h2; exact absurd h1 (by omega)
    | succ f2 ih2 =>
      intro i hf2 hi2   H locs hP hS ls hl
      have hD : va_D (cA a) (cW k a n m ch fr to w th L la sw od io oc (fl zS i fa) on gr sr) := cW_D ha
      refine lv_iload_n hx hb dX1_findFarthest_2 rfl (lv_at hl 1 rfl) ?_
      refine lv_aload_n hx hb dX1_findFarthest_3 rfl (lv_at hl 0 rfl) ?_
      refine va_get (D := D) (ci := 1) (v := .ref (a 1)) (C := RX1) (T := TX1) (N := 8) hx hb hts i1 hown hK hP 8 rfl rfl 0 (by decide) (hts (.fieldLink RX1 9 "SignedPaths$Ringless" "graph" "LSignedPaths$Graph;") (by decide +kernel)) (fun _ h9 => h9) rfl dX1_findFarthest_4 ?_
      refine va_get (D := D) (ci := 0) (v := .int (nI n)) (C := RX0) (T := TX0) (N := 7) hx hb hts i0 hown hK hP 1 rfl rfl 0 (by decide) (hts (.fieldLink RX1 62 "SignedPaths$Graph" "nodes" "I") (by decide +kernel)) (fun _ h9 => h9) rfl dX1_findFarthest_7 ?_
      refine rn_icmp_ge (tgt := 26) hx hb dX1_findFarthest_10 (by decide) (by omega) (by omega) (fun c10 => ?_) (fun c10 => ?_)
      · refine lv_iconst (v := nI 0) hx hb dX1_findFarthest_26 (by decide) ?_
        refine lv_istore_n (lv' := [(1, .int (nI 0)), (0, .ref (a 8))]) hx hb dX1_findFarthest_27 rfl hl (by decide) rfl (fun ls hl => ?_)
        have key28 : ∀ (f28 i : Nat), oc + 1 ≤ i + f28 → i ≤ oc → ∀ (H : Heap) (locs : List Loc), va_P D vwCl (cW k a n m ch fr to w th L la sw od io oc (fl (ffT m fr to w th od) i (fl zS n fa)) on gr sr) H → va_S (cA a) s.heap H locs → ∀ (ls : Array Slot), lv_has ls 2 [(0, .ref (a 8)), (1, .int (nI i))] → W p l e (headSpec wsX1_findFarthest { frames := 2, cells := 0, slots := 0, locals := 38 }).room s mt ([.ref (a 8)] : List Value).toArray below meth c H locs 0 0 Q (F0 mt 28 ls []) := by
          intro f28
          induction f28 with
          | zero => intro i h1 h2; exact absurd h1 (by omega)
          | succ f28 ih28 =>
            intro i hf28 hi28   H locs hP hS ls hl
            have hD : va_D (cA a) (cW k a n m ch fr to w th L la sw od io oc (fl (ffT m fr to w th od) i (fl zS n fa)) on gr sr) := cW_D ha
            refine lv_iload_n hx hb dX1_findFarthest_28 rfl (lv_at hl 1 rfl) ?_
            refine lv_aload_n hx hb dX1_findFarthest_29 rfl (lv_at hl 0 rfl) ?_
            refine va_get (D := D) (ci := 1) (v := .int (nI oc)) (C := RX1) (T := TX1) (N := 8) hx hb hts i1 hown hK hP 8 rfl rfl 3 (by decide) (hts (.fieldLink RX1 23 "SignedPaths$Ringless" "orderedCount" "I") (by decide +kernel)) (fun _ h9 => h9) rfl dX1_findFarthest_30 ?_
            refine rn_icmp_ge (tgt := 52) hx hb dX1_findFarthest_33 (by decide) (by omega) (by omega) (fun c33 => ?_) (fun c33 => ?_)
            · rw [hQ]
              exact W.vret hx hb hr (fun t ht hW => ⟨⟨(), rfl, trivial, by show va_P D vwCl (cW k a n m ch fr to w th L la sw od io oc (faR n m fr to w th od oc fa) on gr sr) t.heap; rw [ht]; have e : i = oc := (by omega); rw [e] at hP; exact hP⟩, hS.F ht⟩) hS.2.2 dX1_findFarthest_52
            · refine lv_aload_n hx hb dX1_findFarthest_36 rfl (lv_at hl 0 rfl) ?_
              refine lv_aload_n hx hb dX1_findFarthest_37 rfl (lv_at hl 0 rfl) ?_
              refine va_get (D := D) (ci := 1) (v := .ref (a 9)) (C := RX1) (T := TX1) (N := 8) hx hb hts i1 hown hK hP 8 rfl rfl 1 (by decide) (hts (.fieldLink RX1 15 "SignedPaths$Ringless" "ordered" "[I") (by decide +kernel)) (fun _ h9 => h9) rfl dX1_findFarthest_38 ?_
              refine lv_iload_n hx hb dX1_findFarthest_41 rfl (lv_at hl 1 rfl) ?_
              refine rn_iald (v := nI (od i)) hx hb hK hP 9 0 rfl rfl (by omega) (by decide) rfl dX1_findFarthest_42 ?_
              refine cl_Qv (As := [.int (nI (od i))]) (rest := []) ⟨hx, hb, hml, hown, hts⟩ (c1_handOnFrom l ha (od i) hg (hod i c33)) (cwV 1 hts gX1_findFarthest_X1_handOnFrom rfl rfl rfl (by decide +kernel) ⟨Nat.le_of_ble_eq_true rfl, Nat.le_of_ble_eq_true rfl⟩) hK hP hS (fun _ h => h) (ci := 1) (q0 := 8) rfl rfl rfl rfl hl.1 rfl (Nat.le_of_ble_eq_true rfl) dX1_findFarthest_43 ⟨Nat.zero_le _, Nat.zero_le _⟩ (fun H locs h43 hP _ _ hS => ?_)
              have hP : va_P D vwCl (cW k a n m ch fr to w th L la sw od io oc (hoF m fr to w th (od i) (fl (ffT m fr to w th od) i (fl zS n fa))) on gr sr) H := hP
              have hD : va_D (cA a) (cW k a n m ch fr to w th L la sw od io oc (hoF m fr to w th (od i) (fl (ffT m fr to w th od) i (fl zS n fa))) on gr sr) := cW_D ha
              refine lv_iinc (v := nI (i + 1)) (lv' := [(1, .int (nI (i + 1))), (0, .ref (a 8))]) hx hb dX1_findFarthest_46 hl (k := 1) rfl (nI_1 i) (by decide) rfl (fun ls hl => ?_)
              refine lv_goto (tgt := 28) hx hb dX1_findFarthest_49 (by decide) ?_
              exact ih28 (i + 1) (by omega) (by omega)  _ _ (hP) hS ls (lv_sub hl [1, 0] rfl)
        exact key28 (oc + 1) 0 (by omega) (by omega)  _ _ (by have e : i = n := (by omega); rw [e] at hP; exact hP) hS ls (lv_sub hl [1, 0] rfl)
      · refine lv_aload_n hx hb dX1_findFarthest_13 rfl (lv_at hl 0 rfl) ?_
        refine va_get (D := D) (ci := 1) (v := .ref (a 11)) (C := RX1) (T := TX1) (N := 8) hx hb hts i1 hown hK hP 8 rfl rfl 4 (by decide) (hts (.fieldLink RX1 27 "SignedPaths$Ringless" "farthest" "[I") (by decide +kernel)) (fun _ h9 => h9) rfl dX1_findFarthest_14 ?_
        refine lv_iload_n hx hb dX1_findFarthest_17 rfl (lv_at hl 1 rfl) ?_
        refine lv_iconst (v := 0) hx hb dX1_findFarthest_18 (by decide) ?_
        refine rn_iast (ws' := cW k a n m ch fr to w th L la sw od io oc (va_up (fl zS i fa) i 0) on gr sr) hx hb hK hP hD hS 11 0 rfl rfl (by omega) (by decide) rfl dX1_findFarthest_19 (fun H locs hP hD hS => ?_)
        refine lv_iinc (v := nI (i + 1)) (lv' := [(1, .int (nI (i + 1))), (0, .ref (a 8))]) hx hb dX1_findFarthest_20 hl (k := 1) rfl (nI_1 i) (by decide) rfl (fun ls hl => ?_)
        refine lv_goto (tgt := 2) hx hb dX1_findFarthest_23 (by decide) ?_
        exact ih2 (i + 1) (by omega) (by omega)  _ _ (hP) hS ls (lv_sub hl [1, 0] rfl)
  exact key2 (n + 1) 0 (by omega) (by omega)  _ _ (hP) hS ls (lv_sub hl [1, 0] rfl)
set_option maxHeartbeats 4000000 in
set_option maxRecDepth 100000 in
theorem c1_findGreatest (l : Launch) {D : va_G} {k : Nat → ClassId} {a : Nat → Nat} {n : Nat} {m : Nat} {ch : Int32} {fr : Nat → Nat} {to : Nat → Nat} {w : Nat → Int32} {th : Nat → Bool} {L : Nat → Nat → Int32} {la : Nat} {sw : Int32} {od : Nat → Nat} {io : Nat → Bool} {oc : Nat} {fa : Nat → Int32} {on : Nat → Nat → Int32} {gr : Int32} {sr : Int32} (ha : inj 46 a)  (hg : gOK n m fr to) : Met l yX1_findGreatest wsX1_findGreatest ({ frames := 1, cells := 0, slots := 0, locals := 14 }) (gPc D k (cW k a n m ch fr to w th L la sw od io oc fa on gr sr) [.ref (a 8)]) (va_Qv (S := Unit) (fun _ => True) (fun _ t => va_P D vwCl (cW k a n m ch fr to w th L la sw od io oc fa on (grR n fa) sr) t.heap) (cA a)) 0 0 (cA a) := by
  refine Met.ofW (cc := cX1_findGreatest) (maxL := 2) (ret := none) (by decide) rfl ?_
  intro p e s mt args below meth c s₁ B hml hv
  obtain ⟨rfl, hP, hK⟩ := hv
  have hx := B.exec
  have hb := B.bytes
  have hr := B.returns
  have hts := atoms_spec (ws := wsX1_findGreatest) B.pre
  have hown : s.vm.findClass RX1 = some mt.cls := findClass_of_methodNamed B.named
  have hlocks := B.notSynchronized
  have i0 : ∀ w ∈ wsX00, w ∈ wsX1_findGreatest := by decide +kernel
  have i1 : ∀ w ∈ wsX10, w ∈ wsX1_findGreatest := by decide +kernel
  have hS : va_S (cA a) s.heap s.heap [] := va_S.rf
  have hD : va_D (cA a) (cW k a n m ch fr to w th L la sw od io oc fa on gr sr) := cW_D ha
  have hl := lv_entry ([.ref (a 8)]) (n := 2) (Nat.le_of_ble_eq_true rfl)
  rw [lg_entry_eq]
  generalize (lg_sl ([.ref (a 8)]) ++ List.replicate (2 - (lg_sl ([.ref (a 8)])).length) Slot.unset).toArray = ls at hl ⊢
  have hl : lv_has ls 2 [(0, .ref (a 8))] := hl
  obtain ⟨Q, hQ⟩ : ∃ Q, Q = MQ below (va_Qv (S := Unit) (fun _ => True) (fun _ t => va_P D vwCl (cW k a n m ch fr to w th L la sw od io oc fa on (grR n fa) sr) t.heap) (cA a)) ([.ref (a 8)] : List Value).toArray s 0 0 (cA a) := ⟨_, rfl⟩
  rw [← hQ]
  obtain ⟨hn12, hm40, hft⟩ := id hg
  refine lv_aload_n hx hb dX1_findGreatest_0 rfl (lv_at hl 0 rfl) ?_
  refine lv_iconst (v := 0) hx hb dX1_findGreatest_1 (by decide) ?_
  refine rn_put (ty := .int) (ws' := cW k a n m ch fr to w th L la sw od io oc fa on 0 sr) hx hb hts i1 tyX1 tyX1_ok nmX1 hown hK hP hD hS 8 rfl rfl 6 (by decide) (hts (.fieldLink RX1 35 "SignedPaths$Ringless" "greatest" "I") (by decide +kernel)) (fun _ h9 => h9) rfl (by decide +kernel) rfl rfl (Nat.le_of_ble_eq_true rfl) rfl dX1_findGreatest_2 (fun H locs hP hD hS => ?_)
  refine lv_iconst (v := nI 0) hx hb dX1_findGreatest_5 (by decide) ?_
  refine lv_istore_n (lv' := [(1, .int (nI 0)), (0, .ref (a 8))]) hx hb dX1_findGreatest_6 rfl hl (by decide) rfl (fun ls hl => ?_)
  have key7 : ∀ (f7 i : Nat), n + 1 ≤ i + f7 → i ≤ n → ∀ (H : Heap) (locs : List Loc), va_P D vwCl (cW k a n m ch fr to w th L la sw od io oc fa on (fl (grS fa) i 0) sr) H → va_S (cA a) s.heap H locs → ∀ (ls : Array Slot), lv_has ls 2 [(0, .ref (a 8)), (1, .int (nI i))] → W p l e (headSpec wsX1_findGreatest { frames := 1, cells := 0, slots := 0, locals := 14 }).room s mt ([.ref (a 8)] : List Value).toArray below meth c H locs 0 0 Q (F0 mt 7 ls []) := by
    intro f7
    induction f7 with
    | zero => intro i h1 h2; exact absurd h1 (by omega)
    | succ f7 ih7 =>
      intro i hf7 hi7   H locs hP hS ls hl
      have hD : va_D (cA a) (cW k a n m ch fr to w th L la sw od io oc fa on (fl (grS fa) i 0) sr) := cW_D ha
      refine lv_iload_n hx hb dX1_findGreatest_7 rfl (lv_at hl 1 rfl) ?_
      refine lv_aload_n hx hb dX1_findGreatest_8 rfl (lv_at hl 0 rfl) ?_
      refine va_get (D := D) (ci := 1) (v := .ref (a 1)) (C := RX1) (T := TX1) (N := 8) hx hb hts i1 hown hK hP 8 rfl rfl 0 (by decide) (hts (.fieldLink RX1 9 "SignedPaths$Ringless" "graph" "LSignedPaths$Graph;") (by decide +kernel)) (fun _ h9 => h9) rfl dX1_findGreatest_9 ?_
      refine va_get (D := D) (ci := 0) (v := .int (nI n)) (C := RX0) (T := TX0) (N := 7) hx hb hts i0 hown hK hP 1 rfl rfl 0 (by decide) (hts (.fieldLink RX1 62 "SignedPaths$Graph" "nodes" "I") (by decide +kernel)) (fun _ h9 => h9) rfl dX1_findGreatest_12 ?_
      refine rn_icmp_ge (tgt := 41) hx hb dX1_findGreatest_15 (by decide) (by omega) (by omega) (fun c15 => ?_) (fun c15 => ?_)
      · rw [hQ]
        exact W.vret hx hb hr (fun t ht hW => ⟨⟨(), rfl, trivial, by show va_P D vwCl (cW k a n m ch fr to w th L la sw od io oc fa on (grR n fa) sr) t.heap; rw [ht]; have e : i = n := (by omega); rw [e] at hP; exact hP⟩, hS.F ht⟩) hS.2.2 dX1_findGreatest_41
      · refine lv_aload_n hx hb dX1_findGreatest_18 rfl (lv_at hl 0 rfl) ?_
        refine lv_aload_n hx hb dX1_findGreatest_19 rfl (lv_at hl 0 rfl) ?_
        refine va_get (D := D) (ci := 1) (v := .int (fl (grS fa) i 0)) (C := RX1) (T := TX1) (N := 8) hx hb hts i1 hown hK hP 8 rfl rfl 6 (by decide) (hts (.fieldLink RX1 35 "SignedPaths$Ringless" "greatest" "I") (by decide +kernel)) (fun _ h9 => h9) rfl dX1_findGreatest_20 ?_
        refine lv_aload_n hx hb dX1_findGreatest_23 rfl (lv_at hl 0 rfl) ?_
        refine va_get (D := D) (ci := 1) (v := .ref (a 11)) (C := RX1) (T := TX1) (N := 8) hx hb hts i1 hown hK hP 8 rfl rfl 4 (by decide) (hts (.fieldLink RX1 27 "SignedPaths$Ringless" "farthest" "[I") (by decide +kernel)) (fun _ h9 => h9) rfl dX1_findGreatest_24 ?_
        refine lv_iload_n hx hb dX1_findGreatest_27 rfl (lv_at hl 1 rfl) ?_
        refine rn_iald (v := fa i) hx hb hK hP 11 0 rfl rfl (by omega) (by decide) rfl dX1_findGreatest_28 ?_
        refine va_mmax hx hb (by rw [hml]; exact hl.1.symm) hown (hts (.methodLink RX1 92 Lib.Math.max.name) (by decide +kernel)) (hts (.static Lib.Math.max.name) (by decide +kernel)) (hts (.initialized "java/lang/Math") (by decide +kernel)) (hts (.code Lib.Math.max.name Lib.Math.max.code 2 (some .int)) (by decide +kernel)) (Nat.le_of_ble_eq_true rfl) (Nat.le_of_ble_eq_true rfl) (Nat.zero_le _) (Nat.zero_le _) dX1_findGreatest_29 ?_
        refine rn_put (ty := .int) (ws' := cW k a n m ch fr to w th L la sw od io oc fa on (if fl (grS fa) i 0 < fa i then fa i else fl (grS fa) i 0) sr) hx hb hts i1 tyX1 tyX1_ok nmX1 hown hK hP hD hS 8 rfl rfl 6 (by decide) (hts (.fieldLink RX1 35 "SignedPaths$Ringless" "greatest" "I") (by decide +kernel)) (fun _ h9 => h9) rfl (by decide +kernel) rfl rfl (Nat.le_of_ble_eq_true rfl) rfl dX1_findGreatest_32 (fun H locs hP hD hS => ?_)
        refine lv_iinc (v := nI (i + 1)) (lv' := [(1, .int (nI (i + 1))), (0, .ref (a 8))]) hx hb dX1_findGreatest_35 hl (k := 1) rfl (nI_1 i) (by decide) rfl (fun ls hl => ?_)
        refine lv_goto (tgt := 7) hx hb dX1_findGreatest_38 (by decide) ?_
        exact ih7 (i + 1) (by omega) (by omega)  _ _ (hP) hS ls (lv_sub hl [1, 0] rfl)
  exact key7 (n + 1) 0 (by omega) (by omega)  _ _ (hP) hS ls (lv_sub hl [1, 0] rfl)
set_option maxHeartbeats 4000000 in
set_option maxRecDepth 100000 in
theorem c1_fillOnward (l : Launch) {D : va_G} {k : Nat → ClassId} {a : Nat → Nat} {n : Nat} {m : Nat} {ch : Int32} {fr : Nat → Nat} {to : Nat → Nat} {w : Nat → Int32} {th : Nat → Bool} {L : Nat → Nat → Int32} {la : Nat} {sw : Int32} {od : Nat → Nat} {io : Nat → Bool} {oc : Nat} {fa : Nat → Int32} {on : Nat → Nat → Int32} {gr : Int32} {sr : Int32} (ha : inj 46 a) (p1 : Nat) (q1 : Nat) (hg : gOK n m fr to) (hp1 : p1 < 12) (hq1 : q1 < 12) (hpq : p1 ≠ q1) : Met l yX1_fillOnward wsX1_fillOnward ({ frames := 1, cells := 0, slots := 0, locals := 40 }) (gPc D k (cW k a n m ch fr to w th L la sw od io oc fa on gr sr) [.ref (a 8), .ref (a (34 + p1)), .ref (a (34 + q1))]) (va_Qv (S := Unit) (fun _ => True) (fun _ t => va_P D vwCl (cW k a n m ch fr to w th L la sw od io oc fa (va_up on q1 (onF m fr to w th (on p1) (on q1))) gr sr) t.heap) (cA a)) 0 0 (cA a) := by
  refine Met.ofW (cc := cX1_fillOnward) (maxL := 5) (ret := none) (by decide) rfl ?_
  intro p e s mt args below meth c s₁ B hml hv
  obtain ⟨rfl, hP, hK⟩ := hv
  have hx := B.exec
  have hb := B.bytes
  have hr := B.returns
  have hts := atoms_spec (ws := wsX1_fillOnward) B.pre
  have hown : s.vm.findClass RX1 = some mt.cls := findClass_of_methodNamed B.named
  have hlocks := B.notSynchronized
  have i0 : ∀ w ∈ wsX00, w ∈ wsX1_fillOnward := by decide +kernel
  have i1 : ∀ w ∈ wsX10, w ∈ wsX1_fillOnward := by decide +kernel
  have hS : va_S (cA a) s.heap s.heap [] := va_S.rf
  have hD : va_D (cA a) (cW k a n m ch fr to w th L la sw od io oc fa on gr sr) := cW_D ha
  have hl := lv_entry ([.ref (a 8), .ref (a (34 + p1)), .ref (a (34 + q1))]) (n := 5) (Nat.le_of_ble_eq_true rfl)
  rw [lg_entry_eq]
  generalize (lg_sl ([.ref (a 8), .ref (a (34 + p1)), .ref (a (34 + q1))]) ++ List.replicate (5 - (lg_sl ([.ref (a 8), .ref (a (34 + p1)), .ref (a (34 + q1))])).length) Slot.unset).toArray = ls at hl ⊢
  have hl : lv_has ls 5 [(0, .ref (a 8)), (1, .ref (a (34 + p1))), (2, .ref (a (34 + q1)))] := hl
  obtain ⟨Q, hQ⟩ : ∃ Q, Q = MQ below (va_Qv (S := Unit) (fun _ => True) (fun _ t => va_P D vwCl (cW k a n m ch fr to w th L la sw od io oc fa (va_up on q1 (onF m fr to w th (on p1) (on q1))) gr sr) t.heap) (cA a)) ([.ref (a 8), .ref (a (34 + p1)), .ref (a (34 + q1))] : List Value).toArray s 0 0 (cA a) := ⟨_, rfl⟩
  rw [← hQ]
  obtain ⟨hn12, hm40, hft⟩ := id hg
  refine lv_aload_n hx hb dX1_fillOnward_0 rfl (lv_at hl 1 rfl) ?_
  refine lv_iconst (v := 0) hx hb dX1_fillOnward_1 (by decide) ?_
  refine lv_aload_n hx hb dX1_fillOnward_2 rfl (lv_at hl 2 rfl) ?_
  refine lv_iconst (v := 0) hx hb dX1_fillOnward_3 (by decide) ?_
  refine lv_aload_n hx hb dX1_fillOnward_4 rfl (lv_at hl 1 rfl) ?_
  refine va_alen (v := nI 12) hx hb hK hP (34 + p1) 0 (cW_onr hp1) rfl rfl dX1_fillOnward_5 ?_
  refine rn_copy (ws' := cW k a n m ch fr to w th L la sw od io oc fa (va_up on q1 (va_cpy (on p1) (on q1) 0 0 12)) gr sr) hx hb (by rw [hml]; exact hl.1.symm) hown (hts (.methodLink RX1 102 arraycopyName) (by decide +kernel)) (hts (.native arraycopyName) (by decide +kernel)) (hts (.static arraycopyName) (by decide +kernel)) (hts (.initialized "java/lang/System") (by decide +kernel)) hK hP hD hS (34 + p1) (34 + q1) 0 (cW_onr hp1) (cW_onr hq1) rfl (by decide) (Nat.le_of_ble_eq_true rfl) (Nat.le_of_ble_eq_true rfl) (cW_setonr hq1 _) dX1_fillOnward_6 (fun H locs hP hD hS => ?_)
  refine lv_iconst (v := nI 0) hx hb dX1_fillOnward_9 (by decide) ?_
  refine lv_istore_n (lv' := [(3, .int (nI 0)), (0, .ref (a 8)), (1, .ref (a (34 + p1))), (2, .ref (a (34 + q1)))]) hx hb dX1_fillOnward_10 rfl hl (by decide) rfl (fun ls hl => ?_)
  have key11 : ∀ (f11 i : Nat), m + 1 ≤ i + f11 → i ≤ m → ∀ (H : Heap) (locs : List Loc), va_P D vwCl (cW k a n m ch fr to w th L la sw od io oc fa (va_up on q1 (fl (onS fr to w th (on p1)) i (va_cpy (on p1) (on q1) 0 0 12))) gr sr) H → va_S (cA a) s.heap H locs → ∀ (ls : Array Slot), lv_has ls 5 [(0, .ref (a 8)), (1, .ref (a (34 + p1))), (2, .ref (a (34 + q1))), (3, .int (nI i))] → W p l e (headSpec wsX1_fillOnward { frames := 1, cells := 0, slots := 0, locals := 40 }).room s mt ([.ref (a 8), .ref (a (34 + p1)), .ref (a (34 + q1))] : List Value).toArray below meth c H locs 0 0 Q (F0 mt 11 ls []) := by
    intro f11
    induction f11 with
    | zero => intro i h1 h2; exact absurd h1 (by omega)
    | succ f11 ih11 =>
      intro i hf11 hi11   H locs hP hS ls hl
      have hD : va_D (cA a) (cW k a n m ch fr to w th L la sw od io oc fa (va_up on q1 (fl (onS fr to w th (on p1)) i (va_cpy (on p1) (on q1) 0 0 12))) gr sr) := cW_D ha
      refine lv_iload_n hx hb dX1_fillOnward_11 rfl (lv_at hl 3 rfl) ?_
      refine lv_aload_n hx hb dX1_fillOnward_12 rfl (lv_at hl 0 rfl) ?_
      refine va_get (D := D) (ci := 1) (v := .ref (a 1)) (C := RX1) (T := TX1) (N := 8) hx hb hts i1 hown hK hP 8 rfl rfl 0 (by decide) (hts (.fieldLink RX1 9 "SignedPaths$Ringless" "graph" "LSignedPaths$Graph;") (by decide +kernel)) (fun _ h9 => h9) rfl dX1_fillOnward_13 ?_
      refine va_get (D := D) (ci := 0) (v := .int (nI m)) (C := RX0) (T := TX0) (N := 7) hx hb hts i0 hown hK hP 1 rfl rfl 1 (by decide) (hts (.fieldLink RX1 73 "SignedPaths$Graph" "arcs" "I") (by decide +kernel)) (fun _ h9 => h9) rfl dX1_fillOnward_16 ?_
      refine rn_icmp_ge (tgt := 83) hx hb dX1_fillOnward_19 (by decide) (by omega) (by omega) (fun c19 => ?_) (fun c19 => ?_)
      · rw [hQ]
        exact W.vret hx hb hr (fun t ht hW => ⟨⟨(), rfl, trivial, by show va_P D vwCl (cW k a n m ch fr to w th L la sw od io oc fa (va_up on q1 (onF m fr to w th (on p1) (on q1))) gr sr) t.heap; rw [ht]; have e : i = m := (by omega); rw [e] at hP; exact hP⟩, hS.F ht⟩) hS.2.2 dX1_fillOnward_83
      · have hi2 := hft i c19
        refine lv_aload_n hx hb dX1_fillOnward_22 rfl (lv_at hl 0 rfl) ?_
        refine va_get (D := D) (ci := 1) (v := .ref (a 1)) (C := RX1) (T := TX1) (N := 8) hx hb hts i1 hown hK hP 8 rfl rfl 0 (by decide) (hts (.fieldLink RX1 9 "SignedPaths$Ringless" "graph" "LSignedPaths$Graph;") (by decide +kernel)) (fun _ h9 => h9) rfl dX1_fillOnward_23 ?_
        refine va_get (D := D) (ci := 0) (v := .ref (a 5)) (C := RX0) (T := TX0) (N := 7) hx hb hts i0 hown hK hP 1 rfl rfl 6 (by decide) (hts (.fieldLink RX1 76 "SignedPaths$Graph" "there" "[Z") (by decide +kernel)) (fun _ h9 => h9) rfl dX1_fillOnward_26 ?_
        refine lv_iload_n hx hb dX1_fillOnward_29 rfl (lv_at hl 3 rfl) ?_
        refine rn_zald (v := bI (th i)) hx hb hK hP 5 1 rfl rfl (by omega) (by decide) rfl dX1_fillOnward_30 ?_
        refine rn_ifeqb (tgt := 77) hx hb dX1_fillOnward_31 (by decide) (fun c31 => ?_) (fun c31 => ?_)
        · refine lv_iinc (v := nI (i + 1)) (lv' := [(3, .int (nI (i + 1))), (0, .ref (a 8)), (1, .ref (a (34 + p1))), (2, .ref (a (34 + q1)))]) hx hb dX1_fillOnward_77 hl (k := 3) rfl (nI_1 i) (by decide) rfl (fun ls hl => ?_)
          refine lv_goto (tgt := 11) hx hb dX1_fillOnward_80 (by decide) ?_
          exact ih11 (i + 1) (by omega) (by omega)  _ _ (by rw [fl_s, onS, if_neg (by simp [c31])]; exact hP) hS ls (lv_sub hl [1, 2, 3, 0] rfl)
        · refine lv_aload_n hx hb dX1_fillOnward_34 rfl (lv_at hl 0 rfl) ?_
          refine va_get (D := D) (ci := 1) (v := .ref (a 1)) (C := RX1) (T := TX1) (N := 8) hx hb hts i1 hown hK hP 8 rfl rfl 0 (by decide) (hts (.fieldLink RX1 9 "SignedPaths$Ringless" "graph" "LSignedPaths$Graph;") (by decide +kernel)) (fun _ h9 => h9) rfl dX1_fillOnward_35 ?_
          refine va_get (D := D) (ci := 0) (v := .ref (a 2)) (C := RX0) (T := TX0) (N := 7) hx hb hts i0 hown hK hP 1 rfl rfl 3 (by decide) (hts (.fieldLink RX1 82 "SignedPaths$Graph" "from" "[I") (by decide +kernel)) (fun _ h9 => h9) rfl dX1_fillOnward_38 ?_
          refine lv_iload_n hx hb dX1_fillOnward_41 rfl (lv_at hl 3 rfl) ?_
          refine rn_iald (v := nI (fr i)) hx hb hK hP 2 0 rfl rfl (by omega) (by decide) rfl dX1_fillOnward_42 ?_
          refine lv_istore (lv' := [(4, .int (nI (fr i))), (0, .ref (a 8)), (1, .ref (a (34 + p1))), (2, .ref (a (34 + q1))), (3, .int (nI i))]) hx hb dX1_fillOnward_43 hl (by decide) rfl (fun ls hl => ?_)
          refine lv_aload_n hx hb dX1_fillOnward_45 rfl (lv_at hl 3 rfl) ?_
          refine lv_iload hx hb dX1_fillOnward_46 (lv_at hl 0 rfl) ?_
          refine lv_aload_n hx hb dX1_fillOnward_48 rfl (lv_at hl 3 rfl) ?_
          refine lv_iload hx hb dX1_fillOnward_49 (lv_at hl 0 rfl) ?_
          refine rn_iald (v := fl (onS fr to w th (on p1)) i (va_cpy (on p1) (on q1) 0 0 12) (fr i)) hx hb hK hP (34 + q1) 0 (cW_onr hq1) rfl (by omega) (by decide) (by rw [va_up_self]) dX1_fillOnward_51 ?_
          refine lv_aload_n hx hb dX1_fillOnward_52 rfl (lv_at hl 1 rfl) ?_
          refine va_get (D := D) (ci := 1) (v := .ref (a 1)) (C := RX1) (T := TX1) (N := 8) hx hb hts i1 hown hK hP 8 rfl rfl 0 (by decide) (hts (.fieldLink RX1 9 "SignedPaths$Ringless" "graph" "LSignedPaths$Graph;") (by decide +kernel)) (fun _ h9 => h9) rfl dX1_fillOnward_53 ?_
          refine va_get (D := D) (ci := 0) (v := .ref (a 4)) (C := RX0) (T := TX0) (N := 7) hx hb hts i0 hown hK hP 1 rfl rfl 5 (by decide) (hts (.fieldLink RX1 89 "SignedPaths$Graph" "weight" "[I") (by decide +kernel)) (fun _ h9 => h9) rfl dX1_fillOnward_56 ?_
          refine lv_iload_n hx hb dX1_fillOnward_59 rfl (lv_at hl 4 rfl) ?_
          refine rn_iald (v := w i) hx hb hK hP 4 0 rfl rfl (by omega) (by decide) rfl dX1_fillOnward_60 ?_
          refine lv_aload_n hx hb dX1_fillOnward_61 rfl (lv_at hl 2 rfl) ?_
          refine lv_aload_n hx hb dX1_fillOnward_62 rfl (lv_at hl 1 rfl) ?_
          refine va_get (D := D) (ci := 1) (v := .ref (a 1)) (C := RX1) (T := TX1) (N := 8) hx hb hts i1 hown hK hP 8 rfl rfl 0 (by decide) (hts (.fieldLink RX1 9 "SignedPaths$Ringless" "graph" "LSignedPaths$Graph;") (by decide +kernel)) (fun _ h9 => h9) rfl dX1_fillOnward_63 ?_
          refine va_get (D := D) (ci := 0) (v := .ref (a 3)) (C := RX0) (T := TX0) (N := 7) hx hb hts i0 hown hK hP 1 rfl rfl 4 (by decide) (hts (.fieldLink RX1 79 "SignedPaths$Graph" "to" "[I") (by decide +kernel)) (fun _ h9 => h9) rfl dX1_fillOnward_66 ?_
          refine lv_iload_n hx hb dX1_fillOnward_69 rfl (lv_at hl 4 rfl) ?_
          refine rn_iald (v := nI (to i)) hx hb hK hP 3 0 rfl rfl (by omega) (by decide) rfl dX1_fillOnward_70 ?_
          refine rn_iald (v := on p1 (to i)) hx hb hK hP (34 + p1) 0 (cW_onr hp1) rfl (by omega) (by decide) (by rw [va_up_ne _ _ hpq]) dX1_fillOnward_71 ?_
          refine lv_iadd hx hb dX1_fillOnward_72 ?_
          refine va_mmax hx hb (by rw [hml]; exact hl.1.symm) hown (hts (.methodLink RX1 92 Lib.Math.max.name) (by decide +kernel)) (hts (.static Lib.Math.max.name) (by decide +kernel)) (hts (.initialized "java/lang/Math") (by decide +kernel)) (hts (.code Lib.Math.max.name Lib.Math.max.code 2 (some .int)) (by decide +kernel)) (Nat.le_of_ble_eq_true rfl) (Nat.le_of_ble_eq_true rfl) (Nat.zero_le _) (Nat.zero_le _) dX1_fillOnward_73 ?_
          refine rn_iast (ws' := cW k a n m ch fr to w th L la sw od io oc fa (va_up on q1 (va_up (fl (onS fr to w th (on p1)) i (va_cpy (on p1) (on q1) 0 0 12)) (fr i) (if fl (onS fr to w th (on p1)) i (va_cpy (on p1) (on q1) 0 0 12) (fr i) < (w i) + (on p1 (to i)) then (w i) + (on p1 (to i)) else fl (onS fr to w th (on p1)) i (va_cpy (on p1) (on q1) 0 0 12) (fr i)))) gr sr) hx hb hK hP hD hS (34 + q1) 0 (cW_onr hq1) rfl (by omega) (by decide) (by rw [cW_setonr hq1, up_up, va_up_self]; rfl) dX1_fillOnward_76 (fun H locs hP hD hS => ?_)
          refine lv_iinc (v := nI (i + 1)) (lv' := [(3, .int (nI (i + 1))), (4, .int (nI (fr i))), (0, .ref (a 8)), (1, .ref (a (34 + p1))), (2, .ref (a (34 + q1)))]) hx hb dX1_fillOnward_77 hl (k := 4) rfl (nI_1 i) (by decide) rfl (fun ls hl => ?_)
          refine lv_goto (tgt := 11) hx hb dX1_fillOnward_80 (by decide) ?_
          exact ih11 (i + 1) (by omega) (by omega)  _ _ (by rw [fl_s, onS, if_pos c31]; exact hP) hS ls (lv_sub hl [2, 3, 4, 0] rfl)
  exact key11 (m + 1) 0 (by omega) (by omega)  _ _ (hP) hS ls (lv_sub hl [1, 2, 3, 0] rfl)
set_option maxHeartbeats 4000000 in
set_option maxRecDepth 100000 in
theorem c1_findOnward (l : Launch) {D : va_G} {k : Nat → ClassId} {a : Nat → Nat} {n : Nat} {m : Nat} {ch : Int32} {fr : Nat → Nat} {to : Nat → Nat} {w : Nat → Int32} {th : Nat → Bool} {L : Nat → Nat → Int32} {la : Nat} {sw : Int32} {od : Nat → Nat} {io : Nat → Bool} {oc : Nat} {fa : Nat → Int32} {on : Nat → Nat → Int32} {gr : Int32} {sr : Int32} (ha : inj 46 a)  (hg : gOK n m fr to) : Met l yX1_findOnward wsX1_findOnward ({ frames := 2, cells := 0, slots := 0, locals := 64 }) (gPc D k (cW k a n m ch fr to w th L la sw od io oc fa on gr sr) [.ref (a 8)]) (va_Qv (S := Unit) (fun _ => True) (fun _ t => va_P D vwCl (cW k a n m ch fr to w th L la sw od io oc fa (onR n m fr to w th on) gr sr) t.heap) (cA a)) 0 0 (cA a) := by
  refine Met.ofW (cc := cX1_findOnward) (maxL := 2) (ret := none) (by decide) rfl ?_
  intro p e s mt args below meth c s₁ B hml hv
  obtain ⟨rfl, hP, hK⟩ := hv
  have hx := B.exec
  have hb := B.bytes
  have hr := B.returns
  have hts := atoms_spec (ws := wsX1_findOnward) B.pre
  have hown : s.vm.findClass RX1 = some mt.cls := findClass_of_methodNamed B.named
  have hlocks := B.notSynchronized
  have i0 : ∀ w ∈ wsX00, w ∈ wsX1_findOnward := by decide +kernel
  have i1 : ∀ w ∈ wsX10, w ∈ wsX1_findOnward := by decide +kernel
  have hS : va_S (cA a) s.heap s.heap [] := va_S.rf
  have hD : va_D (cA a) (cW k a n m ch fr to w th L la sw od io oc fa on gr sr) := cW_D ha
  have hl := lv_entry ([.ref (a 8)]) (n := 2) (Nat.le_of_ble_eq_true rfl)
  rw [lg_entry_eq]
  generalize (lg_sl ([.ref (a 8)]) ++ List.replicate (2 - (lg_sl ([.ref (a 8)])).length) Slot.unset).toArray = ls at hl ⊢
  have hl : lv_has ls 2 [(0, .ref (a 8))] := hl
  obtain ⟨Q, hQ⟩ : ∃ Q, Q = MQ below (va_Qv (S := Unit) (fun _ => True) (fun _ t => va_P D vwCl (cW k a n m ch fr to w th L la sw od io oc fa (onR n m fr to w th on) gr sr) t.heap) (cA a)) ([.ref (a 8)] : List Value).toArray s 0 0 (cA a) := ⟨_, rfl⟩
  rw [← hQ]
  obtain ⟨hn12, hm40, hft⟩ := id hg
  refine lv_iconst (v := nI 0) hx hb dX1_findOnward_0 (by decide) ?_
  refine lv_istore_n (lv' := [(1, .int (nI 0)), (0, .ref (a 8))]) hx hb dX1_findOnward_1 rfl hl (by decide) rfl (fun ls hl => ?_)
  have key2 : ∀ (f2 i : Nat), n + 1 ≤ i + f2 → i ≤ n → ∀ (H : Heap) (locs : List Loc), va_P D vwCl (cW k a n m ch fr to w th L la sw od io oc fa (va_up on 0 (fl zS i (on 0))) gr sr) H → va_S (cA a) s.heap H locs → ∀ (ls : Array Slot), lv_has ls 2 [(0, .ref (a 8)), (1, .int (nI i))] → W p l e (headSpec wsX1_findOnward { frames := 2, cells := 0, slots := 0, locals := 64 }).room s mt ([.ref (a 8)] : List Value).toArray below meth c H locs 0 0 Q (F0 mt 2 ls []) := by
    intro f2
    induction f2 with
    | zero => intro i h1 h2; exact absurd h1 (by omega)
    | succ f2 ih2 =>
      intro i hf2 hi2   H locs hP hS ls hl
      have hD : va_D (cA a) (cW k a n m ch fr to w th L la sw od io oc fa (va_up on 0 (fl zS i (on 0))) gr sr) := cW_D ha
      refine lv_iload_n hx hb dX1_findOnward_2 rfl (lv_at hl 1 rfl) ?_
      refine lv_aload_n hx hb dX1_findOnward_3 rfl (lv_at hl 0 rfl) ?_
      refine va_get (D := D) (ci := 1) (v := .ref (a 1)) (C := RX1) (T := TX1) (N := 8) hx hb hts i1 hown hK hP 8 rfl rfl 0 (by decide) (hts (.fieldLink RX1 9 "SignedPaths$Ringless" "graph" "LSignedPaths$Graph;") (by decide +kernel)) (fun _ h9 => h9) rfl dX1_findOnward_4 ?_
      refine va_get (D := D) (ci := 0) (v := .int (nI n)) (C := RX0) (T := TX0) (N := 7) hx hb hts i0 hown hK hP 1 rfl rfl 0 (by decide) (hts (.fieldLink RX1 62 "SignedPaths$Graph" "nodes" "I") (by decide +kernel)) (fun _ h9 => h9) rfl dX1_findOnward_7 ?_
      refine rn_icmp_ge (tgt := 28) hx hb dX1_findOnward_10 (by decide) (by omega) (by omega) (fun c10 => ?_) (fun c10 => ?_)
      · refine lv_iconst (v := nI 1) hx hb dX1_findOnward_28 (by decide) ?_
        refine lv_istore_n (lv' := [(1, .int (nI 1)), (0, .ref (a 8))]) hx hb dX1_findOnward_29 rfl hl (by decide) rfl (fun ls hl => ?_)
        have key30 : ∀ (f30 i : Nat), 11 + 1 ≤ i + f30 → i ≤ 11 → ∀ (H : Heap) (locs : List Loc), va_P D vwCl (cW k a n m ch fr to w th L la sw od io oc fa (fl (onT m fr to w th) i (va_up on 0 (fl zS n (on 0)))) gr sr) H → va_S (cA a) s.heap H locs → ∀ (ls : Array Slot), lv_has ls 2 [(0, .ref (a 8)), (1, .int (nI (i + 1)))] → W p l e (headSpec wsX1_findOnward { frames := 2, cells := 0, slots := 0, locals := 64 }).room s mt ([.ref (a 8)] : List Value).toArray below meth c H locs 0 0 Q (F0 mt 30 ls []) := by
          intro f30
          induction f30 with
          | zero => intro i h1 h2; exact absurd h1 (by omega)
          | succ f30 ih30 =>
            intro i hf30 hi30   H locs hP hS ls hl
            have hD : va_D (cA a) (cW k a n m ch fr to w th L la sw od io oc fa (fl (onT m fr to w th) i (va_up on 0 (fl zS n (on 0)))) gr sr) := cW_D ha
            refine lv_iload_n hx hb dX1_findOnward_30 rfl (lv_at hl 1 rfl) ?_
            refine lv_bipush (v := nI 12) hx hb dX1_findOnward_31 (by decide) ?_
            refine rn_icmp_ge (tgt := 60) hx hb dX1_findOnward_33 (by decide) (by omega) (by omega) (fun c33 => ?_) (fun c33 => ?_)
            · rw [hQ]
              exact W.vret hx hb hr (fun t ht hW => ⟨⟨(), rfl, trivial, by show va_P D vwCl (cW k a n m ch fr to w th L la sw od io oc fa (onR n m fr to w th on) gr sr) t.heap; rw [ht]; have e : i = 11 := (by omega); rw [e] at hP; exact hP⟩, hS.F ht⟩) hS.2.2 dX1_findOnward_60
            · refine lv_aload_n hx hb dX1_findOnward_36 rfl (lv_at hl 0 rfl) ?_
              refine lv_aload_n hx hb dX1_findOnward_37 rfl (lv_at hl 0 rfl) ?_
              refine va_get (D := D) (ci := 1) (v := .ref (a 12)) (C := RX1) (T := TX1) (N := 8) hx hb hts i1 hown hK hP 8 rfl rfl 5 (by decide) (hts (.fieldLink RX1 32 "SignedPaths$Ringless" "onward" "[[I") (by decide +kernel)) (fun _ h9 => h9) rfl dX1_findOnward_38 ?_
              refine lv_iload_n hx hb dX1_findOnward_41 rfl (lv_at hl 1 rfl) ?_
              refine lv_iconst (v := nI 1) hx hb dX1_findOnward_42 (by decide) ?_
              refine rn_isub hx hb (by omega) dX1_findOnward_43 ?_
              refine rn_aald (y := a (34 + ((i + 1) - 1))) hx hb hK hP 12 2 rfl rfl (by omega) (by decide) (if_pos (by omega)) dX1_findOnward_44 ?_
              refine lv_aload_n hx hb dX1_findOnward_45 rfl (lv_at hl 0 rfl) ?_
              refine va_get (D := D) (ci := 1) (v := .ref (a 12)) (C := RX1) (T := TX1) (N := 8) hx hb hts i1 hown hK hP 8 rfl rfl 5 (by decide) (hts (.fieldLink RX1 32 "SignedPaths$Ringless" "onward" "[[I") (by decide +kernel)) (fun _ h9 => h9) rfl dX1_findOnward_46 ?_
              refine lv_iload_n hx hb dX1_findOnward_49 rfl (lv_at hl 1 rfl) ?_
              refine rn_aald (y := a (34 + (i + 1))) hx hb hK hP 12 2 rfl rfl (by omega) (by decide) (if_pos (by omega)) dX1_findOnward_50 ?_
              refine cl_Qv (As := [.ref (a (34 + ((i + 1) - 1))), .ref (a (34 + (i + 1)))]) (rest := []) ⟨hx, hb, hml, hown, hts⟩ (c1_fillOnward l ha ((i + 1) - 1) (i + 1) hg (by omega) (by omega) (by omega)) (cwV 2 hts gX1_findOnward_X1_fillOnward rfl rfl rfl (by decide +kernel) ⟨Nat.le_of_ble_eq_true rfl, Nat.le_of_ble_eq_true rfl⟩) hK hP hS (fun _ h => h) (ci := 1) (q0 := 8) rfl rfl rfl rfl hl.1 rfl (Nat.le_of_ble_eq_true rfl) dX1_findOnward_51 ⟨Nat.zero_le _, Nat.zero_le _⟩ (fun H locs h51 hP _ _ hS => ?_)
              have hP : va_P D vwCl (cW k a n m ch fr to w th L la sw od io oc fa (va_up (fl (onT m fr to w th) i (va_up on 0 (fl zS n (on 0)))) (i + 1) (onF m fr to w th ((fl (onT m fr to w th) i (va_up on 0 (fl zS n (on 0)))) ((i + 1) - 1)) ((fl (onT m fr to w th) i (va_up on 0 (fl zS n (on 0)))) (i + 1)))) gr sr) H := hP
              have hP : va_P D vwCl (cW k a n m ch fr to w th L la sw od io oc fa (onT m fr to w th i (fl (onT m fr to w th) i (va_up on 0 (fl zS n (on 0))))) gr sr) H := by rw [show i + 1 - 1 = i by omega] at hP; exact hP
              have hD : va_D (cA a) (cW k a n m ch fr to w th L la sw od io oc fa (onT m fr to w th i (fl (onT m fr to w th) i (va_up on 0 (fl zS n (on 0))))) gr sr) := cW_D ha
              refine lv_iinc (v := nI (i + 1 + 1)) (lv' := [(1, .int (nI (i + 1 + 1))), (0, .ref (a 8))]) hx hb dX1_findOnward_54 hl (k := 1) rfl (nI_1 (i + 1)) (by decide) rfl (fun ls hl => ?_)
              refine lv_goto (tgt := 30) hx hb dX1_findOnward_57 (by decide) ?_
              exact ih30 (i + 1) (by omega) (by omega)  _ _ (hP) hS ls (lv_sub hl [1, 0] rfl)
        exact key30 (11 + 1) 0 (by omega) (by omega)  _ _ (by have e : i = n := (by omega); rw [e] at hP; exact hP) hS ls (lv_sub hl [1, 0] rfl)
      · refine lv_aload_n hx hb dX1_findOnward_13 rfl (lv_at hl 0 rfl) ?_
        refine va_get (D := D) (ci := 1) (v := .ref (a 12)) (C := RX1) (T := TX1) (N := 8) hx hb hts i1 hown hK hP 8 rfl rfl 5 (by decide) (hts (.fieldLink RX1 32 "SignedPaths$Ringless" "onward" "[[I") (by decide +kernel)) (fun _ h9 => h9) rfl dX1_findOnward_14 ?_
        refine lv_iconst (v := nI 0) hx hb dX1_findOnward_17 (by decide) ?_
        refine rn_aald (y := a (34 + 0)) hx hb hK hP 12 2 rfl rfl (by omega) (by decide) (if_pos (by omega)) dX1_findOnward_18 ?_
        refine lv_iload_n hx hb dX1_findOnward_19 rfl (lv_at hl 1 rfl) ?_
        refine lv_iconst (v := 0) hx hb dX1_findOnward_20 (by decide) ?_
        refine rn_iast (ws' := cW k a n m ch fr to w th L la sw od io oc fa (va_up on 0 (va_up (fl zS i (on 0)) (i) 0)) gr sr) hx hb hK hP hD hS (34 + 0) 0 (cW_onr (by omega)) rfl (by omega) (by decide) (by rw [cW_setonr (by omega), up_up, va_up_self]; rfl) dX1_findOnward_21 (fun H locs hP hD hS => ?_)
        refine lv_iinc (v := nI (i + 1)) (lv' := [(1, .int (nI (i + 1))), (0, .ref (a 8))]) hx hb dX1_findOnward_22 hl (k := 1) rfl (nI_1 i) (by decide) rfl (fun ls hl => ?_)
        refine lv_goto (tgt := 2) hx hb dX1_findOnward_25 (by decide) ?_
        exact ih2 (i + 1) (by omega) (by omega)  _ _ (hP) hS ls (lv_sub hl [1, 0] rfl)
  exact key2 (n + 1) 0 (by omega) (by omega)  _ _ (by rw [fl_0, up_me]; exact hP) hS ls (lv_sub hl [1, 0] rfl)
set_option maxHeartbeats 4000000 in
set_option maxRecDepth 100000 in
theorem c1_workOut (l : Launch) {D : va_G} {k : Nat → ClassId} {a : Nat → Nat} {n : Nat} {m : Nat} {ch : Int32} {fr : Nat → Nat} {to : Nat → Nat} {w : Nat → Int32} {th : Nat → Bool} {L : Nat → Nat → Int32} {la : Nat} {sw : Int32} {od : Nat → Nat} {io : Nat → Bool} {oc : Nat} {fa : Nat → Int32} {on : Nat → Nat → Int32} {gr : Int32} {sr : Int32} (ha : inj 46 a)  (hg : gOK n m fr to) : Met l yX1_workOut wsX1_workOut ({ frames := 3, cells := 0, slots := 0, locals := 85 }) (gPc D k (cW k a n m ch fr to w th L la sw od io oc fa on gr sr) [.ref (a 8)]) (va_Qv (S := Unit) (fun _ => True) (fun _ t => va_P D vwCl (cW k a n m ch fr to w th L la sw (rOd n m ch fr to th od io sr) (rIo n m ch fr to th od io sr) (rOc n m ch fr to th od io oc sr) (rFa n m ch fr to w th od io fa sr) (rOn n m ch fr to w th od io on sr) (rGr n m ch fr to w th od io fa gr sr) ch) t.heap) (cA a)) 0 0 (cA a) := by
  refine Met.ofW (cc := cX1_workOut) (maxL := 1) (ret := none) (by decide) rfl ?_
  intro p e s mt args below meth c s₁ B hml hv
  obtain ⟨rfl, hP, hK⟩ := hv
  have hx := B.exec
  have hb := B.bytes
  have hr := B.returns
  have hts := atoms_spec (ws := wsX1_workOut) B.pre
  have hown : s.vm.findClass RX1 = some mt.cls := findClass_of_methodNamed B.named
  have hlocks := B.notSynchronized
  have i0 : ∀ w ∈ wsX00, w ∈ wsX1_workOut := by decide +kernel
  have i1 : ∀ w ∈ wsX10, w ∈ wsX1_workOut := by decide +kernel
  have hS : va_S (cA a) s.heap s.heap [] := va_S.rf
  have hD : va_D (cA a) (cW k a n m ch fr to w th L la sw od io oc fa on gr sr) := cW_D ha
  have hl := lv_entry ([.ref (a 8)]) (n := 1) (Nat.le_of_ble_eq_true rfl)
  rw [lg_entry_eq]
  generalize (lg_sl ([.ref (a 8)]) ++ List.replicate (1 - (lg_sl ([.ref (a 8)])).length) Slot.unset).toArray = ls at hl ⊢
  have hl : lv_has ls 1 [(0, .ref (a 8))] := hl
  obtain ⟨hn12, hm40, hft⟩ := id hg
  have hol := ordR_le (n := n) (m := m) (fr := fr) (to := to) (th := th) (od := od) (io := io)
  refine lv_aload_n hx hb dX1_workOut_0 rfl (lv_at hl 0 rfl) ?_
  refine va_get (D := D) (ci := 1) (v := .int sr) (C := RX1) (T := TX1) (N := 8) hx hb hts i1 hown hK hP 8 rfl rfl 7 (by decide) (hts (.fieldLink RX1 38 "SignedPaths$Ringless" "seenChanges" "I") (by decide +kernel)) (fun _ h9 => h9) rfl dX1_workOut_1 ?_
  refine lv_aload_n hx hb dX1_workOut_4 rfl (lv_at hl 0 rfl) ?_
  refine va_get (D := D) (ci := 1) (v := .ref (a 1)) (C := RX1) (T := TX1) (N := 8) hx hb hts i1 hown hK hP 8 rfl rfl 0 (by decide) (hts (.fieldLink RX1 9 "SignedPaths$Ringless" "graph" "LSignedPaths$Graph;") (by decide +kernel)) (fun _ h9 => h9) rfl dX1_workOut_5 ?_
  refine va_get (D := D) (ci := 0) (v := .int ch) (C := RX0) (T := TX0) (N := 7) hx hb hts i0 hown hK hP 1 rfl rfl 2 (by decide) (hts (.fieldLink RX1 41 "SignedPaths$Graph" "changes" "I") (by decide +kernel)) (fun _ h9 => h9) rfl dX1_workOut_8 ?_
  refine lv_icmp_ne (tgt := 15) hx hb dX1_workOut_11 (by decide) (fun c11 => ?_) (fun c11 => ?_)
  · refine lv_aload_n hx hb dX1_workOut_15 rfl (lv_at hl 0 rfl) ?_
    refine lv_aload_n hx hb dX1_workOut_16 rfl (lv_at hl 0 rfl) ?_
    refine va_get (D := D) (ci := 1) (v := .ref (a 1)) (C := RX1) (T := TX1) (N := 8) hx hb hts i1 hown hK hP 8 rfl rfl 0 (by decide) (hts (.fieldLink RX1 9 "SignedPaths$Ringless" "graph" "LSignedPaths$Graph;") (by decide +kernel)) (fun _ h9 => h9) rfl dX1_workOut_17 ?_
    refine va_get (D := D) (ci := 0) (v := .int ch) (C := RX0) (T := TX0) (N := 7) hx hb hts i0 hown hK hP 1 rfl rfl 2 (by decide) (hts (.fieldLink RX1 41 "SignedPaths$Graph" "changes" "I") (by decide +kernel)) (fun _ h9 => h9) rfl dX1_workOut_20 ?_
    refine rn_put (ty := .int) (ws' := cW k a n m ch fr to w th L la sw od io oc fa on gr ch) hx hb hts i1 tyX1 tyX1_ok nmX1 hown hK hP hD hS 8 rfl rfl 7 (by decide) (hts (.fieldLink RX1 38 "SignedPaths$Ringless" "seenChanges" "I") (by decide +kernel)) (fun _ h9 => h9) rfl (by decide +kernel) rfl rfl (Nat.le_of_ble_eq_true rfl) rfl dX1_workOut_23 (fun H locs hP hD hS => ?_)
    refine lv_aload_n hx hb dX1_workOut_26 rfl (lv_at hl 0 rfl) ?_
    refine cl_Qv (As := []) (rest := []) ⟨hx, hb, hml, hown, hts⟩ (c1_findOrder l ha  hg) (cwV 0 hts gX1_workOut_X1_findOrder rfl rfl rfl (by decide +kernel) ⟨Nat.le_of_ble_eq_true rfl, Nat.le_of_ble_eq_true rfl⟩) hK hP hS (fun _ h => h) (ci := 1) (q0 := 8) rfl rfl rfl rfl hl.1 rfl (Nat.le_of_ble_eq_true rfl) dX1_workOut_27 ⟨Nat.zero_le _, Nat.zero_le _⟩ (fun H locs h27 hP _ _ hS => ?_)
    have hP : va_P D vwCl (cW k a n m ch fr to w th L la sw ((ordR n m fr to th od io).1) ((ordR n m fr to th od io).2.1) ((ordR n m fr to th od io).2.2) fa on gr ch) H := hP
    have hD : va_D (cA a) (cW k a n m ch fr to w th L la sw ((ordR n m fr to th od io).1) ((ordR n m fr to th od io).2.1) ((ordR n m fr to th od io).2.2) fa on gr ch) := cW_D ha
    refine lv_aload_n hx hb dX1_workOut_30 rfl (lv_at hl 0 rfl) ?_
    refine cl_Si (As := []) (rest := []) ⟨hx, hb, hml, hown, hts⟩ (c1_hasRing l ha  (by omega) (by omega)) (cwV 0 hts gX1_workOut_X1_hasRing rfl rfl rfl (by decide +kernel) ⟨Nat.le_of_ble_eq_true rfl, Nat.le_of_ble_eq_true rfl⟩) hK hP (ci := 1) (q0 := 8) rfl rfl rfl rfl hl.1 rfl (Nat.le_of_ble_eq_true rfl) dX1_workOut_31 ⟨Nat.zero_le _, Nat.zero_le _⟩ (fun r31 h31 => ?_)
    subst h31
    refine rn_ifneb (tgt := 49) hx hb dX1_workOut_34 (by decide) (fun c34 => ?_) (fun c34 => ?_)
    · exact W.vret hx hb hr (fun t ht hW => ⟨⟨(), rfl, trivial, by show va_P D vwCl (cW k a n m ch fr to w th L la sw (rOd n m ch fr to th od io sr) (rIo n m ch fr to th od io sr) (rOc n m ch fr to th od io oc sr) (rFa n m ch fr to w th od io fa sr) (rOn n m ch fr to w th od io on sr) (rGr n m ch fr to w th od io fa gr sr) ch) t.heap; rw [ht]; have c34 := of_decide_eq_true c34; rw [rOd, rIo, rOc, rFa, rGr, rOn, if_neg c11, if_neg c11, if_neg c11, if_neg c11, if_neg c11, if_neg c11, if_pos c34, if_pos c34, if_pos c34]; exact hP⟩, hS.F ht⟩) hS.2.2 dX1_workOut_49
    · refine lv_aload_n hx hb dX1_workOut_37 rfl (lv_at hl 0 rfl) ?_
      refine cl_Qv (As := []) (rest := []) ⟨hx, hb, hml, hown, hts⟩ (c1_findFarthest l ha  hg ⟨Nat.le_trans hol.1 hn12, fun j hj => Nat.lt_of_lt_of_le (hol.2 j hj) hn12⟩) (cwV 0 hts gX1_workOut_X1_findFarthest rfl rfl rfl (by decide +kernel) ⟨Nat.le_of_ble_eq_true rfl, Nat.le_of_ble_eq_true rfl⟩) hK hP hS (fun _ h => h) (ci := 1) (q0 := 8) rfl rfl rfl rfl hl.1 rfl (Nat.le_of_ble_eq_true rfl) dX1_workOut_38 ⟨Nat.zero_le _, Nat.zero_le _⟩ (fun H locs h38 hP _ _ hS => ?_)
      have hP : va_P D vwCl (cW k a n m ch fr to w th L la sw ((ordR n m fr to th od io).1) ((ordR n m fr to th od io).2.1) ((ordR n m fr to th od io).2.2) (faR n m fr to w th ((ordR n m fr to th od io).1) ((ordR n m fr to th od io).2.2) fa) on gr ch) H := hP
      have hD : va_D (cA a) (cW k a n m ch fr to w th L la sw ((ordR n m fr to th od io).1) ((ordR n m fr to th od io).2.1) ((ordR n m fr to th od io).2.2) (faR n m fr to w th ((ordR n m fr to th od io).1) ((ordR n m fr to th od io).2.2) fa) on gr ch) := cW_D ha
      refine lv_aload_n hx hb dX1_workOut_41 rfl (lv_at hl 0 rfl) ?_
      refine cl_Qv (As := []) (rest := []) ⟨hx, hb, hml, hown, hts⟩ (c1_findGreatest l ha  hg) (cwV 0 hts gX1_workOut_X1_findGreatest rfl rfl rfl (by decide +kernel) ⟨Nat.le_of_ble_eq_true rfl, Nat.le_of_ble_eq_true rfl⟩) hK hP hS (fun _ h => h) (ci := 1) (q0 := 8) rfl rfl rfl rfl hl.1 rfl (Nat.le_of_ble_eq_true rfl) dX1_workOut_42 ⟨Nat.zero_le _, Nat.zero_le _⟩ (fun H locs h42 hP _ _ hS => ?_)
      have hP : va_P D vwCl (cW k a n m ch fr to w th L la sw ((ordR n m fr to th od io).1) ((ordR n m fr to th od io).2.1) ((ordR n m fr to th od io).2.2) (faR n m fr to w th ((ordR n m fr to th od io).1) ((ordR n m fr to th od io).2.2) fa) on (grR n (faR n m fr to w th ((ordR n m fr to th od io).1) ((ordR n m fr to th od io).2.2) fa)) ch) H := hP
      have hD : va_D (cA a) (cW k a n m ch fr to w th L la sw ((ordR n m fr to th od io).1) ((ordR n m fr to th od io).2.1) ((ordR n m fr to th od io).2.2) (faR n m fr to w th ((ordR n m fr to th od io).1) ((ordR n m fr to th od io).2.2) fa) on (grR n (faR n m fr to w th ((ordR n m fr to th od io).1) ((ordR n m fr to th od io).2.2) fa)) ch) := cW_D ha
      refine lv_aload_n hx hb dX1_workOut_45 rfl (lv_at hl 0 rfl) ?_
      refine cl_Qv (As := []) (rest := []) ⟨hx, hb, hml, hown, hts⟩ (c1_findOnward l ha  hg) (cwV 0 hts gX1_workOut_X1_findOnward rfl rfl rfl (by decide +kernel) ⟨Nat.le_of_ble_eq_true rfl, Nat.le_of_ble_eq_true rfl⟩) hK hP hS (fun _ h => h) (ci := 1) (q0 := 8) rfl rfl rfl rfl hl.1 rfl (Nat.le_of_ble_eq_true rfl) dX1_workOut_46 ⟨Nat.zero_le _, Nat.zero_le _⟩ (fun H locs h46 hP _ _ hS => ?_)
      have hP : va_P D vwCl (cW k a n m ch fr to w th L la sw ((ordR n m fr to th od io).1) ((ordR n m fr to th od io).2.1) ((ordR n m fr to th od io).2.2) (faR n m fr to w th ((ordR n m fr to th od io).1) ((ordR n m fr to th od io).2.2) fa) (onR n m fr to w th on) (grR n (faR n m fr to w th ((ordR n m fr to th od io).1) ((ordR n m fr to th od io).2.2) fa)) ch) H := hP
      have hD : va_D (cA a) (cW k a n m ch fr to w th L la sw ((ordR n m fr to th od io).1) ((ordR n m fr to th od io).2.1) ((ordR n m fr to th od io).2.2) (faR n m fr to w th ((ordR n m fr to th od io).1) ((ordR n m fr to th od io).2.2) fa) (onR n m fr to w th on) (grR n (faR n m fr to w th ((ordR n m fr to th od io).1) ((ordR n m fr to th od io).2.2) fa)) ch) := cW_D ha
      exact W.vret hx hb hr (fun t ht hW => ⟨⟨(), rfl, trivial, by show va_P D vwCl (cW k a n m ch fr to w th L la sw (rOd n m ch fr to th od io sr) (rIo n m ch fr to th od io sr) (rOc n m ch fr to th od io oc sr) (rFa n m ch fr to w th od io fa sr) (rOn n m ch fr to w th od io on sr) (rGr n m ch fr to w th od io fa gr sr) ch) t.heap; rw [ht]; have c34 := of_decide_eq_false c34; rw [rOd, rIo, rOc, rFa, rGr, rOn, if_neg c11, if_neg c11, if_neg c11, if_neg c11, if_neg c11, if_neg c11, if_neg c34, if_neg c34, if_neg c34]; exact hP⟩, hS.F ht⟩) hS.2.2 dX1_workOut_49
  · exact W.vret hx hb hr (fun t ht hW => ⟨⟨(), rfl, trivial, by show va_P D vwCl (cW k a n m ch fr to w th L la sw (rOd n m ch fr to th od io sr) (rIo n m ch fr to th od io sr) (rOc n m ch fr to th od io oc sr) (rFa n m ch fr to w th od io fa sr) (rOn n m ch fr to w th od io on sr) (rGr n m ch fr to w th od io fa gr sr) ch) t.heap; rw [ht]; rw [rOd, rIo, rOc, rFa, rGr, rOn, if_pos c11, if_pos c11, if_pos c11, if_pos c11, if_pos c11, if_pos c11]; rw [c11] at hP; exact hP⟩, hS.F ht⟩) hS.2.2 dX1_workOut_14
set_option maxHeartbeats 4000000 in
set_option maxRecDepth 100000 in
theorem c1_nodeAt (l : Launch) {D : va_G} {k : Nat → ClassId} {a : Nat → Nat} {n : Nat} {m : Nat} {ch : Int32} {fr : Nat → Nat} {to : Nat → Nat} {w : Nat → Int32} {th : Nat → Bool} {L : Nat → Nat → Int32} {la : Nat} {sw : Int32} {od : Nat → Nat} {io : Nat → Bool} {oc : Nat} {fa : Nat → Int32} {on : Nat → Nat → Int32} {gr : Int32} {sr : Int32} (ha : inj 46 a) (x : Int32) (ho : oc ≤ 12 ∧ ∀ j, j < oc → od j < 12) : Met l yX1_nodeAt wsX1_nodeAt ({ frames := 0, cells := 0, slots := 0, locals := 0 }) (gPc D k (cW k a n m ch fr to w th L la sw od io oc fa on gr sr) [.ref (a 8), .int x]) (vp_Si (fun r => r = oI (ndO od oc x))) 0 0 nF := by
  refine Met.ofW (cc := cX1_nodeAt) (maxL := 2) (ret := (some .int)) (by decide) rfl ?_
  intro p e s mt args below meth c s₁ B hml hv
  obtain ⟨rfl, hP, hK⟩ := hv
  have hx := B.exec
  have hb := B.bytes
  have hr := B.returns
  have hts := atoms_spec (ws := wsX1_nodeAt) B.pre
  have hown : s.vm.findClass RX1 = some mt.cls := findClass_of_methodNamed B.named
  have hlocks := B.notSynchronized
  have i1 : ∀ w ∈ wsX10, w ∈ wsX1_nodeAt := by decide +kernel
  have hl := lv_entry ([.ref (a 8), .int x]) (n := 2) (Nat.le_of_ble_eq_true rfl)
  rw [lg_entry_eq]
  generalize (lg_sl ([.ref (a 8), .int x]) ++ List.replicate (2 - (lg_sl ([.ref (a 8), .int x])).length) Slot.unset).toArray = ls at hl ⊢
  have hl : lv_has ls 2 [(0, .ref (a 8)), (1, .int x)] := hl
  obtain ⟨hoc, hod⟩ := ho
  refine lv_iload_n hx hb dX1_nodeAt_0 rfl (lv_at hl 1 rfl) ?_
  refine lv_if_lt (tgt := 12) hx hb dX1_nodeAt_1 (by decide) (fun c1 => ?_) (fun c1 => ?_)
  · refine lv_iconst (v := (-1)) hx hb dX1_nodeAt_12 (by decide) ?_
    refine lv_goto (tgt := 22) hx hb dX1_nodeAt_13 (by decide) ?_
    exact W.iret (v := (-1)) hx hb hr (fun t ht hW => ⟨_, rfl, (by first | (simp [ndO, c1, oI]; done) | (simp [ndO, c1, c9, oI]; done) | (rw [ndO, if_neg c1, if_pos c9, nI_clamp hy]; rfl)), ht⟩) (fun q h => absurd h List.not_mem_nil) dX1_nodeAt_22
  · refine lv_iload_n hx hb dX1_nodeAt_4 rfl (lv_at hl 1 rfl) ?_
    refine lv_aload_n hx hb dX1_nodeAt_5 rfl (lv_at hl 0 rfl) ?_
    refine va_get (D := D) (ci := 1) (v := .int (nI oc)) (C := RX1) (T := TX1) (N := 8) hx hb hts i1 hown hK hP 8 rfl rfl 3 (by decide) (hts (.fieldLink RX1 23 "SignedPaths$Ringless" "orderedCount" "I") (by decide +kernel)) (fun _ h9 => h9) rfl dX1_nodeAt_6 ?_
    refine lv_icmp_lt (tgt := 16) hx hb dX1_nodeAt_9 (by decide) (fun c9 => ?_) (fun c9 => ?_)
    · obtain ⟨y, hy, rfl⟩ := nI_of c1
      have hyo : y < oc := (nI_ltI hy (by omega)).mp c9
      refine lv_aload_n hx hb dX1_nodeAt_16 rfl (lv_at hl 0 rfl) ?_
      refine va_get (D := D) (ci := 1) (v := .ref (a 9)) (C := RX1) (T := TX1) (N := 8) hx hb hts i1 hown hK hP 8 rfl rfl 1 (by decide) (hts (.fieldLink RX1 15 "SignedPaths$Ringless" "ordered" "[I") (by decide +kernel)) (fun _ h9 => h9) rfl dX1_nodeAt_17 ?_
      refine lv_iload_n hx hb dX1_nodeAt_20 rfl (lv_at hl 1 rfl) ?_
      refine rn_iald (v := nI (od y)) hx hb hK hP 9 0 rfl rfl (by omega) (by decide) rfl dX1_nodeAt_21 ?_
      exact W.iret (v := nI (od y)) hx hb hr (fun t ht hW => ⟨_, rfl, (by first | (simp [ndO, c1, oI]; done) | (simp [ndO, c1, c9, oI]; done) | (rw [ndO, if_neg c1, if_pos c9, nI_clamp hy]; rfl)), ht⟩) (fun q h => absurd h List.not_mem_nil) dX1_nodeAt_22
    · refine lv_iconst (v := (-1)) hx hb dX1_nodeAt_12 (by decide) ?_
      refine lv_goto (tgt := 22) hx hb dX1_nodeAt_13 (by decide) ?_
      exact W.iret (v := (-1)) hx hb hr (fun t ht hW => ⟨_, rfl, (by first | (simp [ndO, c1, oI]; done) | (simp [ndO, c1, c9, oI]; done) | (rw [ndO, if_neg c1, if_pos c9, nI_clamp hy]; rfl)), ht⟩) (fun q h => absurd h List.not_mem_nil) dX1_nodeAt_22
set_option maxHeartbeats 4000000 in
set_option maxRecDepth 100000 in
theorem c1_latest (l : Launch) {D : va_G} {k : Nat → ClassId} {a : Nat → Nat} {n : Nat} {m : Nat} {ch : Int32} {fr : Nat → Nat} {to : Nat → Nat} {w : Nat → Int32} {th : Nat → Bool} {L : Nat → Nat → Int32} {la : Nat} {sw : Int32} {od : Nat → Nat} {io : Nat → Bool} {oc : Nat} {fa : Nat → Int32} {on : Nat → Nat → Int32} {gr : Int32} {sr : Int32} (ha : inj 46 a) (u : Nat) (hu : u < 12) : Met l yX1_latest wsX1_latest ({ frames := 0, cells := 0, slots := 0, locals := 0 }) (gPc D k (cW k a n m ch fr to w th L la sw od io oc fa on gr sr) [.ref (a 8), .int (nI u)]) (vp_Si (fun r => r = gr - on 11 u)) 0 0 nF := by
  refine Met.ofW (cc := cX1_latest) (maxL := 2) (ret := (some .int)) (by decide) rfl ?_
  intro p e s mt args below meth c s₁ B hml hv
  obtain ⟨rfl, hP, hK⟩ := hv
  have hx := B.exec
  have hb := B.bytes
  have hr := B.returns
  have hts := atoms_spec (ws := wsX1_latest) B.pre
  have hown : s.vm.findClass RX1 = some mt.cls := findClass_of_methodNamed B.named
  have hlocks := B.notSynchronized
  have i1 : ∀ w ∈ wsX10, w ∈ wsX1_latest := by decide +kernel
  have hl := lv_entry ([.ref (a 8), .int (nI u)]) (n := 2) (Nat.le_of_ble_eq_true rfl)
  rw [lg_entry_eq]
  generalize (lg_sl ([.ref (a 8), .int (nI u)]) ++ List.replicate (2 - (lg_sl ([.ref (a 8), .int (nI u)])).length) Slot.unset).toArray = ls at hl ⊢
  have hl : lv_has ls 2 [(0, .ref (a 8)), (1, .int (nI u))] := hl
  refine lv_aload_n hx hb dX1_latest_0 rfl (lv_at hl 0 rfl) ?_
  refine va_get (D := D) (ci := 1) (v := .int gr) (C := RX1) (T := TX1) (N := 8) hx hb hts i1 hown hK hP 8 rfl rfl 6 (by decide) (hts (.fieldLink RX1 35 "SignedPaths$Ringless" "greatest" "I") (by decide +kernel)) (fun _ h9 => h9) rfl dX1_latest_1 ?_
  refine lv_aload_n hx hb dX1_latest_4 rfl (lv_at hl 0 rfl) ?_
  refine va_get (D := D) (ci := 1) (v := .ref (a 12)) (C := RX1) (T := TX1) (N := 8) hx hb hts i1 hown hK hP 8 rfl rfl 5 (by decide) (hts (.fieldLink RX1 32 "SignedPaths$Ringless" "onward" "[[I") (by decide +kernel)) (fun _ h9 => h9) rfl dX1_latest_5 ?_
  refine lv_bipush (v := nI 11) hx hb dX1_latest_8 (by decide) ?_
  refine rn_aald (y := a (34 + 11)) hx hb hK hP 12 2 rfl rfl (by omega) (by decide) (if_pos (by omega)) dX1_latest_10 ?_
  refine lv_iload_n hx hb dX1_latest_11 rfl (lv_at hl 1 rfl) ?_
  refine rn_iald (v := on 11 u) hx hb hK hP (34 + 11) 0 (cW_onr (by omega)) rfl (by omega) (by decide) rfl dX1_latest_12 ?_
  refine lv_isub hx hb dX1_latest_13 ?_
  exact W.iret (v := gr - (on 11 u)) hx hb hr (fun t ht hW => ⟨_, rfl, rfl, ht⟩) (fun q h => absurd h List.not_mem_nil) dX1_latest_14
set_option maxHeartbeats 4000000 in
set_option maxRecDepth 100000 in
theorem c1_isGreatestWithin (l : Launch) {D : va_G} {k : Nat → ClassId} {a : Nat → Nat} {n : Nat} {m : Nat} {ch : Int32} {fr : Nat → Nat} {to : Nat → Nat} {w : Nat → Int32} {th : Nat → Bool} {L : Nat → Nat → Int32} {la : Nat} {sw : Int32} {od : Nat → Nat} {io : Nat → Bool} {oc : Nat} {fa : Nat → Int32} {on : Nat → Nat → Int32} {gr : Int32} {sr : Int32} (ha : inj 46 a) (b : Nat) (hg : gOK n m fr to) (hb1 : b < 12) : Met l yX1_isGreatestWithin wsX1_isGreatestWithin ({ frames := 0, cells := 0, slots := 0, locals := 0 }) (gPc D k (cW k a n m ch fr to w th L la sw od io oc fa on gr sr) [.ref (a 8), .int (nI b)]) (vp_Si (fun r => r = bI (gwB n on gr b))) 0 0 nF := by
  refine Met.ofW (cc := cX1_isGreatestWithin) (maxL := 3) (ret := (some .boolean)) (by decide) rfl ?_
  intro p e s mt args below meth c s₁ B hml hv
  obtain ⟨rfl, hP, hK⟩ := hv
  have hx := B.exec
  have hb := B.bytes
  have hr := B.returns
  have hts := atoms_spec (ws := wsX1_isGreatestWithin) B.pre
  have hown : s.vm.findClass RX1 = some mt.cls := findClass_of_methodNamed B.named
  have hlocks := B.notSynchronized
  have i0 : ∀ w ∈ wsX00, w ∈ wsX1_isGreatestWithin := by decide +kernel
  have i1 : ∀ w ∈ wsX10, w ∈ wsX1_isGreatestWithin := by decide +kernel
  have hl := lv_entry ([.ref (a 8), .int (nI b)]) (n := 3) (Nat.le_of_ble_eq_true rfl)
  rw [lg_entry_eq]
  generalize (lg_sl ([.ref (a 8), .int (nI b)]) ++ List.replicate (3 - (lg_sl ([.ref (a 8), .int (nI b)])).length) Slot.unset).toArray = ls at hl ⊢
  have hl : lv_has ls 3 [(0, .ref (a 8)), (1, .int (nI b))] := hl
  obtain ⟨Q, hQ⟩ : ∃ Q, Q = MQ below (vp_Si (fun r => r = bI (gwB n on gr b))) ([.ref (a 8), .int (nI b)] : List Value).toArray s 0 0 nF := ⟨_, rfl⟩
  rw [← hQ]
  obtain ⟨hn12, hm40, hft⟩ := id hg
  refine lv_iconst (v := nI 0) hx hb dX1_isGreatestWithin_0 (by decide) ?_
  refine lv_istore_n (lv' := [(2, .int (nI 0)), (0, .ref (a 8)), (1, .int (nI b))]) hx hb dX1_isGreatestWithin_1 rfl hl (by decide) rfl (fun ls hl => ?_)
  have key2 : ∀ (f2 i : Nat), n + 1 ≤ i + f2 → i ≤ n → (∀ j, j < i → gwP on gr b j = false) → ∀ (ls : Array Slot), lv_has ls 3 [(0, .ref (a 8)), (1, .int (nI b)), (2, .int (nI i))] → W p l e (headSpec wsX1_isGreatestWithin { frames := 0, cells := 0, slots := 0, locals := 0 }).room s mt ([.ref (a 8), .int (nI b)] : List Value).toArray below meth c s.heap [] 0 0 Q (F0 mt 2 ls []) := by
    intro f2
    induction f2 with
    | zero => intro i h1 h2; exact absurd h1 (by omega)
    | succ f2 ih2 =>
      intro i hf2 hi2  hv2 ls hl
      refine lv_iload_n hx hb dX1_isGreatestWithin_2 rfl (lv_at hl 2 rfl) ?_
      refine lv_aload_n hx hb dX1_isGreatestWithin_3 rfl (lv_at hl 0 rfl) ?_
      refine va_get (D := D) (ci := 1) (v := .ref (a 1)) (C := RX1) (T := TX1) (N := 8) hx hb hts i1 hown hK hP 8 rfl rfl 0 (by decide) (hts (.fieldLink RX1 9 "SignedPaths$Ringless" "graph" "LSignedPaths$Graph;") (by decide +kernel)) (fun _ h9 => h9) rfl dX1_isGreatestWithin_4 ?_
      refine va_get (D := D) (ci := 0) (v := .int (nI n)) (C := RX0) (T := TX0) (N := 7) hx hb hts i0 hown hK hP 1 rfl rfl 0 (by decide) (hts (.fieldLink RX1 62 "SignedPaths$Graph" "nodes" "I") (by decide +kernel)) (fun _ h9 => h9) rfl dX1_isGreatestWithin_7 ?_
      refine rn_icmp_ge (tgt := 36) hx hb dX1_isGreatestWithin_10 (by decide) (by omega) (by omega) (fun c10 => ?_) (fun c10 => ?_)
      · refine lv_iconst (v := 0) hx hb dX1_isGreatestWithin_36 (by decide) ?_
        rw [hQ]
        exact W.zret (v := 0) hx hb hr (by decide) (fun t ht hW => ⟨_, rfl, (by rw [gwB, fst_no (fun j hj => hv2 j (by omega))]; rfl), ht⟩) (fun q h => absurd h List.not_mem_nil) dX1_isGreatestWithin_37
      · refine lv_aload_n hx hb dX1_isGreatestWithin_13 rfl (lv_at hl 0 rfl) ?_
        refine va_get (D := D) (ci := 1) (v := .ref (a 12)) (C := RX1) (T := TX1) (N := 8) hx hb hts i1 hown hK hP 8 rfl rfl 5 (by decide) (hts (.fieldLink RX1 32 "SignedPaths$Ringless" "onward" "[[I") (by decide +kernel)) (fun _ h9 => h9) rfl dX1_isGreatestWithin_14 ?_
        refine lv_iload_n hx hb dX1_isGreatestWithin_17 rfl (lv_at hl 1 rfl) ?_
        refine rn_aald (y := a (34 + b)) hx hb hK hP 12 2 rfl rfl (by omega) (by decide) (if_pos (by omega)) dX1_isGreatestWithin_18 ?_
        refine lv_iload_n hx hb dX1_isGreatestWithin_19 rfl (lv_at hl 2 rfl) ?_
        refine rn_iald (v := on b i) hx hb hK hP (34 + b) 0 (cW_onr (by omega)) rfl (by omega) (by decide) rfl dX1_isGreatestWithin_20 ?_
        refine lv_aload_n hx hb dX1_isGreatestWithin_21 rfl (lv_at hl 0 rfl) ?_
        refine va_get (D := D) (ci := 1) (v := .int gr) (C := RX1) (T := TX1) (N := 8) hx hb hts i1 hown hK hP 8 rfl rfl 6 (by decide) (hts (.fieldLink RX1 35 "SignedPaths$Ringless" "greatest" "I") (by decide +kernel)) (fun _ h9 => h9) rfl dX1_isGreatestWithin_22 ?_
        refine lv_icmp_ne (tgt := 30) hx hb dX1_isGreatestWithin_25 (by decide) (fun c25 => ?_) (fun c25 => ?_)
        · refine lv_iinc (v := nI (i + 1)) (lv' := [(2, .int (nI (i + 1))), (0, .ref (a 8)), (1, .int (nI b))]) hx hb dX1_isGreatestWithin_30 hl (k := 2) rfl (nI_1 i) (by decide) rfl (fun ls hl => ?_)
          refine lv_goto (tgt := 2) hx hb dX1_isGreatestWithin_33 (by decide) ?_
          exact ih2 (i + 1) (by omega) (by omega) (lt_s hv2 (by simp [gwP, c25])) ls (lv_sub hl [1, 2, 0] rfl)
        · refine lv_iconst (v := 1) hx hb dX1_isGreatestWithin_28 (by decide) ?_
          rw [hQ]
          exact W.zret (v := 1) hx hb hr (by decide) (fun t ht hW => ⟨_, rfl, (by rw [gwB, fst_yes hv2 (by simp [gwP, c25]) c10]; rfl), ht⟩) (fun q h => absurd h List.not_mem_nil) dX1_isGreatestWithin_29
  exact key2 (n + 1) 0 (by omega) (by omega) (fun j h => absurd h (Nat.not_lt_zero j)) ls (lv_sub hl [1, 2, 0] rfl)
set_option maxHeartbeats 4000000 in
set_option maxRecDepth 100000 in
theorem c1_criticalLength (l : Launch) {D : va_G} {k : Nat → ClassId} {a : Nat → Nat} {n : Nat} {m : Nat} {ch : Int32} {fr : Nat → Nat} {to : Nat → Nat} {w : Nat → Int32} {th : Nat → Bool} {L : Nat → Nat → Int32} {la : Nat} {sw : Int32} {od : Nat → Nat} {io : Nat → Bool} {oc : Nat} {fa : Nat → Int32} {on : Nat → Nat → Int32} {gr : Int32} {sr : Int32} (ha : inj 46 a)  (hg : gOK n m fr to) : Met l yX1_criticalLength wsX1_criticalLength ({ frames := 1, cells := 0, slots := 0, locals := 22 }) (gPc D k (cW k a n m ch fr to w th L la sw od io oc fa on gr sr) [.ref (a 8)]) (vp_Si (fun r => r = nI (clN n on gr))) 0 0 nF := by
  refine Met.ofW (cc := cX1_criticalLength) (maxL := 2) (ret := (some .int)) (by decide) rfl ?_
  intro p e s mt args below meth c s₁ B hml hv
  obtain ⟨rfl, hP, hK⟩ := hv
  have hx := B.exec
  have hb := B.bytes
  have hr := B.returns
  have hts := atoms_spec (ws := wsX1_criticalLength) B.pre
  have hown : s.vm.findClass RX1 = some mt.cls := findClass_of_methodNamed B.named
  have hlocks := B.notSynchronized
  have i1 : ∀ w ∈ wsX10, w ∈ wsX1_criticalLength := by decide +kernel
  have hl := lv_entry ([.ref (a 8)]) (n := 2) (Nat.le_of_ble_eq_true rfl)
  rw [lg_entry_eq]
  generalize (lg_sl ([.ref (a 8)]) ++ List.replicate (2 - (lg_sl ([.ref (a 8)])).length) Slot.unset).toArray = ls at hl ⊢
  have hl : lv_has ls 2 [(0, .ref (a 8))] := hl
  obtain ⟨Q, hQ⟩ : ∃ Q, Q = MQ below (vp_Si (fun r => r = nI (clN n on gr))) ([.ref (a 8)] : List Value).toArray s 0 0 nF := ⟨_, rfl⟩
  rw [← hQ]
  obtain ⟨hn12, hm40, hft⟩ := id hg
  refine lv_iconst (v := nI 0) hx hb dX1_criticalLength_0 (by decide) ?_
  refine lv_istore_n (lv' := [(1, .int (nI 0)), (0, .ref (a 8))]) hx hb dX1_criticalLength_1 rfl hl (by decide) rfl (fun ls hl => ?_)
  have key2 : ∀ (f2 i : Nat), 12 + 1 ≤ i + f2 → i ≤ 12 → (∀ j, j < i → gwB n on gr j = false) → ∀ (ls : Array Slot), lv_has ls 2 [(0, .ref (a 8)), (1, .int (nI i))] → W p l e (headSpec wsX1_criticalLength { frames := 1, cells := 0, slots := 0, locals := 22 }).room s mt ([.ref (a 8)] : List Value).toArray below meth c s.heap [] 0 0 Q (F0 mt 2 ls []) := by
    intro f2
    induction f2 with
    | zero => intro i h1 h2; exact absurd h1 (by omega)
    | succ f2 ih2 =>
      intro i hf2 hi2  hv2 ls hl
      refine lv_iload_n hx hb dX1_criticalLength_2 rfl (lv_at hl 1 rfl) ?_
      refine lv_bipush (v := nI 12) hx hb dX1_criticalLength_3 (by decide) ?_
      refine rn_icmp_ge (tgt := 24) hx hb dX1_criticalLength_5 (by decide) (by omega) (by omega) (fun c5 => ?_) (fun c5 => ?_)
      · refine lv_iconst (v := 0) hx hb dX1_criticalLength_24 (by decide) ?_
        rw [hQ]
        exact W.iret (v := 0) hx hb hr (fun t ht hW => ⟨_, rfl, (by rw [clN, fst_no (fun j hj => hv2 j (by omega))]; rfl), ht⟩) (fun q h => absurd h List.not_mem_nil) dX1_criticalLength_25
      · refine lv_aload_n hx hb dX1_criticalLength_8 rfl (lv_at hl 0 rfl) ?_
        refine lv_iload_n hx hb dX1_criticalLength_9 rfl (lv_at hl 1 rfl) ?_
        refine cl_Si (As := [.int (nI i)]) (rest := []) ⟨hx, hb, hml, hown, hts⟩ (c1_isGreatestWithin l ha i hg (by omega)) (cwV 1 hts gX1_criticalLength_X1_isGreatestWithin rfl rfl rfl (by decide +kernel) ⟨Nat.le_of_ble_eq_true rfl, Nat.le_of_ble_eq_true rfl⟩) hK hP (ci := 1) (q0 := 8) rfl rfl rfl rfl hl.1 rfl (Nat.le_of_ble_eq_true rfl) dX1_criticalLength_10 ⟨Nat.zero_le _, Nat.zero_le _⟩ (fun r10 h10 => ?_)
        subst h10
        refine rn_ifeqb (tgt := 18) hx hb dX1_criticalLength_13 (by decide) (fun c13 => ?_) (fun c13 => ?_)
        · refine lv_iinc (v := nI (i + 1)) (lv' := [(1, .int (nI (i + 1))), (0, .ref (a 8))]) hx hb dX1_criticalLength_18 hl (k := 1) rfl (nI_1 i) (by decide) rfl (fun ls hl => ?_)
          refine lv_goto (tgt := 2) hx hb dX1_criticalLength_21 (by decide) ?_
          exact ih2 (i + 1) (by omega) (by omega) (lt_s hv2 c13) ls (lv_sub hl [1, 0] rfl)
        · refine lv_iload_n hx hb dX1_criticalLength_16 rfl (lv_at hl 1 rfl) ?_
          rw [hQ]
          exact W.iret (v := nI i) hx hb hr (fun t ht hW => ⟨_, rfl, (by rw [clN, fst_yes hv2 c13 c5]; rfl), ht⟩) (fun q h => absurd h List.not_mem_nil) dX1_criticalLength_17
  exact key2 (12 + 1) 0 (by omega) (by omega) (fun j h => absurd h (Nat.not_lt_zero j)) ls (lv_sub hl [1, 0] rfl)
set_option maxHeartbeats 4000000 in
set_option maxRecDepth 100000 in
theorem c1_firstCriticalArc (l : Launch) {D : va_G} {k : Nat → ClassId} {a : Nat → Nat} {n : Nat} {m : Nat} {ch : Int32} {fr : Nat → Nat} {to : Nat → Nat} {w : Nat → Int32} {th : Nat → Bool} {L : Nat → Nat → Int32} {la : Nat} {sw : Int32} {od : Nat → Nat} {io : Nat → Bool} {oc : Nat} {fa : Nat → Int32} {on : Nat → Nat → Int32} {gr : Int32} {sr : Int32} (ha : inj 46 a) (z : Int32) (b : Nat) (q : Int32) (hg : gOK n m fr to) (hb1 : b < 12) : Met l yX1_firstCriticalArc wsX1_firstCriticalArc ({ frames := 0, cells := 0, slots := 0, locals := 0 }) (gPc D k (cW k a n m ch fr to w th L la sw od io oc fa on gr sr) [.ref (a 8), .int z, .int (nI b), .int q]) (vp_Si (fun r => r = oI (fst (fcP fr to w th on z b q) m))) 0 0 nF := by
  refine Met.ofW (cc := cX1_firstCriticalArc) (maxL := 6) (ret := (some .int)) (by decide) rfl ?_
  intro p e s mt args below meth c s₁ B hml hv
  obtain ⟨rfl, hP, hK⟩ := hv
  have hx := B.exec
  have hb := B.bytes
  have hr := B.returns
  have hts := atoms_spec (ws := wsX1_firstCriticalArc) B.pre
  have hown : s.vm.findClass RX1 = some mt.cls := findClass_of_methodNamed B.named
  have hlocks := B.notSynchronized
  have i0 : ∀ w ∈ wsX00, w ∈ wsX1_firstCriticalArc := by decide +kernel
  have i1 : ∀ w ∈ wsX10, w ∈ wsX1_firstCriticalArc := by decide +kernel
  have hl := lv_entry ([.ref (a 8), .int z, .int (nI b), .int q]) (n := 6) (Nat.le_of_ble_eq_true rfl)
  rw [lg_entry_eq]
  generalize (lg_sl ([.ref (a 8), .int z, .int (nI b), .int q]) ++ List.replicate (6 - (lg_sl ([.ref (a 8), .int z, .int (nI b), .int q])).length) Slot.unset).toArray = ls at hl ⊢
  have hl : lv_has ls 6 [(0, .ref (a 8)), (1, .int z), (2, .int (nI b)), (3, .int q)] := hl
  obtain ⟨Q, hQ⟩ : ∃ Q, Q = MQ below (vp_Si (fun r => r = oI (fst (fcP fr to w th on z b q) m))) ([.ref (a 8), .int z, .int (nI b), .int q] : List Value).toArray s 0 0 nF := ⟨_, rfl⟩
  rw [← hQ]
  obtain ⟨hn12, hm40, hft⟩ := id hg
  refine lv_iconst (v := nI 0) hx hb dX1_firstCriticalArc_0 (by decide) ?_
  refine lv_istore (lv' := [(4, .int (nI 0)), (0, .ref (a 8)), (1, .int z), (2, .int (nI b)), (3, .int q)]) hx hb dX1_firstCriticalArc_1 hl (by decide) rfl (fun ls hl => ?_)
  have key3 : ∀ (f3 i : Nat), m + 1 ≤ i + f3 → i ≤ m → (∀ j, j < i → fcP fr to w th on z b q j = false) → ∀ (ls : Array Slot), lv_has ls 6 [(0, .ref (a 8)), (1, .int z), (2, .int (nI b)), (3, .int q), (4, .int (nI i))] → W p l e (headSpec wsX1_firstCriticalArc { frames := 0, cells := 0, slots := 0, locals := 0 }).room s mt ([.ref (a 8), .int z, .int (nI b), .int q] : List Value).toArray below meth c s.heap [] 0 0 Q (F0 mt 3 ls []) := by
    intro f3
    induction f3 with
    | zero => intro i h1 h2; exact absurd h1 (by omega)
    | succ f3 ih3 =>
      intro i hf3 hi3  hv3 ls hl
      refine lv_iload hx hb dX1_firstCriticalArc_3 (lv_at hl 4 rfl) ?_
      refine lv_aload_n hx hb dX1_firstCriticalArc_5 rfl (lv_at hl 0 rfl) ?_
      refine va_get (D := D) (ci := 1) (v := .ref (a 1)) (C := RX1) (T := TX1) (N := 8) hx hb hts i1 hown hK hP 8 rfl rfl 0 (by decide) (hts (.fieldLink RX1 9 "SignedPaths$Ringless" "graph" "LSignedPaths$Graph;") (by decide +kernel)) (fun _ h9 => h9) rfl dX1_firstCriticalArc_6 ?_
      refine va_get (D := D) (ci := 0) (v := .int (nI m)) (C := RX0) (T := TX0) (N := 7) hx hb hts i0 hown hK hP 1 rfl rfl 1 (by decide) (hts (.fieldLink RX1 73 "SignedPaths$Graph" "arcs" "I") (by decide +kernel)) (fun _ h9 => h9) rfl dX1_firstCriticalArc_9 ?_
      refine rn_icmp_ge (tgt := 100) hx hb dX1_firstCriticalArc_12 (by decide) (by omega) (by omega) (fun c12 => ?_) (fun c12 => ?_)
      · refine lv_iconst (v := (-1)) hx hb dX1_firstCriticalArc_100 (by decide) ?_
        rw [hQ]
        exact W.iret (v := (-1)) hx hb hr (fun t ht hW => ⟨_, rfl, (by rw [fst_no (fun j hj => hv3 j (by omega))]; rfl), ht⟩) (fun q h => absurd h List.not_mem_nil) dX1_firstCriticalArc_101
      · have hi2 := hft i c12
        refine lv_iload_n hx hb dX1_firstCriticalArc_15 rfl (lv_at hl 1 rfl) ?_
        refine lv_iconst (v := (-1)) hx hb dX1_firstCriticalArc_16 (by decide) ?_
        refine lv_icmp_eq (tgt := 34) hx hb dX1_firstCriticalArc_17 (by decide) (fun c17 => ?_) (fun c17 => ?_)
        · refine lv_iconst (v := nI 1) hx hb dX1_firstCriticalArc_34 (by decide) ?_
          refine lv_goto (tgt := 39) hx hb dX1_firstCriticalArc_35 (by decide) ?_
          refine lv_istore (lv' := [(5, .int (nI 1)), (0, .ref (a 8)), (1, .int z), (2, .int (nI b)), (3, .int q), (4, .int (nI i))]) hx hb dX1_firstCriticalArc_39 hl (by decide) rfl (fun ls hl => ?_)
          refine lv_aload_n hx hb dX1_firstCriticalArc_41 rfl (lv_at hl 1 rfl) ?_
          refine va_get (D := D) (ci := 1) (v := .ref (a 1)) (C := RX1) (T := TX1) (N := 8) hx hb hts i1 hown hK hP 8 rfl rfl 0 (by decide) (hts (.fieldLink RX1 9 "SignedPaths$Ringless" "graph" "LSignedPaths$Graph;") (by decide +kernel)) (fun _ h9 => h9) rfl dX1_firstCriticalArc_42 ?_
          refine va_get (D := D) (ci := 0) (v := .ref (a 5)) (C := RX0) (T := TX0) (N := 7) hx hb hts i0 hown hK hP 1 rfl rfl 6 (by decide) (hts (.fieldLink RX1 76 "SignedPaths$Graph" "there" "[Z") (by decide +kernel)) (fun _ h9 => h9) rfl dX1_firstCriticalArc_45 ?_
          refine lv_iload hx hb dX1_firstCriticalArc_48 (lv_at hl 5 rfl) ?_
          refine rn_zald (v := bI (th i)) hx hb hK hP 5 1 rfl rfl (by omega) (by decide) rfl dX1_firstCriticalArc_50 ?_
          refine rn_ifeqb (tgt := 94) hx hb dX1_firstCriticalArc_51 (by decide) (fun c51 => ?_) (fun c51 => ?_)
          · refine lv_iinc (v := nI (i + 1)) (lv' := [(4, .int (nI (i + 1))), (5, .int (nI 1)), (0, .ref (a 8)), (1, .int z), (2, .int (nI b)), (3, .int q)]) hx hb dX1_firstCriticalArc_94 hl (k := 5) rfl (nI_1 i) (by decide) rfl (fun ls hl => ?_)
            refine lv_goto (tgt := 3) hx hb dX1_firstCriticalArc_97 (by decide) ?_
            exact ih3 (i + 1) (by omega) (by omega) (lt_s hv3 (by simp [fcP, c51])) ls (lv_sub hl [2, 3, 4, 5, 0] rfl)
          · refine lv_iload hx hb dX1_firstCriticalArc_54 (lv_at hl 0 rfl) ?_
            refine lv_if_eq (tgt := 94) hx hb dX1_firstCriticalArc_56 (by decide) (fun c => absurd c (by decide)) (fun _ => ?_)
            refine lv_aload_n hx hb dX1_firstCriticalArc_59 rfl (lv_at hl 1 rfl) ?_
            refine va_get (D := D) (ci := 1) (v := .ref (a 1)) (C := RX1) (T := TX1) (N := 8) hx hb hts i1 hown hK hP 8 rfl rfl 0 (by decide) (hts (.fieldLink RX1 9 "SignedPaths$Ringless" "graph" "LSignedPaths$Graph;") (by decide +kernel)) (fun _ h9 => h9) rfl dX1_firstCriticalArc_60 ?_
            refine va_get (D := D) (ci := 0) (v := .ref (a 4)) (C := RX0) (T := TX0) (N := 7) hx hb hts i0 hown hK hP 1 rfl rfl 5 (by decide) (hts (.fieldLink RX1 89 "SignedPaths$Graph" "weight" "[I") (by decide +kernel)) (fun _ h9 => h9) rfl dX1_firstCriticalArc_63 ?_
            refine lv_iload hx hb dX1_firstCriticalArc_66 (lv_at hl 5 rfl) ?_
            refine rn_iald (v := w i) hx hb hK hP 4 0 rfl rfl (by omega) (by decide) rfl dX1_firstCriticalArc_68 ?_
            refine lv_aload_n hx hb dX1_firstCriticalArc_69 rfl (lv_at hl 1 rfl) ?_
            refine va_get (D := D) (ci := 1) (v := .ref (a 12)) (C := RX1) (T := TX1) (N := 8) hx hb hts i1 hown hK hP 8 rfl rfl 5 (by decide) (hts (.fieldLink RX1 32 "SignedPaths$Ringless" "onward" "[[I") (by decide +kernel)) (fun _ h9 => h9) rfl dX1_firstCriticalArc_70 ?_
            refine lv_iload_n hx hb dX1_firstCriticalArc_73 rfl (lv_at hl 3 rfl) ?_
            refine rn_aald (y := a (34 + b)) hx hb hK hP 12 2 rfl rfl (by omega) (by decide) (if_pos (by omega)) dX1_firstCriticalArc_74 ?_
            refine lv_aload_n hx hb dX1_firstCriticalArc_75 rfl (lv_at hl 1 rfl) ?_
            refine va_get (D := D) (ci := 1) (v := .ref (a 1)) (C := RX1) (T := TX1) (N := 8) hx hb hts i1 hown hK hP 8 rfl rfl 0 (by decide) (hts (.fieldLink RX1 9 "SignedPaths$Ringless" "graph" "LSignedPaths$Graph;") (by decide +kernel)) (fun _ h9 => h9) rfl dX1_firstCriticalArc_76 ?_
            refine va_get (D := D) (ci := 0) (v := .ref (a 3)) (C := RX0) (T := TX0) (N := 7) hx hb hts i0 hown hK hP 1 rfl rfl 4 (by decide) (hts (.fieldLink RX1 79 "SignedPaths$Graph" "to" "[I") (by decide +kernel)) (fun _ h9 => h9) rfl dX1_firstCriticalArc_79 ?_
            refine lv_iload hx hb dX1_firstCriticalArc_82 (lv_at hl 5 rfl) ?_
            refine rn_iald (v := nI (to i)) hx hb hK hP 3 0 rfl rfl (by omega) (by decide) rfl dX1_firstCriticalArc_84 ?_
            refine rn_iald (v := on b (to i)) hx hb hK hP (34 + b) 0 (cW_onr (by omega)) rfl (by omega) (by decide) rfl dX1_firstCriticalArc_85 ?_
            refine lv_iadd hx hb dX1_firstCriticalArc_86 ?_
            refine lv_iload_n hx hb dX1_firstCriticalArc_87 rfl (lv_at hl 4 rfl) ?_
            refine lv_icmp_ne (tgt := 94) hx hb dX1_firstCriticalArc_88 (by decide) (fun c88 => ?_) (fun c88 => ?_)
            · refine lv_iinc (v := nI (i + 1)) (lv' := [(4, .int (nI (i + 1))), (5, .int (nI 1)), (0, .ref (a 8)), (1, .int z), (2, .int (nI b)), (3, .int q)]) hx hb dX1_firstCriticalArc_94 hl (k := 5) rfl (nI_1 i) (by decide) rfl (fun ls hl => ?_)
              refine lv_goto (tgt := 3) hx hb dX1_firstCriticalArc_97 (by decide) ?_
              exact ih3 (i + 1) (by omega) (by omega) (lt_s hv3 (by simp [fcP, c88])) ls (lv_sub hl [2, 3, 4, 5, 0] rfl)
            · refine lv_iload hx hb dX1_firstCriticalArc_91 (lv_at hl 5 rfl) ?_
              rw [hQ]
              exact W.iret (v := nI i) hx hb hr (fun t ht hW => ⟨_, rfl, (by rw [fst_yes hv3 (by simp [fcP, c17, c51, c88]) c12]; rfl), ht⟩) (fun q h => absurd h List.not_mem_nil) dX1_firstCriticalArc_93
        · refine lv_aload_n hx hb dX1_firstCriticalArc_20 rfl (lv_at hl 0 rfl) ?_
          refine va_get (D := D) (ci := 1) (v := .ref (a 1)) (C := RX1) (T := TX1) (N := 8) hx hb hts i1 hown hK hP 8 rfl rfl 0 (by decide) (hts (.fieldLink RX1 9 "SignedPaths$Ringless" "graph" "LSignedPaths$Graph;") (by decide +kernel)) (fun _ h9 => h9) rfl dX1_firstCriticalArc_21 ?_
          refine va_get (D := D) (ci := 0) (v := .ref (a 2)) (C := RX0) (T := TX0) (N := 7) hx hb hts i0 hown hK hP 1 rfl rfl 3 (by decide) (hts (.fieldLink RX1 82 "SignedPaths$Graph" "from" "[I") (by decide +kernel)) (fun _ h9 => h9) rfl dX1_firstCriticalArc_24 ?_
          refine lv_iload hx hb dX1_firstCriticalArc_27 (lv_at hl 4 rfl) ?_
          refine rn_iald (v := nI (fr i)) hx hb hK hP 2 0 rfl rfl (by omega) (by decide) rfl dX1_firstCriticalArc_29 ?_
          refine lv_iload_n hx hb dX1_firstCriticalArc_30 rfl (lv_at hl 1 rfl) ?_
          refine lv_icmp_ne (tgt := 38) hx hb dX1_firstCriticalArc_31 (by decide) (fun c31 => ?_) (fun c31 => ?_)
          · refine lv_iconst (v := nI 0) hx hb dX1_firstCriticalArc_38 (by decide) ?_
            refine lv_istore (lv' := [(5, .int (nI 0)), (0, .ref (a 8)), (1, .int z), (2, .int (nI b)), (3, .int q), (4, .int (nI i))]) hx hb dX1_firstCriticalArc_39 hl (by decide) rfl (fun ls hl => ?_)
            refine lv_aload_n hx hb dX1_firstCriticalArc_41 rfl (lv_at hl 1 rfl) ?_
            refine va_get (D := D) (ci := 1) (v := .ref (a 1)) (C := RX1) (T := TX1) (N := 8) hx hb hts i1 hown hK hP 8 rfl rfl 0 (by decide) (hts (.fieldLink RX1 9 "SignedPaths$Ringless" "graph" "LSignedPaths$Graph;") (by decide +kernel)) (fun _ h9 => h9) rfl dX1_firstCriticalArc_42 ?_
            refine va_get (D := D) (ci := 0) (v := .ref (a 5)) (C := RX0) (T := TX0) (N := 7) hx hb hts i0 hown hK hP 1 rfl rfl 6 (by decide) (hts (.fieldLink RX1 76 "SignedPaths$Graph" "there" "[Z") (by decide +kernel)) (fun _ h9 => h9) rfl dX1_firstCriticalArc_45 ?_
            refine lv_iload hx hb dX1_firstCriticalArc_48 (lv_at hl 5 rfl) ?_
            refine rn_zald (v := bI (th i)) hx hb hK hP 5 1 rfl rfl (by omega) (by decide) rfl dX1_firstCriticalArc_50 ?_
            refine rn_ifeqb (tgt := 94) hx hb dX1_firstCriticalArc_51 (by decide) (fun c51 => ?_) (fun c51 => ?_)
            · refine lv_iinc (v := nI (i + 1)) (lv' := [(4, .int (nI (i + 1))), (5, .int (nI 0)), (0, .ref (a 8)), (1, .int z), (2, .int (nI b)), (3, .int q)]) hx hb dX1_firstCriticalArc_94 hl (k := 5) rfl (nI_1 i) (by decide) rfl (fun ls hl => ?_)
              refine lv_goto (tgt := 3) hx hb dX1_firstCriticalArc_97 (by decide) ?_
              exact ih3 (i + 1) (by omega) (by omega) (lt_s hv3 (by simp [fcP, c51])) ls (lv_sub hl [2, 3, 4, 5, 0] rfl)
            · refine lv_iload hx hb dX1_firstCriticalArc_54 (lv_at hl 0 rfl) ?_
              refine lv_if_eq (tgt := 94) hx hb dX1_firstCriticalArc_56 (by decide) (fun _ => ?_) (fun c => absurd (by decide) c)
              refine lv_iinc (v := nI (i + 1)) (lv' := [(4, .int (nI (i + 1))), (5, .int (nI 0)), (0, .ref (a 8)), (1, .int z), (2, .int (nI b)), (3, .int q)]) hx hb dX1_firstCriticalArc_94 hl (k := 5) rfl (nI_1 i) (by decide) rfl (fun ls hl => ?_)
              refine lv_goto (tgt := 3) hx hb dX1_firstCriticalArc_97 (by decide) ?_
              exact ih3 (i + 1) (by omega) (by omega) (lt_s hv3 (by simp [fcP, c17, c31])) ls (lv_sub hl [2, 3, 4, 5, 0] rfl)
          · refine lv_iconst (v := nI 1) hx hb dX1_firstCriticalArc_34 (by decide) ?_
            refine lv_goto (tgt := 39) hx hb dX1_firstCriticalArc_35 (by decide) ?_
            refine lv_istore (lv' := [(5, .int (nI 1)), (0, .ref (a 8)), (1, .int z), (2, .int (nI b)), (3, .int q), (4, .int (nI i))]) hx hb dX1_firstCriticalArc_39 hl (by decide) rfl (fun ls hl => ?_)
            refine lv_aload_n hx hb dX1_firstCriticalArc_41 rfl (lv_at hl 1 rfl) ?_
            refine va_get (D := D) (ci := 1) (v := .ref (a 1)) (C := RX1) (T := TX1) (N := 8) hx hb hts i1 hown hK hP 8 rfl rfl 0 (by decide) (hts (.fieldLink RX1 9 "SignedPaths$Ringless" "graph" "LSignedPaths$Graph;") (by decide +kernel)) (fun _ h9 => h9) rfl dX1_firstCriticalArc_42 ?_
            refine va_get (D := D) (ci := 0) (v := .ref (a 5)) (C := RX0) (T := TX0) (N := 7) hx hb hts i0 hown hK hP 1 rfl rfl 6 (by decide) (hts (.fieldLink RX1 76 "SignedPaths$Graph" "there" "[Z") (by decide +kernel)) (fun _ h9 => h9) rfl dX1_firstCriticalArc_45 ?_
            refine lv_iload hx hb dX1_firstCriticalArc_48 (lv_at hl 5 rfl) ?_
            refine rn_zald (v := bI (th i)) hx hb hK hP 5 1 rfl rfl (by omega) (by decide) rfl dX1_firstCriticalArc_50 ?_
            refine rn_ifeqb (tgt := 94) hx hb dX1_firstCriticalArc_51 (by decide) (fun c51 => ?_) (fun c51 => ?_)
            · refine lv_iinc (v := nI (i + 1)) (lv' := [(4, .int (nI (i + 1))), (5, .int (nI 1)), (0, .ref (a 8)), (1, .int z), (2, .int (nI b)), (3, .int q)]) hx hb dX1_firstCriticalArc_94 hl (k := 5) rfl (nI_1 i) (by decide) rfl (fun ls hl => ?_)
              refine lv_goto (tgt := 3) hx hb dX1_firstCriticalArc_97 (by decide) ?_
              exact ih3 (i + 1) (by omega) (by omega) (lt_s hv3 (by simp [fcP, c51])) ls (lv_sub hl [2, 3, 4, 5, 0] rfl)
            · refine lv_iload hx hb dX1_firstCriticalArc_54 (lv_at hl 0 rfl) ?_
              refine lv_if_eq (tgt := 94) hx hb dX1_firstCriticalArc_56 (by decide) (fun c => absurd c (by decide)) (fun _ => ?_)
              refine lv_aload_n hx hb dX1_firstCriticalArc_59 rfl (lv_at hl 1 rfl) ?_
              refine va_get (D := D) (ci := 1) (v := .ref (a 1)) (C := RX1) (T := TX1) (N := 8) hx hb hts i1 hown hK hP 8 rfl rfl 0 (by decide) (hts (.fieldLink RX1 9 "SignedPaths$Ringless" "graph" "LSignedPaths$Graph;") (by decide +kernel)) (fun _ h9 => h9) rfl dX1_firstCriticalArc_60 ?_
              refine va_get (D := D) (ci := 0) (v := .ref (a 4)) (C := RX0) (T := TX0) (N := 7) hx hb hts i0 hown hK hP 1 rfl rfl 5 (by decide) (hts (.fieldLink RX1 89 "SignedPaths$Graph" "weight" "[I") (by decide +kernel)) (fun _ h9 => h9) rfl dX1_firstCriticalArc_63 ?_
              refine lv_iload hx hb dX1_firstCriticalArc_66 (lv_at hl 5 rfl) ?_
              refine rn_iald (v := w i) hx hb hK hP 4 0 rfl rfl (by omega) (by decide) rfl dX1_firstCriticalArc_68 ?_
              refine lv_aload_n hx hb dX1_firstCriticalArc_69 rfl (lv_at hl 1 rfl) ?_
              refine va_get (D := D) (ci := 1) (v := .ref (a 12)) (C := RX1) (T := TX1) (N := 8) hx hb hts i1 hown hK hP 8 rfl rfl 5 (by decide) (hts (.fieldLink RX1 32 "SignedPaths$Ringless" "onward" "[[I") (by decide +kernel)) (fun _ h9 => h9) rfl dX1_firstCriticalArc_70 ?_
              refine lv_iload_n hx hb dX1_firstCriticalArc_73 rfl (lv_at hl 3 rfl) ?_
              refine rn_aald (y := a (34 + b)) hx hb hK hP 12 2 rfl rfl (by omega) (by decide) (if_pos (by omega)) dX1_firstCriticalArc_74 ?_
              refine lv_aload_n hx hb dX1_firstCriticalArc_75 rfl (lv_at hl 1 rfl) ?_
              refine va_get (D := D) (ci := 1) (v := .ref (a 1)) (C := RX1) (T := TX1) (N := 8) hx hb hts i1 hown hK hP 8 rfl rfl 0 (by decide) (hts (.fieldLink RX1 9 "SignedPaths$Ringless" "graph" "LSignedPaths$Graph;") (by decide +kernel)) (fun _ h9 => h9) rfl dX1_firstCriticalArc_76 ?_
              refine va_get (D := D) (ci := 0) (v := .ref (a 3)) (C := RX0) (T := TX0) (N := 7) hx hb hts i0 hown hK hP 1 rfl rfl 4 (by decide) (hts (.fieldLink RX1 79 "SignedPaths$Graph" "to" "[I") (by decide +kernel)) (fun _ h9 => h9) rfl dX1_firstCriticalArc_79 ?_
              refine lv_iload hx hb dX1_firstCriticalArc_82 (lv_at hl 5 rfl) ?_
              refine rn_iald (v := nI (to i)) hx hb hK hP 3 0 rfl rfl (by omega) (by decide) rfl dX1_firstCriticalArc_84 ?_
              refine rn_iald (v := on b (to i)) hx hb hK hP (34 + b) 0 (cW_onr (by omega)) rfl (by omega) (by decide) rfl dX1_firstCriticalArc_85 ?_
              refine lv_iadd hx hb dX1_firstCriticalArc_86 ?_
              refine lv_iload_n hx hb dX1_firstCriticalArc_87 rfl (lv_at hl 4 rfl) ?_
              refine lv_icmp_ne (tgt := 94) hx hb dX1_firstCriticalArc_88 (by decide) (fun c88 => ?_) (fun c88 => ?_)
              · refine lv_iinc (v := nI (i + 1)) (lv' := [(4, .int (nI (i + 1))), (5, .int (nI 1)), (0, .ref (a 8)), (1, .int z), (2, .int (nI b)), (3, .int q)]) hx hb dX1_firstCriticalArc_94 hl (k := 5) rfl (nI_1 i) (by decide) rfl (fun ls hl => ?_)
                refine lv_goto (tgt := 3) hx hb dX1_firstCriticalArc_97 (by decide) ?_
                exact ih3 (i + 1) (by omega) (by omega) (lt_s hv3 (by simp [fcP, c88])) ls (lv_sub hl [2, 3, 4, 5, 0] rfl)
              · refine lv_iload hx hb dX1_firstCriticalArc_91 (lv_at hl 5 rfl) ?_
                rw [hQ]
                exact W.iret (v := nI i) hx hb hr (fun t ht hW => ⟨_, rfl, (by rw [fst_yes hv3 (by simp [fcP, c17, c31, c51, c88]) c12]; rfl), ht⟩) (fun q h => absurd h List.not_mem_nil) dX1_firstCriticalArc_93
  exact key3 (m + 1) 0 (by omega) (by omega) (fun j h => absurd h (Nat.not_lt_zero j)) ls (lv_sub hl [1, 2, 3, 4, 0] rfl)
set_option maxHeartbeats 4000000 in
set_option maxRecDepth 100000 in
theorem c1_criticalArc (l : Launch) {D : va_G} {k : Nat → ClassId} {a : Nat → Nat} {n : Nat} {m : Nat} {ch : Int32} {fr : Nat → Nat} {to : Nat → Nat} {w : Nat → Int32} {th : Nat → Bool} {L : Nat → Nat → Int32} {la : Nat} {sw : Int32} {od : Nat → Nat} {io : Nat → Bool} {oc : Nat} {fa : Nat → Int32} {on : Nat → Nat → Int32} {gr : Int32} {sr : Int32} (ha : inj 46 a) (x : Int32) (hg : gOK n m fr to) : Met l yX1_criticalArc wsX1_criticalArc ({ frames := 2, cells := 0, slots := 0, locals := 43 }) (gPc D k (cW k a n m ch fr to w th L la sw od io oc fa on gr sr) [.ref (a 8), .int x]) (vp_Si (fun r => r = oI (crX n m fr to w th on gr x))) 0 0 nF := by
  refine Met.ofW (cc := cX1_criticalArc) (maxL := 7) (ret := (some .int)) (by decide) rfl ?_
  intro p e s mt args below meth c s₁ B hml hv
  obtain ⟨rfl, hP, hK⟩ := hv
  have hx := B.exec
  have hb := B.bytes
  have hr := B.returns
  have hts := atoms_spec (ws := wsX1_criticalArc) B.pre
  have hown : s.vm.findClass RX1 = some mt.cls := findClass_of_methodNamed B.named
  have hlocks := B.notSynchronized
  have i0 : ∀ w ∈ wsX00, w ∈ wsX1_criticalArc := by decide +kernel
  have i1 : ∀ w ∈ wsX10, w ∈ wsX1_criticalArc := by decide +kernel
  have hl := lv_entry ([.ref (a 8), .int x]) (n := 7) (Nat.le_of_ble_eq_true rfl)
  rw [lg_entry_eq]
  generalize (lg_sl ([.ref (a 8), .int x]) ++ List.replicate (7 - (lg_sl ([.ref (a 8), .int x])).length) Slot.unset).toArray = ls at hl ⊢
  have hl : lv_has ls 7 [(0, .ref (a 8)), (1, .int x)] := hl
  obtain ⟨Q, hQ⟩ : ∃ Q, Q = MQ below (vp_Si (fun r => r = oI (crX n m fr to w th on gr x))) ([.ref (a 8), .int x] : List Value).toArray s 0 0 nF := ⟨_, rfl⟩
  rw [← hQ]
  obtain ⟨hn12, hm40, hft⟩ := id hg
  have hs11 := clN_le n on gr
  refine lv_aload_n hx hb dX1_criticalArc_0 rfl (lv_at hl 0 rfl) ?_
  refine cl_Si (As := []) (rest := []) ⟨hx, hb, hml, hown, hts⟩ (c1_criticalLength l ha  hg) (cwV 0 hts gX1_criticalArc_X1_criticalLength rfl rfl rfl (by decide +kernel) ⟨Nat.le_of_ble_eq_true rfl, Nat.le_of_ble_eq_true rfl⟩) hK hP (ci := 1) (q0 := 8) rfl rfl rfl rfl hl.1 rfl (Nat.le_of_ble_eq_true rfl) dX1_criticalArc_1 ⟨Nat.zero_le _, Nat.zero_le _⟩ (fun r1 h1 => ?_)
  subst h1
  refine lv_istore_n (lv' := [(2, .int (nI (clN n on gr))), (0, .ref (a 8)), (1, .int x)]) hx hb dX1_criticalArc_4 rfl hl (by decide) rfl (fun ls hl => ?_)
  refine lv_iload_n hx hb dX1_criticalArc_5 rfl (lv_at hl 2 rfl) ?_
  refine lv_if_lt (tgt := 14) hx hb dX1_criticalArc_6 (by decide) (fun c6 => ?_) (fun c6 => ?_)
  · refine lv_iconst (v := (-1)) hx hb dX1_criticalArc_14 (by decide) ?_
    rw [hQ]
    exact W.iret (v := (-1)) hx hb hr (fun t ht hW => ⟨_, rfl, (by first | (simp [crX, c6, oI]; done) | (simp [crX, c6, c11, oI]; done)), ht⟩) (fun q h => absurd h List.not_mem_nil) dX1_criticalArc_15
  · refine lv_iload_n hx hb dX1_criticalArc_9 rfl (lv_at hl 2 rfl) ?_
    refine lv_iload_n hx hb dX1_criticalArc_10 rfl (lv_at hl 0 rfl) ?_
    refine lv_icmp_lt (tgt := 16) hx hb dX1_criticalArc_11 (by decide) (fun c11 => ?_) (fun c11 => ?_)
    · obtain ⟨y, hy, hxy⟩ := nI_of c6
      rw [hxy] at c11
      have hyb : y < clN n on gr := (nI_ltI hy (by omega)).mp c11
      have hRX := crX_in (m := m) (fr := fr) (to := to) (w := w) (th := th) hy c11
      refine lv_iconst (v := (-1)) hx hb dX1_criticalArc_16 (by decide) ?_
      refine lv_istore_n (lv' := [(3, .int (-1)), (2, .int (nI (clN n on gr))), (0, .ref (a 8)), (1, .int x)]) hx hb dX1_criticalArc_17 rfl hl (by decide) rfl (fun ls hl => ?_)
      refine lv_aload_n hx hb dX1_criticalArc_18 rfl (lv_at hl 2 rfl) ?_
      refine va_get (D := D) (ci := 1) (v := .int gr) (C := RX1) (T := TX1) (N := 8) hx hb hts i1 hown hK hP 8 rfl rfl 6 (by decide) (hts (.fieldLink RX1 35 "SignedPaths$Ringless" "greatest" "I") (by decide +kernel)) (fun _ h9 => h9) rfl dX1_criticalArc_19 ?_
      refine lv_istore (lv' := [(4, .int gr), (3, .int (-1)), (2, .int (nI (clN n on gr))), (0, .ref (a 8)), (1, .int x)]) hx hb dX1_criticalArc_22 hl (by decide) rfl (fun ls hl => ?_)
      refine lv_iconst (v := (-1)) hx hb dX1_criticalArc_24 (by decide) ?_
      refine lv_istore (lv' := [(5, .int (-1)), (4, .int gr), (3, .int (-1)), (2, .int (nI (clN n on gr))), (0, .ref (a 8)), (1, .int x)]) hx hb dX1_criticalArc_25 hl (by decide) rfl (fun ls hl => ?_)
      refine lv_iconst (v := nI 0) hx hb dX1_criticalArc_27 (by decide) ?_
      refine lv_istore (lv' := [(6, .int (nI 0)), (5, .int (-1)), (4, .int gr), (3, .int (-1)), (2, .int (nI (clN n on gr))), (0, .ref (a 8)), (1, .int x)]) hx hb dX1_criticalArc_28 hl (by decide) rfl (fun ls hl => ?_)
      have key30 : ∀ (f30 i : Nat), y + 1 + 1 ≤ i + f30 → i ≤ y + 1 → ∀ (nd : Int32), ∀ (lf : Int32), ∀ (ar : Int32), ((i ≤ y → crF m fr to w th on (y - i) nd (clN n on gr - i) lf = crF m fr to w th on y (-1) (clN n on gr) gr) ∧ (i = y + 1 → ar = oI (crF m fr to w th on y (-1) (clN n on gr) gr))) → ∀ (ls : Array Slot), lv_has ls 7 [(0, .ref (a 8)), (1, .int x), (2, .int (nI (clN n on gr))), (3, .int nd), (4, .int lf), (5, .int ar), (6, .int (nI i))] → W p l e (headSpec wsX1_criticalArc { frames := 2, cells := 0, slots := 0, locals := 43 }).room s mt ([.ref (a 8), .int x] : List Value).toArray below meth c s.heap [] 0 0 Q (F0 mt 30 ls []) := by
        intro f30
        induction f30 with
        | zero => intro i h1 h2; exact absurd h1 (by omega)
        | succ f30 ih30 =>
          intro i hf30 hi30 nd lf ar hv30 ls hl
          refine lv_iload hx hb dX1_criticalArc_30 (lv_at hl 6 rfl) ?_
          refine lv_iload_n hx hb dX1_criticalArc_32 rfl (lv_at hl 1 rfl) ?_
          refine lv_icmp_gt (tgt := 91) hx hb dX1_criticalArc_33 (by decide) (fun c33 => ?_) (fun c33 => ?_)
          · rw [hxy] at c33
            have c33 := (nI_ltI hy (by omega)).mp c33
            refine lv_iload hx hb dX1_criticalArc_91 (lv_at hl 5 rfl) ?_
            rw [hQ]
            exact W.iret (v := ar) hx hb hr (fun t ht hW => ⟨_, rfl, (by rw [hxy, hRX]; exact hv30.2 (by omega)), ht⟩) (fun q h => absurd h List.not_mem_nil) dX1_criticalArc_93
          · rw [hxy] at c33
            have c33 : i ≤ y := by have h2 : ¬ y < i := fun z => c33 ((nI_ltI hy (by omega)).mpr z); omega
            refine lv_aload_n hx hb dX1_criticalArc_36 rfl (lv_at hl 0 rfl) ?_
            refine lv_iload_n hx hb dX1_criticalArc_37 rfl (lv_at hl 3 rfl) ?_
            refine lv_iload_n hx hb dX1_criticalArc_38 rfl (lv_at hl 2 rfl) ?_
            refine lv_iload hx hb dX1_criticalArc_39 (lv_at hl 6 rfl) ?_
            refine rn_isub hx hb (by omega) dX1_criticalArc_41 ?_
            refine lv_iconst (v := nI 1) hx hb dX1_criticalArc_42 (by decide) ?_
            refine rn_isub hx hb (by omega) dX1_criticalArc_43 ?_
            refine lv_iload hx hb dX1_criticalArc_44 (lv_at hl 4 rfl) ?_
            refine cl_Si (As := [.int nd, .int (nI (((clN n on gr) - i) - 1)), .int lf]) (rest := []) ⟨hx, hb, hml, hown, hts⟩ (c1_firstCriticalArc l ha nd (((clN n on gr) - i) - 1) lf hg (by omega)) (cwV 3 hts gX1_criticalArc_X1_firstCriticalArc rfl rfl rfl (by decide +kernel) ⟨Nat.le_of_ble_eq_true rfl, Nat.le_of_ble_eq_true rfl⟩) hK hP (ci := 1) (q0 := 8) rfl rfl rfl rfl hl.1 rfl (Nat.le_of_ble_eq_true rfl) dX1_criticalArc_46 ⟨Nat.zero_le _, Nat.zero_le _⟩ (fun r46 h46 => ?_)
            rcases oI_cases h46 with ⟨g46, rfl⟩ | ⟨j46, g46, rfl⟩
            · refine lv_istore (lv' := [(5, .int (-1)), (0, .ref (a 8)), (1, .int x), (2, .int (nI (clN n on gr))), (3, .int nd), (4, .int lf), (6, .int (nI i))]) hx hb dX1_criticalArc_49 hl (by decide) rfl (fun ls hl => ?_)
              refine lv_iload hx hb dX1_criticalArc_51 (lv_at hl 0 rfl) ?_
              refine lv_iconst (v := (-1)) hx hb dX1_criticalArc_53 (by decide) ?_
              refine lv_icmp_ne (tgt := 59) hx hb dX1_criticalArc_54 (by decide) (fun c54 => absurd rfl c54) (fun c54 => ?_)
              refine lv_iconst (v := (-1)) hx hb dX1_criticalArc_57 (by decide) ?_
              rw [hQ]
              exact W.iret (v := (-1)) hx hb hr (fun t ht hW => ⟨_, rfl, (by rw [hxy, hRX, ← hv30.1 c33, crF_none g46]; rfl), ht⟩) (fun q h => absurd h List.not_mem_nil) dX1_criticalArc_58
            · obtain ⟨hj1, -, -⟩ := fst_inv g46
              have hj2 := hft _ hj1
              refine lv_istore (lv' := [(5, .int (nI j46)), (0, .ref (a 8)), (1, .int x), (2, .int (nI (clN n on gr))), (3, .int nd), (4, .int lf), (6, .int (nI i))]) hx hb dX1_criticalArc_49 hl (by decide) rfl (fun ls hl => ?_)
              refine lv_iload hx hb dX1_criticalArc_51 (lv_at hl 0 rfl) ?_
              refine lv_iconst (v := (-1)) hx hb dX1_criticalArc_53 (by decide) ?_
              refine lv_icmp_ne (tgt := 59) hx hb dX1_criticalArc_54 (by decide) (fun c54 => ?_) (fun c54 => absurd c54 (nI_m1 (by omega)))
              refine lv_iload hx hb dX1_criticalArc_59 (lv_at hl 5 rfl) ?_
              refine lv_aload_n hx hb dX1_criticalArc_61 rfl (lv_at hl 1 rfl) ?_
              refine va_get (D := D) (ci := 1) (v := .ref (a 1)) (C := RX1) (T := TX1) (N := 8) hx hb hts i1 hown hK hP 8 rfl rfl 0 (by decide) (hts (.fieldLink RX1 9 "SignedPaths$Ringless" "graph" "LSignedPaths$Graph;") (by decide +kernel)) (fun _ h9 => h9) rfl dX1_criticalArc_62 ?_
              refine va_get (D := D) (ci := 0) (v := .ref (a 4)) (C := RX0) (T := TX0) (N := 7) hx hb hts i0 hown hK hP 1 rfl rfl 5 (by decide) (hts (.fieldLink RX1 89 "SignedPaths$Graph" "weight" "[I") (by decide +kernel)) (fun _ h9 => h9) rfl dX1_criticalArc_65 ?_
              refine lv_iload hx hb dX1_criticalArc_68 (lv_at hl 0 rfl) ?_
              refine rn_iald (v := w j46) hx hb hK hP 4 0 rfl rfl (by omega) (by decide) rfl dX1_criticalArc_70 ?_
              refine lv_isub hx hb dX1_criticalArc_71 ?_
              refine lv_istore (lv' := [(4, .int (lf - (w j46))), (5, .int (nI j46)), (0, .ref (a 8)), (1, .int x), (2, .int (nI (clN n on gr))), (3, .int nd), (6, .int (nI i))]) hx hb dX1_criticalArc_72 hl (by decide) rfl (fun ls hl => ?_)
              refine lv_aload_n hx hb dX1_criticalArc_74 rfl (lv_at hl 2 rfl) ?_
              refine va_get (D := D) (ci := 1) (v := .ref (a 1)) (C := RX1) (T := TX1) (N := 8) hx hb hts i1 hown hK hP 8 rfl rfl 0 (by decide) (hts (.fieldLink RX1 9 "SignedPaths$Ringless" "graph" "LSignedPaths$Graph;") (by decide +kernel)) (fun _ h9 => h9) rfl dX1_criticalArc_75 ?_
              refine va_get (D := D) (ci := 0) (v := .ref (a 3)) (C := RX0) (T := TX0) (N := 7) hx hb hts i0 hown hK hP 1 rfl rfl 4 (by decide) (hts (.fieldLink RX1 79 "SignedPaths$Graph" "to" "[I") (by decide +kernel)) (fun _ h9 => h9) rfl dX1_criticalArc_78 ?_
              refine lv_iload hx hb dX1_criticalArc_81 (lv_at hl 1 rfl) ?_
              refine rn_iald (v := nI (to j46)) hx hb hK hP 3 0 rfl rfl (by omega) (by decide) rfl dX1_criticalArc_83 ?_
              refine lv_istore_n (lv' := [(3, .int (nI (to j46))), (4, .int (lf - (w j46))), (5, .int (nI j46)), (0, .ref (a 8)), (1, .int x), (2, .int (nI (clN n on gr))), (6, .int (nI i))]) hx hb dX1_criticalArc_84 rfl hl (by decide) rfl (fun ls hl => ?_)
              refine lv_iinc (v := nI (i + 1)) (lv' := [(6, .int (nI (i + 1))), (3, .int (nI (to j46))), (4, .int (lf - (w j46))), (5, .int (nI j46)), (0, .ref (a 8)), (1, .int x), (2, .int (nI (clN n on gr)))]) hx hb dX1_criticalArc_85 hl (k := 6) rfl (nI_1 i) (by decide) rfl (fun ls hl => ?_)
              refine lv_goto (tgt := 30) hx hb dX1_criticalArc_88 (by decide) ?_
              exact ih30 (i + 1) (by omega) (by omega) (nI (to j46)) (lf - w j46) (nI j46) ⟨fun h => by rw [← hv30.1 c33, show y - i = (y - (i + 1)) + 1 by omega, crF_s g46]; rfl, fun h => by rw [← hv30.1 c33, show y - i = 0 by omega, crF_0, g46]; rfl⟩ ls (lv_sub hl [4, 5, 6, 1, 2, 3, 0] rfl)
      exact key30 (y + 1 + 1) 0 (by omega) (by omega) (-1) gr (-1) ⟨fun _ => rfl, fun h => absurd h (by omega)⟩ ls (lv_sub hl [5, 6, 4, 3, 2, 1, 0] rfl)
    · refine lv_iconst (v := (-1)) hx hb dX1_criticalArc_14 (by decide) ?_
      rw [hQ]
      exact W.iret (v := (-1)) hx hb hr (fun t ht hW => ⟨_, rfl, (by first | (simp [crX, c6, oI]; done) | (simp [crX, c6, c11, oI]; done)), ht⟩) (fun q h => absurd h List.not_mem_nil) dX1_criticalArc_15
