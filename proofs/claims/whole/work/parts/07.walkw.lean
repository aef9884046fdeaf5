set_option maxHeartbeats 4000000 in
set_option maxRecDepth 100000 in
theorem c2_fillFirstLayer (l : Launch) {D : va_G} {k : Nat → ClassId} {a : Nat → Nat} {n : Nat} {m : Nat} {ch : Int32} {fr : Nat → Nat} {to : Nat → Nat} {w : Nat → Int32} {th : Nat → Bool} {L : Nat → Nat → Int32} {la : Nat} {sw : Int32} {od : Nat → Nat} {io : Nat → Bool} {oc : Nat} {fa : Nat → Int32} {on : Nat → Nat → Int32} {gr : Int32} {sr : Int32} (ha : inj 46 a)  (hg : gOK n m fr to) : Met l yX2_fillFirstLayer wsX2_fillFirstLayer ({ frames := 0, cells := 0, slots := 0, locals := 0 }) (gPc D k (cW k a n m ch fr to w th L la sw od io oc fa on gr sr) [.ref (a 6)]) (va_Qv (S := Unit) (fun _ => True) (fun _ t => va_P D vwCl (cW k a n m ch fr to w th (va_up L 0 (cFirst n (L 0))) la sw od io oc fa on gr sr) t.heap) (cA a)) 0 0 (cA a) := by
  refine Met.ofW (cc := cX2_fillFirstLayer) (maxL := 4) (ret := none) (by decide) rfl ?_
  intro p e s mt args below meth c s₁ B hml hv
  obtain ⟨rfl, hP, hK⟩ := hv
  have hx := B.exec
  have hb := B.bytes
  have hr := B.returns
  have hts := atoms_spec (ws := wsX2_fillFirstLayer) B.pre
  have hown : s.vm.findClass RX2 = some mt.cls := findClass_of_methodNamed B.named
  have hlocks := B.notSynchronized
  have i0 : ∀ w ∈ wsX00, w ∈ wsX2_fillFirstLayer := by decide +kernel
  have i2 : ∀ w ∈ wsX20, w ∈ wsX2_fillFirstLayer := by decide +kernel
  have hS : va_S (cA a) s.heap s.heap [] := va_S.rf
  have hD : va_D (cA a) (cW k a n m ch fr to w th L la sw od io oc fa on gr sr) := cW_D ha
  have hl := lv_entry ([.ref (a 6)]) (n := 4) (Nat.le_of_ble_eq_true rfl)
  rw [lg_entry_eq]
  generalize (lg_sl ([.ref (a 6)]) ++ List.replicate (4 - (lg_sl ([.ref (a 6)])).length) Slot.unset).toArray = ls at hl ⊢
  have hl : lv_has ls 4 [(0, .ref (a 6))] := hl
  obtain ⟨Q, hQ⟩ : ∃ Q, Q = MQ below (va_Qv (S := Unit) (fun _ => True) (fun _ t => va_P D vwCl (cW k a n m ch fr to w th (va_up L 0 (cFirst n (L 0))) la sw od io oc fa on gr sr) t.heap) (cA a)) ([.ref (a 6)] : List Value).toArray s 0 0 (cA a) := ⟨_, rfl⟩
  rw [← hQ]
  obtain ⟨hn12, hm40, hft⟩ := id hg
  refine lv_aload_n hx hb dX2_fillFirstLayer_0 rfl (lv_at hl 0 rfl) ?_
  refine va_get (D := D) (ci := 2) (v := .ref (a 7)) (C := RX2) (T := TX2) (N := 4) hx hb hts i2 hown hK hP 6 rfl rfl 1 (by decide) (hts (.fieldLink RX2 17 "SignedPaths$Walks" "layers" "[[I") (by decide +kernel)) (fun _ h9 => h9) rfl dX2_fillFirstLayer_1 ?_
  refine lv_iconst (v := nI 0) hx hb dX2_fillFirstLayer_4 (by decide) ?_
  refine rn_aald (y := a (13 + 0)) hx hb hK hP 7 2 rfl rfl (by omega) (by decide) (if_pos (by omega)) dX2_fillFirstLayer_5 ?_
  refine lv_astore_n (lv' := [(1, .ref (a (13 + 0))), (0, .ref (a 6))]) hx hb dX2_fillFirstLayer_6 rfl hl (by decide) rfl (fun ls hl => ?_)
  refine lv_iconst (v := nI 0) hx hb dX2_fillFirstLayer_7 (by decide) ?_
  refine lv_istore_n (lv' := [(2, .int (nI 0)), (1, .ref (a (13 + 0))), (0, .ref (a 6))]) hx hb dX2_fillFirstLayer_8 rfl hl (by decide) rfl (fun ls hl => ?_)
  have key9 : ∀ (f9 u : Nat), n + 1 ≤ u + f9 → u ≤ n → ∀ (H : Heap) (locs : List Loc), va_P D vwCl (cW k a n m ch fr to w th (va_up L 0 (fl (ffS n) u (L 0))) la sw od io oc fa on gr sr) H → va_S (cA a) s.heap H locs → ∀ (ls : Array Slot), lv_has ls 4 [(0, .ref (a 6)), (1, .ref (a (13 + 0))), (2, .int (nI u))] → W p l e (headSpec wsX2_fillFirstLayer { frames := 0, cells := 0, slots := 0, locals := 0 }).room s mt ([.ref (a 6)] : List Value).toArray below meth c H locs 0 0 Q (F0 mt 9 ls []) := by
    intro f9
    induction f9 with
    | zero => intro u h1 h2; exact absurd h1 (by omega)
    | succ f9 ih9 =>
      intro u hf9 hi9   H locs hP hS ls hl
      have hD : va_D (cA a) (cW k a n m ch fr to w th (va_up L 0 (fl (ffS n) u (L 0))) la sw od io oc fa on gr sr) := cW_D ha
      refine lv_iload_n hx hb dX2_fillFirstLayer_9 rfl (lv_at hl 2 rfl) ?_
      refine lv_aload_n hx hb dX2_fillFirstLayer_10 rfl (lv_at hl 0 rfl) ?_
      refine va_get (D := D) (ci := 2) (v := .ref (a 1)) (C := RX2) (T := TX2) (N := 4) hx hb hts i2 hown hK hP 6 rfl rfl 0 (by decide) (hts (.fieldLink RX2 9 "SignedPaths$Walks" "graph" "LSignedPaths$Graph;") (by decide +kernel)) (fun _ h9 => h9) rfl dX2_fillFirstLayer_11 ?_
      refine va_get (D := D) (ci := 0) (v := .int (nI n)) (C := RX0) (T := TX0) (N := 7) hx hb hts i0 hown hK hP 1 rfl rfl 0 (by decide) (hts (.fieldLink RX2 39 "SignedPaths$Graph" "nodes" "I") (by decide +kernel)) (fun _ h9 => h9) rfl dX2_fillFirstLayer_14 ?_
      refine rn_icmp_ge (tgt := 64) hx hb dX2_fillFirstLayer_17 (by decide) (by omega) (by omega) (fun c17 => ?_) (fun c17 => ?_)
      · rw [hQ]
        exact W.vret hx hb hr (fun t ht hW => ⟨⟨(), rfl, trivial, by show va_P D vwCl (cW k a n m ch fr to w th (va_up L 0 (cFirst n (L 0))) la sw od io oc fa on gr sr) t.heap; rw [ht]; have e : u = n := (by omega); rw [e] at hP; exact hP⟩, hS.F ht⟩) hS.2.2 dX2_fillFirstLayer_64
      · refine lv_iconst (v := nI 0) hx hb dX2_fillFirstLayer_20 (by decide) ?_
        refine lv_istore_n (lv' := [(3, .int (nI 0)), (0, .ref (a 6)), (1, .ref (a (13 + 0))), (2, .int (nI u))]) hx hb dX2_fillFirstLayer_21 rfl hl (by decide) rfl (fun ls hl => ?_)
        have key22 : ∀ (f22 v : Nat), n + 1 ≤ v + f22 → v ≤ n → ∀ (H : Heap) (locs : List Loc), va_P D vwCl (cW k a n m ch fr to w th (va_up L 0 (fl (ffS1 u) v (fl (ffS n) u (L 0)))) la sw od io oc fa on gr sr) H → va_S (cA a) s.heap H locs → ∀ (ls : Array Slot), lv_has ls 4 [(0, .ref (a 6)), (1, .ref (a (13 + 0))), (2, .int (nI u)), (3, .int (nI v))] → W p l e (headSpec wsX2_fillFirstLayer { frames := 0, cells := 0, slots := 0, locals := 0 }).room s mt ([.ref (a 6)] : List Value).toArray below meth c H locs 0 0 Q (F0 mt 22 ls []) := by
          intro f22
          induction f22 with
          | zero => intro v h1 h2; exact absurd h1 (by omega)
          | succ f22 ih22 =>
            intro v hf22 hi22   H locs hP hS ls hl
            have hD : va_D (cA a) (cW k a n m ch fr to w th (va_up L 0 (fl (ffS1 u) v (fl (ffS n) u (L 0)))) la sw od io oc fa on gr sr) := cW_D ha
            refine lv_iload_n hx hb dX2_fillFirstLayer_22 rfl (lv_at hl 3 rfl) ?_
            refine lv_aload_n hx hb dX2_fillFirstLayer_23 rfl (lv_at hl 0 rfl) ?_
            refine va_get (D := D) (ci := 2) (v := .ref (a 1)) (C := RX2) (T := TX2) (N := 4) hx hb hts i2 hown hK hP 6 rfl rfl 0 (by decide) (hts (.fieldLink RX2 9 "SignedPaths$Walks" "graph" "LSignedPaths$Graph;") (by decide +kernel)) (fun _ h9 => h9) rfl dX2_fillFirstLayer_24 ?_
            refine va_get (D := D) (ci := 0) (v := .int (nI n)) (C := RX0) (T := TX0) (N := 7) hx hb hts i0 hown hK hP 1 rfl rfl 0 (by decide) (hts (.fieldLink RX2 39 "SignedPaths$Graph" "nodes" "I") (by decide +kernel)) (fun _ h9 => h9) rfl dX2_fillFirstLayer_27 ?_
            refine rn_icmp_ge (tgt := 58) hx hb dX2_fillFirstLayer_30 (by decide) (by omega) (by omega) (fun c30 => ?_) (fun c30 => ?_)
            · refine lv_iinc (v := nI (u + 1)) (lv' := [(2, .int (nI (u + 1))), (0, .ref (a 6)), (1, .ref (a (13 + 0))), (3, .int (nI v))]) hx hb dX2_fillFirstLayer_58 hl (k := 2) rfl (nI_1 u) (by decide) rfl (fun ls hl => ?_)
              refine lv_goto (tgt := 9) hx hb dX2_fillFirstLayer_61 (by decide) ?_
              exact ih9 (u + 1) (by omega) (by omega)  _ _ (by have e : v = n := (by omega); rw [e] at hP; exact hP) hS ls (lv_sub hl [1, 2, 0] rfl)
            · refine lv_aload_n hx hb dX2_fillFirstLayer_33 rfl (lv_at hl 1 rfl) ?_
              refine lv_iload_n hx hb dX2_fillFirstLayer_34 rfl (lv_at hl 2 rfl) ?_
              refine lv_bipush (v := nI 12) hx hb dX2_fillFirstLayer_35 (by decide) ?_
              refine rn_imul hx hb  dX2_fillFirstLayer_37 ?_
              refine lv_iload_n hx hb dX2_fillFirstLayer_38 rfl (lv_at hl 3 rfl) ?_
              refine rn_iadd hx hb  dX2_fillFirstLayer_39 ?_
              refine lv_iload_n hx hb dX2_fillFirstLayer_40 rfl (lv_at hl 2 rfl) ?_
              refine lv_iload_n hx hb dX2_fillFirstLayer_41 rfl (lv_at hl 3 rfl) ?_
              refine rn_icmp_ne (tgt := 49) hx hb dX2_fillFirstLayer_42 (by decide) (by omega) (by omega) (fun c42 => ?_) (fun c42 => ?_)
              · refine lv_ldc (v := 1000000000) hx hb hown (hts (.constant RX2 42 1000000000) (by decide +kernel)) dX2_fillFirstLayer_49 ?_
                refine rn_iast (ws' := cW k a n m ch fr to w th (va_up L 0 (va_up (fl (ffS1 u) v (fl (ffS n) u (L 0))) ((u * 12) + v) 1000000000)) la sw od io oc fa on gr sr) hx hb hK hP hD hS (13 + 0) 0 (cW_row (by omega)) rfl (by omega) (by decide) (by rw [cW_setrow (by omega), up_up, va_up_self]; rfl) dX2_fillFirstLayer_51 (fun H locs hP hD hS => ?_)
                refine lv_iinc (v := nI (v + 1)) (lv' := [(3, .int (nI (v + 1))), (0, .ref (a 6)), (1, .ref (a (13 + 0))), (2, .int (nI u))]) hx hb dX2_fillFirstLayer_52 hl (k := 3) rfl (nI_1 v) (by decide) rfl (fun ls hl => ?_)
                refine lv_goto (tgt := 22) hx hb dX2_fillFirstLayer_55 (by decide) ?_
                exact ih22 (v + 1) (by omega) (by omega)  _ _ (by rw [fl_s, ffS1, if_neg c42]; exact hP) hS ls (lv_sub hl [1, 2, 3, 0] rfl)
              · refine lv_iconst (v := 0) hx hb dX2_fillFirstLayer_45 (by decide) ?_
                refine lv_goto (tgt := 51) hx hb dX2_fillFirstLayer_46 (by decide) ?_
                refine rn_iast (ws' := cW k a n m ch fr to w th (va_up L 0 (va_up (fl (ffS1 u) v (fl (ffS n) u (L 0))) ((u * 12) + v) 0)) la sw od io oc fa on gr sr) hx hb hK hP hD hS (13 + 0) 0 (cW_row (by omega)) rfl (by omega) (by decide) (by rw [cW_setrow (by omega), up_up, va_up_self]; rfl) dX2_fillFirstLayer_51 (fun H locs hP hD hS => ?_)
                refine lv_iinc (v := nI (v + 1)) (lv' := [(3, .int (nI (v + 1))), (0, .ref (a 6)), (1, .ref (a (13 + 0))), (2, .int (nI u))]) hx hb dX2_fillFirstLayer_52 hl (k := 3) rfl (nI_1 v) (by decide) rfl (fun ls hl => ?_)
                refine lv_goto (tgt := 22) hx hb dX2_fillFirstLayer_55 (by decide) ?_
                exact ih22 (v + 1) (by omega) (by omega)  _ _ (by rw [fl_s, ffS1, if_pos c42]; exact hP) hS ls (lv_sub hl [1, 2, 3, 0] rfl)
        exact key22 (n + 1) 0 (by omega) (by omega)  _ _ (hP) hS ls (lv_sub hl [1, 2, 3, 0] rfl)
  exact key9 (n + 1) 0 (by omega) (by omega)  _ _ (by rw [fl_0, up_me]; exact hP) hS ls (lv_sub hl [2, 1, 0] rfl)
set_option maxHeartbeats 4000000 in
set_option maxRecDepth 100000 in
theorem c2_lengthenBy (l : Launch) {D : va_G} {k : Nat → ClassId} {a : Nat → Nat} {n : Nat} {m : Nat} {ch : Int32} {fr : Nat → Nat} {to : Nat → Nat} {w : Nat → Int32} {th : Nat → Bool} {L : Nat → Nat → Int32} {la : Nat} {sw : Int32} {od : Nat → Nat} {io : Nat → Bool} {oc : Nat} {fa : Nat → Int32} {on : Nat → Nat → Int32} {gr : Int32} {sr : Int32} (ha : inj 46 a) (j : Nat) (p1 : Nat) (q1 : Nat) (hg : gOK n m fr to) (hj : j < m) (hp1 : p1 < 21) (hq1 : q1 < 21) (hpq : p1 ≠ q1) : Met l yX2_lengthenBy wsX2_lengthenBy ({ frames := 0, cells := 0, slots := 0, locals := 0 }) (gPc D k (cW k a n m ch fr to w th L la sw od io oc fa on gr sr) [.ref (a 6), .int (nI j), .ref (a (13 + p1)), .ref (a (13 + q1))]) (va_Qv (S := Unit) (fun _ => True) (fun _ t => va_P D vwCl (cW k a n m ch fr to w th (va_up L q1 (cLen n (fr j) (to j) (w j) (L p1) (L q1))) la sw od io oc fa on gr sr) t.heap) (cA a)) 0 0 (cA a) := by
  refine Met.ofW (cc := cX2_lengthenBy) (maxL := 10) (ret := none) (by decide) rfl ?_
  intro p e s mt args below meth c s₁ B hml hv
  obtain ⟨rfl, hP, hK⟩ := hv
  have hx := B.exec
  have hb := B.bytes
  have hr := B.returns
  have hts := atoms_spec (ws := wsX2_lengthenBy) B.pre
  have hown : s.vm.findClass RX2 = some mt.cls := findClass_of_methodNamed B.named
  have hlocks := B.notSynchronized
  have i0 : ∀ w ∈ wsX00, w ∈ wsX2_lengthenBy := by decide +kernel
  have i2 : ∀ w ∈ wsX20, w ∈ wsX2_lengthenBy := by decide +kernel
  have hS : va_S (cA a) s.heap s.heap [] := va_S.rf
  have hD : va_D (cA a) (cW k a n m ch fr to w th L la sw od io oc fa on gr sr) := cW_D ha
  have hl := lv_entry ([.ref (a 6), .int (nI j), .ref (a (13 + p1)), .ref (a (13 + q1))]) (n := 10) (Nat.le_of_ble_eq_true rfl)
  rw [lg_entry_eq]
  generalize (lg_sl ([.ref (a 6), .int (nI j), .ref (a (13 + p1)), .ref (a (13 + q1))]) ++ List.replicate (10 - (lg_sl ([.ref (a 6), .int (nI j), .ref (a (13 + p1)), .ref (a (13 + q1))])).length) Slot.unset).toArray = ls at hl ⊢
  have hl : lv_has ls 10 [(0, .ref (a 6)), (1, .int (nI j)), (2, .ref (a (13 + p1))), (3, .ref (a (13 + q1)))] := hl
  obtain ⟨Q, hQ⟩ : ∃ Q, Q = MQ below (va_Qv (S := Unit) (fun _ => True) (fun _ t => va_P D vwCl (cW k a n m ch fr to w th (va_up L q1 (cLen n (fr j) (to j) (w j) (L p1) (L q1))) la sw od io oc fa on gr sr) t.heap) (cA a)) ([.ref (a 6), .int (nI j), .ref (a (13 + p1)), .ref (a (13 + q1))] : List Value).toArray s 0 0 (cA a) := ⟨_, rfl⟩
  rw [← hQ]
  obtain ⟨hn12, hm40, hft⟩ := id hg
  have hj2 := hft j hj
  refine lv_aload_n hx hb dX2_lengthenBy_0 rfl (lv_at hl 0 rfl) ?_
  refine va_get (D := D) (ci := 2) (v := .ref (a 1)) (C := RX2) (T := TX2) (N := 4) hx hb hts i2 hown hK hP 6 rfl rfl 0 (by decide) (hts (.fieldLink RX2 9 "SignedPaths$Walks" "graph" "LSignedPaths$Graph;") (by decide +kernel)) (fun _ h9 => h9) rfl dX2_lengthenBy_1 ?_
  refine va_get (D := D) (ci := 0) (v := .ref (a 2)) (C := RX0) (T := TX0) (N := 7) hx hb hts i0 hown hK hP 1 rfl rfl 3 (by decide) (hts (.fieldLink RX2 60 "SignedPaths$Graph" "from" "[I") (by decide +kernel)) (fun _ h9 => h9) rfl dX2_lengthenBy_4 ?_
  refine lv_iload_n hx hb dX2_lengthenBy_7 rfl (lv_at hl 1 rfl) ?_
  refine rn_iald (v := nI (fr j)) hx hb hK hP 2 0 rfl rfl (by omega) (by decide) rfl dX2_lengthenBy_8 ?_
  refine lv_istore (lv' := [(4, .int (nI (fr j))), (0, .ref (a 6)), (1, .int (nI j)), (2, .ref (a (13 + p1))), (3, .ref (a (13 + q1)))]) hx hb dX2_lengthenBy_9 hl (by decide) rfl (fun ls hl => ?_)
  refine lv_aload_n hx hb dX2_lengthenBy_11 rfl (lv_at hl 1 rfl) ?_
  refine va_get (D := D) (ci := 2) (v := .ref (a 1)) (C := RX2) (T := TX2) (N := 4) hx hb hts i2 hown hK hP 6 rfl rfl 0 (by decide) (hts (.fieldLink RX2 9 "SignedPaths$Walks" "graph" "LSignedPaths$Graph;") (by decide +kernel)) (fun _ h9 => h9) rfl dX2_lengthenBy_12 ?_
  refine va_get (D := D) (ci := 0) (v := .ref (a 3)) (C := RX0) (T := TX0) (N := 7) hx hb hts i0 hown hK hP 1 rfl rfl 4 (by decide) (hts (.fieldLink RX2 64 "SignedPaths$Graph" "to" "[I") (by decide +kernel)) (fun _ h9 => h9) rfl dX2_lengthenBy_15 ?_
  refine lv_iload_n hx hb dX2_lengthenBy_18 rfl (lv_at hl 2 rfl) ?_
  refine rn_iald (v := nI (to j)) hx hb hK hP 3 0 rfl rfl (by omega) (by decide) rfl dX2_lengthenBy_19 ?_
  refine lv_istore (lv' := [(5, .int (nI (to j))), (4, .int (nI (fr j))), (0, .ref (a 6)), (1, .int (nI j)), (2, .ref (a (13 + p1))), (3, .ref (a (13 + q1)))]) hx hb dX2_lengthenBy_20 hl (by decide) rfl (fun ls hl => ?_)
  refine lv_aload_n hx hb dX2_lengthenBy_22 rfl (lv_at hl 2 rfl) ?_
  refine va_get (D := D) (ci := 2) (v := .ref (a 1)) (C := RX2) (T := TX2) (N := 4) hx hb hts i2 hown hK hP 6 rfl rfl 0 (by decide) (hts (.fieldLink RX2 9 "SignedPaths$Walks" "graph" "LSignedPaths$Graph;") (by decide +kernel)) (fun _ h9 => h9) rfl dX2_lengthenBy_23 ?_
  refine va_get (D := D) (ci := 0) (v := .ref (a 4)) (C := RX0) (T := TX0) (N := 7) hx hb hts i0 hown hK hP 1 rfl rfl 5 (by decide) (hts (.fieldLink RX2 67 "SignedPaths$Graph" "weight" "[I") (by decide +kernel)) (fun _ h9 => h9) rfl dX2_lengthenBy_26 ?_
  refine lv_iload_n hx hb dX2_lengthenBy_29 rfl (lv_at hl 3 rfl) ?_
  refine rn_iald (v := w j) hx hb hK hP 4 0 rfl rfl (by omega) (by decide) rfl dX2_lengthenBy_30 ?_
  refine lv_istore (lv' := [(6, .int (w j)), (5, .int (nI (to j))), (4, .int (nI (fr j))), (0, .ref (a 6)), (1, .int (nI j)), (2, .ref (a (13 + p1))), (3, .ref (a (13 + q1)))]) hx hb dX2_lengthenBy_31 hl (by decide) rfl (fun ls hl => ?_)
  refine lv_iconst (v := nI 0) hx hb dX2_lengthenBy_33 (by decide) ?_
  refine lv_istore (lv' := [(7, .int (nI 0)), (6, .int (w j)), (5, .int (nI (to j))), (4, .int (nI (fr j))), (0, .ref (a 6)), (1, .int (nI j)), (2, .ref (a (13 + p1))), (3, .ref (a (13 + q1)))]) hx hb dX2_lengthenBy_34 hl (by decide) rfl (fun ls hl => ?_)
  have key36 : ∀ (f36 i : Nat), n + 1 ≤ i + f36 → i ≤ n → ∀ (H : Heap) (locs : List Loc), va_P D vwCl (cW k a n m ch fr to w th (va_up L q1 (fl (leS (fr j) (to j) (w j) (L p1)) i (L q1))) la sw od io oc fa on gr sr) H → va_S (cA a) s.heap H locs → ∀ (ls : Array Slot), lv_has ls 10 [(0, .ref (a 6)), (1, .int (nI j)), (2, .ref (a (13 + p1))), (3, .ref (a (13 + q1))), (4, .int (nI (fr j))), (5, .int (nI (to j))), (6, .int (w j)), (7, .int (nI i))] → W p l e (headSpec wsX2_lengthenBy { frames := 0, cells := 0, slots := 0, locals := 0 }).room s mt ([.ref (a 6), .int (nI j), .ref (a (13 + p1)), .ref (a (13 + q1))] : List Value).toArray below meth c H locs 0 0 Q (F0 mt 36 ls []) := by
    intro f36
    induction f36 with
    | zero => intro i h1 h2; exact absurd h1 (by omega)
    | succ f36 ih36 =>
      intro i hf36 hi36   H locs hP hS ls hl
      have hD : va_D (cA a) (cW k a n m ch fr to w th (va_up L q1 (fl (leS (fr j) (to j) (w j) (L p1)) i (L q1))) la sw od io oc fa on gr sr) := cW_D ha
      refine lv_iload hx hb dX2_lengthenBy_36 (lv_at hl 7 rfl) ?_
      refine lv_aload_n hx hb dX2_lengthenBy_38 rfl (lv_at hl 0 rfl) ?_
      refine va_get (D := D) (ci := 2) (v := .ref (a 1)) (C := RX2) (T := TX2) (N := 4) hx hb hts i2 hown hK hP 6 rfl rfl 0 (by decide) (hts (.fieldLink RX2 9 "SignedPaths$Walks" "graph" "LSignedPaths$Graph;") (by decide +kernel)) (fun _ h9 => h9) rfl dX2_lengthenBy_39 ?_
      refine va_get (D := D) (ci := 0) (v := .int (nI n)) (C := RX0) (T := TX0) (N := 7) hx hb hts i0 hown hK hP 1 rfl rfl 0 (by decide) (hts (.fieldLink RX2 39 "SignedPaths$Graph" "nodes" "I") (by decide +kernel)) (fun _ h9 => h9) rfl dX2_lengthenBy_42 ?_
      refine rn_icmp_ge (tgt := 104) hx hb dX2_lengthenBy_45 (by decide) (by omega) (by omega) (fun c45 => ?_) (fun c45 => ?_)
      · rw [hQ]
        exact W.vret hx hb hr (fun t ht hW => ⟨⟨(), rfl, trivial, by show va_P D vwCl (cW k a n m ch fr to w th (va_up L q1 (cLen n (fr j) (to j) (w j) (L p1) (L q1))) la sw od io oc fa on gr sr) t.heap; rw [ht]; have e : i = n := (by omega); rw [e] at hP; exact hP⟩, hS.F ht⟩) hS.2.2 dX2_lengthenBy_104
      · refine lv_iload hx hb dX2_lengthenBy_48 (lv_at hl 7 rfl) ?_
        refine lv_bipush (v := nI 12) hx hb dX2_lengthenBy_50 (by decide) ?_
        refine rn_imul hx hb  dX2_lengthenBy_52 ?_
        refine lv_istore (lv' := [(8, .int (nI (i * 12))), (0, .ref (a 6)), (1, .int (nI j)), (2, .ref (a (13 + p1))), (3, .ref (a (13 + q1))), (4, .int (nI (fr j))), (5, .int (nI (to j))), (6, .int (w j)), (7, .int (nI i))]) hx hb dX2_lengthenBy_53 hl (by decide) rfl (fun ls hl => ?_)
        refine lv_aload_n hx hb dX2_lengthenBy_55 rfl (lv_at hl 3 rfl) ?_
        refine lv_iload hx hb dX2_lengthenBy_56 (lv_at hl 0 rfl) ?_
        refine lv_iload hx hb dX2_lengthenBy_58 (lv_at hl 5 rfl) ?_
        refine rn_iadd hx hb  dX2_lengthenBy_60 ?_
        refine rn_iald (v := L p1 (i * 12 + fr j)) hx hb hK hP (13 + p1) 0 (cW_row hp1) rfl (by omega) (by decide) (by rw [va_up_ne _ _ hpq]) dX2_lengthenBy_61 ?_
        refine lv_istore (lv' := [(9, .int (L p1 (i * 12 + fr j))), (8, .int (nI (i * 12))), (0, .ref (a 6)), (1, .int (nI j)), (2, .ref (a (13 + p1))), (3, .ref (a (13 + q1))), (4, .int (nI (fr j))), (5, .int (nI (to j))), (6, .int (w j)), (7, .int (nI i))]) hx hb dX2_lengthenBy_62 hl (by decide) rfl (fun ls hl => ?_)
        refine lv_iload hx hb dX2_lengthenBy_64 (lv_at hl 0 rfl) ?_
        refine lv_ldc (v := 1000000000) hx hb hown (hts (.constant RX2 42 1000000000) (by decide +kernel)) dX2_lengthenBy_66 ?_
        refine lv_icmp_eq (tgt := 98) hx hb dX2_lengthenBy_68 (by decide) (fun c68 => ?_) (fun c68 => ?_)
        · refine lv_iinc (v := nI (i + 1)) (lv' := [(7, .int (nI (i + 1))), (9, .int (L p1 (i * 12 + fr j))), (8, .int (nI (i * 12))), (0, .ref (a 6)), (1, .int (nI j)), (2, .ref (a (13 + p1))), (3, .ref (a (13 + q1))), (4, .int (nI (fr j))), (5, .int (nI (to j))), (6, .int (w j))]) hx hb dX2_lengthenBy_98 hl (k := 9) rfl (nI_1 i) (by decide) rfl (fun ls hl => ?_)
          refine lv_goto (tgt := 36) hx hb dX2_lengthenBy_101 (by decide) ?_
          exact ih36 (i + 1) (by omega) (by omega)  _ _ (by rw [fl_s, leS, if_pos c68]; exact hP) hS ls (lv_sub hl [3, 4, 5, 6, 7, 8, 9, 0] rfl)
        · refine lv_iload hx hb dX2_lengthenBy_71 (lv_at hl 0 rfl) ?_
          refine lv_iload hx hb dX2_lengthenBy_73 (lv_at hl 8 rfl) ?_
          refine lv_iadd hx hb dX2_lengthenBy_75 ?_
          refine lv_aload_n hx hb dX2_lengthenBy_76 rfl (lv_at hl 5 rfl) ?_
          refine lv_iload hx hb dX2_lengthenBy_77 (lv_at hl 1 rfl) ?_
          refine lv_iload hx hb dX2_lengthenBy_79 (lv_at hl 7 rfl) ?_
          refine rn_iadd hx hb  dX2_lengthenBy_81 ?_
          refine rn_iald (v := fl (leS (fr j) (to j) (w j) (L p1)) i (L q1) (i * 12 + to j)) hx hb hK hP (13 + q1) 0 (cW_row hq1) rfl (by omega) (by decide) (by rw [va_up_self]) dX2_lengthenBy_82 ?_
          refine lv_icmp_ge (tgt := 98) hx hb dX2_lengthenBy_83 (by decide) (fun c83 => ?_) (fun c83 => ?_)
          · refine lv_iinc (v := nI (i + 1)) (lv' := [(7, .int (nI (i + 1))), (9, .int (L p1 (i * 12 + fr j))), (8, .int (nI (i * 12))), (0, .ref (a 6)), (1, .int (nI j)), (2, .ref (a (13 + p1))), (3, .ref (a (13 + q1))), (4, .int (nI (fr j))), (5, .int (nI (to j))), (6, .int (w j))]) hx hb dX2_lengthenBy_98 hl (k := 9) rfl (nI_1 i) (by decide) rfl (fun ls hl => ?_)
            refine lv_goto (tgt := 36) hx hb dX2_lengthenBy_101 (by decide) ?_
            exact ih36 (i + 1) (by omega) (by omega)  _ _ (by rw [fl_s, leS, if_neg c68, if_pos c83]; exact hP) hS ls (lv_sub hl [3, 4, 5, 6, 7, 8, 9, 0] rfl)
          · refine lv_aload_n hx hb dX2_lengthenBy_86 rfl (lv_at hl 5 rfl) ?_
            refine lv_iload hx hb dX2_lengthenBy_87 (lv_at hl 1 rfl) ?_
            refine lv_iload hx hb dX2_lengthenBy_89 (lv_at hl 7 rfl) ?_
            refine rn_iadd hx hb  dX2_lengthenBy_91 ?_
            refine lv_iload hx hb dX2_lengthenBy_92 (lv_at hl 0 rfl) ?_
            refine lv_iload hx hb dX2_lengthenBy_94 (lv_at hl 8 rfl) ?_
            refine lv_iadd hx hb dX2_lengthenBy_96 ?_
            refine rn_iast (ws' := cW k a n m ch fr to w th (va_up L q1 (va_up (fl (leS (fr j) (to j) (w j) (L p1)) i (L q1)) ((i * 12) + (to j)) ((L p1 (i * 12 + fr j)) + (w j)))) la sw od io oc fa on gr sr) hx hb hK hP hD hS (13 + q1) 0 (cW_row hq1) rfl (by omega) (by decide) (by rw [cW_setrow hq1, up_up, va_up_self]; rfl) dX2_lengthenBy_97 (fun H locs hP hD hS => ?_)
            refine lv_iinc (v := nI (i + 1)) (lv' := [(7, .int (nI (i + 1))), (9, .int (L p1 (i * 12 + fr j))), (8, .int (nI (i * 12))), (0, .ref (a 6)), (1, .int (nI j)), (2, .ref (a (13 + p1))), (3, .ref (a (13 + q1))), (4, .int (nI (fr j))), (5, .int (nI (to j))), (6, .int (w j))]) hx hb dX2_lengthenBy_98 hl (k := 9) rfl (nI_1 i) (by decide) rfl (fun ls hl => ?_)
            refine lv_goto (tgt := 36) hx hb dX2_lengthenBy_101 (by decide) ?_
            exact ih36 (i + 1) (by omega) (by omega)  _ _ (by rw [fl_s, leS, if_neg c68, if_neg c83]; exact hP) hS ls (lv_sub hl [3, 4, 5, 6, 7, 8, 9, 0] rfl)
  exact key36 (n + 1) 0 (by omega) (by omega)  _ _ (by rw [fl_0, up_me]; exact hP) hS ls (lv_sub hl [4, 5, 6, 7, 3, 2, 1, 0] rfl)
set_option maxHeartbeats 4000000 in
set_option maxRecDepth 100000 in
theorem c2_fillLayer (l : Launch) {D : va_G} {k : Nat → ClassId} {a : Nat → Nat} {n : Nat} {m : Nat} {ch : Int32} {fr : Nat → Nat} {to : Nat → Nat} {w : Nat → Int32} {th : Nat → Bool} {L : Nat → Nat → Int32} {la : Nat} {sw : Int32} {od : Nat → Nat} {io : Nat → Bool} {oc : Nat} {fa : Nat → Int32} {on : Nat → Nat → Int32} {gr : Int32} {sr : Int32} (ha : inj 46 a) (x : Nat) (hg : gOK n m fr to) (hx0 : 1 ≤ x) (hx1 : x < 21) : Met l yX2_fillLayer wsX2_fillLayer ({ frames := 1, cells := 0, slots := 0, locals := 40 }) (gPc D k (cW k a n m ch fr to w th L la sw od io oc fa on gr sr) [.ref (a 6), .int (nI x)]) (va_Qv (S := Unit) (fun _ => True) (fun _ t => va_P D vwCl (cW k a n m ch fr to w th (va_up L x (cFill n m fr to w th (L (x - 1)) (L x))) la sw od io oc fa on gr sr) t.heap) (cA a)) 0 0 (cA a) := by
  refine Met.ofW (cc := cX2_fillLayer) (maxL := 5) (ret := none) (by decide) rfl ?_
  intro p e s mt args below meth c s₁ B hml hv
  obtain ⟨rfl, hP, hK⟩ := hv
  have hx := B.exec
  have hb := B.bytes
  have hr := B.returns
  have hts := atoms_spec (ws := wsX2_fillLayer) B.pre
  have hown : s.vm.findClass RX2 = some mt.cls := findClass_of_methodNamed B.named
  have hlocks := B.notSynchronized
  have i0 : ∀ w ∈ wsX00, w ∈ wsX2_fillLayer := by decide +kernel
  have i2 : ∀ w ∈ wsX20, w ∈ wsX2_fillLayer := by decide +kernel
  have hS : va_S (cA a) s.heap s.heap [] := va_S.rf
  have hD : va_D (cA a) (cW k a n m ch fr to w th L la sw od io oc fa on gr sr) := cW_D ha
  have hl := lv_entry ([.ref (a 6), .int (nI x)]) (n := 5) (Nat.le_of_ble_eq_true rfl)
  rw [lg_entry_eq]
  generalize (lg_sl ([.ref (a 6), .int (nI x)]) ++ List.replicate (5 - (lg_sl ([.ref (a 6), .int (nI x)])).length) Slot.unset).toArray = ls at hl ⊢
  have hl : lv_has ls 5 [(0, .ref (a 6)), (1, .int (nI x))] := hl
  obtain ⟨Q, hQ⟩ : ∃ Q, Q = MQ below (va_Qv (S := Unit) (fun _ => True) (fun _ t => va_P D vwCl (cW k a n m ch fr to w th (va_up L x (cFill n m fr to w th (L (x - 1)) (L x))) la sw od io oc fa on gr sr) t.heap) (cA a)) ([.ref (a 6), .int (nI x)] : List Value).toArray s 0 0 (cA a) := ⟨_, rfl⟩
  rw [← hQ]
  obtain ⟨hn12, hm40, hft⟩ := id hg
  have hne : x - 1 ≠ x := by omega
  refine lv_aload_n hx hb dX2_fillLayer_0 rfl (lv_at hl 0 rfl) ?_
  refine va_get (D := D) (ci := 2) (v := .ref (a 7)) (C := RX2) (T := TX2) (N := 4) hx hb hts i2 hown hK hP 6 rfl rfl 1 (by decide) (hts (.fieldLink RX2 17 "SignedPaths$Walks" "layers" "[[I") (by decide +kernel)) (fun _ h9 => h9) rfl dX2_fillLayer_1 ?_
  refine lv_iload_n hx hb dX2_fillLayer_4 rfl (lv_at hl 1 rfl) ?_
  refine lv_iconst (v := nI 1) hx hb dX2_fillLayer_5 (by decide) ?_
  refine rn_isub hx hb (by omega) dX2_fillLayer_6 ?_
  refine rn_aald (y := a (13 + (x - 1))) hx hb hK hP 7 2 rfl rfl (by omega) (by decide) (if_pos (by omega)) dX2_fillLayer_7 ?_
  refine lv_astore_n (lv' := [(2, .ref (a (13 + (x - 1)))), (0, .ref (a 6)), (1, .int (nI x))]) hx hb dX2_fillLayer_8 rfl hl (by decide) rfl (fun ls hl => ?_)
  refine lv_aload_n hx hb dX2_fillLayer_9 rfl (lv_at hl 1 rfl) ?_
  refine va_get (D := D) (ci := 2) (v := .ref (a 7)) (C := RX2) (T := TX2) (N := 4) hx hb hts i2 hown hK hP 6 rfl rfl 1 (by decide) (hts (.fieldLink RX2 17 "SignedPaths$Walks" "layers" "[[I") (by decide +kernel)) (fun _ h9 => h9) rfl dX2_fillLayer_10 ?_
  refine lv_iload_n hx hb dX2_fillLayer_13 rfl (lv_at hl 2 rfl) ?_
  refine rn_aald (y := a (13 + x)) hx hb hK hP 7 2 rfl rfl (by omega) (by decide) (if_pos (by omega)) dX2_fillLayer_14 ?_
  refine lv_astore_n (lv' := [(3, .ref (a (13 + x))), (2, .ref (a (13 + (x - 1)))), (0, .ref (a 6)), (1, .int (nI x))]) hx hb dX2_fillLayer_15 rfl hl (by decide) rfl (fun ls hl => ?_)
  refine lv_aload_n hx hb dX2_fillLayer_16 rfl (lv_at hl 1 rfl) ?_
  refine lv_iconst (v := 0) hx hb dX2_fillLayer_17 (by decide) ?_
  refine lv_aload_n hx hb dX2_fillLayer_18 rfl (lv_at hl 0 rfl) ?_
  refine lv_iconst (v := 0) hx hb dX2_fillLayer_19 (by decide) ?_
  refine lv_aload_n hx hb dX2_fillLayer_20 rfl (lv_at hl 1 rfl) ?_
  refine va_alen (v := nI 144) hx hb hK hP (13 + (x - 1)) 0 (cW_row (by omega)) rfl rfl dX2_fillLayer_21 ?_
  refine rn_copy (ws' := cW k a n m ch fr to w th (va_up L x (va_cpy (L (x - 1)) (L x) 0 0 144)) la sw od io oc fa on gr sr) hx hb (by rw [hml]; exact hl.1.symm) hown (hts (.methodLink RX2 43 arraycopyName) (by decide +kernel)) (hts (.native arraycopyName) (by decide +kernel)) (hts (.static arraycopyName) (by decide +kernel)) (hts (.initialized "java/lang/System") (by decide +kernel)) hK hP hD hS (13 + (x - 1)) (13 + x) 0 (cW_row (by omega)) (cW_row (by omega)) rfl (by decide) (Nat.le_of_ble_eq_true rfl) (Nat.le_of_ble_eq_true rfl) (cW_setrow (by omega) _) dX2_fillLayer_22 (fun H locs hP hD hS => ?_)
  refine lv_iconst (v := nI 0) hx hb dX2_fillLayer_25 (by decide) ?_
  refine lv_istore (lv' := [(4, .int (nI 0)), (3, .ref (a (13 + x))), (2, .ref (a (13 + (x - 1)))), (0, .ref (a 6)), (1, .int (nI x))]) hx hb dX2_fillLayer_26 hl (by decide) rfl (fun ls hl => ?_)
  have key28 : ∀ (f28 i : Nat), m + 1 ≤ i + f28 → i ≤ m → ∀ (H : Heap) (locs : List Loc), va_P D vwCl (cW k a n m ch fr to w th (va_up L x (fl (fiS n fr to w th (L (x - 1))) i (va_cpy (L (x - 1)) (L x) 0 0 144))) la sw od io oc fa on gr sr) H → va_S (cA a) s.heap H locs → ∀ (ls : Array Slot), lv_has ls 5 [(0, .ref (a 6)), (1, .int (nI x)), (2, .ref (a (13 + (x - 1)))), (3, .ref (a (13 + x))), (4, .int (nI i))] → W p l e (headSpec wsX2_fillLayer { frames := 1, cells := 0, slots := 0, locals := 40 }).room s mt ([.ref (a 6), .int (nI x)] : List Value).toArray below meth c H locs 0 0 Q (F0 mt 28 ls []) := by
    intro f28
    induction f28 with
    | zero => intro i h1 h2; exact absurd h1 (by omega)
    | succ f28 ih28 =>
      intro i hf28 hi28   H locs hP hS ls hl
      have hD : va_D (cA a) (cW k a n m ch fr to w th (va_up L x (fl (fiS n fr to w th (L (x - 1))) i (va_cpy (L (x - 1)) (L x) 0 0 144))) la sw od io oc fa on gr sr) := cW_D ha
      refine lv_iload hx hb dX2_fillLayer_28 (lv_at hl 4 rfl) ?_
      refine lv_aload_n hx hb dX2_fillLayer_30 rfl (lv_at hl 0 rfl) ?_
      refine va_get (D := D) (ci := 2) (v := .ref (a 1)) (C := RX2) (T := TX2) (N := 4) hx hb hts i2 hown hK hP 6 rfl rfl 0 (by decide) (hts (.fieldLink RX2 9 "SignedPaths$Walks" "graph" "LSignedPaths$Graph;") (by decide +kernel)) (fun _ h9 => h9) rfl dX2_fillLayer_31 ?_
      refine va_get (D := D) (ci := 0) (v := .int (nI m)) (C := RX0) (T := TX0) (N := 7) hx hb hts i0 hown hK hP 1 rfl rfl 1 (by decide) (hts (.fieldLink RX2 49 "SignedPaths$Graph" "arcs" "I") (by decide +kernel)) (fun _ h9 => h9) rfl dX2_fillLayer_34 ?_
      refine rn_icmp_ge (tgt := 67) hx hb dX2_fillLayer_37 (by decide) (by omega) (by omega) (fun c37 => ?_) (fun c37 => ?_)
      · rw [hQ]
        exact W.vret hx hb hr (fun t ht hW => ⟨⟨(), rfl, trivial, by show va_P D vwCl (cW k a n m ch fr to w th (va_up L x (cFill n m fr to w th (L (x - 1)) (L x))) la sw od io oc fa on gr sr) t.heap; rw [ht]; have e : i = m := (by omega); rw [e] at hP; exact hP⟩, hS.F ht⟩) hS.2.2 dX2_fillLayer_67
      · refine lv_aload_n hx hb dX2_fillLayer_40 rfl (lv_at hl 0 rfl) ?_
        refine va_get (D := D) (ci := 2) (v := .ref (a 1)) (C := RX2) (T := TX2) (N := 4) hx hb hts i2 hown hK hP 6 rfl rfl 0 (by decide) (hts (.fieldLink RX2 9 "SignedPaths$Walks" "graph" "LSignedPaths$Graph;") (by decide +kernel)) (fun _ h9 => h9) rfl dX2_fillLayer_41 ?_
        refine va_get (D := D) (ci := 0) (v := .ref (a 5)) (C := RX0) (T := TX0) (N := 7) hx hb hts i0 hown hK hP 1 rfl rfl 6 (by decide) (hts (.fieldLink RX2 52 "SignedPaths$Graph" "there" "[Z") (by decide +kernel)) (fun _ h9 => h9) rfl dX2_fillLayer_44 ?_
        refine lv_iload hx hb dX2_fillLayer_47 (lv_at hl 4 rfl) ?_
        refine rn_zald (v := bI (th i)) hx hb hK hP 5 1 rfl rfl (by omega) (by decide) rfl dX2_fillLayer_49 ?_
        refine rn_ifeqb (tgt := 61) hx hb dX2_fillLayer_50 (by decide) (fun c50 => ?_) (fun c50 => ?_)
        · refine lv_iinc (v := nI (i + 1)) (lv' := [(4, .int (nI (i + 1))), (0, .ref (a 6)), (1, .int (nI x)), (2, .ref (a (13 + (x - 1)))), (3, .ref (a (13 + x)))]) hx hb dX2_fillLayer_61 hl (k := 4) rfl (nI_1 i) (by decide) rfl (fun ls hl => ?_)
          refine lv_goto (tgt := 28) hx hb dX2_fillLayer_64 (by decide) ?_
          exact ih28 (i + 1) (by omega) (by omega)  _ _ (by rw [fl_s, fiS, if_neg (by simp [c50])]; exact hP) hS ls (lv_sub hl [1, 2, 3, 4, 0] rfl)
        · refine lv_aload_n hx hb dX2_fillLayer_53 rfl (lv_at hl 0 rfl) ?_
          refine lv_iload hx hb dX2_fillLayer_54 (lv_at hl 4 rfl) ?_
          refine lv_aload_n hx hb dX2_fillLayer_56 rfl (lv_at hl 2 rfl) ?_
          refine lv_aload_n hx hb dX2_fillLayer_57 rfl (lv_at hl 3 rfl) ?_
          refine cl_Qv (As := [.int (nI i), .ref (a (13 + (x - 1))), .ref (a (13 + x))]) (rest := []) ⟨hx, hb, hml, hown, hts⟩ (c2_lengthenBy l ha i (x - 1) x hg (by omega) (by omega) (by omega) (by omega)) (cwV 3 hts gX2_fillLayer_X2_lengthenBy rfl rfl rfl (by decide +kernel) ⟨Nat.le_of_ble_eq_true rfl, Nat.le_of_ble_eq_true rfl⟩) hK hP hS (fun _ h => h) (ci := 2) (q0 := 6) rfl rfl rfl rfl hl.1 rfl (Nat.le_of_ble_eq_true rfl) dX2_fillLayer_58 ⟨Nat.zero_le _, Nat.zero_le _⟩ (fun H locs h58 hP _ _ hS => ?_)
          have hP : va_P D vwCl (cW k a n m ch fr to w th (va_up (va_up L x (fl (fiS n fr to w th (L (x - 1))) i (va_cpy (L (x - 1)) (L x) 0 0 144))) x (cLen n (fr i) (to i) (w i) ((va_up L x (fl (fiS n fr to w th (L (x - 1))) i (va_cpy (L (x - 1)) (L x) 0 0 144))) (x - 1)) ((va_up L x (fl (fiS n fr to w th (L (x - 1))) i (va_cpy (L (x - 1)) (L x) 0 0 144))) x))) la sw od io oc fa on gr sr) H := hP
          have hP : va_P D vwCl (cW k a n m ch fr to w th (va_up L x (cLen n (fr i) (to i) (w i) (L (x - 1)) (fl (fiS n fr to w th (L (x - 1))) i (va_cpy (L (x - 1)) (L x) 0 0 144)))) la sw od io oc fa on gr sr) H := by rw [up_up, va_up_self, va_up_ne _ _ hne] at hP; exact hP
          have hD : va_D (cA a) (cW k a n m ch fr to w th (va_up L x (cLen n (fr i) (to i) (w i) (L (x - 1)) (fl (fiS n fr to w th (L (x - 1))) i (va_cpy (L (x - 1)) (L x) 0 0 144)))) la sw od io oc fa on gr sr) := cW_D ha
          refine lv_iinc (v := nI (i + 1)) (lv' := [(4, .int (nI (i + 1))), (0, .ref (a 6)), (1, .int (nI x)), (2, .ref (a (13 + (x - 1)))), (3, .ref (a (13 + x)))]) hx hb dX2_fillLayer_61 hl (k := 4) rfl (nI_1 i) (by decide) rfl (fun ls hl => ?_)
          refine lv_goto (tgt := 28) hx hb dX2_fillLayer_64 (by decide) ?_
          exact ih28 (i + 1) (by omega) (by omega)  _ _ (by rw [fl_s, fiS, if_pos c50]; exact hP) hS ls (lv_sub hl [1, 2, 3, 4, 0] rfl)
  exact key28 (m + 1) 0 (by omega) (by omega)  _ _ (hP) hS ls (lv_sub hl [3, 4, 2, 1, 0] rfl)
set_option maxHeartbeats 4000000 in
set_option maxRecDepth 100000 in
theorem c2_workOut (l : Launch) {D : va_G} {k : Nat → ClassId} {a : Nat → Nat} {n : Nat} {m : Nat} {ch : Int32} {fr : Nat → Nat} {to : Nat → Nat} {w : Nat → Int32} {th : Nat → Bool} {L : Nat → Nat → Int32} {la : Nat} {sw : Int32} {od : Nat → Nat} {io : Nat → Bool} {oc : Nat} {fa : Nat → Int32} {on : Nat → Nat → Int32} {gr : Int32} {sr : Int32} (ha : inj 46 a) (x : Nat) (hg : gOK n m fr to) (hx1 : x < 21) (hla : la < 21) : Met l yX2_workOut wsX2_workOut ({ frames := 2, cells := 0, slots := 0, locals := 64 }) (gPc D k (cW k a n m ch fr to w th L la sw od io oc fa on gr sr) [.ref (a 6), .int (nI x)]) (va_Qv (S := Unit) (fun _ => True) (fun _ t => va_P D vwCl (cW k a n m ch fr to w th (wkL n m ch fr to w th L la sw x) (wka ch la sw x) ch od io oc fa on gr sr) t.heap) (cA a)) 0 0 (cA a) := by
  refine Met.ofW (cc := cX2_workOut) (maxL := 3) (ret := none) (by decide) rfl ?_
  intro p e s mt args below meth c s₁ B hml hv
  obtain ⟨rfl, hP, hK⟩ := hv
  have hx := B.exec
  have hb := B.bytes
  have hr := B.returns
  have hts := atoms_spec (ws := wsX2_workOut) B.pre
  have hown : s.vm.findClass RX2 = some mt.cls := findClass_of_methodNamed B.named
  have hlocks := B.notSynchronized
  have i0 : ∀ w ∈ wsX00, w ∈ wsX2_workOut := by decide +kernel
  have i2 : ∀ w ∈ wsX20, w ∈ wsX2_workOut := by decide +kernel
  have hS : va_S (cA a) s.heap s.heap [] := va_S.rf
  have hD : va_D (cA a) (cW k a n m ch fr to w th L la sw od io oc fa on gr sr) := cW_D ha
  have hl := lv_entry ([.ref (a 6), .int (nI x)]) (n := 3) (Nat.le_of_ble_eq_true rfl)
  rw [lg_entry_eq]
  generalize (lg_sl ([.ref (a 6), .int (nI x)]) ++ List.replicate (3 - (lg_sl ([.ref (a 6), .int (nI x)])).length) Slot.unset).toArray = ls at hl ⊢
  have hl : lv_has ls 3 [(0, .ref (a 6)), (1, .int (nI x))] := hl
  obtain ⟨Q, hQ⟩ : ∃ Q, Q = MQ below (va_Qv (S := Unit) (fun _ => True) (fun _ t => va_P D vwCl (cW k a n m ch fr to w th (wkL n m ch fr to w th L la sw x) (wka ch la sw x) ch od io oc fa on gr sr) t.heap) (cA a)) ([.ref (a 6), .int (nI x)] : List Value).toArray s 0 0 (cA a) := ⟨_, rfl⟩
  rw [← hQ]
  obtain ⟨hn12, hm40, hft⟩ := id hg
  refine lv_aload_n hx hb dX2_workOut_0 rfl (lv_at hl 0 rfl) ?_
  refine va_get (D := D) (ci := 2) (v := .int sw) (C := RX2) (T := TX2) (N := 4) hx hb hts i2 hown hK hP 6 rfl rfl 3 (by decide) (hts (.fieldLink RX2 24 "SignedPaths$Walks" "seenChanges" "I") (by decide +kernel)) (fun _ h9 => h9) rfl dX2_workOut_1 ?_
  refine lv_aload_n hx hb dX2_workOut_4 rfl (lv_at hl 0 rfl) ?_
  refine va_get (D := D) (ci := 2) (v := .ref (a 1)) (C := RX2) (T := TX2) (N := 4) hx hb hts i2 hown hK hP 6 rfl rfl 0 (by decide) (hts (.fieldLink RX2 9 "SignedPaths$Walks" "graph" "LSignedPaths$Graph;") (by decide +kernel)) (fun _ h9 => h9) rfl dX2_workOut_5 ?_
  refine va_get (D := D) (ci := 0) (v := .int ch) (C := RX0) (T := TX0) (N := 7) hx hb hts i0 hown hK hP 1 rfl rfl 2 (by decide) (hts (.fieldLink RX2 27 "SignedPaths$Graph" "changes" "I") (by decide +kernel)) (fun _ h9 => h9) rfl dX2_workOut_8 ?_
  refine lv_icmp_eq (tgt := 34) hx hb dX2_workOut_11 (by decide) (fun c11 => ?_) (fun c11 => ?_)
  · refine lv_aload_n hx hb dX2_workOut_34 rfl (lv_at hl 0 rfl) ?_
    refine va_get (D := D) (ci := 2) (v := .int (nI la)) (C := RX2) (T := TX2) (N := 4) hx hb hts i2 hown hK hP 6 rfl rfl 2 (by decide) (hts (.fieldLink RX2 20 "SignedPaths$Walks" "lastLayer" "I") (by decide +kernel)) (fun _ h9 => h9) rfl dX2_workOut_35 ?_
    refine lv_iconst (v := nI 1) hx hb dX2_workOut_38 (by decide) ?_
    refine rn_iadd hx hb  dX2_workOut_39 ?_
    refine lv_istore_n (lv' := [(2, .int (nI (la + 1))), (0, .ref (a 6)), (1, .int (nI x))]) hx hb dX2_workOut_40 rfl hl (by decide) rfl (fun ls hl => ?_)
    have key41 : ∀ (f41 j : Nat), x - la + 1 ≤ j + f41 → j ≤ x - la → ∀ (H : Heap) (locs : List Loc), va_P D vwCl (cW k a n m ch fr to w th (fl (wkS n m fr to w th la) j (L)) (la + j) sw od io oc fa on gr sr) H → va_S (cA a) s.heap H locs → ∀ (ls : Array Slot), lv_has ls 3 [(0, .ref (a 6)), (1, .int (nI x)), (2, .int (nI (la + 1 + j)))] → W p l e (headSpec wsX2_workOut { frames := 2, cells := 0, slots := 0, locals := 64 }).room s mt ([.ref (a 6), .int (nI x)] : List Value).toArray below meth c H locs 0 0 Q (F0 mt 41 ls []) := by
      intro f41
      induction f41 with
      | zero => intro j h1 h2; exact absurd h1 (by omega)
      | succ f41 ih41 =>
        intro j hf41 hi41   H locs hP hS ls hl
        have hD : va_D (cA a) (cW k a n m ch fr to w th (fl (wkS n m fr to w th la) j (L)) (la + j) sw od io oc fa on gr sr) := cW_D ha
        refine lv_iload_n hx hb dX2_workOut_41 rfl (lv_at hl 2 rfl) ?_
        refine lv_iload_n hx hb dX2_workOut_42 rfl (lv_at hl 1 rfl) ?_
        refine rn_icmp_gt (tgt := 62) hx hb dX2_workOut_43 (by decide) (by omega) (by omega) (fun c43 => ?_) (fun c43 => ?_)
        · rw [hQ]
          exact W.vret hx hb hr (fun t ht hW => ⟨⟨(), rfl, trivial, by show va_P D vwCl (cW k a n m ch fr to w th (wkL n m ch fr to w th L la sw x) (wka ch la sw x) ch od io oc fa on gr sr) t.heap; rw [ht]; have e : j = x - la := (by omega); rw [e, c11] at hP; rw [wkL_t c11, wka_t c11]; exact hP⟩, hS.F ht⟩) hS.2.2 dX2_workOut_62
        · refine lv_aload_n hx hb dX2_workOut_46 rfl (lv_at hl 0 rfl) ?_
          refine lv_iload_n hx hb dX2_workOut_47 rfl (lv_at hl 2 rfl) ?_
          refine cl_Qv (As := [.int (nI (la + 1 + j))]) (rest := []) ⟨hx, hb, hml, hown, hts⟩ (c2_fillLayer l ha (la + 1 + j) hg (by omega) (by omega)) (cwV 1 hts gX2_workOut_X2_fillLayer rfl rfl rfl (by decide +kernel) ⟨Nat.le_of_ble_eq_true rfl, Nat.le_of_ble_eq_true rfl⟩) hK hP hS (fun _ h => h) (ci := 2) (q0 := 6) rfl rfl rfl rfl hl.1 rfl (Nat.le_of_ble_eq_true rfl) dX2_workOut_48 ⟨Nat.zero_le _, Nat.zero_le _⟩ (fun H locs h48 hP _ _ hS => ?_)
          have hP : va_P D vwCl (cW k a n m ch fr to w th (va_up (fl (wkS n m fr to w th la) j (L)) (la + 1 + j) (cFill n m fr to w th ((fl (wkS n m fr to w th la) j (L)) ((la + 1 + j) - 1)) ((fl (wkS n m fr to w th la) j (L)) (la + 1 + j)))) (la + j) sw od io oc fa on gr sr) H := hP
          have hP : va_P D vwCl (cW k a n m ch fr to w th (wkS n m fr to w th la j (fl (wkS n m fr to w th la) j L)) (la + j) sw od io oc fa on gr sr) H := by rw [show la + 1 + j - 1 = la + j by omega] at hP; exact hP
          have hD : va_D (cA a) (cW k a n m ch fr to w th (wkS n m fr to w th la j (fl (wkS n m fr to w th la) j L)) (la + j) sw od io oc fa on gr sr) := cW_D ha
          refine lv_aload_n hx hb dX2_workOut_51 rfl (lv_at hl 0 rfl) ?_
          refine lv_iload_n hx hb dX2_workOut_52 rfl (lv_at hl 2 rfl) ?_
          refine rn_put (ty := .int) (ws' := cW k a n m ch fr to w th (wkS n m fr to w th la j (fl (wkS n m fr to w th la) j L)) (la + 1 + j) sw od io oc fa on gr sr) hx hb hts i2 tyX2 tyX2_ok nmX2 hown hK hP hD hS 6 rfl rfl 2 (by decide) (hts (.fieldLink RX2 20 "SignedPaths$Walks" "lastLayer" "I") (by decide +kernel)) (fun _ h9 => h9) rfl (by decide +kernel) rfl rfl (Nat.le_of_ble_eq_true rfl) rfl dX2_workOut_53 (fun H locs hP hD hS => ?_)
          refine lv_iinc (v := nI (la + 1 + j + 1)) (lv' := [(2, .int (nI (la + 1 + j + 1))), (0, .ref (a 6)), (1, .int (nI x))]) hx hb dX2_workOut_56 hl (k := 2) rfl (nI_1 (la + 1 + j)) (by decide) rfl (fun ls hl => ?_)
          refine lv_goto (tgt := 41) hx hb dX2_workOut_59 (by decide) ?_
          exact ih41 (j + 1) (by omega) (by omega)  _ _ (by rw [show la + (j + 1) = la + 1 + j by omega]; exact hP) hS ls (lv_sub hl [1, 2, 0] rfl)
    exact key41 (x - la + 1) 0 (by omega) (by omega)  _ _ (hP) hS ls (lv_sub hl [1, 2, 0] rfl)
  · refine lv_aload_n hx hb dX2_workOut_14 rfl (lv_at hl 0 rfl) ?_
    refine lv_aload_n hx hb dX2_workOut_15 rfl (lv_at hl 0 rfl) ?_
    refine va_get (D := D) (ci := 2) (v := .ref (a 1)) (C := RX2) (T := TX2) (N := 4) hx hb hts i2 hown hK hP 6 rfl rfl 0 (by decide) (hts (.fieldLink RX2 9 "SignedPaths$Walks" "graph" "LSignedPaths$Graph;") (by decide +kernel)) (fun _ h9 => h9) rfl dX2_workOut_16 ?_
    refine va_get (D := D) (ci := 0) (v := .int ch) (C := RX0) (T := TX0) (N := 7) hx hb hts i0 hown hK hP 1 rfl rfl 2 (by decide) (hts (.fieldLink RX2 27 "SignedPaths$Graph" "changes" "I") (by decide +kernel)) (fun _ h9 => h9) rfl dX2_workOut_19 ?_
    refine rn_put (ty := .int) (ws' := cW k a n m ch fr to w th L la ch od io oc fa on gr sr) hx hb hts i2 tyX2 tyX2_ok nmX2 hown hK hP hD hS 6 rfl rfl 3 (by decide) (hts (.fieldLink RX2 24 "SignedPaths$Walks" "seenChanges" "I") (by decide +kernel)) (fun _ h9 => h9) rfl (by decide +kernel) rfl rfl (Nat.le_of_ble_eq_true rfl) rfl dX2_workOut_22 (fun H locs hP hD hS => ?_)
    refine lv_aload_n hx hb dX2_workOut_25 rfl (lv_at hl 0 rfl) ?_
    refine cl_Qv (As := []) (rest := []) ⟨hx, hb, hml, hown, hts⟩ (c2_fillFirstLayer l ha  hg) (cwV 0 hts gX2_workOut_X2_fillFirstLayer rfl rfl rfl (by decide +kernel) ⟨Nat.le_of_ble_eq_true rfl, Nat.le_of_ble_eq_true rfl⟩) hK hP hS (fun _ h => h) (ci := 2) (q0 := 6) rfl rfl rfl rfl hl.1 rfl (Nat.le_of_ble_eq_true rfl) dX2_workOut_26 ⟨Nat.zero_le _, Nat.zero_le _⟩ (fun H locs h26 hP _ _ hS => ?_)
    have hP : va_P D vwCl (cW k a n m ch fr to w th (va_up L 0 (cFirst n (L 0))) la ch od io oc fa on gr sr) H := hP
    have hD : va_D (cA a) (cW k a n m ch fr to w th (va_up L 0 (cFirst n (L 0))) la ch od io oc fa on gr sr) := cW_D ha
    refine lv_aload_n hx hb dX2_workOut_29 rfl (lv_at hl 0 rfl) ?_
    refine lv_iconst (v := nI 0) hx hb dX2_workOut_30 (by decide) ?_
    refine rn_put (ty := .int) (ws' := cW k a n m ch fr to w th (va_up L 0 (cFirst n (L 0))) 0 ch od io oc fa on gr sr) hx hb hts i2 tyX2 tyX2_ok nmX2 hown hK hP hD hS 6 rfl rfl 2 (by decide) (hts (.fieldLink RX2 20 "SignedPaths$Walks" "lastLayer" "I") (by decide +kernel)) (fun _ h9 => h9) rfl (by decide +kernel) rfl rfl (Nat.le_of_ble_eq_true rfl) rfl dX2_workOut_31 (fun H locs hP hD hS => ?_)
    refine lv_aload_n hx hb dX2_workOut_34 rfl (lv_at hl 0 rfl) ?_
    refine va_get (D := D) (ci := 2) (v := .int (nI 0)) (C := RX2) (T := TX2) (N := 4) hx hb hts i2 hown hK hP 6 rfl rfl 2 (by decide) (hts (.fieldLink RX2 20 "SignedPaths$Walks" "lastLayer" "I") (by decide +kernel)) (fun _ h9 => h9) rfl dX2_workOut_35 ?_
    refine lv_iconst (v := nI 1) hx hb dX2_workOut_38 (by decide) ?_
    refine rn_iadd hx hb  dX2_workOut_39 ?_
    refine lv_istore_n (lv' := [(2, .int (nI (0 + 1))), (0, .ref (a 6)), (1, .int (nI x))]) hx hb dX2_workOut_40 rfl hl (by decide) rfl (fun ls hl => ?_)
    have key41 : ∀ (f41 j : Nat), x - 0 + 1 ≤ j + f41 → j ≤ x - 0 → ∀ (H : Heap) (locs : List Loc), va_P D vwCl (cW k a n m ch fr to w th (fl (wkS n m fr to w th 0) j (va_up L 0 (cFirst n (L 0)))) (0 + j) ch od io oc fa on gr sr) H → va_S (cA a) s.heap H locs → ∀ (ls : Array Slot), lv_has ls 3 [(0, .ref (a 6)), (1, .int (nI x)), (2, .int (nI (0 + 1 + j)))] → W p l e (headSpec wsX2_workOut { frames := 2, cells := 0, slots := 0, locals := 64 }).room s mt ([.ref (a 6), .int (nI x)] : List Value).toArray below meth c H locs 0 0 Q (F0 mt 41 ls []) := by
      intro f41
      induction f41 with
      | zero => intro j h1 h2; exact absurd h1 (by omega)
      | succ f41 ih41 =>
        intro j hf41 hi41   H locs hP hS ls hl
        have hD : va_D (cA a) (cW k a n m ch fr to w th (fl (wkS n m fr to w th 0) j (va_up L 0 (cFirst n (L 0)))) (0 + j) ch od io oc fa on gr sr) := cW_D ha
        refine lv_iload_n hx hb dX2_workOut_41 rfl (lv_at hl 2 rfl) ?_
        refine lv_iload_n hx hb dX2_workOut_42 rfl (lv_at hl 1 rfl) ?_
        refine rn_icmp_gt (tgt := 62) hx hb dX2_workOut_43 (by decide) (by omega) (by omega) (fun c43 => ?_) (fun c43 => ?_)
        · rw [hQ]
          exact W.vret hx hb hr (fun t ht hW => ⟨⟨(), rfl, trivial, by show va_P D vwCl (cW k a n m ch fr to w th (wkL n m ch fr to w th L la sw x) (wka ch la sw x) ch od io oc fa on gr sr) t.heap; rw [ht]; have e : j = x - 0 := (by omega); rw [e] at hP; rw [wkL_f c11, wka_f c11]; exact hP⟩, hS.F ht⟩) hS.2.2 dX2_workOut_62
        · refine lv_aload_n hx hb dX2_workOut_46 rfl (lv_at hl 0 rfl) ?_
          refine lv_iload_n hx hb dX2_workOut_47 rfl (lv_at hl 2 rfl) ?_
          refine cl_Qv (As := [.int (nI (0 + 1 + j))]) (rest := []) ⟨hx, hb, hml, hown, hts⟩ (c2_fillLayer l ha (0 + 1 + j) hg (by omega) (by omega)) (cwV 1 hts gX2_workOut_X2_fillLayer rfl rfl rfl (by decide +kernel) ⟨Nat.le_of_ble_eq_true rfl, Nat.le_of_ble_eq_true rfl⟩) hK hP hS (fun _ h => h) (ci := 2) (q0 := 6) rfl rfl rfl rfl hl.1 rfl (Nat.le_of_ble_eq_true rfl) dX2_workOut_48 ⟨Nat.zero_le _, Nat.zero_le _⟩ (fun H locs h48 hP _ _ hS => ?_)
          have hP : va_P D vwCl (cW k a n m ch fr to w th (va_up (fl (wkS n m fr to w th 0) j (va_up L 0 (cFirst n (L 0)))) (0 + 1 + j) (cFill n m fr to w th ((fl (wkS n m fr to w th 0) j (va_up L 0 (cFirst n (L 0)))) ((0 + 1 + j) - 1)) ((fl (wkS n m fr to w th 0) j (va_up L 0 (cFirst n (L 0)))) (0 + 1 + j)))) (0 + j) ch od io oc fa on gr sr) H := hP
          have hP : va_P D vwCl (cW k a n m ch fr to w th (wkS n m fr to w th 0 j (fl (wkS n m fr to w th 0) j (va_up L 0 (cFirst n (L 0))))) (0 + j) ch od io oc fa on gr sr) H := by rw [show 0 + 1 + j - 1 = 0 + j by omega] at hP; exact hP
          have hD : va_D (cA a) (cW k a n m ch fr to w th (wkS n m fr to w th 0 j (fl (wkS n m fr to w th 0) j (va_up L 0 (cFirst n (L 0))))) (0 + j) ch od io oc fa on gr sr) := cW_D ha
          refine lv_aload_n hx hb dX2_workOut_51 rfl (lv_at hl 0 rfl) ?_
          refine lv_iload_n hx hb dX2_workOut_52 rfl (lv_at hl 2 rfl) ?_
          refine rn_put (ty := .int) (ws' := cW k a n m ch fr to w th (wkS n m fr to w th 0 j (fl (wkS n m fr to w th 0) j (va_up L 0 (cFirst n (L 0))))) (0 + 1 + j) ch od io oc fa on gr sr) hx hb hts i2 tyX2 tyX2_ok nmX2 hown hK hP hD hS 6 rfl rfl 2 (by decide) (hts (.fieldLink RX2 20 "SignedPaths$Walks" "lastLayer" "I") (by decide +kernel)) (fun _ h9 => h9) rfl (by decide +kernel) rfl rfl (Nat.le_of_ble_eq_true rfl) rfl dX2_workOut_53 (fun H locs hP hD hS => ?_)
          refine lv_iinc (v := nI (0 + 1 + j + 1)) (lv' := [(2, .int (nI (0 + 1 + j + 1))), (0, .ref (a 6)), (1, .int (nI x))]) hx hb dX2_workOut_56 hl (k := 2) rfl (nI_1 (0 + 1 + j)) (by decide) rfl (fun ls hl => ?_)
          refine lv_goto (tgt := 41) hx hb dX2_workOut_59 (by decide) ?_
          exact ih41 (j + 1) (by omega) (by omega)  _ _ (by rw [show 0 + (j + 1) = 0 + 1 + j by omega]; exact hP) hS ls (lv_sub hl [1, 2, 0] rfl)
    exact key41 (x - 0 + 1) 0 (by omega) (by omega)  _ _ (hP) hS ls (lv_sub hl [1, 2, 0] rfl)
