set_option maxHeartbeats 4000000 in
set_option maxRecDepth 100000 in
theorem c4_isAtRest (l : Launch) {D : va_G} {k : Nat → ClassId} {b : Nat → Nat} {n : Nat} {m : Nat} {fr : Nat → Nat} {to : Nat → Nat} {w : Nat → Int32} {th : Nat → Bool} {be : Nat → Int64} {oe : Nat → Int64} {al : Nat → Int64} {pa : Nat → Int64} {bo : Nat → Int64} {rl : Nat} {ra : Nat → Nat} {mo : Nat → Int64} (ha : inj 12 b) (u : Nat) (x : Nat) (hg : gOK n m fr to) (hin : inD n m fr to w th) (hu : u < n) (hx1 : x ≤ 20) : Met l yX4_isAtRest wsX4_isAtRest ({ frames := 2, cells := 0, slots := 0, locals := 54 }) (gPc D k (mW k b n m fr to w th be oe al pa bo rl ra mo) [.ref (b 0), .int (nI u), .int (nI x)]) (va_Qi (S := Int32) (fun r u9 => u9 = r ∧ (r = bI (atQ n m fr to w th be u x))) (fun _ t => va_P D vwCl (mW k b n m fr to w th be oe ((fgR n m fr to w th al pa bo x).1) ((fgR n m fr to w th al pa bo x).2.1) ((fgR n m fr to w th al pa bo x).2.2) rl ra mo) t.heap) (mA b)) 0 0 (mA b) := by
  refine Met.ofW (cc := cX4_isAtRest) (maxL := 9) (ret := (some .boolean)) (by decide) rfl ?_
  intro p e s mt args below meth c s₁ B hml hv
  obtain ⟨rfl, hP, hK⟩ := hv
  have hx := B.exec
  have hb := B.bytes
  have hr := B.returns
  have hts := atoms_spec (ws := wsX4_isAtRest) B.pre
  have hown : s.vm.findClass RX4 = some mt.cls := findClass_of_methodNamed B.named
  have hlocks := B.notSynchronized
  have i4 : ∀ w ∈ wsX40, w ∈ wsX4_isAtRest := by decide +kernel
  have hS : va_S (mA b) s.heap s.heap [] := va_S.rf
  have hD : va_D (mA b) (mW k b n m fr to w th be oe al pa bo rl ra mo) := mW_D ha
  have hl := lv_entry ([.ref (b 0), .int (nI u), .int (nI x)]) (n := 9) (Nat.le_of_ble_eq_true rfl)
  rw [lg_entry_eq]
  generalize (lg_sl ([.ref (b 0), .int (nI u), .int (nI x)]) ++ List.replicate (9 - (lg_sl ([.ref (b 0), .int (nI u), .int (nI x)])).length) Slot.unset).toArray = ls at hl ⊢
  have hl : lv_has ls 9 [(0, .ref (b 0)), (1, .int (nI u)), (2, .int (nI x))] := hl
  obtain ⟨Q, hQ⟩ : ∃ Q, Q = MQ below (va_Qi (S := Int32) (fun r u9 => u9 = r ∧ (r = bI (atQ n m fr to w th be u x))) (fun _ t => va_P D vwCl (mW k b n m fr to w th be oe ((fgR n m fr to w th al pa bo x).1) ((fgR n m fr to w th al pa bo x).2.1) ((fgR n m fr to w th al pa bo x).2.2) rl ra mo) t.heap) (mA b)) ([.ref (b 0), .int (nI u), .int (nI x)] : List Value).toArray s 0 0 (mA b) := ⟨_, rfl⟩
  rw [← hQ]
  obtain ⟨hn12, hm40, hft⟩ := id hg
  refine lv_aload_n hx hb dX4_isAtRest_0 rfl (lv_at hl 0 rfl) ?_
  refine lv_iload_n hx hb dX4_isAtRest_1 rfl (lv_at hl 2 rfl) ?_
  refine cl_Qv (As := [.int (nI x)]) (rest := []) ⟨hx, hb, hml, hown, hts⟩ (c4_findAll l ha x hg (by omega)) (cwV 1 hts gX4_isAtRest_X4_findAll rfl rfl rfl (by decide +kernel) ⟨Nat.le_of_ble_eq_true rfl, Nat.le_of_ble_eq_true rfl⟩) hK hP hS (fun _ h => h) (ci := 4) (q0 := 0) rfl rfl rfl rfl hl.1 rfl (Nat.le_of_ble_eq_true rfl) dX4_isAtRest_2 ⟨Nat.zero_le _, Nat.zero_le _⟩ (fun H locs h2 hP _ _ hS => ?_)
  have hP : va_P D vwCl (mW k b n m fr to w th be oe ((fgR n m fr to w th al pa bo x).1) ((fgR n m fr to w th al pa bo x).2.1) ((fgR n m fr to w th al pa bo x).2.2) rl ra mo) H := hP
  have hD : va_D (mA b) (mW k b n m fr to w th be oe ((fgR n m fr to w th al pa bo x).1) ((fgR n m fr to w th al pa bo x).2.1) ((fgR n m fr to w th al pa bo x).2.2) rl ra mo) := mW_D ha
  refine lv_iconst (v := bI true) hx hb dX4_isAtRest_5 (by decide) ?_
  refine lv_istore_n (lv' := [(3, .int (bI true)), (0, .ref (b 0)), (1, .int (nI u)), (2, .int (nI x))]) hx hb dX4_isAtRest_6 rfl hl (by decide) rfl (fun ls hl => ?_)
  refine lv_iconst (v := nI 0) hx hb dX4_isAtRest_7 (by decide) ?_
  refine lv_istore (lv' := [(4, .int (nI 0)), (3, .int (bI true)), (0, .ref (b 0)), (1, .int (nI u)), (2, .int (nI x))]) hx hb dX4_isAtRest_8 hl (by decide) rfl (fun ls hl => ?_)
  have key10 : ∀ (f10 i : Nat), n + 1 ≤ i + f10 → i ≤ n → ∀ (H : Heap) (locs : List Loc), va_P D vwCl (mW k b n m fr to w th be oe ((fgR n m fr to w th al pa bo x).1) ((fgR n m fr to w th al pa bo x).2.1) ((fgR n m fr to w th al pa bo x).2.2) rl ra mo) H → va_S (mA b) s.heap H locs → ∀ (ls : Array Slot), lv_has ls 9 [(0, .ref (b 0)), (1, .int (nI u)), (2, .int (nI x)), (3, .int (bI (aaF true (arP be (aV n m fr to w th x) u) i))), (4, .int (nI i))] → W p l e (headSpec wsX4_isAtRest { frames := 2, cells := 0, slots := 0, locals := 54 }).room s mt ([.ref (b 0), .int (nI u), .int (nI x)] : List Value).toArray below meth c H locs 0 0 Q (F0 mt 10 ls []) := by
    intro f10
    induction f10 with
    | zero => intro i h1 h2; exact absurd h1 (by omega)
    | succ f10 ih10 =>
      intro i hf10 hi10   H locs hP hS ls hl
      have hD : va_D (mA b) (mW k b n m fr to w th be oe ((fgR n m fr to w th al pa bo x).1) ((fgR n m fr to w th al pa bo x).2.1) ((fgR n m fr to w th al pa bo x).2.2) rl ra mo) := mW_D ha
      refine lv_iload hx hb dX4_isAtRest_10 (lv_at hl 4 rfl) ?_
      refine lv_aload_n hx hb dX4_isAtRest_12 rfl (lv_at hl 0 rfl) ?_
      refine va_get (D := D) (ci := 4) (v := .int (nI n)) (C := RX4) (T := TX4) (N := 14) hx hb hts i4 hown hK hP 0 rfl rfl 0 (by decide) (hts (.fieldLink RX4 45 "SignedPathsModel" "n" "I") (by decide +kernel)) (fun _ h9 => h9) rfl dX4_isAtRest_13 ?_
      refine rn_icmp_ge (tgt := 105) hx hb dX4_isAtRest_16 (by decide) (by omega) (by omega) (fun c16 => ?_) (fun c16 => ?_)
      · refine lv_iload_n hx hb dX4_isAtRest_105 rfl (lv_at hl 3 rfl) ?_
        rw [hQ]
        exact W.zret (v := bI (aaF true (arP be (aV n m fr to w th x) u) i)) hx hb hr (bI_n2 _) (fun t ht hW => ⟨⟨_, _, rfl, ⟨rfl, (by have e : i = n := (by omega); rw [e]; rfl)⟩, by show va_P D vwCl (mW k b n m fr to w th be oe ((fgR n m fr to w th al pa bo x).1) ((fgR n m fr to w th al pa bo x).2.1) ((fgR n m fr to w th al pa bo x).2.2) rl ra mo) t.heap; rw [ht]; exact hP⟩, hS.F ht⟩) hS.2.2 dX4_isAtRest_106
      · refine lv_aload_n hx hb dX4_isAtRest_19 rfl (lv_at hl 0 rfl) ?_
        refine va_get (D := D) (ci := 4) (v := .ref (b 5)) (C := RX4) (T := TX4) (N := 14) hx hb hts i4 hown hK hP 0 rfl rfl 6 (by decide) (hts (.fieldLink RX4 23 "SignedPathsModel" "best" "[J") (by decide +kernel)) (fun _ h9 => h9) rfl dX4_isAtRest_20 ?_
        refine lv_bipush (v := nI 12) hx hb dX4_isAtRest_23 (by decide) ?_
        refine lv_iload_n hx hb dX4_isAtRest_25 rfl (lv_at hl 1 rfl) ?_
        refine rn_imul hx hb  dX4_isAtRest_26 ?_
        refine lv_iload hx hb dX4_isAtRest_27 (lv_at hl 4 rfl) ?_
        refine rn_iadd hx hb  dX4_isAtRest_29 ?_
        refine rn_lald (v := be ((12 * u) + i)) hx hb hK hP 5 3 rfl rfl (by omega) (by decide) rfl dX4_isAtRest_30 ?_
        refine lv_lstore (lv' := [(5, .long (be ((12 * u) + i))), (0, .ref (b 0)), (1, .int (nI u)), (2, .int (nI x)), (3, .int (bI (aaF true (arP be (aV n m fr to w th x) u) i))), (4, .int (nI i))]) hx hb dX4_isAtRest_31 hl (by decide) rfl (fun ls hl => ?_)
        refine lv_aload_n hx hb dX4_isAtRest_33 rfl (lv_at hl 1 rfl) ?_
        refine va_get (D := D) (ci := 4) (v := .ref (b 7)) (C := RX4) (T := TX4) (N := 14) hx hb hts i4 hown hK hP 0 rfl rfl 8 (by decide) (hts (.fieldLink RX4 30 "SignedPathsModel" "all" "[J") (by decide +kernel)) (fun _ h9 => h9) rfl dX4_isAtRest_34 ?_
        refine lv_bipush (v := nI 12) hx hb dX4_isAtRest_37 (by decide) ?_
        refine lv_iload_n hx hb dX4_isAtRest_39 rfl (lv_at hl 2 rfl) ?_
        refine rn_imul hx hb  dX4_isAtRest_40 ?_
        refine lv_iload hx hb dX4_isAtRest_41 (lv_at hl 5 rfl) ?_
        refine rn_iadd hx hb  dX4_isAtRest_43 ?_
        refine rn_lald (v := aV n m fr to w th x (12 * u + i)) hx hb hK hP 7 3 rfl rfl (by omega) (by decide) (hin _ _ _ x u i hx1 hu c16) dX4_isAtRest_44 ?_
        refine lv_lstore (lv' := [(7, .long (aV n m fr to w th x (12 * u + i))), (5, .long (be ((12 * u) + i))), (0, .ref (b 0)), (1, .int (nI u)), (2, .int (nI x)), (3, .int (bI (aaF true (arP be (aV n m fr to w th x) u) i))), (4, .int (nI i))]) hx hb dX4_isAtRest_45 hl (by decide) rfl (fun ls hl => ?_)
        refine lv_iload_n hx hb dX4_isAtRest_47 rfl (lv_at hl 5 rfl) ?_
        refine rn_ifeqb (tgt := 97) hx hb dX4_isAtRest_48 (by decide) (fun c48 => ?_) (fun c48 => ?_)
        · refine lv_iconst (v := bI false) hx hb dX4_isAtRest_97 (by decide) ?_
          refine lv_istore_n (lv' := [(3, .int (bI false)), (7, .long (aV n m fr to w th x (12 * u + i))), (5, .long (be ((12 * u) + i))), (0, .ref (b 0)), (1, .int (nI u)), (2, .int (nI x)), (4, .int (nI i))]) hx hb dX4_isAtRest_98 rfl hl (by decide) rfl (fun ls hl => ?_)
          refine lv_iinc (v := nI (i + 1)) (lv' := [(4, .int (nI (i + 1))), (3, .int (bI false)), (7, .long (aV n m fr to w th x (12 * u + i))), (5, .long (be ((12 * u) + i))), (0, .ref (b 0)), (1, .int (nI u)), (2, .int (nI x))]) hx hb dX4_isAtRest_99 hl (k := 6) rfl (nI_1 i) (by decide) rfl (fun ls hl => ?_)
          refine lv_goto (tgt := 10) hx hb dX4_isAtRest_102 (by decide) ?_
          have aaq : aaF true (arP be (aV n m fr to w th x) u) (i + 1) = false := by simp [aaF, c48]
          exact ih10 (i + 1) (by omega) (by omega)  _ _ (hP) hS ls (lv_sub hl [4, 5, 6, 1, 0] (by rw [aaq]; rfl))
        · refine lv_lload hx hb dX4_isAtRest_51 (lv_at hl 1 rfl) ?_
          refine lv_ldc2 (v := 1000000000000) hx hb hown (hts (.constantLong RX4 66 1000000000000) (by decide +kernel)) dX4_isAtRest_53 ?_
          refine rn_lcmp_lt (tgt := 72) hx hb dX4_isAtRest_56 dX4_isAtRest_57 (by decide) (fun c56 => ?_) (fun c56 => ?_)
          · refine lv_lload hx hb dX4_isAtRest_72 (lv_at hl 0 rfl) ?_
            refine lv_ldc2 (v := 1000000000000) hx hb hown (hts (.constantLong RX4 66 1000000000000) (by decide +kernel)) dX4_isAtRest_74 ?_
            refine rn_lcmp_ge (tgt := 97) hx hb dX4_isAtRest_77 dX4_isAtRest_78 (by decide) (fun c77 => ?_) (fun c77 => ?_)
            · refine lv_iconst (v := bI false) hx hb dX4_isAtRest_97 (by decide) ?_
              refine lv_istore_n (lv' := [(3, .int (bI false)), (7, .long (aV n m fr to w th x (12 * u + i))), (5, .long (be ((12 * u) + i))), (0, .ref (b 0)), (1, .int (nI u)), (2, .int (nI x)), (4, .int (nI i))]) hx hb dX4_isAtRest_98 rfl hl (by decide) rfl (fun ls hl => ?_)
              refine lv_iinc (v := nI (i + 1)) (lv' := [(4, .int (nI (i + 1))), (3, .int (bI false)), (7, .long (aV n m fr to w th x (12 * u + i))), (5, .long (be ((12 * u) + i))), (0, .ref (b 0)), (1, .int (nI u)), (2, .int (nI x))]) hx hb dX4_isAtRest_99 hl (k := 6) rfl (nI_1 i) (by decide) rfl (fun ls hl => ?_)
              refine lv_goto (tgt := 10) hx hb dX4_isAtRest_102 (by decide) ?_
              have aaq : aaF true (arP be (aV n m fr to w th x) u) (i + 1) = false := by rw [aaF, c48, arP, if_pos c56]; simp [c77]
              exact ih10 (i + 1) (by omega) (by omega)  _ _ (hP) hS ls (lv_sub hl [4, 5, 6, 1, 0] (by rw [aaq]; rfl))
            · refine lv_lload hx hb dX4_isAtRest_81 (lv_at hl 0 rfl) ?_
              refine lv_lload hx hb dX4_isAtRest_83 (lv_at hl 1 rfl) ?_
              refine cl_Ti (As := [.long (be ((12 * u) + i))]) (rest := [.long (aV n m fr to w th x (12 * u + i))]) ⟨hx, hb, hml, hown, hts⟩ (c4_weightIn l (be ((12 * u) + i)) ) (va_cwS 1 hts gX4_isAtRest_X4_weightIn rfl rfl rfl (by decide +kernel) ⟨Nat.le_of_ble_eq_true rfl, Nat.le_of_ble_eq_true rfl⟩) rfl hl.1 rfl (Nat.le_of_ble_eq_true rfl) dX4_isAtRest_85 ⟨Nat.zero_le _, Nat.zero_le _⟩ (fun r85 h85 => ?_)
              subst h85
              refine lv_i2l (v := (wIn (be ((12 * u) + i))).toInt64) hx hb dX4_isAtRest_88 rfl ?_
              refine rn_lcmp_ne (tgt := 97) hx hb dX4_isAtRest_89 dX4_isAtRest_90 (by decide) (fun c89 => ?_) (fun c89 => ?_)
              · refine lv_iconst (v := bI false) hx hb dX4_isAtRest_97 (by decide) ?_
                refine lv_istore_n (lv' := [(3, .int (bI false)), (7, .long (aV n m fr to w th x (12 * u + i))), (5, .long (be ((12 * u) + i))), (0, .ref (b 0)), (1, .int (nI u)), (2, .int (nI x)), (4, .int (nI i))]) hx hb dX4_isAtRest_98 rfl hl (by decide) rfl (fun ls hl => ?_)
                refine lv_iinc (v := nI (i + 1)) (lv' := [(4, .int (nI (i + 1))), (3, .int (bI false)), (7, .long (aV n m fr to w th x (12 * u + i))), (5, .long (be ((12 * u) + i))), (0, .ref (b 0)), (1, .int (nI u)), (2, .int (nI x))]) hx hb dX4_isAtRest_99 hl (k := 6) rfl (nI_1 i) (by decide) rfl (fun ls hl => ?_)
                refine lv_goto (tgt := 10) hx hb dX4_isAtRest_102 (by decide) ?_
                have aaq : aaF true (arP be (aV n m fr to w th x) u) (i + 1) = false := by rw [aaF, c48, arP, if_pos c56]; simp [c89]
                exact ih10 (i + 1) (by omega) (by omega)  _ _ (hP) hS ls (lv_sub hl [4, 5, 6, 1, 0] (by rw [aaq]; rfl))
              · refine lv_iconst (v := bI true) hx hb dX4_isAtRest_93 (by decide) ?_
                refine lv_goto (tgt := 98) hx hb dX4_isAtRest_94 (by decide) ?_
                refine lv_istore_n (lv' := [(3, .int (bI true)), (7, .long (aV n m fr to w th x (12 * u + i))), (5, .long (be ((12 * u) + i))), (0, .ref (b 0)), (1, .int (nI u)), (2, .int (nI x)), (4, .int (nI i))]) hx hb dX4_isAtRest_98 rfl hl (by decide) rfl (fun ls hl => ?_)
                refine lv_iinc (v := nI (i + 1)) (lv' := [(4, .int (nI (i + 1))), (3, .int (bI true)), (7, .long (aV n m fr to w th x (12 * u + i))), (5, .long (be ((12 * u) + i))), (0, .ref (b 0)), (1, .int (nI u)), (2, .int (nI x))]) hx hb dX4_isAtRest_99 hl (k := 6) rfl (nI_1 i) (by decide) rfl (fun ls hl => ?_)
                refine lv_goto (tgt := 10) hx hb dX4_isAtRest_102 (by decide) ?_
                have aaq : aaF true (arP be (aV n m fr to w th x) u) (i + 1) = true := by rw [aaF, c48, arP, if_pos c56, decide_eq_true c77, decide_eq_true c89]; rfl
                exact ih10 (i + 1) (by omega) (by omega)  _ _ (hP) hS ls (lv_sub hl [4, 5, 6, 1, 0] (by rw [aaq]; rfl))
          · refine lv_lload hx hb dX4_isAtRest_60 (lv_at hl 0 rfl) ?_
            refine lv_ldc2 (v := 1000000000000) hx hb hown (hts (.constantLong RX4 66 1000000000000) (by decide +kernel)) dX4_isAtRest_62 ?_
            refine rn_lcmp_lt (tgt := 97) hx hb dX4_isAtRest_65 dX4_isAtRest_66 (by decide) (fun c65 => ?_) (fun c65 => ?_)
            · refine lv_iconst (v := bI false) hx hb dX4_isAtRest_97 (by decide) ?_
              refine lv_istore_n (lv' := [(3, .int (bI false)), (7, .long (aV n m fr to w th x (12 * u + i))), (5, .long (be ((12 * u) + i))), (0, .ref (b 0)), (1, .int (nI u)), (2, .int (nI x)), (4, .int (nI i))]) hx hb dX4_isAtRest_98 rfl hl (by decide) rfl (fun ls hl => ?_)
              refine lv_iinc (v := nI (i + 1)) (lv' := [(4, .int (nI (i + 1))), (3, .int (bI false)), (7, .long (aV n m fr to w th x (12 * u + i))), (5, .long (be ((12 * u) + i))), (0, .ref (b 0)), (1, .int (nI u)), (2, .int (nI x))]) hx hb dX4_isAtRest_99 hl (k := 6) rfl (nI_1 i) (by decide) rfl (fun ls hl => ?_)
              refine lv_goto (tgt := 10) hx hb dX4_isAtRest_102 (by decide) ?_
              have aaq : aaF true (arP be (aV n m fr to w th x) u) (i + 1) = false := by rw [aaF, c48, arP, if_neg c56, decide_eq_false (fun q => q c65)]; rfl
              exact ih10 (i + 1) (by omega) (by omega)  _ _ (hP) hS ls (lv_sub hl [4, 5, 6, 1, 0] (by rw [aaq]; rfl))
            · refine lv_goto (tgt := 93) hx hb dX4_isAtRest_69 (by decide) ?_
              refine lv_iconst (v := bI true) hx hb dX4_isAtRest_93 (by decide) ?_
              refine lv_goto (tgt := 98) hx hb dX4_isAtRest_94 (by decide) ?_
              refine lv_istore_n (lv' := [(3, .int (bI true)), (7, .long (aV n m fr to w th x (12 * u + i))), (5, .long (be ((12 * u) + i))), (0, .ref (b 0)), (1, .int (nI u)), (2, .int (nI x)), (4, .int (nI i))]) hx hb dX4_isAtRest_98 rfl hl (by decide) rfl (fun ls hl => ?_)
              refine lv_iinc (v := nI (i + 1)) (lv' := [(4, .int (nI (i + 1))), (3, .int (bI true)), (7, .long (aV n m fr to w th x (12 * u + i))), (5, .long (be ((12 * u) + i))), (0, .ref (b 0)), (1, .int (nI u)), (2, .int (nI x))]) hx hb dX4_isAtRest_99 hl (k := 6) rfl (nI_1 i) (by decide) rfl (fun ls hl => ?_)
              refine lv_goto (tgt := 10) hx hb dX4_isAtRest_102 (by decide) ?_
              have aaq : aaF true (arP be (aV n m fr to w th x) u) (i + 1) = true := by rw [aaF, c48, arP, if_neg c56, decide_eq_true c65]; rfl
              exact ih10 (i + 1) (by omega) (by omega)  _ _ (hP) hS ls (lv_sub hl [4, 5, 6, 1, 0] (by rw [aaq]; rfl))
  exact key10 (n + 1) 0 (by omega) (by omega)  _ _ (hP) hS ls (lv_sub hl [2, 3, 4, 1, 0] rfl)
set_option maxHeartbeats 4000000 in
set_option maxRecDepth 100000 in
theorem c4_rounds (l : Launch) {D : va_G} {k : Nat → ClassId} {b : Nat → Nat} {n : Nat} {m : Nat} {fr : Nat → Nat} {to : Nat → Nat} {w : Nat → Int32} {th : Nat → Bool} {be : Nat → Int64} {oe : Nat → Int64} {al : Nat → Int64} {pa : Nat → Int64} {bo : Nat → Int64} {rl : Nat} {ra : Nat → Nat} {mo : Nat → Int64} (ha : inj 12 b) (x : Int32) (hg : gOK n m fr to) (hin : inD n m fr to w th) (hrd : ixB x n = true → rsB n (fwB n m fr to w th be) x.toNatClampNeg = true → ∃ jj, fst (atQ n m fr to w th (fwB n m fr to w th be) x.toNatClampNeg) 21 = some jj) : Met l yX4_rounds wsX4_rounds ({ frames := 3, cells := 0, slots := 0, locals := 82 }) (gPc D k (mW k b n m fr to w th be oe al pa bo rl ra mo) [.ref (b 0), .int x]) (va_Qi (S := (Nat → Int64) × (Nat → Int64) × (Nat → Int64)) (fun r u9 => (((ixB x n) = false ∧ r = -1000000001) ∨ ((ixB x n) = true ∧ ((rsB n (fwB n m fr to w th be) x.toNatClampNeg = false ∧ r = -1) ∨ (rsB n (fwB n m fr to w th be) x.toNatClampNeg = true ∧ ∃ jj, fst (atQ n m fr to w th (fwB n m fr to w th be) x.toNatClampNeg) 21 = some jj ∧ r = nI jj))))) (fun u9 t => va_P D vwCl (mW k b n m fr to w th (bw (ixB x n) (fwB n m fr to w th be) be) oe u9.1 u9.2.1 u9.2.2 rl ra mo) t.heap) (mA b)) 0 0 (mA b) := by
  refine Met.ofW (cc := cX4_rounds) (maxL := 4) (ret := (some .int)) (by decide) rfl ?_
  intro p e s mt args below meth c s₁ B hml hv
  obtain ⟨rfl, hP, hK⟩ := hv
  have hx := B.exec
  have hb := B.bytes
  have hr := B.returns
  have hts := atoms_spec (ws := wsX4_rounds) B.pre
  have hown : s.vm.findClass RX4 = some mt.cls := findClass_of_methodNamed B.named
  have hlocks := B.notSynchronized
  have i4 : ∀ w ∈ wsX40, w ∈ wsX4_rounds := by decide +kernel
  have hS : va_S (mA b) s.heap s.heap [] := va_S.rf
  have hD : va_D (mA b) (mW k b n m fr to w th be oe al pa bo rl ra mo) := mW_D ha
  have hl := lv_entry ([.ref (b 0), .int x]) (n := 4) (Nat.le_of_ble_eq_true rfl)
  rw [lg_entry_eq]
  generalize (lg_sl ([.ref (b 0), .int x]) ++ List.replicate (4 - (lg_sl ([.ref (b 0), .int x])).length) Slot.unset).toArray = ls at hl ⊢
  have hl : lv_has ls 4 [(0, .ref (b 0)), (1, .int x)] := hl
  obtain ⟨Q, hQ⟩ : ∃ Q, Q = MQ below (va_Qi (S := (Nat → Int64) × (Nat → Int64) × (Nat → Int64)) (fun r u9 => (((ixB x n) = false ∧ r = -1000000001) ∨ ((ixB x n) = true ∧ ((rsB n (fwB n m fr to w th be) x.toNatClampNeg = false ∧ r = -1) ∨ (rsB n (fwB n m fr to w th be) x.toNatClampNeg = true ∧ ∃ jj, fst (atQ n m fr to w th (fwB n m fr to w th be) x.toNatClampNeg) 21 = some jj ∧ r = nI jj))))) (fun u9 t => va_P D vwCl (mW k b n m fr to w th (bw (ixB x n) (fwB n m fr to w th be) be) oe u9.1 u9.2.1 u9.2.2 rl ra mo) t.heap) (mA b)) ([.ref (b 0), .int x] : List Value).toArray s 0 0 (mA b) := ⟨_, rfl⟩
  rw [← hQ]
  obtain ⟨hn12, hm40, hft⟩ := id hg
  refine lv_aload_n hx hb dX4_rounds_0 rfl (lv_at hl 0 rfl) ?_
  refine lv_iload_n hx hb dX4_rounds_1 rfl (lv_at hl 1 rfl) ?_
  refine cl_Si (As := [.int x]) (rest := []) ⟨hx, hb, hml, hown, hts⟩ (c4_isNode l ha x (by omega)) (cwV 1 hts gX4_rounds_X4_isNode rfl rfl rfl (by decide +kernel) ⟨Nat.le_of_ble_eq_true rfl, Nat.le_of_ble_eq_true rfl⟩) hK hP (ci := 4) (q0 := 0) rfl rfl rfl rfl hl.1 rfl (Nat.le_of_ble_eq_true rfl) dX4_rounds_2 ⟨Nat.zero_le _, Nat.zero_le _⟩ (fun r2 h2 => ?_)
  subst h2
  refine rn_ifneb (tgt := 11) hx hb dX4_rounds_5 (by decide) (fun c5 => ?_) (fun c5 => ?_)
  · obtain ⟨u, hu, rfl⟩ := ixB_t (by omega) c5
    have e1 : (nI u).toNatClampNeg = u := nI_clamp (by omega)
    rw [e1] at hrd
    refine lv_aload_n hx hb dX4_rounds_11 rfl (lv_at hl 0 rfl) ?_
    refine cl_Qv (As := []) (rest := []) ⟨hx, hb, hml, hown, hts⟩ (c4_findBest l ha  hg) (cwV 0 hts gX4_rounds_X4_findBest rfl rfl rfl (by decide +kernel) ⟨Nat.le_of_ble_eq_true rfl, Nat.le_of_ble_eq_true rfl⟩) hK hP hS (fun _ h => h) (ci := 4) (q0 := 0) rfl rfl rfl rfl hl.1 rfl (Nat.le_of_ble_eq_true rfl) dX4_rounds_12 ⟨Nat.zero_le _, Nat.zero_le _⟩ (fun H locs h12 hP _ _ hS => ?_)
    have hP : va_P D vwCl (mW k b n m fr to w th (fwB n m fr to w th be) oe al pa bo rl ra mo) H := hP
    have hD : va_D (mA b) (mW k b n m fr to w th (fwB n m fr to w th be) oe al pa bo rl ra mo) := mW_D ha
    refine lv_iconst (v := bI true) hx hb dX4_rounds_15 (by decide) ?_
    refine lv_istore_n (lv' := [(2, .int (bI true)), (0, .ref (b 0)), (1, .int (nI u))]) hx hb dX4_rounds_16 rfl hl (by decide) rfl (fun ls hl => ?_)
    refine lv_iconst (v := nI 0) hx hb dX4_rounds_17 (by decide) ?_
    refine lv_istore_n (lv' := [(3, .int (nI 0)), (2, .int (bI true)), (0, .ref (b 0)), (1, .int (nI u))]) hx hb dX4_rounds_18 rfl hl (by decide) rfl (fun ls hl => ?_)
    have key19 : ∀ (f19 i : Nat), n + 1 ≤ i + f19 → i ≤ n → ∀ (H : Heap) (locs : List Loc), va_P D vwCl (mW k b n m fr to w th (fwB n m fr to w th be) oe al pa bo rl ra mo) H → va_S (mA b) s.heap H locs → ∀ (ls : Array Slot), lv_has ls 4 [(0, .ref (b 0)), (1, .int (nI u)), (2, .int (bI (aaF true (rsP (fwB n m fr to w th be) u) i))), (3, .int (nI i))] → W p l e (headSpec wsX4_rounds { frames := 3, cells := 0, slots := 0, locals := 82 }).room s mt ([.ref (b 0), .int (nI u)] : List Value).toArray below meth c H locs 0 0 Q (F0 mt 19 ls []) := by
      intro f19
      induction f19 with
      | zero => intro i h1 h2; exact absurd h1 (by omega)
      | succ f19 ih19 =>
        intro i hf19 hi19   H locs hP hS ls hl
        have hD : va_D (mA b) (mW k b n m fr to w th (fwB n m fr to w th be) oe al pa bo rl ra mo) := mW_D ha
        refine lv_iload_n hx hb dX4_rounds_19 rfl (lv_at hl 3 rfl) ?_
        refine lv_aload_n hx hb dX4_rounds_20 rfl (lv_at hl 0 rfl) ?_
        refine va_get (D := D) (ci := 4) (v := .int (nI n)) (C := RX4) (T := TX4) (N := 14) hx hb hts i4 hown hK hP 0 rfl rfl 0 (by decide) (hts (.fieldLink RX4 45 "SignedPathsModel" "n" "I") (by decide +kernel)) (fun _ h9 => h9) rfl dX4_rounds_21 ?_
        refine rn_icmp_ge (tgt := 77) hx hb dX4_rounds_24 (by decide) (by omega) (by omega) (fun c24 => ?_) (fun c24 => ?_)
        · have en : i = n := by omega
          have hrs : aaF true (rsP (fwB n m fr to w th be) u) i = rsB n (fwB n m fr to w th be) u := by rw [en]; rfl
          refine lv_iload_n hx hb dX4_rounds_77 rfl (lv_at hl 2 rfl) ?_
          refine rn_ifneb (tgt := 83) hx hb dX4_rounds_78 (by decide) (fun c78 => ?_) (fun c78 => ?_)
          · obtain ⟨jj, hjj⟩ := hrd c5 (by rw [← hrs]; exact c78)
            obtain ⟨hj1, hj2, hj3⟩ := fst_inv hjj
            refine lv_iconst (v := nI 0) hx hb dX4_rounds_83 (by decide) ?_
            refine lv_istore_n (lv' := [(3, .int (nI 0)), (0, .ref (b 0)), (1, .int (nI u)), (2, .int (bI (aaF true (rsP (fwB n m fr to w th be) u) i)))]) hx hb dX4_rounds_84 rfl hl (by decide) rfl (fun ls hl => ?_)
            have key85 : ∀ (f85 j : Nat), jj + 1 ≤ j + f85 → j ≤ jj → ∀ (al1 : Nat → Int64), ∀ (pa1 : Nat → Int64), ∀ (bo1 : Nat → Int64), ∀ (H : Heap) (locs : List Loc), va_P D vwCl (mW k b n m fr to w th (fwB n m fr to w th be) oe al1 pa1 bo1 rl ra mo) H → va_S (mA b) s.heap H locs → ∀ (ls : Array Slot), lv_has ls 4 [(0, .ref (b 0)), (1, .int (nI u)), (2, .int (bI (aaF true (rsP (fwB n m fr to w th be) u) i))), (3, .int (nI j))] → W p l e (headSpec wsX4_rounds { frames := 3, cells := 0, slots := 0, locals := 82 }).room s mt ([.ref (b 0), .int (nI u)] : List Value).toArray below meth c H locs 0 0 Q (F0 mt 85 ls []) := by
              intro f85
              induction f85 with
              | zero => intro j h1 h2; exact absurd h1 (by omega)
              | succ f85 ih85 =>
                intro j hf85 hi85 al1 pa1 bo1  H locs hP hS ls hl
                have hD : va_D (mA b) (mW k b n m fr to w th (fwB n m fr to w th be) oe al1 pa1 bo1 rl ra mo) := mW_D ha
                refine lv_aload_n hx hb dX4_rounds_85 rfl (lv_at hl 0 rfl) ?_
                refine lv_iload_n hx hb dX4_rounds_86 rfl (lv_at hl 1 rfl) ?_
                refine lv_iload_n hx hb dX4_rounds_87 rfl (lv_at hl 3 rfl) ?_
                refine cl_Qi (As := [.int (nI u), .int (nI j)]) (rest := []) ⟨hx, hb, hml, hown, hts⟩ (c4_isAtRest l ha u j hg hin (by omega) (by omega)) (cwV 2 hts gX4_rounds_X4_isAtRest rfl rfl rfl (by decide +kernel) ⟨Nat.le_of_ble_eq_true rfl, Nat.le_of_ble_eq_true rfl⟩) hK hP hS (fun _ h => h) (ci := 4) (q0 := 0) rfl rfl rfl rfl hl.1 rfl (Nat.le_of_ble_eq_true rfl) dX4_rounds_88 ⟨Nat.zero_le _, Nat.zero_le _⟩ (fun r88 H locs h88 hP _ _ hS => ?_)
                have hP : va_P D vwCl (mW k b n m fr to w th (fwB n m fr to w th be) oe ((fgR n m fr to w th al1 pa1 bo1 j).1) ((fgR n m fr to w th al1 pa1 bo1 j).2.1) ((fgR n m fr to w th al1 pa1 bo1 j).2.2) rl ra mo) H := hP
                have hD : va_D (mA b) (mW k b n m fr to w th (fwB n m fr to w th be) oe ((fgR n m fr to w th al1 pa1 bo1 j).1) ((fgR n m fr to w th al1 pa1 bo1 j).2.1) ((fgR n m fr to w th al1 pa1 bo1 j).2.2) rl ra mo) := mW_D ha
                subst h88
                refine rn_ifneb (tgt := 100) hx hb dX4_rounds_91 (by decide) (fun c91 => ?_) (fun c91 => ?_)
                · have ej : j = jj := by rcases Nat.lt_or_ge j jj with q | q; (exact absurd (hj3 j q) (by rw [c91]; decide)); omega
                  refine lv_iload_n hx hb dX4_rounds_100 rfl (lv_at hl 3 rfl) ?_
                  rw [hQ]
                  exact W.iret (v := nI j) hx hb hr (fun t ht hW => ⟨⟨_, ((fgR n m fr to w th al1 pa1 bo1 j).1, (fgR n m fr to w th al1 pa1 bo1 j).2.1, (fgR n m fr to w th al1 pa1 bo1 j).2.2), rfl, (by rw [e1]; exact Or.inr ⟨c5, Or.inr ⟨by rw [← hrs]; exact c78, jj, hjj, by rw [ej]⟩⟩), by show va_P D vwCl (mW k b n m fr to w th (bw (ixB (nI u) n) (fwB n m fr to w th be) be) oe ((fgR n m fr to w th al1 pa1 bo1 j).1) ((fgR n m fr to w th al1 pa1 bo1 j).2.1) ((fgR n m fr to w th al1 pa1 bo1 j).2.2) rl ra mo) t.heap; rw [ht]; rw [bw_t c5]; exact hP⟩, hS.F ht⟩) hS.2.2 dX4_rounds_101
                · refine lv_iinc (v := nI (j + 1)) (lv' := [(3, .int (nI (j + 1))), (0, .ref (b 0)), (1, .int (nI u)), (2, .int (bI (aaF true (rsP (fwB n m fr to w th be) u) i)))]) hx hb dX4_rounds_94 hl (k := 3) rfl (nI_1 j) (by decide) rfl (fun ls hl => ?_)
                  refine lv_goto (tgt := 85) hx hb dX4_rounds_97 (by decide) ?_
                  have hq : j ≠ jj := by intro q; rw [← q] at hj2; rw [c91] at hj2; cases hj2
                  exact ih85 (j + 1) (by omega) (by omega) ((fgR n m fr to w th al1 pa1 bo1 j).1) ((fgR n m fr to w th al1 pa1 bo1 j).2.1) ((fgR n m fr to w th al1 pa1 bo1 j).2.2)  _ _ (hP) hS ls (lv_sub hl [1, 2, 3, 0] rfl)
            exact key85 (jj + 1) 0 (by omega) (by omega) al pa bo  _ _ (hP) hS ls (lv_sub hl [1, 2, 3, 0] rfl)
          · refine lv_iconst (v := (-1)) hx hb dX4_rounds_81 (by decide) ?_
            rw [hQ]
            exact W.iret (v := (-1)) hx hb hr (fun t ht hW => ⟨⟨_, (al, pa, bo), rfl, (by rw [e1]; exact Or.inr ⟨c5, Or.inl ⟨by rw [← hrs]; exact c78, rfl⟩⟩), by show va_P D vwCl (mW k b n m fr to w th (bw (ixB (nI u) n) (fwB n m fr to w th be) be) oe al pa bo rl ra mo) t.heap; rw [ht]; rw [bw_t c5]; exact hP⟩, hS.F ht⟩) hS.2.2 dX4_rounds_82
        · refine lv_iload_n hx hb dX4_rounds_27 rfl (lv_at hl 2 rfl) ?_
          refine rn_ifeqb (tgt := 69) hx hb dX4_rounds_28 (by decide) (fun c28 => ?_) (fun c28 => ?_)
          · refine lv_iconst (v := bI false) hx hb dX4_rounds_69 (by decide) ?_
            refine lv_istore_n (lv' := [(2, .int (bI false)), (0, .ref (b 0)), (1, .int (nI u)), (3, .int (nI i))]) hx hb dX4_rounds_70 rfl hl (by decide) rfl (fun ls hl => ?_)
            refine lv_iinc (v := nI (i + 1)) (lv' := [(3, .int (nI (i + 1))), (2, .int (bI false)), (0, .ref (b 0)), (1, .int (nI u))]) hx hb dX4_rounds_71 hl (k := 3) rfl (nI_1 i) (by decide) rfl (fun ls hl => ?_)
            refine lv_goto (tgt := 19) hx hb dX4_rounds_74 (by decide) ?_
            have aaq : aaF true (rsP (fwB n m fr to w th be) u) (i + 1) = false := by simp [aaF, c28]
            exact ih19 (i + 1) (by omega) (by omega)  _ _ (hP) hS ls (lv_sub hl [2, 3, 1, 0] (by rw [aaq]; rfl))
          · refine lv_aload_n hx hb dX4_rounds_31 rfl (lv_at hl 0 rfl) ?_
            refine va_get (D := D) (ci := 4) (v := .ref (b 5)) (C := RX4) (T := TX4) (N := 14) hx hb hts i4 hown hK hP 0 rfl rfl 6 (by decide) (hts (.fieldLink RX4 23 "SignedPathsModel" "best" "[J") (by decide +kernel)) (fun _ h9 => h9) rfl dX4_rounds_32 ?_
            refine lv_bipush (v := nI 12) hx hb dX4_rounds_35 (by decide) ?_
            refine lv_iload_n hx hb dX4_rounds_37 rfl (lv_at hl 1 rfl) ?_
            refine rn_imul hx hb  dX4_rounds_38 ?_
            refine lv_iload_n hx hb dX4_rounds_39 rfl (lv_at hl 3 rfl) ?_
            refine rn_iadd hx hb  dX4_rounds_40 ?_
            refine rn_lald (v := (fwB n m fr to w th be) ((12 * u) + i)) hx hb hK hP 5 3 rfl rfl (by omega) (by decide) rfl dX4_rounds_41 ?_
            refine lv_ldc2 (v := 1000000000000) hx hb hown (hts (.constantLong RX4 66 1000000000000) (by decide +kernel)) dX4_rounds_42 ?_
            refine rn_lcmp_ge (tgt := 65) hx hb dX4_rounds_45 dX4_rounds_46 (by decide) (fun c45 => ?_) (fun c45 => ?_)
            · refine lv_iconst (v := bI true) hx hb dX4_rounds_65 (by decide) ?_
              refine lv_goto (tgt := 70) hx hb dX4_rounds_66 (by decide) ?_
              refine lv_istore_n (lv' := [(2, .int (bI true)), (0, .ref (b 0)), (1, .int (nI u)), (3, .int (nI i))]) hx hb dX4_rounds_70 rfl hl (by decide) rfl (fun ls hl => ?_)
              refine lv_iinc (v := nI (i + 1)) (lv' := [(3, .int (nI (i + 1))), (2, .int (bI true)), (0, .ref (b 0)), (1, .int (nI u))]) hx hb dX4_rounds_71 hl (k := 3) rfl (nI_1 i) (by decide) rfl (fun ls hl => ?_)
              refine lv_goto (tgt := 19) hx hb dX4_rounds_74 (by decide) ?_
              have aaq : aaF true (rsP (fwB n m fr to w th be) u) (i + 1) = true := by rw [aaF, c28, rsP, if_pos c45]; rfl
              exact ih19 (i + 1) (by omega) (by omega)  _ _ (hP) hS ls (lv_sub hl [2, 3, 1, 0] (by rw [aaq]; rfl))
            · refine lv_aload_n hx hb dX4_rounds_49 rfl (lv_at hl 0 rfl) ?_
              refine va_get (D := D) (ci := 4) (v := .ref (b 5)) (C := RX4) (T := TX4) (N := 14) hx hb hts i4 hown hK hP 0 rfl rfl 6 (by decide) (hts (.fieldLink RX4 23 "SignedPathsModel" "best" "[J") (by decide +kernel)) (fun _ h9 => h9) rfl dX4_rounds_50 ?_
              refine lv_bipush (v := nI 12) hx hb dX4_rounds_53 (by decide) ?_
              refine lv_iload_n hx hb dX4_rounds_55 rfl (lv_at hl 3 rfl) ?_
              refine rn_imul hx hb  dX4_rounds_56 ?_
              refine lv_iload_n hx hb dX4_rounds_57 rfl (lv_at hl 3 rfl) ?_
              refine rn_iadd hx hb  dX4_rounds_58 ?_
              refine rn_lald (v := (fwB n m fr to w th be) ((12 * i) + i)) hx hb hK hP 5 3 rfl rfl (by omega) (by decide) rfl dX4_rounds_59 ?_
              refine lv_lconst (v := 0) hx hb dX4_rounds_60 (by decide) ?_
              refine rn_lcmp_lt (tgt := 69) hx hb dX4_rounds_61 dX4_rounds_62 (by decide) (fun c61 => ?_) (fun c61 => ?_)
              · refine lv_iconst (v := bI false) hx hb dX4_rounds_69 (by decide) ?_
                refine lv_istore_n (lv' := [(2, .int (bI false)), (0, .ref (b 0)), (1, .int (nI u)), (3, .int (nI i))]) hx hb dX4_rounds_70 rfl hl (by decide) rfl (fun ls hl => ?_)
                refine lv_iinc (v := nI (i + 1)) (lv' := [(3, .int (nI (i + 1))), (2, .int (bI false)), (0, .ref (b 0)), (1, .int (nI u))]) hx hb dX4_rounds_71 hl (k := 3) rfl (nI_1 i) (by decide) rfl (fun ls hl => ?_)
                refine lv_goto (tgt := 19) hx hb dX4_rounds_74 (by decide) ?_
                have aaq : aaF true (rsP (fwB n m fr to w th be) u) (i + 1) = false := by rw [aaF, c28, rsP, if_neg c45, decide_eq_false (fun q => q c61)]; rfl
                exact ih19 (i + 1) (by omega) (by omega)  _ _ (hP) hS ls (lv_sub hl [2, 3, 1, 0] (by rw [aaq]; rfl))
              · refine lv_iconst (v := bI true) hx hb dX4_rounds_65 (by decide) ?_
                refine lv_goto (tgt := 70) hx hb dX4_rounds_66 (by decide) ?_
                refine lv_istore_n (lv' := [(2, .int (bI true)), (0, .ref (b 0)), (1, .int (nI u)), (3, .int (nI i))]) hx hb dX4_rounds_70 rfl hl (by decide) rfl (fun ls hl => ?_)
                refine lv_iinc (v := nI (i + 1)) (lv' := [(3, .int (nI (i + 1))), (2, .int (bI true)), (0, .ref (b 0)), (1, .int (nI u))]) hx hb dX4_rounds_71 hl (k := 3) rfl (nI_1 i) (by decide) rfl (fun ls hl => ?_)
                refine lv_goto (tgt := 19) hx hb dX4_rounds_74 (by decide) ?_
                have aaq : aaF true (rsP (fwB n m fr to w th be) u) (i + 1) = true := by rw [aaF, c28, rsP, if_neg c45, decide_eq_true c61]; rfl
                exact ih19 (i + 1) (by omega) (by omega)  _ _ (hP) hS ls (lv_sub hl [2, 3, 1, 0] (by rw [aaq]; rfl))
    exact key19 (n + 1) 0 (by omega) (by omega)  _ _ (hP) hS ls (lv_sub hl [2, 3, 1, 0] rfl)
  · refine lv_ldc (v := (-1000000001)) hx hb hown (hts (.constant RX4 61 (-1000000001)) (by decide +kernel)) dX4_rounds_8 ?_
    rw [hQ]
    exact W.iret (v := (-1000000001)) hx hb hr (fun t ht hW => ⟨⟨_, (al, pa, bo), rfl, (Or.inl ⟨c5, rfl⟩), by show va_P D vwCl (mW k b n m fr to w th (bw (ixB x n) (fwB n m fr to w th be) be) oe al pa bo rl ra mo) t.heap; rw [ht]; rw [bw_f c5]; exact hP⟩, hS.F ht⟩) hS.2.2 dX4_rounds_10
set_option maxHeartbeats 4000000 in
set_option maxRecDepth 100000 in
theorem c4_fewest (l : Launch) {D : va_G} {k : Nat → ClassId} {b : Nat → Nat} {n : Nat} {m : Nat} {fr : Nat → Nat} {to : Nat → Nat} {w : Nat → Int32} {th : Nat → Bool} {be : Nat → Int64} {oe : Nat → Int64} {al : Nat → Int64} {pa : Nat → Int64} {bo : Nat → Int64} {rl : Nat} {ra : Nat → Nat} {mo : Nat → Int64} (ha : inj 12 b)  (hg : gOK n m fr to) (hin : inD n m fr to w th) : Met l yX4_fewest wsX4_fewest ({ frames := 2, cells := 0, slots := 0, locals := 54 }) (gPc D k (mW k b n m fr to w th be oe al pa bo rl ra mo) [.ref (b 0)]) (va_Qi (S := (Nat → Int64) × (Nat → Int64) × (Nat → Int64)) (fun r u9 => r = nI (feN n m fr to w th)) (fun u9 t => va_P D vwCl (mW k b n m fr to w th be oe u9.1 u9.2.1 u9.2.2 rl ra mo) t.heap) (mA b)) 0 0 (mA b) := by
  refine Met.ofW (cc := cX4_fewest) (maxL := 3) (ret := (some .int)) (by decide) rfl ?_
  intro p e s mt args below meth c s₁ B hml hv
  obtain ⟨rfl, hP, hK⟩ := hv
  have hx := B.exec
  have hb := B.bytes
  have hr := B.returns
  have hts := atoms_spec (ws := wsX4_fewest) B.pre
  have hown : s.vm.findClass RX4 = some mt.cls := findClass_of_methodNamed B.named
  have hlocks := B.notSynchronized
  have i4 : ∀ w ∈ wsX40, w ∈ wsX4_fewest := by decide +kernel
  have hS : va_S (mA b) s.heap s.heap [] := va_S.rf
  have hD : va_D (mA b) (mW k b n m fr to w th be oe al pa bo rl ra mo) := mW_D ha
  have hl := lv_entry ([.ref (b 0)]) (n := 3) (Nat.le_of_ble_eq_true rfl)
  rw [lg_entry_eq]
  generalize (lg_sl ([.ref (b 0)]) ++ List.replicate (3 - (lg_sl ([.ref (b 0)])).length) Slot.unset).toArray = ls at hl ⊢
  have hl : lv_has ls 3 [(0, .ref (b 0))] := hl
  obtain ⟨Q, hQ⟩ : ∃ Q, Q = MQ below (va_Qi (S := (Nat → Int64) × (Nat → Int64) × (Nat → Int64)) (fun r u9 => r = nI (feN n m fr to w th)) (fun u9 t => va_P D vwCl (mW k b n m fr to w th be oe u9.1 u9.2.1 u9.2.2 rl ra mo) t.heap) (mA b)) ([.ref (b 0)] : List Value).toArray s 0 0 (mA b) := ⟨_, rfl⟩
  rw [← hQ]
  obtain ⟨hn12, hm40, hft⟩ := id hg
  refine lv_iconst (v := nI 1) hx hb dX4_fewest_0 (by decide) ?_
  refine lv_istore_n (lv' := [(1, .int (nI 1)), (0, .ref (b 0))]) hx hb dX4_fewest_1 rfl hl (by decide) rfl (fun ls hl => ?_)
  have key2 : ∀ (f2 i : Nat), n + 1 ≤ i + f2 → i ≤ n → ∀ (al1 : Nat → Int64), ∀ (pa1 : Nat → Int64), ∀ (bo1 : Nat → Int64), (∀ j, j < i → ngK n m fr to w th j = false) → ∀ (H : Heap) (locs : List Loc), va_P D vwCl (mW k b n m fr to w th be oe al1 pa1 bo1 rl ra mo) H → va_S (mA b) s.heap H locs → ∀ (ls : Array Slot), lv_has ls 3 [(0, .ref (b 0)), (1, .int (nI (i + 1)))] → W p l e (headSpec wsX4_fewest { frames := 2, cells := 0, slots := 0, locals := 54 }).room s mt ([.ref (b 0)] : List Value).toArray below meth c H locs 0 0 Q (F0 mt 2 ls []) := by
    intro f2
    induction f2 with
    | zero => intro i h1 h2; exact absurd h1 (by omega)
    | succ f2 ih2 =>
      intro i hf2 hi2 al1 pa1 bo1 hv2 H locs hP hS ls hl
      have hD : va_D (mA b) (mW k b n m fr to w th be oe al1 pa1 bo1 rl ra mo) := mW_D ha
      refine lv_iload_n hx hb dX4_fewest_2 rfl (lv_at hl 1 rfl) ?_
      refine lv_aload_n hx hb dX4_fewest_3 rfl (lv_at hl 0 rfl) ?_
      refine va_get (D := D) (ci := 4) (v := .int (nI n)) (C := RX4) (T := TX4) (N := 14) hx hb hts i4 hown hK hP 0 rfl rfl 0 (by decide) (hts (.fieldLink RX4 45 "SignedPathsModel" "n" "I") (by decide +kernel)) (fun _ h9 => h9) rfl dX4_fewest_4 ?_
      refine rn_icmp_gt (tgt := 55) hx hb dX4_fewest_7 (by decide) (by omega) (by omega) (fun c7 => ?_) (fun c7 => ?_)
      · refine lv_iconst (v := 0) hx hb dX4_fewest_55 (by decide) ?_
        rw [hQ]
        exact W.iret (v := 0) hx hb hr (fun t ht hW => ⟨⟨_, (al1, pa1, bo1), rfl, (by rw [feN, fst_no (fun j hj => hv2 j (by omega))]; rfl), by show va_P D vwCl (mW k b n m fr to w th be oe al1 pa1 bo1 rl ra mo) t.heap; rw [ht]; exact hP⟩, hS.F ht⟩) hS.2.2 dX4_fewest_56
      · refine lv_aload_n hx hb dX4_fewest_10 rfl (lv_at hl 0 rfl) ?_
        refine lv_iload_n hx hb dX4_fewest_11 rfl (lv_at hl 1 rfl) ?_
        refine cl_Qv (As := [.int (nI (i + 1))]) (rest := []) ⟨hx, hb, hml, hown, hts⟩ (c4_findAll l ha (i + 1) hg (by omega)) (cwV 1 hts gX4_fewest_X4_findAll rfl rfl rfl (by decide +kernel) ⟨Nat.le_of_ble_eq_true rfl, Nat.le_of_ble_eq_true rfl⟩) hK hP hS (fun _ h => h) (ci := 4) (q0 := 0) rfl rfl rfl rfl hl.1 rfl (Nat.le_of_ble_eq_true rfl) dX4_fewest_12 ⟨Nat.zero_le _, Nat.zero_le _⟩ (fun H locs h12 hP _ _ hS => ?_)
        have hP : va_P D vwCl (mW k b n m fr to w th be oe ((fgR n m fr to w th al1 pa1 bo1 (i + 1)).1) ((fgR n m fr to w th al1 pa1 bo1 (i + 1)).2.1) ((fgR n m fr to w th al1 pa1 bo1 (i + 1)).2.2) rl ra mo) H := hP
        have hD : va_D (mA b) (mW k b n m fr to w th be oe ((fgR n m fr to w th al1 pa1 bo1 (i + 1)).1) ((fgR n m fr to w th al1 pa1 bo1 (i + 1)).2.1) ((fgR n m fr to w th al1 pa1 bo1 (i + 1)).2.2) rl ra mo) := mW_D ha
        refine lv_iconst (v := nI 0) hx hb dX4_fewest_15 (by decide) ?_
        refine lv_istore_n (lv' := [(2, .int (nI 0)), (0, .ref (b 0)), (1, .int (nI (i + 1)))]) hx hb dX4_fewest_16 rfl hl (by decide) rfl (fun ls hl => ?_)
        have key17 : ∀ (f17 u : Nat), n + 1 ≤ u + f17 → u ≤ n → (∀ j, j < u → ngP (aV n m fr to w th (i + 1)) j = false) → ∀ (H : Heap) (locs : List Loc), va_P D vwCl (mW k b n m fr to w th be oe ((fgR n m fr to w th al1 pa1 bo1 (i + 1)).1) ((fgR n m fr to w th al1 pa1 bo1 (i + 1)).2.1) ((fgR n m fr to w th al1 pa1 bo1 (i + 1)).2.2) rl ra mo) H → va_S (mA b) s.heap H locs → ∀ (ls : Array Slot), lv_has ls 3 [(0, .ref (b 0)), (1, .int (nI (i + 1))), (2, .int (nI u))] → W p l e (headSpec wsX4_fewest { frames := 2, cells := 0, slots := 0, locals := 54 }).room s mt ([.ref (b 0)] : List Value).toArray below meth c H locs 0 0 Q (F0 mt 17 ls []) := by
          intro f17
          induction f17 with
          | zero => intro u h1 h2; exact absurd h1 (by omega)
          | succ f17 ih17 =>
            intro u hf17 hi17  hv17 H locs hP hS ls hl
            have hD : va_D (mA b) (mW k b n m fr to w th be oe ((fgR n m fr to w th al1 pa1 bo1 (i + 1)).1) ((fgR n m fr to w th al1 pa1 bo1 (i + 1)).2.1) ((fgR n m fr to w th al1 pa1 bo1 (i + 1)).2.2) rl ra mo) := mW_D ha
            refine lv_iload_n hx hb dX4_fewest_17 rfl (lv_at hl 2 rfl) ?_
            refine lv_aload_n hx hb dX4_fewest_18 rfl (lv_at hl 0 rfl) ?_
            refine va_get (D := D) (ci := 4) (v := .int (nI n)) (C := RX4) (T := TX4) (N := 14) hx hb hts i4 hown hK hP 0 rfl rfl 0 (by decide) (hts (.fieldLink RX4 45 "SignedPathsModel" "n" "I") (by decide +kernel)) (fun _ h9 => h9) rfl dX4_fewest_19 ?_
            refine rn_icmp_ge (tgt := 49) hx hb dX4_fewest_22 (by decide) (by omega) (by omega) (fun c22 => ?_) (fun c22 => ?_)
            · refine lv_iinc (v := nI (i + 1 + 1)) (lv' := [(1, .int (nI (i + 1 + 1))), (0, .ref (b 0)), (2, .int (nI u))]) hx hb dX4_fewest_49 hl (k := 1) rfl (nI_1 (i + 1)) (by decide) rfl (fun ls hl => ?_)
              refine lv_goto (tgt := 2) hx hb dX4_fewest_52 (by decide) ?_
              exact ih2 (i + 1) (by omega) (by omega) ((fgR n m fr to w th al1 pa1 bo1 (i + 1)).1) ((fgR n m fr to w th al1 pa1 bo1 (i + 1)).2.1) ((fgR n m fr to w th al1 pa1 bo1 (i + 1)).2.2) (lt_s hv2 (by rw [ngK, fst_no (fun j hj => hv17 j (by omega))]; rfl)) _ _ (hP) hS ls (lv_sub hl [1, 0] rfl)
            · refine lv_aload_n hx hb dX4_fewest_25 rfl (lv_at hl 0 rfl) ?_
              refine va_get (D := D) (ci := 4) (v := .ref (b 7)) (C := RX4) (T := TX4) (N := 14) hx hb hts i4 hown hK hP 0 rfl rfl 8 (by decide) (hts (.fieldLink RX4 30 "SignedPathsModel" "all" "[J") (by decide +kernel)) (fun _ h9 => h9) rfl dX4_fewest_26 ?_
              refine lv_bipush (v := nI 12) hx hb dX4_fewest_29 (by decide) ?_
              refine lv_iload_n hx hb dX4_fewest_31 rfl (lv_at hl 2 rfl) ?_
              refine rn_imul hx hb  dX4_fewest_32 ?_
              refine lv_iload_n hx hb dX4_fewest_33 rfl (lv_at hl 2 rfl) ?_
              refine rn_iadd hx hb  dX4_fewest_34 ?_
              refine rn_lald (v := aV n m fr to w th (i + 1) (12 * u + u)) hx hb hK hP 7 3 rfl rfl (by omega) (by decide) (hin _ _ _ (i + 1) u u (by omega) c22 c22) dX4_fewest_35 ?_
              refine lv_lconst (v := 0) hx hb dX4_fewest_36 (by decide) ?_
              refine rn_lcmp_ge (tgt := 43) hx hb dX4_fewest_37 dX4_fewest_38 (by decide) (fun c37 => ?_) (fun c37 => ?_)
              · refine lv_iinc (v := nI (u + 1)) (lv' := [(2, .int (nI (u + 1))), (0, .ref (b 0)), (1, .int (nI (i + 1)))]) hx hb dX4_fewest_43 hl (k := 2) rfl (nI_1 u) (by decide) rfl (fun ls hl => ?_)
                refine lv_goto (tgt := 17) hx hb dX4_fewest_46 (by decide) ?_
                exact ih17 (u + 1) (by omega) (by omega) (lt_s hv17 (by simp [ngP, c37])) _ _ (hP) hS ls (lv_sub hl [1, 2, 0] rfl)
              · refine lv_iload_n hx hb dX4_fewest_41 rfl (lv_at hl 1 rfl) ?_
                rw [hQ]
                exact W.iret (v := nI (i + 1)) hx hb hr (fun t ht hW => ⟨⟨_, ((fgR n m fr to w th al1 pa1 bo1 (i + 1)).1, (fgR n m fr to w th al1 pa1 bo1 (i + 1)).2.1, (fgR n m fr to w th al1 pa1 bo1 (i + 1)).2.2), rfl, (by rw [feN, fst_yes hv2 (by rw [ngK, fst_yes hv17 (by simp [ngP, c37]) c22]; rfl) (by omega)]), by show va_P D vwCl (mW k b n m fr to w th be oe ((fgR n m fr to w th al1 pa1 bo1 (i + 1)).1) ((fgR n m fr to w th al1 pa1 bo1 (i + 1)).2.1) ((fgR n m fr to w th al1 pa1 bo1 (i + 1)).2.2) rl ra mo) t.heap; rw [ht]; exact hP⟩, hS.F ht⟩) hS.2.2 dX4_fewest_42
        exact key17 (n + 1) 0 (by omega) (by omega) (fun j h => absurd h (Nat.not_lt_zero j)) _ _ (hP) hS ls (lv_sub hl [1, 2, 0] rfl)
  exact key2 (n + 1) 0 (by omega) (by omega) al pa bo (fun j h => absurd h (Nat.not_lt_zero j)) _ _ (hP) hS ls (lv_sub hl [1, 0] rfl)
set_option maxHeartbeats 4000000 in
set_option maxRecDepth 100000 in
theorem c4_goesOn_A (l : Launch) {D : va_G} {k : Nat → ClassId} {b : Nat → Nat} {n : Nat} {m : Nat} {fr : Nat → Nat} {to : Nat → Nat} {w : Nat → Int32} {th : Nat → Bool} {be : Nat → Int64} {oe : Nat → Int64} {al : Nat → Int64} {pa : Nat → Int64} {bo : Nat → Int64} {rl : Nat} {ra : Nat → Nat} {mo : Nat → Int64} (ha : inj 12 b) (j : Nat) (z : Int32) (q : Int64) (hg : gOK n m fr to) (hj : j < m) : Met l yX4_goesOn wsX4_goesOn ({ frames := 0, cells := 0, slots := 0, locals := 0 }) (gPc D k (mW k b n m fr to w th be oe al pa bo rl ra mo) [.ref (b 0), .int (nI j), .int (-1), .int z, .long q]) (vp_Si (fun r => r = bI (goA fr to w th al z q j))) 0 0 nF := by
  refine Met.ofW (cc := cX4_goesOn) (maxL := 8) (ret := (some .boolean)) (by decide) rfl ?_
  intro p e s mt args below meth c s₁ B hml hv
  obtain ⟨rfl, hP, hK⟩ := hv
  have hx := B.exec
  have hb := B.bytes
  have hr := B.returns
  have hts := atoms_spec (ws := wsX4_goesOn) B.pre
  have hown : s.vm.findClass RX4 = some mt.cls := findClass_of_methodNamed B.named
  have hlocks := B.notSynchronized
  have i4 : ∀ w ∈ wsX40, w ∈ wsX4_goesOn := by decide +kernel
  have hl := lv_entry ([.ref (b 0), .int (nI j), .int (-1), .int z, .long q]) (n := 8) (Nat.le_of_ble_eq_true rfl)
  rw [lg_entry_eq]
  generalize (lg_sl ([.ref (b 0), .int (nI j), .int (-1), .int z, .long q]) ++ List.replicate (8 - (lg_sl ([.ref (b 0), .int (nI j), .int (-1), .int z, .long q])).length) Slot.unset).toArray = ls at hl ⊢
  have hl : lv_has ls 8 [(0, .ref (b 0)), (1, .int (nI j)), (2, .int (-1)), (3, .int z), (4, .long q)] := hl
  obtain ⟨hn12, hm40, hft⟩ := id hg
  have hj2 := hft j hj
  refine lv_aload_n hx hb dX4_goesOn_0 rfl (lv_at hl 0 rfl) ?_
  refine va_get (D := D) (ci := 4) (v := .ref (b 4)) (C := RX4) (T := TX4) (N := 14) hx hb hts i4 hown hK hP 0 rfl rfl 5 (by decide) (hts (.fieldLink RX4 19 "SignedPathsModel" "isThere" "[Z") (by decide +kernel)) (fun _ h9 => h9) rfl dX4_goesOn_1 ?_
  refine lv_iload_n hx hb dX4_goesOn_4 rfl (lv_at hl 1 rfl) ?_
  refine rn_zald (v := bI (th j)) hx hb hK hP 4 1 rfl rfl (by omega) (by decide) rfl dX4_goesOn_5 ?_
  refine rn_ifeqb (tgt := 24) hx hb dX4_goesOn_6 (by decide) (fun c6 => ?_) (fun c6 => ?_)
  · refine lv_iconst (v := 0) hx hb dX4_goesOn_24 (by decide) ?_
    exact W.zret (v := 0) hx hb hr (by decide) (fun t ht hW => ⟨_, rfl, (by simp [goA, c6, bI]), ht⟩) (fun q h => absurd h List.not_mem_nil) dX4_goesOn_25
  · refine lv_iload_n hx hb dX4_goesOn_9 rfl (lv_at hl 3 rfl) ?_
    refine lv_iconst (v := (-1)) hx hb dX4_goesOn_10 (by decide) ?_
    refine lv_icmp_eq (tgt := 26) hx hb dX4_goesOn_11 (by decide) (fun c11 => ?_) (fun c11 => ?_)
    · refine lv_aload_n hx hb dX4_goesOn_26 rfl (lv_at hl 0 rfl) ?_
      refine va_get (D := D) (ci := 4) (v := .ref (b 7)) (C := RX4) (T := TX4) (N := 14) hx hb hts i4 hown hK hP 0 rfl rfl 8 (by decide) (hts (.fieldLink RX4 30 "SignedPathsModel" "all" "[J") (by decide +kernel)) (fun _ h9 => h9) rfl dX4_goesOn_27 ?_
      refine lv_bipush (v := nI 12) hx hb dX4_goesOn_30 (by decide) ?_
      refine lv_aload_n hx hb dX4_goesOn_32 rfl (lv_at hl 0 rfl) ?_
      refine va_get (D := D) (ci := 4) (v := .ref (b 2)) (C := RX4) (T := TX4) (N := 14) hx hb hts i4 hown hK hP 0 rfl rfl 3 (by decide) (hts (.fieldLink RX4 13 "SignedPathsModel" "to" "[I") (by decide +kernel)) (fun _ h9 => h9) rfl dX4_goesOn_33 ?_
      refine lv_iload_n hx hb dX4_goesOn_36 rfl (lv_at hl 1 rfl) ?_
      refine rn_iald (v := nI (to j)) hx hb hK hP 2 0 rfl rfl (by omega) (by decide) rfl dX4_goesOn_37 ?_
      refine rn_imul hx hb  dX4_goesOn_38 ?_
      refine lv_iload_n hx hb dX4_goesOn_39 rfl (lv_at hl 2 rfl) ?_
      refine lv_iconst (v := (-1)) hx hb dX4_goesOn_40 (by decide) ?_
      refine lv_icmp_ne (tgt := 53) hx hb dX4_goesOn_41 (by decide) (fun c41 => absurd rfl c41) (fun c41 => ?_)
      refine lv_aload_n hx hb dX4_goesOn_44 rfl (lv_at hl 0 rfl) ?_
      refine va_get (D := D) (ci := 4) (v := .ref (b 1)) (C := RX4) (T := TX4) (N := 14) hx hb hts i4 hown hK hP 0 rfl rfl 2 (by decide) (hts (.fieldLink RX4 7 "SignedPathsModel" "from" "[I") (by decide +kernel)) (fun _ h9 => h9) rfl dX4_goesOn_45 ?_
      refine lv_iload_n hx hb dX4_goesOn_48 rfl (lv_at hl 1 rfl) ?_
      refine rn_iald (v := nI (fr j)) hx hb hK hP 1 0 rfl rfl (by omega) (by decide) rfl dX4_goesOn_49 ?_
      refine lv_goto (tgt := 54) hx hb dX4_goesOn_50 (by decide) ?_
      refine rn_iadd hx hb  dX4_goesOn_54 ?_
      refine rn_lald (v := al ((12 * (to j)) + (fr j))) hx hb hK hP 7 3 rfl rfl (by omega) (by decide) rfl dX4_goesOn_55 ?_
      refine lv_lstore (lv' := [(6, .long (al ((12 * (to j)) + (fr j)))), (0, .ref (b 0)), (1, .int (nI j)), (2, .int (-1)), (3, .int z), (4, .long q)]) hx hb dX4_goesOn_56 hl (by decide) rfl (fun ls hl => ?_)
      refine lv_lload hx hb dX4_goesOn_58 (lv_at hl 0 rfl) ?_
      refine lv_ldc2 (v := 1000000000000) hx hb hown (hts (.constantLong RX4 66 1000000000000) (by decide +kernel)) dX4_goesOn_60 ?_
      refine rn_lcmp_ge (tgt := 89) hx hb dX4_goesOn_63 dX4_goesOn_64 (by decide) (fun c63 => ?_) (fun c63 => ?_)
      · refine lv_iconst (v := 0) hx hb dX4_goesOn_89 (by decide) ?_
        exact W.zret (v := 0) hx hb hr (by decide) (fun t ht hW => ⟨_, rfl, (by simp [goA, c11, c63, bI]), ht⟩) (fun q h => absurd h List.not_mem_nil) dX4_goesOn_90
      · refine lv_lload hx hb dX4_goesOn_67 (lv_at hl 5 rfl) ?_
        refine lv_aload_n hx hb dX4_goesOn_69 rfl (lv_at hl 1 rfl) ?_
        refine va_get (D := D) (ci := 4) (v := .ref (b 3)) (C := RX4) (T := TX4) (N := 14) hx hb hts i4 hown hK hP 0 rfl rfl 4 (by decide) (hts (.fieldLink RX4 16 "SignedPathsModel" "weight" "[I") (by decide +kernel)) (fun _ h9 => h9) rfl dX4_goesOn_70 ?_
        refine lv_iload_n hx hb dX4_goesOn_73 rfl (lv_at hl 2 rfl) ?_
        refine rn_iald (v := w j) hx hb hK hP 3 0 rfl rfl (by omega) (by decide) rfl dX4_goesOn_74 ?_
        refine lv_i2l (v := (w j).toInt64) hx hb dX4_goesOn_75 rfl ?_
        refine lv_ladd hx hb dX4_goesOn_76  ?_
        refine lv_lload hx hb dX4_goesOn_77 (lv_at hl 0 rfl) ?_
        refine lv_ladd hx hb dX4_goesOn_79  ?_
        refine lv_lconst (v := 0) hx hb dX4_goesOn_80 (by decide) ?_
        refine rn_lcmp_ge (tgt := 89) hx hb dX4_goesOn_81 dX4_goesOn_82 (by decide) (fun c81 => ?_) (fun c81 => ?_)
        · refine lv_iconst (v := 0) hx hb dX4_goesOn_89 (by decide) ?_
          exact W.zret (v := 0) hx hb hr (by decide) (fun t ht hW => ⟨_, rfl, (by simp [goA, c11, c6, c63, c81, bI]), ht⟩) (fun q h => absurd h List.not_mem_nil) dX4_goesOn_90
        · refine lv_iconst (v := 1) hx hb dX4_goesOn_85 (by decide) ?_
          refine lv_goto (tgt := 90) hx hb dX4_goesOn_86 (by decide) ?_
          exact W.zret (v := 1) hx hb hr (by decide) (fun t ht hW => ⟨_, rfl, (by simp [goA, c11, c6, c63, c81, bI]), ht⟩) (fun q h => absurd h List.not_mem_nil) dX4_goesOn_90
    · refine lv_aload_n hx hb dX4_goesOn_14 rfl (lv_at hl 0 rfl) ?_
      refine va_get (D := D) (ci := 4) (v := .ref (b 1)) (C := RX4) (T := TX4) (N := 14) hx hb hts i4 hown hK hP 0 rfl rfl 2 (by decide) (hts (.fieldLink RX4 7 "SignedPathsModel" "from" "[I") (by decide +kernel)) (fun _ h9 => h9) rfl dX4_goesOn_15 ?_
      refine lv_iload_n hx hb dX4_goesOn_18 rfl (lv_at hl 1 rfl) ?_
      refine rn_iald (v := nI (fr j)) hx hb hK hP 1 0 rfl rfl (by omega) (by decide) rfl dX4_goesOn_19 ?_
      refine lv_iload_n hx hb dX4_goesOn_20 rfl (lv_at hl 3 rfl) ?_
      refine lv_icmp_eq (tgt := 26) hx hb dX4_goesOn_21 (by decide) (fun c21 => ?_) (fun c21 => ?_)
      · refine lv_aload_n hx hb dX4_goesOn_26 rfl (lv_at hl 0 rfl) ?_
        refine va_get (D := D) (ci := 4) (v := .ref (b 7)) (C := RX4) (T := TX4) (N := 14) hx hb hts i4 hown hK hP 0 rfl rfl 8 (by decide) (hts (.fieldLink RX4 30 "SignedPathsModel" "all" "[J") (by decide +kernel)) (fun _ h9 => h9) rfl dX4_goesOn_27 ?_
        refine lv_bipush (v := nI 12) hx hb dX4_goesOn_30 (by decide) ?_
        refine lv_aload_n hx hb dX4_goesOn_32 rfl (lv_at hl 0 rfl) ?_
        refine va_get (D := D) (ci := 4) (v := .ref (b 2)) (C := RX4) (T := TX4) (N := 14) hx hb hts i4 hown hK hP 0 rfl rfl 3 (by decide) (hts (.fieldLink RX4 13 "SignedPathsModel" "to" "[I") (by decide +kernel)) (fun _ h9 => h9) rfl dX4_goesOn_33 ?_
        refine lv_iload_n hx hb dX4_goesOn_36 rfl (lv_at hl 1 rfl) ?_
        refine rn_iald (v := nI (to j)) hx hb hK hP 2 0 rfl rfl (by omega) (by decide) rfl dX4_goesOn_37 ?_
        refine rn_imul hx hb  dX4_goesOn_38 ?_
        refine lv_iload_n hx hb dX4_goesOn_39 rfl (lv_at hl 2 rfl) ?_
        refine lv_iconst (v := (-1)) hx hb dX4_goesOn_40 (by decide) ?_
        refine lv_icmp_ne (tgt := 53) hx hb dX4_goesOn_41 (by decide) (fun c41 => absurd rfl c41) (fun c41 => ?_)
        refine lv_aload_n hx hb dX4_goesOn_44 rfl (lv_at hl 0 rfl) ?_
        refine va_get (D := D) (ci := 4) (v := .ref (b 1)) (C := RX4) (T := TX4) (N := 14) hx hb hts i4 hown hK hP 0 rfl rfl 2 (by decide) (hts (.fieldLink RX4 7 "SignedPathsModel" "from" "[I") (by decide +kernel)) (fun _ h9 => h9) rfl dX4_goesOn_45 ?_
        refine lv_iload_n hx hb dX4_goesOn_48 rfl (lv_at hl 1 rfl) ?_
        refine rn_iald (v := nI (fr j)) hx hb hK hP 1 0 rfl rfl (by omega) (by decide) rfl dX4_goesOn_49 ?_
        refine lv_goto (tgt := 54) hx hb dX4_goesOn_50 (by decide) ?_
        refine rn_iadd hx hb  dX4_goesOn_54 ?_
        refine rn_lald (v := al ((12 * (to j)) + (fr j))) hx hb hK hP 7 3 rfl rfl (by omega) (by decide) rfl dX4_goesOn_55 ?_
        refine lv_lstore (lv' := [(6, .long (al ((12 * (to j)) + (fr j)))), (0, .ref (b 0)), (1, .int (nI j)), (2, .int (-1)), (3, .int z), (4, .long q)]) hx hb dX4_goesOn_56 hl (by decide) rfl (fun ls hl => ?_)
        refine lv_lload hx hb dX4_goesOn_58 (lv_at hl 0 rfl) ?_
        refine lv_ldc2 (v := 1000000000000) hx hb hown (hts (.constantLong RX4 66 1000000000000) (by decide +kernel)) dX4_goesOn_60 ?_
        refine rn_lcmp_ge (tgt := 89) hx hb dX4_goesOn_63 dX4_goesOn_64 (by decide) (fun c63 => ?_) (fun c63 => ?_)
        · refine lv_iconst (v := 0) hx hb dX4_goesOn_89 (by decide) ?_
          exact W.zret (v := 0) hx hb hr (by decide) (fun t ht hW => ⟨_, rfl, (by simp [goA, c11, c21, c63, bI]), ht⟩) (fun q h => absurd h List.not_mem_nil) dX4_goesOn_90
        · refine lv_lload hx hb dX4_goesOn_67 (lv_at hl 5 rfl) ?_
          refine lv_aload_n hx hb dX4_goesOn_69 rfl (lv_at hl 1 rfl) ?_
          refine va_get (D := D) (ci := 4) (v := .ref (b 3)) (C := RX4) (T := TX4) (N := 14) hx hb hts i4 hown hK hP 0 rfl rfl 4 (by decide) (hts (.fieldLink RX4 16 "SignedPathsModel" "weight" "[I") (by decide +kernel)) (fun _ h9 => h9) rfl dX4_goesOn_70 ?_
          refine lv_iload_n hx hb dX4_goesOn_73 rfl (lv_at hl 2 rfl) ?_
          refine rn_iald (v := w j) hx hb hK hP 3 0 rfl rfl (by omega) (by decide) rfl dX4_goesOn_74 ?_
          refine lv_i2l (v := (w j).toInt64) hx hb dX4_goesOn_75 rfl ?_
          refine lv_ladd hx hb dX4_goesOn_76  ?_
          refine lv_lload hx hb dX4_goesOn_77 (lv_at hl 0 rfl) ?_
          refine lv_ladd hx hb dX4_goesOn_79  ?_
          refine lv_lconst (v := 0) hx hb dX4_goesOn_80 (by decide) ?_
          refine rn_lcmp_ge (tgt := 89) hx hb dX4_goesOn_81 dX4_goesOn_82 (by decide) (fun c81 => ?_) (fun c81 => ?_)
          · refine lv_iconst (v := 0) hx hb dX4_goesOn_89 (by decide) ?_
            exact W.zret (v := 0) hx hb hr (by decide) (fun t ht hW => ⟨_, rfl, (by simp [goA, c11, c21, c6, c63, c81, bI]), ht⟩) (fun q h => absurd h List.not_mem_nil) dX4_goesOn_90
          · refine lv_iconst (v := 1) hx hb dX4_goesOn_85 (by decide) ?_
            refine lv_goto (tgt := 90) hx hb dX4_goesOn_86 (by decide) ?_
            exact W.zret (v := 1) hx hb hr (by decide) (fun t ht hW => ⟨_, rfl, (by simp [goA, c11, c21, c6, c63, c81, bI]), ht⟩) (fun q h => absurd h List.not_mem_nil) dX4_goesOn_90
      · refine lv_iconst (v := 0) hx hb dX4_goesOn_24 (by decide) ?_
        exact W.zret (v := 0) hx hb hr (by decide) (fun t ht hW => ⟨_, rfl, (by simp [goA, c11, c21, bI]), ht⟩) (fun q h => absurd h List.not_mem_nil) dX4_goesOn_25
set_option maxHeartbeats 4000000 in
set_option maxRecDepth 100000 in
theorem c4_goesOn_B (l : Launch) {D : va_G} {k : Nat → ClassId} {b : Nat → Nat} {n : Nat} {m : Nat} {fr : Nat → Nat} {to : Nat → Nat} {w : Nat → Int32} {th : Nat → Bool} {be : Nat → Int64} {oe : Nat → Int64} {al : Nat → Int64} {pa : Nat → Int64} {bo : Nat → Int64} {rl : Nat} {ra : Nat → Nat} {mo : Nat → Int64} (ha : inj 12 b) (j : Nat) (g : Nat) (z : Int32) (q : Int64) (hg : gOK n m fr to) (hj : j < m) (hg1 : g < n) : Met l yX4_goesOn wsX4_goesOn ({ frames := 0, cells := 0, slots := 0, locals := 0 }) (gPc D k (mW k b n m fr to w th be oe al pa bo rl ra mo) [.ref (b 0), .int (nI j), .int (nI g), .int z, .long q]) (vp_Si (fun r => r = bI (goB fr to w th al g z q j))) 0 0 nF := by
  refine Met.ofW (cc := cX4_goesOn) (maxL := 8) (ret := (some .boolean)) (by decide) rfl ?_
  intro p e s mt args below meth c s₁ B hml hv
  obtain ⟨rfl, hP, hK⟩ := hv
  have hx := B.exec
  have hb := B.bytes
  have hr := B.returns
  have hts := atoms_spec (ws := wsX4_goesOn) B.pre
  have hown : s.vm.findClass RX4 = some mt.cls := findClass_of_methodNamed B.named
  have hlocks := B.notSynchronized
  have i4 : ∀ w ∈ wsX40, w ∈ wsX4_goesOn := by decide +kernel
  have hl := lv_entry ([.ref (b 0), .int (nI j), .int (nI g), .int z, .long q]) (n := 8) (Nat.le_of_ble_eq_true rfl)
  rw [lg_entry_eq]
  generalize (lg_sl ([.ref (b 0), .int (nI j), .int (nI g), .int z, .long q]) ++ List.replicate (8 - (lg_sl ([.ref (b 0), .int (nI j), .int (nI g), .int z, .long q])).length) Slot.unset).toArray = ls at hl ⊢
  have hl : lv_has ls 8 [(0, .ref (b 0)), (1, .int (nI j)), (2, .int (nI g)), (3, .int z), (4, .long q)] := hl
  obtain ⟨hn12, hm40, hft⟩ := id hg
  have hj2 := hft j hj
  refine lv_aload_n hx hb dX4_goesOn_0 rfl (lv_at hl 0 rfl) ?_
  refine va_get (D := D) (ci := 4) (v := .ref (b 4)) (C := RX4) (T := TX4) (N := 14) hx hb hts i4 hown hK hP 0 rfl rfl 5 (by decide) (hts (.fieldLink RX4 19 "SignedPathsModel" "isThere" "[Z") (by decide +kernel)) (fun _ h9 => h9) rfl dX4_goesOn_1 ?_
  refine lv_iload_n hx hb dX4_goesOn_4 rfl (lv_at hl 1 rfl) ?_
  refine rn_zald (v := bI (th j)) hx hb hK hP 4 1 rfl rfl (by omega) (by decide) rfl dX4_goesOn_5 ?_
  refine rn_ifeqb (tgt := 24) hx hb dX4_goesOn_6 (by decide) (fun c6 => ?_) (fun c6 => ?_)
  · refine lv_iconst (v := 0) hx hb dX4_goesOn_24 (by decide) ?_
    exact W.zret (v := 0) hx hb hr (by decide) (fun t ht hW => ⟨_, rfl, (by simp [goB, c6, bI]), ht⟩) (fun q h => absurd h List.not_mem_nil) dX4_goesOn_25
  · refine lv_iload_n hx hb dX4_goesOn_9 rfl (lv_at hl 3 rfl) ?_
    refine lv_iconst (v := (-1)) hx hb dX4_goesOn_10 (by decide) ?_
    refine lv_icmp_eq (tgt := 26) hx hb dX4_goesOn_11 (by decide) (fun c11 => ?_) (fun c11 => ?_)
    · refine lv_aload_n hx hb dX4_goesOn_26 rfl (lv_at hl 0 rfl) ?_
      refine va_get (D := D) (ci := 4) (v := .ref (b 7)) (C := RX4) (T := TX4) (N := 14) hx hb hts i4 hown hK hP 0 rfl rfl 8 (by decide) (hts (.fieldLink RX4 30 "SignedPathsModel" "all" "[J") (by decide +kernel)) (fun _ h9 => h9) rfl dX4_goesOn_27 ?_
      refine lv_bipush (v := nI 12) hx hb dX4_goesOn_30 (by decide) ?_
      refine lv_aload_n hx hb dX4_goesOn_32 rfl (lv_at hl 0 rfl) ?_
      refine va_get (D := D) (ci := 4) (v := .ref (b 2)) (C := RX4) (T := TX4) (N := 14) hx hb hts i4 hown hK hP 0 rfl rfl 3 (by decide) (hts (.fieldLink RX4 13 "SignedPathsModel" "to" "[I") (by decide +kernel)) (fun _ h9 => h9) rfl dX4_goesOn_33 ?_
      refine lv_iload_n hx hb dX4_goesOn_36 rfl (lv_at hl 1 rfl) ?_
      refine rn_iald (v := nI (to j)) hx hb hK hP 2 0 rfl rfl (by omega) (by decide) rfl dX4_goesOn_37 ?_
      refine rn_imul hx hb  dX4_goesOn_38 ?_
      refine lv_iload_n hx hb dX4_goesOn_39 rfl (lv_at hl 2 rfl) ?_
      refine lv_iconst (v := (-1)) hx hb dX4_goesOn_40 (by decide) ?_
      refine lv_icmp_ne (tgt := 53) hx hb dX4_goesOn_41 (by decide) (fun c41 => ?_) (fun c41 => absurd c41 (nI_m1 (by omega)))
      refine lv_iload_n hx hb dX4_goesOn_53 rfl (lv_at hl 2 rfl) ?_
      refine rn_iadd hx hb  dX4_goesOn_54 ?_
      refine rn_lald (v := al ((12 * (to j)) + g)) hx hb hK hP 7 3 rfl rfl (by omega) (by decide) rfl dX4_goesOn_55 ?_
      refine lv_lstore (lv' := [(6, .long (al ((12 * (to j)) + g))), (0, .ref (b 0)), (1, .int (nI j)), (2, .int (nI g)), (3, .int z), (4, .long q)]) hx hb dX4_goesOn_56 hl (by decide) rfl (fun ls hl => ?_)
      refine lv_lload hx hb dX4_goesOn_58 (lv_at hl 0 rfl) ?_
      refine lv_ldc2 (v := 1000000000000) hx hb hown (hts (.constantLong RX4 66 1000000000000) (by decide +kernel)) dX4_goesOn_60 ?_
      refine rn_lcmp_ge (tgt := 89) hx hb dX4_goesOn_63 dX4_goesOn_64 (by decide) (fun c63 => ?_) (fun c63 => ?_)
      · refine lv_iconst (v := 0) hx hb dX4_goesOn_89 (by decide) ?_
        exact W.zret (v := 0) hx hb hr (by decide) (fun t ht hW => ⟨_, rfl, (by simp [goB, c11, c63, bI]), ht⟩) (fun q h => absurd h List.not_mem_nil) dX4_goesOn_90
      · refine lv_lload hx hb dX4_goesOn_67 (lv_at hl 5 rfl) ?_
        refine lv_aload_n hx hb dX4_goesOn_69 rfl (lv_at hl 1 rfl) ?_
        refine va_get (D := D) (ci := 4) (v := .ref (b 3)) (C := RX4) (T := TX4) (N := 14) hx hb hts i4 hown hK hP 0 rfl rfl 4 (by decide) (hts (.fieldLink RX4 16 "SignedPathsModel" "weight" "[I") (by decide +kernel)) (fun _ h9 => h9) rfl dX4_goesOn_70 ?_
        refine lv_iload_n hx hb dX4_goesOn_73 rfl (lv_at hl 2 rfl) ?_
        refine rn_iald (v := w j) hx hb hK hP 3 0 rfl rfl (by omega) (by decide) rfl dX4_goesOn_74 ?_
        refine lv_i2l (v := (w j).toInt64) hx hb dX4_goesOn_75 rfl ?_
        refine lv_ladd hx hb dX4_goesOn_76  ?_
        refine lv_lload hx hb dX4_goesOn_77 (lv_at hl 0 rfl) ?_
        refine lv_ladd hx hb dX4_goesOn_79  ?_
        refine lv_lconst (v := 0) hx hb dX4_goesOn_80 (by decide) ?_
        refine rn_lcmp_ge (tgt := 89) hx hb dX4_goesOn_81 dX4_goesOn_82 (by decide) (fun c81 => ?_) (fun c81 => ?_)
        · refine lv_iconst (v := 0) hx hb dX4_goesOn_89 (by decide) ?_
          exact W.zret (v := 0) hx hb hr (by decide) (fun t ht hW => ⟨_, rfl, (by simp [goB, c11, c6, c63, c81, bI]), ht⟩) (fun q h => absurd h List.not_mem_nil) dX4_goesOn_90
        · refine lv_iconst (v := 1) hx hb dX4_goesOn_85 (by decide) ?_
          refine lv_goto (tgt := 90) hx hb dX4_goesOn_86 (by decide) ?_
          exact W.zret (v := 1) hx hb hr (by decide) (fun t ht hW => ⟨_, rfl, (by simp [goB, c11, c6, c63, c81, bI]), ht⟩) (fun q h => absurd h List.not_mem_nil) dX4_goesOn_90
    · refine lv_aload_n hx hb dX4_goesOn_14 rfl (lv_at hl 0 rfl) ?_
      refine va_get (D := D) (ci := 4) (v := .ref (b 1)) (C := RX4) (T := TX4) (N := 14) hx hb hts i4 hown hK hP 0 rfl rfl 2 (by decide) (hts (.fieldLink RX4 7 "SignedPathsModel" "from" "[I") (by decide +kernel)) (fun _ h9 => h9) rfl dX4_goesOn_15 ?_
      refine lv_iload_n hx hb dX4_goesOn_18 rfl (lv_at hl 1 rfl) ?_
      refine rn_iald (v := nI (fr j)) hx hb hK hP 1 0 rfl rfl (by omega) (by decide) rfl dX4_goesOn_19 ?_
      refine lv_iload_n hx hb dX4_goesOn_20 rfl (lv_at hl 3 rfl) ?_
      refine lv_icmp_eq (tgt := 26) hx hb dX4_goesOn_21 (by decide) (fun c21 => ?_) (fun c21 => ?_)
      · refine lv_aload_n hx hb dX4_goesOn_26 rfl (lv_at hl 0 rfl) ?_
        refine va_get (D := D) (ci := 4) (v := .ref (b 7)) (C := RX4) (T := TX4) (N := 14) hx hb hts i4 hown hK hP 0 rfl rfl 8 (by decide) (hts (.fieldLink RX4 30 "SignedPathsModel" "all" "[J") (by decide +kernel)) (fun _ h9 => h9) rfl dX4_goesOn_27 ?_
        refine lv_bipush (v := nI 12) hx hb dX4_goesOn_30 (by decide) ?_
        refine lv_aload_n hx hb dX4_goesOn_32 rfl (lv_at hl 0 rfl) ?_
        refine va_get (D := D) (ci := 4) (v := .ref (b 2)) (C := RX4) (T := TX4) (N := 14) hx hb hts i4 hown hK hP 0 rfl rfl 3 (by decide) (hts (.fieldLink RX4 13 "SignedPathsModel" "to" "[I") (by decide +kernel)) (fun _ h9 => h9) rfl dX4_goesOn_33 ?_
        refine lv_iload_n hx hb dX4_goesOn_36 rfl (lv_at hl 1 rfl) ?_
        refine rn_iald (v := nI (to j)) hx hb hK hP 2 0 rfl rfl (by omega) (by decide) rfl dX4_goesOn_37 ?_
        refine rn_imul hx hb  dX4_goesOn_38 ?_
        refine lv_iload_n hx hb dX4_goesOn_39 rfl (lv_at hl 2 rfl) ?_
        refine lv_iconst (v := (-1)) hx hb dX4_goesOn_40 (by decide) ?_
        refine lv_icmp_ne (tgt := 53) hx hb dX4_goesOn_41 (by decide) (fun c41 => ?_) (fun c41 => absurd c41 (nI_m1 (by omega)))
        refine lv_iload_n hx hb dX4_goesOn_53 rfl (lv_at hl 2 rfl) ?_
        refine rn_iadd hx hb  dX4_goesOn_54 ?_
        refine rn_lald (v := al ((12 * (to j)) + g)) hx hb hK hP 7 3 rfl rfl (by omega) (by decide) rfl dX4_goesOn_55 ?_
        refine lv_lstore (lv' := [(6, .long (al ((12 * (to j)) + g))), (0, .ref (b 0)), (1, .int (nI j)), (2, .int (nI g)), (3, .int z), (4, .long q)]) hx hb dX4_goesOn_56 hl (by decide) rfl (fun ls hl => ?_)
        refine lv_lload hx hb dX4_goesOn_58 (lv_at hl 0 rfl) ?_
        refine lv_ldc2 (v := 1000000000000) hx hb hown (hts (.constantLong RX4 66 1000000000000) (by decide +kernel)) dX4_goesOn_60 ?_
        refine rn_lcmp_ge (tgt := 89) hx hb dX4_goesOn_63 dX4_goesOn_64 (by decide) (fun c63 => ?_) (fun c63 => ?_)
        · refine lv_iconst (v := 0) hx hb dX4_goesOn_89 (by decide) ?_
          exact W.zret (v := 0) hx hb hr (by decide) (fun t ht hW => ⟨_, rfl, (by simp [goB, c11, c21, c63, bI]), ht⟩) (fun q h => absurd h List.not_mem_nil) dX4_goesOn_90
        · refine lv_lload hx hb dX4_goesOn_67 (lv_at hl 5 rfl) ?_
          refine lv_aload_n hx hb dX4_goesOn_69 rfl (lv_at hl 1 rfl) ?_
          refine va_get (D := D) (ci := 4) (v := .ref (b 3)) (C := RX4) (T := TX4) (N := 14) hx hb hts i4 hown hK hP 0 rfl rfl 4 (by decide) (hts (.fieldLink RX4 16 "SignedPathsModel" "weight" "[I") (by decide +kernel)) (fun _ h9 => h9) rfl dX4_goesOn_70 ?_
          refine lv_iload_n hx hb dX4_goesOn_73 rfl (lv_at hl 2 rfl) ?_
          refine rn_iald (v := w j) hx hb hK hP 3 0 rfl rfl (by omega) (by decide) rfl dX4_goesOn_74 ?_
          refine lv_i2l (v := (w j).toInt64) hx hb dX4_goesOn_75 rfl ?_
          refine lv_ladd hx hb dX4_goesOn_76  ?_
          refine lv_lload hx hb dX4_goesOn_77 (lv_at hl 0 rfl) ?_
          refine lv_ladd hx hb dX4_goesOn_79  ?_
          refine lv_lconst (v := 0) hx hb dX4_goesOn_80 (by decide) ?_
          refine rn_lcmp_ge (tgt := 89) hx hb dX4_goesOn_81 dX4_goesOn_82 (by decide) (fun c81 => ?_) (fun c81 => ?_)
          · refine lv_iconst (v := 0) hx hb dX4_goesOn_89 (by decide) ?_
            exact W.zret (v := 0) hx hb hr (by decide) (fun t ht hW => ⟨_, rfl, (by simp [goB, c11, c21, c6, c63, c81, bI]), ht⟩) (fun q h => absurd h List.not_mem_nil) dX4_goesOn_90
          · refine lv_iconst (v := 1) hx hb dX4_goesOn_85 (by decide) ?_
            refine lv_goto (tgt := 90) hx hb dX4_goesOn_86 (by decide) ?_
            exact W.zret (v := 1) hx hb hr (by decide) (fun t ht hW => ⟨_, rfl, (by simp [goB, c11, c21, c6, c63, c81, bI]), ht⟩) (fun q h => absurd h List.not_mem_nil) dX4_goesOn_90
      · refine lv_iconst (v := 0) hx hb dX4_goesOn_24 (by decide) ?_
        exact W.zret (v := 0) hx hb hr (by decide) (fun t ht hW => ⟨_, rfl, (by simp [goB, c11, c21, bI]), ht⟩) (fun q h => absurd h List.not_mem_nil) dX4_goesOn_25
set_option maxHeartbeats 4000000 in
set_option maxRecDepth 100000 in
theorem c4_findRing (l : Launch) {D : va_G} {k : Nat → ClassId} {b : Nat → Nat} {n : Nat} {m : Nat} {fr : Nat → Nat} {to : Nat → Nat} {w : Nat → Int32} {th : Nat → Bool} {be : Nat → Int64} {oe : Nat → Int64} {al : Nat → Int64} {pa : Nat → Int64} {bo : Nat → Int64} {rl : Nat} {ra : Nat → Nat} {mo : Nat → Int64} (ha : inj 12 b) (ra0 : Nat → Nat) (hg : gOK n m fr to) (hin : inD n m fr to w th) (hch : rgA n m fr to w th ra0 (feN n m fr to w th)) : Met l yX4_findRing wsX4_findRing ({ frames := 3, cells := 0, slots := 0, locals := 76 }) (gPc D k (mW k b n m fr to w th be oe al pa bo rl ra mo) [.ref (b 0)]) (va_Qv (S := (Nat → Int64) × (Nat → Int64) × (Nat → Int64)) (fun u9 => True) (fun u9 t => va_P D vwCl (mW k b n m fr to w th be oe u9.1 u9.2.1 u9.2.2 (feN n m fr to w th) (fl (rgS ra0) (feN n m fr to w th) ra) mo) t.heap) (mA b)) 0 0 (mA b) := by
  refine Met.ofW (cc := cX4_findRing) (maxL := 7) (ret := none) (by decide) rfl ?_
  intro p e s mt args below meth c s₁ B hml hv
  obtain ⟨rfl, hP, hK⟩ := hv
  have hx := B.exec
  have hb := B.bytes
  have hr := B.returns
  have hts := atoms_spec (ws := wsX4_findRing) B.pre
  have hown : s.vm.findClass RX4 = some mt.cls := findClass_of_methodNamed B.named
  have hlocks := B.notSynchronized
  have i4 : ∀ w ∈ wsX40, w ∈ wsX4_findRing := by decide +kernel
  have hS : va_S (mA b) s.heap s.heap [] := va_S.rf
  have hD : va_D (mA b) (mW k b n m fr to w th be oe al pa bo rl ra mo) := mW_D ha
  have hl := lv_entry ([.ref (b 0)]) (n := 7) (Nat.le_of_ble_eq_true rfl)
  rw [lg_entry_eq]
  generalize (lg_sl ([.ref (b 0)]) ++ List.replicate (7 - (lg_sl ([.ref (b 0)])).length) Slot.unset).toArray = ls at hl ⊢
  have hl : lv_has ls 7 [(0, .ref (b 0))] := hl
  obtain ⟨Q, hQ⟩ : ∃ Q, Q = MQ below (va_Qv (S := (Nat → Int64) × (Nat → Int64) × (Nat → Int64)) (fun u9 => True) (fun u9 t => va_P D vwCl (mW k b n m fr to w th be oe u9.1 u9.2.1 u9.2.2 (feN n m fr to w th) (fl (rgS ra0) (feN n m fr to w th) ra) mo) t.heap) (mA b)) ([.ref (b 0)] : List Value).toArray s 0 0 (mA b) := ⟨_, rfl⟩
  rw [← hQ]
  obtain ⟨hn12, hm40, hft⟩ := id hg
  have hfe := feN_le n m fr to w th
  refine lv_aload_n hx hb dX4_findRing_0 rfl (lv_at hl 0 rfl) ?_
  refine lv_aload_n hx hb dX4_findRing_1 rfl (lv_at hl 0 rfl) ?_
  refine cl_Xi (As := []) (rest := [.ref (b 0)]) ⟨hx, hb, hml, hown, hts⟩ (c4_fewest l ha  hg hin) (cwV 0 hts gX4_findRing_X4_fewest rfl rfl rfl (by decide +kernel) ⟨Nat.le_of_ble_eq_true rfl, Nat.le_of_ble_eq_true rfl⟩) hK hP hS (fun _ h => h) (ci := 4) (q0 := 0) rfl rfl rfl rfl hl.1 rfl (Nat.le_of_ble_eq_true rfl) dX4_findRing_2 ⟨Nat.zero_le _, Nat.zero_le _⟩ (fun r2 u H locs h2 hP _ _ hS => ?_)
  obtain ⟨al2, pa2, bo2⟩ := u
  try dsimp only at h2
  have hP : va_P D vwCl (mW k b n m fr to w th be oe al2 pa2 bo2 rl ra mo) H := hP
  have hD : va_D (mA b) (mW k b n m fr to w th be oe al2 pa2 bo2 rl ra mo) := mW_D ha
  subst h2
  refine rn_put (ty := .int) (ws' := mW k b n m fr to w th be oe al2 pa2 bo2 (feN n m fr to w th) ra mo) hx hb hts i4 tyX4 tyX4_ok nmX4 hown hK hP hD hS 0 rfl rfl 11 (by decide) (hts (.fieldLink RX4 104 "SignedPathsModel" "ringLength" "I") (by decide +kernel)) (fun _ h9 => h9) rfl (by decide +kernel) rfl rfl (Nat.le_of_ble_eq_true rfl) rfl dX4_findRing_5 (fun H locs hP hD hS => ?_)
  refine lv_iconst (v := (-1)) hx hb dX4_findRing_8 (by decide) ?_
  refine lv_istore_n (lv' := [(1, .int (-1)), (0, .ref (b 0))]) hx hb dX4_findRing_9 rfl hl (by decide) rfl (fun ls hl => ?_)
  refine lv_iconst (v := (-1)) hx hb dX4_findRing_10 (by decide) ?_
  refine lv_istore_n (lv' := [(2, .int (-1)), (1, .int (-1)), (0, .ref (b 0))]) hx hb dX4_findRing_11 rfl hl (by decide) rfl (fun ls hl => ?_)
  refine lv_lconst (v := 0) hx hb dX4_findRing_12 (by decide) ?_
  refine lv_lstore_n (lv' := [(3, .long 0), (2, .int (-1)), (1, .int (-1)), (0, .ref (b 0))]) hx hb dX4_findRing_13 rfl hl (by decide) rfl (fun ls hl => ?_)
  refine lv_iconst (v := nI 0) hx hb dX4_findRing_14 (by decide) ?_
  refine lv_istore (lv' := [(5, .int (nI 0)), (3, .long 0), (2, .int (-1)), (1, .int (-1)), (0, .ref (b 0))]) hx hb dX4_findRing_15 hl (by decide) rfl (fun ls hl => ?_)
  refine lv_iload hx hb dX4_findRing_17 (lv_at hl 0 rfl) ?_
  refine lv_aload_n hx hb dX4_findRing_19 rfl (lv_at hl 4 rfl) ?_
  refine va_get (D := D) (ci := 4) (v := .int (nI (feN n m fr to w th))) (C := RX4) (T := TX4) (N := 14) hx hb hts i4 hown hK hP 0 rfl rfl 11 (by decide) (hts (.fieldLink RX4 104 "SignedPathsModel" "ringLength" "I") (by decide +kernel)) (fun _ h9 => h9) rfl dX4_findRing_20 ?_
  refine rn_icmp_ge (tgt := 111) hx hb dX4_findRing_23 (by decide) (by omega) (by omega) (fun c23 => ?_) (fun c23 => ?_)
  · rw [hQ]
    exact W.vret hx hb hr (fun t ht hW => ⟨⟨(al2, pa2, bo2), rfl, trivial, by show va_P D vwCl (mW k b n m fr to w th be oe al2 pa2 bo2 (feN n m fr to w th) (fl (rgS ra0) (feN n m fr to w th) ra) mo) t.heap; rw [ht]; have e : feN n m fr to w th = 0 := (by omega); rw [e]; rw [e] at hP; exact hP⟩, hS.F ht⟩) hS.2.2 dX4_findRing_111
  · refine lv_aload_n hx hb dX4_findRing_26 rfl (lv_at hl 4 rfl) ?_
    refine lv_aload_n hx hb dX4_findRing_27 rfl (lv_at hl 4 rfl) ?_
    refine va_get (D := D) (ci := 4) (v := .int (nI (feN n m fr to w th))) (C := RX4) (T := TX4) (N := 14) hx hb hts i4 hown hK hP 0 rfl rfl 11 (by decide) (hts (.fieldLink RX4 104 "SignedPathsModel" "ringLength" "I") (by decide +kernel)) (fun _ h9 => h9) rfl dX4_findRing_28 ?_
    refine lv_iconst (v := nI 1) hx hb dX4_findRing_31 (by decide) ?_
    refine rn_isub hx hb (by omega) dX4_findRing_32 ?_
    refine lv_iload hx hb dX4_findRing_33 (lv_at hl 0 rfl) ?_
    refine rn_isub hx hb (by omega) dX4_findRing_35 ?_
    refine cl_Qv (As := [.int (nI (((feN n m fr to w th) - 1) - 0))]) (rest := []) ⟨hx, hb, hml, hown, hts⟩ (c4_findAll l ha (((feN n m fr to w th) - 1) - 0) hg (by omega)) (cwV 1 hts gX4_findRing_X4_findAll rfl rfl rfl (by decide +kernel) ⟨Nat.le_of_ble_eq_true rfl, Nat.le_of_ble_eq_true rfl⟩) hK hP hS (fun _ h => h) (ci := 4) (q0 := 0) rfl rfl rfl rfl hl.1 rfl (Nat.le_of_ble_eq_true rfl) dX4_findRing_36 ⟨Nat.zero_le _, Nat.zero_le _⟩ (fun H locs h36 hP _ _ hS => ?_)
    have hP : va_P D vwCl (mW k b n m fr to w th be oe ((fgR n m fr to w th al2 pa2 bo2 (((feN n m fr to w th) - 1) - 0)).1) ((fgR n m fr to w th al2 pa2 bo2 (((feN n m fr to w th) - 1) - 0)).2.1) ((fgR n m fr to w th al2 pa2 bo2 (((feN n m fr to w th) - 1) - 0)).2.2) (feN n m fr to w th) ra mo) H := hP
    have hD : va_D (mA b) (mW k b n m fr to w th be oe ((fgR n m fr to w th al2 pa2 bo2 (((feN n m fr to w th) - 1) - 0)).1) ((fgR n m fr to w th al2 pa2 bo2 (((feN n m fr to w th) - 1) - 0)).2.1) ((fgR n m fr to w th al2 pa2 bo2 (((feN n m fr to w th) - 1) - 0)).2.2) (feN n m fr to w th) ra mo) := mW_D ha
    have hch := hch.resolve_left (by omega)
    obtain ⟨hj1, hj2, hj3⟩ := fst_inv hch.1
    have hj0 := hft _ hj1
    refine lv_iconst (v := nI 0) hx hb dX4_findRing_39 (by decide) ?_
    refine lv_istore (lv' := [(6, .int (nI 0)), (5, .int (nI 0)), (3, .long 0), (2, .int (-1)), (1, .int (-1)), (0, .ref (b 0))]) hx hb dX4_findRing_40 hl (by decide) rfl (fun ls hl => ?_)
    have key42 : ∀ (f42 j : Nat), ra0 0 + 1 ≤ j + f42 → j ≤ ra0 0 → ∀ (H : Heap) (locs : List Loc), va_P D vwCl (mW k b n m fr to w th be oe ((fgR n m fr to w th al2 pa2 bo2 (((feN n m fr to w th) - 1) - 0)).1) ((fgR n m fr to w th al2 pa2 bo2 (((feN n m fr to w th) - 1) - 0)).2.1) ((fgR n m fr to w th al2 pa2 bo2 (((feN n m fr to w th) - 1) - 0)).2.2) (feN n m fr to w th) ra mo) H → va_S (mA b) s.heap H locs → ∀ (ls : Array Slot), lv_has ls 7 [(0, .ref (b 0)), (1, .int (-1)), (2, .int (-1)), (3, .long 0), (5, .int (nI 0)), (6, .int (nI j))] → W p l e (headSpec wsX4_findRing { frames := 3, cells := 0, slots := 0, locals := 76 }).room s mt ([.ref (b 0)] : List Value).toArray below meth c H locs 0 0 Q (F0 mt 42 ls []) := by
      intro f42
      induction f42 with
      | zero => intro j h1 h2; exact absurd h1 (by omega)
      | succ f42 ih42 =>
        intro j hf42 hi42   H locs hP hS ls hl
        have hD : va_D (mA b) (mW k b n m fr to w th be oe ((fgR n m fr to w th al2 pa2 bo2 (((feN n m fr to w th) - 1) - 0)).1) ((fgR n m fr to w th al2 pa2 bo2 (((feN n m fr to w th) - 1) - 0)).2.1) ((fgR n m fr to w th al2 pa2 bo2 (((feN n m fr to w th) - 1) - 0)).2.2) (feN n m fr to w th) ra mo) := mW_D ha
        have hjm := hft j (by omega)
        refine lv_aload_n hx hb dX4_findRing_42 rfl (lv_at hl 0 rfl) ?_
        refine lv_iload hx hb dX4_findRing_43 (lv_at hl 5 rfl) ?_
        refine lv_iload_n hx hb dX4_findRing_45 rfl (lv_at hl 1 rfl) ?_
        refine lv_iload_n hx hb dX4_findRing_46 rfl (lv_at hl 2 rfl) ?_
        refine lv_lload_n hx hb dX4_findRing_47 rfl (lv_at hl 3 rfl) ?_
        refine cl_Si (As := [.int (nI j), .int (-1), .int (-1), .long 0]) (rest := []) ⟨hx, hb, hml, hown, hts⟩ (c4_goesOn_A l ha j (-1) 0 hg (by omega)) (cwV 4 hts gX4_findRing_X4_goesOn rfl rfl rfl (by decide +kernel) ⟨Nat.le_of_ble_eq_true rfl, Nat.le_of_ble_eq_true rfl⟩) hK hP (ci := 4) (q0 := 0) rfl rfl rfl rfl hl.1 rfl (Nat.le_of_ble_eq_true rfl) dX4_findRing_48 ⟨Nat.zero_le _, Nat.zero_le _⟩ (fun r48 h48 => ?_)
        subst h48
        refine rn_ifneb (tgt := 60) hx hb dX4_findRing_51 (by decide) (fun c51 => ?_) (fun c51 => ?_)
        · have ej : j = ra0 0 := by rcases Nat.lt_or_ge j (ra0 0) with q | q; (exact absurd (hj3 j q) (by rw [← goA_al (al := (fgR n m fr to w th al2 pa2 bo2 (((feN n m fr to w th) - 1) - 0)).1) (al2 := aV n m fr to w th (feN n m fr to w th - 1)) (hin _ _ _ _ _ _ (by omega) hjm.2 hjm.1), c51]; decide)); omega
          refine lv_aload_n hx hb dX4_findRing_60 rfl (lv_at hl 0 rfl) ?_
          refine va_get (D := D) (ci := 4) (v := .ref (b 10)) (C := RX4) (T := TX4) (N := 14) hx hb hts i4 hown hK hP 0 rfl rfl 12 (by decide) (hts (.fieldLink RX4 39 "SignedPathsModel" "ringArc" "[I") (by decide +kernel)) (fun _ h9 => h9) rfl dX4_findRing_61 ?_
          refine lv_iload hx hb dX4_findRing_64 (lv_at hl 4 rfl) ?_
          refine lv_iload hx hb dX4_findRing_66 (lv_at hl 5 rfl) ?_
          refine rn_iast (ws' := mW k b n m fr to w th be oe ((fgR n m fr to w th al2 pa2 bo2 (((feN n m fr to w th) - 1) - 0)).1) ((fgR n m fr to w th al2 pa2 bo2 (((feN n m fr to w th) - 1) - 0)).2.1) ((fgR n m fr to w th al2 pa2 bo2 (((feN n m fr to w th) - 1) - 0)).2.2) (feN n m fr to w th) (va_up ra 0 j) mo) hx hb hK hP hD hS 10 0 rfl rfl (by omega) (by decide) (by rw [up_nI]; rfl) dX4_findRing_68 (fun H locs hP hD hS => ?_)
          refine lv_iload_n hx hb dX4_findRing_69 rfl (lv_at hl 1 rfl) ?_
          refine lv_iconst (v := (-1)) hx hb dX4_findRing_70 (by decide) ?_
          refine lv_icmp_ne (tgt := 84) hx hb dX4_findRing_71 (by decide) (fun c71 => absurd rfl c71) (fun c71 => ?_)
          refine lv_aload_n hx hb dX4_findRing_74 rfl (lv_at hl 0 rfl) ?_
          refine va_get (D := D) (ci := 4) (v := .ref (b 1)) (C := RX4) (T := TX4) (N := 14) hx hb hts i4 hown hK hP 0 rfl rfl 2 (by decide) (hts (.fieldLink RX4 7 "SignedPathsModel" "from" "[I") (by decide +kernel)) (fun _ h9 => h9) rfl dX4_findRing_75 ?_
          refine lv_iload hx hb dX4_findRing_78 (lv_at hl 5 rfl) ?_
          refine rn_iald (v := nI (fr j)) hx hb hK hP 1 0 rfl rfl (by omega) (by decide) rfl dX4_findRing_80 ?_
          refine lv_goto (tgt := 85) hx hb dX4_findRing_81 (by decide) ?_
          refine lv_istore_n (lv' := [(1, .int (nI (fr j))), (0, .ref (b 0)), (2, .int (-1)), (3, .long 0), (5, .int (nI 0)), (6, .int (nI j))]) hx hb dX4_findRing_85 rfl hl (by decide) rfl (fun ls hl => ?_)
          refine lv_lload_n hx hb dX4_findRing_86 rfl (lv_at hl 3 rfl) ?_
          refine lv_aload_n hx hb dX4_findRing_87 rfl (lv_at hl 1 rfl) ?_
          refine va_get (D := D) (ci := 4) (v := .ref (b 3)) (C := RX4) (T := TX4) (N := 14) hx hb hts i4 hown hK hP 0 rfl rfl 4 (by decide) (hts (.fieldLink RX4 16 "SignedPathsModel" "weight" "[I") (by decide +kernel)) (fun _ h9 => h9) rfl dX4_findRing_88 ?_
          refine lv_iload hx hb dX4_findRing_91 (lv_at hl 5 rfl) ?_
          refine rn_iald (v := w j) hx hb hK hP 3 0 rfl rfl (by omega) (by decide) rfl dX4_findRing_93 ?_
          refine lv_i2l (v := (w j).toInt64) hx hb dX4_findRing_94 rfl ?_
          refine lv_ladd hx hb dX4_findRing_95  ?_
          refine lv_lstore_n (lv' := [(3, .long (0 + ((w j).toInt64))), (1, .int (nI (fr j))), (0, .ref (b 0)), (2, .int (-1)), (5, .int (nI 0)), (6, .int (nI j))]) hx hb dX4_findRing_96 rfl hl (by decide) rfl (fun ls hl => ?_)
          refine lv_aload_n hx hb dX4_findRing_97 rfl (lv_at hl 2 rfl) ?_
          refine va_get (D := D) (ci := 4) (v := .ref (b 2)) (C := RX4) (T := TX4) (N := 14) hx hb hts i4 hown hK hP 0 rfl rfl 3 (by decide) (hts (.fieldLink RX4 13 "SignedPathsModel" "to" "[I") (by decide +kernel)) (fun _ h9 => h9) rfl dX4_findRing_98 ?_
          refine lv_iload hx hb dX4_findRing_101 (lv_at hl 5 rfl) ?_
          refine rn_iald (v := nI (to j)) hx hb hK hP 2 0 rfl rfl (by omega) (by decide) rfl dX4_findRing_103 ?_
          refine lv_istore_n (lv' := [(2, .int (nI (to j))), (3, .long (0 + ((w j).toInt64))), (1, .int (nI (fr j))), (0, .ref (b 0)), (5, .int (nI 0)), (6, .int (nI j))]) hx hb dX4_findRing_104 rfl hl (by decide) rfl (fun ls hl => ?_)
          refine lv_iinc (v := nI (0 + 1)) (lv' := [(5, .int (nI (0 + 1))), (2, .int (nI (to j))), (3, .long (0 + ((w j).toInt64))), (1, .int (nI (fr j))), (0, .ref (b 0)), (6, .int (nI j))]) hx hb dX4_findRing_105 hl (k := 4) rfl (nI_1 0) (by decide) rfl (fun ls hl => ?_)
          refine lv_goto (tgt := 17) hx hb dX4_findRing_108 (by decide) ?_
          have key17 : ∀ (f17 i : Nat), feN n m fr to w th + 1 ≤ i + f17 → i ≤ feN n m fr to w th → ∀ (at1 : Nat), ∀ (q1 : Int64), ∀ (al1 : Nat → Int64), ∀ (pa1 : Nat → Int64), ∀ (bo1 : Nat → Int64), (at1 < n ∧ rgC n m fr to w th ra0 (fr (ra0 0)) (feN n m fr to w th - i) i at1 q1) → ∀ (H : Heap) (locs : List Loc), va_P D vwCl (mW k b n m fr to w th be oe al1 pa1 bo1 (feN n m fr to w th) (fl (rgS ra0) i ra) mo) H → va_S (mA b) s.heap H locs → ∀ (ls : Array Slot), lv_has ls 7 [(0, .ref (b 0)), (1, .int (nI (fr (ra0 0)))), (2, .int (nI at1)), (3, .long q1), (5, .int (nI i))] → W p l e (headSpec wsX4_findRing { frames := 3, cells := 0, slots := 0, locals := 76 }).room s mt ([.ref (b 0)] : List Value).toArray below meth c H locs 0 0 Q (F0 mt 17 ls []) := by
            intro f17
            induction f17 with
            | zero => intro i h1 h2; exact absurd h1 (by omega)
            | succ f17 ih17 =>
              intro i hf17 hi17 at1 q1 al1 pa1 bo1 hv17 H locs hP hS ls hl
              have hD : va_D (mA b) (mW k b n m fr to w th be oe al1 pa1 bo1 (feN n m fr to w th) (fl (rgS ra0) i ra) mo) := mW_D ha
              refine lv_iload hx hb dX4_findRing_17 (lv_at hl 4 rfl) ?_
              refine lv_aload_n hx hb dX4_findRing_19 rfl (lv_at hl 0 rfl) ?_
              refine va_get (D := D) (ci := 4) (v := .int (nI (feN n m fr to w th))) (C := RX4) (T := TX4) (N := 14) hx hb hts i4 hown hK hP 0 rfl rfl 11 (by decide) (hts (.fieldLink RX4 104 "SignedPathsModel" "ringLength" "I") (by decide +kernel)) (fun _ h9 => h9) rfl dX4_findRing_20 ?_
              refine rn_icmp_ge (tgt := 111) hx hb dX4_findRing_23 (by decide) (by omega) (by omega) (fun c23 => ?_) (fun c23 => ?_)
              · rw [hQ]
                exact W.vret hx hb hr (fun t ht hW => ⟨⟨(al1, pa1, bo1), rfl, trivial, by show va_P D vwCl (mW k b n m fr to w th be oe al1 pa1 bo1 (feN n m fr to w th) (fl (rgS ra0) (feN n m fr to w th) ra) mo) t.heap; rw [ht]; have e : i = feN n m fr to w th := (by omega); rw [← e]; rw [← e] at hP; exact hP⟩, hS.F ht⟩) hS.2.2 dX4_findRing_111
              · refine lv_aload_n hx hb dX4_findRing_26 rfl (lv_at hl 0 rfl) ?_
                refine lv_aload_n hx hb dX4_findRing_27 rfl (lv_at hl 0 rfl) ?_
                refine va_get (D := D) (ci := 4) (v := .int (nI (feN n m fr to w th))) (C := RX4) (T := TX4) (N := 14) hx hb hts i4 hown hK hP 0 rfl rfl 11 (by decide) (hts (.fieldLink RX4 104 "SignedPathsModel" "ringLength" "I") (by decide +kernel)) (fun _ h9 => h9) rfl dX4_findRing_28 ?_
                refine lv_iconst (v := nI 1) hx hb dX4_findRing_31 (by decide) ?_
                refine rn_isub hx hb (by omega) dX4_findRing_32 ?_
                refine lv_iload hx hb dX4_findRing_33 (lv_at hl 4 rfl) ?_
                refine rn_isub hx hb (by omega) dX4_findRing_35 ?_
                refine cl_Qv (As := [.int (nI (((feN n m fr to w th) - 1) - i))]) (rest := []) ⟨hx, hb, hml, hown, hts⟩ (c4_findAll l ha (((feN n m fr to w th) - 1) - i) hg (by omega)) (cwV 1 hts gX4_findRing_X4_findAll rfl rfl rfl (by decide +kernel) ⟨Nat.le_of_ble_eq_true rfl, Nat.le_of_ble_eq_true rfl⟩) hK hP hS (fun _ h => h) (ci := 4) (q0 := 0) rfl rfl rfl rfl hl.1 rfl (Nat.le_of_ble_eq_true rfl) dX4_findRing_36 ⟨Nat.zero_le _, Nat.zero_le _⟩ (fun H locs h36 hP _ _ hS => ?_)
                have hP : va_P D vwCl (mW k b n m fr to w th be oe ((fgR n m fr to w th al1 pa1 bo1 (((feN n m fr to w th) - 1) - i)).1) ((fgR n m fr to w th al1 pa1 bo1 (((feN n m fr to w th) - 1) - i)).2.1) ((fgR n m fr to w th al1 pa1 bo1 (((feN n m fr to w th) - 1) - i)).2.2) (feN n m fr to w th) (fl (rgS ra0) i ra) mo) H := hP
                have hD : va_D (mA b) (mW k b n m fr to w th be oe ((fgR n m fr to w th al1 pa1 bo1 (((feN n m fr to w th) - 1) - i)).1) ((fgR n m fr to w th al1 pa1 bo1 (((feN n m fr to w th) - 1) - i)).2.1) ((fgR n m fr to w th al1 pa1 bo1 (((feN n m fr to w th) - 1) - i)).2.2) (feN n m fr to w th) (fl (rgS ra0) i ra) mo) := mW_D ha
                obtain ⟨fz, hfz⟩ : ∃ fz, feN n m fr to w th - i = fz + 1 := ⟨feN n m fr to w th - i - 1, by omega⟩
                have hcc := hv17.2
                rw [hfz] at hcc
                obtain ⟨hj1, hj2, hj3⟩ := fst_inv hcc.1
                refine lv_iconst (v := nI 0) hx hb dX4_findRing_39 (by decide) ?_
                refine lv_istore (lv' := [(6, .int (nI 0)), (0, .ref (b 0)), (1, .int (nI (fr (ra0 0)))), (2, .int (nI at1)), (3, .long q1), (5, .int (nI i))]) hx hb dX4_findRing_40 hl (by decide) rfl (fun ls hl => ?_)
                have key42 : ∀ (f42 j : Nat), ra0 i + 1 ≤ j + f42 → j ≤ ra0 i → ∀ (H : Heap) (locs : List Loc), va_P D vwCl (mW k b n m fr to w th be oe ((fgR n m fr to w th al1 pa1 bo1 (((feN n m fr to w th) - 1) - i)).1) ((fgR n m fr to w th al1 pa1 bo1 (((feN n m fr to w th) - 1) - i)).2.1) ((fgR n m fr to w th al1 pa1 bo1 (((feN n m fr to w th) - 1) - i)).2.2) (feN n m fr to w th) (fl (rgS ra0) i ra) mo) H → va_S (mA b) s.heap H locs → ∀ (ls : Array Slot), lv_has ls 7 [(0, .ref (b 0)), (1, .int (nI (fr (ra0 0)))), (2, .int (nI at1)), (3, .long q1), (5, .int (nI i)), (6, .int (nI j))] → W p l e (headSpec wsX4_findRing { frames := 3, cells := 0, slots := 0, locals := 76 }).room s mt ([.ref (b 0)] : List Value).toArray below meth c H locs 0 0 Q (F0 mt 42 ls []) := by
                  intro f42
                  induction f42 with
                  | zero => intro j h1 h2; exact absurd h1 (by omega)
                  | succ f42 ih42 =>
                    intro j hf42 hi42   H locs hP hS ls hl
                    have hD : va_D (mA b) (mW k b n m fr to w th be oe ((fgR n m fr to w th al1 pa1 bo1 (((feN n m fr to w th) - 1) - i)).1) ((fgR n m fr to w th al1 pa1 bo1 (((feN n m fr to w th) - 1) - i)).2.1) ((fgR n m fr to w th al1 pa1 bo1 (((feN n m fr to w th) - 1) - i)).2.2) (feN n m fr to w th) (fl (rgS ra0) i ra) mo) := mW_D ha
                    have hjm := hft j (by omega)
                    refine lv_aload_n hx hb dX4_findRing_42 rfl (lv_at hl 0 rfl) ?_
                    refine lv_iload hx hb dX4_findRing_43 (lv_at hl 5 rfl) ?_
                    refine lv_iload_n hx hb dX4_findRing_45 rfl (lv_at hl 1 rfl) ?_
                    refine lv_iload_n hx hb dX4_findRing_46 rfl (lv_at hl 2 rfl) ?_
                    refine lv_lload_n hx hb dX4_findRing_47 rfl (lv_at hl 3 rfl) ?_
                    refine cl_Si (As := [.int (nI j), .int (nI (fr (ra0 0))), .int (nI at1), .long q1]) (rest := []) ⟨hx, hb, hml, hown, hts⟩ (c4_goesOn_B l ha j (fr (ra0 0)) (nI at1) q1 hg (by omega) (by omega)) (cwV 4 hts gX4_findRing_X4_goesOn rfl rfl rfl (by decide +kernel) ⟨Nat.le_of_ble_eq_true rfl, Nat.le_of_ble_eq_true rfl⟩) hK hP (ci := 4) (q0 := 0) rfl rfl rfl rfl hl.1 rfl (Nat.le_of_ble_eq_true rfl) dX4_findRing_48 ⟨Nat.zero_le _, Nat.zero_le _⟩ (fun r48 h48 => ?_)
                    subst h48
                    refine rn_ifneb (tgt := 60) hx hb dX4_findRing_51 (by decide) (fun c51 => ?_) (fun c51 => ?_)
                    · have ej : j = ra0 i := by rcases Nat.lt_or_ge j (ra0 i) with q | q; (exact absurd (hj3 j q) (by rw [← goB_al (al := (fgR n m fr to w th al1 pa1 bo1 (((feN n m fr to w th) - 1) - i)).1) (al2 := aV n m fr to w th fz) (by rw [show feN n m fr to w th - 1 - i = fz by omega]; exact hin _ _ _ _ _ _ (by omega) hjm.2 hj0.1), c51]; decide)); omega
                      refine lv_aload_n hx hb dX4_findRing_60 rfl (lv_at hl 0 rfl) ?_
                      refine va_get (D := D) (ci := 4) (v := .ref (b 10)) (C := RX4) (T := TX4) (N := 14) hx hb hts i4 hown hK hP 0 rfl rfl 12 (by decide) (hts (.fieldLink RX4 39 "SignedPathsModel" "ringArc" "[I") (by decide +kernel)) (fun _ h9 => h9) rfl dX4_findRing_61 ?_
                      refine lv_iload hx hb dX4_findRing_64 (lv_at hl 4 rfl) ?_
                      refine lv_iload hx hb dX4_findRing_66 (lv_at hl 5 rfl) ?_
                      refine rn_iast (ws' := mW k b n m fr to w th be oe ((fgR n m fr to w th al1 pa1 bo1 (((feN n m fr to w th) - 1) - i)).1) ((fgR n m fr to w th al1 pa1 bo1 (((feN n m fr to w th) - 1) - i)).2.1) ((fgR n m fr to w th al1 pa1 bo1 (((feN n m fr to w th) - 1) - i)).2.2) (feN n m fr to w th) (va_up (fl (rgS ra0) i ra) i j) mo) hx hb hK hP hD hS 10 0 rfl rfl (by omega) (by decide) (by rw [up_nI]; rfl) dX4_findRing_68 (fun H locs hP hD hS => ?_)
                      refine lv_iload_n hx hb dX4_findRing_69 rfl (lv_at hl 1 rfl) ?_
                      refine lv_iconst (v := (-1)) hx hb dX4_findRing_70 (by decide) ?_
                      refine lv_icmp_ne (tgt := 84) hx hb dX4_findRing_71 (by decide) (fun c71 => ?_) (fun c71 => absurd c71 (nI_m1 (by omega)))
                      refine lv_iload_n hx hb dX4_findRing_84 rfl (lv_at hl 1 rfl) ?_
                      refine lv_istore_n (lv' := [(1, .int (nI (fr (ra0 0)))), (0, .ref (b 0)), (2, .int (nI at1)), (3, .long q1), (5, .int (nI i)), (6, .int (nI j))]) hx hb dX4_findRing_85 rfl hl (by decide) rfl (fun ls hl => ?_)
                      refine lv_lload_n hx hb dX4_findRing_86 rfl (lv_at hl 3 rfl) ?_
                      refine lv_aload_n hx hb dX4_findRing_87 rfl (lv_at hl 1 rfl) ?_
                      refine va_get (D := D) (ci := 4) (v := .ref (b 3)) (C := RX4) (T := TX4) (N := 14) hx hb hts i4 hown hK hP 0 rfl rfl 4 (by decide) (hts (.fieldLink RX4 16 "SignedPathsModel" "weight" "[I") (by decide +kernel)) (fun _ h9 => h9) rfl dX4_findRing_88 ?_
                      refine lv_iload hx hb dX4_findRing_91 (lv_at hl 5 rfl) ?_
                      refine rn_iald (v := w j) hx hb hK hP 3 0 rfl rfl (by omega) (by decide) rfl dX4_findRing_93 ?_
                      refine lv_i2l (v := (w j).toInt64) hx hb dX4_findRing_94 rfl ?_
                      refine lv_ladd hx hb dX4_findRing_95  ?_
                      refine lv_lstore_n (lv' := [(3, .long (q1 + ((w j).toInt64))), (1, .int (nI (fr (ra0 0)))), (0, .ref (b 0)), (2, .int (nI at1)), (5, .int (nI i)), (6, .int (nI j))]) hx hb dX4_findRing_96 rfl hl (by decide) rfl (fun ls hl => ?_)
                      refine lv_aload_n hx hb dX4_findRing_97 rfl (lv_at hl 2 rfl) ?_
                      refine va_get (D := D) (ci := 4) (v := .ref (b 2)) (C := RX4) (T := TX4) (N := 14) hx hb hts i4 hown hK hP 0 rfl rfl 3 (by decide) (hts (.fieldLink RX4 13 "SignedPathsModel" "to" "[I") (by decide +kernel)) (fun _ h9 => h9) rfl dX4_findRing_98 ?_
                      refine lv_iload hx hb dX4_findRing_101 (lv_at hl 5 rfl) ?_
                      refine rn_iald (v := nI (to j)) hx hb hK hP 2 0 rfl rfl (by omega) (by decide) rfl dX4_findRing_103 ?_
                      refine lv_istore_n (lv' := [(2, .int (nI (to j))), (3, .long (q1 + ((w j).toInt64))), (1, .int (nI (fr (ra0 0)))), (0, .ref (b 0)), (5, .int (nI i)), (6, .int (nI j))]) hx hb dX4_findRing_104 rfl hl (by decide) rfl (fun ls hl => ?_)
                      refine lv_iinc (v := nI (i + 1)) (lv' := [(5, .int (nI (i + 1))), (2, .int (nI (to j))), (3, .long (q1 + ((w j).toInt64))), (1, .int (nI (fr (ra0 0)))), (0, .ref (b 0)), (6, .int (nI j))]) hx hb dX4_findRing_105 hl (k := 4) rfl (nI_1 i) (by decide) rfl (fun ls hl => ?_)
                      refine lv_goto (tgt := 17) hx hb dX4_findRing_108 (by decide) ?_
                      exact ih17 (i + 1) (by omega) (by omega) (to j) (q1 + (w j).toInt64) ((fgR n m fr to w th al1 pa1 bo1 (((feN n m fr to w th) - 1) - i)).1) ((fgR n m fr to w th al1 pa1 bo1 (((feN n m fr to w th) - 1) - i)).2.1) ((fgR n m fr to w th al1 pa1 bo1 (((feN n m fr to w th) - 1) - i)).2.2) ⟨hjm.2, by rw [show feN n m fr to w th - (i + 1) = fz by omega, ej]; exact hcc.2⟩ _ _ (by rw [fl_s, rgS, ← ej]; exact hP) hS ls (lv_sub hl [4, 3, 1, 2, 0] rfl)
                    · refine lv_iinc (v := nI (j + 1)) (lv' := [(6, .int (nI (j + 1))), (0, .ref (b 0)), (1, .int (nI (fr (ra0 0)))), (2, .int (nI at1)), (3, .long q1), (5, .int (nI i))]) hx hb dX4_findRing_54 hl (k := 5) rfl (nI_1 j) (by decide) rfl (fun ls hl => ?_)
                      refine lv_goto (tgt := 42) hx hb dX4_findRing_57 (by decide) ?_
                      have hq : j ≠ ra0 i := by intro q; rw [← q] at hj2; rw [← goB_al (al := (fgR n m fr to w th al1 pa1 bo1 (((feN n m fr to w th) - 1) - i)).1) (al2 := aV n m fr to w th fz) (by rw [show feN n m fr to w th - 1 - i = fz by omega]; exact hin _ _ _ _ _ _ (by omega) hjm.2 hj0.1), c51] at hj2; cases hj2
                      exact ih42 (j + 1) (by omega) (by omega)  _ _ (hP) hS ls (lv_sub hl [1, 2, 3, 4, 5, 0] rfl)
                exact key42 (ra0 i + 1) 0 (by omega) (by omega)  _ _ (hP) hS ls (lv_sub hl [1, 2, 3, 4, 5, 0] rfl)
          exact key17 (feN n m fr to w th + 1) 1 (by omega) (by omega) (to (ra0 0)) (0 + (w (ra0 0)).toInt64) ((fgR n m fr to w th al2 pa2 bo2 (((feN n m fr to w th) - 1) - 0)).1) ((fgR n m fr to w th al2 pa2 bo2 (((feN n m fr to w th) - 1) - 0)).2.1) ((fgR n m fr to w th al2 pa2 bo2 (((feN n m fr to w th) - 1) - 0)).2.2) ⟨hj0.2, hch.2⟩ _ _ (by rw [ej] at hP; exact hP) hS ls (lv_sub hl [4, 3, 1, 2, 0] (by rw [ej]; rfl))
        · refine lv_iinc (v := nI (j + 1)) (lv' := [(6, .int (nI (j + 1))), (0, .ref (b 0)), (1, .int (-1)), (2, .int (-1)), (3, .long 0), (5, .int (nI 0))]) hx hb dX4_findRing_54 hl (k := 5) rfl (nI_1 j) (by decide) rfl (fun ls hl => ?_)
          refine lv_goto (tgt := 42) hx hb dX4_findRing_57 (by decide) ?_
          have hq : j ≠ ra0 0 := by intro q; rw [← q] at hj2; rw [← goA_al (al := (fgR n m fr to w th al2 pa2 bo2 (((feN n m fr to w th) - 1) - 0)).1) (al2 := aV n m fr to w th (feN n m fr to w th - 1)) (hin _ _ _ _ _ _ (by omega) hjm.2 hjm.1), c51] at hj2; cases hj2
          exact ih42 (j + 1) (by omega) (by omega)  _ _ (hP) hS ls (lv_sub hl [1, 2, 3, 4, 5, 0] rfl)
    exact key42 (ra0 0 + 1) 0 (by omega) (by omega)  _ _ (hP) hS ls (lv_sub hl [5, 4, 3, 2, 1, 0] rfl)
set_option maxHeartbeats 4000000 in
set_option maxRecDepth 100000 in
theorem c4_falling (l : Launch) {D : va_G} {k : Nat → ClassId} {b : Nat → Nat} {n : Nat} {m : Nat} {fr : Nat → Nat} {to : Nat → Nat} {w : Nat → Int32} {th : Nat → Bool} {be : Nat → Int64} {oe : Nat → Int64} {al : Nat → Int64} {pa : Nat → Int64} {bo : Nat → Int64} {rl : Nat} {ra : Nat → Nat} {mo : Nat → Int64} (ha : inj 12 b) (ra0 : Nat → Nat) (hg : gOK n m fr to) (hin : inD n m fr to w th) (hch : rgA n m fr to w th ra0 (feN n m fr to w th)) : Met l yX4_falling wsX4_falling ({ frames := 4, cells := 0, slots := 0, locals := 102 }) (gPc D k (mW k b n m fr to w th be oe al pa bo rl ra mo) [.ref (b 0)]) (va_Qi (S := (Nat → Int64) × (Nat → Int64) × (Nat → Int64)) (fun r u9 => r = nI (feN n m fr to w th)) (fun u9 t => va_P D vwCl (mW k b n m fr to w th be oe u9.1 u9.2.1 u9.2.2 (feN n m fr to w th) (fl (rgS ra0) (feN n m fr to w th) ra) mo) t.heap) (mA b)) 0 0 (mA b) := by
  refine Met.ofW (cc := cX4_falling) (maxL := 1) (ret := (some .int)) (by decide) rfl ?_
  intro p e s mt args below meth c s₁ B hml hv
  obtain ⟨rfl, hP, hK⟩ := hv
  have hx := B.exec
  have hb := B.bytes
  have hr := B.returns
  have hts := atoms_spec (ws := wsX4_falling) B.pre
  have hown : s.vm.findClass RX4 = some mt.cls := findClass_of_methodNamed B.named
  have hlocks := B.notSynchronized
  have i4 : ∀ w ∈ wsX40, w ∈ wsX4_falling := by decide +kernel
  have hS : va_S (mA b) s.heap s.heap [] := va_S.rf
  have hD : va_D (mA b) (mW k b n m fr to w th be oe al pa bo rl ra mo) := mW_D ha
  have hl := lv_entry ([.ref (b 0)]) (n := 1) (Nat.le_of_ble_eq_true rfl)
  rw [lg_entry_eq]
  generalize (lg_sl ([.ref (b 0)]) ++ List.replicate (1 - (lg_sl ([.ref (b 0)])).length) Slot.unset).toArray = ls at hl ⊢
  have hl : lv_has ls 1 [(0, .ref (b 0))] := hl
  refine lv_aload_n hx hb dX4_falling_0 rfl (lv_at hl 0 rfl) ?_
  refine cl_Xv (As := []) (rest := []) ⟨hx, hb, hml, hown, hts⟩ (c4_findRing l ha ra0 hg hin hch) (cwV 0 hts gX4_falling_X4_findRing rfl rfl rfl (by decide +kernel) ⟨Nat.le_of_ble_eq_true rfl, Nat.le_of_ble_eq_true rfl⟩) hK hP hS (fun _ h => h) (ci := 4) (q0 := 0) rfl rfl rfl rfl hl.1 rfl (Nat.le_of_ble_eq_true rfl) dX4_falling_1 ⟨Nat.zero_le _, Nat.zero_le _⟩ (fun u H locs h1 hP _ _ hS => ?_)
  obtain ⟨al1, pa1, bo1⟩ := u
  try dsimp only at h1
  have hP : va_P D vwCl (mW k b n m fr to w th be oe al1 pa1 bo1 (feN n m fr to w th) (fl (rgS ra0) (feN n m fr to w th) ra) mo) H := hP
  have hD : va_D (mA b) (mW k b n m fr to w th be oe al1 pa1 bo1 (feN n m fr to w th) (fl (rgS ra0) (feN n m fr to w th) ra) mo) := mW_D ha
  refine lv_aload_n hx hb dX4_falling_4 rfl (lv_at hl 0 rfl) ?_
  refine va_get (D := D) (ci := 4) (v := .int (nI (feN n m fr to w th))) (C := RX4) (T := TX4) (N := 14) hx hb hts i4 hown hK hP 0 rfl rfl 11 (by decide) (hts (.fieldLink RX4 104 "SignedPathsModel" "ringLength" "I") (by decide +kernel)) (fun _ h9 => h9) rfl dX4_falling_5 ?_
  exact W.iret (v := nI (feN n m fr to w th)) hx hb hr (fun t ht hW => ⟨⟨_, (al1, pa1, bo1), rfl, rfl, by show va_P D vwCl (mW k b n m fr to w th be oe al1 pa1 bo1 (feN n m fr to w th) (fl (rgS ra0) (feN n m fr to w th) ra) mo) t.heap; rw [ht]; exact hP⟩, hS.F ht⟩) hS.2.2 dX4_falling_8
set_option maxHeartbeats 4000000 in
set_option maxRecDepth 100000 in
theorem c4_ring (l : Launch) {D : va_G} {k : Nat → ClassId} {b : Nat → Nat} {n : Nat} {m : Nat} {fr : Nat → Nat} {to : Nat → Nat} {w : Nat → Int32} {th : Nat → Bool} {be : Nat → Int64} {oe : Nat → Int64} {al : Nat → Int64} {pa : Nat → Int64} {bo : Nat → Int64} {rl : Nat} {ra : Nat → Nat} {mo : Nat → Int64} (ha : inj 12 b) (x : Int32) (ra0 : Nat → Nat) (hg : gOK n m fr to) (hin : inD n m fr to w th) (hch : rgA n m fr to w th ra0 (feN n m fr to w th)) : Met l yX4_ring wsX4_ring ({ frames := 4, cells := 0, slots := 0, locals := 102 }) (gPc D k (mW k b n m fr to w th be oe al pa bo rl ra mo) [.ref (b 0), .int x]) (va_Qi (S := (Nat → Int64) × (Nat → Int64) × (Nat → Int64)) (fun r u9 => r = bw (ixB x (feN n m fr to w th)) (nI (ra0 x.toNatClampNeg)) (-1)) (fun u9 t => va_P D vwCl (mW k b n m fr to w th be oe u9.1 u9.2.1 u9.2.2 (feN n m fr to w th) (fl (rgS ra0) (feN n m fr to w th) ra) mo) t.heap) (mA b)) 0 0 (mA b) := by
  refine Met.ofW (cc := cX4_ring) (maxL := 2) (ret := (some .int)) (by decide) rfl ?_
  intro p e s mt args below meth c s₁ B hml hv
  obtain ⟨rfl, hP, hK⟩ := hv
  have hx := B.exec
  have hb := B.bytes
  have hr := B.returns
  have hts := atoms_spec (ws := wsX4_ring) B.pre
  have hown : s.vm.findClass RX4 = some mt.cls := findClass_of_methodNamed B.named
  have hlocks := B.notSynchronized
  have i4 : ∀ w ∈ wsX40, w ∈ wsX4_ring := by decide +kernel
  have hS : va_S (mA b) s.heap s.heap [] := va_S.rf
  have hD : va_D (mA b) (mW k b n m fr to w th be oe al pa bo rl ra mo) := mW_D ha
  have hl := lv_entry ([.ref (b 0), .int x]) (n := 2) (Nat.le_of_ble_eq_true rfl)
  rw [lg_entry_eq]
  generalize (lg_sl ([.ref (b 0), .int x]) ++ List.replicate (2 - (lg_sl ([.ref (b 0), .int x])).length) Slot.unset).toArray = ls at hl ⊢
  have hl : lv_has ls 2 [(0, .ref (b 0)), (1, .int x)] := hl
  obtain ⟨hn12, hm40, hft⟩ := id hg
  have hfe := feN_le n m fr to w th
  refine lv_aload_n hx hb dX4_ring_0 rfl (lv_at hl 0 rfl) ?_
  refine cl_Xv (As := []) (rest := []) ⟨hx, hb, hml, hown, hts⟩ (c4_findRing l ha ra0 hg hin hch) (cwV 0 hts gX4_ring_X4_findRing rfl rfl rfl (by decide +kernel) ⟨Nat.le_of_ble_eq_true rfl, Nat.le_of_ble_eq_true rfl⟩) hK hP hS (fun _ h => h) (ci := 4) (q0 := 0) rfl rfl rfl rfl hl.1 rfl (Nat.le_of_ble_eq_true rfl) dX4_ring_1 ⟨Nat.zero_le _, Nat.zero_le _⟩ (fun u H locs h1 hP _ _ hS => ?_)
  obtain ⟨al1, pa1, bo1⟩ := u
  try dsimp only at h1
  have hP : va_P D vwCl (mW k b n m fr to w th be oe al1 pa1 bo1 (feN n m fr to w th) (fl (rgS ra0) (feN n m fr to w th) ra) mo) H := hP
  have hD : va_D (mA b) (mW k b n m fr to w th be oe al1 pa1 bo1 (feN n m fr to w th) (fl (rgS ra0) (feN n m fr to w th) ra) mo) := mW_D ha
  refine lv_iload_n hx hb dX4_ring_4 rfl (lv_at hl 1 rfl) ?_
  refine lv_iconst (v := 0) hx hb dX4_ring_5 (by decide) ?_
  refine lv_aload_n hx hb dX4_ring_6 rfl (lv_at hl 0 rfl) ?_
  refine va_get (D := D) (ci := 4) (v := .int (nI (feN n m fr to w th))) (C := RX4) (T := TX4) (N := 14) hx hb hts i4 hown hK hP 0 rfl rfl 11 (by decide) (hts (.fieldLink RX4 104 "SignedPathsModel" "ringLength" "I") (by decide +kernel)) (fun _ h9 => h9) rfl dX4_ring_7 ?_
  refine lv_iconst (v := 1) hx hb dX4_ring_10 (by decide) ?_
  refine lv_isub hx hb dX4_ring_11 ?_
  refine cl_Ti (As := [.int x, .int 0, .int ((nI (feN n m fr to w th)) - 1)]) (rest := []) ⟨hx, hb, hml, hown, hts⟩ (c4_isIn l x 0 ((nI (feN n m fr to w th)) - 1) ) (va_cwS 3 hts gX4_ring_X4_isIn rfl rfl rfl (by decide +kernel) ⟨Nat.le_of_ble_eq_true rfl, Nat.le_of_ble_eq_true rfl⟩) rfl hl.1 rfl (Nat.le_of_ble_eq_true rfl) dX4_ring_12 ⟨Nat.zero_le _, Nat.zero_le _⟩ (fun r12 h12 => ?_)
  subst h12
  refine rn_ifeqb (tgt := 27) hx hb dX4_ring_15 (by decide) (fun c15 => ?_) (fun c15 => ?_)
  · rw [ouB_ix (by omega)] at c15
    refine lv_iconst (v := (-1)) hx hb dX4_ring_27 (by decide) ?_
    exact W.iret (v := (-1)) hx hb hr (fun t ht hW => ⟨⟨_, (al1, pa1, bo1), rfl, (by rw [bw_f c15]), by show va_P D vwCl (mW k b n m fr to w th be oe al1 pa1 bo1 (feN n m fr to w th) (fl (rgS ra0) (feN n m fr to w th) ra) mo) t.heap; rw [ht]; exact hP⟩, hS.F ht⟩) hS.2.2 dX4_ring_28
  · rw [ouB_ix (by omega)] at c15
    obtain ⟨y, hy, rfl⟩ := ixB_t (by omega) c15
    have e1 : (nI y).toNatClampNeg = y := nI_clamp (by omega)
    refine lv_aload_n hx hb dX4_ring_18 rfl (lv_at hl 0 rfl) ?_
    refine va_get (D := D) (ci := 4) (v := .ref (b 10)) (C := RX4) (T := TX4) (N := 14) hx hb hts i4 hown hK hP 0 rfl rfl 12 (by decide) (hts (.fieldLink RX4 39 "SignedPathsModel" "ringArc" "[I") (by decide +kernel)) (fun _ h9 => h9) rfl dX4_ring_19 ?_
    refine lv_iload_n hx hb dX4_ring_22 rfl (lv_at hl 1 rfl) ?_
    refine rn_iald (v := nI ((fl (rgS ra0) (feN n m fr to w th) ra) y)) hx hb hK hP 10 0 rfl rfl (by omega) (by decide) rfl dX4_ring_23 ?_
    refine lv_goto (tgt := 28) hx hb dX4_ring_24 (by decide) ?_
    exact W.iret (v := nI ((fl (rgS ra0) (feN n m fr to w th) ra) y)) hx hb hr (fun t ht hW => ⟨⟨_, (al1, pa1, bo1), rfl, (by rw [bw_t c15, e1, rg_at _ _ _ _ hy]), by show va_P D vwCl (mW k b n m fr to w th be oe al1 pa1 bo1 (feN n m fr to w th) (fl (rgS ra0) (feN n m fr to w th) ra) mo) t.heap; rw [ht]; exact hP⟩, hS.F ht⟩) hS.2.2 dX4_ring_28
