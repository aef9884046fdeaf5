set_option maxHeartbeats 4000000 in
set_option maxRecDepth 100000 in
theorem c4_way (l : Launch) {D : va_G} {k : Nat → ClassId} {b : Nat → Nat} {n : Nat} {m : Nat} {fr : Nat → Nat} {to : Nat → Nat} {w : Nat → Int32} {th : Nat → Bool} {be : Nat → Int64} {oe : Nat → Int64} {al : Nat → Int64} {pa : Nat → Int64} {bo : Nat → Int64} {rl : Nat} {ra : Nat → Nat} {mo : Nat → Int64} (ha : inj 12 b) (x : Int32) (y : Int32) (z : Int32) (hg : gOK n m fr to) (hwy : (ixB x n && ixB y n) = true → ¬ 1000000000000 ≤ (fwB n m fr to w th be) (12 * x.toNatClampNeg + y.toNatClampNeg) → anyF (bbP (fwB n m fr to w th be) x.toNatClampNeg y.toNatClampNeg) n = false → wyG m fr to w th (fwB n m fr to w th be) y.toNatClampNeg 50 x.toNatClampNeg) : Met l yX4_way wsX4_way ({ frames := 2, cells := 0, slots := 0, locals := 43 }) (gPc D k (mW k b n m fr to w th be oe al pa bo rl ra mo) [.ref (b 0), .int x, .int y, .int z]) (va_Qi (S := Int32) (fun r u => u = r ∧ ((((ixB x n && ixB y n) = false ∧ r = -1000000001) ∨ ((ixB x n && ixB y n) = true ∧ ((fwB n m fr to w th be) (12 * x.toNatClampNeg + y.toNatClampNeg) < 1000000000000 → anyF (bbP (fwB n m fr to w th be) x.toNatClampNeg y.toNatClampNeg) n = false → wyR m fr to w th (fwB n m fr to w th be) y.toNatClampNeg z 50 x.toNatClampNeg 0 r) ∧ ((1000000000000 ≤ (fwB n m fr to w th be) (12 * x.toNatClampNeg + y.toNatClampNeg) ∨ anyF (bbP (fwB n m fr to w th be) x.toNatClampNeg y.toNatClampNeg) n = true) → r = -1))))) (fun _ t => va_P D vwCl (mW k b n m fr to w th (bw (ixB x n && ixB y n) (fwB n m fr to w th be) be) oe al pa bo rl ra mo) t.heap) (mA b)) 0 0 (mA b) := by
  refine Met.ofW (cc := cX4_way) (maxL := 7) (ret := (some .int)) (by decide) rfl ?_
  intro p e s mt args below meth c s₁ B hml hv
  obtain ⟨rfl, hP, hK⟩ := hv
  have hx := B.exec
  have hb := B.bytes
  have hr := B.returns
  have hts := atoms_spec (ws := wsX4_way) B.pre
  have hown : s.vm.findClass RX4 = some mt.cls := findClass_of_methodNamed B.named
  have hlocks := B.notSynchronized
  have i4 : ∀ w ∈ wsX40, w ∈ wsX4_way := by decide +kernel
  have hS : va_S (mA b) s.heap s.heap [] := va_S.rf
  have hD : va_D (mA b) (mW k b n m fr to w th be oe al pa bo rl ra mo) := mW_D ha
  have hl := lv_entry ([.ref (b 0), .int x, .int y, .int z]) (n := 7) (Nat.le_of_ble_eq_true rfl)
  rw [lg_entry_eq]
  generalize (lg_sl ([.ref (b 0), .int x, .int y, .int z]) ++ List.replicate (7 - (lg_sl ([.ref (b 0), .int x, .int y, .int z])).length) Slot.unset).toArray = ls at hl ⊢
  have hl : lv_has ls 7 [(0, .ref (b 0)), (1, .int x), (2, .int y), (3, .int z)] := hl
  obtain ⟨Q, hQ⟩ : ∃ Q, Q = MQ below (va_Qi (S := Int32) (fun r u => u = r ∧ ((((ixB x n && ixB y n) = false ∧ r = -1000000001) ∨ ((ixB x n && ixB y n) = true ∧ ((fwB n m fr to w th be) (12 * x.toNatClampNeg + y.toNatClampNeg) < 1000000000000 → anyF (bbP (fwB n m fr to w th be) x.toNatClampNeg y.toNatClampNeg) n = false → wyR m fr to w th (fwB n m fr to w th be) y.toNatClampNeg z 50 x.toNatClampNeg 0 r) ∧ ((1000000000000 ≤ (fwB n m fr to w th be) (12 * x.toNatClampNeg + y.toNatClampNeg) ∨ anyF (bbP (fwB n m fr to w th be) x.toNatClampNeg y.toNatClampNeg) n = true) → r = -1))))) (fun _ t => va_P D vwCl (mW k b n m fr to w th (bw (ixB x n && ixB y n) (fwB n m fr to w th be) be) oe al pa bo rl ra mo) t.heap) (mA b)) ([.ref (b 0), .int x, .int y, .int z] : List Value).toArray s 0 0 (mA b) := ⟨_, rfl⟩
  rw [← hQ]
  obtain ⟨hn12, hm40, hft⟩ := id hg
  refine lv_aload_n hx hb dX4_way_0 rfl (lv_at hl 0 rfl) ?_
  refine lv_iload_n hx hb dX4_way_1 rfl (lv_at hl 1 rfl) ?_
  refine cl_Si (As := [.int x]) (rest := []) ⟨hx, hb, hml, hown, hts⟩ (c4_isNode l ha x (by omega)) (cwV 1 hts gX4_way_X4_isNode rfl rfl rfl (by decide +kernel) ⟨Nat.le_of_ble_eq_true rfl, Nat.le_of_ble_eq_true rfl⟩) hK hP (ci := 4) (q0 := 0) rfl rfl rfl rfl hl.1 rfl (Nat.le_of_ble_eq_true rfl) dX4_way_2 ⟨Nat.zero_le _, Nat.zero_le _⟩ (fun r2 h2 => ?_)
  subst h2
  refine rn_ifeqb (tgt := 16) hx hb dX4_way_5 (by decide) (fun c5 => ?_) (fun c5 => ?_)
  · refine lv_ldc (v := (-1000000001)) hx hb hown (hts (.constant RX4 61 (-1000000001)) (by decide +kernel)) dX4_way_16 ?_
    have hc : (ixB x n && ixB y n) = false := by simp [c5]
    rw [hQ]
    exact W.iret (v := (-1000000001)) hx hb hr (fun t ht hW => ⟨⟨_, _, rfl, ⟨rfl, (Or.inl ⟨hc, rfl⟩)⟩, by show va_P D vwCl (mW k b n m fr to w th (bw (ixB x n && ixB y n) (fwB n m fr to w th be) be) oe al pa bo rl ra mo) t.heap; rw [ht]; rw [bw_f hc]; exact hP⟩, hS.F ht⟩) hS.2.2 dX4_way_18
  · refine lv_aload_n hx hb dX4_way_8 rfl (lv_at hl 0 rfl) ?_
    refine lv_iload_n hx hb dX4_way_9 rfl (lv_at hl 2 rfl) ?_
    refine cl_Si (As := [.int y]) (rest := []) ⟨hx, hb, hml, hown, hts⟩ (c4_isNode l ha y (by omega)) (cwV 1 hts gX4_way_X4_isNode rfl rfl rfl (by decide +kernel) ⟨Nat.le_of_ble_eq_true rfl, Nat.le_of_ble_eq_true rfl⟩) hK hP (ci := 4) (q0 := 0) rfl rfl rfl rfl hl.1 rfl (Nat.le_of_ble_eq_true rfl) dX4_way_10 ⟨Nat.zero_le _, Nat.zero_le _⟩ (fun r10 h10 => ?_)
    subst h10
    refine rn_ifneb (tgt := 19) hx hb dX4_way_13 (by decide) (fun c13 => ?_) (fun c13 => ?_)
    · have hc : (ixB x n && ixB y n) = true := by simp [c5, c13]
      obtain ⟨u, hu, rfl⟩ := ixB_t (by omega) c5
      obtain ⟨v, hv, rfl⟩ := ixB_t (by omega) c13
      have e1 : (nI u).toNatClampNeg = u := nI_clamp (by omega)
      have e2 : (nI v).toNatClampNeg = v := nI_clamp (by omega)
      rw [e1, e2] at hwy
      refine lv_aload_n hx hb dX4_way_19 rfl (lv_at hl 0 rfl) ?_
      refine cl_Qv (As := []) (rest := []) ⟨hx, hb, hml, hown, hts⟩ (c4_findBest l ha  hg) (cwV 0 hts gX4_way_X4_findBest rfl rfl rfl (by decide +kernel) ⟨Nat.le_of_ble_eq_true rfl, Nat.le_of_ble_eq_true rfl⟩) hK hP hS (fun _ h => h) (ci := 4) (q0 := 0) rfl rfl rfl rfl hl.1 rfl (Nat.le_of_ble_eq_true rfl) dX4_way_20 ⟨Nat.zero_le _, Nat.zero_le _⟩ (fun H locs h20 hP _ _ hS => ?_)
      have hP : va_P D vwCl (mW k b n m fr to w th (fwB n m fr to w th be) oe al pa bo rl ra mo) H := hP
      have hD : va_D (mA b) (mW k b n m fr to w th (fwB n m fr to w th be) oe al pa bo rl ra mo) := mW_D ha
      refine lv_aload_n hx hb dX4_way_23 rfl (lv_at hl 0 rfl) ?_
      refine va_get (D := D) (ci := 4) (v := .ref (b 5)) (C := RX4) (T := TX4) (N := 14) hx hb hts i4 hown hK hP 0 rfl rfl 6 (by decide) (hts (.fieldLink RX4 23 "SignedPathsModel" "best" "[J") (by decide +kernel)) (fun _ h9 => h9) rfl dX4_way_24 ?_
      refine lv_bipush (v := nI 12) hx hb dX4_way_27 (by decide) ?_
      refine lv_iload_n hx hb dX4_way_29 rfl (lv_at hl 1 rfl) ?_
      refine rn_imul hx hb  dX4_way_30 ?_
      refine lv_iload_n hx hb dX4_way_31 rfl (lv_at hl 2 rfl) ?_
      refine rn_iadd hx hb  dX4_way_32 ?_
      refine rn_lald (v := (fwB n m fr to w th be) ((12 * u) + v)) hx hb hK hP 5 3 rfl rfl (by omega) (by decide) rfl dX4_way_33 ?_
      refine lv_ldc2 (v := 1000000000000) hx hb hown (hts (.constantLong RX4 66 1000000000000) (by decide +kernel)) dX4_way_34 ?_
      refine rn_lcmp_ge (tgt := 50) hx hb dX4_way_37 dX4_way_38 (by decide) (fun c37 => ?_) (fun c37 => ?_)
      · refine lv_iconst (v := (-1)) hx hb dX4_way_50 (by decide) ?_
        rw [hQ]
        exact W.iret (v := (-1)) hx hb hr (fun t ht hW => ⟨⟨_, _, rfl, ⟨rfl, (by rw [e1, e2]; exact Or.inr ⟨hc, fun q _ => absurd c37 (Int64.not_le.mpr q), fun _ => rfl⟩)⟩, by show va_P D vwCl (mW k b n m fr to w th (bw (ixB (nI u) n && ixB (nI v) n) (fwB n m fr to w th be) be) oe al pa bo rl ra mo) t.heap; rw [ht]; rw [bw_t hc]; exact hP⟩, hS.F ht⟩) hS.2.2 dX4_way_51
      · refine lv_aload_n hx hb dX4_way_41 rfl (lv_at hl 0 rfl) ?_
        refine lv_iload_n hx hb dX4_way_42 rfl (lv_at hl 1 rfl) ?_
        refine lv_iload_n hx hb dX4_way_43 rfl (lv_at hl 2 rfl) ?_
        refine cl_Si (As := [.int (nI u), .int (nI v)]) (rest := []) ⟨hx, hb, hml, hown, hts⟩ (c4_isBottomless l ha u v hg (by omega) (by omega)) (cwV 2 hts gX4_way_X4_isBottomless rfl rfl rfl (by decide +kernel) ⟨Nat.le_of_ble_eq_true rfl, Nat.le_of_ble_eq_true rfl⟩) hK hP (ci := 4) (q0 := 0) rfl rfl rfl rfl hl.1 rfl (Nat.le_of_ble_eq_true rfl) dX4_way_44 ⟨Nat.zero_le _, Nat.zero_le _⟩ (fun r44 h44 => ?_)
        subst h44
        refine rn_ifeqb (tgt := 52) hx hb dX4_way_47 (by decide) (fun c47 => ?_) (fun c47 => ?_)
        · have hG := hwy hc c37 c47
          have hno : ¬ (1000000000000 ≤ (fwB n m fr to w th be) (12 * u + v) ∨ anyF (bbP (fwB n m fr to w th be) u v) n = true) := fun q => q.elim c37 (fun q => by rw [c47] at q; cases q)
          refine lv_iload_n hx hb dX4_way_52 rfl (lv_at hl 1 rfl) ?_
          refine lv_istore (lv' := [(4, .int (nI u)), (0, .ref (b 0)), (1, .int (nI u)), (2, .int (nI v)), (3, .int z)]) hx hb dX4_way_53 hl (by decide) rfl (fun ls hl => ?_)
          refine lv_iconst (v := nI 0) hx hb dX4_way_55 (by decide) ?_
          refine lv_istore (lv' := [(5, .int (nI 0)), (4, .int (nI u)), (0, .ref (b 0)), (1, .int (nI u)), (2, .int (nI v)), (3, .int z)]) hx hb dX4_way_56 hl (by decide) rfl (fun ls hl => ?_)
          have key58 : ∀ (f58 i : Nat), 50 + 1 ≤ i + f58 → i ≤ 50 → ∀ (at1 : Nat), (at1 < n ∧ wyG m fr to w th (fwB n m fr to w th be) v (50 - i) at1 ∧ ∀ r, wyR m fr to w th (fwB n m fr to w th be) v z (50 - i) at1 i r → wyR m fr to w th (fwB n m fr to w th be) v z 50 u 0 r) → ∀ (H : Heap) (locs : List Loc), va_P D vwCl (mW k b n m fr to w th (fwB n m fr to w th be) oe al pa bo rl ra mo) H → va_S (mA b) s.heap H locs → ∀ (ls : Array Slot), lv_has ls 7 [(0, .ref (b 0)), (1, .int (nI u)), (2, .int (nI v)), (3, .int z), (4, .int (nI at1)), (5, .int (nI i))] → W p l e (headSpec wsX4_way { frames := 2, cells := 0, slots := 0, locals := 43 }).room s mt ([.ref (b 0), .int (nI u), .int (nI v), .int z] : List Value).toArray below meth c H locs 0 0 Q (F0 mt 58 ls []) := by
            intro f58
            induction f58 with
            | zero => intro i h1 h2; exact absurd h1 (by omega)
            | succ f58 ih58 =>
              intro i hf58 hi58 at1 hv58 H locs hP hS ls hl
              have hD : va_D (mA b) (mW k b n m fr to w th (fwB n m fr to w th be) oe al pa bo rl ra mo) := mW_D ha
              refine lv_aload_n hx hb dX4_way_58 rfl (lv_at hl 0 rfl) ?_
              refine va_get (D := D) (ci := 4) (v := .ref (b 5)) (C := RX4) (T := TX4) (N := 14) hx hb hts i4 hown hK hP 0 rfl rfl 6 (by decide) (hts (.fieldLink RX4 23 "SignedPathsModel" "best" "[J") (by decide +kernel)) (fun _ h9 => h9) rfl dX4_way_59 ?_
              refine lv_bipush (v := nI 12) hx hb dX4_way_62 (by decide) ?_
              refine lv_iload hx hb dX4_way_64 (lv_at hl 4 rfl) ?_
              refine rn_imul hx hb  dX4_way_66 ?_
              refine lv_iload_n hx hb dX4_way_67 rfl (lv_at hl 2 rfl) ?_
              refine rn_iadd hx hb  dX4_way_68 ?_
              refine rn_lald (v := (fwB n m fr to w th be) ((12 * at1) + v)) hx hb hK hP 5 3 rfl rfl (by omega) (by decide) rfl dX4_way_69 ?_
              refine lv_lconst (v := 0) hx hb dX4_way_70 (by decide) ?_
              refine rn_lcmp_ne (tgt := 81) hx hb dX4_way_71 dX4_way_72 (by decide) (fun c71 => ?_) (fun c71 => ?_)
              · have hne : ¬ wyE (fwB n m fr to w th be) v at1 := fun q => c71 q.1
                obtain ⟨fz, hfz⟩ := wyG_pos hv58.2.1
                have hGG := hv58.2.1
                rw [hfz] at hGG
                obtain ⟨jj, hjj, hgj⟩ := wyG_s hGG hne
                obtain ⟨hj1, hj2, hj3⟩ := fst_inv hjj
                refine lv_iconst (v := nI 0) hx hb dX4_way_81 (by decide) ?_
                refine lv_istore (lv' := [(6, .int (nI 0)), (0, .ref (b 0)), (1, .int (nI u)), (2, .int (nI v)), (3, .int z), (4, .int (nI at1)), (5, .int (nI i))]) hx hb dX4_way_82 hl (by decide) rfl (fun ls hl => ?_)
                have key84 : ∀ (f84 j : Nat), jj + 1 ≤ j + f84 → j ≤ jj → ∀ (H : Heap) (locs : List Loc), va_P D vwCl (mW k b n m fr to w th (fwB n m fr to w th be) oe al pa bo rl ra mo) H → va_S (mA b) s.heap H locs → ∀ (ls : Array Slot), lv_has ls 7 [(0, .ref (b 0)), (1, .int (nI u)), (2, .int (nI v)), (3, .int z), (4, .int (nI at1)), (5, .int (nI i)), (6, .int (nI j))] → W p l e (headSpec wsX4_way { frames := 2, cells := 0, slots := 0, locals := 43 }).room s mt ([.ref (b 0), .int (nI u), .int (nI v), .int z] : List Value).toArray below meth c H locs 0 0 Q (F0 mt 84 ls []) := by
                  intro f84
                  induction f84 with
                  | zero => intro j h1 h2; exact absurd h1 (by omega)
                  | succ f84 ih84 =>
                    intro j hf84 hi84   H locs hP hS ls hl
                    have hD : va_D (mA b) (mW k b n m fr to w th (fwB n m fr to w th be) oe al pa bo rl ra mo) := mW_D ha
                    have hjm := hft j (by omega)
                    refine lv_aload_n hx hb dX4_way_84 rfl (lv_at hl 0 rfl) ?_
                    refine va_get (D := D) (ci := 4) (v := .ref (b 4)) (C := RX4) (T := TX4) (N := 14) hx hb hts i4 hown hK hP 0 rfl rfl 5 (by decide) (hts (.fieldLink RX4 19 "SignedPathsModel" "isThere" "[Z") (by decide +kernel)) (fun _ h9 => h9) rfl dX4_way_85 ?_
                    refine lv_iload hx hb dX4_way_88 (lv_at hl 6 rfl) ?_
                    refine rn_zald (v := bI (th j)) hx hb hK hP 4 1 rfl rfl (by omega) (by decide) rfl dX4_way_90 ?_
                    refine rn_ifeqb (tgt := 154) hx hb dX4_way_91 (by decide) (fun c91 => ?_) (fun c91 => ?_)
                    · refine lv_iinc (v := nI (j + 1)) (lv' := [(6, .int (nI (j + 1))), (0, .ref (b 0)), (1, .int (nI u)), (2, .int (nI v)), (3, .int z), (4, .int (nI at1)), (5, .int (nI i))]) hx hb dX4_way_154 hl (k := 6) rfl (nI_1 j) (by decide) rfl (fun ls hl => ?_)
                      refine lv_goto (tgt := 84) hx hb dX4_way_157 (by decide) ?_
                      have hq : j ≠ jj := by intro q; rw [← q] at hj2; simp [wyP, c91] at hj2
                      exact ih84 (j + 1) (by omega) (by omega)  _ _ (hP) hS ls (lv_sub hl [1, 2, 3, 4, 5, 6, 0] rfl)
                    · refine lv_aload_n hx hb dX4_way_94 rfl (lv_at hl 0 rfl) ?_
                      refine va_get (D := D) (ci := 4) (v := .ref (b 1)) (C := RX4) (T := TX4) (N := 14) hx hb hts i4 hown hK hP 0 rfl rfl 2 (by decide) (hts (.fieldLink RX4 7 "SignedPathsModel" "from" "[I") (by decide +kernel)) (fun _ h9 => h9) rfl dX4_way_95 ?_
                      refine lv_iload hx hb dX4_way_98 (lv_at hl 6 rfl) ?_
                      refine rn_iald (v := nI (fr j)) hx hb hK hP 1 0 rfl rfl (by omega) (by decide) rfl dX4_way_100 ?_
                      refine lv_iload hx hb dX4_way_101 (lv_at hl 4 rfl) ?_
                      refine rn_icmp_ne (tgt := 154) hx hb dX4_way_103 (by decide) (by omega) (by omega) (fun c103 => ?_) (fun c103 => ?_)
                      · refine lv_iinc (v := nI (j + 1)) (lv' := [(6, .int (nI (j + 1))), (0, .ref (b 0)), (1, .int (nI u)), (2, .int (nI v)), (3, .int z), (4, .int (nI at1)), (5, .int (nI i))]) hx hb dX4_way_154 hl (k := 6) rfl (nI_1 j) (by decide) rfl (fun ls hl => ?_)
                        refine lv_goto (tgt := 84) hx hb dX4_way_157 (by decide) ?_
                        have hq : j ≠ jj := by intro q; rw [← q] at hj2; simp [wyP, c103] at hj2
                        exact ih84 (j + 1) (by omega) (by omega)  _ _ (hP) hS ls (lv_sub hl [1, 2, 3, 4, 5, 6, 0] rfl)
                      · refine lv_ldc2 (v := 1000) hx hb hown (hts (.constantLong RX4 68 1000) (by decide +kernel)) dX4_way_106 ?_
                        refine lv_aload_n hx hb dX4_way_109 rfl (lv_at hl 0 rfl) ?_
                        refine va_get (D := D) (ci := 4) (v := .ref (b 3)) (C := RX4) (T := TX4) (N := 14) hx hb hts i4 hown hK hP 0 rfl rfl 4 (by decide) (hts (.fieldLink RX4 16 "SignedPathsModel" "weight" "[I") (by decide +kernel)) (fun _ h9 => h9) rfl dX4_way_110 ?_
                        refine lv_iload hx hb dX4_way_113 (lv_at hl 6 rfl) ?_
                        refine rn_iald (v := w j) hx hb hK hP 3 0 rfl rfl (by omega) (by decide) rfl dX4_way_115 ?_
                        refine lv_i2l (v := (w j).toInt64) hx hb dX4_way_116 rfl ?_
                        refine lv_lmul hx hb dX4_way_117  ?_
                        refine lv_lconst (v := 1) hx hb dX4_way_118 (by decide) ?_
                        refine lv_ladd hx hb dX4_way_119  ?_
                        refine lv_aload_n hx hb dX4_way_120 rfl (lv_at hl 0 rfl) ?_
                        refine va_get (D := D) (ci := 4) (v := .ref (b 5)) (C := RX4) (T := TX4) (N := 14) hx hb hts i4 hown hK hP 0 rfl rfl 6 (by decide) (hts (.fieldLink RX4 23 "SignedPathsModel" "best" "[J") (by decide +kernel)) (fun _ h9 => h9) rfl dX4_way_121 ?_
                        refine lv_bipush (v := nI 12) hx hb dX4_way_124 (by decide) ?_
                        refine lv_aload_n hx hb dX4_way_126 rfl (lv_at hl 0 rfl) ?_
                        refine va_get (D := D) (ci := 4) (v := .ref (b 2)) (C := RX4) (T := TX4) (N := 14) hx hb hts i4 hown hK hP 0 rfl rfl 3 (by decide) (hts (.fieldLink RX4 13 "SignedPathsModel" "to" "[I") (by decide +kernel)) (fun _ h9 => h9) rfl dX4_way_127 ?_
                        refine lv_iload hx hb dX4_way_130 (lv_at hl 6 rfl) ?_
                        refine rn_iald (v := nI (to j)) hx hb hK hP 2 0 rfl rfl (by omega) (by decide) rfl dX4_way_132 ?_
                        refine rn_imul hx hb  dX4_way_133 ?_
                        refine lv_iload_n hx hb dX4_way_134 rfl (lv_at hl 2 rfl) ?_
                        refine rn_iadd hx hb  dX4_way_135 ?_
                        refine rn_lald (v := (fwB n m fr to w th be) ((12 * (to j)) + v)) hx hb hK hP 5 3 rfl rfl (by omega) (by decide) rfl dX4_way_136 ?_
                        refine lv_ladd hx hb dX4_way_137  ?_
                        refine lv_aload_n hx hb dX4_way_138 rfl (lv_at hl 0 rfl) ?_
                        refine va_get (D := D) (ci := 4) (v := .ref (b 5)) (C := RX4) (T := TX4) (N := 14) hx hb hts i4 hown hK hP 0 rfl rfl 6 (by decide) (hts (.fieldLink RX4 23 "SignedPathsModel" "best" "[J") (by decide +kernel)) (fun _ h9 => h9) rfl dX4_way_139 ?_
                        refine lv_bipush (v := nI 12) hx hb dX4_way_142 (by decide) ?_
                        refine lv_iload hx hb dX4_way_144 (lv_at hl 4 rfl) ?_
                        refine rn_imul hx hb  dX4_way_146 ?_
                        refine lv_iload_n hx hb dX4_way_147 rfl (lv_at hl 2 rfl) ?_
                        refine rn_iadd hx hb  dX4_way_148 ?_
                        refine rn_lald (v := (fwB n m fr to w th be) ((12 * at1) + v)) hx hb hK hP 5 3 rfl rfl (by omega) (by decide) rfl dX4_way_149 ?_
                        refine rn_lcmp_eq (tgt := 160) hx hb dX4_way_150 dX4_way_151 (by decide) (fun c150 => ?_) (fun c150 => ?_)
                        · have ej : j = jj := by rcases Nat.lt_or_ge j jj with q | q; (exact absurd (hj3 j q) (by simp [wyP, c91, c103, c150])); omega
                          refine lv_iload hx hb dX4_way_160 (lv_at hl 5 rfl) ?_
                          refine lv_iload_n hx hb dX4_way_162 rfl (lv_at hl 3 rfl) ?_
                          refine lv_icmp_ne (tgt := 169) hx hb dX4_way_163 (by decide) (fun c163 => ?_) (fun c163 => ?_)
                          · refine lv_iinc (v := nI (i + 1)) (lv' := [(5, .int (nI (i + 1))), (0, .ref (b 0)), (1, .int (nI u)), (2, .int (nI v)), (3, .int z), (4, .int (nI at1)), (6, .int (nI j))]) hx hb dX4_way_169 hl (k := 5) rfl (nI_1 i) (by decide) rfl (fun ls hl => ?_)
                            refine lv_aload_n hx hb dX4_way_172 rfl (lv_at hl 1 rfl) ?_
                            refine va_get (D := D) (ci := 4) (v := .ref (b 2)) (C := RX4) (T := TX4) (N := 14) hx hb hts i4 hown hK hP 0 rfl rfl 3 (by decide) (hts (.fieldLink RX4 13 "SignedPathsModel" "to" "[I") (by decide +kernel)) (fun _ h9 => h9) rfl dX4_way_173 ?_
                            refine lv_iload hx hb dX4_way_176 (lv_at hl 6 rfl) ?_
                            refine rn_iald (v := nI (to j)) hx hb hK hP 2 0 rfl rfl (by omega) (by decide) rfl dX4_way_178 ?_
                            refine lv_istore (lv' := [(4, .int (nI (to j))), (5, .int (nI (i + 1))), (0, .ref (b 0)), (1, .int (nI u)), (2, .int (nI v)), (3, .int z), (6, .int (nI j))]) hx hb dX4_way_179 hl (by decide) rfl (fun ls hl => ?_)
                            refine lv_goto (tgt := 58) hx hb dX4_way_181 (by decide) ?_
                            exact ih58 (i + 1) (by omega) (by omega) (to j) ⟨hjm.2, by rw [show 50 - (i + 1) = fz by omega, ej]; exact hgj, fun r h => hv58.2.2 r (by rw [hfz]; exact Or.inr ⟨hne, jj, hjj, Or.inr ⟨c163, by rw [← ej, ← (show 50 - (i + 1) = fz by omega)]; exact h⟩⟩)⟩ _ _ (hP) hS ls (lv_sub hl [2, 3, 4, 5, 0, 1] rfl)
                          · refine lv_iload hx hb dX4_way_166 (lv_at hl 6 rfl) ?_
                            rw [hQ]
                            exact W.iret (v := nI j) hx hb hr (fun t ht hW => ⟨⟨_, _, rfl, ⟨rfl, (by rw [e1, e2]; exact Or.inr ⟨hc, fun _ _ => hv58.2.2 _ (by rw [hfz]; exact Or.inr ⟨hne, jj, hjj, Or.inl ⟨c163, by rw [ej]⟩⟩), fun q => absurd q hno⟩)⟩, by show va_P D vwCl (mW k b n m fr to w th (bw (ixB (nI u) n && ixB (nI v) n) (fwB n m fr to w th be) be) oe al pa bo rl ra mo) t.heap; rw [ht]; rw [bw_t hc]; exact hP⟩, hS.F ht⟩) hS.2.2 dX4_way_168
                        · refine lv_iinc (v := nI (j + 1)) (lv' := [(6, .int (nI (j + 1))), (0, .ref (b 0)), (1, .int (nI u)), (2, .int (nI v)), (3, .int z), (4, .int (nI at1)), (5, .int (nI i))]) hx hb dX4_way_154 hl (k := 6) rfl (nI_1 j) (by decide) rfl (fun ls hl => ?_)
                          refine lv_goto (tgt := 84) hx hb dX4_way_157 (by decide) ?_
                          have hq : j ≠ jj := by intro q; rw [← q] at hj2; simp [wyP, c150] at hj2
                          exact ih84 (j + 1) (by omega) (by omega)  _ _ (hP) hS ls (lv_sub hl [1, 2, 3, 4, 5, 6, 0] rfl)
                exact key84 (jj + 1) 0 (by omega) (by omega)  _ _ (hP) hS ls (lv_sub hl [1, 2, 3, 4, 5, 6, 0] rfl)
              · refine lv_iload hx hb dX4_way_75 (lv_at hl 4 rfl) ?_
                refine lv_iload_n hx hb dX4_way_77 rfl (lv_at hl 2 rfl) ?_
                refine rn_icmp_eq (tgt := 184) hx hb dX4_way_78 (by decide) (by omega) (by omega) (fun c78 => ?_) (fun c78 => ?_)
                · obtain ⟨fz, hfz⟩ := wyG_pos hv58.2.1
                  refine lv_iconst (v := (-1)) hx hb dX4_way_184 (by decide) ?_
                  rw [hQ]
                  exact W.iret (v := (-1)) hx hb hr (fun t ht hW => ⟨⟨_, _, rfl, ⟨rfl, (by rw [e1, e2]; exact Or.inr ⟨hc, fun _ _ => hv58.2.2 _ (by rw [hfz]; exact Or.inl ⟨⟨c71, c78⟩, rfl⟩), fun _ => rfl⟩)⟩, by show va_P D vwCl (mW k b n m fr to w th (bw (ixB (nI u) n && ixB (nI v) n) (fwB n m fr to w th be) be) oe al pa bo rl ra mo) t.heap; rw [ht]; rw [bw_t hc]; exact hP⟩, hS.F ht⟩) hS.2.2 dX4_way_185
                · have hne : ¬ wyE (fwB n m fr to w th be) v at1 := fun q => c78 q.2
                  obtain ⟨fz, hfz⟩ := wyG_pos hv58.2.1
                  have hGG := hv58.2.1
                  rw [hfz] at hGG
                  obtain ⟨jj, hjj, hgj⟩ := wyG_s hGG hne
                  obtain ⟨hj1, hj2, hj3⟩ := fst_inv hjj
                  refine lv_iconst (v := nI 0) hx hb dX4_way_81 (by decide) ?_
                  refine lv_istore (lv' := [(6, .int (nI 0)), (0, .ref (b 0)), (1, .int (nI u)), (2, .int (nI v)), (3, .int z), (4, .int (nI at1)), (5, .int (nI i))]) hx hb dX4_way_82 hl (by decide) rfl (fun ls hl => ?_)
                  have key84 : ∀ (f84 j : Nat), jj + 1 ≤ j + f84 → j ≤ jj → ∀ (H : Heap) (locs : List Loc), va_P D vwCl (mW k b n m fr to w th (fwB n m fr to w th be) oe al pa bo rl ra mo) H → va_S (mA b) s.heap H locs → ∀ (ls : Array Slot), lv_has ls 7 [(0, .ref (b 0)), (1, .int (nI u)), (2, .int (nI v)), (3, .int z), (4, .int (nI at1)), (5, .int (nI i)), (6, .int (nI j))] → W p l e (headSpec wsX4_way { frames := 2, cells := 0, slots := 0, locals := 43 }).room s mt ([.ref (b 0), .int (nI u), .int (nI v), .int z] : List Value).toArray below meth c H locs 0 0 Q (F0 mt 84 ls []) := by
                    intro f84
                    induction f84 with
                    | zero => intro j h1 h2; exact absurd h1 (by omega)
                    | succ f84 ih84 =>
                      intro j hf84 hi84   H locs hP hS ls hl
                      have hD : va_D (mA b) (mW k b n m fr to w th (fwB n m fr to w th be) oe al pa bo rl ra mo) := mW_D ha
                      have hjm := hft j (by omega)
                      refine lv_aload_n hx hb dX4_way_84 rfl (lv_at hl 0 rfl) ?_
                      refine va_get (D := D) (ci := 4) (v := .ref (b 4)) (C := RX4) (T := TX4) (N := 14) hx hb hts i4 hown hK hP 0 rfl rfl 5 (by decide) (hts (.fieldLink RX4 19 "SignedPathsModel" "isThere" "[Z") (by decide +kernel)) (fun _ h9 => h9) rfl dX4_way_85 ?_
                      refine lv_iload hx hb dX4_way_88 (lv_at hl 6 rfl) ?_
                      refine rn_zald (v := bI (th j)) hx hb hK hP 4 1 rfl rfl (by omega) (by decide) rfl dX4_way_90 ?_
                      refine rn_ifeqb (tgt := 154) hx hb dX4_way_91 (by decide) (fun c91 => ?_) (fun c91 => ?_)
                      · refine lv_iinc (v := nI (j + 1)) (lv' := [(6, .int (nI (j + 1))), (0, .ref (b 0)), (1, .int (nI u)), (2, .int (nI v)), (3, .int z), (4, .int (nI at1)), (5, .int (nI i))]) hx hb dX4_way_154 hl (k := 6) rfl (nI_1 j) (by decide) rfl (fun ls hl => ?_)
                        refine lv_goto (tgt := 84) hx hb dX4_way_157 (by decide) ?_
                        have hq : j ≠ jj := by intro q; rw [← q] at hj2; simp [wyP, c91] at hj2
                        exact ih84 (j + 1) (by omega) (by omega)  _ _ (hP) hS ls (lv_sub hl [1, 2, 3, 4, 5, 6, 0] rfl)
                      · refine lv_aload_n hx hb dX4_way_94 rfl (lv_at hl 0 rfl) ?_
                        refine va_get (D := D) (ci := 4) (v := .ref (b 1)) (C := RX4) (T := TX4) (N := 14) hx hb hts i4 hown hK hP 0 rfl rfl 2 (by decide) (hts (.fieldLink RX4 7 "SignedPathsModel" "from" "[I") (by decide +kernel)) (fun _ h9 => h9) rfl dX4_way_95 ?_
                        refine lv_iload hx hb dX4_way_98 (lv_at hl 6 rfl) ?_
                        refine rn_iald (v := nI (fr j)) hx hb hK hP 1 0 rfl rfl (by omega) (by decide) rfl dX4_way_100 ?_
                        refine lv_iload hx hb dX4_way_101 (lv_at hl 4 rfl) ?_
                        refine rn_icmp_ne (tgt := 154) hx hb dX4_way_103 (by decide) (by omega) (by omega) (fun c103 => ?_) (fun c103 => ?_)
                        · refine lv_iinc (v := nI (j + 1)) (lv' := [(6, .int (nI (j + 1))), (0, .ref (b 0)), (1, .int (nI u)), (2, .int (nI v)), (3, .int z), (4, .int (nI at1)), (5, .int (nI i))]) hx hb dX4_way_154 hl (k := 6) rfl (nI_1 j) (by decide) rfl (fun ls hl => ?_)
                          refine lv_goto (tgt := 84) hx hb dX4_way_157 (by decide) ?_
                          have hq : j ≠ jj := by intro q; rw [← q] at hj2; simp [wyP, c103] at hj2
                          exact ih84 (j + 1) (by omega) (by omega)  _ _ (hP) hS ls (lv_sub hl [1, 2, 3, 4, 5, 6, 0] rfl)
                        · refine lv_ldc2 (v := 1000) hx hb hown (hts (.constantLong RX4 68 1000) (by decide +kernel)) dX4_way_106 ?_
                          refine lv_aload_n hx hb dX4_way_109 rfl (lv_at hl 0 rfl) ?_
                          refine va_get (D := D) (ci := 4) (v := .ref (b 3)) (C := RX4) (T := TX4) (N := 14) hx hb hts i4 hown hK hP 0 rfl rfl 4 (by decide) (hts (.fieldLink RX4 16 "SignedPathsModel" "weight" "[I") (by decide +kernel)) (fun _ h9 => h9) rfl dX4_way_110 ?_
                          refine lv_iload hx hb dX4_way_113 (lv_at hl 6 rfl) ?_
                          refine rn_iald (v := w j) hx hb hK hP 3 0 rfl rfl (by omega) (by decide) rfl dX4_way_115 ?_
                          refine lv_i2l (v := (w j).toInt64) hx hb dX4_way_116 rfl ?_
                          refine lv_lmul hx hb dX4_way_117  ?_
                          refine lv_lconst (v := 1) hx hb dX4_way_118 (by decide) ?_
                          refine lv_ladd hx hb dX4_way_119  ?_
                          refine lv_aload_n hx hb dX4_way_120 rfl (lv_at hl 0 rfl) ?_
                          refine va_get (D := D) (ci := 4) (v := .ref (b 5)) (C := RX4) (T := TX4) (N := 14) hx hb hts i4 hown hK hP 0 rfl rfl 6 (by decide) (hts (.fieldLink RX4 23 "SignedPathsModel" "best" "[J") (by decide +kernel)) (fun _ h9 => h9) rfl dX4_way_121 ?_
                          refine lv_bipush (v := nI 12) hx hb dX4_way_124 (by decide) ?_
                          refine lv_aload_n hx hb dX4_way_126 rfl (lv_at hl 0 rfl) ?_
                          refine va_get (D := D) (ci := 4) (v := .ref (b 2)) (C := RX4) (T := TX4) (N := 14) hx hb hts i4 hown hK hP 0 rfl rfl 3 (by decide) (hts (.fieldLink RX4 13 "SignedPathsModel" "to" "[I") (by decide +kernel)) (fun _ h9 => h9) rfl dX4_way_127 ?_
                          refine lv_iload hx hb dX4_way_130 (lv_at hl 6 rfl) ?_
                          refine rn_iald (v := nI (to j)) hx hb hK hP 2 0 rfl rfl (by omega) (by decide) rfl dX4_way_132 ?_
                          refine rn_imul hx hb  dX4_way_133 ?_
                          refine lv_iload_n hx hb dX4_way_134 rfl (lv_at hl 2 rfl) ?_
                          refine rn_iadd hx hb  dX4_way_135 ?_
                          refine rn_lald (v := (fwB n m fr to w th be) ((12 * (to j)) + v)) hx hb hK hP 5 3 rfl rfl (by omega) (by decide) rfl dX4_way_136 ?_
                          refine lv_ladd hx hb dX4_way_137  ?_
                          refine lv_aload_n hx hb dX4_way_138 rfl (lv_at hl 0 rfl) ?_
                          refine va_get (D := D) (ci := 4) (v := .ref (b 5)) (C := RX4) (T := TX4) (N := 14) hx hb hts i4 hown hK hP 0 rfl rfl 6 (by decide) (hts (.fieldLink RX4 23 "SignedPathsModel" "best" "[J") (by decide +kernel)) (fun _ h9 => h9) rfl dX4_way_139 ?_
                          refine lv_bipush (v := nI 12) hx hb dX4_way_142 (by decide) ?_
                          refine lv_iload hx hb dX4_way_144 (lv_at hl 4 rfl) ?_
                          refine rn_imul hx hb  dX4_way_146 ?_
                          refine lv_iload_n hx hb dX4_way_147 rfl (lv_at hl 2 rfl) ?_
                          refine rn_iadd hx hb  dX4_way_148 ?_
                          refine rn_lald (v := (fwB n m fr to w th be) ((12 * at1) + v)) hx hb hK hP 5 3 rfl rfl (by omega) (by decide) rfl dX4_way_149 ?_
                          refine rn_lcmp_eq (tgt := 160) hx hb dX4_way_150 dX4_way_151 (by decide) (fun c150 => ?_) (fun c150 => ?_)
                          · have ej : j = jj := by rcases Nat.lt_or_ge j jj with q | q; (exact absurd (hj3 j q) (by simp [wyP, c91, c103, c150])); omega
                            refine lv_iload hx hb dX4_way_160 (lv_at hl 5 rfl) ?_
                            refine lv_iload_n hx hb dX4_way_162 rfl (lv_at hl 3 rfl) ?_
                            refine lv_icmp_ne (tgt := 169) hx hb dX4_way_163 (by decide) (fun c163 => ?_) (fun c163 => ?_)
                            · refine lv_iinc (v := nI (i + 1)) (lv' := [(5, .int (nI (i + 1))), (0, .ref (b 0)), (1, .int (nI u)), (2, .int (nI v)), (3, .int z), (4, .int (nI at1)), (6, .int (nI j))]) hx hb dX4_way_169 hl (k := 5) rfl (nI_1 i) (by decide) rfl (fun ls hl => ?_)
                              refine lv_aload_n hx hb dX4_way_172 rfl (lv_at hl 1 rfl) ?_
                              refine va_get (D := D) (ci := 4) (v := .ref (b 2)) (C := RX4) (T := TX4) (N := 14) hx hb hts i4 hown hK hP 0 rfl rfl 3 (by decide) (hts (.fieldLink RX4 13 "SignedPathsModel" "to" "[I") (by decide +kernel)) (fun _ h9 => h9) rfl dX4_way_173 ?_
                              refine lv_iload hx hb dX4_way_176 (lv_at hl 6 rfl) ?_
                              refine rn_iald (v := nI (to j)) hx hb hK hP 2 0 rfl rfl (by omega) (by decide) rfl dX4_way_178 ?_
                              refine lv_istore (lv' := [(4, .int (nI (to j))), (5, .int (nI (i + 1))), (0, .ref (b 0)), (1, .int (nI u)), (2, .int (nI v)), (3, .int z), (6, .int (nI j))]) hx hb dX4_way_179 hl (by decide) rfl (fun ls hl => ?_)
                              refine lv_goto (tgt := 58) hx hb dX4_way_181 (by decide) ?_
                              exact ih58 (i + 1) (by omega) (by omega) (to j) ⟨hjm.2, by rw [show 50 - (i + 1) = fz by omega, ej]; exact hgj, fun r h => hv58.2.2 r (by rw [hfz]; exact Or.inr ⟨hne, jj, hjj, Or.inr ⟨c163, by rw [← ej, ← (show 50 - (i + 1) = fz by omega)]; exact h⟩⟩)⟩ _ _ (hP) hS ls (lv_sub hl [2, 3, 4, 5, 0, 1] rfl)
                            · refine lv_iload hx hb dX4_way_166 (lv_at hl 6 rfl) ?_
                              rw [hQ]
                              exact W.iret (v := nI j) hx hb hr (fun t ht hW => ⟨⟨_, _, rfl, ⟨rfl, (by rw [e1, e2]; exact Or.inr ⟨hc, fun _ _ => hv58.2.2 _ (by rw [hfz]; exact Or.inr ⟨hne, jj, hjj, Or.inl ⟨c163, by rw [ej]⟩⟩), fun q => absurd q hno⟩)⟩, by show va_P D vwCl (mW k b n m fr to w th (bw (ixB (nI u) n && ixB (nI v) n) (fwB n m fr to w th be) be) oe al pa bo rl ra mo) t.heap; rw [ht]; rw [bw_t hc]; exact hP⟩, hS.F ht⟩) hS.2.2 dX4_way_168
                          · refine lv_iinc (v := nI (j + 1)) (lv' := [(6, .int (nI (j + 1))), (0, .ref (b 0)), (1, .int (nI u)), (2, .int (nI v)), (3, .int z), (4, .int (nI at1)), (5, .int (nI i))]) hx hb dX4_way_154 hl (k := 6) rfl (nI_1 j) (by decide) rfl (fun ls hl => ?_)
                            refine lv_goto (tgt := 84) hx hb dX4_way_157 (by decide) ?_
                            have hq : j ≠ jj := by intro q; rw [← q] at hj2; simp [wyP, c150] at hj2
                            exact ih84 (j + 1) (by omega) (by omega)  _ _ (hP) hS ls (lv_sub hl [1, 2, 3, 4, 5, 6, 0] rfl)
                  exact key84 (jj + 1) 0 (by omega) (by omega)  _ _ (hP) hS ls (lv_sub hl [1, 2, 3, 4, 5, 6, 0] rfl)
          exact key58 (50 + 1) 0 (by omega) (by omega) u ⟨hu, hG, fun _ h => h⟩ _ _ (hP) hS ls (lv_sub hl [2, 3, 4, 5, 1, 0] rfl)
        · refine lv_iconst (v := (-1)) hx hb dX4_way_50 (by decide) ?_
          rw [hQ]
          exact W.iret (v := (-1)) hx hb hr (fun t ht hW => ⟨⟨_, _, rfl, ⟨rfl, (by rw [e1, e2]; exact Or.inr ⟨hc, fun _ q => absurd c47 (by rw [q]; decide), fun _ => rfl⟩)⟩, by show va_P D vwCl (mW k b n m fr to w th (bw (ixB (nI u) n && ixB (nI v) n) (fwB n m fr to w th be) be) oe al pa bo rl ra mo) t.heap; rw [ht]; rw [bw_t hc]; exact hP⟩, hS.F ht⟩) hS.2.2 dX4_way_51
    · refine lv_ldc (v := (-1000000001)) hx hb hown (hts (.constant RX4 61 (-1000000001)) (by decide +kernel)) dX4_way_16 ?_
      have hc : (ixB x n && ixB y n) = false := by simp [c13]
      rw [hQ]
      exact W.iret (v := (-1000000001)) hx hb hr (fun t ht hW => ⟨⟨_, _, rfl, ⟨rfl, (Or.inl ⟨hc, rfl⟩)⟩, by show va_P D vwCl (mW k b n m fr to w th (bw (ixB x n && ixB y n) (fwB n m fr to w th be) be) oe al pa bo rl ra mo) t.heap; rw [ht]; rw [bw_f hc]; exact hP⟩, hS.F ht⟩) hS.2.2 dX4_way_18
set_option maxHeartbeats 4000000 in
set_option maxRecDepth 100000 in
theorem c4_isFree (l : Launch) {D : va_G} {k : Nat → ClassId} {b : Nat → Nat} {n : Nat} {m : Nat} {fr : Nat → Nat} {to : Nat → Nat} {w : Nat → Int32} {th : Nat → Bool} {be : Nat → Int64} {oe : Nat → Int64} {al : Nat → Int64} {pa : Nat → Int64} {bo : Nat → Int64} {rl : Nat} {ra : Nat → Nat} {mo : Nat → Int64} (ha : inj 12 b)  (hg : gOK n m fr to) : Met l yX4_isFree wsX4_isFree ({ frames := 0, cells := 0, slots := 0, locals := 0 }) (gPc D k (mW k b n m fr to w th be oe al pa bo rl ra mo) [.ref (b 0)]) (va_Qi (S := Int32) (fun r u => u = r ∧ (r = bI (frB n m fr to w th mo))) (fun _ t => va_P D vwCl (mW k b n m fr to w th be oe al pa bo rl ra (frM n m fr to w th mo)) t.heap) (mA b)) 0 0 (mA b) := by
  refine Met.ofW (cc := cX4_isFree) (maxL := 9) (ret := (some .boolean)) (by decide) rfl ?_
  intro p e s mt args below meth c s₁ B hml hv
  obtain ⟨rfl, hP, hK⟩ := hv
  have hx := B.exec
  have hb := B.bytes
  have hr := B.returns
  have hts := atoms_spec (ws := wsX4_isFree) B.pre
  have hown : s.vm.findClass RX4 = some mt.cls := findClass_of_methodNamed B.named
  have hlocks := B.notSynchronized
  have i4 : ∀ w ∈ wsX40, w ∈ wsX4_isFree := by decide +kernel
  have hS : va_S (mA b) s.heap s.heap [] := va_S.rf
  have hD : va_D (mA b) (mW k b n m fr to w th be oe al pa bo rl ra mo) := mW_D ha
  have hl := lv_entry ([.ref (b 0)]) (n := 9) (Nat.le_of_ble_eq_true rfl)
  rw [lg_entry_eq]
  generalize (lg_sl ([.ref (b 0)]) ++ List.replicate (9 - (lg_sl ([.ref (b 0)])).length) Slot.unset).toArray = ls at hl ⊢
  have hl : lv_has ls 9 [(0, .ref (b 0))] := hl
  obtain ⟨Q, hQ⟩ : ∃ Q, Q = MQ below (va_Qi (S := Int32) (fun r u => u = r ∧ (r = bI (frB n m fr to w th mo))) (fun _ t => va_P D vwCl (mW k b n m fr to w th be oe al pa bo rl ra (frM n m fr to w th mo)) t.heap) (mA b)) ([.ref (b 0)] : List Value).toArray s 0 0 (mA b) := ⟨_, rfl⟩
  rw [← hQ]
  obtain ⟨hn12, hm40, hft⟩ := id hg
  refine lv_iconst (v := bI true) hx hb dX4_isFree_0 (by decide) ?_
  refine lv_istore_n (lv' := [(1, .int (bI true)), (0, .ref (b 0))]) hx hb dX4_isFree_1 rfl hl (by decide) rfl (fun ls hl => ?_)
  refine lv_iconst (v := nI 0) hx hb dX4_isFree_2 (by decide) ?_
  refine lv_istore_n (lv' := [(2, .int (nI 0)), (1, .int (bI true)), (0, .ref (b 0))]) hx hb dX4_isFree_3 rfl hl (by decide) rfl (fun ls hl => ?_)
  have key4 : ∀ (f4 i : Nat), n * 12 + 1 ≤ i + f4 → i ≤ n * 12 → ∀ (H : Heap) (locs : List Loc), va_P D vwCl (mW k b n m fr to w th be oe al pa bo rl ra (fl mb1 i mo)) H → va_S (mA b) s.heap H locs → ∀ (ls : Array Slot), lv_has ls 9 [(0, .ref (b 0)), (1, .int (bI true)), (2, .int (nI i))] → W p l e (headSpec wsX4_isFree { frames := 0, cells := 0, slots := 0, locals := 0 }).room s mt ([.ref (b 0)] : List Value).toArray below meth c H locs 0 0 Q (F0 mt 4 ls []) := by
    intro f4
    induction f4 with
    | zero => intro i h1 h2; exact absurd h1 (by omega)
    | succ f4 ih4 =>
      intro i hf4 hi4   H locs hP hS ls hl
      have hD : va_D (mA b) (mW k b n m fr to w th be oe al pa bo rl ra (fl mb1 i mo)) := mW_D ha
      refine lv_iload_n hx hb dX4_isFree_4 rfl (lv_at hl 2 rfl) ?_
      refine lv_aload_n hx hb dX4_isFree_5 rfl (lv_at hl 0 rfl) ?_
      refine va_get (D := D) (ci := 4) (v := .int (nI n)) (C := RX4) (T := TX4) (N := 14) hx hb hts i4 hown hK hP 0 rfl rfl 0 (by decide) (hts (.fieldLink RX4 45 "SignedPathsModel" "n" "I") (by decide +kernel)) (fun _ h9 => h9) rfl dX4_isFree_6 ?_
      refine lv_bipush (v := nI 12) hx hb dX4_isFree_9 (by decide) ?_
      refine rn_imul hx hb  dX4_isFree_11 ?_
      refine rn_icmp_ge (tgt := 30) hx hb dX4_isFree_12 (by decide) (by omega) (by omega) (fun c12 => ?_) (fun c12 => ?_)
      · refine lv_iconst (v := nI 0) hx hb dX4_isFree_30 (by decide) ?_
        refine lv_istore_n (lv' := [(2, .int (nI 0)), (0, .ref (b 0)), (1, .int (bI true))]) hx hb dX4_isFree_31 rfl hl (by decide) rfl (fun ls hl => ?_)
        have key32 : ∀ (f32 i : Nat), m + 1 ≤ i + f32 → i ≤ m → ∀ (H : Heap) (locs : List Loc), va_P D vwCl (mW k b n m fr to w th be oe al pa bo rl ra (fl (mb2 fr to w th) i (fl mb1 (n * 12) mo))) H → va_S (mA b) s.heap H locs → ∀ (ls : Array Slot), lv_has ls 9 [(0, .ref (b 0)), (1, .int (bI true)), (2, .int (nI i))] → W p l e (headSpec wsX4_isFree { frames := 0, cells := 0, slots := 0, locals := 0 }).room s mt ([.ref (b 0)] : List Value).toArray below meth c H locs 0 0 Q (F0 mt 32 ls []) := by
          intro f32
          induction f32 with
          | zero => intro i h1 h2; exact absurd h1 (by omega)
          | succ f32 ih32 =>
            intro i hf32 hi32   H locs hP hS ls hl
            have hD : va_D (mA b) (mW k b n m fr to w th be oe al pa bo rl ra (fl (mb2 fr to w th) i (fl mb1 (n * 12) mo))) := mW_D ha
            refine lv_iload_n hx hb dX4_isFree_32 rfl (lv_at hl 2 rfl) ?_
            refine lv_aload_n hx hb dX4_isFree_33 rfl (lv_at hl 0 rfl) ?_
            refine va_get (D := D) (ci := 4) (v := .int (nI m)) (C := RX4) (T := TX4) (N := 14) hx hb hts i4 hown hK hP 0 rfl rfl 1 (by decide) (hts (.fieldLink RX4 53 "SignedPathsModel" "arcs" "I") (by decide +kernel)) (fun _ h9 => h9) rfl dX4_isFree_34 ?_
            refine rn_icmp_ge (tgt := 116) hx hb dX4_isFree_37 (by decide) (by omega) (by omega) (fun c37 => ?_) (fun c37 => ?_)
            · refine lv_iconst (v := nI 0) hx hb dX4_isFree_116 (by decide) ?_
              refine lv_istore_n (lv' := [(2, .int (nI 0)), (0, .ref (b 0)), (1, .int (bI true))]) hx hb dX4_isFree_117 rfl hl (by decide) rfl (fun ls hl => ?_)
              have key118 : ∀ (f118 i : Nat), n + 1 ≤ i + f118 → i ≤ n → ∀ (H : Heap) (locs : List Loc), va_P D vwCl (mW k b n m fr to w th be oe al pa bo rl ra ((frS n m fr to w th mo i).2)) H → va_S (mA b) s.heap H locs → ∀ (ls : Array Slot), lv_has ls 9 [(0, .ref (b 0)), (1, .int (bI ((frS n m fr to w th mo i).1))), (2, .int (nI i))] → W p l e (headSpec wsX4_isFree { frames := 0, cells := 0, slots := 0, locals := 0 }).room s mt ([.ref (b 0)] : List Value).toArray below meth c H locs 0 0 Q (F0 mt 118 ls []) := by
                intro f118
                induction f118 with
                | zero => intro i h1 h2; exact absurd h1 (by omega)
                | succ f118 ih118 =>
                  intro i hf118 hi118   H locs hP hS ls hl
                  have hD : va_D (mA b) (mW k b n m fr to w th be oe al pa bo rl ra ((frS n m fr to w th mo i).2)) := mW_D ha
                  refine lv_iload_n hx hb dX4_isFree_118 rfl (lv_at hl 2 rfl) ?_
                  refine lv_aload_n hx hb dX4_isFree_119 rfl (lv_at hl 0 rfl) ?_
                  refine va_get (D := D) (ci := 4) (v := .int (nI n)) (C := RX4) (T := TX4) (N := 14) hx hb hts i4 hown hK hP 0 rfl rfl 0 (by decide) (hts (.fieldLink RX4 45 "SignedPathsModel" "n" "I") (by decide +kernel)) (fun _ h9 => h9) rfl dX4_isFree_120 ?_
                  refine rn_icmp_ge (tgt := 296) hx hb dX4_isFree_123 (by decide) (by omega) (by omega) (fun c123 => ?_) (fun c123 => ?_)
                  · refine lv_iconst (v := nI 0) hx hb dX4_isFree_296 (by decide) ?_
                    refine lv_istore_n (lv' := [(2, .int (nI 0)), (0, .ref (b 0)), (1, .int (bI ((frS n m fr to w th mo i).1)))]) hx hb dX4_isFree_297 rfl hl (by decide) rfl (fun ls hl => ?_)
                    have key298 : ∀ (f298 x : Nat), n + 1 ≤ x + f298 → x ≤ n → ∀ (H : Heap) (locs : List Loc), va_P D vwCl (mW k b n m fr to w th be oe al pa bo rl ra ((frS n m fr to w th mo n).2)) H → va_S (mA b) s.heap H locs → ∀ (ls : Array Slot), lv_has ls 9 [(0, .ref (b 0)), (1, .int (bI (aaF (frS n m fr to w th mo n).1 (dgP (frS n m fr to w th mo n).2) x))), (2, .int (nI x))] → W p l e (headSpec wsX4_isFree { frames := 0, cells := 0, slots := 0, locals := 0 }).room s mt ([.ref (b 0)] : List Value).toArray below meth c H locs 0 0 Q (F0 mt 298 ls []) := by
                      intro f298
                      induction f298 with
                      | zero => intro x h1 h2; exact absurd h1 (by omega)
                      | succ f298 ih298 =>
                        intro x hf298 hi298   H locs hP hS ls hl
                        have hD : va_D (mA b) (mW k b n m fr to w th be oe al pa bo rl ra ((frS n m fr to w th mo n).2)) := mW_D ha
                        refine lv_iload_n hx hb dX4_isFree_298 rfl (lv_at hl 2 rfl) ?_
                        refine lv_aload_n hx hb dX4_isFree_299 rfl (lv_at hl 0 rfl) ?_
                        refine va_get (D := D) (ci := 4) (v := .int (nI n)) (C := RX4) (T := TX4) (N := 14) hx hb hts i4 hown hK hP 0 rfl rfl 0 (by decide) (hts (.fieldLink RX4 45 "SignedPathsModel" "n" "I") (by decide +kernel)) (fun _ h9 => h9) rfl dX4_isFree_300 ?_
                        refine rn_icmp_ge (tgt := 340) hx hb dX4_isFree_303 (by decide) (by omega) (by omega) (fun c303 => ?_) (fun c303 => ?_)
                        · refine lv_iload_n hx hb dX4_isFree_340 rfl (lv_at hl 1 rfl) ?_
                          rw [hQ]
                          exact W.zret (v := bI (aaF (frS n m fr to w th mo n).1 (dgP (frS n m fr to w th mo n).2) x)) hx hb hr (bI_n2 _) (fun t ht hW => ⟨⟨_, _, rfl, ⟨rfl, (by have e : x = n := (by omega); rw [e]; rfl)⟩, by show va_P D vwCl (mW k b n m fr to w th be oe al pa bo rl ra (frM n m fr to w th mo)) t.heap; rw [ht]; exact hP⟩, hS.F ht⟩) hS.2.2 dX4_isFree_341
                        · refine lv_iload_n hx hb dX4_isFree_306 rfl (lv_at hl 1 rfl) ?_
                          refine rn_ifeqb (tgt := 332) hx hb dX4_isFree_307 (by decide) (fun c307 => ?_) (fun c307 => ?_)
                          · refine lv_iconst (v := bI false) hx hb dX4_isFree_332 (by decide) ?_
                            refine lv_istore_n (lv' := [(1, .int (bI false)), (0, .ref (b 0)), (2, .int (nI x))]) hx hb dX4_isFree_333 rfl hl (by decide) rfl (fun ls hl => ?_)
                            refine lv_iinc (v := nI (x + 1)) (lv' := [(2, .int (nI (x + 1))), (1, .int (bI false)), (0, .ref (b 0))]) hx hb dX4_isFree_334 hl (k := 2) rfl (nI_1 x) (by decide) rfl (fun ls hl => ?_)
                            refine lv_goto (tgt := 298) hx hb dX4_isFree_337 (by decide) ?_
                            have aaq : aaF (frS n m fr to w th mo n).1 (dgP (frS n m fr to w th mo n).2) (x + 1) = false := by simp [aaF, c307]
                            exact ih298 (x + 1) (by omega) (by omega)  _ _ (hP) hS ls (lv_sub hl [2, 1, 0] (by rw [aaq]; rfl))
                          · refine lv_aload_n hx hb dX4_isFree_310 rfl (lv_at hl 0 rfl) ?_
                            refine va_get (D := D) (ci := 4) (v := .ref (b 11)) (C := RX4) (T := TX4) (N := 14) hx hb hts i4 hown hK hP 0 rfl rfl 13 (by decide) (hts (.fieldLink RX4 42 "SignedPathsModel" "most" "[J") (by decide +kernel)) (fun _ h9 => h9) rfl dX4_isFree_311 ?_
                            refine lv_bipush (v := nI 12) hx hb dX4_isFree_314 (by decide) ?_
                            refine lv_iload_n hx hb dX4_isFree_316 rfl (lv_at hl 2 rfl) ?_
                            refine rn_imul hx hb  dX4_isFree_317 ?_
                            refine lv_iload_n hx hb dX4_isFree_318 rfl (lv_at hl 2 rfl) ?_
                            refine rn_iadd hx hb  dX4_isFree_319 ?_
                            refine rn_lald (v := ((frS n m fr to w th mo n).2) ((12 * x) + x)) hx hb hK hP 11 3 rfl rfl (by omega) (by decide) rfl dX4_isFree_320 ?_
                            refine lv_ldc2 (v := (-1000000000000)) hx hb hown (hts (.constantLong RX4 70 (-1000000000000)) (by decide +kernel)) dX4_isFree_321 ?_
                            refine rn_lcmp_gt (tgt := 332) hx hb dX4_isFree_324 dX4_isFree_325 (by decide) (fun c324 => ?_) (fun c324 => ?_)
                            · refine lv_iconst (v := bI false) hx hb dX4_isFree_332 (by decide) ?_
                              refine lv_istore_n (lv' := [(1, .int (bI false)), (0, .ref (b 0)), (2, .int (nI x))]) hx hb dX4_isFree_333 rfl hl (by decide) rfl (fun ls hl => ?_)
                              refine lv_iinc (v := nI (x + 1)) (lv' := [(2, .int (nI (x + 1))), (1, .int (bI false)), (0, .ref (b 0))]) hx hb dX4_isFree_334 hl (k := 2) rfl (nI_1 x) (by decide) rfl (fun ls hl => ?_)
                              refine lv_goto (tgt := 298) hx hb dX4_isFree_337 (by decide) ?_
                              have aaq : aaF (frS n m fr to w th mo n).1 (dgP (frS n m fr to w th mo n).2) (x + 1) = false := by simp [aaF, c307, dgP, c324]
                              exact ih298 (x + 1) (by omega) (by omega)  _ _ (hP) hS ls (lv_sub hl [2, 1, 0] (by rw [aaq]; rfl))
                            · refine lv_iconst (v := bI true) hx hb dX4_isFree_328 (by decide) ?_
                              refine lv_goto (tgt := 333) hx hb dX4_isFree_329 (by decide) ?_
                              refine lv_istore_n (lv' := [(1, .int (bI true)), (0, .ref (b 0)), (2, .int (nI x))]) hx hb dX4_isFree_333 rfl hl (by decide) rfl (fun ls hl => ?_)
                              refine lv_iinc (v := nI (x + 1)) (lv' := [(2, .int (nI (x + 1))), (1, .int (bI true)), (0, .ref (b 0))]) hx hb dX4_isFree_334 hl (k := 2) rfl (nI_1 x) (by decide) rfl (fun ls hl => ?_)
                              refine lv_goto (tgt := 298) hx hb dX4_isFree_337 (by decide) ?_
                              have aaq : aaF (frS n m fr to w th mo n).1 (dgP (frS n m fr to w th mo n).2) (x + 1) = true := by simp [aaF, c307, dgP, Int64.not_lt.mp c324]
                              exact ih298 (x + 1) (by omega) (by omega)  _ _ (hP) hS ls (lv_sub hl [2, 1, 0] (by rw [aaq]; rfl))
                    exact key298 (n + 1) 0 (by omega) (by omega)  _ _ (by have e : i = n := (by omega); rw [e] at hP; exact hP) hS ls (lv_sub hl [1, 2, 0] (by rw [show i = n by omega]; rfl))
                  · refine lv_iload_n hx hb dX4_isFree_126 rfl (lv_at hl 1 rfl) ?_
                    refine rn_ifeqb (tgt := 152) hx hb dX4_isFree_127 (by decide) (fun c127 => ?_) (fun c127 => ?_)
                    · refine lv_iconst (v := bI false) hx hb dX4_isFree_152 (by decide) ?_
                      refine lv_istore_n (lv' := [(1, .int (bI false)), (0, .ref (b 0)), (2, .int (nI i))]) hx hb dX4_isFree_153 rfl hl (by decide) rfl (fun ls hl => ?_)
                      refine lv_iconst (v := nI 0) hx hb dX4_isFree_154 (by decide) ?_
                      refine lv_istore_n (lv' := [(3, .int (nI 0)), (1, .int (bI false)), (0, .ref (b 0)), (2, .int (nI i))]) hx hb dX4_isFree_155 rfl hl (by decide) rfl (fun ls hl => ?_)
                      have key156 : ∀ (f156 u : Nat), n + 1 ≤ u + f156 → u ≤ n → ∀ (H : Heap) (locs : List Loc), va_P D vwCl (mW k b n m fr to w th be oe al pa bo rl ra ((frS n m fr to w th mo i).2)) H → va_S (mA b) s.heap H locs → ∀ (ls : Array Slot), lv_has ls 9 [(0, .ref (b 0)), (1, .int (bI false)), (2, .int (nI i)), (3, .int (nI u))] → W p l e (headSpec wsX4_isFree { frames := 0, cells := 0, slots := 0, locals := 0 }).room s mt ([.ref (b 0)] : List Value).toArray below meth c H locs 0 0 Q (F0 mt 156 ls []) := by
                        intro f156
                        induction f156 with
                        | zero => intro u h1 h2; exact absurd h1 (by omega)
                        | succ f156 ih156 =>
                          intro u hf156 hi156   H locs hP hS ls hl
                          have hD : va_D (mA b) (mW k b n m fr to w th be oe al pa bo rl ra ((frS n m fr to w th mo i).2)) := mW_D ha
                          refine lv_iload_n hx hb dX4_isFree_156 rfl (lv_at hl 3 rfl) ?_
                          refine lv_aload_n hx hb dX4_isFree_157 rfl (lv_at hl 0 rfl) ?_
                          refine va_get (D := D) (ci := 4) (v := .int (nI n)) (C := RX4) (T := TX4) (N := 14) hx hb hts i4 hown hK hP 0 rfl rfl 0 (by decide) (hts (.fieldLink RX4 45 "SignedPathsModel" "n" "I") (by decide +kernel)) (fun _ h9 => h9) rfl dX4_isFree_158 ?_
                          refine rn_icmp_ge (tgt := 290) hx hb dX4_isFree_161 (by decide) (by omega) (by omega) (fun c161 => ?_) (fun c161 => ?_)
                          · refine lv_iinc (v := nI (i + 1)) (lv' := [(2, .int (nI (i + 1))), (0, .ref (b 0)), (1, .int (bI false)), (3, .int (nI u))]) hx hb dX4_isFree_290 hl (k := 2) rfl (nI_1 i) (by decide) rfl (fun ls hl => ?_)
                            refine lv_goto (tgt := 118) hx hb dX4_isFree_293 (by decide) ?_
                            have frq : frS n m fr to w th mo (i + 1) = (false, (frS n m fr to w th mo i).2) := by rw [frS_s, fsS, if_neg (by simp [c127])]
                            exact ih118 (i + 1) (by omega) (by omega)  _ _ (by rw [frq]; exact hP) hS ls (lv_sub hl [1, 2, 0] (by rw [frq]; rfl))
                          · refine lv_iload_n hx hb dX4_isFree_164 rfl (lv_at hl 1 rfl) ?_
                            refine rn_ifeqb (tgt := 290) hx hb dX4_isFree_165 (by decide) (fun _ => ?_) (fun c => absurd c (by decide))
                            refine lv_iinc (v := nI (i + 1)) (lv' := [(2, .int (nI (i + 1))), (0, .ref (b 0)), (1, .int (bI false)), (3, .int (nI u))]) hx hb dX4_isFree_290 hl (k := 2) rfl (nI_1 i) (by decide) rfl (fun ls hl => ?_)
                            refine lv_goto (tgt := 118) hx hb dX4_isFree_293 (by decide) ?_
                            have frq : frS n m fr to w th mo (i + 1) = (false, (frS n m fr to w th mo i).2) := by rw [frS_s, fsS, if_neg (by simp [c127])]
                            exact ih118 (i + 1) (by omega) (by omega)  _ _ (by rw [frq]; exact hP) hS ls (lv_sub hl [1, 2, 0] (by rw [frq]; rfl))
                      exact key156 (n + 1) 0 (by omega) (by omega)  _ _ (hP) hS ls (lv_sub hl [2, 1, 3, 0] rfl)
                    · refine lv_aload_n hx hb dX4_isFree_130 rfl (lv_at hl 0 rfl) ?_
                      refine va_get (D := D) (ci := 4) (v := .ref (b 11)) (C := RX4) (T := TX4) (N := 14) hx hb hts i4 hown hK hP 0 rfl rfl 13 (by decide) (hts (.fieldLink RX4 42 "SignedPathsModel" "most" "[J") (by decide +kernel)) (fun _ h9 => h9) rfl dX4_isFree_131 ?_
                      refine lv_bipush (v := nI 12) hx hb dX4_isFree_134 (by decide) ?_
                      refine lv_iload_n hx hb dX4_isFree_136 rfl (lv_at hl 2 rfl) ?_
                      refine rn_imul hx hb  dX4_isFree_137 ?_
                      refine lv_iload_n hx hb dX4_isFree_138 rfl (lv_at hl 2 rfl) ?_
                      refine rn_iadd hx hb  dX4_isFree_139 ?_
                      refine rn_lald (v := ((frS n m fr to w th mo i).2) ((12 * i) + i)) hx hb hK hP 11 3 rfl rfl (by omega) (by decide) rfl dX4_isFree_140 ?_
                      refine lv_ldc2 (v := (-1000000000000)) hx hb hown (hts (.constantLong RX4 70 (-1000000000000)) (by decide +kernel)) dX4_isFree_141 ?_
                      refine rn_lcmp_gt (tgt := 152) hx hb dX4_isFree_144 dX4_isFree_145 (by decide) (fun c144 => ?_) (fun c144 => ?_)
                      · refine lv_iconst (v := bI false) hx hb dX4_isFree_152 (by decide) ?_
                        refine lv_istore_n (lv' := [(1, .int (bI false)), (0, .ref (b 0)), (2, .int (nI i))]) hx hb dX4_isFree_153 rfl hl (by decide) rfl (fun ls hl => ?_)
                        refine lv_iconst (v := nI 0) hx hb dX4_isFree_154 (by decide) ?_
                        refine lv_istore_n (lv' := [(3, .int (nI 0)), (1, .int (bI false)), (0, .ref (b 0)), (2, .int (nI i))]) hx hb dX4_isFree_155 rfl hl (by decide) rfl (fun ls hl => ?_)
                        have key156 : ∀ (f156 u : Nat), n + 1 ≤ u + f156 → u ≤ n → ∀ (H : Heap) (locs : List Loc), va_P D vwCl (mW k b n m fr to w th be oe al pa bo rl ra ((frS n m fr to w th mo i).2)) H → va_S (mA b) s.heap H locs → ∀ (ls : Array Slot), lv_has ls 9 [(0, .ref (b 0)), (1, .int (bI false)), (2, .int (nI i)), (3, .int (nI u))] → W p l e (headSpec wsX4_isFree { frames := 0, cells := 0, slots := 0, locals := 0 }).room s mt ([.ref (b 0)] : List Value).toArray below meth c H locs 0 0 Q (F0 mt 156 ls []) := by
                          intro f156
                          induction f156 with
                          | zero => intro u h1 h2; exact absurd h1 (by omega)
                          | succ f156 ih156 =>
                            intro u hf156 hi156   H locs hP hS ls hl
                            have hD : va_D (mA b) (mW k b n m fr to w th be oe al pa bo rl ra ((frS n m fr to w th mo i).2)) := mW_D ha
                            refine lv_iload_n hx hb dX4_isFree_156 rfl (lv_at hl 3 rfl) ?_
                            refine lv_aload_n hx hb dX4_isFree_157 rfl (lv_at hl 0 rfl) ?_
                            refine va_get (D := D) (ci := 4) (v := .int (nI n)) (C := RX4) (T := TX4) (N := 14) hx hb hts i4 hown hK hP 0 rfl rfl 0 (by decide) (hts (.fieldLink RX4 45 "SignedPathsModel" "n" "I") (by decide +kernel)) (fun _ h9 => h9) rfl dX4_isFree_158 ?_
                            refine rn_icmp_ge (tgt := 290) hx hb dX4_isFree_161 (by decide) (by omega) (by omega) (fun c161 => ?_) (fun c161 => ?_)
                            · refine lv_iinc (v := nI (i + 1)) (lv' := [(2, .int (nI (i + 1))), (0, .ref (b 0)), (1, .int (bI false)), (3, .int (nI u))]) hx hb dX4_isFree_290 hl (k := 2) rfl (nI_1 i) (by decide) rfl (fun ls hl => ?_)
                              refine lv_goto (tgt := 118) hx hb dX4_isFree_293 (by decide) ?_
                              have frq : frS n m fr to w th mo (i + 1) = (false, (frS n m fr to w th mo i).2) := by rw [frS_s, fsS, if_neg (by simp [c127, dgP, c144])]
                              exact ih118 (i + 1) (by omega) (by omega)  _ _ (by rw [frq]; exact hP) hS ls (lv_sub hl [1, 2, 0] (by rw [frq]; rfl))
                            · refine lv_iload_n hx hb dX4_isFree_164 rfl (lv_at hl 1 rfl) ?_
                              refine rn_ifeqb (tgt := 290) hx hb dX4_isFree_165 (by decide) (fun _ => ?_) (fun c => absurd c (by decide))
                              refine lv_iinc (v := nI (i + 1)) (lv' := [(2, .int (nI (i + 1))), (0, .ref (b 0)), (1, .int (bI false)), (3, .int (nI u))]) hx hb dX4_isFree_290 hl (k := 2) rfl (nI_1 i) (by decide) rfl (fun ls hl => ?_)
                              refine lv_goto (tgt := 118) hx hb dX4_isFree_293 (by decide) ?_
                              have frq : frS n m fr to w th mo (i + 1) = (false, (frS n m fr to w th mo i).2) := by rw [frS_s, fsS, if_neg (by simp [c127, dgP, c144])]
                              exact ih118 (i + 1) (by omega) (by omega)  _ _ (by rw [frq]; exact hP) hS ls (lv_sub hl [1, 2, 0] (by rw [frq]; rfl))
                        exact key156 (n + 1) 0 (by omega) (by omega)  _ _ (hP) hS ls (lv_sub hl [2, 1, 3, 0] rfl)
                      · refine lv_iconst (v := bI true) hx hb dX4_isFree_148 (by decide) ?_
                        refine lv_goto (tgt := 153) hx hb dX4_isFree_149 (by decide) ?_
                        refine lv_istore_n (lv' := [(1, .int (bI true)), (0, .ref (b 0)), (2, .int (nI i))]) hx hb dX4_isFree_153 rfl hl (by decide) rfl (fun ls hl => ?_)
                        refine lv_iconst (v := nI 0) hx hb dX4_isFree_154 (by decide) ?_
                        refine lv_istore_n (lv' := [(3, .int (nI 0)), (1, .int (bI true)), (0, .ref (b 0)), (2, .int (nI i))]) hx hb dX4_isFree_155 rfl hl (by decide) rfl (fun ls hl => ?_)
                        have key156 : ∀ (f156 u : Nat), n + 1 ≤ u + f156 → u ≤ n → ∀ (H : Heap) (locs : List Loc), va_P D vwCl (mW k b n m fr to w th be oe al pa bo rl ra (fl (mxU n i) u (frS n m fr to w th mo i).2)) H → va_S (mA b) s.heap H locs → ∀ (ls : Array Slot), lv_has ls 9 [(0, .ref (b 0)), (1, .int (bI true)), (2, .int (nI i)), (3, .int (nI u))] → W p l e (headSpec wsX4_isFree { frames := 0, cells := 0, slots := 0, locals := 0 }).room s mt ([.ref (b 0)] : List Value).toArray below meth c H locs 0 0 Q (F0 mt 156 ls []) := by
                          intro f156
                          induction f156 with
                          | zero => intro u h1 h2; exact absurd h1 (by omega)
                          | succ f156 ih156 =>
                            intro u hf156 hi156   H locs hP hS ls hl
                            have hD : va_D (mA b) (mW k b n m fr to w th be oe al pa bo rl ra (fl (mxU n i) u (frS n m fr to w th mo i).2)) := mW_D ha
                            refine lv_iload_n hx hb dX4_isFree_156 rfl (lv_at hl 3 rfl) ?_
                            refine lv_aload_n hx hb dX4_isFree_157 rfl (lv_at hl 0 rfl) ?_
                            refine va_get (D := D) (ci := 4) (v := .int (nI n)) (C := RX4) (T := TX4) (N := 14) hx hb hts i4 hown hK hP 0 rfl rfl 0 (by decide) (hts (.fieldLink RX4 45 "SignedPathsModel" "n" "I") (by decide +kernel)) (fun _ h9 => h9) rfl dX4_isFree_158 ?_
                            refine rn_icmp_ge (tgt := 290) hx hb dX4_isFree_161 (by decide) (by omega) (by omega) (fun c161 => ?_) (fun c161 => ?_)
                            · refine lv_iinc (v := nI (i + 1)) (lv' := [(2, .int (nI (i + 1))), (0, .ref (b 0)), (1, .int (bI true)), (3, .int (nI u))]) hx hb dX4_isFree_290 hl (k := 2) rfl (nI_1 i) (by decide) rfl (fun ls hl => ?_)
                              refine lv_goto (tgt := 118) hx hb dX4_isFree_293 (by decide) ?_
                              have frq : frS n m fr to w th mo (i + 1) = (true, mxM n i (frS n m fr to w th mo i).2) := by rw [frS_s, fsS, if_pos (by simp [c127, dgP, Int64.not_lt.mp c144])]
                              exact ih118 (i + 1) (by omega) (by omega)  _ _ (by rw [frq]; have e : u = n := (by omega); rw [e] at hP; exact hP) hS ls (lv_sub hl [1, 2, 0] (by rw [frq]; rfl))
                            · refine lv_iload_n hx hb dX4_isFree_164 rfl (lv_at hl 1 rfl) ?_
                              refine rn_ifeqb (tgt := 290) hx hb dX4_isFree_165 (by decide) (fun c => absurd c (by decide)) (fun _ => ?_)
                              refine lv_iconst (v := nI 0) hx hb dX4_isFree_168 (by decide) ?_
                              refine lv_istore (lv' := [(4, .int (nI 0)), (0, .ref (b 0)), (1, .int (bI true)), (2, .int (nI i)), (3, .int (nI u))]) hx hb dX4_isFree_169 hl (by decide) rfl (fun ls hl => ?_)
                              have key171 : ∀ (f171 v : Nat), n + 1 ≤ v + f171 → v ≤ n → ∀ (H : Heap) (locs : List Loc), va_P D vwCl (mW k b n m fr to w th be oe al pa bo rl ra (fl (mxS i u) v (fl (mxU n i) u (frS n m fr to w th mo i).2))) H → va_S (mA b) s.heap H locs → ∀ (ls : Array Slot), lv_has ls 9 [(0, .ref (b 0)), (1, .int (bI true)), (2, .int (nI i)), (3, .int (nI u)), (4, .int (nI v))] → W p l e (headSpec wsX4_isFree { frames := 0, cells := 0, slots := 0, locals := 0 }).room s mt ([.ref (b 0)] : List Value).toArray below meth c H locs 0 0 Q (F0 mt 171 ls []) := by
                                intro f171
                                induction f171 with
                                | zero => intro v h1 h2; exact absurd h1 (by omega)
                                | succ f171 ih171 =>
                                  intro v hf171 hi171   H locs hP hS ls hl
                                  have hD : va_D (mA b) (mW k b n m fr to w th be oe al pa bo rl ra (fl (mxS i u) v (fl (mxU n i) u (frS n m fr to w th mo i).2))) := mW_D ha
                                  refine lv_iload hx hb dX4_isFree_171 (lv_at hl 4 rfl) ?_
                                  refine lv_aload_n hx hb dX4_isFree_173 rfl (lv_at hl 0 rfl) ?_
                                  refine va_get (D := D) (ci := 4) (v := .int (nI n)) (C := RX4) (T := TX4) (N := 14) hx hb hts i4 hown hK hP 0 rfl rfl 0 (by decide) (hts (.fieldLink RX4 45 "SignedPathsModel" "n" "I") (by decide +kernel)) (fun _ h9 => h9) rfl dX4_isFree_174 ?_
                                  refine rn_icmp_ge (tgt := 284) hx hb dX4_isFree_177 (by decide) (by omega) (by omega) (fun c177 => ?_) (fun c177 => ?_)
                                  · refine lv_iinc (v := nI (u + 1)) (lv' := [(3, .int (nI (u + 1))), (0, .ref (b 0)), (1, .int (bI true)), (2, .int (nI i)), (4, .int (nI v))]) hx hb dX4_isFree_284 hl (k := 3) rfl (nI_1 u) (by decide) rfl (fun ls hl => ?_)
                                    refine lv_goto (tgt := 156) hx hb dX4_isFree_287 (by decide) ?_
                                    exact ih156 (u + 1) (by omega) (by omega)  _ _ (by have e : v = n := (by omega); rw [e] at hP; exact hP) hS ls (lv_sub hl [1, 2, 3, 0] rfl)
                                  · refine lv_aload_n hx hb dX4_isFree_180 rfl (lv_at hl 0 rfl) ?_
                                    refine va_get (D := D) (ci := 4) (v := .ref (b 11)) (C := RX4) (T := TX4) (N := 14) hx hb hts i4 hown hK hP 0 rfl rfl 13 (by decide) (hts (.fieldLink RX4 42 "SignedPathsModel" "most" "[J") (by decide +kernel)) (fun _ h9 => h9) rfl dX4_isFree_181 ?_
                                    refine lv_bipush (v := nI 12) hx hb dX4_isFree_184 (by decide) ?_
                                    refine lv_iload_n hx hb dX4_isFree_186 rfl (lv_at hl 3 rfl) ?_
                                    refine rn_imul hx hb  dX4_isFree_187 ?_
                                    refine lv_iload_n hx hb dX4_isFree_188 rfl (lv_at hl 2 rfl) ?_
                                    refine rn_iadd hx hb  dX4_isFree_189 ?_
                                    refine rn_lald (v := (fl (mxS i u) v (fl (mxU n i) u (frS n m fr to w th mo i).2)) ((12 * u) + i)) hx hb hK hP 11 3 rfl rfl (by omega) (by decide) rfl dX4_isFree_190 ?_
                                    refine lv_lstore (lv' := [(5, .long ((fl (mxS i u) v (fl (mxU n i) u (frS n m fr to w th mo i).2)) ((12 * u) + i))), (0, .ref (b 0)), (1, .int (bI true)), (2, .int (nI i)), (3, .int (nI u)), (4, .int (nI v))]) hx hb dX4_isFree_191 hl (by decide) rfl (fun ls hl => ?_)
                                    refine lv_aload_n hx hb dX4_isFree_193 rfl (lv_at hl 1 rfl) ?_
                                    refine va_get (D := D) (ci := 4) (v := .ref (b 11)) (C := RX4) (T := TX4) (N := 14) hx hb hts i4 hown hK hP 0 rfl rfl 13 (by decide) (hts (.fieldLink RX4 42 "SignedPathsModel" "most" "[J") (by decide +kernel)) (fun _ h9 => h9) rfl dX4_isFree_194 ?_
                                    refine lv_bipush (v := nI 12) hx hb dX4_isFree_197 (by decide) ?_
                                    refine lv_iload_n hx hb dX4_isFree_199 rfl (lv_at hl 3 rfl) ?_
                                    refine rn_imul hx hb  dX4_isFree_200 ?_
                                    refine lv_iload hx hb dX4_isFree_201 (lv_at hl 5 rfl) ?_
                                    refine rn_iadd hx hb  dX4_isFree_203 ?_
                                    refine rn_lald (v := (fl (mxS i u) v (fl (mxU n i) u (frS n m fr to w th mo i).2)) ((12 * i) + v)) hx hb hK hP 11 3 rfl rfl (by omega) (by decide) rfl dX4_isFree_204 ?_
                                    refine lv_lstore (lv' := [(7, .long ((fl (mxS i u) v (fl (mxU n i) u (frS n m fr to w th mo i).2)) ((12 * i) + v))), (5, .long ((fl (mxS i u) v (fl (mxU n i) u (frS n m fr to w th mo i).2)) ((12 * u) + i))), (0, .ref (b 0)), (1, .int (bI true)), (2, .int (nI i)), (3, .int (nI u)), (4, .int (nI v))]) hx hb dX4_isFree_205 hl (by decide) rfl (fun ls hl => ?_)
                                    refine lv_aload_n hx hb dX4_isFree_207 rfl (lv_at hl 2 rfl) ?_
                                    refine va_get (D := D) (ci := 4) (v := .ref (b 11)) (C := RX4) (T := TX4) (N := 14) hx hb hts i4 hown hK hP 0 rfl rfl 13 (by decide) (hts (.fieldLink RX4 42 "SignedPathsModel" "most" "[J") (by decide +kernel)) (fun _ h9 => h9) rfl dX4_isFree_208 ?_
                                    refine lv_bipush (v := nI 12) hx hb dX4_isFree_211 (by decide) ?_
                                    refine lv_iload_n hx hb dX4_isFree_213 rfl (lv_at hl 5 rfl) ?_
                                    refine rn_imul hx hb  dX4_isFree_214 ?_
                                    refine lv_iload hx hb dX4_isFree_215 (lv_at hl 6 rfl) ?_
                                    refine rn_iadd hx hb  dX4_isFree_217 ?_
                                    refine lv_lload hx hb dX4_isFree_218 (lv_at hl 1 rfl) ?_
                                    refine lv_ldc2 (v := (-1000000000000)) hx hb hown (hts (.constantLong RX4 70 (-1000000000000)) (by decide +kernel)) dX4_isFree_220 ?_
                                    refine rn_lcmp_le (tgt := 265) hx hb dX4_isFree_223 dX4_isFree_224 (by decide) (fun c223 => ?_) (fun c223 => ?_)
                                    · refine lv_aload_n hx hb dX4_isFree_265 rfl (lv_at hl 2 rfl) ?_
                                      refine va_get (D := D) (ci := 4) (v := .ref (b 11)) (C := RX4) (T := TX4) (N := 14) hx hb hts i4 hown hK hP 0 rfl rfl 13 (by decide) (hts (.fieldLink RX4 42 "SignedPathsModel" "most" "[J") (by decide +kernel)) (fun _ h9 => h9) rfl dX4_isFree_266 ?_
                                      refine lv_bipush (v := nI 12) hx hb dX4_isFree_269 (by decide) ?_
                                      refine lv_iload_n hx hb dX4_isFree_271 rfl (lv_at hl 5 rfl) ?_
                                      refine rn_imul hx hb  dX4_isFree_272 ?_
                                      refine lv_iload hx hb dX4_isFree_273 (lv_at hl 6 rfl) ?_
                                      refine rn_iadd hx hb  dX4_isFree_275 ?_
                                      refine rn_lald (v := (fl (mxS i u) v (fl (mxU n i) u (frS n m fr to w th mo i).2)) ((12 * u) + v)) hx hb hK hP 11 3 rfl rfl (by omega) (by decide) rfl dX4_isFree_276 ?_
                                      refine rn_last (ws' := mW k b n m fr to w th be oe al pa bo rl ra (va_up (fl (mxS i u) v (fl (mxU n i) u (frS n m fr to w th mo i).2)) ((12 * u) + v) ((fl (mxS i u) v (fl (mxU n i) u (frS n m fr to w th mo i).2)) ((12 * u) + v)))) hx hb hK hP hD hS 11 3 rfl rfl (by omega) (by decide) rfl dX4_isFree_277 (fun H locs hP hD hS => ?_)
                                      refine lv_iinc (v := nI (v + 1)) (lv' := [(4, .int (nI (v + 1))), (7, .long ((fl (mxS i u) v (fl (mxU n i) u (frS n m fr to w th mo i).2)) ((12 * i) + v))), (5, .long ((fl (mxS i u) v (fl (mxU n i) u (frS n m fr to w th mo i).2)) ((12 * u) + i))), (0, .ref (b 0)), (1, .int (bI true)), (2, .int (nI i)), (3, .int (nI u))]) hx hb dX4_isFree_278 hl (k := 6) rfl (nI_1 v) (by decide) rfl (fun ls hl => ?_)
                                      refine lv_goto (tgt := 171) hx hb dX4_isFree_281 (by decide) ?_
                                      exact ih171 (v + 1) (by omega) (by omega)  _ _ (by rw [fl_s, mxS, mxV, if_pos c223]; exact hP) hS ls (lv_sub hl [3, 4, 5, 6, 0] rfl)
                                    · refine lv_lload hx hb dX4_isFree_227 (lv_at hl 0 rfl) ?_
                                      refine lv_ldc2 (v := (-1000000000000)) hx hb hown (hts (.constantLong RX4 70 (-1000000000000)) (by decide +kernel)) dX4_isFree_229 ?_
                                      refine rn_lcmp_le (tgt := 265) hx hb dX4_isFree_232 dX4_isFree_233 (by decide) (fun c232 => ?_) (fun c232 => ?_)
                                      · refine lv_aload_n hx hb dX4_isFree_265 rfl (lv_at hl 2 rfl) ?_
                                        refine va_get (D := D) (ci := 4) (v := .ref (b 11)) (C := RX4) (T := TX4) (N := 14) hx hb hts i4 hown hK hP 0 rfl rfl 13 (by decide) (hts (.fieldLink RX4 42 "SignedPathsModel" "most" "[J") (by decide +kernel)) (fun _ h9 => h9) rfl dX4_isFree_266 ?_
                                        refine lv_bipush (v := nI 12) hx hb dX4_isFree_269 (by decide) ?_
                                        refine lv_iload_n hx hb dX4_isFree_271 rfl (lv_at hl 5 rfl) ?_
                                        refine rn_imul hx hb  dX4_isFree_272 ?_
                                        refine lv_iload hx hb dX4_isFree_273 (lv_at hl 6 rfl) ?_
                                        refine rn_iadd hx hb  dX4_isFree_275 ?_
                                        refine rn_lald (v := (fl (mxS i u) v (fl (mxU n i) u (frS n m fr to w th mo i).2)) ((12 * u) + v)) hx hb hK hP 11 3 rfl rfl (by omega) (by decide) rfl dX4_isFree_276 ?_
                                        refine rn_last (ws' := mW k b n m fr to w th be oe al pa bo rl ra (va_up (fl (mxS i u) v (fl (mxU n i) u (frS n m fr to w th mo i).2)) ((12 * u) + v) ((fl (mxS i u) v (fl (mxU n i) u (frS n m fr to w th mo i).2)) ((12 * u) + v)))) hx hb hK hP hD hS 11 3 rfl rfl (by omega) (by decide) rfl dX4_isFree_277 (fun H locs hP hD hS => ?_)
                                        refine lv_iinc (v := nI (v + 1)) (lv' := [(4, .int (nI (v + 1))), (7, .long ((fl (mxS i u) v (fl (mxU n i) u (frS n m fr to w th mo i).2)) ((12 * i) + v))), (5, .long ((fl (mxS i u) v (fl (mxU n i) u (frS n m fr to w th mo i).2)) ((12 * u) + i))), (0, .ref (b 0)), (1, .int (bI true)), (2, .int (nI i)), (3, .int (nI u))]) hx hb dX4_isFree_278 hl (k := 6) rfl (nI_1 v) (by decide) rfl (fun ls hl => ?_)
                                        refine lv_goto (tgt := 171) hx hb dX4_isFree_281 (by decide) ?_
                                        exact ih171 (v + 1) (by omega) (by omega)  _ _ (by rw [fl_s, mxS, mxV, if_neg c223, if_pos c232]; exact hP) hS ls (lv_sub hl [3, 4, 5, 6, 0] rfl)
                                      · refine lv_lload hx hb dX4_isFree_236 (lv_at hl 1 rfl) ?_
                                        refine lv_lload hx hb dX4_isFree_238 (lv_at hl 0 rfl) ?_
                                        refine lv_ladd hx hb dX4_isFree_240  ?_
                                        refine lv_aload_n hx hb dX4_isFree_241 rfl (lv_at hl 2 rfl) ?_
                                        refine va_get (D := D) (ci := 4) (v := .ref (b 11)) (C := RX4) (T := TX4) (N := 14) hx hb hts i4 hown hK hP 0 rfl rfl 13 (by decide) (hts (.fieldLink RX4 42 "SignedPathsModel" "most" "[J") (by decide +kernel)) (fun _ h9 => h9) rfl dX4_isFree_242 ?_
                                        refine lv_bipush (v := nI 12) hx hb dX4_isFree_245 (by decide) ?_
                                        refine lv_iload_n hx hb dX4_isFree_247 rfl (lv_at hl 5 rfl) ?_
                                        refine rn_imul hx hb  dX4_isFree_248 ?_
                                        refine lv_iload hx hb dX4_isFree_249 (lv_at hl 6 rfl) ?_
                                        refine rn_iadd hx hb  dX4_isFree_251 ?_
                                        refine rn_lald (v := (fl (mxS i u) v (fl (mxU n i) u (frS n m fr to w th mo i).2)) ((12 * u) + v)) hx hb hK hP 11 3 rfl rfl (by omega) (by decide) rfl dX4_isFree_252 ?_
                                        refine rn_lcmp_le (tgt := 265) hx hb dX4_isFree_253 dX4_isFree_254 (by decide) (fun c253 => ?_) (fun c253 => ?_)
                                        · refine lv_aload_n hx hb dX4_isFree_265 rfl (lv_at hl 2 rfl) ?_
                                          refine va_get (D := D) (ci := 4) (v := .ref (b 11)) (C := RX4) (T := TX4) (N := 14) hx hb hts i4 hown hK hP 0 rfl rfl 13 (by decide) (hts (.fieldLink RX4 42 "SignedPathsModel" "most" "[J") (by decide +kernel)) (fun _ h9 => h9) rfl dX4_isFree_266 ?_
                                          refine lv_bipush (v := nI 12) hx hb dX4_isFree_269 (by decide) ?_
                                          refine lv_iload_n hx hb dX4_isFree_271 rfl (lv_at hl 5 rfl) ?_
                                          refine rn_imul hx hb  dX4_isFree_272 ?_
                                          refine lv_iload hx hb dX4_isFree_273 (lv_at hl 6 rfl) ?_
                                          refine rn_iadd hx hb  dX4_isFree_275 ?_
                                          refine rn_lald (v := (fl (mxS i u) v (fl (mxU n i) u (frS n m fr to w th mo i).2)) ((12 * u) + v)) hx hb hK hP 11 3 rfl rfl (by omega) (by decide) rfl dX4_isFree_276 ?_
                                          refine rn_last (ws' := mW k b n m fr to w th be oe al pa bo rl ra (va_up (fl (mxS i u) v (fl (mxU n i) u (frS n m fr to w th mo i).2)) ((12 * u) + v) ((fl (mxS i u) v (fl (mxU n i) u (frS n m fr to w th mo i).2)) ((12 * u) + v)))) hx hb hK hP hD hS 11 3 rfl rfl (by omega) (by decide) rfl dX4_isFree_277 (fun H locs hP hD hS => ?_)
                                          refine lv_iinc (v := nI (v + 1)) (lv' := [(4, .int (nI (v + 1))), (7, .long ((fl (mxS i u) v (fl (mxU n i) u (frS n m fr to w th mo i).2)) ((12 * i) + v))), (5, .long ((fl (mxS i u) v (fl (mxU n i) u (frS n m fr to w th mo i).2)) ((12 * u) + i))), (0, .ref (b 0)), (1, .int (bI true)), (2, .int (nI i)), (3, .int (nI u))]) hx hb dX4_isFree_278 hl (k := 6) rfl (nI_1 v) (by decide) rfl (fun ls hl => ?_)
                                          refine lv_goto (tgt := 171) hx hb dX4_isFree_281 (by decide) ?_
                                          exact ih171 (v + 1) (by omega) (by omega)  _ _ (by rw [fl_s, mxS, mxV, if_neg c223, if_neg c232, if_pos c253]; exact hP) hS ls (lv_sub hl [3, 4, 5, 6, 0] rfl)
                                        · refine lv_lload hx hb dX4_isFree_257 (lv_at hl 1 rfl) ?_
                                          refine lv_lload hx hb dX4_isFree_259 (lv_at hl 0 rfl) ?_
                                          refine lv_ladd hx hb dX4_isFree_261  ?_
                                          refine lv_goto (tgt := 277) hx hb dX4_isFree_262 (by decide) ?_
                                          refine rn_last (ws' := mW k b n m fr to w th be oe al pa bo rl ra (va_up (fl (mxS i u) v (fl (mxU n i) u (frS n m fr to w th mo i).2)) ((12 * u) + v) (((fl (mxS i u) v (fl (mxU n i) u (frS n m fr to w th mo i).2)) ((12 * u) + i)) + ((fl (mxS i u) v (fl (mxU n i) u (frS n m fr to w th mo i).2)) ((12 * i) + v))))) hx hb hK hP hD hS 11 3 rfl rfl (by omega) (by decide) rfl dX4_isFree_277 (fun H locs hP hD hS => ?_)
                                          refine lv_iinc (v := nI (v + 1)) (lv' := [(4, .int (nI (v + 1))), (7, .long ((fl (mxS i u) v (fl (mxU n i) u (frS n m fr to w th mo i).2)) ((12 * i) + v))), (5, .long ((fl (mxS i u) v (fl (mxU n i) u (frS n m fr to w th mo i).2)) ((12 * u) + i))), (0, .ref (b 0)), (1, .int (bI true)), (2, .int (nI i)), (3, .int (nI u))]) hx hb dX4_isFree_278 hl (k := 6) rfl (nI_1 v) (by decide) rfl (fun ls hl => ?_)
                                          refine lv_goto (tgt := 171) hx hb dX4_isFree_281 (by decide) ?_
                                          exact ih171 (v + 1) (by omega) (by omega)  _ _ (by rw [fl_s, mxS, mxV, if_neg c223, if_neg c232, if_neg c253]; exact hP) hS ls (lv_sub hl [3, 4, 5, 6, 0] rfl)
                              exact key171 (n + 1) 0 (by omega) (by omega)  _ _ (hP) hS ls (lv_sub hl [1, 2, 3, 4, 0] rfl)
                        exact key156 (n + 1) 0 (by omega) (by omega)  _ _ (hP) hS ls (lv_sub hl [2, 1, 3, 0] rfl)
              exact key118 (n + 1) 0 (by omega) (by omega)  _ _ (by have e : i = m := (by omega); rw [e] at hP; exact hP) hS ls (lv_sub hl [1, 2, 0] rfl)
            · have hi2 := hft i c37
              refine lv_bipush (v := nI 12) hx hb dX4_isFree_40 (by decide) ?_
              refine lv_aload_n hx hb dX4_isFree_42 rfl (lv_at hl 0 rfl) ?_
              refine va_get (D := D) (ci := 4) (v := .ref (b 1)) (C := RX4) (T := TX4) (N := 14) hx hb hts i4 hown hK hP 0 rfl rfl 2 (by decide) (hts (.fieldLink RX4 7 "SignedPathsModel" "from" "[I") (by decide +kernel)) (fun _ h9 => h9) rfl dX4_isFree_43 ?_
              refine lv_iload_n hx hb dX4_isFree_46 rfl (lv_at hl 2 rfl) ?_
              refine rn_iald (v := nI (fr i)) hx hb hK hP 1 0 rfl rfl (by omega) (by decide) rfl dX4_isFree_47 ?_
              refine rn_imul hx hb  dX4_isFree_48 ?_
              refine lv_aload_n hx hb dX4_isFree_49 rfl (lv_at hl 0 rfl) ?_
              refine va_get (D := D) (ci := 4) (v := .ref (b 2)) (C := RX4) (T := TX4) (N := 14) hx hb hts i4 hown hK hP 0 rfl rfl 3 (by decide) (hts (.fieldLink RX4 13 "SignedPathsModel" "to" "[I") (by decide +kernel)) (fun _ h9 => h9) rfl dX4_isFree_50 ?_
              refine lv_iload_n hx hb dX4_isFree_53 rfl (lv_at hl 2 rfl) ?_
              refine rn_iald (v := nI (to i)) hx hb hK hP 2 0 rfl rfl (by omega) (by decide) rfl dX4_isFree_54 ?_
              refine rn_iadd hx hb  dX4_isFree_55 ?_
              refine lv_istore_n (lv' := [(3, .int (nI ((12 * (fr i)) + (to i)))), (0, .ref (b 0)), (1, .int (bI true)), (2, .int (nI i))]) hx hb dX4_isFree_56 rfl hl (by decide) rfl (fun ls hl => ?_)
              refine lv_ldc2 (v := 1000) hx hb hown (hts (.constantLong RX4 68 1000) (by decide +kernel)) dX4_isFree_57 ?_
              refine lv_aload_n hx hb dX4_isFree_60 rfl (lv_at hl 1 rfl) ?_
              refine va_get (D := D) (ci := 4) (v := .ref (b 3)) (C := RX4) (T := TX4) (N := 14) hx hb hts i4 hown hK hP 0 rfl rfl 4 (by decide) (hts (.fieldLink RX4 16 "SignedPathsModel" "weight" "[I") (by decide +kernel)) (fun _ h9 => h9) rfl dX4_isFree_61 ?_
              refine lv_iload_n hx hb dX4_isFree_64 rfl (lv_at hl 3 rfl) ?_
              refine rn_iald (v := w i) hx hb hK hP 3 0 rfl rfl (by omega) (by decide) rfl dX4_isFree_65 ?_
              refine lv_i2l (v := (w i).toInt64) hx hb dX4_isFree_66 rfl ?_
              refine lv_lmul hx hb dX4_isFree_67  ?_
              refine lv_lconst (v := 1) hx hb dX4_isFree_68 (by decide) ?_
              refine lv_lsub hx hb dX4_isFree_69  ?_
              refine lv_lstore (lv' := [(4, .long ((1000 * ((w i).toInt64)) - 1)), (3, .int (nI ((12 * (fr i)) + (to i)))), (0, .ref (b 0)), (1, .int (bI true)), (2, .int (nI i))]) hx hb dX4_isFree_70 hl (by decide) rfl (fun ls hl => ?_)
              refine lv_aload_n hx hb dX4_isFree_72 rfl (lv_at hl 2 rfl) ?_
              refine va_get (D := D) (ci := 4) (v := .ref (b 11)) (C := RX4) (T := TX4) (N := 14) hx hb hts i4 hown hK hP 0 rfl rfl 13 (by decide) (hts (.fieldLink RX4 42 "SignedPathsModel" "most" "[J") (by decide +kernel)) (fun _ h9 => h9) rfl dX4_isFree_73 ?_
              refine lv_iload_n hx hb dX4_isFree_76 rfl (lv_at hl 1 rfl) ?_
              refine lv_aload_n hx hb dX4_isFree_77 rfl (lv_at hl 2 rfl) ?_
              refine va_get (D := D) (ci := 4) (v := .ref (b 4)) (C := RX4) (T := TX4) (N := 14) hx hb hts i4 hown hK hP 0 rfl rfl 5 (by decide) (hts (.fieldLink RX4 19 "SignedPathsModel" "isThere" "[Z") (by decide +kernel)) (fun _ h9 => h9) rfl dX4_isFree_78 ?_
              refine lv_iload_n hx hb dX4_isFree_81 rfl (lv_at hl 4 rfl) ?_
              refine rn_zald (v := bI (th i)) hx hb hK hP 4 1 rfl rfl (by omega) (by decide) rfl dX4_isFree_82 ?_
              refine rn_ifeqb (tgt := 103) hx hb dX4_isFree_83 (by decide) (fun c83 => ?_) (fun c83 => ?_)
              · refine lv_aload_n hx hb dX4_isFree_103 rfl (lv_at hl 2 rfl) ?_
                refine va_get (D := D) (ci := 4) (v := .ref (b 11)) (C := RX4) (T := TX4) (N := 14) hx hb hts i4 hown hK hP 0 rfl rfl 13 (by decide) (hts (.fieldLink RX4 42 "SignedPathsModel" "most" "[J") (by decide +kernel)) (fun _ h9 => h9) rfl dX4_isFree_104 ?_
                refine lv_iload_n hx hb dX4_isFree_107 rfl (lv_at hl 1 rfl) ?_
                refine rn_lald (v := (fl (mb2 fr to w th) i (fl mb1 (n * 12) mo)) ((12 * (fr i)) + (to i))) hx hb hK hP 11 3 rfl rfl (by omega) (by decide) rfl dX4_isFree_108 ?_
                refine rn_last (ws' := mW k b n m fr to w th be oe al pa bo rl ra (va_up (fl (mb2 fr to w th) i (fl mb1 (n * 12) mo)) ((12 * (fr i)) + (to i)) ((fl (mb2 fr to w th) i (fl mb1 (n * 12) mo)) ((12 * (fr i)) + (to i))))) hx hb hK hP hD hS 11 3 rfl rfl (by omega) (by decide) rfl dX4_isFree_109 (fun H locs hP hD hS => ?_)
                refine lv_iinc (v := nI (i + 1)) (lv' := [(2, .int (nI (i + 1))), (4, .long ((1000 * ((w i).toInt64)) - 1)), (3, .int (nI ((12 * (fr i)) + (to i)))), (0, .ref (b 0)), (1, .int (bI true))]) hx hb dX4_isFree_110 hl (k := 4) rfl (nI_1 i) (by decide) rfl (fun ls hl => ?_)
                refine lv_goto (tgt := 32) hx hb dX4_isFree_113 (by decide) ?_
                exact ih32 (i + 1) (by omega) (by omega)  _ _ (by rw [fl_s, mb2, if_neg (by simp [c83])]; exact hP) hS ls (lv_sub hl [3, 4, 0] rfl)
              · refine lv_lload hx hb dX4_isFree_86 (lv_at hl 0 rfl) ?_
                refine lv_aload_n hx hb dX4_isFree_88 rfl (lv_at hl 2 rfl) ?_
                refine va_get (D := D) (ci := 4) (v := .ref (b 11)) (C := RX4) (T := TX4) (N := 14) hx hb hts i4 hown hK hP 0 rfl rfl 13 (by decide) (hts (.fieldLink RX4 42 "SignedPathsModel" "most" "[J") (by decide +kernel)) (fun _ h9 => h9) rfl dX4_isFree_89 ?_
                refine lv_iload_n hx hb dX4_isFree_92 rfl (lv_at hl 1 rfl) ?_
                refine rn_lald (v := (fl (mb2 fr to w th) i (fl mb1 (n * 12) mo)) ((12 * (fr i)) + (to i))) hx hb hK hP 11 3 rfl rfl (by omega) (by decide) rfl dX4_isFree_93 ?_
                refine rn_lcmp_le (tgt := 103) hx hb dX4_isFree_94 dX4_isFree_95 (by decide) (fun c94 => ?_) (fun c94 => ?_)
                · refine lv_aload_n hx hb dX4_isFree_103 rfl (lv_at hl 2 rfl) ?_
                  refine va_get (D := D) (ci := 4) (v := .ref (b 11)) (C := RX4) (T := TX4) (N := 14) hx hb hts i4 hown hK hP 0 rfl rfl 13 (by decide) (hts (.fieldLink RX4 42 "SignedPathsModel" "most" "[J") (by decide +kernel)) (fun _ h9 => h9) rfl dX4_isFree_104 ?_
                  refine lv_iload_n hx hb dX4_isFree_107 rfl (lv_at hl 1 rfl) ?_
                  refine rn_lald (v := (fl (mb2 fr to w th) i (fl mb1 (n * 12) mo)) ((12 * (fr i)) + (to i))) hx hb hK hP 11 3 rfl rfl (by omega) (by decide) rfl dX4_isFree_108 ?_
                  refine rn_last (ws' := mW k b n m fr to w th be oe al pa bo rl ra (va_up (fl (mb2 fr to w th) i (fl mb1 (n * 12) mo)) ((12 * (fr i)) + (to i)) ((fl (mb2 fr to w th) i (fl mb1 (n * 12) mo)) ((12 * (fr i)) + (to i))))) hx hb hK hP hD hS 11 3 rfl rfl (by omega) (by decide) rfl dX4_isFree_109 (fun H locs hP hD hS => ?_)
                  refine lv_iinc (v := nI (i + 1)) (lv' := [(2, .int (nI (i + 1))), (4, .long ((1000 * ((w i).toInt64)) - 1)), (3, .int (nI ((12 * (fr i)) + (to i)))), (0, .ref (b 0)), (1, .int (bI true))]) hx hb dX4_isFree_110 hl (k := 4) rfl (nI_1 i) (by decide) rfl (fun ls hl => ?_)
                  refine lv_goto (tgt := 32) hx hb dX4_isFree_113 (by decide) ?_
                  exact ih32 (i + 1) (by omega) (by omega)  _ _ (by rw [fl_s, mb2, if_pos c83, if_pos c94]; exact hP) hS ls (lv_sub hl [3, 4, 0] rfl)
                · refine lv_lload hx hb dX4_isFree_98 (lv_at hl 0 rfl) ?_
                  refine lv_goto (tgt := 109) hx hb dX4_isFree_100 (by decide) ?_
                  refine rn_last (ws' := mW k b n m fr to w th be oe al pa bo rl ra (va_up (fl (mb2 fr to w th) i (fl mb1 (n * 12) mo)) ((12 * (fr i)) + (to i)) ((1000 * ((w i).toInt64)) - 1))) hx hb hK hP hD hS 11 3 rfl rfl (by omega) (by decide) rfl dX4_isFree_109 (fun H locs hP hD hS => ?_)
                  refine lv_iinc (v := nI (i + 1)) (lv' := [(2, .int (nI (i + 1))), (4, .long ((1000 * ((w i).toInt64)) - 1)), (3, .int (nI ((12 * (fr i)) + (to i)))), (0, .ref (b 0)), (1, .int (bI true))]) hx hb dX4_isFree_110 hl (k := 4) rfl (nI_1 i) (by decide) rfl (fun ls hl => ?_)
                  refine lv_goto (tgt := 32) hx hb dX4_isFree_113 (by decide) ?_
                  exact ih32 (i + 1) (by omega) (by omega)  _ _ (by rw [fl_s, mb2, if_pos c83, if_neg c94]; exact hP) hS ls (lv_sub hl [3, 4, 0] rfl)
        exact key32 (m + 1) 0 (by omega) (by omega)  _ _ (by have e : i = n * 12 := (by omega); rw [e] at hP; exact hP) hS ls (lv_sub hl [1, 2, 0] rfl)
      · refine lv_aload_n hx hb dX4_isFree_15 rfl (lv_at hl 0 rfl) ?_
        refine va_get (D := D) (ci := 4) (v := .ref (b 11)) (C := RX4) (T := TX4) (N := 14) hx hb hts i4 hown hK hP 0 rfl rfl 13 (by decide) (hts (.fieldLink RX4 42 "SignedPathsModel" "most" "[J") (by decide +kernel)) (fun _ h9 => h9) rfl dX4_isFree_16 ?_
        refine lv_iload_n hx hb dX4_isFree_19 rfl (lv_at hl 2 rfl) ?_
        refine lv_ldc2 (v := (-1000000000000)) hx hb hown (hts (.constantLong RX4 70 (-1000000000000)) (by decide +kernel)) dX4_isFree_20 ?_
        refine rn_last (ws' := mW k b n m fr to w th be oe al pa bo rl ra (va_up (fl mb1 i mo) i (-1000000000000))) hx hb hK hP hD hS 11 3 rfl rfl (by omega) (by decide) rfl dX4_isFree_23 (fun H locs hP hD hS => ?_)
        refine lv_iinc (v := nI (i + 1)) (lv' := [(2, .int (nI (i + 1))), (0, .ref (b 0)), (1, .int (bI true))]) hx hb dX4_isFree_24 hl (k := 2) rfl (nI_1 i) (by decide) rfl (fun ls hl => ?_)
        refine lv_goto (tgt := 4) hx hb dX4_isFree_27 (by decide) ?_
        exact ih4 (i + 1) (by omega) (by omega)  _ _ (hP) hS ls (lv_sub hl [1, 2, 0] rfl)
  exact key4 (n * 12 + 1) 0 (by omega) (by omega)  _ _ (hP) hS ls (lv_sub hl [2, 1, 0] rfl)
set_option maxHeartbeats 4000000 in
set_option maxRecDepth 100000 in
theorem c4_greatest (l : Launch) {D : va_G} {k : Nat → ClassId} {b : Nat → Nat} {n : Nat} {m : Nat} {fr : Nat → Nat} {to : Nat → Nat} {w : Nat → Int32} {th : Nat → Bool} {be : Nat → Int64} {oe : Nat → Int64} {al : Nat → Int64} {pa : Nat → Int64} {bo : Nat → Int64} {rl : Nat} {ra : Nat → Nat} {mo : Nat → Int64} (ha : inj 12 b) (x : Nat) (e1 : Bool) (hg : gOK n m fr to) (hx1 : x < 12) : Met l yX4_greatest wsX4_greatest ({ frames := 0, cells := 0, slots := 0, locals := 0 }) (gPc D k (mW k b n m fr to w th be oe al pa bo rl ra mo) [.ref (b 0), .int (nI x), .int (bI e1)]) (vp_Sl (fun r => r = gtF n mo x e1)) 0 0 nF := by
  refine Met.ofW (cc := cX4_greatest) (maxL := 8) (ret := (some .long)) (by decide) rfl ?_
  intro p e s mt args below meth c s₁ B hml hv
  obtain ⟨rfl, hP, hK⟩ := hv
  have hx := B.exec
  have hb := B.bytes
  have hr := B.returns
  have hts := atoms_spec (ws := wsX4_greatest) B.pre
  have hown : s.vm.findClass RX4 = some mt.cls := findClass_of_methodNamed B.named
  have hlocks := B.notSynchronized
  have i4 : ∀ w ∈ wsX40, w ∈ wsX4_greatest := by decide +kernel
  have hl := lv_entry ([.ref (b 0), .int (nI x), .int (bI e1)]) (n := 8) (Nat.le_of_ble_eq_true rfl)
  rw [lg_entry_eq]
  generalize (lg_sl ([.ref (b 0), .int (nI x), .int (bI e1)]) ++ List.replicate (8 - (lg_sl ([.ref (b 0), .int (nI x), .int (bI e1)])).length) Slot.unset).toArray = ls at hl ⊢
  have hl : lv_has ls 8 [(0, .ref (b 0)), (1, .int (nI x)), (2, .int (bI e1))] := hl
  obtain ⟨Q, hQ⟩ : ∃ Q, Q = MQ below (vp_Sl (fun r => r = gtF n mo x e1)) ([.ref (b 0), .int (nI x), .int (bI e1)] : List Value).toArray s 0 0 nF := ⟨_, rfl⟩
  rw [← hQ]
  obtain ⟨hn12, hm40, hft⟩ := id hg
  refine lv_lconst (v := 0) hx hb dX4_greatest_0 (by decide) ?_
  refine lv_lstore_n (lv' := [(3, .long 0), (0, .ref (b 0)), (1, .int (nI x)), (2, .int (bI e1))]) hx hb dX4_greatest_1 rfl hl (by decide) rfl (fun ls hl => ?_)
  refine lv_iconst (v := nI 0) hx hb dX4_greatest_2 (by decide) ?_
  refine lv_istore (lv' := [(5, .int (nI 0)), (3, .long 0), (0, .ref (b 0)), (1, .int (nI x)), (2, .int (bI e1))]) hx hb dX4_greatest_3 hl (by decide) rfl (fun ls hl => ?_)
  have key5 : ∀ (f5 i : Nat), n + 1 ≤ i + f5 → i ≤ n → ∀ (ls : Array Slot), lv_has ls 8 [(0, .ref (b 0)), (1, .int (nI x)), (2, .int (bI e1)), (3, .long (fl (gtS mo x e1) i 0)), (5, .int (nI i))] → W p l e (headSpec wsX4_greatest { frames := 0, cells := 0, slots := 0, locals := 0 }).room s mt ([.ref (b 0), .int (nI x), .int (bI e1)] : List Value).toArray below meth c s.heap [] 0 0 Q (F0 mt 5 ls []) := by
    intro f5
    induction f5 with
    | zero => intro i h1 h2; exact absurd h1 (by omega)
    | succ f5 ih5 =>
      intro i hf5 hi5   ls hl
      refine lv_iload hx hb dX4_greatest_5 (lv_at hl 4 rfl) ?_
      refine lv_aload_n hx hb dX4_greatest_7 rfl (lv_at hl 0 rfl) ?_
      refine va_get (D := D) (ci := 4) (v := .int (nI n)) (C := RX4) (T := TX4) (N := 14) hx hb hts i4 hown hK hP 0 rfl rfl 0 (by decide) (hts (.fieldLink RX4 45 "SignedPathsModel" "n" "I") (by decide +kernel)) (fun _ h9 => h9) rfl dX4_greatest_8 ?_
      refine rn_icmp_ge (tgt := 67) hx hb dX4_greatest_11 (by decide) (by omega) (by omega) (fun c11 => ?_) (fun c11 => ?_)
      · refine lv_lload_n hx hb dX4_greatest_67 rfl (lv_at hl 3 rfl) ?_
        rw [hQ]
        exact W.lret (v := fl (gtS mo x e1) i 0) hx hb hr (fun t ht hW => ⟨_, rfl, (by have e : i = n := (by omega); rw [e]; rfl), ht⟩) (fun q h => absurd h List.not_mem_nil) dX4_greatest_68
      · refine lv_iload_n hx hb dX4_greatest_14 rfl (lv_at hl 2 rfl) ?_
        refine rn_ifeqb (tgt := 33) hx hb dX4_greatest_15 (by decide) (fun c15 => ?_) (fun c15 => ?_)
        · refine lv_aload_n hx hb dX4_greatest_33 rfl (lv_at hl 0 rfl) ?_
          refine va_get (D := D) (ci := 4) (v := .ref (b 11)) (C := RX4) (T := TX4) (N := 14) hx hb hts i4 hown hK hP 0 rfl rfl 13 (by decide) (hts (.fieldLink RX4 42 "SignedPathsModel" "most" "[J") (by decide +kernel)) (fun _ h9 => h9) rfl dX4_greatest_34 ?_
          refine lv_bipush (v := nI 12) hx hb dX4_greatest_37 (by decide) ?_
          refine lv_iload_n hx hb dX4_greatest_39 rfl (lv_at hl 1 rfl) ?_
          refine rn_imul hx hb  dX4_greatest_40 ?_
          refine lv_iload hx hb dX4_greatest_41 (lv_at hl 4 rfl) ?_
          refine rn_iadd hx hb  dX4_greatest_43 ?_
          refine rn_lald (v := mo ((12 * x) + i)) hx hb hK hP 11 3 rfl rfl (by omega) (by decide) rfl dX4_greatest_44 ?_
          refine lv_lstore (lv' := [(6, .long (mo ((12 * x) + i))), (0, .ref (b 0)), (1, .int (nI x)), (2, .int (bI e1)), (3, .long (fl (gtS mo x e1) i 0)), (5, .int (nI i))]) hx hb dX4_greatest_45 hl (by decide) rfl (fun ls hl => ?_)
          refine lv_lload hx hb dX4_greatest_47 (lv_at hl 0 rfl) ?_
          refine lv_lload_n hx hb dX4_greatest_49 rfl (lv_at hl 4 rfl) ?_
          refine rn_lcmp_le (tgt := 59) hx hb dX4_greatest_50 dX4_greatest_51 (by decide) (fun c50 => ?_) (fun c50 => ?_)
          · refine lv_lload_n hx hb dX4_greatest_59 rfl (lv_at hl 4 rfl) ?_
            refine lv_lstore_n (lv' := [(3, .long (fl (gtS mo x e1) i 0)), (6, .long (mo ((12 * x) + i))), (0, .ref (b 0)), (1, .int (nI x)), (2, .int (bI e1)), (5, .int (nI i))]) hx hb dX4_greatest_60 rfl hl (by decide) rfl (fun ls hl => ?_)
            refine lv_iinc (v := nI (i + 1)) (lv' := [(5, .int (nI (i + 1))), (3, .long (fl (gtS mo x e1) i 0)), (6, .long (mo ((12 * x) + i))), (0, .ref (b 0)), (1, .int (nI x)), (2, .int (bI e1))]) hx hb dX4_greatest_61 hl (k := 5) rfl (nI_1 i) (by decide) rfl (fun ls hl => ?_)
            refine lv_goto (tgt := 5) hx hb dX4_greatest_64 (by decide) ?_
            have hgv : gtV mo x e1 i = mo (12 * x + i) := by rw [gtV, if_neg (by rw [c15]; decide)]
            have gtq : fl (gtS mo x e1) (i + 1) 0 = fl (gtS mo x e1) i 0 := by rw [fl_s, gtS, hgv, if_pos c50]
            exact ih5 (i + 1) (by omega) (by omega)  ls (lv_sub hl [3, 4, 5, 1, 0] (by rw [gtq]; rfl))
          · refine lv_lload hx hb dX4_greatest_54 (lv_at hl 0 rfl) ?_
            refine lv_goto (tgt := 60) hx hb dX4_greatest_56 (by decide) ?_
            refine lv_lstore_n (lv' := [(3, .long (mo ((12 * x) + i))), (6, .long (mo ((12 * x) + i))), (0, .ref (b 0)), (1, .int (nI x)), (2, .int (bI e1)), (5, .int (nI i))]) hx hb dX4_greatest_60 rfl hl (by decide) rfl (fun ls hl => ?_)
            refine lv_iinc (v := nI (i + 1)) (lv' := [(5, .int (nI (i + 1))), (3, .long (mo ((12 * x) + i))), (6, .long (mo ((12 * x) + i))), (0, .ref (b 0)), (1, .int (nI x)), (2, .int (bI e1))]) hx hb dX4_greatest_61 hl (k := 5) rfl (nI_1 i) (by decide) rfl (fun ls hl => ?_)
            refine lv_goto (tgt := 5) hx hb dX4_greatest_64 (by decide) ?_
            have hgv : gtV mo x e1 i = mo (12 * x + i) := by rw [gtV, if_neg (by rw [c15]; decide)]
            have gtq : fl (gtS mo x e1) (i + 1) 0 = mo (12 * x + i) := by rw [fl_s, gtS, hgv, if_neg c50]
            exact ih5 (i + 1) (by omega) (by omega)  ls (lv_sub hl [3, 4, 5, 1, 0] (by rw [gtq]; rfl))
        · refine lv_aload_n hx hb dX4_greatest_18 rfl (lv_at hl 0 rfl) ?_
          refine va_get (D := D) (ci := 4) (v := .ref (b 11)) (C := RX4) (T := TX4) (N := 14) hx hb hts i4 hown hK hP 0 rfl rfl 13 (by decide) (hts (.fieldLink RX4 42 "SignedPathsModel" "most" "[J") (by decide +kernel)) (fun _ h9 => h9) rfl dX4_greatest_19 ?_
          refine lv_bipush (v := nI 12) hx hb dX4_greatest_22 (by decide) ?_
          refine lv_iload hx hb dX4_greatest_24 (lv_at hl 4 rfl) ?_
          refine rn_imul hx hb  dX4_greatest_26 ?_
          refine lv_iload_n hx hb dX4_greatest_27 rfl (lv_at hl 1 rfl) ?_
          refine rn_iadd hx hb  dX4_greatest_28 ?_
          refine rn_lald (v := mo ((12 * i) + x)) hx hb hK hP 11 3 rfl rfl (by omega) (by decide) rfl dX4_greatest_29 ?_
          refine lv_goto (tgt := 45) hx hb dX4_greatest_30 (by decide) ?_
          refine lv_lstore (lv' := [(6, .long (mo ((12 * i) + x))), (0, .ref (b 0)), (1, .int (nI x)), (2, .int (bI e1)), (3, .long (fl (gtS mo x e1) i 0)), (5, .int (nI i))]) hx hb dX4_greatest_45 hl (by decide) rfl (fun ls hl => ?_)
          refine lv_lload hx hb dX4_greatest_47 (lv_at hl 0 rfl) ?_
          refine lv_lload_n hx hb dX4_greatest_49 rfl (lv_at hl 4 rfl) ?_
          refine rn_lcmp_le (tgt := 59) hx hb dX4_greatest_50 dX4_greatest_51 (by decide) (fun c50 => ?_) (fun c50 => ?_)
          · refine lv_lload_n hx hb dX4_greatest_59 rfl (lv_at hl 4 rfl) ?_
            refine lv_lstore_n (lv' := [(3, .long (fl (gtS mo x e1) i 0)), (6, .long (mo ((12 * i) + x))), (0, .ref (b 0)), (1, .int (nI x)), (2, .int (bI e1)), (5, .int (nI i))]) hx hb dX4_greatest_60 rfl hl (by decide) rfl (fun ls hl => ?_)
            refine lv_iinc (v := nI (i + 1)) (lv' := [(5, .int (nI (i + 1))), (3, .long (fl (gtS mo x e1) i 0)), (6, .long (mo ((12 * i) + x))), (0, .ref (b 0)), (1, .int (nI x)), (2, .int (bI e1))]) hx hb dX4_greatest_61 hl (k := 5) rfl (nI_1 i) (by decide) rfl (fun ls hl => ?_)
            refine lv_goto (tgt := 5) hx hb dX4_greatest_64 (by decide) ?_
            have hgv : gtV mo x e1 i = mo (12 * i + x) := by rw [gtV, if_pos c15]
            have gtq : fl (gtS mo x e1) (i + 1) 0 = fl (gtS mo x e1) i 0 := by rw [fl_s, gtS, hgv, if_pos c50]
            exact ih5 (i + 1) (by omega) (by omega)  ls (lv_sub hl [3, 4, 5, 1, 0] (by rw [gtq]; rfl))
          · refine lv_lload hx hb dX4_greatest_54 (lv_at hl 0 rfl) ?_
            refine lv_goto (tgt := 60) hx hb dX4_greatest_56 (by decide) ?_
            refine lv_lstore_n (lv' := [(3, .long (mo ((12 * i) + x))), (6, .long (mo ((12 * i) + x))), (0, .ref (b 0)), (1, .int (nI x)), (2, .int (bI e1)), (5, .int (nI i))]) hx hb dX4_greatest_60 rfl hl (by decide) rfl (fun ls hl => ?_)
            refine lv_iinc (v := nI (i + 1)) (lv' := [(5, .int (nI (i + 1))), (3, .long (mo ((12 * i) + x))), (6, .long (mo ((12 * i) + x))), (0, .ref (b 0)), (1, .int (nI x)), (2, .int (bI e1))]) hx hb dX4_greatest_61 hl (k := 5) rfl (nI_1 i) (by decide) rfl (fun ls hl => ?_)
            refine lv_goto (tgt := 5) hx hb dX4_greatest_64 (by decide) ?_
            have hgv : gtV mo x e1 i = mo (12 * i + x) := by rw [gtV, if_pos c15]
            have gtq : fl (gtS mo x e1) (i + 1) 0 = mo (12 * i + x) := by rw [fl_s, gtS, hgv, if_neg c50]
            exact ih5 (i + 1) (by omega) (by omega)  ls (lv_sub hl [3, 4, 5, 1, 0] (by rw [gtq]; rfl))
  exact key5 (n + 1) 0 (by omega) (by omega)  ls (lv_sub hl [2, 3, 4, 1, 0] rfl)
set_option maxHeartbeats 4000000 in
set_option maxRecDepth 100000 in
theorem c4_weightOf (l : Launch) (q : Int64)  : Met l yX4_weightOf wsX4_weightOf ({ frames := 1, cells := 0, slots := 0, locals := 23 }) (va_Pc [.long q] (fun _ => True)) (vp_Si (fun r => r = wOf q)) 0 0 nF := by
  refine Met.ofW (cc := cX4_weightOf) (maxL := 2) (ret := (some .int)) (by decide) rfl ?_
  intro p e s mt args below meth c s₁ B hml hv
  obtain ⟨rfl, -⟩ := hv
  have hx := B.exec
  have hb := B.bytes
  have hr := B.returns
  have hts := atoms_spec (ws := wsX4_weightOf) B.pre
  have hown : s.vm.findClass RX4 = some mt.cls := findClass_of_methodNamed B.named
  have hlocks := B.notSynchronized
  have hl := lv_entry ([.long q]) (n := 2) (Nat.le_of_ble_eq_true rfl)
  rw [lg_entry_eq]
  generalize (lg_sl ([.long q]) ++ List.replicate (2 - (lg_sl ([.long q])).length) Slot.unset).toArray = ls at hl ⊢
  have hl : lv_has ls 2 [(0, .long q)] := hl
  refine lv_lload_n hx hb dX4_weightOf_0 rfl (lv_at hl 0 rfl) ?_
  refine lv_lneg hx hb dX4_weightOf_1 ?_
  refine cl_Ti (As := [.long (-q)]) (rest := []) ⟨hx, hb, hml, hown, hts⟩ (c4_weightIn l (-q) ) (va_cwS 1 hts gX4_weightOf_X4_weightIn rfl rfl rfl (by decide +kernel) ⟨Nat.le_of_ble_eq_true rfl, Nat.le_of_ble_eq_true rfl⟩) rfl hl.1 rfl (Nat.le_of_ble_eq_true rfl) dX4_weightOf_2 ⟨Nat.zero_le _, Nat.zero_le _⟩ (fun r2 h2 => ?_)
  subst h2
  refine lv_ineg hx hb dX4_weightOf_5 ?_
  exact W.iret (v := -(wIn (-q))) hx hb hr (fun t ht hW => ⟨_, rfl, rfl, ht⟩) (fun q h => absurd h List.not_mem_nil) dX4_weightOf_6
set_option maxHeartbeats 4000000 in
set_option maxRecDepth 100000 in
theorem c4_top (l : Launch) {D : va_G} {k : Nat → ClassId} {b : Nat → Nat} {n : Nat} {m : Nat} {fr : Nat → Nat} {to : Nat → Nat} {w : Nat → Int32} {th : Nat → Bool} {be : Nat → Int64} {oe : Nat → Int64} {al : Nat → Int64} {pa : Nat → Int64} {bo : Nat → Int64} {rl : Nat} {ra : Nat → Nat} {mo : Nat → Int64} (ha : inj 12 b)  (hg : gOK n m fr to) : Met l yX4_top wsX4_top ({ frames := 1, cells := 0, slots := 0, locals := 27 }) (gPc D k (mW k b n m fr to w th be oe al pa bo rl ra mo) [.ref (b 0)]) (vp_Sl (fun r => r = tpF n mo)) 0 0 nF := by
  refine Met.ofW (cc := cX4_top) (maxL := 4) (ret := (some .long)) (by decide) rfl ?_
  intro p e s mt args below meth c s₁ B hml hv
  obtain ⟨rfl, hP, hK⟩ := hv
  have hx := B.exec
  have hb := B.bytes
  have hr := B.returns
  have hts := atoms_spec (ws := wsX4_top) B.pre
  have hown : s.vm.findClass RX4 = some mt.cls := findClass_of_methodNamed B.named
  have hlocks := B.notSynchronized
  have i4 : ∀ w ∈ wsX40, w ∈ wsX4_top := by decide +kernel
  have hl := lv_entry ([.ref (b 0)]) (n := 4) (Nat.le_of_ble_eq_true rfl)
  rw [lg_entry_eq]
  generalize (lg_sl ([.ref (b 0)]) ++ List.replicate (4 - (lg_sl ([.ref (b 0)])).length) Slot.unset).toArray = ls at hl ⊢
  have hl : lv_has ls 4 [(0, .ref (b 0))] := hl
  obtain ⟨Q, hQ⟩ : ∃ Q, Q = MQ below (vp_Sl (fun r => r = tpF n mo)) ([.ref (b 0)] : List Value).toArray s 0 0 nF := ⟨_, rfl⟩
  rw [← hQ]
  obtain ⟨hn12, hm40, hft⟩ := id hg
  refine lv_lconst (v := 0) hx hb dX4_top_0 (by decide) ?_
  refine lv_lstore_n (lv' := [(1, .long 0), (0, .ref (b 0))]) hx hb dX4_top_1 rfl hl (by decide) rfl (fun ls hl => ?_)
  refine lv_iconst (v := nI 0) hx hb dX4_top_2 (by decide) ?_
  refine lv_istore_n (lv' := [(3, .int (nI 0)), (1, .long 0), (0, .ref (b 0))]) hx hb dX4_top_3 rfl hl (by decide) rfl (fun ls hl => ?_)
  have key4 : ∀ (f4 i : Nat), n + 1 ≤ i + f4 → i ≤ n → ∀ (ls : Array Slot), lv_has ls 4 [(0, .ref (b 0)), (1, .long (fl (tpS n mo) i 0)), (3, .int (nI i))] → W p l e (headSpec wsX4_top { frames := 1, cells := 0, slots := 0, locals := 27 }).room s mt ([.ref (b 0)] : List Value).toArray below meth c s.heap [] 0 0 Q (F0 mt 4 ls []) := by
    intro f4
    induction f4 with
    | zero => intro i h1 h2; exact absurd h1 (by omega)
    | succ f4 ih4 =>
      intro i hf4 hi4   ls hl
      refine lv_iload_n hx hb dX4_top_4 rfl (lv_at hl 2 rfl) ?_
      refine lv_aload_n hx hb dX4_top_5 rfl (lv_at hl 0 rfl) ?_
      refine va_get (D := D) (ci := 4) (v := .int (nI n)) (C := RX4) (T := TX4) (N := 14) hx hb hts i4 hown hK hP 0 rfl rfl 0 (by decide) (hts (.fieldLink RX4 45 "SignedPathsModel" "n" "I") (by decide +kernel)) (fun _ h9 => h9) rfl dX4_top_6 ?_
      refine rn_icmp_ge (tgt := 40) hx hb dX4_top_9 (by decide) (by omega) (by omega) (fun c9 => ?_) (fun c9 => ?_)
      · refine lv_lload_n hx hb dX4_top_40 rfl (lv_at hl 1 rfl) ?_
        rw [hQ]
        exact W.lret (v := fl (tpS n mo) i 0) hx hb hr (fun t ht hW => ⟨_, rfl, (by have e : i = n := (by omega); rw [e]; rfl), ht⟩) (fun q h => absurd h List.not_mem_nil) dX4_top_41
      · refine lv_aload_n hx hb dX4_top_12 rfl (lv_at hl 0 rfl) ?_
        refine lv_iload_n hx hb dX4_top_13 rfl (lv_at hl 2 rfl) ?_
        refine lv_iconst (v := bI true) hx hb dX4_top_14 (by decide) ?_
        refine cl_Sl (As := [.int (nI i), .int (bI true)]) (rest := []) ⟨hx, hb, hml, hown, hts⟩ (c4_greatest l ha i true hg (by omega)) (cwV 2 hts gX4_top_X4_greatest rfl rfl rfl (by decide +kernel) ⟨Nat.le_of_ble_eq_true rfl, Nat.le_of_ble_eq_true rfl⟩) hK hP (ci := 4) (q0 := 0) rfl rfl rfl rfl hl.1 rfl (Nat.le_of_ble_eq_true rfl) dX4_top_15 ⟨Nat.zero_le _, Nat.zero_le _⟩ (fun r15 h15 => ?_)
        subst h15
        refine lv_lload_n hx hb dX4_top_18 rfl (lv_at hl 1 rfl) ?_
        refine rn_lcmp_le (tgt := 32) hx hb dX4_top_19 dX4_top_20 (by decide) (fun c19 => ?_) (fun c19 => ?_)
        · refine lv_lload_n hx hb dX4_top_32 rfl (lv_at hl 1 rfl) ?_
          refine lv_lstore_n (lv' := [(1, .long (fl (tpS n mo) i 0)), (0, .ref (b 0)), (3, .int (nI i))]) hx hb dX4_top_33 rfl hl (by decide) rfl (fun ls hl => ?_)
          refine lv_iinc (v := nI (i + 1)) (lv' := [(3, .int (nI (i + 1))), (1, .long (fl (tpS n mo) i 0)), (0, .ref (b 0))]) hx hb dX4_top_34 hl (k := 2) rfl (nI_1 i) (by decide) rfl (fun ls hl => ?_)
          refine lv_goto (tgt := 4) hx hb dX4_top_37 (by decide) ?_
          have tpq : fl (tpS n mo) (i + 1) 0 = fl (tpS n mo) i 0 := by rw [fl_s, tpS, if_pos c19]
          exact ih4 (i + 1) (by omega) (by omega)  ls (lv_sub hl [2, 1, 0] (by rw [tpq]; rfl))
        · refine lv_aload_n hx hb dX4_top_23 rfl (lv_at hl 0 rfl) ?_
          refine lv_iload_n hx hb dX4_top_24 rfl (lv_at hl 2 rfl) ?_
          refine lv_iconst (v := bI true) hx hb dX4_top_25 (by decide) ?_
          refine cl_Sl (As := [.int (nI i), .int (bI true)]) (rest := []) ⟨hx, hb, hml, hown, hts⟩ (c4_greatest l ha i true hg (by omega)) (cwV 2 hts gX4_top_X4_greatest rfl rfl rfl (by decide +kernel) ⟨Nat.le_of_ble_eq_true rfl, Nat.le_of_ble_eq_true rfl⟩) hK hP (ci := 4) (q0 := 0) rfl rfl rfl rfl hl.1 rfl (Nat.le_of_ble_eq_true rfl) dX4_top_26 ⟨Nat.zero_le _, Nat.zero_le _⟩ (fun r26 h26 => ?_)
          subst h26
          refine lv_goto (tgt := 33) hx hb dX4_top_29 (by decide) ?_
          refine lv_lstore_n (lv' := [(1, .long (gtF n mo i true)), (0, .ref (b 0)), (3, .int (nI i))]) hx hb dX4_top_33 rfl hl (by decide) rfl (fun ls hl => ?_)
          refine lv_iinc (v := nI (i + 1)) (lv' := [(3, .int (nI (i + 1))), (1, .long (gtF n mo i true)), (0, .ref (b 0))]) hx hb dX4_top_34 hl (k := 2) rfl (nI_1 i) (by decide) rfl (fun ls hl => ?_)
          refine lv_goto (tgt := 4) hx hb dX4_top_37 (by decide) ?_
          have tpq : fl (tpS n mo) (i + 1) 0 = gtF n mo i true := by rw [fl_s, tpS, if_neg c19]
          exact ih4 (i + 1) (by omega) (by omega)  ls (lv_sub hl [2, 1, 0] (by rw [tpq]; rfl))
  exact key4 (n + 1) 0 (by omega) (by omega)  ls (lv_sub hl [2, 1, 0] rfl)
set_option maxHeartbeats 4000000 in
set_option maxRecDepth 100000 in
theorem c4_isNext (l : Launch) {D : va_G} {k : Nat → ClassId} {b : Nat → Nat} {n : Nat} {m : Nat} {fr : Nat → Nat} {to : Nat → Nat} {w : Nat → Int32} {th : Nat → Bool} {be : Nat → Int64} {oe : Nat → Int64} {al : Nat → Int64} {pa : Nat → Int64} {bo : Nat → Int64} {rl : Nat} {ra : Nat → Nat} {mo : Nat → Int64} (ha : inj 12 b) (x : Nat) (z : Int32) (hg : gOK n m fr to) (hx1 : x < 12) : Met l yX4_isNext wsX4_isNext ({ frames := 0, cells := 0, slots := 0, locals := 0 }) (gPc D k (mW k b n m fr to w th be oe al pa bo rl ra mo) [.ref (b 0), .int (nI x), .int z]) (vp_Si (fun r => r = bI (isN m fr to th z x))) 0 0 nF := by
  refine Met.ofW (cc := cX4_isNext) (maxL := 5) (ret := (some .boolean)) (by decide) rfl ?_
  intro p e s mt args below meth c s₁ B hml hv
  obtain ⟨rfl, hP, hK⟩ := hv
  have hx := B.exec
  have hb := B.bytes
  have hr := B.returns
  have hts := atoms_spec (ws := wsX4_isNext) B.pre
  have hown : s.vm.findClass RX4 = some mt.cls := findClass_of_methodNamed B.named
  have hlocks := B.notSynchronized
  have i4 : ∀ w ∈ wsX40, w ∈ wsX4_isNext := by decide +kernel
  have hl := lv_entry ([.ref (b 0), .int (nI x), .int z]) (n := 5) (Nat.le_of_ble_eq_true rfl)
  rw [lg_entry_eq]
  generalize (lg_sl ([.ref (b 0), .int (nI x), .int z]) ++ List.replicate (5 - (lg_sl ([.ref (b 0), .int (nI x), .int z])).length) Slot.unset).toArray = ls at hl ⊢
  have hl : lv_has ls 5 [(0, .ref (b 0)), (1, .int (nI x)), (2, .int z)] := hl
  obtain ⟨Q, hQ⟩ : ∃ Q, Q = MQ below (vp_Si (fun r => r = bI (isN m fr to th z x))) ([.ref (b 0), .int (nI x), .int z] : List Value).toArray s 0 0 nF := ⟨_, rfl⟩
  rw [← hQ]
  obtain ⟨hn12, hm40, hft⟩ := id hg
  refine lv_iload_n hx hb dX4_isNext_0 rfl (lv_at hl 2 rfl) ?_
  refine lv_iload_n hx hb dX4_isNext_1 rfl (lv_at hl 1 rfl) ?_
  refine lv_ishr hx hb dX4_isNext_2 ?_
  refine lv_iconst (v := 1) hx hb dX4_isNext_3 (by decide) ?_
  refine lv_iand hx hb dX4_isNext_4 ?_
  refine lv_if_ne (tgt := 12) hx hb dX4_isNext_5 (by decide) (fun c5 => ?_) (fun c5 => ?_)
  · refine lv_iconst (v := bI false) hx hb dX4_isNext_12 (by decide) ?_
    refine lv_istore_n (lv' := [(3, .int (bI false)), (0, .ref (b 0)), (1, .int (nI x)), (2, .int z)]) hx hb dX4_isNext_13 rfl hl (by decide) rfl (fun ls hl => ?_)
    refine lv_iconst (v := nI 0) hx hb dX4_isNext_14 (by decide) ?_
    refine lv_istore (lv' := [(4, .int (nI 0)), (3, .int (bI false)), (0, .ref (b 0)), (1, .int (nI x)), (2, .int z)]) hx hb dX4_isNext_15 hl (by decide) rfl (fun ls hl => ?_)
    have key17 : ∀ (f17 i : Nat), m + 1 ≤ i + f17 → i ≤ m → ∀ (ls : Array Slot), lv_has ls 5 [(0, .ref (b 0)), (1, .int (nI x)), (2, .int z), (3, .int (bI (aaF (btE z x) (inP fr to th z x) i))), (4, .int (nI i))] → W p l e (headSpec wsX4_isNext { frames := 0, cells := 0, slots := 0, locals := 0 }).room s mt ([.ref (b 0), .int (nI x), .int z] : List Value).toArray below meth c s.heap [] 0 0 Q (F0 mt 17 ls []) := by
      intro f17
      induction f17 with
      | zero => intro i h1 h2; exact absurd h1 (by omega)
      | succ f17 ih17 =>
        intro i hf17 hi17   ls hl
        refine lv_iload hx hb dX4_isNext_17 (lv_at hl 4 rfl) ?_
        refine lv_aload_n hx hb dX4_isNext_19 rfl (lv_at hl 0 rfl) ?_
        refine va_get (D := D) (ci := 4) (v := .int (nI m)) (C := RX4) (T := TX4) (N := 14) hx hb hts i4 hown hK hP 0 rfl rfl 1 (by decide) (hts (.fieldLink RX4 53 "SignedPathsModel" "arcs" "I") (by decide +kernel)) (fun _ h9 => h9) rfl dX4_isNext_20 ?_
        refine rn_icmp_ge (tgt := 77) hx hb dX4_isNext_23 (by decide) (by omega) (by omega) (fun c23 => ?_) (fun c23 => ?_)
        · refine lv_iload_n hx hb dX4_isNext_77 rfl (lv_at hl 3 rfl) ?_
          rw [hQ]
          exact W.zret (v := bI (aaF (btE z x) (inP fr to th z x) i)) hx hb hr (bI_n2 _) (fun t ht hW => ⟨_, rfl, (by have e : i = m := (by omega); rw [e]; rfl), ht⟩) (fun q h => absurd h List.not_mem_nil) dX4_isNext_78
        · have hi2 := hft i c23
          refine lv_iload_n hx hb dX4_isNext_26 rfl (lv_at hl 3 rfl) ?_
          refine rn_ifeqb (tgt := 69) hx hb dX4_isNext_27 (by decide) (fun c27 => ?_) (fun c27 => ?_)
          · refine lv_iconst (v := bI false) hx hb dX4_isNext_69 (by decide) ?_
            refine lv_istore_n (lv' := [(3, .int (bI false)), (0, .ref (b 0)), (1, .int (nI x)), (2, .int z), (4, .int (nI i))]) hx hb dX4_isNext_70 rfl hl (by decide) rfl (fun ls hl => ?_)
            refine lv_iinc (v := nI (i + 1)) (lv' := [(4, .int (nI (i + 1))), (3, .int (bI false)), (0, .ref (b 0)), (1, .int (nI x)), (2, .int z)]) hx hb dX4_isNext_71 hl (k := 4) rfl (nI_1 i) (by decide) rfl (fun ls hl => ?_)
            refine lv_goto (tgt := 17) hx hb dX4_isNext_74 (by decide) ?_
            have inq : aaF (btE z x) (inP fr to th z x) (i + 1) = false := by simp [aaF, c27]
            exact ih17 (i + 1) (by omega) (by omega)  ls (lv_sub hl [2, 3, 4, 1, 0] (by rw [inq]; rfl))
          · refine lv_aload_n hx hb dX4_isNext_30 rfl (lv_at hl 0 rfl) ?_
            refine va_get (D := D) (ci := 4) (v := .ref (b 4)) (C := RX4) (T := TX4) (N := 14) hx hb hts i4 hown hK hP 0 rfl rfl 5 (by decide) (hts (.fieldLink RX4 19 "SignedPathsModel" "isThere" "[Z") (by decide +kernel)) (fun _ h9 => h9) rfl dX4_isNext_31 ?_
            refine lv_iload hx hb dX4_isNext_34 (lv_at hl 4 rfl) ?_
            refine rn_zald (v := bI (th i)) hx hb hK hP 4 1 rfl rfl (by omega) (by decide) rfl dX4_isNext_36 ?_
            refine rn_ifeqb (tgt := 65) hx hb dX4_isNext_37 (by decide) (fun c37 => ?_) (fun c37 => ?_)
            · refine lv_iconst (v := bI true) hx hb dX4_isNext_65 (by decide) ?_
              refine lv_goto (tgt := 70) hx hb dX4_isNext_66 (by decide) ?_
              refine lv_istore_n (lv' := [(3, .int (bI true)), (0, .ref (b 0)), (1, .int (nI x)), (2, .int z), (4, .int (nI i))]) hx hb dX4_isNext_70 rfl hl (by decide) rfl (fun ls hl => ?_)
              refine lv_iinc (v := nI (i + 1)) (lv' := [(4, .int (nI (i + 1))), (3, .int (bI true)), (0, .ref (b 0)), (1, .int (nI x)), (2, .int z)]) hx hb dX4_isNext_71 hl (k := 4) rfl (nI_1 i) (by decide) rfl (fun ls hl => ?_)
              refine lv_goto (tgt := 17) hx hb dX4_isNext_74 (by decide) ?_
              have inq : aaF (btE z x) (inP fr to th z x) (i + 1) = true := by simp [aaF, c27, inP, c37]
              exact ih17 (i + 1) (by omega) (by omega)  ls (lv_sub hl [2, 3, 4, 1, 0] (by rw [inq]; rfl))
            · refine lv_aload_n hx hb dX4_isNext_40 rfl (lv_at hl 0 rfl) ?_
              refine va_get (D := D) (ci := 4) (v := .ref (b 2)) (C := RX4) (T := TX4) (N := 14) hx hb hts i4 hown hK hP 0 rfl rfl 3 (by decide) (hts (.fieldLink RX4 13 "SignedPathsModel" "to" "[I") (by decide +kernel)) (fun _ h9 => h9) rfl dX4_isNext_41 ?_
              refine lv_iload hx hb dX4_isNext_44 (lv_at hl 4 rfl) ?_
              refine rn_iald (v := nI (to i)) hx hb hK hP 2 0 rfl rfl (by omega) (by decide) rfl dX4_isNext_46 ?_
              refine lv_iload_n hx hb dX4_isNext_47 rfl (lv_at hl 1 rfl) ?_
              refine rn_icmp_ne (tgt := 65) hx hb dX4_isNext_48 (by decide) (by omega) (by omega) (fun c48 => ?_) (fun c48 => ?_)
              · refine lv_iconst (v := bI true) hx hb dX4_isNext_65 (by decide) ?_
                refine lv_goto (tgt := 70) hx hb dX4_isNext_66 (by decide) ?_
                refine lv_istore_n (lv' := [(3, .int (bI true)), (0, .ref (b 0)), (1, .int (nI x)), (2, .int z), (4, .int (nI i))]) hx hb dX4_isNext_70 rfl hl (by decide) rfl (fun ls hl => ?_)
                refine lv_iinc (v := nI (i + 1)) (lv' := [(4, .int (nI (i + 1))), (3, .int (bI true)), (0, .ref (b 0)), (1, .int (nI x)), (2, .int z)]) hx hb dX4_isNext_71 hl (k := 4) rfl (nI_1 i) (by decide) rfl (fun ls hl => ?_)
                refine lv_goto (tgt := 17) hx hb dX4_isNext_74 (by decide) ?_
                have inq : aaF (btE z x) (inP fr to th z x) (i + 1) = true := by simp [aaF, c27, inP, c48]
                exact ih17 (i + 1) (by omega) (by omega)  ls (lv_sub hl [2, 3, 4, 1, 0] (by rw [inq]; rfl))
              · refine lv_iload_n hx hb dX4_isNext_51 rfl (lv_at hl 2 rfl) ?_
                refine lv_aload_n hx hb dX4_isNext_52 rfl (lv_at hl 0 rfl) ?_
                refine va_get (D := D) (ci := 4) (v := .ref (b 1)) (C := RX4) (T := TX4) (N := 14) hx hb hts i4 hown hK hP 0 rfl rfl 2 (by decide) (hts (.fieldLink RX4 7 "SignedPathsModel" "from" "[I") (by decide +kernel)) (fun _ h9 => h9) rfl dX4_isNext_53 ?_
                refine lv_iload hx hb dX4_isNext_56 (lv_at hl 4 rfl) ?_
                refine rn_iald (v := nI (fr i)) hx hb hK hP 1 0 rfl rfl (by omega) (by decide) rfl dX4_isNext_58 ?_
                refine lv_ishr hx hb dX4_isNext_59 ?_
                refine lv_iconst (v := 1) hx hb dX4_isNext_60 (by decide) ?_
                refine lv_iand hx hb dX4_isNext_61 ?_
                refine lv_if_eq (tgt := 69) hx hb dX4_isNext_62 (by decide) (fun c62 => ?_) (fun c62 => ?_)
                · refine lv_iconst (v := bI false) hx hb dX4_isNext_69 (by decide) ?_
                  refine lv_istore_n (lv' := [(3, .int (bI false)), (0, .ref (b 0)), (1, .int (nI x)), (2, .int z), (4, .int (nI i))]) hx hb dX4_isNext_70 rfl hl (by decide) rfl (fun ls hl => ?_)
                  refine lv_iinc (v := nI (i + 1)) (lv' := [(4, .int (nI (i + 1))), (3, .int (bI false)), (0, .ref (b 0)), (1, .int (nI x)), (2, .int z)]) hx hb dX4_isNext_71 hl (k := 4) rfl (nI_1 i) (by decide) rfl (fun ls hl => ?_)
                  refine lv_goto (tgt := 17) hx hb dX4_isNext_74 (by decide) ?_
                  have hbt : btE z (fr i) = true := by simp [btE, c62]
                  have inq : aaF (btE z x) (inP fr to th z x) (i + 1) = false := by simp [aaF, c27, inP, hbt, c37, c48]
                  exact ih17 (i + 1) (by omega) (by omega)  ls (lv_sub hl [2, 3, 4, 1, 0] (by rw [inq]; rfl))
                · refine lv_iconst (v := bI true) hx hb dX4_isNext_65 (by decide) ?_
                  refine lv_goto (tgt := 70) hx hb dX4_isNext_66 (by decide) ?_
                  refine lv_istore_n (lv' := [(3, .int (bI true)), (0, .ref (b 0)), (1, .int (nI x)), (2, .int z), (4, .int (nI i))]) hx hb dX4_isNext_70 rfl hl (by decide) rfl (fun ls hl => ?_)
                  refine lv_iinc (v := nI (i + 1)) (lv' := [(4, .int (nI (i + 1))), (3, .int (bI true)), (0, .ref (b 0)), (1, .int (nI x)), (2, .int z)]) hx hb dX4_isNext_71 hl (k := 4) rfl (nI_1 i) (by decide) rfl (fun ls hl => ?_)
                  refine lv_goto (tgt := 17) hx hb dX4_isNext_74 (by decide) ?_
                  have hbt : btE z (fr i) = false := by simp [btE, c62]
                  have inq : aaF (btE z x) (inP fr to th z x) (i + 1) = true := by simp [aaF, c27, inP, hbt]
                  exact ih17 (i + 1) (by omega) (by omega)  ls (lv_sub hl [2, 3, 4, 1, 0] (by rw [inq]; rfl))
    exact key17 (m + 1) 0 (by omega) (by omega)  ls (lv_sub hl [2, 3, 4, 1, 0] (by rw [show aaF (btE z x) (inP fr to th z x) 0 = false by simp [aaF, btE, c5]]; rfl))
  · refine lv_iconst (v := bI true) hx hb dX4_isNext_8 (by decide) ?_
    refine lv_goto (tgt := 13) hx hb dX4_isNext_9 (by decide) ?_
    refine lv_istore_n (lv' := [(3, .int (bI true)), (0, .ref (b 0)), (1, .int (nI x)), (2, .int z)]) hx hb dX4_isNext_13 rfl hl (by decide) rfl (fun ls hl => ?_)
    refine lv_iconst (v := nI 0) hx hb dX4_isNext_14 (by decide) ?_
    refine lv_istore (lv' := [(4, .int (nI 0)), (3, .int (bI true)), (0, .ref (b 0)), (1, .int (nI x)), (2, .int z)]) hx hb dX4_isNext_15 hl (by decide) rfl (fun ls hl => ?_)
    have key17 : ∀ (f17 i : Nat), m + 1 ≤ i + f17 → i ≤ m → ∀ (ls : Array Slot), lv_has ls 5 [(0, .ref (b 0)), (1, .int (nI x)), (2, .int z), (3, .int (bI (aaF (btE z x) (inP fr to th z x) i))), (4, .int (nI i))] → W p l e (headSpec wsX4_isNext { frames := 0, cells := 0, slots := 0, locals := 0 }).room s mt ([.ref (b 0), .int (nI x), .int z] : List Value).toArray below meth c s.heap [] 0 0 Q (F0 mt 17 ls []) := by
      intro f17
      induction f17 with
      | zero => intro i h1 h2; exact absurd h1 (by omega)
      | succ f17 ih17 =>
        intro i hf17 hi17   ls hl
        refine lv_iload hx hb dX4_isNext_17 (lv_at hl 4 rfl) ?_
        refine lv_aload_n hx hb dX4_isNext_19 rfl (lv_at hl 0 rfl) ?_
        refine va_get (D := D) (ci := 4) (v := .int (nI m)) (C := RX4) (T := TX4) (N := 14) hx hb hts i4 hown hK hP 0 rfl rfl 1 (by decide) (hts (.fieldLink RX4 53 "SignedPathsModel" "arcs" "I") (by decide +kernel)) (fun _ h9 => h9) rfl dX4_isNext_20 ?_
        refine rn_icmp_ge (tgt := 77) hx hb dX4_isNext_23 (by decide) (by omega) (by omega) (fun c23 => ?_) (fun c23 => ?_)
        · refine lv_iload_n hx hb dX4_isNext_77 rfl (lv_at hl 3 rfl) ?_
          rw [hQ]
          exact W.zret (v := bI (aaF (btE z x) (inP fr to th z x) i)) hx hb hr (bI_n2 _) (fun t ht hW => ⟨_, rfl, (by have e : i = m := (by omega); rw [e]; rfl), ht⟩) (fun q h => absurd h List.not_mem_nil) dX4_isNext_78
        · have hi2 := hft i c23
          refine lv_iload_n hx hb dX4_isNext_26 rfl (lv_at hl 3 rfl) ?_
          refine rn_ifeqb (tgt := 69) hx hb dX4_isNext_27 (by decide) (fun c27 => ?_) (fun c27 => ?_)
          · refine lv_iconst (v := bI false) hx hb dX4_isNext_69 (by decide) ?_
            refine lv_istore_n (lv' := [(3, .int (bI false)), (0, .ref (b 0)), (1, .int (nI x)), (2, .int z), (4, .int (nI i))]) hx hb dX4_isNext_70 rfl hl (by decide) rfl (fun ls hl => ?_)
            refine lv_iinc (v := nI (i + 1)) (lv' := [(4, .int (nI (i + 1))), (3, .int (bI false)), (0, .ref (b 0)), (1, .int (nI x)), (2, .int z)]) hx hb dX4_isNext_71 hl (k := 4) rfl (nI_1 i) (by decide) rfl (fun ls hl => ?_)
            refine lv_goto (tgt := 17) hx hb dX4_isNext_74 (by decide) ?_
            have inq : aaF (btE z x) (inP fr to th z x) (i + 1) = false := by simp [aaF, c27]
            exact ih17 (i + 1) (by omega) (by omega)  ls (lv_sub hl [2, 3, 4, 1, 0] (by rw [inq]; rfl))
          · refine lv_aload_n hx hb dX4_isNext_30 rfl (lv_at hl 0 rfl) ?_
            refine va_get (D := D) (ci := 4) (v := .ref (b 4)) (C := RX4) (T := TX4) (N := 14) hx hb hts i4 hown hK hP 0 rfl rfl 5 (by decide) (hts (.fieldLink RX4 19 "SignedPathsModel" "isThere" "[Z") (by decide +kernel)) (fun _ h9 => h9) rfl dX4_isNext_31 ?_
            refine lv_iload hx hb dX4_isNext_34 (lv_at hl 4 rfl) ?_
            refine rn_zald (v := bI (th i)) hx hb hK hP 4 1 rfl rfl (by omega) (by decide) rfl dX4_isNext_36 ?_
            refine rn_ifeqb (tgt := 65) hx hb dX4_isNext_37 (by decide) (fun c37 => ?_) (fun c37 => ?_)
            · refine lv_iconst (v := bI true) hx hb dX4_isNext_65 (by decide) ?_
              refine lv_goto (tgt := 70) hx hb dX4_isNext_66 (by decide) ?_
              refine lv_istore_n (lv' := [(3, .int (bI true)), (0, .ref (b 0)), (1, .int (nI x)), (2, .int z), (4, .int (nI i))]) hx hb dX4_isNext_70 rfl hl (by decide) rfl (fun ls hl => ?_)
              refine lv_iinc (v := nI (i + 1)) (lv' := [(4, .int (nI (i + 1))), (3, .int (bI true)), (0, .ref (b 0)), (1, .int (nI x)), (2, .int z)]) hx hb dX4_isNext_71 hl (k := 4) rfl (nI_1 i) (by decide) rfl (fun ls hl => ?_)
              refine lv_goto (tgt := 17) hx hb dX4_isNext_74 (by decide) ?_
              have inq : aaF (btE z x) (inP fr to th z x) (i + 1) = true := by simp [aaF, c27, inP, c37]
              exact ih17 (i + 1) (by omega) (by omega)  ls (lv_sub hl [2, 3, 4, 1, 0] (by rw [inq]; rfl))
            · refine lv_aload_n hx hb dX4_isNext_40 rfl (lv_at hl 0 rfl) ?_
              refine va_get (D := D) (ci := 4) (v := .ref (b 2)) (C := RX4) (T := TX4) (N := 14) hx hb hts i4 hown hK hP 0 rfl rfl 3 (by decide) (hts (.fieldLink RX4 13 "SignedPathsModel" "to" "[I") (by decide +kernel)) (fun _ h9 => h9) rfl dX4_isNext_41 ?_
              refine lv_iload hx hb dX4_isNext_44 (lv_at hl 4 rfl) ?_
              refine rn_iald (v := nI (to i)) hx hb hK hP 2 0 rfl rfl (by omega) (by decide) rfl dX4_isNext_46 ?_
              refine lv_iload_n hx hb dX4_isNext_47 rfl (lv_at hl 1 rfl) ?_
              refine rn_icmp_ne (tgt := 65) hx hb dX4_isNext_48 (by decide) (by omega) (by omega) (fun c48 => ?_) (fun c48 => ?_)
              · refine lv_iconst (v := bI true) hx hb dX4_isNext_65 (by decide) ?_
                refine lv_goto (tgt := 70) hx hb dX4_isNext_66 (by decide) ?_
                refine lv_istore_n (lv' := [(3, .int (bI true)), (0, .ref (b 0)), (1, .int (nI x)), (2, .int z), (4, .int (nI i))]) hx hb dX4_isNext_70 rfl hl (by decide) rfl (fun ls hl => ?_)
                refine lv_iinc (v := nI (i + 1)) (lv' := [(4, .int (nI (i + 1))), (3, .int (bI true)), (0, .ref (b 0)), (1, .int (nI x)), (2, .int z)]) hx hb dX4_isNext_71 hl (k := 4) rfl (nI_1 i) (by decide) rfl (fun ls hl => ?_)
                refine lv_goto (tgt := 17) hx hb dX4_isNext_74 (by decide) ?_
                have inq : aaF (btE z x) (inP fr to th z x) (i + 1) = true := by simp [aaF, c27, inP, c48]
                exact ih17 (i + 1) (by omega) (by omega)  ls (lv_sub hl [2, 3, 4, 1, 0] (by rw [inq]; rfl))
              · refine lv_iload_n hx hb dX4_isNext_51 rfl (lv_at hl 2 rfl) ?_
                refine lv_aload_n hx hb dX4_isNext_52 rfl (lv_at hl 0 rfl) ?_
                refine va_get (D := D) (ci := 4) (v := .ref (b 1)) (C := RX4) (T := TX4) (N := 14) hx hb hts i4 hown hK hP 0 rfl rfl 2 (by decide) (hts (.fieldLink RX4 7 "SignedPathsModel" "from" "[I") (by decide +kernel)) (fun _ h9 => h9) rfl dX4_isNext_53 ?_
                refine lv_iload hx hb dX4_isNext_56 (lv_at hl 4 rfl) ?_
                refine rn_iald (v := nI (fr i)) hx hb hK hP 1 0 rfl rfl (by omega) (by decide) rfl dX4_isNext_58 ?_
                refine lv_ishr hx hb dX4_isNext_59 ?_
                refine lv_iconst (v := 1) hx hb dX4_isNext_60 (by decide) ?_
                refine lv_iand hx hb dX4_isNext_61 ?_
                refine lv_if_eq (tgt := 69) hx hb dX4_isNext_62 (by decide) (fun c62 => ?_) (fun c62 => ?_)
                · refine lv_iconst (v := bI false) hx hb dX4_isNext_69 (by decide) ?_
                  refine lv_istore_n (lv' := [(3, .int (bI false)), (0, .ref (b 0)), (1, .int (nI x)), (2, .int z), (4, .int (nI i))]) hx hb dX4_isNext_70 rfl hl (by decide) rfl (fun ls hl => ?_)
                  refine lv_iinc (v := nI (i + 1)) (lv' := [(4, .int (nI (i + 1))), (3, .int (bI false)), (0, .ref (b 0)), (1, .int (nI x)), (2, .int z)]) hx hb dX4_isNext_71 hl (k := 4) rfl (nI_1 i) (by decide) rfl (fun ls hl => ?_)
                  refine lv_goto (tgt := 17) hx hb dX4_isNext_74 (by decide) ?_
                  have hbt : btE z (fr i) = true := by simp [btE, c62]
                  have inq : aaF (btE z x) (inP fr to th z x) (i + 1) = false := by simp [aaF, c27, inP, hbt, c37, c48]
                  exact ih17 (i + 1) (by omega) (by omega)  ls (lv_sub hl [2, 3, 4, 1, 0] (by rw [inq]; rfl))
                · refine lv_iconst (v := bI true) hx hb dX4_isNext_65 (by decide) ?_
                  refine lv_goto (tgt := 70) hx hb dX4_isNext_66 (by decide) ?_
                  refine lv_istore_n (lv' := [(3, .int (bI true)), (0, .ref (b 0)), (1, .int (nI x)), (2, .int z), (4, .int (nI i))]) hx hb dX4_isNext_70 rfl hl (by decide) rfl (fun ls hl => ?_)
                  refine lv_iinc (v := nI (i + 1)) (lv' := [(4, .int (nI (i + 1))), (3, .int (bI true)), (0, .ref (b 0)), (1, .int (nI x)), (2, .int z)]) hx hb dX4_isNext_71 hl (k := 4) rfl (nI_1 i) (by decide) rfl (fun ls hl => ?_)
                  refine lv_goto (tgt := 17) hx hb dX4_isNext_74 (by decide) ?_
                  have hbt : btE z (fr i) = false := by simp [btE, c62]
                  have inq : aaF (btE z x) (inP fr to th z x) (i + 1) = true := by simp [aaF, c27, inP, hbt]
                  exact ih17 (i + 1) (by omega) (by omega)  ls (lv_sub hl [2, 3, 4, 1, 0] (by rw [inq]; rfl))
    exact key17 (m + 1) 0 (by omega) (by omega)  ls (lv_sub hl [2, 3, 4, 1, 0] (by rw [show aaF (btE z x) (inP fr to th z x) 0 = true by simp [aaF, btE, c5]]; rfl))
set_option maxHeartbeats 4000000 in
set_option maxRecDepth 100000 in
theorem c4_order (l : Launch) {D : va_G} {k : Nat → ClassId} {b : Nat → Nat} {n : Nat} {m : Nat} {fr : Nat → Nat} {to : Nat → Nat} {w : Nat → Int32} {th : Nat → Bool} {be : Nat → Int64} {oe : Nat → Int64} {al : Nat → Int64} {pa : Nat → Int64} {bo : Nat → Int64} {rl : Nat} {ra : Nat → Nat} {mo : Nat → Int64} (ha : inj 12 b) (x : Int32) (hg : gOK n m fr to) (hod : frB n m fr to w th mo = true → odG n m fr to th n 0) : Met l yX4_order wsX4_order ({ frames := 1, cells := 0, slots := 0, locals := 28 }) (gPc D k (mW k b n m fr to w th be oe al pa bo rl ra mo) [.ref (b 0), .int x]) (va_Qi (S := Int32) (fun r u => u = r ∧ (((frB n m fr to w th mo) = false ∧ r = -1000000003) ∨ ((frB n m fr to w th mo) = true ∧ odR n m fr to th x n 0 0 r))) (fun _ t => va_P D vwCl (mW k b n m fr to w th be oe al pa bo rl ra (frM n m fr to w th mo)) t.heap) (mA b)) 0 0 (mA b) := by
  refine Met.ofW (cc := cX4_order) (maxL := 5) (ret := (some .int)) (by decide) rfl ?_
  intro p e s mt args below meth c s₁ B hml hv
  obtain ⟨rfl, hP, hK⟩ := hv
  have hx := B.exec
  have hb := B.bytes
  have hr := B.returns
  have hts := atoms_spec (ws := wsX4_order) B.pre
  have hown : s.vm.findClass RX4 = some mt.cls := findClass_of_methodNamed B.named
  have hlocks := B.notSynchronized
  have i4 : ∀ w ∈ wsX40, w ∈ wsX4_order := by decide +kernel
  have hS : va_S (mA b) s.heap s.heap [] := va_S.rf
  have hD : va_D (mA b) (mW k b n m fr to w th be oe al pa bo rl ra mo) := mW_D ha
  have hl := lv_entry ([.ref (b 0), .int x]) (n := 5) (Nat.le_of_ble_eq_true rfl)
  rw [lg_entry_eq]
  generalize (lg_sl ([.ref (b 0), .int x]) ++ List.replicate (5 - (lg_sl ([.ref (b 0), .int x])).length) Slot.unset).toArray = ls at hl ⊢
  have hl : lv_has ls 5 [(0, .ref (b 0)), (1, .int x)] := hl
  obtain ⟨Q, hQ⟩ : ∃ Q, Q = MQ below (va_Qi (S := Int32) (fun r u => u = r ∧ (((frB n m fr to w th mo) = false ∧ r = -1000000003) ∨ ((frB n m fr to w th mo) = true ∧ odR n m fr to th x n 0 0 r))) (fun _ t => va_P D vwCl (mW k b n m fr to w th be oe al pa bo rl ra (frM n m fr to w th mo)) t.heap) (mA b)) ([.ref (b 0), .int x] : List Value).toArray s 0 0 (mA b) := ⟨_, rfl⟩
  rw [← hQ]
  obtain ⟨hn12, hm40, hft⟩ := id hg
  refine lv_aload_n hx hb dX4_order_0 rfl (lv_at hl 0 rfl) ?_
  refine cl_Qi (As := []) (rest := []) ⟨hx, hb, hml, hown, hts⟩ (c4_isFree l ha  hg) (cwV 0 hts gX4_order_X4_isFree rfl rfl rfl (by decide +kernel) ⟨Nat.le_of_ble_eq_true rfl, Nat.le_of_ble_eq_true rfl⟩) hK hP hS (fun _ h => h) (ci := 4) (q0 := 0) rfl rfl rfl rfl hl.1 rfl (Nat.le_of_ble_eq_true rfl) dX4_order_1 ⟨Nat.zero_le _, Nat.zero_le _⟩ (fun r1 H locs h1 hP _ _ hS => ?_)
  have hP : va_P D vwCl (mW k b n m fr to w th be oe al pa bo rl ra (frM n m fr to w th mo)) H := hP
  have hD : va_D (mA b) (mW k b n m fr to w th be oe al pa bo rl ra (frM n m fr to w th mo)) := mW_D ha
  subst h1
  refine rn_ifneb (tgt := 10) hx hb dX4_order_4 (by decide) (fun c4 => ?_) (fun c4 => ?_)
  · refine lv_iconst (v := 0) hx hb dX4_order_10 (by decide) ?_
    refine lv_istore_n (lv' := [(2, .int 0), (0, .ref (b 0)), (1, .int x)]) hx hb dX4_order_11 rfl hl (by decide) rfl (fun ls hl => ?_)
    refine lv_iconst (v := nI 0) hx hb dX4_order_12 (by decide) ?_
    refine lv_istore_n (lv' := [(3, .int (nI 0)), (2, .int 0), (0, .ref (b 0)), (1, .int x)]) hx hb dX4_order_13 rfl hl (by decide) rfl (fun ls hl => ?_)
    have key14 : ∀ (f14 i : Nat), n + 1 ≤ i + f14 → i ≤ n → ∀ (z1 : Int32), (odG n m fr to th (n - i) z1 ∧ ∀ r, odR n m fr to th x (n - i) i z1 r → odR n m fr to th x n 0 0 r) → ∀ (H : Heap) (locs : List Loc), va_P D vwCl (mW k b n m fr to w th be oe al pa bo rl ra (frM n m fr to w th mo)) H → va_S (mA b) s.heap H locs → ∀ (ls : Array Slot), lv_has ls 5 [(0, .ref (b 0)), (1, .int x), (2, .int z1), (3, .int (nI i))] → W p l e (headSpec wsX4_order { frames := 1, cells := 0, slots := 0, locals := 28 }).room s mt ([.ref (b 0), .int x] : List Value).toArray below meth c H locs 0 0 Q (F0 mt 14 ls []) := by
      intro f14
      induction f14 with
      | zero => intro i h1 h2; exact absurd h1 (by omega)
      | succ f14 ih14 =>
        intro i hf14 hi14 z1 hv14 H locs hP hS ls hl
        have hD : va_D (mA b) (mW k b n m fr to w th be oe al pa bo rl ra (frM n m fr to w th mo)) := mW_D ha
        refine lv_iload_n hx hb dX4_order_14 rfl (lv_at hl 3 rfl) ?_
        refine lv_aload_n hx hb dX4_order_15 rfl (lv_at hl 0 rfl) ?_
        refine va_get (D := D) (ci := 4) (v := .int (nI n)) (C := RX4) (T := TX4) (N := 14) hx hb hts i4 hown hK hP 0 rfl rfl 0 (by decide) (hts (.fieldLink RX4 45 "SignedPathsModel" "n" "I") (by decide +kernel)) (fun _ h9 => h9) rfl dX4_order_16 ?_
        refine rn_icmp_ge (tgt := 62) hx hb dX4_order_19 (by decide) (by omega) (by omega) (fun c19 => ?_) (fun c19 => ?_)
        · refine lv_iconst (v := (-1)) hx hb dX4_order_62 (by decide) ?_
          rw [hQ]
          exact W.iret (v := (-1)) hx hb hr (fun t ht hW => ⟨⟨_, _, rfl, ⟨rfl, (Or.inr ⟨c4, hv14.2 _ (by rw [show n - i = 0 by omega]; rfl)⟩)⟩, by show va_P D vwCl (mW k b n m fr to w th be oe al pa bo rl ra (frM n m fr to w th mo)) t.heap; rw [ht]; exact hP⟩, hS.F ht⟩) hS.2.2 dX4_order_63
        · obtain ⟨fz, hfz⟩ : ∃ fz, n - i = fz + 1 := ⟨n - i - 1, by omega⟩
          have hGG := hv14.1
          rw [hfz] at hGG
          obtain ⟨jj, hjj, hgj⟩ := hGG
          obtain ⟨hj1, hj2, hj3⟩ := fst_inv hjj
          refine lv_iconst (v := nI 0) hx hb dX4_order_22 (by decide) ?_
          refine lv_istore (lv' := [(4, .int (nI 0)), (0, .ref (b 0)), (1, .int x), (2, .int z1), (3, .int (nI i))]) hx hb dX4_order_23 hl (by decide) rfl (fun ls hl => ?_)
          have key25 : ∀ (f25 j : Nat), jj + 1 ≤ j + f25 → j ≤ jj → ∀ (H : Heap) (locs : List Loc), va_P D vwCl (mW k b n m fr to w th be oe al pa bo rl ra (frM n m fr to w th mo)) H → va_S (mA b) s.heap H locs → ∀ (ls : Array Slot), lv_has ls 5 [(0, .ref (b 0)), (1, .int x), (2, .int z1), (3, .int (nI i)), (4, .int (nI j))] → W p l e (headSpec wsX4_order { frames := 1, cells := 0, slots := 0, locals := 28 }).room s mt ([.ref (b 0), .int x] : List Value).toArray below meth c H locs 0 0 Q (F0 mt 25 ls []) := by
            intro f25
            induction f25 with
            | zero => intro j h1 h2; exact absurd h1 (by omega)
            | succ f25 ih25 =>
              intro j hf25 hi25   H locs hP hS ls hl
              have hD : va_D (mA b) (mW k b n m fr to w th be oe al pa bo rl ra (frM n m fr to w th mo)) := mW_D ha
              refine lv_aload_n hx hb dX4_order_25 rfl (lv_at hl 0 rfl) ?_
              refine lv_iload hx hb dX4_order_26 (lv_at hl 4 rfl) ?_
              refine lv_iload_n hx hb dX4_order_28 rfl (lv_at hl 2 rfl) ?_
              refine cl_Si (As := [.int (nI j), .int z1]) (rest := []) ⟨hx, hb, hml, hown, hts⟩ (c4_isNext l ha j z1 hg (by omega)) (cwV 2 hts gX4_order_X4_isNext rfl rfl rfl (by decide +kernel) ⟨Nat.le_of_ble_eq_true rfl, Nat.le_of_ble_eq_true rfl⟩) hK hP (ci := 4) (q0 := 0) rfl rfl rfl rfl hl.1 rfl (Nat.le_of_ble_eq_true rfl) dX4_order_29 ⟨Nat.zero_le _, Nat.zero_le _⟩ (fun r29 h29 => ?_)
              subst h29
              refine rn_ifneb (tgt := 41) hx hb dX4_order_32 (by decide) (fun c32 => ?_) (fun c32 => ?_)
              · have ej : j = jj := by rcases Nat.lt_or_ge j jj with q | q; (exact absurd (hj3 j q) (by simp [c32])); omega
                refine lv_iload_n hx hb dX4_order_41 rfl (lv_at hl 3 rfl) ?_
                refine lv_iload_n hx hb dX4_order_42 rfl (lv_at hl 1 rfl) ?_
                refine lv_icmp_ne (tgt := 49) hx hb dX4_order_43 (by decide) (fun c43 => ?_) (fun c43 => ?_)
                · refine lv_iload_n hx hb dX4_order_49 rfl (lv_at hl 2 rfl) ?_
                  refine lv_iconst (v := 1) hx hb dX4_order_50 (by decide) ?_
                  refine lv_iload hx hb dX4_order_51 (lv_at hl 4 rfl) ?_
                  refine lv_ishl hx hb dX4_order_53 ?_
                  refine lv_iadd hx hb dX4_order_54 ?_
                  refine lv_istore_n (lv' := [(2, .int (z1 + (1 <<< (nI j &&& 31)))), (0, .ref (b 0)), (1, .int x), (3, .int (nI i)), (4, .int (nI j))]) hx hb dX4_order_55 rfl hl (by decide) rfl (fun ls hl => ?_)
                  refine lv_iinc (v := nI (i + 1)) (lv' := [(3, .int (nI (i + 1))), (2, .int (z1 + (1 <<< (nI j &&& 31)))), (0, .ref (b 0)), (1, .int x), (4, .int (nI j))]) hx hb dX4_order_56 hl (k := 3) rfl (nI_1 i) (by decide) rfl (fun ls hl => ?_)
                  refine lv_goto (tgt := 14) hx hb dX4_order_59 (by decide) ?_
                  exact ih14 (i + 1) (by omega) (by omega) (odZ z1 j) ⟨by rw [show n - (i + 1) = fz by omega, ej]; exact hgj, fun r h => hv14.2 r (by rw [hfz]; exact ⟨jj, hjj, Or.inr ⟨c43, by rw [← ej, ← (show n - (i + 1) = fz by omega)]; exact h⟩⟩)⟩ _ _ (hP) hS ls (lv_sub hl [2, 3, 1, 0] rfl)
                · refine lv_iload hx hb dX4_order_46 (lv_at hl 4 rfl) ?_
                  rw [hQ]
                  exact W.iret (v := nI j) hx hb hr (fun t ht hW => ⟨⟨_, _, rfl, ⟨rfl, (Or.inr ⟨c4, hv14.2 _ (by rw [hfz]; exact ⟨jj, hjj, Or.inl ⟨c43, by rw [ej]⟩⟩)⟩)⟩, by show va_P D vwCl (mW k b n m fr to w th be oe al pa bo rl ra (frM n m fr to w th mo)) t.heap; rw [ht]; exact hP⟩, hS.F ht⟩) hS.2.2 dX4_order_48
              · refine lv_iinc (v := nI (j + 1)) (lv' := [(4, .int (nI (j + 1))), (0, .ref (b 0)), (1, .int x), (2, .int z1), (3, .int (nI i))]) hx hb dX4_order_35 hl (k := 4) rfl (nI_1 j) (by decide) rfl (fun ls hl => ?_)
                refine lv_goto (tgt := 25) hx hb dX4_order_38 (by decide) ?_
                have hq : j ≠ jj := by intro q; rw [← q] at hj2; rw [c32] at hj2; cases hj2
                exact ih25 (j + 1) (by omega) (by omega)  _ _ (hP) hS ls (lv_sub hl [1, 2, 3, 4, 0] rfl)
          exact key25 (jj + 1) 0 (by omega) (by omega)  _ _ (hP) hS ls (lv_sub hl [1, 2, 3, 4, 0] rfl)
    exact key14 (n + 1) 0 (by omega) (by omega) 0 ⟨hod c4, fun _ h => h⟩ _ _ (hP) hS ls (lv_sub hl [2, 3, 1, 0] rfl)
  · refine lv_ldc (v := (-1000000003)) hx hb hown (hts (.constant RX4 118 (-1000000003)) (by decide +kernel)) dX4_order_7 ?_
    rw [hQ]
    exact W.iret (v := (-1000000003)) hx hb hr (fun t ht hW => ⟨⟨_, _, rfl, ⟨rfl, (Or.inl ⟨c4, rfl⟩)⟩, by show va_P D vwCl (mW k b n m fr to w th be oe al pa bo rl ra (frM n m fr to w th mo)) t.heap; rw [ht]; exact hP⟩, hS.F ht⟩) hS.2.2 dX4_order_9
set_option maxHeartbeats 4000000 in
set_option maxRecDepth 100000 in
theorem c4_far (l : Launch) {D : va_G} {k : Nat → ClassId} {b : Nat → Nat} {n : Nat} {m : Nat} {fr : Nat → Nat} {to : Nat → Nat} {w : Nat → Int32} {th : Nat → Bool} {be : Nat → Int64} {oe : Nat → Int64} {al : Nat → Int64} {pa : Nat → Int64} {bo : Nat → Int64} {rl : Nat} {ra : Nat → Nat} {mo : Nat → Int64} (ha : inj 12 b) (x : Int32) (hg : gOK n m fr to) : Met l yX4_far wsX4_far ({ frames := 2, cells := 0, slots := 0, locals := 44 }) (gPc D k (mW k b n m fr to w th be oe al pa bo rl ra mo) [.ref (b 0), .int x]) (va_Qi (S := Int32) (fun r u => u = r ∧ (r = bw (ixB x n) (bw (frB n m fr to w th mo) (wOf (gtF n (frM n m fr to w th mo) x.toNatClampNeg true)) (-1000000003)) (-1000000001))) (fun _ t => va_P D vwCl (mW k b n m fr to w th be oe al pa bo rl ra (bw (ixB x n) (frM n m fr to w th mo) mo)) t.heap) (mA b)) 0 0 (mA b) := by
  refine Met.ofW (cc := cX4_far) (maxL := 2) (ret := (some .int)) (by decide) rfl ?_
  intro p e s mt args below meth c s₁ B hml hv
  obtain ⟨rfl, hP, hK⟩ := hv
  have hx := B.exec
  have hb := B.bytes
  have hr := B.returns
  have hts := atoms_spec (ws := wsX4_far) B.pre
  have hown : s.vm.findClass RX4 = some mt.cls := findClass_of_methodNamed B.named
  have hlocks := B.notSynchronized
  have i4 : ∀ w ∈ wsX40, w ∈ wsX4_far := by decide +kernel
  have hS : va_S (mA b) s.heap s.heap [] := va_S.rf
  have hD : va_D (mA b) (mW k b n m fr to w th be oe al pa bo rl ra mo) := mW_D ha
  have hl := lv_entry ([.ref (b 0), .int x]) (n := 2) (Nat.le_of_ble_eq_true rfl)
  rw [lg_entry_eq]
  generalize (lg_sl ([.ref (b 0), .int x]) ++ List.replicate (2 - (lg_sl ([.ref (b 0), .int x])).length) Slot.unset).toArray = ls at hl ⊢
  have hl : lv_has ls 2 [(0, .ref (b 0)), (1, .int x)] := hl
  obtain ⟨hn12, hm40, hft⟩ := id hg
  refine lv_aload_n hx hb dX4_far_0 rfl (lv_at hl 0 rfl) ?_
  refine lv_iload_n hx hb dX4_far_1 rfl (lv_at hl 1 rfl) ?_
  refine cl_Si (As := [.int x]) (rest := []) ⟨hx, hb, hml, hown, hts⟩ (c4_isNode l ha x (by omega)) (cwV 1 hts gX4_far_X4_isNode rfl rfl rfl (by decide +kernel) ⟨Nat.le_of_ble_eq_true rfl, Nat.le_of_ble_eq_true rfl⟩) hK hP (ci := 4) (q0 := 0) rfl rfl rfl rfl hl.1 rfl (Nat.le_of_ble_eq_true rfl) dX4_far_2 ⟨Nat.zero_le _, Nat.zero_le _⟩ (fun r2 h2 => ?_)
  subst h2
  refine rn_ifneb (tgt := 11) hx hb dX4_far_5 (by decide) (fun c5 => ?_) (fun c5 => ?_)
  · obtain ⟨u, hu, rfl⟩ := ixB_t (by omega) c5
    have e1 : (nI u).toNatClampNeg = u := nI_clamp (by omega)
    refine lv_aload_n hx hb dX4_far_11 rfl (lv_at hl 0 rfl) ?_
    refine cl_Qi (As := []) (rest := []) ⟨hx, hb, hml, hown, hts⟩ (c4_isFree l ha  hg) (cwV 0 hts gX4_far_X4_isFree rfl rfl rfl (by decide +kernel) ⟨Nat.le_of_ble_eq_true rfl, Nat.le_of_ble_eq_true rfl⟩) hK hP hS (fun _ h => h) (ci := 4) (q0 := 0) rfl rfl rfl rfl hl.1 rfl (Nat.le_of_ble_eq_true rfl) dX4_far_12 ⟨Nat.zero_le _, Nat.zero_le _⟩ (fun r12 H locs h12 hP _ _ hS => ?_)
    have hP : va_P D vwCl (mW k b n m fr to w th be oe al pa bo rl ra (frM n m fr to w th mo)) H := hP
    have hD : va_D (mA b) (mW k b n m fr to w th be oe al pa bo rl ra (frM n m fr to w th mo)) := mW_D ha
    subst h12
    refine rn_ifeqb (tgt := 30) hx hb dX4_far_15 (by decide) (fun c15 => ?_) (fun c15 => ?_)
    · refine lv_ldc (v := (-1000000003)) hx hb hown (hts (.constant RX4 118 (-1000000003)) (by decide +kernel)) dX4_far_30 ?_
      exact W.iret (v := (-1000000003)) hx hb hr (fun t ht hW => ⟨⟨_, _, rfl, ⟨rfl, (by rw [bw_t c5, bw_f c15])⟩, by show va_P D vwCl (mW k b n m fr to w th be oe al pa bo rl ra (bw (ixB (nI u) n) (frM n m fr to w th mo) mo)) t.heap; rw [ht]; rw [bw_t c5]; exact hP⟩, hS.F ht⟩) hS.2.2 dX4_far_32
    · refine lv_aload_n hx hb dX4_far_18 rfl (lv_at hl 0 rfl) ?_
      refine lv_iload_n hx hb dX4_far_19 rfl (lv_at hl 1 rfl) ?_
      refine lv_iconst (v := bI true) hx hb dX4_far_20 (by decide) ?_
      refine cl_Sl (As := [.int (nI u), .int (bI true)]) (rest := []) ⟨hx, hb, hml, hown, hts⟩ (c4_greatest l ha u true hg (by omega)) (cwV 2 hts gX4_far_X4_greatest rfl rfl rfl (by decide +kernel) ⟨Nat.le_of_ble_eq_true rfl, Nat.le_of_ble_eq_true rfl⟩) hK hP (ci := 4) (q0 := 0) rfl rfl rfl rfl hl.1 rfl (Nat.le_of_ble_eq_true rfl) dX4_far_21 ⟨Nat.zero_le _, Nat.zero_le _⟩ (fun r21 h21 => ?_)
      subst h21
      refine cl_Ti (As := [.long (gtF n (frM n m fr to w th mo) u true)]) (rest := []) ⟨hx, hb, hml, hown, hts⟩ (c4_weightOf l (gtF n (frM n m fr to w th mo) u true) ) (va_cwS 1 hts gX4_far_X4_weightOf rfl rfl rfl (by decide +kernel) ⟨Nat.le_of_ble_eq_true rfl, Nat.le_of_ble_eq_true rfl⟩) rfl hl.1 rfl (Nat.le_of_ble_eq_true rfl) dX4_far_24 ⟨Nat.zero_le _, Nat.zero_le _⟩ (fun r24 h24 => ?_)
      subst h24
      refine lv_goto (tgt := 32) hx hb dX4_far_27 (by decide) ?_
      exact W.iret (v := wOf (gtF n (frM n m fr to w th mo) u true)) hx hb hr (fun t ht hW => ⟨⟨_, _, rfl, ⟨rfl, (by rw [bw_t c5, bw_t c15, e1])⟩, by show va_P D vwCl (mW k b n m fr to w th be oe al pa bo rl ra (bw (ixB (nI u) n) (frM n m fr to w th mo) mo)) t.heap; rw [ht]; rw [bw_t c5]; exact hP⟩, hS.F ht⟩) hS.2.2 dX4_far_32
  · refine lv_ldc (v := (-1000000001)) hx hb hown (hts (.constant RX4 61 (-1000000001)) (by decide +kernel)) dX4_far_8 ?_
    exact W.iret (v := (-1000000001)) hx hb hr (fun t ht hW => ⟨⟨_, _, rfl, ⟨rfl, (by rw [bw_f c5])⟩, by show va_P D vwCl (mW k b n m fr to w th be oe al pa bo rl ra (bw (ixB x n) (frM n m fr to w th mo) mo)) t.heap; rw [ht]; rw [bw_f c5]; exact hP⟩, hS.F ht⟩) hS.2.2 dX4_far_10
set_option maxHeartbeats 4000000 in
set_option maxRecDepth 100000 in
theorem c4_late (l : Launch) {D : va_G} {k : Nat → ClassId} {b : Nat → Nat} {n : Nat} {m : Nat} {fr : Nat → Nat} {to : Nat → Nat} {w : Nat → Int32} {th : Nat → Bool} {be : Nat → Int64} {oe : Nat → Int64} {al : Nat → Int64} {pa : Nat → Int64} {bo : Nat → Int64} {rl : Nat} {ra : Nat → Nat} {mo : Nat → Int64} (ha : inj 12 b) (x : Int32) (hg : gOK n m fr to) : Met l yX4_late wsX4_late ({ frames := 2, cells := 0, slots := 0, locals := 50 }) (gPc D k (mW k b n m fr to w th be oe al pa bo rl ra mo) [.ref (b 0), .int x]) (va_Qi (S := Int32) (fun r u => u = r ∧ (r = bw (ixB x n) (bw (frB n m fr to w th mo) (wOf (tpF n (frM n m fr to w th mo)) - wOf (gtF n (frM n m fr to w th mo) x.toNatClampNeg false)) (-1000000003)) (-1000000001))) (fun _ t => va_P D vwCl (mW k b n m fr to w th be oe al pa bo rl ra (bw (ixB x n) (frM n m fr to w th mo) mo)) t.heap) (mA b)) 0 0 (mA b) := by
  refine Met.ofW (cc := cX4_late) (maxL := 2) (ret := (some .int)) (by decide) rfl ?_
  intro p e s mt args below meth c s₁ B hml hv
  obtain ⟨rfl, hP, hK⟩ := hv
  have hx := B.exec
  have hb := B.bytes
  have hr := B.returns
  have hts := atoms_spec (ws := wsX4_late) B.pre
  have hown : s.vm.findClass RX4 = some mt.cls := findClass_of_methodNamed B.named
  have hlocks := B.notSynchronized
  have i4 : ∀ w ∈ wsX40, w ∈ wsX4_late := by decide +kernel
  have hS : va_S (mA b) s.heap s.heap [] := va_S.rf
  have hD : va_D (mA b) (mW k b n m fr to w th be oe al pa bo rl ra mo) := mW_D ha
  have hl := lv_entry ([.ref (b 0), .int x]) (n := 2) (Nat.le_of_ble_eq_true rfl)
  rw [lg_entry_eq]
  generalize (lg_sl ([.ref (b 0), .int x]) ++ List.replicate (2 - (lg_sl ([.ref (b 0), .int x])).length) Slot.unset).toArray = ls at hl ⊢
  have hl : lv_has ls 2 [(0, .ref (b 0)), (1, .int x)] := hl
  obtain ⟨hn12, hm40, hft⟩ := id hg
  refine lv_aload_n hx hb dX4_late_0 rfl (lv_at hl 0 rfl) ?_
  refine lv_iload_n hx hb dX4_late_1 rfl (lv_at hl 1 rfl) ?_
  refine cl_Si (As := [.int x]) (rest := []) ⟨hx, hb, hml, hown, hts⟩ (c4_isNode l ha x (by omega)) (cwV 1 hts gX4_late_X4_isNode rfl rfl rfl (by decide +kernel) ⟨Nat.le_of_ble_eq_true rfl, Nat.le_of_ble_eq_true rfl⟩) hK hP (ci := 4) (q0 := 0) rfl rfl rfl rfl hl.1 rfl (Nat.le_of_ble_eq_true rfl) dX4_late_2 ⟨Nat.zero_le _, Nat.zero_le _⟩ (fun r2 h2 => ?_)
  subst h2
  refine rn_ifneb (tgt := 11) hx hb dX4_late_5 (by decide) (fun c5 => ?_) (fun c5 => ?_)
  · obtain ⟨u, hu, rfl⟩ := ixB_t (by omega) c5
    have e1 : (nI u).toNatClampNeg = u := nI_clamp (by omega)
    refine lv_aload_n hx hb dX4_late_11 rfl (lv_at hl 0 rfl) ?_
    refine cl_Qi (As := []) (rest := []) ⟨hx, hb, hml, hown, hts⟩ (c4_isFree l ha  hg) (cwV 0 hts gX4_late_X4_isFree rfl rfl rfl (by decide +kernel) ⟨Nat.le_of_ble_eq_true rfl, Nat.le_of_ble_eq_true rfl⟩) hK hP hS (fun _ h => h) (ci := 4) (q0 := 0) rfl rfl rfl rfl hl.1 rfl (Nat.le_of_ble_eq_true rfl) dX4_late_12 ⟨Nat.zero_le _, Nat.zero_le _⟩ (fun r12 H locs h12 hP _ _ hS => ?_)
    have hP : va_P D vwCl (mW k b n m fr to w th be oe al pa bo rl ra (frM n m fr to w th mo)) H := hP
    have hD : va_D (mA b) (mW k b n m fr to w th be oe al pa bo rl ra (frM n m fr to w th mo)) := mW_D ha
    subst h12
    refine rn_ifeqb (tgt := 38) hx hb dX4_late_15 (by decide) (fun c15 => ?_) (fun c15 => ?_)
    · refine lv_ldc (v := (-1000000003)) hx hb hown (hts (.constant RX4 118 (-1000000003)) (by decide +kernel)) dX4_late_38 ?_
      exact W.iret (v := (-1000000003)) hx hb hr (fun t ht hW => ⟨⟨_, _, rfl, ⟨rfl, (by rw [bw_t c5, bw_f c15])⟩, by show va_P D vwCl (mW k b n m fr to w th be oe al pa bo rl ra (bw (ixB (nI u) n) (frM n m fr to w th mo) mo)) t.heap; rw [ht]; rw [bw_t c5]; exact hP⟩, hS.F ht⟩) hS.2.2 dX4_late_40
    · refine lv_aload_n hx hb dX4_late_18 rfl (lv_at hl 0 rfl) ?_
      refine cl_Sl (As := []) (rest := []) ⟨hx, hb, hml, hown, hts⟩ (c4_top l ha  hg) (cwV 0 hts gX4_late_X4_top rfl rfl rfl (by decide +kernel) ⟨Nat.le_of_ble_eq_true rfl, Nat.le_of_ble_eq_true rfl⟩) hK hP (ci := 4) (q0 := 0) rfl rfl rfl rfl hl.1 rfl (Nat.le_of_ble_eq_true rfl) dX4_late_19 ⟨Nat.zero_le _, Nat.zero_le _⟩ (fun r19 h19 => ?_)
      subst h19
      refine cl_Ti (As := [.long (tpF n (frM n m fr to w th mo))]) (rest := []) ⟨hx, hb, hml, hown, hts⟩ (c4_weightOf l (tpF n (frM n m fr to w th mo)) ) (va_cwS 1 hts gX4_late_X4_weightOf rfl rfl rfl (by decide +kernel) ⟨Nat.le_of_ble_eq_true rfl, Nat.le_of_ble_eq_true rfl⟩) rfl hl.1 rfl (Nat.le_of_ble_eq_true rfl) dX4_late_22 ⟨Nat.zero_le _, Nat.zero_le _⟩ (fun r22 h22 => ?_)
      subst h22
      refine lv_aload_n hx hb dX4_late_25 rfl (lv_at hl 0 rfl) ?_
      refine lv_iload_n hx hb dX4_late_26 rfl (lv_at hl 1 rfl) ?_
      refine lv_iconst (v := bI false) hx hb dX4_late_27 (by decide) ?_
      refine cl_Sl (As := [.int (nI u), .int (bI false)]) (rest := [.int (wOf (tpF n (frM n m fr to w th mo)))]) ⟨hx, hb, hml, hown, hts⟩ (c4_greatest l ha u false hg (by omega)) (cwV 2 hts gX4_late_X4_greatest rfl rfl rfl (by decide +kernel) ⟨Nat.le_of_ble_eq_true rfl, Nat.le_of_ble_eq_true rfl⟩) hK hP (ci := 4) (q0 := 0) rfl rfl rfl rfl hl.1 rfl (Nat.le_of_ble_eq_true rfl) dX4_late_28 ⟨Nat.zero_le _, Nat.zero_le _⟩ (fun r28 h28 => ?_)
      subst h28
      refine cl_Ti (As := [.long (gtF n (frM n m fr to w th mo) u false)]) (rest := [.int (wOf (tpF n (frM n m fr to w th mo)))]) ⟨hx, hb, hml, hown, hts⟩ (c4_weightOf l (gtF n (frM n m fr to w th mo) u false) ) (va_cwS 1 hts gX4_late_X4_weightOf rfl rfl rfl (by decide +kernel) ⟨Nat.le_of_ble_eq_true rfl, Nat.le_of_ble_eq_true rfl⟩) rfl hl.1 rfl (Nat.le_of_ble_eq_true rfl) dX4_late_31 ⟨Nat.zero_le _, Nat.zero_le _⟩ (fun r31 h31 => ?_)
      subst h31
      refine lv_isub hx hb dX4_late_34 ?_
      refine lv_goto (tgt := 40) hx hb dX4_late_35 (by decide) ?_
      exact W.iret (v := (wOf (tpF n (frM n m fr to w th mo))) - (wOf (gtF n (frM n m fr to w th mo) u false))) hx hb hr (fun t ht hW => ⟨⟨_, _, rfl, ⟨rfl, (by rw [bw_t c5, bw_t c15, e1])⟩, by show va_P D vwCl (mW k b n m fr to w th be oe al pa bo rl ra (bw (ixB (nI u) n) (frM n m fr to w th mo) mo)) t.heap; rw [ht]; rw [bw_t c5]; exact hP⟩, hS.F ht⟩) hS.2.2 dX4_late_40
  · refine lv_ldc (v := (-1000000001)) hx hb hown (hts (.constant RX4 61 (-1000000001)) (by decide +kernel)) dX4_late_8 ?_
    exact W.iret (v := (-1000000001)) hx hb hr (fun t ht hW => ⟨⟨_, _, rfl, ⟨rfl, (by rw [bw_f c5])⟩, by show va_P D vwCl (mW k b n m fr to w th be oe al pa bo rl ra (bw (ixB x n) (frM n m fr to w th mo) mo)) t.heap; rw [ht]; rw [bw_f c5]; exact hP⟩, hS.F ht⟩) hS.2.2 dX4_late_10
set_option maxHeartbeats 4000000 in
set_option maxRecDepth 100000 in
theorem c4_whole (l : Launch) {D : va_G} {k : Nat → ClassId} {b : Nat → Nat} {n : Nat} {m : Nat} {fr : Nat → Nat} {to : Nat → Nat} {w : Nat → Int32} {th : Nat → Bool} {be : Nat → Int64} {oe : Nat → Int64} {al : Nat → Int64} {pa : Nat → Int64} {bo : Nat → Int64} {rl : Nat} {ra : Nat → Nat} {mo : Nat → Int64} (ha : inj 12 b)  (hg : gOK n m fr to) : Met l yX4_whole wsX4_whole ({ frames := 2, cells := 0, slots := 0, locals := 50 }) (gPc D k (mW k b n m fr to w th be oe al pa bo rl ra mo) [.ref (b 0)]) (va_Qi (S := Int32) (fun r u => u = r ∧ (r = bw (frB n m fr to w th mo) (wOf (tpF n (frM n m fr to w th mo))) (-1000000003))) (fun _ t => va_P D vwCl (mW k b n m fr to w th be oe al pa bo rl ra (frM n m fr to w th mo)) t.heap) (mA b)) 0 0 (mA b) := by
  refine Met.ofW (cc := cX4_whole) (maxL := 1) (ret := (some .int)) (by decide) rfl ?_
  intro p e s mt args below meth c s₁ B hml hv
  obtain ⟨rfl, hP, hK⟩ := hv
  have hx := B.exec
  have hb := B.bytes
  have hr := B.returns
  have hts := atoms_spec (ws := wsX4_whole) B.pre
  have hown : s.vm.findClass RX4 = some mt.cls := findClass_of_methodNamed B.named
  have hlocks := B.notSynchronized
  have i4 : ∀ w ∈ wsX40, w ∈ wsX4_whole := by decide +kernel
  have hS : va_S (mA b) s.heap s.heap [] := va_S.rf
  have hD : va_D (mA b) (mW k b n m fr to w th be oe al pa bo rl ra mo) := mW_D ha
  have hl := lv_entry ([.ref (b 0)]) (n := 1) (Nat.le_of_ble_eq_true rfl)
  rw [lg_entry_eq]
  generalize (lg_sl ([.ref (b 0)]) ++ List.replicate (1 - (lg_sl ([.ref (b 0)])).length) Slot.unset).toArray = ls at hl ⊢
  have hl : lv_has ls 1 [(0, .ref (b 0))] := hl
  obtain ⟨hn12, hm40, hft⟩ := id hg
  refine lv_aload_n hx hb dX4_whole_0 rfl (lv_at hl 0 rfl) ?_
  refine cl_Qi (As := []) (rest := []) ⟨hx, hb, hml, hown, hts⟩ (c4_isFree l ha  hg) (cwV 0 hts gX4_whole_X4_isFree rfl rfl rfl (by decide +kernel) ⟨Nat.le_of_ble_eq_true rfl, Nat.le_of_ble_eq_true rfl⟩) hK hP hS (fun _ h => h) (ci := 4) (q0 := 0) rfl rfl rfl rfl hl.1 rfl (Nat.le_of_ble_eq_true rfl) dX4_whole_1 ⟨Nat.zero_le _, Nat.zero_le _⟩ (fun r1 H locs h1 hP _ _ hS => ?_)
  have hP : va_P D vwCl (mW k b n m fr to w th be oe al pa bo rl ra (frM n m fr to w th mo)) H := hP
  have hD : va_D (mA b) (mW k b n m fr to w th be oe al pa bo rl ra (frM n m fr to w th mo)) := mW_D ha
  subst h1
  refine rn_ifeqb (tgt := 17) hx hb dX4_whole_4 (by decide) (fun c4 => ?_) (fun c4 => ?_)
  · refine lv_ldc (v := (-1000000003)) hx hb hown (hts (.constant RX4 118 (-1000000003)) (by decide +kernel)) dX4_whole_17 ?_
    exact W.iret (v := (-1000000003)) hx hb hr (fun t ht hW => ⟨⟨_, _, rfl, ⟨rfl, (by rw [bw_f c4])⟩, by show va_P D vwCl (mW k b n m fr to w th be oe al pa bo rl ra (frM n m fr to w th mo)) t.heap; rw [ht]; exact hP⟩, hS.F ht⟩) hS.2.2 dX4_whole_19
  · refine lv_aload_n hx hb dX4_whole_7 rfl (lv_at hl 0 rfl) ?_
    refine cl_Sl (As := []) (rest := []) ⟨hx, hb, hml, hown, hts⟩ (c4_top l ha  hg) (cwV 0 hts gX4_whole_X4_top rfl rfl rfl (by decide +kernel) ⟨Nat.le_of_ble_eq_true rfl, Nat.le_of_ble_eq_true rfl⟩) hK hP (ci := 4) (q0 := 0) rfl rfl rfl rfl hl.1 rfl (Nat.le_of_ble_eq_true rfl) dX4_whole_8 ⟨Nat.zero_le _, Nat.zero_le _⟩ (fun r8 h8 => ?_)
    subst h8
    refine cl_Ti (As := [.long (tpF n (frM n m fr to w th mo))]) (rest := []) ⟨hx, hb, hml, hown, hts⟩ (c4_weightOf l (tpF n (frM n m fr to w th mo)) ) (va_cwS 1 hts gX4_whole_X4_weightOf rfl rfl rfl (by decide +kernel) ⟨Nat.le_of_ble_eq_true rfl, Nat.le_of_ble_eq_true rfl⟩) rfl hl.1 rfl (Nat.le_of_ble_eq_true rfl) dX4_whole_11 ⟨Nat.zero_le _, Nat.zero_le _⟩ (fun r11 h11 => ?_)
    subst h11
    refine lv_goto (tgt := 19) hx hb dX4_whole_14 (by decide) ?_
    exact W.iret (v := wOf (tpF n (frM n m fr to w th mo))) hx hb hr (fun t ht hW => ⟨⟨_, _, rfl, ⟨rfl, (by rw [bw_t c4])⟩, by show va_P D vwCl (mW k b n m fr to w th be oe al pa bo rl ra (frM n m fr to w th mo)) t.heap; rw [ht]; exact hP⟩, hS.F ht⟩) hS.2.2 dX4_whole_19
set_option maxHeartbeats 4000000 in
set_option maxRecDepth 100000 in
theorem c4_critical (l : Launch) {D : va_G} {k : Nat → ClassId} {b : Nat → Nat} {n : Nat} {m : Nat} {fr : Nat → Nat} {to : Nat → Nat} {w : Nat → Int32} {th : Nat → Bool} {be : Nat → Int64} {oe : Nat → Int64} {al : Nat → Int64} {pa : Nat → Int64} {bo : Nat → Int64} {rl : Nat} {ra : Nat → Nat} {mo : Nat → Int64} (ha : inj 12 b) (x : Int32) (hg : gOK n m fr to) (hcr : frB n m fr to w th mo = true → crG n m fr to w th (frM n m fr to w th mo) 50 (-1) (tpF n (frM n m fr to w th mo))) : Met l yX4_critical wsX4_critical ({ frames := 2, cells := 0, slots := 0, locals := 50 }) (gPc D k (mW k b n m fr to w th be oe al pa bo rl ra mo) [.ref (b 0), .int x]) (va_Qi (S := Int32) (fun r u => u = r ∧ (((frB n m fr to w th mo) = false ∧ r = -1000000003) ∨ ((frB n m fr to w th mo) = true ∧ crR n m fr to w th (frM n m fr to w th mo) x 50 (-1) (tpF n (frM n m fr to w th mo)) 0 r))) (fun _ t => va_P D vwCl (mW k b n m fr to w th be oe al pa bo rl ra (frM n m fr to w th mo)) t.heap) (mA b)) 0 0 (mA b) := by
  refine Met.ofW (cc := cX4_critical) (maxL := 7) (ret := (some .int)) (by decide) rfl ?_
  intro p e s mt args below meth c s₁ B hml hv
  obtain ⟨rfl, hP, hK⟩ := hv
  have hx := B.exec
  have hb := B.bytes
  have hr := B.returns
  have hts := atoms_spec (ws := wsX4_critical) B.pre
  have hown : s.vm.findClass RX4 = some mt.cls := findClass_of_methodNamed B.named
  have hlocks := B.notSynchronized
  have i4 : ∀ w ∈ wsX40, w ∈ wsX4_critical := by decide +kernel
  have hS : va_S (mA b) s.heap s.heap [] := va_S.rf
  have hD : va_D (mA b) (mW k b n m fr to w th be oe al pa bo rl ra mo) := mW_D ha
  have hl := lv_entry ([.ref (b 0), .int x]) (n := 7) (Nat.le_of_ble_eq_true rfl)
  rw [lg_entry_eq]
  generalize (lg_sl ([.ref (b 0), .int x]) ++ List.replicate (7 - (lg_sl ([.ref (b 0), .int x])).length) Slot.unset).toArray = ls at hl ⊢
  have hl : lv_has ls 7 [(0, .ref (b 0)), (1, .int x)] := hl
  obtain ⟨Q, hQ⟩ : ∃ Q, Q = MQ below (va_Qi (S := Int32) (fun r u => u = r ∧ (((frB n m fr to w th mo) = false ∧ r = -1000000003) ∨ ((frB n m fr to w th mo) = true ∧ crR n m fr to w th (frM n m fr to w th mo) x 50 (-1) (tpF n (frM n m fr to w th mo)) 0 r))) (fun _ t => va_P D vwCl (mW k b n m fr to w th be oe al pa bo rl ra (frM n m fr to w th mo)) t.heap) (mA b)) ([.ref (b 0), .int x] : List Value).toArray s 0 0 (mA b) := ⟨_, rfl⟩
  rw [← hQ]
  obtain ⟨hn12, hm40, hft⟩ := id hg
  refine lv_aload_n hx hb dX4_critical_0 rfl (lv_at hl 0 rfl) ?_
  refine cl_Qi (As := []) (rest := []) ⟨hx, hb, hml, hown, hts⟩ (c4_isFree l ha  hg) (cwV 0 hts gX4_critical_X4_isFree rfl rfl rfl (by decide +kernel) ⟨Nat.le_of_ble_eq_true rfl, Nat.le_of_ble_eq_true rfl⟩) hK hP hS (fun _ h => h) (ci := 4) (q0 := 0) rfl rfl rfl rfl hl.1 rfl (Nat.le_of_ble_eq_true rfl) dX4_critical_1 ⟨Nat.zero_le _, Nat.zero_le _⟩ (fun r1 H locs h1 hP _ _ hS => ?_)
  have hP : va_P D vwCl (mW k b n m fr to w th be oe al pa bo rl ra (frM n m fr to w th mo)) H := hP
  have hD : va_D (mA b) (mW k b n m fr to w th be oe al pa bo rl ra (frM n m fr to w th mo)) := mW_D ha
  subst h1
  refine rn_ifneb (tgt := 10) hx hb dX4_critical_4 (by decide) (fun c4 => ?_) (fun c4 => ?_)
  · refine lv_aload_n hx hb dX4_critical_10 rfl (lv_at hl 0 rfl) ?_
    refine cl_Sl (As := []) (rest := []) ⟨hx, hb, hml, hown, hts⟩ (c4_top l ha  hg) (cwV 0 hts gX4_critical_X4_top rfl rfl rfl (by decide +kernel) ⟨Nat.le_of_ble_eq_true rfl, Nat.le_of_ble_eq_true rfl⟩) hK hP (ci := 4) (q0 := 0) rfl rfl rfl rfl hl.1 rfl (Nat.le_of_ble_eq_true rfl) dX4_critical_11 ⟨Nat.zero_le _, Nat.zero_le _⟩ (fun r11 h11 => ?_)
    subst h11
    refine lv_lstore_n (lv' := [(2, .long (tpF n (frM n m fr to w th mo))), (0, .ref (b 0)), (1, .int x)]) hx hb dX4_critical_14 rfl hl (by decide) rfl (fun ls hl => ?_)
    refine lv_iconst (v := (-1)) hx hb dX4_critical_15 (by decide) ?_
    refine lv_istore (lv' := [(4, .int (-1)), (2, .long (tpF n (frM n m fr to w th mo))), (0, .ref (b 0)), (1, .int x)]) hx hb dX4_critical_16 hl (by decide) rfl (fun ls hl => ?_)
    refine lv_iconst (v := nI 0) hx hb dX4_critical_18 (by decide) ?_
    refine lv_istore (lv' := [(5, .int (nI 0)), (4, .int (-1)), (2, .long (tpF n (frM n m fr to w th mo))), (0, .ref (b 0)), (1, .int x)]) hx hb dX4_critical_19 hl (by decide) rfl (fun ls hl => ?_)
    have key21 : ∀ (f21 i : Nat), 50 + 1 ≤ i + f21 → i ≤ 50 → ∀ (lf : Int64), ∀ (nd : Int32), (crG n m fr to w th (frM n m fr to w th mo) (50 - i) nd lf ∧ ∀ r, crR n m fr to w th (frM n m fr to w th mo) x (50 - i) nd lf i r → crR n m fr to w th (frM n m fr to w th mo) x 50 (-1) (tpF n (frM n m fr to w th mo)) 0 r) → ∀ (H : Heap) (locs : List Loc), va_P D vwCl (mW k b n m fr to w th be oe al pa bo rl ra (frM n m fr to w th mo)) H → va_S (mA b) s.heap H locs → ∀ (ls : Array Slot), lv_has ls 7 [(0, .ref (b 0)), (1, .int x), (2, .long lf), (4, .int nd), (5, .int (nI i))] → W p l e (headSpec wsX4_critical { frames := 2, cells := 0, slots := 0, locals := 50 }).room s mt ([.ref (b 0), .int x] : List Value).toArray below meth c H locs 0 0 Q (F0 mt 21 ls []) := by
      intro f21
      induction f21 with
      | zero => intro i h1 h2; exact absurd h1 (by omega)
      | succ f21 ih21 =>
        intro i hf21 hi21 lf nd hv21 H locs hP hS ls hl
        have hD : va_D (mA b) (mW k b n m fr to w th be oe al pa bo rl ra (frM n m fr to w th mo)) := mW_D ha
        refine lv_lload_n hx hb dX4_critical_21 rfl (lv_at hl 2 rfl) ?_
        refine lv_lconst (v := 0) hx hb dX4_critical_22 (by decide) ?_
        refine rn_lcmp_eq (tgt := 137) hx hb dX4_critical_23 dX4_critical_24 (by decide) (fun c23 => ?_) (fun c23 => ?_)
        · obtain ⟨fz, hfz⟩ := crG_pos hv21.1
          refine lv_iconst (v := (-1)) hx hb dX4_critical_137 (by decide) ?_
          rw [hQ]
          exact W.iret (v := (-1)) hx hb hr (fun t ht hW => ⟨⟨_, _, rfl, ⟨rfl, (Or.inr ⟨c4, hv21.2 _ (by rw [hfz]; exact Or.inl ⟨c23, rfl⟩)⟩)⟩, by show va_P D vwCl (mW k b n m fr to w th be oe al pa bo rl ra (frM n m fr to w th mo)) t.heap; rw [ht]; exact hP⟩, hS.F ht⟩) hS.2.2 dX4_critical_138
        · obtain ⟨fz, hfz⟩ := crG_pos hv21.1
          have hGG := hv21.1
          rw [hfz] at hGG
          obtain ⟨jj, hjj, hgj⟩ := crG_s hGG c23
          obtain ⟨hj1, hj2, hj3⟩ := fst_inv hjj
          refine lv_iconst (v := nI 0) hx hb dX4_critical_27 (by decide) ?_
          refine lv_istore (lv' := [(6, .int (nI 0)), (0, .ref (b 0)), (1, .int x), (2, .long lf), (4, .int nd), (5, .int (nI i))]) hx hb dX4_critical_28 hl (by decide) rfl (fun ls hl => ?_)
          have key30 : ∀ (f30 j : Nat), jj + 1 ≤ j + f30 → j ≤ jj → ∀ (H : Heap) (locs : List Loc), va_P D vwCl (mW k b n m fr to w th be oe al pa bo rl ra (frM n m fr to w th mo)) H → va_S (mA b) s.heap H locs → ∀ (ls : Array Slot), lv_has ls 7 [(0, .ref (b 0)), (1, .int x), (2, .long lf), (4, .int nd), (5, .int (nI i)), (6, .int (nI j))] → W p l e (headSpec wsX4_critical { frames := 2, cells := 0, slots := 0, locals := 50 }).room s mt ([.ref (b 0), .int x] : List Value).toArray below meth c H locs 0 0 Q (F0 mt 30 ls []) := by
            intro f30
            induction f30 with
            | zero => intro j h1 h2; exact absurd h1 (by omega)
            | succ f30 ih30 =>
              intro j hf30 hi30   H locs hP hS ls hl
              have hD : va_D (mA b) (mW k b n m fr to w th be oe al pa bo rl ra (frM n m fr to w th mo)) := mW_D ha
              have hjm := hft j (by omega)
              refine lv_aload_n hx hb dX4_critical_30 rfl (lv_at hl 0 rfl) ?_
              refine va_get (D := D) (ci := 4) (v := .ref (b 4)) (C := RX4) (T := TX4) (N := 14) hx hb hts i4 hown hK hP 0 rfl rfl 5 (by decide) (hts (.fieldLink RX4 19 "SignedPathsModel" "isThere" "[Z") (by decide +kernel)) (fun _ h9 => h9) rfl dX4_critical_31 ?_
              refine lv_iload hx hb dX4_critical_34 (lv_at hl 5 rfl) ?_
              refine rn_zald (v := bI (th j)) hx hb hK hP 4 1 rfl rfl (by omega) (by decide) rfl dX4_critical_36 ?_
              refine rn_ifeqb (tgt := 90) hx hb dX4_critical_37 (by decide) (fun c37 => ?_) (fun c37 => ?_)
              · refine lv_iinc (v := nI (j + 1)) (lv' := [(6, .int (nI (j + 1))), (0, .ref (b 0)), (1, .int x), (2, .long lf), (4, .int nd), (5, .int (nI i))]) hx hb dX4_critical_90 hl (k := 5) rfl (nI_1 j) (by decide) rfl (fun ls hl => ?_)
                refine lv_goto (tgt := 30) hx hb dX4_critical_93 (by decide) ?_
                have hq : j ≠ jj := by intro q; rw [← q] at hj2; simp [crP, c37] at hj2
                exact ih30 (j + 1) (by omega) (by omega)  _ _ (hP) hS ls (lv_sub hl [1, 2, 3, 4, 5, 0] rfl)
              · refine lv_iload hx hb dX4_critical_40 (lv_at hl 3 rfl) ?_
                refine lv_iconst (v := (-1)) hx hb dX4_critical_42 (by decide) ?_
                refine lv_icmp_eq (tgt := 58) hx hb dX4_critical_43 (by decide) (fun c43 => ?_) (fun c43 => ?_)
                · refine lv_ldc2 (v := 1000) hx hb hown (hts (.constantLong RX4 68 1000) (by decide +kernel)) dX4_critical_58 ?_
                  refine lv_aload_n hx hb dX4_critical_61 rfl (lv_at hl 0 rfl) ?_
                  refine va_get (D := D) (ci := 4) (v := .ref (b 3)) (C := RX4) (T := TX4) (N := 14) hx hb hts i4 hown hK hP 0 rfl rfl 4 (by decide) (hts (.fieldLink RX4 16 "SignedPathsModel" "weight" "[I") (by decide +kernel)) (fun _ h9 => h9) rfl dX4_critical_62 ?_
                  refine lv_iload hx hb dX4_critical_65 (lv_at hl 5 rfl) ?_
                  refine rn_iald (v := w j) hx hb hK hP 3 0 rfl rfl (by omega) (by decide) rfl dX4_critical_67 ?_
                  refine lv_i2l (v := (w j).toInt64) hx hb dX4_critical_68 rfl ?_
                  refine lv_lmul hx hb dX4_critical_69  ?_
                  refine lv_lconst (v := 1) hx hb dX4_critical_70 (by decide) ?_
                  refine lv_lsub hx hb dX4_critical_71  ?_
                  refine lv_aload_n hx hb dX4_critical_72 rfl (lv_at hl 0 rfl) ?_
                  refine lv_aload_n hx hb dX4_critical_73 rfl (lv_at hl 0 rfl) ?_
                  refine va_get (D := D) (ci := 4) (v := .ref (b 2)) (C := RX4) (T := TX4) (N := 14) hx hb hts i4 hown hK hP 0 rfl rfl 3 (by decide) (hts (.fieldLink RX4 13 "SignedPathsModel" "to" "[I") (by decide +kernel)) (fun _ h9 => h9) rfl dX4_critical_74 ?_
                  refine lv_iload hx hb dX4_critical_77 (lv_at hl 5 rfl) ?_
                  refine rn_iald (v := nI (to j)) hx hb hK hP 2 0 rfl rfl (by omega) (by decide) rfl dX4_critical_79 ?_
                  refine lv_iconst (v := bI false) hx hb dX4_critical_80 (by decide) ?_
                  refine cl_Sl (As := [.int (nI (to j)), .int (bI false)]) (rest := [.long ((1000 * ((w j).toInt64)) - 1)]) ⟨hx, hb, hml, hown, hts⟩ (c4_greatest l ha (to j) false hg (by omega)) (cwV 2 hts gX4_critical_X4_greatest rfl rfl rfl (by decide +kernel) ⟨Nat.le_of_ble_eq_true rfl, Nat.le_of_ble_eq_true rfl⟩) hK hP (ci := 4) (q0 := 0) rfl rfl rfl rfl hl.1 rfl (Nat.le_of_ble_eq_true rfl) dX4_critical_81 ⟨Nat.zero_le _, Nat.zero_le _⟩ (fun r81 h81 => ?_)
                  subst h81
                  refine lv_ladd hx hb dX4_critical_84  ?_
                  refine lv_lload_n hx hb dX4_critical_85 rfl (lv_at hl 2 rfl) ?_
                  refine rn_lcmp_eq (tgt := 96) hx hb dX4_critical_86 dX4_critical_87 (by decide) (fun c86 => ?_) (fun c86 => ?_)
                  · have ej : j = jj := by rcases Nat.lt_or_ge j jj with q | q; (exact absurd (hj3 j q) (by simp [crP, c37, c43, c86])); omega
                    refine lv_iload hx hb dX4_critical_96 (lv_at hl 4 rfl) ?_
                    refine lv_iload_n hx hb dX4_critical_98 rfl (lv_at hl 1 rfl) ?_
                    refine lv_icmp_ne (tgt := 105) hx hb dX4_critical_99 (by decide) (fun c99 => ?_) (fun c99 => ?_)
                    · refine lv_lload_n hx hb dX4_critical_105 rfl (lv_at hl 2 rfl) ?_
                      refine lv_ldc2 (v := 1000) hx hb hown (hts (.constantLong RX4 68 1000) (by decide +kernel)) dX4_critical_106 ?_
                      refine lv_aload_n hx hb dX4_critical_109 rfl (lv_at hl 0 rfl) ?_
                      refine va_get (D := D) (ci := 4) (v := .ref (b 3)) (C := RX4) (T := TX4) (N := 14) hx hb hts i4 hown hK hP 0 rfl rfl 4 (by decide) (hts (.fieldLink RX4 16 "SignedPathsModel" "weight" "[I") (by decide +kernel)) (fun _ h9 => h9) rfl dX4_critical_110 ?_
                      refine lv_iload hx hb dX4_critical_113 (lv_at hl 5 rfl) ?_
                      refine rn_iald (v := w j) hx hb hK hP 3 0 rfl rfl (by omega) (by decide) rfl dX4_critical_115 ?_
                      refine lv_i2l (v := (w j).toInt64) hx hb dX4_critical_116 rfl ?_
                      refine lv_lmul hx hb dX4_critical_117  ?_
                      refine lv_lconst (v := 1) hx hb dX4_critical_118 (by decide) ?_
                      refine lv_lsub hx hb dX4_critical_119  ?_
                      refine lv_lsub hx hb dX4_critical_120  ?_
                      refine lv_lstore_n (lv' := [(2, .long (lf - ((1000 * ((w j).toInt64)) - 1))), (0, .ref (b 0)), (1, .int x), (4, .int nd), (5, .int (nI i)), (6, .int (nI j))]) hx hb dX4_critical_121 rfl hl (by decide) rfl (fun ls hl => ?_)
                      refine lv_aload_n hx hb dX4_critical_122 rfl (lv_at hl 1 rfl) ?_
                      refine va_get (D := D) (ci := 4) (v := .ref (b 2)) (C := RX4) (T := TX4) (N := 14) hx hb hts i4 hown hK hP 0 rfl rfl 3 (by decide) (hts (.fieldLink RX4 13 "SignedPathsModel" "to" "[I") (by decide +kernel)) (fun _ h9 => h9) rfl dX4_critical_123 ?_
                      refine lv_iload hx hb dX4_critical_126 (lv_at hl 5 rfl) ?_
                      refine rn_iald (v := nI (to j)) hx hb hK hP 2 0 rfl rfl (by omega) (by decide) rfl dX4_critical_128 ?_
                      refine lv_istore (lv' := [(4, .int (nI (to j))), (2, .long (lf - ((1000 * ((w j).toInt64)) - 1))), (0, .ref (b 0)), (1, .int x), (5, .int (nI i)), (6, .int (nI j))]) hx hb dX4_critical_129 hl (by decide) rfl (fun ls hl => ?_)
                      refine lv_iinc (v := nI (i + 1)) (lv' := [(5, .int (nI (i + 1))), (4, .int (nI (to j))), (2, .long (lf - ((1000 * ((w j).toInt64)) - 1))), (0, .ref (b 0)), (1, .int x), (6, .int (nI j))]) hx hb dX4_critical_131 hl (k := 4) rfl (nI_1 i) (by decide) rfl (fun ls hl => ?_)
                      refine lv_goto (tgt := 21) hx hb dX4_critical_134 (by decide) ?_
                      exact ih21 (i + 1) (by omega) (by omega) (lf - (1000 * (w j).toInt64 - 1)) (nI (to j)) ⟨by rw [show 50 - (i + 1) = fz by omega, ej]; exact hgj, fun r h => hv21.2 r (by rw [hfz]; exact Or.inr ⟨c23, jj, hjj, Or.inr ⟨c99, by rw [← ej, ← (show 50 - (i + 1) = fz by omega)]; exact h⟩⟩)⟩ _ _ (hP) hS ls (lv_sub hl [3, 4, 2, 1, 0] rfl)
                    · refine lv_iload hx hb dX4_critical_102 (lv_at hl 5 rfl) ?_
                      rw [hQ]
                      exact W.iret (v := nI j) hx hb hr (fun t ht hW => ⟨⟨_, _, rfl, ⟨rfl, (Or.inr ⟨c4, hv21.2 _ (by rw [hfz]; exact Or.inr ⟨c23, jj, hjj, Or.inl ⟨c99, by rw [ej]⟩⟩)⟩)⟩, by show va_P D vwCl (mW k b n m fr to w th be oe al pa bo rl ra (frM n m fr to w th mo)) t.heap; rw [ht]; exact hP⟩, hS.F ht⟩) hS.2.2 dX4_critical_104
                  · refine lv_iinc (v := nI (j + 1)) (lv' := [(6, .int (nI (j + 1))), (0, .ref (b 0)), (1, .int x), (2, .long lf), (4, .int nd), (5, .int (nI i))]) hx hb dX4_critical_90 hl (k := 5) rfl (nI_1 j) (by decide) rfl (fun ls hl => ?_)
                    refine lv_goto (tgt := 30) hx hb dX4_critical_93 (by decide) ?_
                    have hq : j ≠ jj := by intro q; rw [← q] at hj2; simp [crP, c86] at hj2
                    exact ih30 (j + 1) (by omega) (by omega)  _ _ (hP) hS ls (lv_sub hl [1, 2, 3, 4, 5, 0] rfl)
                · refine lv_aload_n hx hb dX4_critical_46 rfl (lv_at hl 0 rfl) ?_
                  refine va_get (D := D) (ci := 4) (v := .ref (b 1)) (C := RX4) (T := TX4) (N := 14) hx hb hts i4 hown hK hP 0 rfl rfl 2 (by decide) (hts (.fieldLink RX4 7 "SignedPathsModel" "from" "[I") (by decide +kernel)) (fun _ h9 => h9) rfl dX4_critical_47 ?_
                  refine lv_iload hx hb dX4_critical_50 (lv_at hl 5 rfl) ?_
                  refine rn_iald (v := nI (fr j)) hx hb hK hP 1 0 rfl rfl (by omega) (by decide) rfl dX4_critical_52 ?_
                  refine lv_iload hx hb dX4_critical_53 (lv_at hl 3 rfl) ?_
                  refine lv_icmp_ne (tgt := 90) hx hb dX4_critical_55 (by decide) (fun c55 => ?_) (fun c55 => ?_)
                  · refine lv_iinc (v := nI (j + 1)) (lv' := [(6, .int (nI (j + 1))), (0, .ref (b 0)), (1, .int x), (2, .long lf), (4, .int nd), (5, .int (nI i))]) hx hb dX4_critical_90 hl (k := 5) rfl (nI_1 j) (by decide) rfl (fun ls hl => ?_)
                    refine lv_goto (tgt := 30) hx hb dX4_critical_93 (by decide) ?_
                    have hq : j ≠ jj := by intro q; rw [← q] at hj2; simp [crP, c43, c55] at hj2
                    exact ih30 (j + 1) (by omega) (by omega)  _ _ (hP) hS ls (lv_sub hl [1, 2, 3, 4, 5, 0] rfl)
                  · refine lv_ldc2 (v := 1000) hx hb hown (hts (.constantLong RX4 68 1000) (by decide +kernel)) dX4_critical_58 ?_
                    refine lv_aload_n hx hb dX4_critical_61 rfl (lv_at hl 0 rfl) ?_
                    refine va_get (D := D) (ci := 4) (v := .ref (b 3)) (C := RX4) (T := TX4) (N := 14) hx hb hts i4 hown hK hP 0 rfl rfl 4 (by decide) (hts (.fieldLink RX4 16 "SignedPathsModel" "weight" "[I") (by decide +kernel)) (fun _ h9 => h9) rfl dX4_critical_62 ?_
                    refine lv_iload hx hb dX4_critical_65 (lv_at hl 5 rfl) ?_
                    refine rn_iald (v := w j) hx hb hK hP 3 0 rfl rfl (by omega) (by decide) rfl dX4_critical_67 ?_
                    refine lv_i2l (v := (w j).toInt64) hx hb dX4_critical_68 rfl ?_
                    refine lv_lmul hx hb dX4_critical_69  ?_
                    refine lv_lconst (v := 1) hx hb dX4_critical_70 (by decide) ?_
                    refine lv_lsub hx hb dX4_critical_71  ?_
                    refine lv_aload_n hx hb dX4_critical_72 rfl (lv_at hl 0 rfl) ?_
                    refine lv_aload_n hx hb dX4_critical_73 rfl (lv_at hl 0 rfl) ?_
                    refine va_get (D := D) (ci := 4) (v := .ref (b 2)) (C := RX4) (T := TX4) (N := 14) hx hb hts i4 hown hK hP 0 rfl rfl 3 (by decide) (hts (.fieldLink RX4 13 "SignedPathsModel" "to" "[I") (by decide +kernel)) (fun _ h9 => h9) rfl dX4_critical_74 ?_
                    refine lv_iload hx hb dX4_critical_77 (lv_at hl 5 rfl) ?_
                    refine rn_iald (v := nI (to j)) hx hb hK hP 2 0 rfl rfl (by omega) (by decide) rfl dX4_critical_79 ?_
                    refine lv_iconst (v := bI false) hx hb dX4_critical_80 (by decide) ?_
                    refine cl_Sl (As := [.int (nI (to j)), .int (bI false)]) (rest := [.long ((1000 * ((w j).toInt64)) - 1)]) ⟨hx, hb, hml, hown, hts⟩ (c4_greatest l ha (to j) false hg (by omega)) (cwV 2 hts gX4_critical_X4_greatest rfl rfl rfl (by decide +kernel) ⟨Nat.le_of_ble_eq_true rfl, Nat.le_of_ble_eq_true rfl⟩) hK hP (ci := 4) (q0 := 0) rfl rfl rfl rfl hl.1 rfl (Nat.le_of_ble_eq_true rfl) dX4_critical_81 ⟨Nat.zero_le _, Nat.zero_le _⟩ (fun r81 h81 => ?_)
                    subst h81
                    refine lv_ladd hx hb dX4_critical_84  ?_
                    refine lv_lload_n hx hb dX4_critical_85 rfl (lv_at hl 2 rfl) ?_
                    refine rn_lcmp_eq (tgt := 96) hx hb dX4_critical_86 dX4_critical_87 (by decide) (fun c86 => ?_) (fun c86 => ?_)
                    · have ej : j = jj := by rcases Nat.lt_or_ge j jj with q | q; (exact absurd (hj3 j q) (by simp [crP, c37, c43, c55, c86])); omega
                      refine lv_iload hx hb dX4_critical_96 (lv_at hl 4 rfl) ?_
                      refine lv_iload_n hx hb dX4_critical_98 rfl (lv_at hl 1 rfl) ?_
                      refine lv_icmp_ne (tgt := 105) hx hb dX4_critical_99 (by decide) (fun c99 => ?_) (fun c99 => ?_)
                      · refine lv_lload_n hx hb dX4_critical_105 rfl (lv_at hl 2 rfl) ?_
                        refine lv_ldc2 (v := 1000) hx hb hown (hts (.constantLong RX4 68 1000) (by decide +kernel)) dX4_critical_106 ?_
                        refine lv_aload_n hx hb dX4_critical_109 rfl (lv_at hl 0 rfl) ?_
                        refine va_get (D := D) (ci := 4) (v := .ref (b 3)) (C := RX4) (T := TX4) (N := 14) hx hb hts i4 hown hK hP 0 rfl rfl 4 (by decide) (hts (.fieldLink RX4 16 "SignedPathsModel" "weight" "[I") (by decide +kernel)) (fun _ h9 => h9) rfl dX4_critical_110 ?_
                        refine lv_iload hx hb dX4_critical_113 (lv_at hl 5 rfl) ?_
                        refine rn_iald (v := w j) hx hb hK hP 3 0 rfl rfl (by omega) (by decide) rfl dX4_critical_115 ?_
                        refine lv_i2l (v := (w j).toInt64) hx hb dX4_critical_116 rfl ?_
                        refine lv_lmul hx hb dX4_critical_117  ?_
                        refine lv_lconst (v := 1) hx hb dX4_critical_118 (by decide) ?_
                        refine lv_lsub hx hb dX4_critical_119  ?_
                        refine lv_lsub hx hb dX4_critical_120  ?_
                        refine lv_lstore_n (lv' := [(2, .long (lf - ((1000 * ((w j).toInt64)) - 1))), (0, .ref (b 0)), (1, .int x), (4, .int nd), (5, .int (nI i)), (6, .int (nI j))]) hx hb dX4_critical_121 rfl hl (by decide) rfl (fun ls hl => ?_)
                        refine lv_aload_n hx hb dX4_critical_122 rfl (lv_at hl 1 rfl) ?_
                        refine va_get (D := D) (ci := 4) (v := .ref (b 2)) (C := RX4) (T := TX4) (N := 14) hx hb hts i4 hown hK hP 0 rfl rfl 3 (by decide) (hts (.fieldLink RX4 13 "SignedPathsModel" "to" "[I") (by decide +kernel)) (fun _ h9 => h9) rfl dX4_critical_123 ?_
                        refine lv_iload hx hb dX4_critical_126 (lv_at hl 5 rfl) ?_
                        refine rn_iald (v := nI (to j)) hx hb hK hP 2 0 rfl rfl (by omega) (by decide) rfl dX4_critical_128 ?_
                        refine lv_istore (lv' := [(4, .int (nI (to j))), (2, .long (lf - ((1000 * ((w j).toInt64)) - 1))), (0, .ref (b 0)), (1, .int x), (5, .int (nI i)), (6, .int (nI j))]) hx hb dX4_critical_129 hl (by decide) rfl (fun ls hl => ?_)
                        refine lv_iinc (v := nI (i + 1)) (lv' := [(5, .int (nI (i + 1))), (4, .int (nI (to j))), (2, .long (lf - ((1000 * ((w j).toInt64)) - 1))), (0, .ref (b 0)), (1, .int x), (6, .int (nI j))]) hx hb dX4_critical_131 hl (k := 4) rfl (nI_1 i) (by decide) rfl (fun ls hl => ?_)
                        refine lv_goto (tgt := 21) hx hb dX4_critical_134 (by decide) ?_
                        exact ih21 (i + 1) (by omega) (by omega) (lf - (1000 * (w j).toInt64 - 1)) (nI (to j)) ⟨by rw [show 50 - (i + 1) = fz by omega, ej]; exact hgj, fun r h => hv21.2 r (by rw [hfz]; exact Or.inr ⟨c23, jj, hjj, Or.inr ⟨c99, by rw [← ej, ← (show 50 - (i + 1) = fz by omega)]; exact h⟩⟩)⟩ _ _ (hP) hS ls (lv_sub hl [3, 4, 2, 1, 0] rfl)
                      · refine lv_iload hx hb dX4_critical_102 (lv_at hl 5 rfl) ?_
                        rw [hQ]
                        exact W.iret (v := nI j) hx hb hr (fun t ht hW => ⟨⟨_, _, rfl, ⟨rfl, (Or.inr ⟨c4, hv21.2 _ (by rw [hfz]; exact Or.inr ⟨c23, jj, hjj, Or.inl ⟨c99, by rw [ej]⟩⟩)⟩)⟩, by show va_P D vwCl (mW k b n m fr to w th be oe al pa bo rl ra (frM n m fr to w th mo)) t.heap; rw [ht]; exact hP⟩, hS.F ht⟩) hS.2.2 dX4_critical_104
                    · refine lv_iinc (v := nI (j + 1)) (lv' := [(6, .int (nI (j + 1))), (0, .ref (b 0)), (1, .int x), (2, .long lf), (4, .int nd), (5, .int (nI i))]) hx hb dX4_critical_90 hl (k := 5) rfl (nI_1 j) (by decide) rfl (fun ls hl => ?_)
                      refine lv_goto (tgt := 30) hx hb dX4_critical_93 (by decide) ?_
                      have hq : j ≠ jj := by intro q; rw [← q] at hj2; simp [crP, c86] at hj2
                      exact ih30 (j + 1) (by omega) (by omega)  _ _ (hP) hS ls (lv_sub hl [1, 2, 3, 4, 5, 0] rfl)
          exact key30 (jj + 1) 0 (by omega) (by omega)  _ _ (hP) hS ls (lv_sub hl [1, 2, 3, 4, 5, 0] rfl)
    exact key21 (50 + 1) 0 (by omega) (by omega) (tpF n (frM n m fr to w th mo)) (-1) ⟨hcr c4, fun _ h => h⟩ _ _ (hP) hS ls (lv_sub hl [3, 4, 2, 1, 0] rfl)
  · refine lv_ldc (v := (-1000000003)) hx hb hown (hts (.constant RX4 118 (-1000000003)) (by decide +kernel)) dX4_critical_7 ?_
    rw [hQ]
    exact W.iret (v := (-1000000003)) hx hb hr (fun t ht hW => ⟨⟨_, _, rfl, ⟨rfl, (Or.inl ⟨c4, rfl⟩)⟩, by show va_P D vwCl (mW k b n m fr to w th be oe al pa bo rl ra (frM n m fr to w th mo)) t.heap; rw [ht]; exact hP⟩, hS.F ht⟩) hS.2.2 dX4_critical_9
