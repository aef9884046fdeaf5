theorem va_AOA.moved {ty : FieldType} {u U : State} (hvm : u.vm.Alike U.vm) (h : va_AOA ty u) : va_AOA ty U := arrayOver_alikeB hvm h
def aF (h0 g kk rr : Nat) (u1 : Nat → Nat) (u2 u3 : (Nat → Nat) × (Nat → Nat)) (i : Nat) : Nat :=
  if i = 0 then h0 else if i = 1 then g else if i = 2 then u1 0 else if i = 3 then u1 1 else if i = 4 then u1 2 else if i = 5 then u1 3 else if i = 6 then kk else if i = 7 then u2.1 0 else if i = 8 then rr else if i = 9 then u3.1 0 else if i = 10 then u3.1 1 else if i = 11 then u3.1 2 else if i = 12 then u3.1 3 else if i < 34 then u2.2 (i - 13) else u3.2 (i - 34)
theorem aF_L {h0 g kk rr : Nat} {u1 : Nat → Nat} {u2 u3 : (Nat → Nat) × (Nat → Nat)} {i : Nat} (hi : i < 21) : aF h0 g kk rr u1 u2 u3 (13 + i) = u2.2 i := by
  unfold aF
  rw [if_neg (by omega), if_neg (by omega), if_neg (by omega), if_neg (by omega), if_neg (by omega), if_neg (by omega), if_neg (by omega), if_neg (by omega), if_neg (by omega), if_neg (by omega), if_neg (by omega), if_neg (by omega), if_neg (by omega), if_pos (by omega), Nat.add_sub_cancel_left]
theorem aF_N {h0 g kk rr : Nat} {u1 : Nat → Nat} {u2 u3 : (Nat → Nat) × (Nat → Nat)} {i : Nat} : aF h0 g kk rr u1 u2 u3 (34 + i) = u3.2 i := by
  unfold aF
  rw [if_neg (by omega), if_neg (by omega), if_neg (by omega), if_neg (by omega), if_neg (by omega), if_neg (by omega), if_neg (by omega), if_neg (by omega), if_neg (by omega), if_neg (by omega), if_neg (by omega), if_neg (by omega), if_neg (by omega), if_neg (by omega), Nat.add_sub_cancel_left]
theorem cW_new {k : Nat → ClassId} {h0 g kk rr : Nat} {u1 : Nat → Nat} {u2 u3 : (Nat → Nat) × (Nat → Nat)} : ((([(h0, .inr (3, [.ref g, .ref kk, .ref rr]))] : va_W) ++ ci0_w k g u1) ++ ci2_w k kk g u2 ++ ci1_w k rr g u3).Perm (cW k (aF h0 g kk rr u1 u2 u3) 0 0 0 (fun _ => 0) (fun _ => 0) (fun _ => 0) (fun _ => false) (fun _ _ => 0) 0 (-1) (fun _ => 0) (fun _ => false) 0 (fun _ => 0) (fun _ _ => 0) 0 (-1)) := by
  have e1 : (List.range 21).map (fun i => ((aF h0 g kk rr u1 u2 u3 (13 + i), .inl (k 0, 144, .inl (fun _ => 0))) : Nat × va_E)) = (List.range 21).map (fun i => (u2.2 i, .inl (k 0, 144, .inl (fun _ => 0)))) := by
    apply List.map_congr_left
    intro i hi
    rw [aF_L (List.mem_range.mp hi)]
  have e2 : (List.range 12).map (fun i => ((aF h0 g kk rr u1 u2 u3 (34 + i), .inl (k 0, 12, .inl (fun _ => 0))) : Nat × va_E)) = (List.range 12).map (fun i => (u3.2 i, .inl (k 0, 12, .inl (fun _ => 0)))) := by
    apply List.map_congr_left
    intro i hi
    rw [aF_N]
  have e3 : (fun i => if i < 21 then some (aF h0 g kk rr u1 u2 u3 (13 + i)) else none) = (fun i => if i < 21 then some (u2.2 i) else none) := by
    funext i
    by_cases hi : i < 21
    · rw [if_pos hi, if_pos hi, aF_L hi]
    · rw [if_neg hi, if_neg hi]
  have e4 : (fun i => if i < 12 then some (aF h0 g kk rr u1 u2 u3 (34 + i)) else none) = (fun i => if i < 12 then some (u3.2 i) else none) := by
    funext i
    by_cases hi : i < 12
    · rw [if_pos hi, if_pos hi, aF_N]
    · rw [if_neg hi, if_neg hi]
  unfold cW
  rw [e1, e2, e3, e4]
  generalize hL : (List.range 21).map (fun i => ((u2.2 i, .inl (k 0, 144, .inl (fun _ => 0))) : Nat × va_E)) = RL
  generalize hN : (List.range 12).map (fun i => ((u3.2 i, .inl (k 0, 12, .inl (fun _ => 0))) : Nat × va_E)) = RN
  have f2 : ci2_w k kk g u2 = [(kk, .inr (2, [.ref g, .ref (u2.1 0), .int 0, .int (-1)])), (u2.1 0, .inl (k 2, 21, .inr (.inr (.inr (.inr (fun i => if i < 21 then some (u2.2 i) else none))))))] ++ RL := by rw [← hL]
  have f1 : ci1_w k rr g u3 = [(rr, .inr (1, [.ref g, .ref (u3.1 0), .ref (u3.1 1), .int 0, .ref (u3.1 2), .ref (u3.1 3), .int 0, .int (-1)])), (u3.1 0, .inl (k 0, 12, .inl (fun _ => 0))), (u3.1 1, .inl (k 1, 12, .inl (fun _ => 0))), (u3.1 2, .inl (k 0, 12, .inl (fun _ => 0))), (u3.1 3, .inl (k 2, 12, .inr (.inr (.inr (.inr (fun i => if i < 12 then some (u3.2 i) else none))))))] ++ RN := by rw [← hN]
  rw [f1, f2]
  generalize hA : ([(h0, .inr (3, [.ref g, .ref kk, .ref rr]))] : va_W) ++ ci0_w k g u1 = A1
  refine List.Perm.trans (l₂ := (A1 ++ [(kk, .inr (2, [.ref g, .ref (u2.1 0), .int 0, .int (-1)])), (u2.1 0, .inl (k 2, 21, .inr (.inr (.inr (.inr (fun i => if i < 21 then some (u2.2 i) else none))))))]) ++ ([(rr, .inr (1, [.ref g, .ref (u3.1 0), .ref (u3.1 1), .int 0, .ref (u3.1 2), .ref (u3.1 3), .int 0, .int (-1)])), (u3.1 0, .inl (k 0, 12, .inl (fun _ => 0))), (u3.1 1, .inl (k 1, 12, .inl (fun _ => 0))), (u3.1 2, .inl (k 0, 12, .inl (fun _ => 0))), (u3.1 3, .inl (k 2, 12, .inr (.inr (.inr (.inr (fun i => if i < 12 then some (u3.2 i) else none))))))] ++ (RL ++ RN))) ?_ ?_
  · simp only [List.append_assoc]
    refine List.Perm.append_left _ (List.Perm.append_left _ ?_)
    rw [← List.append_assoc, ← List.append_assoc]
    exact List.Perm.append_right _ List.perm_append_comm
  · rw [← hA]
    exact List.Perm.refl _
abbrev cW0 (k : Nat → ClassId) (a : Nat → Nat) : va_W := cW k a 0 0 0 (fun _ => 0) (fun _ => 0) (fun _ => 0) (fun _ => false) (fun _ _ => 0) 0 (-1) (fun _ => 0) (fun _ => false) 0 (fun _ => 0) (fun _ _ => 0) 0 (-1)
abbrev ci3_0 (h0 : Nat) : va_W := [(h0, .inr (3, [.null, .null, .null]))]
set_option maxHeartbeats 4000000 in
set_option maxRecDepth 100000 in
theorem ci3 (l : Launch) {D : va_G} {k : Nat → ClassId} (h0 sz : Nat) : Met l yX3_init wsX3_init ({ frames := 2, cells := 45, slots := 3416, locals := 40 }) (va_Pc [.ref h0] (fun U => U.heap.size = sz ∧ va_P D vwCl (ci3_0 h0) U.heap ∧ va_K D vwCl (tyL k) U ∧ va_D (fun _ => True) (ci3_0 h0) ∧ va_AOA .int U)) (va_Qv (S := Nat → Nat) (fun a => a 0 = h0) (fun a t => va_P D vwCl (cW0 k a) t.heap ∧ va_D (va_A (ci3_0 h0) sz) (cW0 k a)) (va_A (ci3_0 h0) sz)) 45 3416 (va_A (ci3_0 h0) sz) := by
  refine Met.ofW (cc := cX3_init) (maxL := 1) (ret := none) (by decide) rfl ?_
  intro p e s mt args below meth c s₁ B hml hv
  obtain ⟨rfl, hsz, hP, hK, hD0, hAO⟩ := hv
  have hx := B.exec
  have hb := B.bytes
  have hr := B.returns
  have hts := atoms_spec (ws := wsX3_init) B.pre
  have hown : s.vm.findClass RX3 = some mt.cls := findClass_of_methodNamed B.named
  have hlocks := B.notSynchronized
  have hin : meth.name = "<init>" := (name_of_methodNamed B.named B.method).1
  have i0 : ∀ w ∈ wsX00, w ∈ wsX3_init := by decide +kernel
  have i1 : ∀ w ∈ wsX10, w ∈ wsX3_init := by decide +kernel
  have i2 : ∀ w ∈ wsX20, w ∈ wsX3_init := by decide +kernel
  have i3 : ∀ w ∈ wsX30, w ∈ wsX3_init := by decide +kernel
  subst hsz
  have hD := hD0.self (sz := s.heap.size)
  generalize hAe : va_A [(h0, .inr (3, [.null, .null, .null]))] s.heap.size = A at hD ⊢
  have hA : ∀ q : Nat, s.heap.size ≤ q → A q := fun q h => by rw [← hAe]; exact Or.inr h
  have hS : va_S A s.heap s.heap [] := va_S.rf
  have hl := lv_entry ([.ref h0]) (n := 1) (Nat.le_of_ble_eq_true rfl)
  rw [lg_entry_eq]
  generalize (lg_sl ([.ref h0]) ++ List.replicate (1 - (lg_sl ([.ref h0])).length) Slot.unset).toArray = ls at hl ⊢
  have hl : lv_has ls 1 [(0, .ref h0)] := hl
  refine lv_aload_n hx hb dX3_init_0 rfl (lv_at hl 0 rfl) ?_
  refine W.objInit hx hb hown (hts (.methodLink RX3 3 objectInit) (by decide +kernel)) (hts (.instanceMethod objectInit) (by decide +kernel)) (hts _ (List.mem_cons_of_mem _ (List.mem_append_left _ (List.mem_append_left _ (List.mem_append_left _ (List.mem_append_left _ (List.mem_append_left _ (List.mem_of_getElem? (i := 2) rfl)))))))) rfl (by rw [hml]; exact hl.1) rfl dX3_init_1 (Nat.le_of_ble_eq_true rfl) (Nat.le_of_ble_eq_true rfl) ?_
  refine W.eq (g2 := F0 mt 4 ls []) rfl ?_
  refine lv_aload_n hx hb dX3_init_4 rfl (lv_at hl 0 rfl) ?_
  refine va_new (ci := 0) (fs := [.int 0, .int 0, .int 0, .null, .null, .null, .null]) (C := RX0) (T := TX0) (N := 7) hx hb hts i0 tyX0 tyX0_ok hown (hts (.classLink RX3 9 RX0) (by decide +kernel)) (hts (.instantiable RX0 7) (by decide +kernel)) (hts (.initialized RX0) (by decide +kernel)) hK hP hD hS hA rfl (fun j hj => by rcases (show j = 0 ∨ j = 1 ∨ j = 2 ∨ j = 3 ∨ j = 4 ∨ j = 5 ∨ j = 6 by omega) with rfl | rfl | rfl | rfl | rfl | rfl | rfl <;> rfl) (Nat.le_of_ble_eq_true rfl) (Nat.le_of_ble_eq_true rfl) dX3_init_5 (fun g H hP hD hS => ?_)
  refine lv_dup hx hb dX3_init_8 rfl ?_
  have hPc := hP.sub (ws' := ci0_0 g) [1] rfl
  have hDc := hD.sub (ws' := ci0_0 g) [1] (by decide) rfl
  have hFc := va_free (wc := ci0_0 g) hD hS hA [1] rfl
  refine va_callv (va_runI (As := []) (rest := [.ref g, .ref h0]) ⟨hx, hb, hml, hown, hts⟩ (ci0 l (D := D) (k := k) g H.size) (cwI 0 hts gX3_init_X0_init rfl rfl rfl (hts (.initialized RX0) (by decide +kernel)) (hts (.methodLink RX3 11 yX0_init) (by decide +kernel)) (hts (.instanceMethod yX0_init) (by decide +kernel)) rfl (by decide +kernel) ⟨(Nat.le_of_ble_eq_true rfl), (Nat.le_of_ble_eq_true rfl)⟩) ⟨fun a U g mk q => by obtain ⟨q0, q1, qP, qK, qD, qA⟩ := q; exact ⟨q0, q1, qP, va_K.moved (u := U) (U := U.calling g mk a) (Vm.Alike.refl U.vm) qK, qD, qA⟩, fun U hU hW => ⟨rfl, by rw [hU], by rw [hU]; exact hPc, va_K.moved hW.alike hK, hDc.weaken (fun _ _ _ _ => trivial), va_AOA.moved hW.alike hAO⟩⟩ rfl rfl hl.1 rfl (lv_room (Nat.le_of_ble_eq_true rfl)) dX3_init_9 ⟨(Nat.le_of_ble_eq_true rfl), (Nat.le_of_ble_eq_true rfl)⟩) hS (fun q _ h => hFc q h) hFc (fun u1 t H1 locs ht hvm hw hB hz1 hk1 hS => ?_)
  obtain ⟨hP1, hD1⟩ := hB
  rw [ht] at hP1
  obtain ⟨hP, hD⟩ := va_join (wr := [(h0, .inr (3, [.null, .null, .null]))]) (w1 := ci0_w k g u1) hP hD [1] [0] rfl rfl (by decide) (by decide) hk1 hFc hP1 hD1
  generalize H1 = H at hP hS ⊢
  have hP : va_P D vwCl ([(h0, .inr (3, [.null, .null, .null]))] ++ ci0_w k g u1) H := hP
  have hD : va_D A ([(h0, .inr (3, [.null, .null, .null]))] ++ ci0_w k g u1) := hD
  refine va_putF (D := D) (ci := 3) (v := .ref g) (ty := .object "SignedPaths$Graph") (C := RX3) (T := TX3) (N := 3) hx hb hts i3 tyX3 tyX3_ok nmX3 hown hK hP hD hS 0 rfl rfl 0 (by decide) (hts (.fieldLink RX3 12 "SignedPaths" "graph" "LSignedPaths$Graph;") (by decide +kernel)) (fun _ h9 => h9) rfl hin rfl (by decide +kernel) rfl rfl (Nat.le_of_ble_eq_true rfl) dX3_init_12 (fun H locs hP hD hS => ?_)
  have hP : va_P D vwCl (([(h0, .inr (3, [.ref g, .null, .null]))] ++ ci0_w k g u1)) H := hP
  have hD : va_D A (([(h0, .inr (3, [.ref g, .null, .null]))] ++ ci0_w k g u1)) := hD
  refine lv_aload_n hx hb dX3_init_15 rfl (lv_at hl 0 rfl) ?_
  refine va_new (ci := 2) (fs := [.null, .null, .int 0, .int 0]) (C := RX2) (T := TX2) (N := 4) hx hb hts i2 tyX2 tyX2_ok hown (hts (.classLink RX3 16 RX2) (by decide +kernel)) (hts (.instantiable RX2 4) (by decide +kernel)) (hts (.initialized RX2) (by decide +kernel)) hK hP hD hS hA rfl (fun j hj => by rcases (show j = 0 ∨ j = 1 ∨ j = 2 ∨ j = 3 by omega) with rfl | rfl | rfl | rfl <;> rfl) (Nat.le_of_ble_eq_true rfl) (Nat.le_of_ble_eq_true rfl) dX3_init_16 (fun kk H hP hD hS => ?_)
  have hP : va_P D vwCl (([(h0, .inr (3, [.ref g, .null, .null]))] ++ ci0_w k g u1) ++ [(kk, .inr (2, [.null, .null, .int 0, .int 0]))]) H := hP
  have hD : va_D A (([(h0, .inr (3, [.ref g, .null, .null]))] ++ ci0_w k g u1) ++ [(kk, .inr (2, [.null, .null, .int 0, .int 0]))]) := hD
  refine lv_dup hx hb dX3_init_19 rfl ?_
  refine lv_aload_n hx hb dX3_init_20 rfl (lv_at hl 0 rfl) ?_
  refine va_get (D := D) (ci := 3) (v := .ref g) (C := RX3) (T := TX3) (N := 3) hx hb hts i3 hown hK hP 0 rfl rfl 0 (by decide) (hts (.fieldLink RX3 12 "SignedPaths" "graph" "LSignedPaths$Graph;") (by decide +kernel)) (fun _ h9 => h9) rfl dX3_init_21 ?_
  have hPc := hP.sub (ws' := ci2_0 kk) [6] rfl
  have hDc := hD.sub (ws' := ci2_0 kk) [6] (by decide) rfl
  have hFc := va_free (wc := ci2_0 kk) hD hS hA [6] rfl
  refine va_callv (va_runI (As := [.ref g]) (rest := [.ref kk, .ref h0]) ⟨hx, hb, hml, hown, hts⟩ (ci2 l (D := D) (k := k) kk H.size g) (cwI 1 hts gX3_init_X2_init rfl rfl rfl (hts (.initialized RX2) (by decide +kernel)) (hts (.methodLink RX3 18 yX2_init) (by decide +kernel)) (hts (.instanceMethod yX2_init) (by decide +kernel)) rfl (by decide +kernel) ⟨(Nat.le_of_ble_eq_true rfl), (Nat.le_of_ble_eq_true rfl)⟩) ⟨fun a U g mk q => by obtain ⟨q0, q1, qP, qK, qD, qA⟩ := q; exact ⟨q0, q1, qP, va_K.moved (u := U) (U := U.calling g mk a) (Vm.Alike.refl U.vm) qK, qD, qA⟩, fun U hU hW => ⟨rfl, by rw [hU], by rw [hU]; exact hPc, va_K.moved hW.alike hK, hDc.weaken (fun _ _ _ _ => trivial), va_AOA.moved hW.alike hAO⟩⟩ rfl rfl hl.1 rfl (lv_room (Nat.le_of_ble_eq_true rfl)) dX3_init_24 ⟨(Nat.le_of_ble_eq_true rfl), (Nat.le_of_ble_eq_true rfl)⟩) hS (fun q _ h => hFc q h) hFc (fun u2 t H1 locs ht hvm hw hB hz1 hk1 hS => ?_)
  obtain ⟨hP1, hD1⟩ := hB
  rw [ht] at hP1
  obtain ⟨hP, hD⟩ := va_join (wr := ([(h0, .inr (3, [.ref g, .null, .null]))] ++ ci0_w k g u1)) (w1 := ci2_w k kk g u2) hP hD [6] [0, 1, 2, 3, 4, 5] rfl rfl (by decide) (by decide) hk1 hFc hP1 hD1
  generalize H1 = H at hP hS ⊢
  have hP : va_P D vwCl (([(h0, .inr (3, [.ref g, .null, .null]))] ++ ci0_w k g u1) ++ ci2_w k kk g u2) H := hP
  have hD : va_D A (([(h0, .inr (3, [.ref g, .null, .null]))] ++ ci0_w k g u1) ++ ci2_w k kk g u2) := hD
  refine va_putF (D := D) (ci := 3) (v := .ref kk) (ty := .object "SignedPaths$Walks") (C := RX3) (T := TX3) (N := 3) hx hb hts i3 tyX3 tyX3_ok nmX3 hown hK hP hD hS 0 rfl rfl 1 (by decide) (hts (.fieldLink RX3 21 "SignedPaths" "walks" "LSignedPaths$Walks;") (by decide +kernel)) (fun _ h9 => h9) rfl hin rfl (by decide +kernel) rfl rfl (Nat.le_of_ble_eq_true rfl) dX3_init_27 (fun H locs hP hD hS => ?_)
  have hP : va_P D vwCl (([(h0, .inr (3, [.ref g, .ref kk, .null]))] ++ ci0_w k g u1) ++ ci2_w k kk g u2) H := hP
  have hD : va_D A (([(h0, .inr (3, [.ref g, .ref kk, .null]))] ++ ci0_w k g u1) ++ ci2_w k kk g u2) := hD
  refine lv_aload_n hx hb dX3_init_30 rfl (lv_at hl 0 rfl) ?_
  refine va_new (ci := 1) (fs := [.null, .null, .null, .int 0, .null, .null, .int 0, .int 0]) (C := RX1) (T := TX1) (N := 8) hx hb hts i1 tyX1 tyX1_ok hown (hts (.classLink RX3 25 RX1) (by decide +kernel)) (hts (.instantiable RX1 8) (by decide +kernel)) (hts (.initialized RX1) (by decide +kernel)) hK hP hD hS hA rfl (fun j hj => by rcases (show j = 0 ∨ j = 1 ∨ j = 2 ∨ j = 3 ∨ j = 4 ∨ j = 5 ∨ j = 6 ∨ j = 7 by omega) with rfl | rfl | rfl | rfl | rfl | rfl | rfl | rfl <;> rfl) (Nat.le_of_ble_eq_true rfl) (Nat.le_of_ble_eq_true rfl) dX3_init_31 (fun rr H hP hD hS => ?_)
  have hP : va_P D vwCl ((([(h0, .inr (3, [.ref g, .ref kk, .null]))] ++ ci0_w k g u1) ++ ci2_w k kk g u2) ++ [(rr, .inr (1, [.null, .null, .null, .int 0, .null, .null, .int 0, .int 0]))]) H := hP
  have hD : va_D A ((([(h0, .inr (3, [.ref g, .ref kk, .null]))] ++ ci0_w k g u1) ++ ci2_w k kk g u2) ++ [(rr, .inr (1, [.null, .null, .null, .int 0, .null, .null, .int 0, .int 0]))]) := hD
  refine lv_dup hx hb dX3_init_34 rfl ?_
  refine lv_aload_n hx hb dX3_init_35 rfl (lv_at hl 0 rfl) ?_
  refine va_get (D := D) (ci := 3) (v := .ref g) (C := RX3) (T := TX3) (N := 3) hx hb hts i3 hown hK hP 0 rfl rfl 0 (by decide) (hts (.fieldLink RX3 12 "SignedPaths" "graph" "LSignedPaths$Graph;") (by decide +kernel)) (fun _ h9 => h9) rfl dX3_init_36 ?_
  have hPc := hP.sub (ws' := ci1_0 rr) [29] rfl
  have hDc := hD.sub (ws' := ci1_0 rr) [29] (by decide) rfl
  have hFc := va_free (wc := ci1_0 rr) hD hS hA [29] rfl
  refine va_callv (va_runI (As := [.ref g]) (rest := [.ref rr, .ref h0]) ⟨hx, hb, hml, hown, hts⟩ (ci1 l (D := D) (k := k) rr H.size g) (cwI 1 hts gX3_init_X1_init rfl rfl rfl (hts (.initialized RX1) (by decide +kernel)) (hts (.methodLink RX3 27 yX1_init) (by decide +kernel)) (hts (.instanceMethod yX1_init) (by decide +kernel)) rfl (by decide +kernel) ⟨(Nat.le_of_ble_eq_true rfl), (Nat.le_of_ble_eq_true rfl)⟩) ⟨fun a U g mk q => by obtain ⟨q0, q1, qP, qK, qD, qA⟩ := q; exact ⟨q0, q1, qP, va_K.moved (u := U) (U := U.calling g mk a) (Vm.Alike.refl U.vm) qK, qD, qA⟩, fun U hU hW => ⟨rfl, by rw [hU], by rw [hU]; exact hPc, va_K.moved hW.alike hK, hDc.weaken (fun _ _ _ _ => trivial), va_AOA.moved hW.alike hAO⟩⟩ rfl rfl hl.1 rfl (lv_room (Nat.le_of_ble_eq_true rfl)) dX3_init_39 ⟨(Nat.le_of_ble_eq_true rfl), (Nat.le_of_ble_eq_true rfl)⟩) hS (fun q _ h => hFc q h) hFc (fun u3 t H1 locs ht hvm hw hB hz1 hk1 hS => ?_)
  obtain ⟨hP1, hD1⟩ := hB
  rw [ht] at hP1
  obtain ⟨hP, hD⟩ := va_join (wr := (([(h0, .inr (3, [.ref g, .ref kk, .null]))] ++ ci0_w k g u1) ++ ci2_w k kk g u2)) (w1 := ci1_w k rr g u3) hP hD [29] [0, 1, 2, 3, 4, 5, 6, 7, 8, 9, 10, 11, 12, 13, 14, 15, 16, 17, 18, 19, 20, 21, 22, 23, 24, 25, 26, 27, 28] rfl rfl (by decide) (by decide) hk1 hFc hP1 hD1
  generalize H1 = H at hP hS ⊢
  have hP : va_P D vwCl ((([(h0, .inr (3, [.ref g, .ref kk, .null]))] ++ ci0_w k g u1) ++ ci2_w k kk g u2) ++ ci1_w k rr g u3) H := hP
  have hD : va_D A ((([(h0, .inr (3, [.ref g, .ref kk, .null]))] ++ ci0_w k g u1) ++ ci2_w k kk g u2) ++ ci1_w k rr g u3) := hD
  refine va_putF (D := D) (ci := 3) (v := .ref rr) (ty := .object "SignedPaths$Ringless") (C := RX3) (T := TX3) (N := 3) hx hb hts i3 tyX3 tyX3_ok nmX3 hown hK hP hD hS 0 rfl rfl 2 (by decide) (hts (.fieldLink RX3 28 "SignedPaths" "ringless" "LSignedPaths$Ringless;") (by decide +kernel)) (fun _ h9 => h9) rfl hin rfl (by decide +kernel) rfl rfl (Nat.le_of_ble_eq_true rfl) dX3_init_42 (fun H locs hP hD hS => ?_)
  have hP : va_P D vwCl (([(h0, .inr (3, [.ref g, .ref kk, .ref rr]))] ++ ci0_w k g u1) ++ ci2_w k kk g u2 ++ ci1_w k rr g u3) H := hP
  have hD : va_D A (([(h0, .inr (3, [.ref g, .ref kk, .ref rr]))] ++ ci0_w k g u1) ++ ci2_w k kk g u2 ++ ci1_w k rr g u3) := hD
  refine W.widen (k := 45) (n := 3416) (Nat.le_of_ble_eq_true rfl) (Nat.le_of_ble_eq_true rfl) ?_
  have hPf := pm_P hP (fun q hq => cW_new.mem_iff.mpr hq)
  have hDf := pm_D hD cW_new
  exact W.vret hx hb hr (fun t ht hW => ⟨⟨aF h0 g kk rr u1 u2 u3, rfl, rfl, by rw [ht]; exact hPf, hDf⟩, hS.F ht⟩) hS.2.2 dX3_init_45
