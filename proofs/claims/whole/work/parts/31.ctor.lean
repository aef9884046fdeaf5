abbrev ci0_w (k : Nat → ClassId) (h0 : Nat) (u : Nat → Nat) : va_W := [(h0, .inr (0, [.int 0, .int 0, .int 0, .ref (u 0), .ref (u 1), .ref (u 2), .ref (u 3)])), ((u 0), .inl (k 0, 40, .inl (fun _ => 0))), ((u 1), .inl (k 0, 40, .inl (fun _ => 0))), ((u 2), .inl (k 0, 40, .inl (fun _ => 0))), ((u 3), .inl (k 1, 40, .inl (fun _ => 0)))]
abbrev ci0_0 (h0 : Nat) : va_W := [(h0, .inr (0, [.int 0, .int 0, .int 0, .null, .null, .null, .null]))]
set_option maxHeartbeats 4000000 in
set_option maxRecDepth 100000 in
theorem ci0 (l : Launch) {D : va_G} {k : Nat → ClassId} (h0 sz : Nat) : Met l yX0_init wsX0_init ({ frames := 1, cells := 4, slots := 160, locals := 12 }) (va_Pc [.ref h0] (fun U => U.heap.size = sz ∧ va_P D vwCl (ci0_0 h0) U.heap ∧ va_K D vwCl (tyL k) U ∧ va_D (fun _ => True) (ci0_0 h0) ∧ va_AOA .int U)) (va_Qv (S := Nat → Nat) (fun _ => True) (fun u t => va_P D vwCl (ci0_w k h0 u) t.heap ∧ va_D (va_A (ci0_0 h0) sz) (ci0_w k h0 u)) (va_A (ci0_0 h0) sz)) 4 160 (va_A (ci0_0 h0) sz) := by
  refine Met.ofW (cc := cX0_init) (maxL := 1) (ret := none) (by decide) rfl ?_
  intro p e s mt args below meth c s₁ B hml hv
  obtain ⟨rfl, hsz, hP, hK, hD0, hAO⟩ := hv
  have hx := B.exec
  have hb := B.bytes
  have hr := B.returns
  have hts := atoms_spec (ws := wsX0_init) B.pre
  have hown : s.vm.findClass RX0 = some mt.cls := findClass_of_methodNamed B.named
  have hlocks := B.notSynchronized
  have hin : meth.name = "<init>" := (name_of_methodNamed B.named B.method).1
  have iX : ∀ w ∈ wsX00, w ∈ wsX0_init := by decide +kernel
  subst hsz
  have hD := hD0.self (sz := s.heap.size)
  generalize hAe : va_A [(h0, .inr (0, [.int 0, .int 0, .int 0, .null, .null, .null, .null]))] s.heap.size = A at hD ⊢
  have hA : ∀ q : Nat, s.heap.size ≤ q → A q := fun q h => by rw [← hAe]; exact Or.inr h
  have hS : va_S A s.heap s.heap [] := va_S.rf
  have hl := lv_entry ([.ref h0]) (n := 1) (Nat.le_of_ble_eq_true rfl)
  rw [lg_entry_eq]
  generalize (lg_sl ([.ref h0]) ++ List.replicate (1 - (lg_sl ([.ref h0])).length) Slot.unset).toArray = ls at hl ⊢
  have hl : lv_has ls 1 [(0, .ref h0)] := hl
  refine lv_aload_n hx hb dX0_init_0 rfl (lv_at hl 0 rfl) ?_
  refine W.objInit hx hb hown (hts (.methodLink RX0 3 objectInit) (by decide +kernel)) (hts (.instanceMethod objectInit) (by decide +kernel)) (hts _ (List.mem_cons_of_mem _ (List.mem_append_left _ (List.mem_of_getElem? (i := 2) rfl)))) rfl (by rw [hml]; exact hl.1) rfl dX0_init_1 (Nat.le_of_ble_eq_true rfl) (Nat.le_of_ble_eq_true rfl) ?_
  refine W.eq (g2 := F0 mt 4 ls []) rfl ?_
  refine lv_aload_n hx hb dX0_init_4 rfl (lv_at hl 0 rfl) ?_
  refine lv_bipush (v := nI 40) hx hb dX0_init_5 (by decide) ?_
  refine rn_newa (atype := .int) (ty := .int) (a0 := (40, .inl (fun _ => 0))) hx hb (hts (.arrayClass .int) (by decide +kernel)) rfl hK hP hD hS hA 0 rfl (fun _ h => h) (fun _ => rfl) (by decide) (by decide) (Nat.le_of_ble_eq_true rfl) (Nat.le_of_ble_eq_true rfl) dX0_init_7 (fun q7 H hP hD hS => ?_)
  have hP : va_P D vwCl [(h0, .inr (0, [.int 0, .int 0, .int 0, .null, .null, .null, .null])), (q7, .inl (k 0, 40, .inl (fun _ => 0)))] H := hP
  have hD : va_D A [(h0, .inr (0, [.int 0, .int 0, .int 0, .null, .null, .null, .null])), (q7, .inl (k 0, 40, .inl (fun _ => 0)))] := hD
  refine va_putF (D := D) (ci := 0) (v := .ref q7) (ty := .array .int) (C := RX0) (T := TX0) (N := 7) hx hb hts iX tyX0 tyX0_ok nmX0 hown hK hP hD hS 0 rfl rfl 3 (by decide) (hts (.fieldLink RX0 9 "SignedPaths$Graph" "from" "[I") (by decide +kernel)) (fun _ h9 => h9) rfl hin rfl (by decide +kernel) rfl rfl (Nat.le_of_ble_eq_true rfl) dX0_init_9 (fun H locs hP hD hS => ?_)
  have hP : va_P D vwCl [(h0, .inr (0, [.int 0, .int 0, .int 0, .ref q7, .null, .null, .null])), (q7, .inl (k 0, 40, .inl (fun _ => 0)))] H := hP
  have hD : va_D A [(h0, .inr (0, [.int 0, .int 0, .int 0, .ref q7, .null, .null, .null])), (q7, .inl (k 0, 40, .inl (fun _ => 0)))] := hD
  refine lv_aload_n hx hb dX0_init_12 rfl (lv_at hl 0 rfl) ?_
  refine lv_bipush (v := nI 40) hx hb dX0_init_13 (by decide) ?_
  refine rn_newa (atype := .int) (ty := .int) (a0 := (40, .inl (fun _ => 0))) hx hb (hts (.arrayClass .int) (by decide +kernel)) rfl hK hP hD hS hA 0 rfl (fun _ h => h) (fun _ => rfl) (by decide) (by decide) (Nat.le_of_ble_eq_true rfl) (Nat.le_of_ble_eq_true rfl) dX0_init_15 (fun q15 H hP hD hS => ?_)
  have hP : va_P D vwCl [(h0, .inr (0, [.int 0, .int 0, .int 0, .ref q7, .null, .null, .null])), (q7, .inl (k 0, 40, .inl (fun _ => 0))), (q15, .inl (k 0, 40, .inl (fun _ => 0)))] H := hP
  have hD : va_D A [(h0, .inr (0, [.int 0, .int 0, .int 0, .ref q7, .null, .null, .null])), (q7, .inl (k 0, 40, .inl (fun _ => 0))), (q15, .inl (k 0, 40, .inl (fun _ => 0)))] := hD
  refine va_putF (D := D) (ci := 0) (v := .ref q15) (ty := .array .int) (C := RX0) (T := TX0) (N := 7) hx hb hts iX tyX0 tyX0_ok nmX0 hown hK hP hD hS 0 rfl rfl 4 (by decide) (hts (.fieldLink RX0 15 "SignedPaths$Graph" "to" "[I") (by decide +kernel)) (fun _ h9 => h9) rfl hin rfl (by decide +kernel) rfl rfl (Nat.le_of_ble_eq_true rfl) dX0_init_17 (fun H locs hP hD hS => ?_)
  have hP : va_P D vwCl [(h0, .inr (0, [.int 0, .int 0, .int 0, .ref q7, .ref q15, .null, .null])), (q7, .inl (k 0, 40, .inl (fun _ => 0))), (q15, .inl (k 0, 40, .inl (fun _ => 0)))] H := hP
  have hD : va_D A [(h0, .inr (0, [.int 0, .int 0, .int 0, .ref q7, .ref q15, .null, .null])), (q7, .inl (k 0, 40, .inl (fun _ => 0))), (q15, .inl (k 0, 40, .inl (fun _ => 0)))] := hD
  refine lv_aload_n hx hb dX0_init_20 rfl (lv_at hl 0 rfl) ?_
  refine lv_bipush (v := nI 40) hx hb dX0_init_21 (by decide) ?_
  refine rn_newa (atype := .int) (ty := .int) (a0 := (40, .inl (fun _ => 0))) hx hb (hts (.arrayClass .int) (by decide +kernel)) rfl hK hP hD hS hA 0 rfl (fun _ h => h) (fun _ => rfl) (by decide) (by decide) (Nat.le_of_ble_eq_true rfl) (Nat.le_of_ble_eq_true rfl) dX0_init_23 (fun q23 H hP hD hS => ?_)
  have hP : va_P D vwCl [(h0, .inr (0, [.int 0, .int 0, .int 0, .ref q7, .ref q15, .null, .null])), (q7, .inl (k 0, 40, .inl (fun _ => 0))), (q15, .inl (k 0, 40, .inl (fun _ => 0))), (q23, .inl (k 0, 40, .inl (fun _ => 0)))] H := hP
  have hD : va_D A [(h0, .inr (0, [.int 0, .int 0, .int 0, .ref q7, .ref q15, .null, .null])), (q7, .inl (k 0, 40, .inl (fun _ => 0))), (q15, .inl (k 0, 40, .inl (fun _ => 0))), (q23, .inl (k 0, 40, .inl (fun _ => 0)))] := hD
  refine va_putF (D := D) (ci := 0) (v := .ref q23) (ty := .array .int) (C := RX0) (T := TX0) (N := 7) hx hb hts iX tyX0 tyX0_ok nmX0 hown hK hP hD hS 0 rfl rfl 5 (by decide) (hts (.fieldLink RX0 18 "SignedPaths$Graph" "weight" "[I") (by decide +kernel)) (fun _ h9 => h9) rfl hin rfl (by decide +kernel) rfl rfl (Nat.le_of_ble_eq_true rfl) dX0_init_25 (fun H locs hP hD hS => ?_)
  have hP : va_P D vwCl [(h0, .inr (0, [.int 0, .int 0, .int 0, .ref q7, .ref q15, .ref q23, .null])), (q7, .inl (k 0, 40, .inl (fun _ => 0))), (q15, .inl (k 0, 40, .inl (fun _ => 0))), (q23, .inl (k 0, 40, .inl (fun _ => 0)))] H := hP
  have hD : va_D A [(h0, .inr (0, [.int 0, .int 0, .int 0, .ref q7, .ref q15, .ref q23, .null])), (q7, .inl (k 0, 40, .inl (fun _ => 0))), (q15, .inl (k 0, 40, .inl (fun _ => 0))), (q23, .inl (k 0, 40, .inl (fun _ => 0)))] := hD
  refine lv_aload_n hx hb dX0_init_28 rfl (lv_at hl 0 rfl) ?_
  refine lv_bipush (v := nI 40) hx hb dX0_init_29 (by decide) ?_
  refine rn_newa (atype := .boolean) (ty := .boolean) (a0 := (40, .inl (fun _ => 0))) hx hb (hts (.arrayClass .boolean) (by decide +kernel)) rfl hK hP hD hS hA 1 rfl (fun _ h => h) (fun _ => rfl) (by decide) (by decide) (Nat.le_of_ble_eq_true rfl) (Nat.le_of_ble_eq_true rfl) dX0_init_31 (fun q31 H hP hD hS => ?_)
  have hP : va_P D vwCl [(h0, .inr (0, [.int 0, .int 0, .int 0, .ref q7, .ref q15, .ref q23, .null])), (q7, .inl (k 0, 40, .inl (fun _ => 0))), (q15, .inl (k 0, 40, .inl (fun _ => 0))), (q23, .inl (k 0, 40, .inl (fun _ => 0))), (q31, .inl (k 1, 40, .inl (fun _ => 0)))] H := hP
  have hD : va_D A [(h0, .inr (0, [.int 0, .int 0, .int 0, .ref q7, .ref q15, .ref q23, .null])), (q7, .inl (k 0, 40, .inl (fun _ => 0))), (q15, .inl (k 0, 40, .inl (fun _ => 0))), (q23, .inl (k 0, 40, .inl (fun _ => 0))), (q31, .inl (k 1, 40, .inl (fun _ => 0)))] := hD
  refine va_putF (D := D) (ci := 0) (v := .ref q31) (ty := .array .boolean) (C := RX0) (T := TX0) (N := 7) hx hb hts iX tyX0 tyX0_ok nmX0 hown hK hP hD hS 0 rfl rfl 6 (by decide) (hts (.fieldLink RX0 21 "SignedPaths$Graph" "there" "[Z") (by decide +kernel)) (fun _ h9 => h9) rfl hin rfl (by decide +kernel) rfl rfl (Nat.le_of_ble_eq_true rfl) dX0_init_33 (fun H locs hP hD hS => ?_)
  have hP : va_P D vwCl [(h0, .inr (0, [.int 0, .int 0, .int 0, .ref q7, .ref q15, .ref q23, .ref q31])), (q7, .inl (k 0, 40, .inl (fun _ => 0))), (q15, .inl (k 0, 40, .inl (fun _ => 0))), (q23, .inl (k 0, 40, .inl (fun _ => 0))), (q31, .inl (k 1, 40, .inl (fun _ => 0)))] H := hP
  have hD : va_D A [(h0, .inr (0, [.int 0, .int 0, .int 0, .ref q7, .ref q15, .ref q23, .ref q31])), (q7, .inl (k 0, 40, .inl (fun _ => 0))), (q15, .inl (k 0, 40, .inl (fun _ => 0))), (q23, .inl (k 0, 40, .inl (fun _ => 0))), (q31, .inl (k 1, 40, .inl (fun _ => 0)))] := hD
  refine W.widen (k := 4) (n := 160) (Nat.le_of_ble_eq_true rfl) (Nat.le_of_ble_eq_true rfl) ?_
  exact W.vret hx hb hr (fun t ht hW => ⟨⟨(fun i => if i = 0 then q7 else if i = 1 then q15 else if i = 2 then q23 else q31), rfl, trivial, by rw [ht]; exact hP, hD⟩, hS.F ht⟩) hS.2.2 dX0_init_36
abbrev ci2_w (k : Nat → ClassId) (h0 : Nat) (g0 : Nat) (u : (Nat → Nat) × (Nat → Nat)) : va_W := ([(h0, .inr (2, [.ref g0, .ref (u.1 0), .int 0, .int (-1)])), ((u.1 0), .inl (k 2, 21, .inr (.inr (.inr (.inr (fun i => if i < 21 then some (u.2 i) else none))))))] ++ (List.range 21).map (fun i => (u.2 i, .inl (k 0, 144, .inl (fun _ => 0)))))
abbrev ci2_0 (h0 : Nat) : va_W := [(h0, .inr (2, [.null, .null, .int 0, .int 0]))]
set_option maxHeartbeats 4000000 in
set_option maxRecDepth 100000 in
theorem ci2 (l : Launch) {D : va_G} {k : Nat → ClassId} (h0 sz : Nat) (g0 : Nat) : Met l yX2_init wsX2_init ({ frames := 1, cells := 22, slots := 3045, locals := 12 }) (va_Pc [.ref h0, .ref g0] (fun U => U.heap.size = sz ∧ va_P D vwCl (ci2_0 h0) U.heap ∧ va_K D vwCl (tyL k) U ∧ va_D (fun _ => True) (ci2_0 h0) ∧ va_AOA .int U)) (va_Qv (S := (Nat → Nat) × (Nat → Nat)) (fun _ => True) (fun u t => va_P D vwCl (ci2_w k h0 g0 u) t.heap ∧ va_D (va_A (ci2_0 h0) sz) (ci2_w k h0 g0 u)) (va_A (ci2_0 h0) sz)) 22 3045 (va_A (ci2_0 h0) sz) := by
  refine Met.ofW (cc := cX2_init) (maxL := 2) (ret := none) (by decide) rfl ?_
  intro p e s mt args below meth c s₁ B hml hv
  obtain ⟨rfl, hsz, hP, hK, hD0, hAO⟩ := hv
  have hx := B.exec
  have hb := B.bytes
  have hr := B.returns
  have hts := atoms_spec (ws := wsX2_init) B.pre
  have hown : s.vm.findClass RX2 = some mt.cls := findClass_of_methodNamed B.named
  have hlocks := B.notSynchronized
  have hin : meth.name = "<init>" := (name_of_methodNamed B.named B.method).1
  have iX : ∀ w ∈ wsX20, w ∈ wsX2_init := by decide +kernel
  subst hsz
  have hD := hD0.self (sz := s.heap.size)
  generalize hAe : va_A [(h0, .inr (2, [.null, .null, .int 0, .int 0]))] s.heap.size = A at hD ⊢
  have hA : ∀ q : Nat, s.heap.size ≤ q → A q := fun q h => by rw [← hAe]; exact Or.inr h
  have hS : va_S A s.heap s.heap [] := va_S.rf
  have hl := lv_entry ([.ref h0, .ref g0]) (n := 2) (Nat.le_of_ble_eq_true rfl)
  rw [lg_entry_eq]
  generalize (lg_sl ([.ref h0, .ref g0]) ++ List.replicate (2 - (lg_sl ([.ref h0, .ref g0])).length) Slot.unset).toArray = ls at hl ⊢
  have hl : lv_has ls 2 [(0, .ref h0), (1, .ref g0)] := hl
  refine lv_aload_n hx hb dX2_init_0 rfl (lv_at hl 0 rfl) ?_
  refine W.objInit hx hb hown (hts (.methodLink RX2 3 objectInit) (by decide +kernel)) (hts (.instanceMethod objectInit) (by decide +kernel)) (hts _ (List.mem_cons_of_mem _ (List.mem_append_left _ (List.mem_of_getElem? (i := 2) rfl)))) rfl (by rw [hml]; exact hl.1) rfl dX2_init_1 (Nat.le_of_ble_eq_true rfl) (Nat.le_of_ble_eq_true rfl) ?_
  refine W.eq (g2 := F0 mt 4 ls []) rfl ?_
  refine lv_aload_n hx hb dX2_init_4 rfl (lv_at hl 0 rfl) ?_
  refine lv_aload_n hx hb dX2_init_5 rfl (lv_at hl 1 rfl) ?_
  refine va_putF (D := D) (ci := 2) (v := .ref g0) (ty := .object "SignedPaths$Graph") (C := RX2) (T := TX2) (N := 4) hx hb hts iX tyX2 tyX2_ok nmX2 hown hK hP hD hS 0 rfl rfl 0 (by decide) (hts (.fieldLink RX2 9 "SignedPaths$Walks" "graph" "LSignedPaths$Graph;") (by decide +kernel)) (fun _ h9 => h9) rfl hin rfl (by decide +kernel) rfl rfl (Nat.le_of_ble_eq_true rfl) dX2_init_6 (fun H locs hP hD hS => ?_)
  have hP : va_P D vwCl [(h0, .inr (2, [.ref g0, .null, .int 0, .int 0]))] H := hP
  have hD : va_D A [(h0, .inr (2, [.ref g0, .null, .int 0, .int 0]))] := hD
  refine lv_aload_n hx hb dX2_init_9 rfl (lv_at hl 0 rfl) ?_
  refine lv_bipush (v := nI 21) hx hb dX2_init_10 (by decide) ?_
  refine lv_sipush (v := nI 144) hx hb dX2_init_12 (by decide) ?_
  refine rn_mna hx hb hown (hts (.classLink RX2 15 "[[I") (by decide +kernel)) hAO (hts (.arrayClass .int) (by decide +kernel)) hK hP hD hS hA (by decide) (by decide) (Nat.le_of_ble_eq_true rfl) (Nat.le_of_ble_eq_true rfl) dX2_init_15 (fun q15 r15 H hP hD hS => ?_)
  have hP : va_P D vwCl ([(h0, .inr (2, [.ref g0, .null, .int 0, .int 0])), (q15, .inl (k 2, 21, .inr (.inr (.inr (.inr (fun i => if i < 21 then some (r15 i) else none))))))] ++ (List.range 21).map (fun i => (r15 i, .inl (k 0, 144, .inl (fun _ => 0))))) H := hP
  have hD : va_D A ([(h0, .inr (2, [.ref g0, .null, .int 0, .int 0])), (q15, .inl (k 2, 21, .inr (.inr (.inr (.inr (fun i => if i < 21 then some (r15 i) else none))))))] ++ (List.range 21).map (fun i => (r15 i, .inl (k 0, 144, .inl (fun _ => 0))))) := hD
  refine va_putF (D := D) (ci := 2) (v := .ref q15) (ty := .array (.array .int)) (C := RX2) (T := TX2) (N := 4) hx hb hts iX tyX2 tyX2_ok nmX2 hown hK hP hD hS 0 rfl rfl 1 (by decide) (hts (.fieldLink RX2 17 "SignedPaths$Walks" "layers" "[[I") (by decide +kernel)) (fun _ h9 => h9) rfl hin rfl (by decide +kernel) rfl rfl (Nat.le_of_ble_eq_true rfl) dX2_init_19 (fun H locs hP hD hS => ?_)
  have hP : va_P D vwCl ([(h0, .inr (2, [.ref g0, .ref q15, .int 0, .int 0])), (q15, .inl (k 2, 21, .inr (.inr (.inr (.inr (fun i => if i < 21 then some (r15 i) else none))))))] ++ (List.range 21).map (fun i => (r15 i, .inl (k 0, 144, .inl (fun _ => 0))))) H := hP
  have hD : va_D A ([(h0, .inr (2, [.ref g0, .ref q15, .int 0, .int 0])), (q15, .inl (k 2, 21, .inr (.inr (.inr (.inr (fun i => if i < 21 then some (r15 i) else none))))))] ++ (List.range 21).map (fun i => (r15 i, .inl (k 0, 144, .inl (fun _ => 0))))) := hD
  refine lv_aload_n hx hb dX2_init_22 rfl (lv_at hl 0 rfl) ?_
  refine lv_iconst (v := 0) hx hb dX2_init_23 (by decide) ?_
  refine va_put (D := D) (ci := 2) (v := .int 0) (ty := .int) (C := RX2) (T := TX2) (N := 4) hx hb hts iX tyX2 tyX2_ok nmX2 hown hK hP hD hS 0 rfl rfl 2 (by decide) (hts (.fieldLink RX2 20 "SignedPaths$Walks" "lastLayer" "I") (by decide +kernel)) (fun _ h9 => h9) rfl (by decide +kernel) rfl rfl (Nat.le_of_ble_eq_true rfl) dX2_init_24 (fun H locs hP hD hS => ?_)
  have hP : va_P D vwCl ([(h0, .inr (2, [.ref g0, .ref q15, .int 0, .int 0])), (q15, .inl (k 2, 21, .inr (.inr (.inr (.inr (fun i => if i < 21 then some (r15 i) else none))))))] ++ (List.range 21).map (fun i => (r15 i, .inl (k 0, 144, .inl (fun _ => 0))))) H := hP
  have hD : va_D A ([(h0, .inr (2, [.ref g0, .ref q15, .int 0, .int 0])), (q15, .inl (k 2, 21, .inr (.inr (.inr (.inr (fun i => if i < 21 then some (r15 i) else none))))))] ++ (List.range 21).map (fun i => (r15 i, .inl (k 0, 144, .inl (fun _ => 0))))) := hD
  refine lv_aload_n hx hb dX2_init_27 rfl (lv_at hl 0 rfl) ?_
  refine lv_iconst (v := (-1)) hx hb dX2_init_28 (by decide) ?_
  refine va_put (D := D) (ci := 2) (v := .int (-1)) (ty := .int) (C := RX2) (T := TX2) (N := 4) hx hb hts iX tyX2 tyX2_ok nmX2 hown hK hP hD hS 0 rfl rfl 3 (by decide) (hts (.fieldLink RX2 24 "SignedPaths$Walks" "seenChanges" "I") (by decide +kernel)) (fun _ h9 => h9) rfl (by decide +kernel) rfl rfl (Nat.le_of_ble_eq_true rfl) dX2_init_29 (fun H locs hP hD hS => ?_)
  have hP : va_P D vwCl ([(h0, .inr (2, [.ref g0, .ref q15, .int 0, .int (-1)])), (q15, .inl (k 2, 21, .inr (.inr (.inr (.inr (fun i => if i < 21 then some (r15 i) else none))))))] ++ (List.range 21).map (fun i => (r15 i, .inl (k 0, 144, .inl (fun _ => 0))))) H := hP
  have hD : va_D A ([(h0, .inr (2, [.ref g0, .ref q15, .int 0, .int (-1)])), (q15, .inl (k 2, 21, .inr (.inr (.inr (.inr (fun i => if i < 21 then some (r15 i) else none))))))] ++ (List.range 21).map (fun i => (r15 i, .inl (k 0, 144, .inl (fun _ => 0))))) := hD
  refine W.widen (k := 22) (n := 3045) (Nat.le_of_ble_eq_true rfl) (Nat.le_of_ble_eq_true rfl) ?_
  exact W.vret hx hb hr (fun t ht hW => ⟨⟨((fun i =>  q15), r15), rfl, trivial, by rw [ht]; exact hP, hD⟩, hS.F ht⟩) hS.2.2 dX2_init_32
abbrev ci1_w (k : Nat → ClassId) (h0 : Nat) (g0 : Nat) (u : (Nat → Nat) × (Nat → Nat)) : va_W := ([(h0, .inr (1, [.ref g0, .ref (u.1 0), .ref (u.1 1), .int 0, .ref (u.1 2), .ref (u.1 3), .int 0, .int (-1)])), ((u.1 0), .inl (k 0, 12, .inl (fun _ => 0))), ((u.1 1), .inl (k 1, 12, .inl (fun _ => 0))), ((u.1 2), .inl (k 0, 12, .inl (fun _ => 0))), ((u.1 3), .inl (k 2, 12, .inr (.inr (.inr (.inr (fun i => if i < 12 then some (u.2 i) else none))))))] ++ (List.range 12).map (fun i => (u.2 i, .inl (k 0, 12, .inl (fun _ => 0)))))
abbrev ci1_0 (h0 : Nat) : va_W := [(h0, .inr (1, [.null, .null, .null, .int 0, .null, .null, .int 0, .int 0]))]
set_option maxHeartbeats 4000000 in
set_option maxRecDepth 100000 in
theorem ci1 (l : Launch) {D : va_G} {k : Nat → ClassId} (h0 sz : Nat) (g0 : Nat) : Met l yX1_init wsX1_init ({ frames := 1, cells := 16, slots := 192, locals := 12 }) (va_Pc [.ref h0, .ref g0] (fun U => U.heap.size = sz ∧ va_P D vwCl (ci1_0 h0) U.heap ∧ va_K D vwCl (tyL k) U ∧ va_D (fun _ => True) (ci1_0 h0) ∧ va_AOA .int U)) (va_Qv (S := (Nat → Nat) × (Nat → Nat)) (fun _ => True) (fun u t => va_P D vwCl (ci1_w k h0 g0 u) t.heap ∧ va_D (va_A (ci1_0 h0) sz) (ci1_w k h0 g0 u)) (va_A (ci1_0 h0) sz)) 16 192 (va_A (ci1_0 h0) sz) := by
  refine Met.ofW (cc := cX1_init) (maxL := 2) (ret := none) (by decide) rfl ?_
  intro p e s mt args below meth c s₁ B hml hv
  obtain ⟨rfl, hsz, hP, hK, hD0, hAO⟩ := hv
  have hx := B.exec
  have hb := B.bytes
  have hr := B.returns
  have hts := atoms_spec (ws := wsX1_init) B.pre
  have hown : s.vm.findClass RX1 = some mt.cls := findClass_of_methodNamed B.named
  have hlocks := B.notSynchronized
  have hin : meth.name = "<init>" := (name_of_methodNamed B.named B.method).1
  have iX : ∀ w ∈ wsX10, w ∈ wsX1_init := by decide +kernel
  subst hsz
  have hD := hD0.self (sz := s.heap.size)
  generalize hAe : va_A [(h0, .inr (1, [.null, .null, .null, .int 0, .null, .null, .int 0, .int 0]))] s.heap.size = A at hD ⊢
  have hA : ∀ q : Nat, s.heap.size ≤ q → A q := fun q h => by rw [← hAe]; exact Or.inr h
  have hS : va_S A s.heap s.heap [] := va_S.rf
  have hl := lv_entry ([.ref h0, .ref g0]) (n := 2) (Nat.le_of_ble_eq_true rfl)
  rw [lg_entry_eq]
  generalize (lg_sl ([.ref h0, .ref g0]) ++ List.replicate (2 - (lg_sl ([.ref h0, .ref g0])).length) Slot.unset).toArray = ls at hl ⊢
  have hl : lv_has ls 2 [(0, .ref h0), (1, .ref g0)] := hl
  refine lv_aload_n hx hb dX1_init_0 rfl (lv_at hl 0 rfl) ?_
  refine W.objInit hx hb hown (hts (.methodLink RX1 3 objectInit) (by decide +kernel)) (hts (.instanceMethod objectInit) (by decide +kernel)) (hts _ (List.mem_cons_of_mem _ (List.mem_append_left _ (List.mem_of_getElem? (i := 2) rfl)))) rfl (by rw [hml]; exact hl.1) rfl dX1_init_1 (Nat.le_of_ble_eq_true rfl) (Nat.le_of_ble_eq_true rfl) ?_
  refine W.eq (g2 := F0 mt 4 ls []) rfl ?_
  refine lv_aload_n hx hb dX1_init_4 rfl (lv_at hl 0 rfl) ?_
  refine lv_aload_n hx hb dX1_init_5 rfl (lv_at hl 1 rfl) ?_
  refine va_putF (D := D) (ci := 1) (v := .ref g0) (ty := .object "SignedPaths$Graph") (C := RX1) (T := TX1) (N := 8) hx hb hts iX tyX1 tyX1_ok nmX1 hown hK hP hD hS 0 rfl rfl 0 (by decide) (hts (.fieldLink RX1 9 "SignedPaths$Ringless" "graph" "LSignedPaths$Graph;") (by decide +kernel)) (fun _ h9 => h9) rfl hin rfl (by decide +kernel) rfl rfl (Nat.le_of_ble_eq_true rfl) dX1_init_6 (fun H locs hP hD hS => ?_)
  have hP : va_P D vwCl [(h0, .inr (1, [.ref g0, .null, .null, .int 0, .null, .null, .int 0, .int 0]))] H := hP
  have hD : va_D A [(h0, .inr (1, [.ref g0, .null, .null, .int 0, .null, .null, .int 0, .int 0]))] := hD
  refine lv_aload_n hx hb dX1_init_9 rfl (lv_at hl 0 rfl) ?_
  refine lv_bipush (v := nI 12) hx hb dX1_init_10 (by decide) ?_
  refine rn_newa (atype := .int) (ty := .int) (a0 := (12, .inl (fun _ => 0))) hx hb (hts (.arrayClass .int) (by decide +kernel)) rfl hK hP hD hS hA 0 rfl (fun _ h => h) (fun _ => rfl) (by decide) (by decide) (Nat.le_of_ble_eq_true rfl) (Nat.le_of_ble_eq_true rfl) dX1_init_12 (fun q12 H hP hD hS => ?_)
  have hP : va_P D vwCl [(h0, .inr (1, [.ref g0, .null, .null, .int 0, .null, .null, .int 0, .int 0])), (q12, .inl (k 0, 12, .inl (fun _ => 0)))] H := hP
  have hD : va_D A [(h0, .inr (1, [.ref g0, .null, .null, .int 0, .null, .null, .int 0, .int 0])), (q12, .inl (k 0, 12, .inl (fun _ => 0)))] := hD
  refine va_putF (D := D) (ci := 1) (v := .ref q12) (ty := .array .int) (C := RX1) (T := TX1) (N := 8) hx hb hts iX tyX1 tyX1_ok nmX1 hown hK hP hD hS 0 rfl rfl 1 (by decide) (hts (.fieldLink RX1 15 "SignedPaths$Ringless" "ordered" "[I") (by decide +kernel)) (fun _ h9 => h9) rfl hin rfl (by decide +kernel) rfl rfl (Nat.le_of_ble_eq_true rfl) dX1_init_14 (fun H locs hP hD hS => ?_)
  have hP : va_P D vwCl [(h0, .inr (1, [.ref g0, .ref q12, .null, .int 0, .null, .null, .int 0, .int 0])), (q12, .inl (k 0, 12, .inl (fun _ => 0)))] H := hP
  have hD : va_D A [(h0, .inr (1, [.ref g0, .ref q12, .null, .int 0, .null, .null, .int 0, .int 0])), (q12, .inl (k 0, 12, .inl (fun _ => 0)))] := hD
  refine lv_aload_n hx hb dX1_init_17 rfl (lv_at hl 0 rfl) ?_
  refine lv_bipush (v := nI 12) hx hb dX1_init_18 (by decide) ?_
  refine rn_newa (atype := .boolean) (ty := .boolean) (a0 := (12, .inl (fun _ => 0))) hx hb (hts (.arrayClass .boolean) (by decide +kernel)) rfl hK hP hD hS hA 1 rfl (fun _ h => h) (fun _ => rfl) (by decide) (by decide) (Nat.le_of_ble_eq_true rfl) (Nat.le_of_ble_eq_true rfl) dX1_init_20 (fun q20 H hP hD hS => ?_)
  have hP : va_P D vwCl [(h0, .inr (1, [.ref g0, .ref q12, .null, .int 0, .null, .null, .int 0, .int 0])), (q12, .inl (k 0, 12, .inl (fun _ => 0))), (q20, .inl (k 1, 12, .inl (fun _ => 0)))] H := hP
  have hD : va_D A [(h0, .inr (1, [.ref g0, .ref q12, .null, .int 0, .null, .null, .int 0, .int 0])), (q12, .inl (k 0, 12, .inl (fun _ => 0))), (q20, .inl (k 1, 12, .inl (fun _ => 0)))] := hD
  refine va_putF (D := D) (ci := 1) (v := .ref q20) (ty := .array .boolean) (C := RX1) (T := TX1) (N := 8) hx hb hts iX tyX1 tyX1_ok nmX1 hown hK hP hD hS 0 rfl rfl 2 (by decide) (hts (.fieldLink RX1 19 "SignedPaths$Ringless" "isOrdered" "[Z") (by decide +kernel)) (fun _ h9 => h9) rfl hin rfl (by decide +kernel) rfl rfl (Nat.le_of_ble_eq_true rfl) dX1_init_22 (fun H locs hP hD hS => ?_)
  have hP : va_P D vwCl [(h0, .inr (1, [.ref g0, .ref q12, .ref q20, .int 0, .null, .null, .int 0, .int 0])), (q12, .inl (k 0, 12, .inl (fun _ => 0))), (q20, .inl (k 1, 12, .inl (fun _ => 0)))] H := hP
  have hD : va_D A [(h0, .inr (1, [.ref g0, .ref q12, .ref q20, .int 0, .null, .null, .int 0, .int 0])), (q12, .inl (k 0, 12, .inl (fun _ => 0))), (q20, .inl (k 1, 12, .inl (fun _ => 0)))] := hD
  refine lv_aload_n hx hb dX1_init_25 rfl (lv_at hl 0 rfl) ?_
  refine lv_iconst (v := 0) hx hb dX1_init_26 (by decide) ?_
  refine va_put (D := D) (ci := 1) (v := .int 0) (ty := .int) (C := RX1) (T := TX1) (N := 8) hx hb hts iX tyX1 tyX1_ok nmX1 hown hK hP hD hS 0 rfl rfl 3 (by decide) (hts (.fieldLink RX1 23 "SignedPaths$Ringless" "orderedCount" "I") (by decide +kernel)) (fun _ h9 => h9) rfl (by decide +kernel) rfl rfl (Nat.le_of_ble_eq_true rfl) dX1_init_27 (fun H locs hP hD hS => ?_)
  have hP : va_P D vwCl [(h0, .inr (1, [.ref g0, .ref q12, .ref q20, .int 0, .null, .null, .int 0, .int 0])), (q12, .inl (k 0, 12, .inl (fun _ => 0))), (q20, .inl (k 1, 12, .inl (fun _ => 0)))] H := hP
  have hD : va_D A [(h0, .inr (1, [.ref g0, .ref q12, .ref q20, .int 0, .null, .null, .int 0, .int 0])), (q12, .inl (k 0, 12, .inl (fun _ => 0))), (q20, .inl (k 1, 12, .inl (fun _ => 0)))] := hD
  refine lv_aload_n hx hb dX1_init_30 rfl (lv_at hl 0 rfl) ?_
  refine lv_bipush (v := nI 12) hx hb dX1_init_31 (by decide) ?_
  refine rn_newa (atype := .int) (ty := .int) (a0 := (12, .inl (fun _ => 0))) hx hb (hts (.arrayClass .int) (by decide +kernel)) rfl hK hP hD hS hA 0 rfl (fun _ h => h) (fun _ => rfl) (by decide) (by decide) (Nat.le_of_ble_eq_true rfl) (Nat.le_of_ble_eq_true rfl) dX1_init_33 (fun q33 H hP hD hS => ?_)
  have hP : va_P D vwCl [(h0, .inr (1, [.ref g0, .ref q12, .ref q20, .int 0, .null, .null, .int 0, .int 0])), (q12, .inl (k 0, 12, .inl (fun _ => 0))), (q20, .inl (k 1, 12, .inl (fun _ => 0))), (q33, .inl (k 0, 12, .inl (fun _ => 0)))] H := hP
  have hD : va_D A [(h0, .inr (1, [.ref g0, .ref q12, .ref q20, .int 0, .null, .null, .int 0, .int 0])), (q12, .inl (k 0, 12, .inl (fun _ => 0))), (q20, .inl (k 1, 12, .inl (fun _ => 0))), (q33, .inl (k 0, 12, .inl (fun _ => 0)))] := hD
  refine va_putF (D := D) (ci := 1) (v := .ref q33) (ty := .array .int) (C := RX1) (T := TX1) (N := 8) hx hb hts iX tyX1 tyX1_ok nmX1 hown hK hP hD hS 0 rfl rfl 4 (by decide) (hts (.fieldLink RX1 27 "SignedPaths$Ringless" "farthest" "[I") (by decide +kernel)) (fun _ h9 => h9) rfl hin rfl (by decide +kernel) rfl rfl (Nat.le_of_ble_eq_true rfl) dX1_init_35 (fun H locs hP hD hS => ?_)
  have hP : va_P D vwCl [(h0, .inr (1, [.ref g0, .ref q12, .ref q20, .int 0, .ref q33, .null, .int 0, .int 0])), (q12, .inl (k 0, 12, .inl (fun _ => 0))), (q20, .inl (k 1, 12, .inl (fun _ => 0))), (q33, .inl (k 0, 12, .inl (fun _ => 0)))] H := hP
  have hD : va_D A [(h0, .inr (1, [.ref g0, .ref q12, .ref q20, .int 0, .ref q33, .null, .int 0, .int 0])), (q12, .inl (k 0, 12, .inl (fun _ => 0))), (q20, .inl (k 1, 12, .inl (fun _ => 0))), (q33, .inl (k 0, 12, .inl (fun _ => 0)))] := hD
  refine lv_aload_n hx hb dX1_init_38 rfl (lv_at hl 0 rfl) ?_
  refine lv_bipush (v := nI 12) hx hb dX1_init_39 (by decide) ?_
  refine lv_bipush (v := nI 12) hx hb dX1_init_41 (by decide) ?_
  refine rn_mna hx hb hown (hts (.classLink RX1 30 "[[I") (by decide +kernel)) hAO (hts (.arrayClass .int) (by decide +kernel)) hK hP hD hS hA (by decide) (by decide) (Nat.le_of_ble_eq_true rfl) (Nat.le_of_ble_eq_true rfl) dX1_init_43 (fun q43 r43 H hP hD hS => ?_)
  have hP : va_P D vwCl ([(h0, .inr (1, [.ref g0, .ref q12, .ref q20, .int 0, .ref q33, .null, .int 0, .int 0])), (q12, .inl (k 0, 12, .inl (fun _ => 0))), (q20, .inl (k 1, 12, .inl (fun _ => 0))), (q33, .inl (k 0, 12, .inl (fun _ => 0))), (q43, .inl (k 2, 12, .inr (.inr (.inr (.inr (fun i => if i < 12 then some (r43 i) else none))))))] ++ (List.range 12).map (fun i => (r43 i, .inl (k 0, 12, .inl (fun _ => 0))))) H := hP
  have hD : va_D A ([(h0, .inr (1, [.ref g0, .ref q12, .ref q20, .int 0, .ref q33, .null, .int 0, .int 0])), (q12, .inl (k 0, 12, .inl (fun _ => 0))), (q20, .inl (k 1, 12, .inl (fun _ => 0))), (q33, .inl (k 0, 12, .inl (fun _ => 0))), (q43, .inl (k 2, 12, .inr (.inr (.inr (.inr (fun i => if i < 12 then some (r43 i) else none))))))] ++ (List.range 12).map (fun i => (r43 i, .inl (k 0, 12, .inl (fun _ => 0))))) := hD
  refine va_putF (D := D) (ci := 1) (v := .ref q43) (ty := .array (.array .int)) (C := RX1) (T := TX1) (N := 8) hx hb hts iX tyX1 tyX1_ok nmX1 hown hK hP hD hS 0 rfl rfl 5 (by decide) (hts (.fieldLink RX1 32 "SignedPaths$Ringless" "onward" "[[I") (by decide +kernel)) (fun _ h9 => h9) rfl hin rfl (by decide +kernel) rfl rfl (Nat.le_of_ble_eq_true rfl) dX1_init_47 (fun H locs hP hD hS => ?_)
  have hP : va_P D vwCl ([(h0, .inr (1, [.ref g0, .ref q12, .ref q20, .int 0, .ref q33, .ref q43, .int 0, .int 0])), (q12, .inl (k 0, 12, .inl (fun _ => 0))), (q20, .inl (k 1, 12, .inl (fun _ => 0))), (q33, .inl (k 0, 12, .inl (fun _ => 0))), (q43, .inl (k 2, 12, .inr (.inr (.inr (.inr (fun i => if i < 12 then some (r43 i) else none))))))] ++ (List.range 12).map (fun i => (r43 i, .inl (k 0, 12, .inl (fun _ => 0))))) H := hP
  have hD : va_D A ([(h0, .inr (1, [.ref g0, .ref q12, .ref q20, .int 0, .ref q33, .ref q43, .int 0, .int 0])), (q12, .inl (k 0, 12, .inl (fun _ => 0))), (q20, .inl (k 1, 12, .inl (fun _ => 0))), (q33, .inl (k 0, 12, .inl (fun _ => 0))), (q43, .inl (k 2, 12, .inr (.inr (.inr (.inr (fun i => if i < 12 then some (r43 i) else none))))))] ++ (List.range 12).map (fun i => (r43 i, .inl (k 0, 12, .inl (fun _ => 0))))) := hD
  refine lv_aload_n hx hb dX1_init_50 rfl (lv_at hl 0 rfl) ?_
  refine lv_iconst (v := 0) hx hb dX1_init_51 (by decide) ?_
  refine va_put (D := D) (ci := 1) (v := .int 0) (ty := .int) (C := RX1) (T := TX1) (N := 8) hx hb hts iX tyX1 tyX1_ok nmX1 hown hK hP hD hS 0 rfl rfl 6 (by decide) (hts (.fieldLink RX1 35 "SignedPaths$Ringless" "greatest" "I") (by decide +kernel)) (fun _ h9 => h9) rfl (by decide +kernel) rfl rfl (Nat.le_of_ble_eq_true rfl) dX1_init_52 (fun H locs hP hD hS => ?_)
  have hP : va_P D vwCl ([(h0, .inr (1, [.ref g0, .ref q12, .ref q20, .int 0, .ref q33, .ref q43, .int 0, .int 0])), (q12, .inl (k 0, 12, .inl (fun _ => 0))), (q20, .inl (k 1, 12, .inl (fun _ => 0))), (q33, .inl (k 0, 12, .inl (fun _ => 0))), (q43, .inl (k 2, 12, .inr (.inr (.inr (.inr (fun i => if i < 12 then some (r43 i) else none))))))] ++ (List.range 12).map (fun i => (r43 i, .inl (k 0, 12, .inl (fun _ => 0))))) H := hP
  have hD : va_D A ([(h0, .inr (1, [.ref g0, .ref q12, .ref q20, .int 0, .ref q33, .ref q43, .int 0, .int 0])), (q12, .inl (k 0, 12, .inl (fun _ => 0))), (q20, .inl (k 1, 12, .inl (fun _ => 0))), (q33, .inl (k 0, 12, .inl (fun _ => 0))), (q43, .inl (k 2, 12, .inr (.inr (.inr (.inr (fun i => if i < 12 then some (r43 i) else none))))))] ++ (List.range 12).map (fun i => (r43 i, .inl (k 0, 12, .inl (fun _ => 0))))) := hD
  refine lv_aload_n hx hb dX1_init_55 rfl (lv_at hl 0 rfl) ?_
  refine lv_iconst (v := (-1)) hx hb dX1_init_56 (by decide) ?_
  refine va_put (D := D) (ci := 1) (v := .int (-1)) (ty := .int) (C := RX1) (T := TX1) (N := 8) hx hb hts iX tyX1 tyX1_ok nmX1 hown hK hP hD hS 0 rfl rfl 7 (by decide) (hts (.fieldLink RX1 38 "SignedPaths$Ringless" "seenChanges" "I") (by decide +kernel)) (fun _ h9 => h9) rfl (by decide +kernel) rfl rfl (Nat.le_of_ble_eq_true rfl) dX1_init_57 (fun H locs hP hD hS => ?_)
  have hP : va_P D vwCl ([(h0, .inr (1, [.ref g0, .ref q12, .ref q20, .int 0, .ref q33, .ref q43, .int 0, .int (-1)])), (q12, .inl (k 0, 12, .inl (fun _ => 0))), (q20, .inl (k 1, 12, .inl (fun _ => 0))), (q33, .inl (k 0, 12, .inl (fun _ => 0))), (q43, .inl (k 2, 12, .inr (.inr (.inr (.inr (fun i => if i < 12 then some (r43 i) else none))))))] ++ (List.range 12).map (fun i => (r43 i, .inl (k 0, 12, .inl (fun _ => 0))))) H := hP
  have hD : va_D A ([(h0, .inr (1, [.ref g0, .ref q12, .ref q20, .int 0, .ref q33, .ref q43, .int 0, .int (-1)])), (q12, .inl (k 0, 12, .inl (fun _ => 0))), (q20, .inl (k 1, 12, .inl (fun _ => 0))), (q33, .inl (k 0, 12, .inl (fun _ => 0))), (q43, .inl (k 2, 12, .inr (.inr (.inr (.inr (fun i => if i < 12 then some (r43 i) else none))))))] ++ (List.range 12).map (fun i => (r43 i, .inl (k 0, 12, .inl (fun _ => 0))))) := hD
  refine W.widen (k := 16) (n := 192) (Nat.le_of_ble_eq_true rfl) (Nat.le_of_ble_eq_true rfl) ?_
  exact W.vret hx hb hr (fun t ht hW => ⟨⟨((fun i => if i = 0 then q12 else if i = 1 then q20 else if i = 2 then q33 else q43), r43), rfl, trivial, by rw [ht]; exact hP, hD⟩, hS.F ht⟩) hS.2.2 dX1_init_60
abbrev ci4_w (k : Nat → ClassId) (h0 : Nat) (u : Nat → Nat) : va_W := [(h0, .inr (4, [.int 0, .int 0, .ref (u 0), .ref (u 1), .ref (u 2), .ref (u 3), .ref (u 4), .ref (u 5), .ref (u 6), .ref (u 7), .ref (u 8), .int 0, .ref (u 9), .ref (u 10)])), ((u 0), .inl (k 0, 40, .inl (fun _ => 0))), ((u 1), .inl (k 0, 40, .inl (fun _ => 0))), ((u 2), .inl (k 0, 40, .inl (fun _ => 0))), ((u 3), .inl (k 1, 40, .inl (fun _ => 0))), ((u 4), .inl (k 3, 144, .inr (.inl (fun _ => 0)))), ((u 5), .inl (k 3, 144, .inr (.inl (fun _ => 0)))), ((u 6), .inl (k 3, 144, .inr (.inl (fun _ => 0)))), ((u 7), .inl (k 3, 144, .inr (.inl (fun _ => 0)))), ((u 8), .inl (k 3, 144, .inr (.inl (fun _ => 0)))), ((u 9), .inl (k 0, 12, .inl (fun _ => 0))), ((u 10), .inl (k 3, 144, .inr (.inl (fun _ => 0))))]
abbrev ci4_0 (h0 : Nat) : va_W := [(h0, .inr (4, [.int 0, .int 0, .null, .null, .null, .null, .null, .null, .null, .null, .null, .int 0, .null, .null]))]
set_option maxHeartbeats 4000000 in
set_option maxRecDepth 100000 in
theorem ci4 (l : Launch) {D : va_G} {k : Nat → ClassId} (h0 sz : Nat) : Met l yX4_init wsX4_init ({ frames := 1, cells := 11, slots := 1036, locals := 12 }) (va_Pc [.ref h0] (fun U => U.heap.size = sz ∧ va_P D vwCl (ci4_0 h0) U.heap ∧ va_K D vwCl (tyL k) U ∧ va_D (fun _ => True) (ci4_0 h0) ∧ va_AOA .int U)) (va_Qv (S := Nat → Nat) (fun _ => True) (fun u t => va_P D vwCl (ci4_w k h0 u) t.heap ∧ va_D (va_A (ci4_0 h0) sz) (ci4_w k h0 u)) (va_A (ci4_0 h0) sz)) 11 1036 (va_A (ci4_0 h0) sz) := by
  refine Met.ofW (cc := cX4_init) (maxL := 1) (ret := none) (by decide) rfl ?_
  intro p e s mt args below meth c s₁ B hml hv
  obtain ⟨rfl, hsz, hP, hK, hD0, hAO⟩ := hv
  have hx := B.exec
  have hb := B.bytes
  have hr := B.returns
  have hts := atoms_spec (ws := wsX4_init) B.pre
  have hown : s.vm.findClass RX4 = some mt.cls := findClass_of_methodNamed B.named
  have hlocks := B.notSynchronized
  have hin : meth.name = "<init>" := (name_of_methodNamed B.named B.method).1
  have iX : ∀ w ∈ wsX40, w ∈ wsX4_init := by decide +kernel
  subst hsz
  have hD := hD0.self (sz := s.heap.size)
  generalize hAe : va_A [(h0, .inr (4, [.int 0, .int 0, .null, .null, .null, .null, .null, .null, .null, .null, .null, .int 0, .null, .null]))] s.heap.size = A at hD ⊢
  have hA : ∀ q : Nat, s.heap.size ≤ q → A q := fun q h => by rw [← hAe]; exact Or.inr h
  have hS : va_S A s.heap s.heap [] := va_S.rf
  have hl := lv_entry ([.ref h0]) (n := 1) (Nat.le_of_ble_eq_true rfl)
  rw [lg_entry_eq]
  generalize (lg_sl ([.ref h0]) ++ List.replicate (1 - (lg_sl ([.ref h0])).length) Slot.unset).toArray = ls at hl ⊢
  have hl : lv_has ls 1 [(0, .ref h0)] := hl
  refine lv_aload_n hx hb dX4_init_0 rfl (lv_at hl 0 rfl) ?_
  refine W.objInit hx hb hown (hts (.methodLink RX4 1 objectInit) (by decide +kernel)) (hts (.instanceMethod objectInit) (by decide +kernel)) (hts _ (List.mem_cons_of_mem _ (List.mem_append_left _ (List.mem_of_getElem? (i := 2) rfl)))) rfl (by rw [hml]; exact hl.1) rfl dX4_init_1 (Nat.le_of_ble_eq_true rfl) (Nat.le_of_ble_eq_true rfl) ?_
  refine W.eq (g2 := F0 mt 4 ls []) rfl ?_
  refine lv_aload_n hx hb dX4_init_4 rfl (lv_at hl 0 rfl) ?_
  refine lv_bipush (v := nI 40) hx hb dX4_init_5 (by decide) ?_
  refine rn_newa (atype := .int) (ty := .int) (a0 := (40, .inl (fun _ => 0))) hx hb (hts (.arrayClass .int) (by decide +kernel)) rfl hK hP hD hS hA 0 rfl (fun _ h => h) (fun _ => rfl) (by decide) (by decide) (Nat.le_of_ble_eq_true rfl) (Nat.le_of_ble_eq_true rfl) dX4_init_7 (fun q7 H hP hD hS => ?_)
  have hP : va_P D vwCl [(h0, .inr (4, [.int 0, .int 0, .null, .null, .null, .null, .null, .null, .null, .null, .null, .int 0, .null, .null])), (q7, .inl (k 0, 40, .inl (fun _ => 0)))] H := hP
  have hD : va_D A [(h0, .inr (4, [.int 0, .int 0, .null, .null, .null, .null, .null, .null, .null, .null, .null, .int 0, .null, .null])), (q7, .inl (k 0, 40, .inl (fun _ => 0)))] := hD
  refine va_putF (D := D) (ci := 4) (v := .ref q7) (ty := .array .int) (C := RX4) (T := TX4) (N := 14) hx hb hts iX tyX4 tyX4_ok nmX4 hown hK hP hD hS 0 rfl rfl 2 (by decide) (hts (.fieldLink RX4 7 "SignedPathsModel" "from" "[I") (by decide +kernel)) (fun _ h9 => h9) rfl hin rfl (by decide +kernel) rfl rfl (Nat.le_of_ble_eq_true rfl) dX4_init_9 (fun H locs hP hD hS => ?_)
  have hP : va_P D vwCl [(h0, .inr (4, [.int 0, .int 0, .ref q7, .null, .null, .null, .null, .null, .null, .null, .null, .int 0, .null, .null])), (q7, .inl (k 0, 40, .inl (fun _ => 0)))] H := hP
  have hD : va_D A [(h0, .inr (4, [.int 0, .int 0, .ref q7, .null, .null, .null, .null, .null, .null, .null, .null, .int 0, .null, .null])), (q7, .inl (k 0, 40, .inl (fun _ => 0)))] := hD
  refine lv_aload_n hx hb dX4_init_12 rfl (lv_at hl 0 rfl) ?_
  refine lv_bipush (v := nI 40) hx hb dX4_init_13 (by decide) ?_
  refine rn_newa (atype := .int) (ty := .int) (a0 := (40, .inl (fun _ => 0))) hx hb (hts (.arrayClass .int) (by decide +kernel)) rfl hK hP hD hS hA 0 rfl (fun _ h => h) (fun _ => rfl) (by decide) (by decide) (Nat.le_of_ble_eq_true rfl) (Nat.le_of_ble_eq_true rfl) dX4_init_15 (fun q15 H hP hD hS => ?_)
  have hP : va_P D vwCl [(h0, .inr (4, [.int 0, .int 0, .ref q7, .null, .null, .null, .null, .null, .null, .null, .null, .int 0, .null, .null])), (q7, .inl (k 0, 40, .inl (fun _ => 0))), (q15, .inl (k 0, 40, .inl (fun _ => 0)))] H := hP
  have hD : va_D A [(h0, .inr (4, [.int 0, .int 0, .ref q7, .null, .null, .null, .null, .null, .null, .null, .null, .int 0, .null, .null])), (q7, .inl (k 0, 40, .inl (fun _ => 0))), (q15, .inl (k 0, 40, .inl (fun _ => 0)))] := hD
  refine va_putF (D := D) (ci := 4) (v := .ref q15) (ty := .array .int) (C := RX4) (T := TX4) (N := 14) hx hb hts iX tyX4 tyX4_ok nmX4 hown hK hP hD hS 0 rfl rfl 3 (by decide) (hts (.fieldLink RX4 13 "SignedPathsModel" "to" "[I") (by decide +kernel)) (fun _ h9 => h9) rfl hin rfl (by decide +kernel) rfl rfl (Nat.le_of_ble_eq_true rfl) dX4_init_17 (fun H locs hP hD hS => ?_)
  have hP : va_P D vwCl [(h0, .inr (4, [.int 0, .int 0, .ref q7, .ref q15, .null, .null, .null, .null, .null, .null, .null, .int 0, .null, .null])), (q7, .inl (k 0, 40, .inl (fun _ => 0))), (q15, .inl (k 0, 40, .inl (fun _ => 0)))] H := hP
  have hD : va_D A [(h0, .inr (4, [.int 0, .int 0, .ref q7, .ref q15, .null, .null, .null, .null, .null, .null, .null, .int 0, .null, .null])), (q7, .inl (k 0, 40, .inl (fun _ => 0))), (q15, .inl (k 0, 40, .inl (fun _ => 0)))] := hD
  refine lv_aload_n hx hb dX4_init_20 rfl (lv_at hl 0 rfl) ?_
  refine lv_bipush (v := nI 40) hx hb dX4_init_21 (by decide) ?_
  refine rn_newa (atype := .int) (ty := .int) (a0 := (40, .inl (fun _ => 0))) hx hb (hts (.arrayClass .int) (by decide +kernel)) rfl hK hP hD hS hA 0 rfl (fun _ h => h) (fun _ => rfl) (by decide) (by decide) (Nat.le_of_ble_eq_true rfl) (Nat.le_of_ble_eq_true rfl) dX4_init_23 (fun q23 H hP hD hS => ?_)
  have hP : va_P D vwCl [(h0, .inr (4, [.int 0, .int 0, .ref q7, .ref q15, .null, .null, .null, .null, .null, .null, .null, .int 0, .null, .null])), (q7, .inl (k 0, 40, .inl (fun _ => 0))), (q15, .inl (k 0, 40, .inl (fun _ => 0))), (q23, .inl (k 0, 40, .inl (fun _ => 0)))] H := hP
  have hD : va_D A [(h0, .inr (4, [.int 0, .int 0, .ref q7, .ref q15, .null, .null, .null, .null, .null, .null, .null, .int 0, .null, .null])), (q7, .inl (k 0, 40, .inl (fun _ => 0))), (q15, .inl (k 0, 40, .inl (fun _ => 0))), (q23, .inl (k 0, 40, .inl (fun _ => 0)))] := hD
  refine va_putF (D := D) (ci := 4) (v := .ref q23) (ty := .array .int) (C := RX4) (T := TX4) (N := 14) hx hb hts iX tyX4 tyX4_ok nmX4 hown hK hP hD hS 0 rfl rfl 4 (by decide) (hts (.fieldLink RX4 16 "SignedPathsModel" "weight" "[I") (by decide +kernel)) (fun _ h9 => h9) rfl hin rfl (by decide +kernel) rfl rfl (Nat.le_of_ble_eq_true rfl) dX4_init_25 (fun H locs hP hD hS => ?_)
  have hP : va_P D vwCl [(h0, .inr (4, [.int 0, .int 0, .ref q7, .ref q15, .ref q23, .null, .null, .null, .null, .null, .null, .int 0, .null, .null])), (q7, .inl (k 0, 40, .inl (fun _ => 0))), (q15, .inl (k 0, 40, .inl (fun _ => 0))), (q23, .inl (k 0, 40, .inl (fun _ => 0)))] H := hP
  have hD : va_D A [(h0, .inr (4, [.int 0, .int 0, .ref q7, .ref q15, .ref q23, .null, .null, .null, .null, .null, .null, .int 0, .null, .null])), (q7, .inl (k 0, 40, .inl (fun _ => 0))), (q15, .inl (k 0, 40, .inl (fun _ => 0))), (q23, .inl (k 0, 40, .inl (fun _ => 0)))] := hD
  refine lv_aload_n hx hb dX4_init_28 rfl (lv_at hl 0 rfl) ?_
  refine lv_bipush (v := nI 40) hx hb dX4_init_29 (by decide) ?_
  refine rn_newa (atype := .boolean) (ty := .boolean) (a0 := (40, .inl (fun _ => 0))) hx hb (hts (.arrayClass .boolean) (by decide +kernel)) rfl hK hP hD hS hA 1 rfl (fun _ h => h) (fun _ => rfl) (by decide) (by decide) (Nat.le_of_ble_eq_true rfl) (Nat.le_of_ble_eq_true rfl) dX4_init_31 (fun q31 H hP hD hS => ?_)
  have hP : va_P D vwCl [(h0, .inr (4, [.int 0, .int 0, .ref q7, .ref q15, .ref q23, .null, .null, .null, .null, .null, .null, .int 0, .null, .null])), (q7, .inl (k 0, 40, .inl (fun _ => 0))), (q15, .inl (k 0, 40, .inl (fun _ => 0))), (q23, .inl (k 0, 40, .inl (fun _ => 0))), (q31, .inl (k 1, 40, .inl (fun _ => 0)))] H := hP
  have hD : va_D A [(h0, .inr (4, [.int 0, .int 0, .ref q7, .ref q15, .ref q23, .null, .null, .null, .null, .null, .null, .int 0, .null, .null])), (q7, .inl (k 0, 40, .inl (fun _ => 0))), (q15, .inl (k 0, 40, .inl (fun _ => 0))), (q23, .inl (k 0, 40, .inl (fun _ => 0))), (q31, .inl (k 1, 40, .inl (fun _ => 0)))] := hD
  refine va_putF (D := D) (ci := 4) (v := .ref q31) (ty := .array .boolean) (C := RX4) (T := TX4) (N := 14) hx hb hts iX tyX4 tyX4_ok nmX4 hown hK hP hD hS 0 rfl rfl 5 (by decide) (hts (.fieldLink RX4 19 "SignedPathsModel" "isThere" "[Z") (by decide +kernel)) (fun _ h9 => h9) rfl hin rfl (by decide +kernel) rfl rfl (Nat.le_of_ble_eq_true rfl) dX4_init_33 (fun H locs hP hD hS => ?_)
  have hP : va_P D vwCl [(h0, .inr (4, [.int 0, .int 0, .ref q7, .ref q15, .ref q23, .ref q31, .null, .null, .null, .null, .null, .int 0, .null, .null])), (q7, .inl (k 0, 40, .inl (fun _ => 0))), (q15, .inl (k 0, 40, .inl (fun _ => 0))), (q23, .inl (k 0, 40, .inl (fun _ => 0))), (q31, .inl (k 1, 40, .inl (fun _ => 0)))] H := hP
  have hD : va_D A [(h0, .inr (4, [.int 0, .int 0, .ref q7, .ref q15, .ref q23, .ref q31, .null, .null, .null, .null, .null, .int 0, .null, .null])), (q7, .inl (k 0, 40, .inl (fun _ => 0))), (q15, .inl (k 0, 40, .inl (fun _ => 0))), (q23, .inl (k 0, 40, .inl (fun _ => 0))), (q31, .inl (k 1, 40, .inl (fun _ => 0)))] := hD
  refine lv_aload_n hx hb dX4_init_36 rfl (lv_at hl 0 rfl) ?_
  refine lv_sipush (v := nI 144) hx hb dX4_init_37 (by decide) ?_
  refine rn_newa (atype := .long) (ty := .long) (a0 := (144, .inr (.inl (fun _ => 0)))) hx hb (hts (.arrayClass .long) (by decide +kernel)) rfl hK hP hD hS hA 3 rfl (fun _ h => h) (fun _ => rfl) (by decide) (by decide) (Nat.le_of_ble_eq_true rfl) (Nat.le_of_ble_eq_true rfl) dX4_init_40 (fun q40 H hP hD hS => ?_)
  have hP : va_P D vwCl [(h0, .inr (4, [.int 0, .int 0, .ref q7, .ref q15, .ref q23, .ref q31, .null, .null, .null, .null, .null, .int 0, .null, .null])), (q7, .inl (k 0, 40, .inl (fun _ => 0))), (q15, .inl (k 0, 40, .inl (fun _ => 0))), (q23, .inl (k 0, 40, .inl (fun _ => 0))), (q31, .inl (k 1, 40, .inl (fun _ => 0))), (q40, .inl (k 3, 144, .inr (.inl (fun _ => 0))))] H := hP
  have hD : va_D A [(h0, .inr (4, [.int 0, .int 0, .ref q7, .ref q15, .ref q23, .ref q31, .null, .null, .null, .null, .null, .int 0, .null, .null])), (q7, .inl (k 0, 40, .inl (fun _ => 0))), (q15, .inl (k 0, 40, .inl (fun _ => 0))), (q23, .inl (k 0, 40, .inl (fun _ => 0))), (q31, .inl (k 1, 40, .inl (fun _ => 0))), (q40, .inl (k 3, 144, .inr (.inl (fun _ => 0))))] := hD
  refine va_putF (D := D) (ci := 4) (v := .ref q40) (ty := .array .long) (C := RX4) (T := TX4) (N := 14) hx hb hts iX tyX4 tyX4_ok nmX4 hown hK hP hD hS 0 rfl rfl 6 (by decide) (hts (.fieldLink RX4 23 "SignedPathsModel" "best" "[J") (by decide +kernel)) (fun _ h9 => h9) rfl hin rfl (by decide +kernel) rfl rfl (Nat.le_of_ble_eq_true rfl) dX4_init_42 (fun H locs hP hD hS => ?_)
  have hP : va_P D vwCl [(h0, .inr (4, [.int 0, .int 0, .ref q7, .ref q15, .ref q23, .ref q31, .ref q40, .null, .null, .null, .null, .int 0, .null, .null])), (q7, .inl (k 0, 40, .inl (fun _ => 0))), (q15, .inl (k 0, 40, .inl (fun _ => 0))), (q23, .inl (k 0, 40, .inl (fun _ => 0))), (q31, .inl (k 1, 40, .inl (fun _ => 0))), (q40, .inl (k 3, 144, .inr (.inl (fun _ => 0))))] H := hP
  have hD : va_D A [(h0, .inr (4, [.int 0, .int 0, .ref q7, .ref q15, .ref q23, .ref q31, .ref q40, .null, .null, .null, .null, .int 0, .null, .null])), (q7, .inl (k 0, 40, .inl (fun _ => 0))), (q15, .inl (k 0, 40, .inl (fun _ => 0))), (q23, .inl (k 0, 40, .inl (fun _ => 0))), (q31, .inl (k 1, 40, .inl (fun _ => 0))), (q40, .inl (k 3, 144, .inr (.inl (fun _ => 0))))] := hD
  refine lv_aload_n hx hb dX4_init_45 rfl (lv_at hl 0 rfl) ?_
  refine lv_sipush (v := nI 144) hx hb dX4_init_46 (by decide) ?_
  refine rn_newa (atype := .long) (ty := .long) (a0 := (144, .inr (.inl (fun _ => 0)))) hx hb (hts (.arrayClass .long) (by decide +kernel)) rfl hK hP hD hS hA 3 rfl (fun _ h => h) (fun _ => rfl) (by decide) (by decide) (Nat.le_of_ble_eq_true rfl) (Nat.le_of_ble_eq_true rfl) dX4_init_49 (fun q49 H hP hD hS => ?_)
  have hP : va_P D vwCl [(h0, .inr (4, [.int 0, .int 0, .ref q7, .ref q15, .ref q23, .ref q31, .ref q40, .null, .null, .null, .null, .int 0, .null, .null])), (q7, .inl (k 0, 40, .inl (fun _ => 0))), (q15, .inl (k 0, 40, .inl (fun _ => 0))), (q23, .inl (k 0, 40, .inl (fun _ => 0))), (q31, .inl (k 1, 40, .inl (fun _ => 0))), (q40, .inl (k 3, 144, .inr (.inl (fun _ => 0)))), (q49, .inl (k 3, 144, .inr (.inl (fun _ => 0))))] H := hP
  have hD : va_D A [(h0, .inr (4, [.int 0, .int 0, .ref q7, .ref q15, .ref q23, .ref q31, .ref q40, .null, .null, .null, .null, .int 0, .null, .null])), (q7, .inl (k 0, 40, .inl (fun _ => 0))), (q15, .inl (k 0, 40, .inl (fun _ => 0))), (q23, .inl (k 0, 40, .inl (fun _ => 0))), (q31, .inl (k 1, 40, .inl (fun _ => 0))), (q40, .inl (k 3, 144, .inr (.inl (fun _ => 0)))), (q49, .inl (k 3, 144, .inr (.inl (fun _ => 0))))] := hD
  refine va_putF (D := D) (ci := 4) (v := .ref q49) (ty := .array .long) (C := RX4) (T := TX4) (N := 14) hx hb hts iX tyX4 tyX4_ok nmX4 hown hK hP hD hS 0 rfl rfl 7 (by decide) (hts (.fieldLink RX4 27 "SignedPathsModel" "one" "[J") (by decide +kernel)) (fun _ h9 => h9) rfl hin rfl (by decide +kernel) rfl rfl (Nat.le_of_ble_eq_true rfl) dX4_init_51 (fun H locs hP hD hS => ?_)
  have hP : va_P D vwCl [(h0, .inr (4, [.int 0, .int 0, .ref q7, .ref q15, .ref q23, .ref q31, .ref q40, .ref q49, .null, .null, .null, .int 0, .null, .null])), (q7, .inl (k 0, 40, .inl (fun _ => 0))), (q15, .inl (k 0, 40, .inl (fun _ => 0))), (q23, .inl (k 0, 40, .inl (fun _ => 0))), (q31, .inl (k 1, 40, .inl (fun _ => 0))), (q40, .inl (k 3, 144, .inr (.inl (fun _ => 0)))), (q49, .inl (k 3, 144, .inr (.inl (fun _ => 0))))] H := hP
  have hD : va_D A [(h0, .inr (4, [.int 0, .int 0, .ref q7, .ref q15, .ref q23, .ref q31, .ref q40, .ref q49, .null, .null, .null, .int 0, .null, .null])), (q7, .inl (k 0, 40, .inl (fun _ => 0))), (q15, .inl (k 0, 40, .inl (fun _ => 0))), (q23, .inl (k 0, 40, .inl (fun _ => 0))), (q31, .inl (k 1, 40, .inl (fun _ => 0))), (q40, .inl (k 3, 144, .inr (.inl (fun _ => 0)))), (q49, .inl (k 3, 144, .inr (.inl (fun _ => 0))))] := hD
  refine lv_aload_n hx hb dX4_init_54 rfl (lv_at hl 0 rfl) ?_
  refine lv_sipush (v := nI 144) hx hb dX4_init_55 (by decide) ?_
  refine rn_newa (atype := .long) (ty := .long) (a0 := (144, .inr (.inl (fun _ => 0)))) hx hb (hts (.arrayClass .long) (by decide +kernel)) rfl hK hP hD hS hA 3 rfl (fun _ h => h) (fun _ => rfl) (by decide) (by decide) (Nat.le_of_ble_eq_true rfl) (Nat.le_of_ble_eq_true rfl) dX4_init_58 (fun q58 H hP hD hS => ?_)
  have hP : va_P D vwCl [(h0, .inr (4, [.int 0, .int 0, .ref q7, .ref q15, .ref q23, .ref q31, .ref q40, .ref q49, .null, .null, .null, .int 0, .null, .null])), (q7, .inl (k 0, 40, .inl (fun _ => 0))), (q15, .inl (k 0, 40, .inl (fun _ => 0))), (q23, .inl (k 0, 40, .inl (fun _ => 0))), (q31, .inl (k 1, 40, .inl (fun _ => 0))), (q40, .inl (k 3, 144, .inr (.inl (fun _ => 0)))), (q49, .inl (k 3, 144, .inr (.inl (fun _ => 0)))), (q58, .inl (k 3, 144, .inr (.inl (fun _ => 0))))] H := hP
  have hD : va_D A [(h0, .inr (4, [.int 0, .int 0, .ref q7, .ref q15, .ref q23, .ref q31, .ref q40, .ref q49, .null, .null, .null, .int 0, .null, .null])), (q7, .inl (k 0, 40, .inl (fun _ => 0))), (q15, .inl (k 0, 40, .inl (fun _ => 0))), (q23, .inl (k 0, 40, .inl (fun _ => 0))), (q31, .inl (k 1, 40, .inl (fun _ => 0))), (q40, .inl (k 3, 144, .inr (.inl (fun _ => 0)))), (q49, .inl (k 3, 144, .inr (.inl (fun _ => 0)))), (q58, .inl (k 3, 144, .inr (.inl (fun _ => 0))))] := hD
  refine va_putF (D := D) (ci := 4) (v := .ref q58) (ty := .array .long) (C := RX4) (T := TX4) (N := 14) hx hb hts iX tyX4 tyX4_ok nmX4 hown hK hP hD hS 0 rfl rfl 8 (by decide) (hts (.fieldLink RX4 30 "SignedPathsModel" "all" "[J") (by decide +kernel)) (fun _ h9 => h9) rfl hin rfl (by decide +kernel) rfl rfl (Nat.le_of_ble_eq_true rfl) dX4_init_60 (fun H locs hP hD hS => ?_)
  have hP : va_P D vwCl [(h0, .inr (4, [.int 0, .int 0, .ref q7, .ref q15, .ref q23, .ref q31, .ref q40, .ref q49, .ref q58, .null, .null, .int 0, .null, .null])), (q7, .inl (k 0, 40, .inl (fun _ => 0))), (q15, .inl (k 0, 40, .inl (fun _ => 0))), (q23, .inl (k 0, 40, .inl (fun _ => 0))), (q31, .inl (k 1, 40, .inl (fun _ => 0))), (q40, .inl (k 3, 144, .inr (.inl (fun _ => 0)))), (q49, .inl (k 3, 144, .inr (.inl (fun _ => 0)))), (q58, .inl (k 3, 144, .inr (.inl (fun _ => 0))))] H := hP
  have hD : va_D A [(h0, .inr (4, [.int 0, .int 0, .ref q7, .ref q15, .ref q23, .ref q31, .ref q40, .ref q49, .ref q58, .null, .null, .int 0, .null, .null])), (q7, .inl (k 0, 40, .inl (fun _ => 0))), (q15, .inl (k 0, 40, .inl (fun _ => 0))), (q23, .inl (k 0, 40, .inl (fun _ => 0))), (q31, .inl (k 1, 40, .inl (fun _ => 0))), (q40, .inl (k 3, 144, .inr (.inl (fun _ => 0)))), (q49, .inl (k 3, 144, .inr (.inl (fun _ => 0)))), (q58, .inl (k 3, 144, .inr (.inl (fun _ => 0))))] := hD
  refine lv_aload_n hx hb dX4_init_63 rfl (lv_at hl 0 rfl) ?_
  refine lv_sipush (v := nI 144) hx hb dX4_init_64 (by decide) ?_
  refine rn_newa (atype := .long) (ty := .long) (a0 := (144, .inr (.inl (fun _ => 0)))) hx hb (hts (.arrayClass .long) (by decide +kernel)) rfl hK hP hD hS hA 3 rfl (fun _ h => h) (fun _ => rfl) (by decide) (by decide) (Nat.le_of_ble_eq_true rfl) (Nat.le_of_ble_eq_true rfl) dX4_init_67 (fun q67 H hP hD hS => ?_)
  have hP : va_P D vwCl [(h0, .inr (4, [.int 0, .int 0, .ref q7, .ref q15, .ref q23, .ref q31, .ref q40, .ref q49, .ref q58, .null, .null, .int 0, .null, .null])), (q7, .inl (k 0, 40, .inl (fun _ => 0))), (q15, .inl (k 0, 40, .inl (fun _ => 0))), (q23, .inl (k 0, 40, .inl (fun _ => 0))), (q31, .inl (k 1, 40, .inl (fun _ => 0))), (q40, .inl (k 3, 144, .inr (.inl (fun _ => 0)))), (q49, .inl (k 3, 144, .inr (.inl (fun _ => 0)))), (q58, .inl (k 3, 144, .inr (.inl (fun _ => 0)))), (q67, .inl (k 3, 144, .inr (.inl (fun _ => 0))))] H := hP
  have hD : va_D A [(h0, .inr (4, [.int 0, .int 0, .ref q7, .ref q15, .ref q23, .ref q31, .ref q40, .ref q49, .ref q58, .null, .null, .int 0, .null, .null])), (q7, .inl (k 0, 40, .inl (fun _ => 0))), (q15, .inl (k 0, 40, .inl (fun _ => 0))), (q23, .inl (k 0, 40, .inl (fun _ => 0))), (q31, .inl (k 1, 40, .inl (fun _ => 0))), (q40, .inl (k 3, 144, .inr (.inl (fun _ => 0)))), (q49, .inl (k 3, 144, .inr (.inl (fun _ => 0)))), (q58, .inl (k 3, 144, .inr (.inl (fun _ => 0)))), (q67, .inl (k 3, 144, .inr (.inl (fun _ => 0))))] := hD
  refine va_putF (D := D) (ci := 4) (v := .ref q67) (ty := .array .long) (C := RX4) (T := TX4) (N := 14) hx hb hts iX tyX4 tyX4_ok nmX4 hown hK hP hD hS 0 rfl rfl 9 (by decide) (hts (.fieldLink RX4 33 "SignedPathsModel" "part" "[J") (by decide +kernel)) (fun _ h9 => h9) rfl hin rfl (by decide +kernel) rfl rfl (Nat.le_of_ble_eq_true rfl) dX4_init_69 (fun H locs hP hD hS => ?_)
  have hP : va_P D vwCl [(h0, .inr (4, [.int 0, .int 0, .ref q7, .ref q15, .ref q23, .ref q31, .ref q40, .ref q49, .ref q58, .ref q67, .null, .int 0, .null, .null])), (q7, .inl (k 0, 40, .inl (fun _ => 0))), (q15, .inl (k 0, 40, .inl (fun _ => 0))), (q23, .inl (k 0, 40, .inl (fun _ => 0))), (q31, .inl (k 1, 40, .inl (fun _ => 0))), (q40, .inl (k 3, 144, .inr (.inl (fun _ => 0)))), (q49, .inl (k 3, 144, .inr (.inl (fun _ => 0)))), (q58, .inl (k 3, 144, .inr (.inl (fun _ => 0)))), (q67, .inl (k 3, 144, .inr (.inl (fun _ => 0))))] H := hP
  have hD : va_D A [(h0, .inr (4, [.int 0, .int 0, .ref q7, .ref q15, .ref q23, .ref q31, .ref q40, .ref q49, .ref q58, .ref q67, .null, .int 0, .null, .null])), (q7, .inl (k 0, 40, .inl (fun _ => 0))), (q15, .inl (k 0, 40, .inl (fun _ => 0))), (q23, .inl (k 0, 40, .inl (fun _ => 0))), (q31, .inl (k 1, 40, .inl (fun _ => 0))), (q40, .inl (k 3, 144, .inr (.inl (fun _ => 0)))), (q49, .inl (k 3, 144, .inr (.inl (fun _ => 0)))), (q58, .inl (k 3, 144, .inr (.inl (fun _ => 0)))), (q67, .inl (k 3, 144, .inr (.inl (fun _ => 0))))] := hD
  refine lv_aload_n hx hb dX4_init_72 rfl (lv_at hl 0 rfl) ?_
  refine lv_sipush (v := nI 144) hx hb dX4_init_73 (by decide) ?_
  refine rn_newa (atype := .long) (ty := .long) (a0 := (144, .inr (.inl (fun _ => 0)))) hx hb (hts (.arrayClass .long) (by decide +kernel)) rfl hK hP hD hS hA 3 rfl (fun _ h => h) (fun _ => rfl) (by decide) (by decide) (Nat.le_of_ble_eq_true rfl) (Nat.le_of_ble_eq_true rfl) dX4_init_76 (fun q76 H hP hD hS => ?_)
  have hP : va_P D vwCl [(h0, .inr (4, [.int 0, .int 0, .ref q7, .ref q15, .ref q23, .ref q31, .ref q40, .ref q49, .ref q58, .ref q67, .null, .int 0, .null, .null])), (q7, .inl (k 0, 40, .inl (fun _ => 0))), (q15, .inl (k 0, 40, .inl (fun _ => 0))), (q23, .inl (k 0, 40, .inl (fun _ => 0))), (q31, .inl (k 1, 40, .inl (fun _ => 0))), (q40, .inl (k 3, 144, .inr (.inl (fun _ => 0)))), (q49, .inl (k 3, 144, .inr (.inl (fun _ => 0)))), (q58, .inl (k 3, 144, .inr (.inl (fun _ => 0)))), (q67, .inl (k 3, 144, .inr (.inl (fun _ => 0)))), (q76, .inl (k 3, 144, .inr (.inl (fun _ => 0))))] H := hP
  have hD : va_D A [(h0, .inr (4, [.int 0, .int 0, .ref q7, .ref q15, .ref q23, .ref q31, .ref q40, .ref q49, .ref q58, .ref q67, .null, .int 0, .null, .null])), (q7, .inl (k 0, 40, .inl (fun _ => 0))), (q15, .inl (k 0, 40, .inl (fun _ => 0))), (q23, .inl (k 0, 40, .inl (fun _ => 0))), (q31, .inl (k 1, 40, .inl (fun _ => 0))), (q40, .inl (k 3, 144, .inr (.inl (fun _ => 0)))), (q49, .inl (k 3, 144, .inr (.inl (fun _ => 0)))), (q58, .inl (k 3, 144, .inr (.inl (fun _ => 0)))), (q67, .inl (k 3, 144, .inr (.inl (fun _ => 0)))), (q76, .inl (k 3, 144, .inr (.inl (fun _ => 0))))] := hD
  refine va_putF (D := D) (ci := 4) (v := .ref q76) (ty := .array .long) (C := RX4) (T := TX4) (N := 14) hx hb hts iX tyX4 tyX4_ok nmX4 hown hK hP hD hS 0 rfl rfl 10 (by decide) (hts (.fieldLink RX4 36 "SignedPathsModel" "both" "[J") (by decide +kernel)) (fun _ h9 => h9) rfl hin rfl (by decide +kernel) rfl rfl (Nat.le_of_ble_eq_true rfl) dX4_init_78 (fun H locs hP hD hS => ?_)
  have hP : va_P D vwCl [(h0, .inr (4, [.int 0, .int 0, .ref q7, .ref q15, .ref q23, .ref q31, .ref q40, .ref q49, .ref q58, .ref q67, .ref q76, .int 0, .null, .null])), (q7, .inl (k 0, 40, .inl (fun _ => 0))), (q15, .inl (k 0, 40, .inl (fun _ => 0))), (q23, .inl (k 0, 40, .inl (fun _ => 0))), (q31, .inl (k 1, 40, .inl (fun _ => 0))), (q40, .inl (k 3, 144, .inr (.inl (fun _ => 0)))), (q49, .inl (k 3, 144, .inr (.inl (fun _ => 0)))), (q58, .inl (k 3, 144, .inr (.inl (fun _ => 0)))), (q67, .inl (k 3, 144, .inr (.inl (fun _ => 0)))), (q76, .inl (k 3, 144, .inr (.inl (fun _ => 0))))] H := hP
  have hD : va_D A [(h0, .inr (4, [.int 0, .int 0, .ref q7, .ref q15, .ref q23, .ref q31, .ref q40, .ref q49, .ref q58, .ref q67, .ref q76, .int 0, .null, .null])), (q7, .inl (k 0, 40, .inl (fun _ => 0))), (q15, .inl (k 0, 40, .inl (fun _ => 0))), (q23, .inl (k 0, 40, .inl (fun _ => 0))), (q31, .inl (k 1, 40, .inl (fun _ => 0))), (q40, .inl (k 3, 144, .inr (.inl (fun _ => 0)))), (q49, .inl (k 3, 144, .inr (.inl (fun _ => 0)))), (q58, .inl (k 3, 144, .inr (.inl (fun _ => 0)))), (q67, .inl (k 3, 144, .inr (.inl (fun _ => 0)))), (q76, .inl (k 3, 144, .inr (.inl (fun _ => 0))))] := hD
  refine lv_aload_n hx hb dX4_init_81 rfl (lv_at hl 0 rfl) ?_
  refine lv_bipush (v := nI 12) hx hb dX4_init_82 (by decide) ?_
  refine rn_newa (atype := .int) (ty := .int) (a0 := (12, .inl (fun _ => 0))) hx hb (hts (.arrayClass .int) (by decide +kernel)) rfl hK hP hD hS hA 0 rfl (fun _ h => h) (fun _ => rfl) (by decide) (by decide) (Nat.le_of_ble_eq_true rfl) (Nat.le_of_ble_eq_true rfl) dX4_init_84 (fun q84 H hP hD hS => ?_)
  have hP : va_P D vwCl [(h0, .inr (4, [.int 0, .int 0, .ref q7, .ref q15, .ref q23, .ref q31, .ref q40, .ref q49, .ref q58, .ref q67, .ref q76, .int 0, .null, .null])), (q7, .inl (k 0, 40, .inl (fun _ => 0))), (q15, .inl (k 0, 40, .inl (fun _ => 0))), (q23, .inl (k 0, 40, .inl (fun _ => 0))), (q31, .inl (k 1, 40, .inl (fun _ => 0))), (q40, .inl (k 3, 144, .inr (.inl (fun _ => 0)))), (q49, .inl (k 3, 144, .inr (.inl (fun _ => 0)))), (q58, .inl (k 3, 144, .inr (.inl (fun _ => 0)))), (q67, .inl (k 3, 144, .inr (.inl (fun _ => 0)))), (q76, .inl (k 3, 144, .inr (.inl (fun _ => 0)))), (q84, .inl (k 0, 12, .inl (fun _ => 0)))] H := hP
  have hD : va_D A [(h0, .inr (4, [.int 0, .int 0, .ref q7, .ref q15, .ref q23, .ref q31, .ref q40, .ref q49, .ref q58, .ref q67, .ref q76, .int 0, .null, .null])), (q7, .inl (k 0, 40, .inl (fun _ => 0))), (q15, .inl (k 0, 40, .inl (fun _ => 0))), (q23, .inl (k 0, 40, .inl (fun _ => 0))), (q31, .inl (k 1, 40, .inl (fun _ => 0))), (q40, .inl (k 3, 144, .inr (.inl (fun _ => 0)))), (q49, .inl (k 3, 144, .inr (.inl (fun _ => 0)))), (q58, .inl (k 3, 144, .inr (.inl (fun _ => 0)))), (q67, .inl (k 3, 144, .inr (.inl (fun _ => 0)))), (q76, .inl (k 3, 144, .inr (.inl (fun _ => 0)))), (q84, .inl (k 0, 12, .inl (fun _ => 0)))] := hD
  refine va_putF (D := D) (ci := 4) (v := .ref q84) (ty := .array .int) (C := RX4) (T := TX4) (N := 14) hx hb hts iX tyX4 tyX4_ok nmX4 hown hK hP hD hS 0 rfl rfl 12 (by decide) (hts (.fieldLink RX4 39 "SignedPathsModel" "ringArc" "[I") (by decide +kernel)) (fun _ h9 => h9) rfl hin rfl (by decide +kernel) rfl rfl (Nat.le_of_ble_eq_true rfl) dX4_init_86 (fun H locs hP hD hS => ?_)
  have hP : va_P D vwCl [(h0, .inr (4, [.int 0, .int 0, .ref q7, .ref q15, .ref q23, .ref q31, .ref q40, .ref q49, .ref q58, .ref q67, .ref q76, .int 0, .ref q84, .null])), (q7, .inl (k 0, 40, .inl (fun _ => 0))), (q15, .inl (k 0, 40, .inl (fun _ => 0))), (q23, .inl (k 0, 40, .inl (fun _ => 0))), (q31, .inl (k 1, 40, .inl (fun _ => 0))), (q40, .inl (k 3, 144, .inr (.inl (fun _ => 0)))), (q49, .inl (k 3, 144, .inr (.inl (fun _ => 0)))), (q58, .inl (k 3, 144, .inr (.inl (fun _ => 0)))), (q67, .inl (k 3, 144, .inr (.inl (fun _ => 0)))), (q76, .inl (k 3, 144, .inr (.inl (fun _ => 0)))), (q84, .inl (k 0, 12, .inl (fun _ => 0)))] H := hP
  have hD : va_D A [(h0, .inr (4, [.int 0, .int 0, .ref q7, .ref q15, .ref q23, .ref q31, .ref q40, .ref q49, .ref q58, .ref q67, .ref q76, .int 0, .ref q84, .null])), (q7, .inl (k 0, 40, .inl (fun _ => 0))), (q15, .inl (k 0, 40, .inl (fun _ => 0))), (q23, .inl (k 0, 40, .inl (fun _ => 0))), (q31, .inl (k 1, 40, .inl (fun _ => 0))), (q40, .inl (k 3, 144, .inr (.inl (fun _ => 0)))), (q49, .inl (k 3, 144, .inr (.inl (fun _ => 0)))), (q58, .inl (k 3, 144, .inr (.inl (fun _ => 0)))), (q67, .inl (k 3, 144, .inr (.inl (fun _ => 0)))), (q76, .inl (k 3, 144, .inr (.inl (fun _ => 0)))), (q84, .inl (k 0, 12, .inl (fun _ => 0)))] := hD
  refine lv_aload_n hx hb dX4_init_89 rfl (lv_at hl 0 rfl) ?_
  refine lv_sipush (v := nI 144) hx hb dX4_init_90 (by decide) ?_
  refine rn_newa (atype := .long) (ty := .long) (a0 := (144, .inr (.inl (fun _ => 0)))) hx hb (hts (.arrayClass .long) (by decide +kernel)) rfl hK hP hD hS hA 3 rfl (fun _ h => h) (fun _ => rfl) (by decide) (by decide) (Nat.le_of_ble_eq_true rfl) (Nat.le_of_ble_eq_true rfl) dX4_init_93 (fun q93 H hP hD hS => ?_)
  have hP : va_P D vwCl [(h0, .inr (4, [.int 0, .int 0, .ref q7, .ref q15, .ref q23, .ref q31, .ref q40, .ref q49, .ref q58, .ref q67, .ref q76, .int 0, .ref q84, .null])), (q7, .inl (k 0, 40, .inl (fun _ => 0))), (q15, .inl (k 0, 40, .inl (fun _ => 0))), (q23, .inl (k 0, 40, .inl (fun _ => 0))), (q31, .inl (k 1, 40, .inl (fun _ => 0))), (q40, .inl (k 3, 144, .inr (.inl (fun _ => 0)))), (q49, .inl (k 3, 144, .inr (.inl (fun _ => 0)))), (q58, .inl (k 3, 144, .inr (.inl (fun _ => 0)))), (q67, .inl (k 3, 144, .inr (.inl (fun _ => 0)))), (q76, .inl (k 3, 144, .inr (.inl (fun _ => 0)))), (q84, .inl (k 0, 12, .inl (fun _ => 0))), (q93, .inl (k 3, 144, .inr (.inl (fun _ => 0))))] H := hP
  have hD : va_D A [(h0, .inr (4, [.int 0, .int 0, .ref q7, .ref q15, .ref q23, .ref q31, .ref q40, .ref q49, .ref q58, .ref q67, .ref q76, .int 0, .ref q84, .null])), (q7, .inl (k 0, 40, .inl (fun _ => 0))), (q15, .inl (k 0, 40, .inl (fun _ => 0))), (q23, .inl (k 0, 40, .inl (fun _ => 0))), (q31, .inl (k 1, 40, .inl (fun _ => 0))), (q40, .inl (k 3, 144, .inr (.inl (fun _ => 0)))), (q49, .inl (k 3, 144, .inr (.inl (fun _ => 0)))), (q58, .inl (k 3, 144, .inr (.inl (fun _ => 0)))), (q67, .inl (k 3, 144, .inr (.inl (fun _ => 0)))), (q76, .inl (k 3, 144, .inr (.inl (fun _ => 0)))), (q84, .inl (k 0, 12, .inl (fun _ => 0))), (q93, .inl (k 3, 144, .inr (.inl (fun _ => 0))))] := hD
  refine va_putF (D := D) (ci := 4) (v := .ref q93) (ty := .array .long) (C := RX4) (T := TX4) (N := 14) hx hb hts iX tyX4 tyX4_ok nmX4 hown hK hP hD hS 0 rfl rfl 13 (by decide) (hts (.fieldLink RX4 42 "SignedPathsModel" "most" "[J") (by decide +kernel)) (fun _ h9 => h9) rfl hin rfl (by decide +kernel) rfl rfl (Nat.le_of_ble_eq_true rfl) dX4_init_95 (fun H locs hP hD hS => ?_)
  have hP : va_P D vwCl [(h0, .inr (4, [.int 0, .int 0, .ref q7, .ref q15, .ref q23, .ref q31, .ref q40, .ref q49, .ref q58, .ref q67, .ref q76, .int 0, .ref q84, .ref q93])), (q7, .inl (k 0, 40, .inl (fun _ => 0))), (q15, .inl (k 0, 40, .inl (fun _ => 0))), (q23, .inl (k 0, 40, .inl (fun _ => 0))), (q31, .inl (k 1, 40, .inl (fun _ => 0))), (q40, .inl (k 3, 144, .inr (.inl (fun _ => 0)))), (q49, .inl (k 3, 144, .inr (.inl (fun _ => 0)))), (q58, .inl (k 3, 144, .inr (.inl (fun _ => 0)))), (q67, .inl (k 3, 144, .inr (.inl (fun _ => 0)))), (q76, .inl (k 3, 144, .inr (.inl (fun _ => 0)))), (q84, .inl (k 0, 12, .inl (fun _ => 0))), (q93, .inl (k 3, 144, .inr (.inl (fun _ => 0))))] H := hP
  have hD : va_D A [(h0, .inr (4, [.int 0, .int 0, .ref q7, .ref q15, .ref q23, .ref q31, .ref q40, .ref q49, .ref q58, .ref q67, .ref q76, .int 0, .ref q84, .ref q93])), (q7, .inl (k 0, 40, .inl (fun _ => 0))), (q15, .inl (k 0, 40, .inl (fun _ => 0))), (q23, .inl (k 0, 40, .inl (fun _ => 0))), (q31, .inl (k 1, 40, .inl (fun _ => 0))), (q40, .inl (k 3, 144, .inr (.inl (fun _ => 0)))), (q49, .inl (k 3, 144, .inr (.inl (fun _ => 0)))), (q58, .inl (k 3, 144, .inr (.inl (fun _ => 0)))), (q67, .inl (k 3, 144, .inr (.inl (fun _ => 0)))), (q76, .inl (k 3, 144, .inr (.inl (fun _ => 0)))), (q84, .inl (k 0, 12, .inl (fun _ => 0))), (q93, .inl (k 3, 144, .inr (.inl (fun _ => 0))))] := hD
  refine W.widen (k := 11) (n := 1036) (Nat.le_of_ble_eq_true rfl) (Nat.le_of_ble_eq_true rfl) ?_
  exact W.vret hx hb hr (fun t ht hW => ⟨⟨(fun i => if i = 0 then q7 else if i = 1 then q15 else if i = 2 then q23 else if i = 3 then q31 else if i = 4 then q40 else if i = 5 then q49 else if i = 6 then q58 else if i = 7 then q67 else if i = 8 then q76 else if i = 9 then q84 else q93), rfl, trivial, by rw [ht]; exact hP, hD⟩, hS.F ht⟩) hS.2.2 dX4_init_98
