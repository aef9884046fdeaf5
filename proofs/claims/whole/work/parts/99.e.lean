/-! THE LAW: from its entry -/
theorem ge_of_D {A : Nat → Prop} {ws : va_W} {N : Nat} {a : Nat → Nat} (hm : ws.map Prod.fst = (List.range N).map a) (h : va_D A ws) : ∀ i, i < N → A (a i) := by
  intro i hi
  have h1 : (ws.map Prod.fst)[i]? = some (a i) := by rw [hm, List.getElem?_map, List.getElem?_range hi]; rfl
  rw [List.getElem?_map] at h1
  cases e : ws[i]? with
  | none => rw [e] at h1; cases h1
  | some p =>
    rw [e] at h1
    have e2 : p.1 = a i := Option.some.inj h1
    rw [← e2]
    exact h.2 i p e
/-- the reference's cells -/
def bF (q : Nat) (u : Nat → Nat) (i : Nat) : Nat := if i = 0 then q else u (i - 1)
def gF (a b : Nat → Nat) (i : Nat) : Nat := if i < 46 then a i else b (i - 46)
theorem gF_inj {a b : Nat → Nat} (h : inj 58 (gF a b)) : inj 46 a ∧ inj 12 b ∧ ∀ i j, i < 46 → j < 12 → a i ≠ b j := by
  have ea : ∀ i, i < 46 → gF a b i = a i := fun i hi => if_pos hi
  have eb : ∀ j, gF a b (46 + j) = b j := fun j => by
    unfold gF
    rw [if_neg (by omega), Nat.add_sub_cancel_left]
  refine ⟨fun i j hi hj e => h i j (by omega) (by omega) (by rw [ea i hi, ea j hj]; exact e), fun i j hi hj e => ?_, fun i j hi hj e => ?_⟩
  · have := h (46 + i) (46 + j) (by omega) (by omega) (by rw [eb, eb]; exact e)
    omega
  · have := h i (46 + j) (by omega) (by omega) (by rw [ea i hi, eb]; exact e)
    omega
theorem CI_0 : CI 0 0 0 0 (fun _ => 0) (fun _ => 0) (fun _ => 0) (fun _ => false) (fun _ _ => 0) 0 (-1) (fun _ => 0) 0 (fun _ => 0) (fun _ _ => 0) 0 (-1) :=
  ⟨⟨Nat.zero_le _, Nat.zero_le _, fun j hj => absurd hj (Nat.not_lt_zero j)⟩, fun j hj => absurd hj (Nat.not_lt_zero j), by omega, ⟨Nat.zero_le _, fun j hj => absurd hj (Nat.not_lt_zero j)⟩, ⟨0, Nat.le_refl _, nI_0.symm, Or.inl rfl, Or.inl rfl⟩, fun q => absurd q (by decide), fun q => absurd q (by decide)⟩
theorem arr_of {args : Array Value} {s : State} {ty : FieldType} (h : (Cond.arrayClass ty).before args s = true) : ∃ c, ArrOfT s c ty ∧ s.vm.findClass ("[" ++ ty.toString) = some c := by
  obtain ⟨c, k, comp, h1, h2, h3⟩ := Cond.arrayClass_spec h
  exact ⟨c, fun N z => ⟨(fun k h => by cases h), k, h2, comp, h3⟩, h1⟩
theorem arr_over {args : Array Value} {s : State} {ty : FieldType} (h : (Cond.arrayOver (.array ty)).before args s = true) : ∃ c, ArrOfT s c (.array ty) ∧ s.vm.findClass ("[" ++ (FieldType.array ty).toString) = some c := by
  obtain ⟨comp, c, k, -, -, h2, h3, h1⟩ := arrayOver_specB h
  exact ⟨c, fun N z => ⟨(fun k h => by cases h), k, h2, comp, h3⟩, h1⟩
set_option maxHeartbeats 4000000 in
set_option maxRecDepth 100000 in
theorem whole_start {p : Program} {e : Env} {s : State} {m : MethodId} {below : List Frame} {meth : Method} {c : Code} (l : Launch) {b L : Nat} {xs : Nat → Int32} (hL : L ≤ 2048) (C0 : lw_At p s m meth c b L xs) : W p l e room_1 s m #[Value.ref b] below meth c s.heap [] 0 0 (lw_Z below #[Value.ref b] s) (entryFrame m ([Value.ref b] : List Value).toArray 4) := by
  obtain ⟨hx, hb, hr, hml, hown, hts0, hX, hbl, hlocks, hgv⟩ := id C0
  have hts : ∀ w ∈ wsL_law, w.before #[Value.ref b] s = true := fun w h => hts0 w (wsL_law_in w h)
  have hown : s.vm.findClass RL = some m.cls := hown
  have hA : ∀ q : Nat, s.heap.size ≤ q → (fun q : Nat => s.heap.size ≤ q) q := fun _ h => h
  obtain ⟨c0, iS0, hK0⟩ := u_known (C := RX0) (T := TX0) (N := 7) (n := 7) hts inlX0 (hts0 (.instantiable RX0 7) (by decide +kernel))
  obtain ⟨c1, iS1, hK1⟩ := u_known (C := RX1) (T := TX1) (N := 8) (n := 8) hts inlX1 (hts0 (.instantiable RX1 8) (by decide +kernel))
  obtain ⟨c2, iS2, hK2⟩ := u_known (C := RX2) (T := TX2) (N := 4) (n := 4) hts inlX2 (hts0 (.instantiable RX2 4) (by decide +kernel))
  obtain ⟨c3, iS3, hK3⟩ := u_known (C := RX3) (T := TX3) (N := 3) (n := 3) hts inlX3 (hts0 (.instantiable RX3 3) (by decide +kernel))
  obtain ⟨c4, iS4, hK4⟩ := u_known (C := RX4) (T := TX4) (N := 14) (n := 14) hts inlX4 (hts0 (.instantiable RX4 14) (by decide +kernel))
  obtain ⟨D, hKc⟩ : ∃ D : va_G, ∀ (k : Nat) (q : vw_C), vwCl[k]? = some q → u_Kn s q.1 q.2.1 q.2.2 (D.1 k) (D.2 k) := by
    refine ⟨(fun k => if k = 0 then c0 else if k = 1 then c1 else if k = 2 then c2 else if k = 3 then c3 else c4, fun k => if k = 0 then iS0 else if k = 1 then iS1 else if k = 2 then iS2 else if k = 3 then iS3 else iS4), ?_⟩
    intro k q hq
    match k, hq with
    | 0, hq => cases hq; exact hK0
    | 1, hq => cases hq; exact hK1
    | 2, hq => cases hq; exact hK2
    | 3, hq => cases hq; exact hK3
    | 4, hq => cases hq; exact hK4
    | k + 5, hq => simp [vwCl] at hq
  have hAO0 : (Cond.arrayOver (.array .int)).before #[Value.ref b] s = true := hts0 (.arrayOver (.array .int)) (by decide +kernel)
  have hAO : va_AOA .int s := va_AOA.of hAO0
  obtain ⟨t0, a0, f0⟩ := arr_of (hts0 (.arrayClass .int) (by decide +kernel))
  obtain ⟨t1, a1, f1⟩ := arr_of (hts0 (.arrayClass .boolean) (by decide +kernel))
  obtain ⟨t3, a3, f3⟩ := arr_of (hts0 (.arrayClass .long) (by decide +kernel))
  obtain ⟨t2, a2, f2⟩ := arr_over hAO0
  obtain ⟨k, hK⟩ : ∃ k : Nat → ClassId, va_K D vwCl (tyL k) s := by
    refine ⟨fun i => if i = 0 then t0 else if i = 1 then t1 else if i = 2 then t2 else t3, hKc, ?_⟩
    intro i q hq
    match i, hq with
    | 0, hq => cases hq; exact ⟨a0, f0⟩
    | 1, hq => cases hq; exact ⟨a1, f1⟩
    | 2, hq => cases hq; exact ⟨a2, f2⟩
    | 3, hq => cases hq; exact ⟨a3, f3⟩
    | i + 4, hq => simp [tyL] at hq
  have hS : va_S (fun q : Nat => s.heap.size ≤ q) s.heap s.heap [] := va_S.rf
  have hP : va_P D vwCl [] s.heap := fun k q h => by simp at h
  have hD : va_D (fun q : Nat => s.heap.size ≤ q) [] := ⟨fun i j p q h => by simp at h, fun k q h => by simp at h⟩
  have hl := lv_entry ([.ref b]) (n := 4) (Nat.le_of_ble_eq_true rfl)
  rw [lg_entry_eq]
  generalize (lg_sl ([.ref b]) ++ List.replicate (4 - (lg_sl ([.ref b])).length) Slot.unset).toArray = ls at hl ⊢
  have hl : lv_has ls 4 [(0, .ref b)] := hl
  refine va_new (ci := 3) (fs := [.null, .null, .null]) (C := RX3) (T := TX3) (N := 3) hx hb hts inlX3 tyX3 tyX3_ok hown (hts0 (.classLink RL 7 RX3) (by decide +kernel)) (hts0 (.instantiable RX3 3) (by decide +kernel)) (hts0 (.initialized RX3) (by decide +kernel)) hK hP hD hS hA rfl (fun j hj => by rcases (show j = 0 ∨ j = 1 ∨ j = 2 by omega) with rfl | rfl | rfl <;> rfl) (Nat.le_of_ble_eq_true rfl) (Nat.le_of_ble_eq_true rfl) dL_law_0 (fun q0 H hP hD hS => ?_)
  have hP : va_P D vwCl (ci3_0 q0) H := hP
  have hD : va_D (fun q : Nat => s.heap.size ≤ q) (ci3_0 q0) := hD
  refine W.widen (k := 1) (n := 3) (Nat.le_of_ble_eq_true rfl) (Nat.le_of_ble_eq_true rfl) ?_
  refine lv_dup hx hb dL_law_3 rfl ?_
  have hPc := hP.sub (ws' := ci3_0 q0) [0] rfl
  have hDc := hD.sub (ws' := ci3_0 q0) [0] (by decide) rfl
  have hFc := va_free (wc := ci3_0 q0) hD hS hA [0] rfl
  refine va_callv (va_runI (As := []) (rest := [.ref q0]) ⟨hx, hb, hml, hown, hts⟩ (ci3 l (D := D) (k := k) q0 H.size) (cwI 0 hts gL_law_X3_init rfl rfl rfl (hts0 (.initialized RX3) (by decide +kernel)) (hts0 (.methodLink RL 9 yX3_init) (by decide +kernel)) (hts0 (.instanceMethod yX3_init) (by decide +kernel)) rfl (by decide +kernel) ⟨(Nat.le_of_ble_eq_true rfl), (Nat.le_of_ble_eq_true rfl)⟩) ⟨fun a U g mk q => by obtain ⟨q0, q1, qP, qK, qD, qA⟩ := q; exact ⟨q0, q1, qP, va_K.moved (u := U) (U := U.calling g mk a) (Vm.Alike.refl U.vm) qK, qD, qA⟩, fun U hU hW => ⟨rfl, by rw [hU], by rw [hU]; exact hPc, va_K.moved hW.alike hK, hDc.weaken (fun _ _ _ _ => trivial), va_AOA.moved hW.alike hAO⟩⟩ rfl rfl hl.1 rfl (lv_room (Nat.le_of_ble_eq_true rfl)) dL_law_4 ⟨(Nat.le_of_ble_eq_true rfl), (Nat.le_of_ble_eq_true rfl)⟩) hS (fun q _ h => hFc q h) hFc (fun a t H1 locs ht hvm hw hB hz1 hk1 hS => ?_)
  obtain ⟨hP1, hD1⟩ := hB
  rw [ht] at hP1
  obtain ⟨hP, hD⟩ := va_join (wr := []) (w1 := cW0 k a) hP hD [0] [] rfl rfl (by decide) (by decide) hk1 hFc hP1 hD1
  generalize H1 = H at hP hS ⊢
  have hP : va_P D vwCl (cW0 k a) H := hP
  have hD : va_D (fun q : Nat => s.heap.size ≤ q) (cW0 k a) := hD
  have hw : a 0 = q0 := hw
  rw [← hw]
  refine W.widen (k := 46) (n := 3419) (Nat.le_of_ble_eq_true rfl) (Nat.le_of_ble_eq_true rfl) ?_
  refine lv_astore_n (lv' := [(1, .ref (a 0)), (0, .ref b)]) hx hb dL_law_7 rfl hl (by decide) rfl (fun ls hl => ?_)
  refine va_new (ci := 4) (fs := [.int 0, .int 0, .null, .null, .null, .null, .null, .null, .null, .null, .null, .int 0, .null, .null]) (C := RX4) (T := TX4) (N := 14) hx hb hts inlX4 tyX4 tyX4_ok hown (hts0 (.classLink RL 10 RX4) (by decide +kernel)) (hts0 (.instantiable RX4 14) (by decide +kernel)) (hts0 (.initialized RX4) (by decide +kernel)) hK hP hD hS hA rfl (fun j hj => by rcases (show j = 0 ∨ j = 1 ∨ j = 2 ∨ j = 3 ∨ j = 4 ∨ j = 5 ∨ j = 6 ∨ j = 7 ∨ j = 8 ∨ j = 9 ∨ j = 10 ∨ j = 11 ∨ j = 12 ∨ j = 13 by omega) with rfl | rfl | rfl | rfl | rfl | rfl | rfl | rfl | rfl | rfl | rfl | rfl | rfl | rfl <;> rfl) (Nat.le_of_ble_eq_true rfl) (Nat.le_of_ble_eq_true rfl) dL_law_8 (fun q1 H hP hD hS => ?_)
  have hP : va_P D vwCl (cW0 k a ++ ci4_0 q1) H := hP
  have hD : va_D (fun q : Nat => s.heap.size ≤ q) (cW0 k a ++ ci4_0 q1) := hD
  refine W.widen (k := 47) (n := 3433) (Nat.le_of_ble_eq_true rfl) (Nat.le_of_ble_eq_true rfl) ?_
  refine lv_dup hx hb dL_law_11 rfl ?_
  have hPc := hP.sub (ws' := ci4_0 q1) [46] rfl
  have hDc := hD.sub (ws' := ci4_0 q1) [46] (by decide) rfl
  have hFc := va_free (wc := ci4_0 q1) hD hS hA [46] rfl
  refine va_callv (va_runI (As := []) (rest := [.ref q1]) ⟨hx, hb, hml, hown, hts⟩ (ci4 l (D := D) (k := k) q1 H.size) (cwI 0 hts gL_law_X4_init rfl rfl rfl (hts0 (.initialized RX4) (by decide +kernel)) (hts0 (.methodLink RL 12 yX4_init) (by decide +kernel)) (hts0 (.instanceMethod yX4_init) (by decide +kernel)) rfl (by decide +kernel) ⟨(Nat.le_of_ble_eq_true rfl), (Nat.le_of_ble_eq_true rfl)⟩) ⟨fun a U g mk q => by obtain ⟨q0, q1, qP, qK, qD, qA⟩ := q; exact ⟨q0, q1, qP, va_K.moved (u := U) (U := U.calling g mk a) (Vm.Alike.refl U.vm) qK, qD, qA⟩, fun U hU hW => ⟨rfl, by rw [hU], by rw [hU]; exact hPc, va_K.moved hW.alike hK, hDc.weaken (fun _ _ _ _ => trivial), va_AOA.moved hW.alike hAO⟩⟩ rfl rfl hl.1 rfl (lv_room (Nat.le_of_ble_eq_true rfl)) dL_law_12 ⟨(Nat.le_of_ble_eq_true rfl), (Nat.le_of_ble_eq_true rfl)⟩) hS (fun q _ h => hFc q h) hFc (fun u t H1 locs ht hvm hw hB hz1 hk1 hS => ?_)
  obtain ⟨hP1, hD1⟩ := hB
  rw [ht] at hP1
  obtain ⟨hP, hD⟩ := va_join (wr := cW0 k a) (w1 := ci4_w k q1 u) hP hD [46] [0, 1, 2, 3, 4, 5, 6, 7, 8, 9, 10, 11, 12, 13, 14, 15, 16, 17, 18, 19, 20, 21, 22, 23, 24, 25, 26, 27, 28, 29, 30, 31, 32, 33, 34, 35, 36, 37, 38, 39, 40, 41, 42, 43, 44, 45] rfl rfl (by decide) (by decide) hk1 hFc hP1 hD1
  generalize H1 = H at hP hS ⊢
  have hP : va_P D vwCl (cW0 k a ++ ci4_w k q1 u) H := hP
  have hD : va_D (fun q : Nat => s.heap.size ≤ q) (cW0 k a ++ ci4_w k q1 u) := hD
  refine W.widen (k := 58) (n := 4469) (Nat.le_of_ble_eq_true rfl) (Nat.le_of_ble_eq_true rfl) ?_
  refine lv_astore_n (lv' := [(2, .ref q1), (1, .ref (a 0)), (0, .ref b)]) hx hb dL_law_15 rfl hl (by decide) rfl (fun ls hl => ?_)
  refine lv_iconst (v := 0) hx hb dL_law_16 (by decide) ?_
  refine lv_istore_n (lv' := [(3, .int 0), (2, .ref q1), (1, .ref (a 0)), (0, .ref b)]) hx hb dL_law_17 rfl hl (by decide) rfl (fun ls hl => ?_)
  have hPa : va_P D vwCl (cW0 k a) H := pm_P hP (fun q hq => List.mem_append_left _ hq)
  have hPb : va_P D vwCl (mW k (bF q1 u) 0 0 (fun _ => 0) (fun _ => 0) (fun _ => 0) (fun _ => false) (fun _ => 0) (fun _ => 0) (fun _ => 0) (fun _ => 0) (fun _ => 0) 0 (fun _ => 0) (fun _ => 0)) H := pm_P (ws' := ci4_w k q1 u) hP (fun q hq => List.mem_append_right _ hq)
  have hm : (cW0 k a ++ ci4_w k q1 u).map Prod.fst = (List.range 58).map (gF a (bF q1 u)) := rfl
  obtain ⟨j1, j2, j3⟩ := gF_inj (inj_of_D hm hD)
  have hge := ge_of_D hm hD
  have C : LC p s m meth c b L xs D k a (bF q1 u) := by
    refine ⟨C0, hL, hK, j1, j2, j3, ?_, ?_⟩
    · rintro q ⟨i, hi, rfl⟩
      have := hge i (by omega)
      rw [show gF a (bF q1 u) i = a i from if_pos hi] at this
      exact this
    · rintro q ⟨i, hi, rfl⟩
      have := hge (46 + i) (by omega)
      rw [show gF a (bF q1 u) (46 + i) = bF q1 u i by unfold gF; rw [if_neg (by omega), Nat.add_sub_cancel_left]] at this
      exact this
  exact law_loop C (L + 1) 0 (by omega) (by omega) H _ ⟨_, _, _, _, _, _, _, _, _, _, _, _, _, _, _, _, _, _, _, _, _, _, _, _, _, hPa, hPb, CI_0⟩ hS ls (lv_sub hl [3, 2, 1, 0] rfl)
