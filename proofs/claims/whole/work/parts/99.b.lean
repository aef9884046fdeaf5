/-! THE LAW: rows for its cases -/
theorem aw_lt {ws : va_W} {N : Nat} {a : Nat → Nat} {D : va_G} {cl : List vw_C} {H : Heap} (hm : ws.map Prod.fst = (List.range N).map a) (hP : va_P D cl ws H) : ∀ i, i < N → a i < H.size := by
  intro i hi
  have h1 : (ws.map Prod.fst)[i]? = some (a i) := by rw [hm, List.getElem?_map, List.getElem?_range hi]; rfl
  rw [List.getElem?_map] at h1
  cases e : ws[i]? with
  | none => rw [e] at h1; cases h1
  | some p =>
    rw [e] at h1
    have e2 : p.1 = a i := Option.some.inj h1
    have h2 := hP i p e
    obtain ⟨q, o⟩ := p
    cases o with
    | inl o =>
      have h3 : H[q]? = some (vp_cell o.1 o.2) := h2
      have e2 : q = a i := e2
      rw [← e2]
      exact (Array.getElem?_eq_some_iff.mp h3).1
    | inr o =>
      obtain ⟨r, -, cell, g1, -⟩ := h2
      have e2 : q = a i := e2
      rw [← e2]
      exact (Array.getElem?_eq_some_iff.mp g1).1
theorem kp {ws : va_W} {N : Nat} {a : Nat → Nat} {D : va_G} {H H1 : Heap} {A1 : Nat → Prop} (hm : ws.map Prod.fst = (List.range N).map a) (hP : va_P D vwCl ws H) (hf : ∀ q : Nat, q < H.size → ¬ A1 q → H1[q]? = H[q]?) (hd : ∀ i, i < N → ¬ A1 (a i)) : va_P D vwCl ws H1 := aw_kept hm hP (fun i hi => hf _ (aw_lt hm hP i hi) (hd i hi))
/-- the two worlds, and what holds of their values -/
def LWd (D : va_G) (k : Nat → ClassId) (a b : Nat → Nat) (cN : Nat) (H : Heap) : Prop := ∃ (n m : Nat) (ch : Int32) (fr to : Nat → Nat) (w : Nat → Int32) (th : Nat → Bool) (L : Nat → Nat → Int32) (la : Nat) (sw : Int32) (od : Nat → Nat) (io : Nat → Bool) (oc : Nat) (fa : Nat → Int32) (on : Nat → Nat → Int32) (gr sr : Int32) (be oe al pa bo : Nat → Int64) (rl : Nat) (ra : Nat → Nat) (mo : Nat → Int64), va_P D vwCl (cW k a n m ch fr to w th L la sw od io oc fa on gr sr) H ∧ va_P D vwCl (mW k b n m fr to w th be oe al pa bo rl ra mo) H ∧ CI cN n m ch fr to w th L la sw od oc fa on gr sr
/-- what stands while the law runs -/
def LC (p : Program) (s : State) (mt : MethodId) (meth : Method) (c : Code) (bs Ls : Nat) (xs : Nat → Int32) (D : va_G) (k : Nat → ClassId) (a b : Nat → Nat) : Prop := lw_At p s mt meth c bs Ls xs ∧ Ls ≤ 2048 ∧ va_K D vwCl (tyL k) s ∧ inj 46 a ∧ inj 12 b ∧ (∀ i j, i < 46 → j < 12 → a i ≠ b j) ∧ (∀ q, cA a q → s.heap.size ≤ q) ∧ (∀ q, mA b q → s.heap.size ≤ q)
theorem dis_b {a b : Nat → Nat} (h : ∀ i j, i < 46 → j < 12 → a i ≠ b j) : ∀ j, j < 12 → ¬ cA a (b j) := fun j hj ⟨i, hi, e⟩ => h i j hi hj e.symm
theorem dis_a {a b : Nat → Nat} (h : ∀ i j, i < 46 → j < 12 → a i ≠ b j) : ∀ i, i < 46 → ¬ mA b (a i) := fun i hi ⟨j, hj, e⟩ => h i j hi hj e
section RL5
variable {p : Program} {l : Launch} {e : Env} {R : Room} {s : State} {m : MethodId} {args : Array Value} {below : List Frame} {meth : Method} {c : Code} {H : Heap} {locs : List Loc} {cells slots : Nat} {Q : State → Prop}
variable {cc : ByteArray} {pc : Nat} {ls : Array Slot} {rest : List Value} {A : Nat → Prop} {H0 : Heap}
theorem sld5 (hx : p.tables.exec = Jvm.exec) (hb : c.code = cc) {bs Ls : Nat} {xs : Nat → Int32} (hX : va_X bs Ls xs s H0) (hbl : bs < H0.size) (hbA : ¬ A bs) (hS : va_S A H0 H locs) {i : Nat} (j : Nat) {v1 v2 : Value} (hl : lv_has ls 4 [(0, .ref bs), (1, v1), (2, v2), (3, .int (nI i))]) {jv : Int} (hj : Int32.ofInt jv = nI j) (hin : i + j < Ls) (hLs : Ls ≤ 2048) {x : Int32} (ex : xs (i + j) = x)
    (d0 : decode cc pc = .ok (.aload_n 0, 1)) (d1 : decode cc (pc + 1) = .ok (.iload_n 3, 1)) (d2 : decode cc (pc + 2) = .ok (.iconst jv, 1)) (d3 : decode cc (pc + 3) = .ok (.iadd, 1)) (d4 : decode cc (pc + 4) = .ok (.iaload, 1))
    (kk : W p l e R s m args below meth c H locs cells slots Q (F0 m (pc + 5) ls (.int x :: rest))) : W p l e R s m args below meth c H locs cells slots Q (F0 m pc ls rest) := by
  refine lv_aload_n hx hb d0 rfl (lv_at hl 0 rfl) ?_
  refine lv_iload_n hx hb d1 rfl (lv_at hl 3 rfl) ?_
  refine lv_iconst (v := nI j) hx hb d2 hj ?_
  refine lv_iadd hx hb d3 ?_
  rw [nI_add]
  refine va_sld hx hb hX hbl hbA hS (vp_in_nI hin (by omega)) d4 ?_
  rw [nI_clamp (by omega), ex]
  exact kk
end RL5
