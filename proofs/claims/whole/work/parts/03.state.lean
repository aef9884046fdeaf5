/-! THE STATE: the class's world (46 cells at a 0 .. a 45), the reference's (12 cells at b 0 .. b 11), and their values -/
def fl {σ : Type} (f : Nat → σ → σ) : Nat → σ → σ
  | 0, s => s
  | n + 1, s => f n (fl f n s)
theorem fl_0 {σ : Type} (f : Nat → σ → σ) (s : σ) : fl f 0 s = s := rfl
theorem fl_s {σ : Type} (f : Nat → σ → σ) (n : Nat) (s : σ) : fl f (n + 1) s = f n (fl f n s) := rfl
def inj (N : Nat) (a : Nat → Nat) : Prop := ∀ i j, i < N → j < N → a i = a j → i = j
def aS (N : Nat) (a : Nat → Nat) : Nat → Prop := fun q => ∃ i, i < N ∧ q = a i
abbrev cA (a : Nat → Nat) : Nat → Prop := aS 46 a
abbrev mA (b : Nat → Nat) : Nat → Prop := aS 12 b
def isB (r : Int32) (P : Prop) : Prop := (r = 1 ∧ P) ∨ (r = 0 ∧ ¬ P)
def isF (r : Int32) (P : Nat → Prop) (m : Nat) : Prop := (∃ j, j < m ∧ P j ∧ (∀ i, i < j → ¬ P i) ∧ r = nI j) ∨ ((∀ j, j < m → ¬ P j) ∧ r = -1)
def isIx (x : Int32) (n : Nat) : Prop := ∃ u, u < n ∧ x = nI u
def gOK (n m : Nat) (fr to : Nat → Nat) : Prop := n ≤ 12 ∧ m ≤ 40 ∧ ∀ j, j < m → fr j < n ∧ to j < n
theorem aw_at {ws : va_W} {N : Nat} {a : Nat → Nat} (hm : ws.map Prod.fst = (List.range N).map a) {i : Nat} {p : Nat × va_E} (hp : ws[i]? = some p) : i < N ∧ p.1 = a i := by
  have h1 : (ws.map Prod.fst)[i]? = some p.1 := by rw [List.getElem?_map, hp]; rfl
  rw [hm, List.getElem?_map] at h1
  by_cases hi : i < N
  · rw [List.getElem?_range hi] at h1
    exact ⟨hi, (Option.some.inj h1).symm⟩
  · rw [List.getElem?_eq_none (by rw [List.length_range]; omega)] at h1
    cases h1
theorem aw_D {ws : va_W} {N : Nat} {a : Nat → Nat} (hm : ws.map Prod.fst = (List.range N).map a) (h : inj N a) : va_D (aS N a) ws := by
  refine ⟨fun i j p q hi hj e => ?_, fun i p hi => ?_⟩
  · obtain ⟨h1, h2⟩ := aw_at hm hi
    obtain ⟨h3, h4⟩ := aw_at hm hj
    exact h i j h1 h3 (by rw [← h2, ← h4]; exact e)
  · obtain ⟨h1, h2⟩ := aw_at hm hi
    exact ⟨i, h1, h2⟩
theorem aw_kept {ws : va_W} {N : Nat} {a : Nat → Nat} {D : va_G} {cl : List vw_C} {H H1 : Heap} (hm : ws.map Prod.fst = (List.range N).map a) (hP : va_P D cl ws H) (hq : ∀ i, i < N → H1[a i]? = H[a i]?) : va_P D cl ws H1 := by
  refine hP.kept (fun i p hi => ?_)
  obtain ⟨h1, h2⟩ := aw_at hm hi
  rw [h2]
  exact hq i h1
def cW (k : Nat → ClassId) (a : Nat → Nat) (n : Nat) (m : Nat) (ch : Int32) (fr : Nat → Nat) (to : Nat → Nat) (w : Nat → Int32) (th : Nat → Bool) (L : Nat → Nat → Int32) (la : Nat) (sw : Int32) (od : Nat → Nat) (io : Nat → Bool) (oc : Nat) (fa : Nat → Int32) (on : Nat → Nat → Int32) (gr : Int32) (sr : Int32) : va_W :=
  [(a 0, .inr (3, [.ref (a 1), .ref (a 6), .ref (a 8)])),
   (a 1, .inr (0, [.int (nI n), .int (nI m), .int ch, .ref (a 2), .ref (a 3), .ref (a 4), .ref (a 5)])),
   (a 2, .inl (k 0, 40, .inl (fun j => nI (fr j)))),
   (a 3, .inl (k 0, 40, .inl (fun j => nI (to j)))),
   (a 4, .inl (k 0, 40, .inl w)),
   (a 5, .inl (k 1, 40, .inl (fun j => bI (th j)))),
   (a 6, .inr (2, [.ref (a 1), .ref (a 7), .int (nI la), .int sw])),
   (a 7, .inl (k 2, 21, .inr (.inr (.inr (.inr (fun i => if i < 21 then some (a (13 + i)) else none)))))),
   (a 8, .inr (1, [.ref (a 1), .ref (a 9), .ref (a 10), .int (nI oc), .ref (a 11), .ref (a 12), .int gr, .int sr])),
   (a 9, .inl (k 0, 12, .inl (fun j => nI (od j)))),
   (a 10, .inl (k 1, 12, .inl (fun j => bI (io j)))),
   (a 11, .inl (k 0, 12, .inl fa)),
   (a 12, .inl (k 2, 12, .inr (.inr (.inr (.inr (fun i => if i < 12 then some (a (34 + i)) else none))))))] ++
  ((List.range 21).map (fun i => (a (13 + i), .inl (k 0, 144, .inl (L i)))) ++ (List.range 12).map (fun i => (a (34 + i), .inl (k 0, 12, .inl (on i)))))
def mW (k : Nat → ClassId) (b : Nat → Nat) (n : Nat) (m : Nat) (fr : Nat → Nat) (to : Nat → Nat) (w : Nat → Int32) (th : Nat → Bool) (be : Nat → Int64) (oe : Nat → Int64) (al : Nat → Int64) (pa : Nat → Int64) (bo : Nat → Int64) (rl : Nat) (ra : Nat → Nat) (mo : Nat → Int64) : va_W :=
  [(b 0, .inr (4, [.int (nI n), .int (nI m), .ref (b 1), .ref (b 2), .ref (b 3), .ref (b 4), .ref (b 5), .ref (b 6), .ref (b 7), .ref (b 8), .ref (b 9), .int (nI rl), .ref (b 10), .ref (b 11)])),
   (b 1, .inl (k 0, 40, .inl (fun j => nI (fr j)))),
   (b 2, .inl (k 0, 40, .inl (fun j => nI (to j)))),
   (b 3, .inl (k 0, 40, .inl w)),
   (b 4, .inl (k 1, 40, .inl (fun j => bI (th j)))),
   (b 5, .inl (k 3, 144, .inr (.inl be))),
   (b 6, .inl (k 3, 144, .inr (.inl oe))),
   (b 7, .inl (k 3, 144, .inr (.inl al))),
   (b 8, .inl (k 3, 144, .inr (.inl pa))),
   (b 9, .inl (k 3, 144, .inr (.inl bo))),
   (b 10, .inl (k 0, 12, .inl (fun j => nI (ra j)))),
   (b 11, .inl (k 3, 144, .inr (.inl mo)))]
section ST
variable {k : Nat → ClassId} {a b : Nat → Nat} {n : Nat} {m : Nat} {ch : Int32} {fr : Nat → Nat} {to : Nat → Nat} {w : Nat → Int32} {th : Nat → Bool} {L : Nat → Nat → Int32} {la : Nat} {sw : Int32} {od : Nat → Nat} {io : Nat → Bool} {oc : Nat} {fa : Nat → Int32} {on : Nat → Nat → Int32} {gr : Int32} {sr : Int32}
theorem cW_addr : (cW k a n m ch fr to w th L la sw od io oc fa on gr sr).map Prod.fst = (List.range 46).map a := rfl
theorem cW_D (h : inj 46 a) : va_D (cA a) (cW k a n m ch fr to w th L la sw od io oc fa on gr sr) := aw_D cW_addr h
theorem cW_row {i : Nat} (h : i < 21) : (cW k a n m ch fr to w th L la sw od io oc fa on gr sr)[13 + i]? = some (a (13 + i), .inl (k 0, 144, .inl (L i))) := by
  unfold cW
  rw [List.getElem?_append_right (by show 13 ≤ 13 + i; omega), List.getElem?_append_left (by simp; omega)]
  simp [h]
theorem cW_onr {i : Nat} (h : i < 12) : (cW k a n m ch fr to w th L la sw od io oc fa on gr sr)[34 + i]? = some (a (34 + i), .inl (k 0, 12, .inl (on i))) := by
  unfold cW
  rw [List.getElem?_append_right (by show 13 ≤ 34 + i; omega), List.getElem?_append_right (by simp; omega)]
  have e : 34 + i - 13 - 21 = i := by omega
  simp [h, e]
theorem cW_setrow {i : Nat} (h : i < 21) (f : Nat → Int32) : (cW k a n m ch fr to w th L la sw od io oc fa on gr sr).set (13 + i) (a (13 + i), .inl (k 0, 144, .inl f)) = cW k a n m ch fr to w th (va_up L i f) la sw od io oc fa on gr sr := by
  unfold cW
  rw [List.set_append_right _ _ (by show 13 ≤ 13 + i; omega), List.set_append_left _ _ (by simp; omega)]
  congr 2
  refine map_range_set 21 _ _ _ _ (by simp [va_up]) ?_
  intro j hj
  have hj2 : ¬ j = i := by simpa using hj
  simp [va_up, hj2]
theorem cW_setonr {i : Nat} (h : i < 12) (f : Nat → Int32) : (cW k a n m ch fr to w th L la sw od io oc fa on gr sr).set (34 + i) (a (34 + i), .inl (k 0, 12, .inl f)) = cW k a n m ch fr to w th L la sw od io oc fa (va_up on i f) gr sr := by
  unfold cW
  rw [List.set_append_right _ _ (by show 13 ≤ 34 + i; omega), List.set_append_right _ _ (by simp; omega)]
  congr 2
  have e : 34 + i - 13 - 21 = i := by omega
  refine map_range_set 12 _ _ _ _ (by simp [va_up, e]) ?_
  intro j hj
  have hj2 : ¬ j = i := by simpa [e] using hj
  simp [va_up, hj2]
end ST
section SM
variable {k : Nat → ClassId} {b : Nat → Nat} {n : Nat} {m : Nat} {fr : Nat → Nat} {to : Nat → Nat} {w : Nat → Int32} {th : Nat → Bool} {be : Nat → Int64} {oe : Nat → Int64} {al : Nat → Int64} {pa : Nat → Int64} {bo : Nat → Int64} {rl : Nat} {ra : Nat → Nat} {mo : Nat → Int64}
theorem mW_addr : (mW k b n m fr to w th be oe al pa bo rl ra mo).map Prod.fst = (List.range 12).map b := rfl
theorem mW_D (h : inj 12 b) : va_D (mA b) (mW k b n m fr to w th be oe al pa bo rl ra mo) := aw_D mW_addr h
end SM
