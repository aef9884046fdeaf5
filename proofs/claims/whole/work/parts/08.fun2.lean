/-! PURE: Ringless and the public face -/
def waP (fr to : Nat → Nat) (th io : Nat → Bool) (x j : Nat) : Bool := th j && (decide (to j = x) && !(io (fr j)))
def waB (m : Nat) (fr to : Nat → Nat) (th io : Nat → Bool) (x : Nat) : Bool := (fst (waP fr to th io x) m).isSome
def nxP (m : Nat) (fr to : Nat → Nat) (th io : Nat → Bool) (u : Nat) : Bool := !(io u) && !(waB m fr to th io u)
def nextO (n m : Nat) (fr to : Nat → Nat) (th io : Nat → Bool) : Option Nat := fst (nxP m fr to th io) n
def clS (u : Nat) (f : Nat → Bool) : Nat → Bool := va_up f u false
def ordF (n m : Nat) (fr to : Nat → Nat) (th : Nat → Bool) : Nat → Nat → (Nat → Nat) → (Nat → Bool) → (Nat → Nat) × (Nat → Bool) × Nat
  | 0, pl, od, io => (od, io, pl)
  | f + 1, pl, od, io => match nextO n m fr to th io with
    | none => (od, io, pl)
    | some x => ordF n m fr to th f (pl + 1) (va_up od pl x) (va_up io x true)
def ordR (n m : Nat) (fr to : Nat → Nat) (th : Nat → Bool) (od : Nat → Nat) (io : Nat → Bool) : (Nat → Nat) × (Nat → Bool) × Nat := ordF n m fr to th n 0 od (fl clS n io)
theorem ordF_none {n m : Nat} {fr to : Nat → Nat} {th : Nat → Bool} {od : Nat → Nat} {io : Nat → Bool} {pl : Nat} (h : nextO n m fr to th io = none) (f : Nat) : ordF n m fr to th f pl od io = (od, io, pl) := by
  cases f with
  | zero => rfl
  | succ f => simp [ordF, h]
theorem ordF_some {n m : Nat} {fr to : Nat → Nat} {th : Nat → Bool} {od : Nat → Nat} {io : Nat → Bool} {pl x : Nat} (h : nextO n m fr to th io = some x) (f : Nat) : ordF n m fr to th (f + 1) pl od io = ordF n m fr to th f (pl + 1) (va_up od pl x) (va_up io x true) := by
  simp [ordF, h]
theorem ordF_le {n m : Nat} {fr to : Nat → Nat} {th : Nat → Bool} : ∀ (f : Nat) (od : Nat → Nat) (io : Nat → Bool) (pl : Nat), (∀ j, j < pl → od j < n) → (ordF n m fr to th f pl od io).2.2 ≤ pl + f ∧ ∀ j, j < (ordF n m fr to th f pl od io).2.2 → (ordF n m fr to th f pl od io).1 j < n
  | 0, od, io, pl, h => ⟨Nat.le_refl _, h⟩
  | f + 1, od, io, pl, h => by
    cases e : nextO n m fr to th io with
    | none => rw [ordF_none e]; exact ⟨Nat.le_add_right _ _, h⟩
    | some x =>
      rw [ordF_some e]
      have hx : x < n := (fst_inv e).1
      obtain ⟨h1, h2⟩ := ordF_le f (va_up od pl x) (va_up io x true) (pl + 1) (fun j hj => by
        by_cases q : j = pl
        · subst q; rw [va_up_self]; exact hx
        · rw [va_up_ne _ _ q]; exact h j (by omega))
      exact ⟨by omega, h2⟩
theorem ordR_le {n m : Nat} {fr to : Nat → Nat} {th : Nat → Bool} {od : Nat → Nat} {io : Nat → Bool} : (ordR n m fr to th od io).2.2 ≤ n ∧ ∀ j, j < (ordR n m fr to th od io).2.2 → (ordR n m fr to th od io).1 j < n := by
  have h := ordF_le (n := n) (m := m) (fr := fr) (to := to) (th := th) n od (fl clS n io) 0 (fun j hj => absurd hj (Nat.not_lt_zero j))
  exact ⟨by have := h.1; unfold ordR; omega, h.2⟩
def zS (u : Nat) (f : Nat → Int32) : Nat → Int32 := va_up f u 0
def hoS (fr to : Nat → Nat) (w : Nat → Int32) (th : Nat → Bool) (x j : Nat) (f : Nat → Int32) : Nat → Int32 :=
  if th j = true then (if fr j = x then va_up f (to j) (if f (to j) < f x + w j then f x + w j else f (to j)) else f) else f
def hoF (m : Nat) (fr to : Nat → Nat) (w : Nat → Int32) (th : Nat → Bool) (x : Nat) (f : Nat → Int32) : Nat → Int32 := fl (hoS fr to w th x) m f
def ffT (m : Nat) (fr to : Nat → Nat) (w : Nat → Int32) (th : Nat → Bool) (od : Nat → Nat) (i : Nat) (f : Nat → Int32) : Nat → Int32 := hoF m fr to w th (od i) f
def faR (n m : Nat) (fr to : Nat → Nat) (w : Nat → Int32) (th : Nat → Bool) (od : Nat → Nat) (oc : Nat) (fa : Nat → Int32) : Nat → Int32 := fl (ffT m fr to w th od) oc (fl zS n fa)
def grS (fa : Nat → Int32) (u : Nat) (g : Int32) : Int32 := if g < fa u then fa u else g
def grR (n : Nat) (fa : Nat → Int32) : Int32 := fl (grS fa) n 0
def onS (fr to : Nat → Nat) (w : Nat → Int32) (th : Nat → Bool) (bf : Nat → Int32) (j : Nat) (nw : Nat → Int32) : Nat → Int32 :=
  if th j = true then va_up nw (fr j) (if nw (fr j) < w j + bf (to j) then w j + bf (to j) else nw (fr j)) else nw
def onF (m : Nat) (fr to : Nat → Nat) (w : Nat → Int32) (th : Nat → Bool) (bf nw : Nat → Int32) : Nat → Int32 := fl (onS fr to w th bf) m (va_cpy bf nw 0 0 12)
def onT (m : Nat) (fr to : Nat → Nat) (w : Nat → Int32) (th : Nat → Bool) (i : Nat) (on : Nat → Nat → Int32) : Nat → Nat → Int32 := va_up on (i + 1) (onF m fr to w th (on i) (on (i + 1)))
def onR (n m : Nat) (fr to : Nat → Nat) (w : Nat → Int32) (th : Nat → Bool) (on : Nat → Nat → Int32) : Nat → Nat → Int32 := fl (onT m fr to w th) 11 (va_up on 0 (fl zS n (on 0)))
-- what workOut leaves behind
def rOd (n m : Nat) (ch : Int32) (fr to : Nat → Nat) (th : Nat → Bool) (od : Nat → Nat) (io : Nat → Bool) (sr : Int32) : Nat → Nat := if sr = ch then od else (ordR n m fr to th od io).1
def rIo (n m : Nat) (ch : Int32) (fr to : Nat → Nat) (th : Nat → Bool) (od : Nat → Nat) (io : Nat → Bool) (sr : Int32) : Nat → Bool := if sr = ch then io else (ordR n m fr to th od io).2.1
def rOc (n m : Nat) (ch : Int32) (fr to : Nat → Nat) (th : Nat → Bool) (od : Nat → Nat) (io : Nat → Bool) (oc : Nat) (sr : Int32) : Nat := if sr = ch then oc else (ordR n m fr to th od io).2.2
def rFa (n m : Nat) (ch : Int32) (fr to : Nat → Nat) (w : Nat → Int32) (th : Nat → Bool) (od : Nat → Nat) (io : Nat → Bool) (fa : Nat → Int32) (sr : Int32) : Nat → Int32 := if sr = ch then fa else if (ordR n m fr to th od io).2.2 < n then fa else faR n m fr to w th (ordR n m fr to th od io).1 (ordR n m fr to th od io).2.2 fa
def rGr (n m : Nat) (ch : Int32) (fr to : Nat → Nat) (w : Nat → Int32) (th : Nat → Bool) (od : Nat → Nat) (io : Nat → Bool) (fa : Nat → Int32) (gr sr : Int32) : Int32 := if sr = ch then gr else if (ordR n m fr to th od io).2.2 < n then gr else grR n (faR n m fr to w th (ordR n m fr to th od io).1 (ordR n m fr to th od io).2.2 fa)
def rOn (n m : Nat) (ch : Int32) (fr to : Nat → Nat) (w : Nat → Int32) (th : Nat → Bool) (od : Nat → Nat) (io : Nat → Bool) (on : Nat → Nat → Int32) (sr : Int32) : Nat → Nat → Int32 := if sr = ch then on else if (ordR n m fr to th od io).2.2 < n then on else onR n m fr to w th on
def ndO (od : Nat → Nat) (oc : Nat) (x : Int32) : Option Nat := if x < 0 then none else if x < nI oc then some (od x.toNatClampNeg) else none
def gwP (on : Nat → Nat → Int32) (gr : Int32) (i u : Nat) : Bool := decide (on i u = gr)
def gwB (n : Nat) (on : Nat → Nat → Int32) (gr : Int32) (i : Nat) : Bool := (fst (gwP on gr i) n).isSome
def clN (n : Nat) (on : Nat → Nat → Int32) (gr : Int32) : Nat := (fst (gwB n on gr) 12).getD 0
theorem clN_le (n : Nat) (on : Nat → Nat → Int32) (gr : Int32) : clN n on gr ≤ 11 := by
  unfold clN
  cases e : fst (gwB n on gr) 12 with
  | none => exact Nat.zero_le _
  | some i => exact Nat.le_of_lt_succ (fst_inv e).1
def fcP (fr to : Nat → Nat) (w : Nat → Int32) (th : Nat → Bool) (on : Nat → Nat → Int32) (z : Int32) (b : Nat) (q : Int32) (j : Nat) : Bool := th j && ((decide (z = -1) || decide (nI (fr j) = z)) && decide (w j + on b (to j) = q))
def crF (m : Nat) (fr to : Nat → Nat) (w : Nat → Int32) (th : Nat → Bool) (on : Nat → Nat → Int32) : Nat → Int32 → Nat → Int32 → Option Nat
  | 0, z, b, q => fst (fcP fr to w th on z (b - 1) q) m
  | i + 1, z, b, q => match fst (fcP fr to w th on z (b - 1) q) m with
    | none => none
    | some j => crF m fr to w th on i (nI (to j)) (b - 1) (q - w j)
theorem crF_none {m : Nat} {fr to : Nat → Nat} {w : Nat → Int32} {th : Nat → Bool} {on : Nat → Nat → Int32} {z : Int32} {b : Nat} {q : Int32} (h : fst (fcP fr to w th on z (b - 1) q) m = none) (i : Nat) : crF m fr to w th on i z b q = none := by
  cases i with
  | zero => exact h
  | succ i => simp [crF, h]
theorem crF_0 {m : Nat} {fr to : Nat → Nat} {w : Nat → Int32} {th : Nat → Bool} {on : Nat → Nat → Int32} {z : Int32} {b : Nat} {q : Int32} : crF m fr to w th on 0 z b q = fst (fcP fr to w th on z (b - 1) q) m := rfl
theorem crF_s {m : Nat} {fr to : Nat → Nat} {w : Nat → Int32} {th : Nat → Bool} {on : Nat → Nat → Int32} {z : Int32} {b j : Nat} {q : Int32} (h : fst (fcP fr to w th on z (b - 1) q) m = some j) (i : Nat) : crF m fr to w th on (i + 1) z b q = crF m fr to w th on i (nI (to j)) (b - 1) (q - w j) := by
  simp [crF, h]
def crX (n m : Nat) (fr to : Nat → Nat) (w : Nat → Int32) (th : Nat → Bool) (on : Nat → Nat → Int32) (gr x : Int32) : Option Nat := if x < 0 then none else if x < nI (clN n on gr) then crF m fr to w th on x.toNatClampNeg (-1) (clN n on gr) gr else none
theorem crX_in {n m : Nat} {fr to : Nat → Nat} {w : Nat → Int32} {th : Nat → Bool} {on : Nat → Nat → Int32} {gr : Int32} {y : Nat} (hy : y < 2 ^ 31) (h : nI y < nI (clN n on gr)) : crX n m fr to w th on gr (nI y) = crF m fr to w th on y (-1) (clN n on gr) gr := by
  rw [crX, if_neg (nI_pos hy), if_pos h, nI_clamp hy]
def ouB (x y z : Int32) : Bool := decide (x < y) || decide (¬ x ≤ z)
def bw (c : Bool) {α : Type} (x y : α) : α := if c = true then x else y
theorem bw_t {c : Bool} {α : Type} {x y : α} (h : c = true) : bw c x y = x := if_pos h
theorem bw_f {c : Bool} {α : Type} {x y : α} (h : c = false) : bw c x y = y := if_neg (by rw [h]; decide)
