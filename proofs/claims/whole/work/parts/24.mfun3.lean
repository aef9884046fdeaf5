/-! PURE: powers read at any turn, rests, the ring -/
def z64 : Nat → Int64 := fun _ => 0
/-- what findAll(x) leaves in 'all', whatever stood there -/
def aV (n m : Nat) (fr to : Nat → Nat) (w : Nat → Int32) (th : Nat → Bool) (x : Nat) : Nat → Int64 := (fgR n m fr to w th z64 z64 z64 x).1
def inD (n m : Nat) (fr to : Nat → Nat) (w : Nat → Int32) (th : Nat → Bool) : Prop := ∀ (al pa bo : Nat → Int64) (x u v : Nat), x ≤ 20 → u < n → v < n → (fgR n m fr to w th al pa bo x).1 (12 * u + v) = aV n m fr to w th x (12 * u + v)
def arP (be av : Nat → Int64) (u v : Nat) : Bool := if be (12 * u + v) < 1000000000000 then (decide (¬ 1000000000000 ≤ av (12 * u + v)) && decide (av (12 * u + v) = (wIn (be (12 * u + v))).toInt64)) else decide (¬ av (12 * u + v) < 1000000000000)
def atB (n : Nat) (be av : Nat → Int64) (u : Nat) : Bool := aaF true (arP be av u) n
def rsP (be : Nat → Int64) (u x : Nat) : Bool := if 1000000000000 ≤ be (12 * u + x) then true else decide (¬ be (12 * x + x) < 0)
def rsB (n : Nat) (be : Nat → Int64) (u : Nat) : Bool := aaF true (rsP be u) n
def atQ (n m : Nat) (fr to : Nat → Nat) (w : Nat → Int32) (th : Nat → Bool) (be : Nat → Int64) (u x : Nat) : Bool := atB n be (aV n m fr to w th x) u
def ngP (av : Nat → Int64) (u : Nat) : Bool := decide (¬ 0 ≤ av (12 * u + u))
def ngK (n m : Nat) (fr to : Nat → Nat) (w : Nat → Int32) (th : Nat → Bool) (i : Nat) : Bool := (fst (ngP (aV n m fr to w th (i + 1))) n).isSome
def feN (n m : Nat) (fr to : Nat → Nat) (w : Nat → Int32) (th : Nat → Bool) : Nat := match fst (ngK n m fr to w th) n with
  | none => 0
  | some i => i + 1
theorem feN_le (n m : Nat) (fr to : Nat → Nat) (w : Nat → Int32) (th : Nat → Bool) : feN n m fr to w th ≤ n := by
  unfold feN
  cases e : fst (ngK n m fr to w th) n with
  | none => exact Nat.zero_le _
  | some i => exact (fst_inv e).1
def goA (fr to : Nat → Nat) (w : Nat → Int32) (th : Nat → Bool) (al : Nat → Int64) (z : Int32) (q : Int64) (j : Nat) : Bool := th j && ((decide (z = -1) || decide (nI (fr j) = z)) && (decide (¬ 1000000000000 ≤ al (12 * to j + fr j)) && decide (¬ 0 ≤ q + (w j).toInt64 + al (12 * to j + fr j))))
def goB (fr to : Nat → Nat) (w : Nat → Int32) (th : Nat → Bool) (al : Nat → Int64) (g : Nat) (z : Int32) (q : Int64) (j : Nat) : Bool := th j && ((decide (z = -1) || decide (nI (fr j) = z)) && (decide (¬ 1000000000000 ≤ al (12 * to j + g)) && decide (¬ 0 ≤ q + (w j).toInt64 + al (12 * to j + g))))
theorem goA_al {fr to : Nat → Nat} {w : Nat → Int32} {th : Nat → Bool} {al al2 : Nat → Int64} {z : Int32} {q : Int64} {j : Nat} (h : al (12 * to j + fr j) = al2 (12 * to j + fr j)) : goA fr to w th al z q j = goA fr to w th al2 z q j := by
  simp only [goA, h]
theorem goB_al {fr to : Nat → Nat} {w : Nat → Int32} {th : Nat → Bool} {al al2 : Nat → Int64} {g : Nat} {z : Int32} {q : Int64} {j : Nat} (h : al (12 * to j + g) = al2 (12 * to j + g)) : goB fr to w th al g z q j = goB fr to w th al2 g z q j := by
  simp only [goB, h]
/-- the row ra goes on from place i with f arcs left, begun at g, now at at1, with the sum q -/
def rgC (n m : Nat) (fr to : Nat → Nat) (w : Nat → Int32) (th : Nat → Bool) (ra : Nat → Nat) (g : Nat) : Nat → Nat → Nat → Int64 → Prop
  | 0, _, _, _ => True
  | f + 1, i, at1, q => fst (goB fr to w th (aV n m fr to w th f) g (nI at1) q) m = some (ra i) ∧ rgC n m fr to w th ra g f (i + 1) (to (ra i)) (q + (w (ra i)).toInt64)
def rgA (n m : Nat) (fr to : Nat → Nat) (w : Nat → Int32) (th : Nat → Bool) (ra : Nat → Nat) (r : Nat) : Prop := r = 0 ∨ (fst (goA fr to w th (aV n m fr to w th (r - 1)) (-1) 0) m = some (ra 0) ∧ rgC n m fr to w th ra (fr (ra 0)) (r - 1) 1 (to (ra 0)) (0 + (w (ra 0)).toInt64))
def rgS (ra0 : Nat → Nat) (i : Nat) (f : Nat → Nat) : Nat → Nat := va_up f i (ra0 i)
theorem rg_at (ra0 : Nat → Nat) (f : Nat → Nat) : ∀ (r y : Nat), y < r → fl (rgS ra0) r f y = ra0 y
  | 0, y, h => absurd h (Nat.not_lt_zero y)
  | r + 1, y, h => by
    show rgS ra0 r (fl (rgS ra0) r f) y = ra0 y
    unfold rgS
    by_cases q : y = r
    · subst q; rw [va_up_self]
    · rw [va_up_ne _ _ q]; exact rg_at ra0 f r y (by omega)
