/-! PURE: what the reference works out -/
theorem ouB_ix {x : Int32} {n : Nat} (hn : n ≤ 40) : (!(ouB x 0 (nI n - 1))) = ixB x n := by
  have e1 : (nI n - 1).toInt = (n : Int) - 1 := pk_sub_toInt (a := n) (b := 1) (by omega) (by omega)
  have e2 : (nI n).toInt = (n : Int) := nI_toInt (by omega)
  unfold ouB ixB
  simp only [Int32.le_iff_toInt_le, e1, e2]
  by_cases h1 : x < 0
  · simp [h1]
  · simp only [h1, decide_false, Bool.false_or, not_false_eq_true, decide_true, Bool.true_and]
    by_cases h2 : x.toInt ≤ (n : Int) - 1
    · simp [h2]; omega
    · simp [h2]; omega
def anyF (P : Nat → Bool) : Nat → Bool
  | 0 => false
  | n + 1 => anyF P n || P n
def aaF (b : Bool) (P : Nat → Bool) : Nat → Bool
  | 0 => b
  | n + 1 => aaF b P n && P n
def fb1 (i : Nat) (f : Nat → Int64) : Nat → Int64 := va_up f i (if i / 12 = i % 12 then 0 else 1000000000000)
def fb2 (fr to : Nat → Nat) (w : Nat → Int32) (th : Nat → Bool) (j : Nat) (f : Nat → Int64) : Nat → Int64 :=
  va_up f (12 * fr j + to j) (if th j = true then (if f (12 * fr j + to j) ≤ 1000 * (w j).toInt64 + 1 then f (12 * fr j + to j) else 1000 * (w j).toInt64 + 1) else f (12 * fr j + to j))
def fwV (f : Nat → Int64) (um mv uv : Nat) : Int64 :=
  if 1000000000000 ≤ f um then f uv else if 1000000000000 ≤ f mv then f uv else if f uv ≤ f um + f mv then f uv else if -1000000000000 ≤ f um + f mv then f um + f mv else -1000000000000
def fwS (x u v : Nat) (f : Nat → Int64) : Nat → Int64 := va_up f (12 * u + v) (fwV f (12 * u + x) (12 * x + v) (12 * u + v))
def fwU (n x u : Nat) (f : Nat → Int64) : Nat → Int64 := fl (fwS x u) n f
def fwM (n x : Nat) (f : Nat → Int64) : Nat → Int64 := fl (fwU n x) n f
def fwI (n m : Nat) (fr to : Nat → Nat) (w : Nat → Int32) (th : Nat → Bool) (f : Nat → Int64) : Nat → Int64 := fl (fb2 fr to w th) m (fl fb1 (n * 12) f)
def fwB (n m : Nat) (fr to : Nat → Nat) (w : Nat → Int32) (th : Nat → Bool) (f : Nat → Int64) : Nat → Int64 := fl (fwM n) n (fwI n m fr to w th f)
def bnP (be : Nat → Int64) (u : Nat) : Bool := decide (¬ 0 ≤ be (12 * u + u))
def bbP (be : Nat → Int64) (u v x : Nat) : Bool := decide (¬ 0 ≤ be (12 * x + x)) && (decide (¬ 1000000000000 ≤ be (12 * u + x)) && decide (¬ 1000000000000 ≤ be (12 * x + v)))
def wIn (q : Int64) : Int32 := if q / 1000 * 1000 ≤ q then (q / 1000).toInt32 else (q / 1000 - 1).toInt32
def lsA (n : Nat) (be : Nat → Int64) (u v : Nat) : Int32 := if be (12 * u + v) < 1000000000000 then (if anyF (bbP be u v) n = true then -1000000000 else wIn (be (12 * u + v))) else 1000000000
def wyP (fr to : Nat → Nat) (w : Nat → Int32) (th : Nat → Bool) (be : Nat → Int64) (v u j : Nat) : Bool := th j && (decide (fr j = u) && decide (1000 * (w j).toInt64 + 1 + be (12 * to j + v) = be (12 * u + v)))
def wyE (be : Nat → Int64) (v u : Nat) : Prop := be (12 * u + v) = 0 ∧ u = v
def wyG (m : Nat) (fr to : Nat → Nat) (w : Nat → Int32) (th : Nat → Bool) (be : Nat → Int64) (v : Nat) : Nat → Nat → Prop
  | 0, _ => False
  | f + 1, u => wyE be v u ∨ ∃ j, fst (wyP fr to w th be v u) m = some j ∧ wyG m fr to w th be v f (to j)
/-- the arc at place z of the row that begins at u (place k so far) -/
def wyR (m : Nat) (fr to : Nat → Nat) (w : Nat → Int32) (th : Nat → Bool) (be : Nat → Int64) (v : Nat) (z : Int32) : Nat → Nat → Nat → Int32 → Prop
  | 0, _, _, _ => False
  | f + 1, u, k, r => (wyE be v u ∧ r = -1) ∨ (¬ wyE be v u ∧ ∃ j, fst (wyP fr to w th be v u) m = some j ∧ ((nI k = z ∧ r = nI j) ∨ (¬ nI k = z ∧ wyR m fr to w th be v z f (to j) (k + 1) r)))
def tkS (bo : Nat → Int64) (i : Nat) (f : Nat → Int64) : Nat → Int64 := va_up f i (bo i)
def jnS (A B : Nat → Int64) (u v x : Nat) (c : Int64) : Int64 := if 1000000000000 ≤ A (12 * u + x) then c else if 1000000000000 ≤ B (12 * x + v) then c else if c ≤ A (12 * u + x) + B (12 * x + v) then c else A (12 * u + x) + B (12 * x + v)
def jnV (n : Nat) (A B : Nat → Int64) (u v : Nat) (bo : Nat → Int64) : Nat → Int64 := va_up bo (12 * u + v) (fl (jnS A B u v) n 1000000000000)
def jnU (n : Nat) (A B : Nat → Int64) (u : Nat) (bo : Nat → Int64) : Nat → Int64 := fl (jnV n A B u) n bo
def jnF (n : Nat) (A B bo : Nat → Int64) : Nat → Int64 := fl (jnU n A B) n bo
def tkF (n : Nat) (bo f : Nat → Int64) : Nat → Int64 := fl (tkS bo) (12 * n) f
def fa2 (fr to : Nat → Nat) (w : Nat → Int32) (th : Nat → Bool) (j : Nat) (f : Nat → Int64) : Nat → Int64 :=
  va_up f (12 * fr j + to j) (if th j = true then (if f (12 * fr j + to j) ≤ (w j).toInt64 then f (12 * fr j + to j) else (w j).toInt64) else f (12 * fr j + to j))
abbrev T3 : Type := (Nat → Int64) × (Nat → Int64) × (Nat → Int64)
/-- one turn of the powers: all, part, both -/
def pwO (n : Nat) (s : T3) : T3 := (tkF n (jnF n s.1 s.2.1 s.2.2) s.1, s.2.1, jnF n s.1 s.2.1 s.2.2)
def pwE (n : Nat) (s : T3) : T3 := (s.1, tkF n (jnF n s.2.1 s.2.1 s.2.2) s.2.1, jnF n s.2.1 s.2.1 s.2.2)
def pwF (n : Nat) : Nat → Nat → T3 → T3
  | 0, _, s => s
  | f + 1, q, s => if q = 0 then s else pwF n f (q / 2) (pwE n (if q % 2 = 1 then pwO n s else s))
theorem pwF_0 {n f : Nat} {s : T3} : pwF n f 0 s = s := by cases f <;> simp [pwF]
theorem pwF_s {n f q : Nat} {s : T3} (h : 0 < q) : pwF n (f + 1) q s = pwF n f (q / 2) (pwE n (if q % 2 = 1 then pwO n s else s)) := by
  rw [pwF, if_neg (by omega)]
def pw0 (n m : Nat) (fr to : Nat → Nat) (w : Nat → Int32) (th : Nat → Bool) (al pa bo : Nat → Int64) : T3 := (fl fb1 (12 * n) al, fl (fa2 fr to w th) m (fl fb1 (12 * n) pa), bo)
def fgR (n m : Nat) (fr to : Nat → Nat) (w : Nat → Int32) (th : Nat → Bool) (al pa bo : Nat → Int64) (x : Nat) : T3 := pwF n x x (pw0 n m fr to w th al pa bo)
def wiM (n : Nat) (al : Nat → Int64) (x y z : Int32) : Int32 := if (ixB x n && ixB y n) = true then (if ouB z 0 20 = true then -1000000002 else if 1000000000000 ≤ al (12 * x.toNatClampNeg + y.toNatClampNeg) then 1000000000 else (al (12 * x.toNatClampNeg + y.toNatClampNeg)).toInt32) else -1000000001
def htS (be : Nat → Int64) (v u : Nat) (c : Int64) : Int64 := if c ≤ be (12 * u + v) then c else be (12 * u + v)
def htF (n : Nat) (be : Nat → Int64) (v : Nat) : Int32 := wIn (fl (htS be v) n 0)
def flB (n : Nat) (be : Nat → Int64) : Bool := anyF (bnP be) n
def heM (n : Nat) (be : Nat → Int64) (u : Nat) : Int32 := if flB n be = true then -1000000003 else htF n be u
def liM (n m : Nat) (fr to : Nat → Nat) (w : Nat → Int32) (th : Nat → Bool) (be : Nat → Int64) (x : Int32) : Int32 :=
  if ixB x m = true then (if flB n be = true then -1000000003 else if th x.toNatClampNeg = true then w x.toNatClampNeg + htF n be (fr x.toNatClampNeg) - htF n be (to x.toNatClampNeg) else -1000000003) else -1000000001
def spM (n m : Nat) (fr to : Nat → Nat) (w : Nat → Int32) (th : Nat → Bool) (be : Nat → Int64) (x : Int32) : Int32 :=
  if ixB x m = true then (if flB n be = true then -1000000003 else if th x.toNatClampNeg = true then (if be (12 * to x.toNatClampNeg + fr x.toNatClampNeg) < 1000000000000 then w x.toNatClampNeg + wIn (be (12 * to x.toNatClampNeg + fr x.toNatClampNeg)) else 1000000000) else -1000000003) else -1000000001
def mb1 (i : Nat) (f : Nat → Int64) : Nat → Int64 := va_up f i (-1000000000000)
def mb2 (fr to : Nat → Nat) (w : Nat → Int32) (th : Nat → Bool) (j : Nat) (f : Nat → Int64) : Nat → Int64 :=
  va_up f (12 * fr j + to j) (if th j = true then (if 1000 * (w j).toInt64 - 1 ≤ f (12 * fr j + to j) then f (12 * fr j + to j) else 1000 * (w j).toInt64 - 1) else f (12 * fr j + to j))
def mxV (f : Nat → Int64) (um mv uv : Nat) : Int64 := if f um ≤ -1000000000000 then f uv else if f mv ≤ -1000000000000 then f uv else if f um + f mv ≤ f uv then f uv else f um + f mv
def mxS (x u v : Nat) (f : Nat → Int64) : Nat → Int64 := va_up f (12 * u + v) (mxV f (12 * u + x) (12 * x + v) (12 * u + v))
def mxU (n x u : Nat) (f : Nat → Int64) : Nat → Int64 := fl (mxS x u) n f
def mxM (n x : Nat) (f : Nat → Int64) : Nat → Int64 := fl (mxU n x) n f
def dgP (f : Nat → Int64) (u : Nat) : Bool := decide (f (12 * u + u) ≤ -1000000000000)
def fsS (n x : Nat) (s : Bool × (Nat → Int64)) : Bool × (Nat → Int64) := if (s.1 && dgP s.2 x) = true then (true, mxM n x s.2) else (false, s.2)
def frS (n m : Nat) (fr to : Nat → Nat) (w : Nat → Int32) (th : Nat → Bool) (mo : Nat → Int64) (i : Nat) : Bool × (Nat → Int64) := fl (fsS n) i (true, fl (mb2 fr to w th) m (fl mb1 (n * 12) mo))
def frB (n m : Nat) (fr to : Nat → Nat) (w : Nat → Int32) (th : Nat → Bool) (mo : Nat → Int64) : Bool := aaF (frS n m fr to w th mo n).1 (dgP (frS n m fr to w th mo n).2) n
def frM (n m : Nat) (fr to : Nat → Nat) (w : Nat → Int32) (th : Nat → Bool) (mo : Nat → Int64) : Nat → Int64 := (frS n m fr to w th mo n).2
theorem frS_s {n m : Nat} {fr to : Nat → Nat} {w : Nat → Int32} {th : Nat → Bool} {mo : Nat → Int64} {i : Nat} : frS n m fr to w th mo (i + 1) = fsS n i (frS n m fr to w th mo i) := rfl
def gtV (f : Nat → Int64) (x : Nat) (e : Bool) (y : Nat) : Int64 := if e = true then f (12 * y + x) else f (12 * x + y)
def gtS (f : Nat → Int64) (x : Nat) (e : Bool) (y : Nat) (c : Int64) : Int64 := if gtV f x e y ≤ c then c else gtV f x e y
def gtF (n : Nat) (f : Nat → Int64) (x : Nat) (e : Bool) : Int64 := fl (gtS f x e) n 0
def wOf (q : Int64) : Int32 := -(wIn (-q))
def tpS (n : Nat) (f : Nat → Int64) (x : Nat) (c : Int64) : Int64 := if gtF n f x true ≤ c then c else gtF n f x true
def tpF (n : Nat) (f : Nat → Int64) : Int64 := fl (tpS n f) n 0
def btE (z : Int32) (x : Nat) : Bool := decide (z >>> (nI x &&& 31) &&& 1 = 0)
def inP (fr to : Nat → Nat) (th : Nat → Bool) (z : Int32) (x j : Nat) : Bool := !(th j && (decide (to j = x) && btE z (fr j)))
def isN (m : Nat) (fr to : Nat → Nat) (th : Nat → Bool) (z : Int32) (x : Nat) : Bool := aaF (btE z x) (inP fr to th z x) m
def odN (n m : Nat) (fr to : Nat → Nat) (th : Nat → Bool) (z : Int32) : Option Nat := fst (isN m fr to th z) n
def odZ (z : Int32) (x : Nat) : Int32 := z + (1 : Int32) <<< (nI x &&& 31)
def odG (n m : Nat) (fr to : Nat → Nat) (th : Nat → Bool) : Nat → Int32 → Prop
  | 0, _ => True
  | f + 1, z => ∃ x, odN n m fr to th z = some x ∧ odG n m fr to th f (odZ z x)
def odR (n m : Nat) (fr to : Nat → Nat) (th : Nat → Bool) (q : Int32) : Nat → Nat → Int32 → Int32 → Prop
  | 0, _, _, r => r = -1
  | f + 1, k, z, r => ∃ x, odN n m fr to th z = some x ∧ ((nI k = q ∧ r = nI x) ∨ (¬ nI k = q ∧ odR n m fr to th q f (k + 1) (odZ z x) r))
def crP (n : Nat) (fr to : Nat → Nat) (w : Nat → Int32) (th : Nat → Bool) (mo : Nat → Int64) (z : Int32) (q : Int64) (j : Nat) : Bool := th j && ((decide (z = -1) || decide (nI (fr j) = z)) && decide (1000 * (w j).toInt64 - 1 + gtF n mo (to j) false = q))
def crG (n m : Nat) (fr to : Nat → Nat) (w : Nat → Int32) (th : Nat → Bool) (mo : Nat → Int64) : Nat → Int32 → Int64 → Prop
  | 0, _, _ => False
  | f + 1, z, q => q = 0 ∨ ∃ j, fst (crP n fr to w th mo z q) m = some j ∧ crG n m fr to w th mo f (nI (to j)) (q - (1000 * (w j).toInt64 - 1))
def crR (n m : Nat) (fr to : Nat → Nat) (w : Nat → Int32) (th : Nat → Bool) (mo : Nat → Int64) (x : Int32) : Nat → Int32 → Int64 → Nat → Int32 → Prop
  | 0, _, _, _, _ => False
  | f + 1, z, q, k, r => (q = 0 ∧ r = -1) ∨ (¬ q = 0 ∧ ∃ j, fst (crP n fr to w th mo z q) m = some j ∧ ((nI k = x ∧ r = nI j) ∨ (¬ nI k = x ∧ crR n m fr to w th mo x f (nI (to j)) (q - (1000 * (w j).toInt64 - 1)) (k + 1) r)))
