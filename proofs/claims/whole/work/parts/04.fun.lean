/-! PURE: what the class's methods work out, in words of the state -/
def oI : Option Nat → Int32
  | none => -1
  | some j => nI j
theorem oI_cases {r : Int32} {o : Option Nat} (h : r = oI o) : (o = none ∧ r = -1) ∨ ∃ j, o = some j ∧ r = nI j := by
  cases o with
  | none => exact Or.inl ⟨rfl, h⟩
  | some j => exact Or.inr ⟨j, rfl, h⟩
/-- the first j below m with P -/
def fst (P : Nat → Bool) : Nat → Option Nat
  | 0 => none
  | m + 1 => match fst P m with
    | some j => some j
    | none => if P m = true then some m else none
theorem fst_no {P : Nat → Bool} : ∀ {m : Nat}, (∀ j, j < m → P j = false) → fst P m = none
  | 0, _ => rfl
  | m + 1, h => by
    show (match fst P m with | some j => some j | none => if P m = true then some m else none) = none
    rw [fst_no (fun j hj => h j (by omega))]
    simp [h m (by omega)]
theorem fst_yes {P : Nat → Bool} {i : Nat} (h : ∀ j, j < i → P j = false) (hP : P i = true) : ∀ {m : Nat}, i < m → fst P m = some i
  | 0, hi => absurd hi (by omega)
  | m + 1, hi => by
    show (match fst P m with | some j => some j | none => if P m = true then some m else none) = some i
    by_cases e : i < m
    · rw [fst_yes h hP e]
    · have e2 : i = m := by omega
      subst e2
      rw [fst_no h]
      simp [hP]
theorem fst_ninv {P : Nat → Bool} {m : Nat} (h : fst P m = none) : ∀ j, j < m → P j = false := by
  intro j hj
  cases hq : P j with
  | false => rfl
  | true =>
    exfalso
    have key : ∀ (m : Nat), j < m → fst P m ≠ none := by
      intro m
      induction m with
      | zero => intro h; omega
      | succ m ih =>
        intro hm h
        have h2 : (match fst P m with | some j => some j | none => if P m = true then some m else none) = none := h
        cases e : fst P m with
        | some q => rw [e] at h2; cases h2
        | none =>
          rw [e] at h2
          by_cases hj2 : j < m
          · exact ih hj2 e
          · have : j = m := by omega
            subst this
            simp [hq] at h2
    exact key m hj h
theorem fst_inv {P : Nat → Bool} : ∀ {m i : Nat}, fst P m = some i → i < m ∧ P i = true ∧ ∀ j, j < i → P j = false
  | 0, i, h => by cases h
  | m + 1, i, h => by
    have h2 : (match fst P m with | some j => some j | none => if P m = true then some m else none) = some i := h
    cases e : fst P m with
    | some j =>
      rw [e] at h2
      cases h2
      obtain ⟨a, b, c⟩ := fst_inv e
      exact ⟨by omega, b, c⟩
    | none =>
      rw [e] at h2
      by_cases hp : P m = true
      · have h3 : some m = some i := by simpa [hp] using h2
        cases h3
        refine ⟨by omega, hp, fun j hj => ?_⟩
        cases hq : P j with
        | false => rfl
        | true =>
          exfalso
          have := fst_ninv e j hj
          rw [hq] at this
          cases this
      · simp [hp] at h2
theorem ix_neg {x : Int32} {n : Nat} (hn : n ≤ 40) (h : x < 0) : ¬ isIx x n := by
  rintro ⟨u, h1, rfl⟩
  exact nI_pos (by omega) h
theorem ix_ge {x : Int32} {n : Nat} (hn : n ≤ 40) (h : nI n ≤ x) : ¬ isIx x n := by
  rintro ⟨u, h1, rfl⟩
  exact nI_ge h1 (by omega) h
theorem ix_in {x : Int32} {n : Nat} (hn : n ≤ 40) (h0 : ¬ x < 0) (h : ¬ nI n ≤ x) : isIx x n := by
  obtain ⟨j, h1, rfl⟩ := nI_of h0
  refine ⟨j, ?_, rfl⟩
  have := mt (nI_leI (a := n) (b := j) (by omega) h1).mpr h
  omega
/-- is x the name of a natural below n (n small) -/
def ixB (x : Int32) (n : Nat) : Bool := decide (¬ x < 0) && decide (¬ nI n ≤ x)
theorem ixB_t {x : Int32} {n : Nat} (hn : n ≤ 40) (h : ixB x n = true) : isIx x n := by
  simp only [ixB, Bool.and_eq_true, decide_eq_true_eq] at h
  exact ix_in hn h.1 h.2
theorem ixB_f {x : Int32} {n : Nat} (hn : n ≤ 40) (h : ixB x n = false) : ¬ isIx x n := by
  intro q
  by_cases h0 : x < 0
  · exact ix_neg hn h0 q
  · by_cases h1 : nI n ≤ x
    · exact ix_ge hn h1 q
    · simp [ixB, h0, h1] at h
theorem ixB_n {u n : Nat} (hn : n ≤ 40) (h : u < n) : ixB (nI u) n = true := by
  cases e : ixB (nI u) n with
  | true => rfl
  | false => exact absurd ⟨u, h, rfl⟩ (ixB_f hn e)
def ctS (th : Nat → Bool) (j c : Nat) : Nat := if th j = true then c + 1 else c
theorem ct_le (th : Nat → Bool) : ∀ j, fl (ctS th) j 0 ≤ j
  | 0 => Nat.le_refl _
  | j + 1 => by
    have h := ct_le th j
    show ctS th j (fl (ctS th) j 0) ≤ j + 1
    generalize fl (ctS th) j 0 = z at h ⊢
    unfold ctS
    split <;> omega
def ffS1 (u v : Nat) (f : Nat → Int32) : Nat → Int32 := va_up f (u * 12 + v) (if u = v then 0 else 1000000000)
def ffS (n u : Nat) (f : Nat → Int32) : Nat → Int32 := fl (ffS1 u) n f
def cFirst (n : Nat) (f : Nat → Int32) : Nat → Int32 := fl (ffS n) n f
def leS (t h : Nat) (wt : Int32) (bf : Nat → Int32) (u : Nat) (nw : Nat → Int32) : Nat → Int32 :=
  if bf (u * 12 + t) = 1000000000 then nw else if nw (u * 12 + h) ≤ bf (u * 12 + t) + wt then nw else va_up nw (u * 12 + h) (bf (u * 12 + t) + wt)
def cLen (n t h : Nat) (wt : Int32) (bf nw : Nat → Int32) : Nat → Int32 := fl (leS t h wt bf) n nw
def fiS (n : Nat) (fr to : Nat → Nat) (w : Nat → Int32) (th : Nat → Bool) (bf : Nat → Int32) (j : Nat) (nw : Nat → Int32) : Nat → Int32 := if th j = true then cLen n (fr j) (to j) (w j) bf nw else nw
def cFill (n m : Nat) (fr to : Nat → Nat) (w : Nat → Int32) (th : Nat → Bool) (bf nw : Nat → Int32) : Nat → Int32 := fl (fiS n fr to w th bf) m (va_cpy bf nw 0 0 144)
/-- layers la + 1 .. la + j worked out -/
def wkS (n m : Nat) (fr to : Nat → Nat) (w : Nat → Int32) (th : Nat → Bool) (la j : Nat) (L : Nat → Nat → Int32) : Nat → Nat → Int32 := va_up L (la + 1 + j) (cFill n m fr to w th (L (la + j)) (L (la + 1 + j)))
def wk0L (n : Nat) (ch sw : Int32) (L : Nat → Nat → Int32) : Nat → Nat → Int32 := if sw = ch then L else va_up L 0 (cFirst n (L 0))
def wk0a (ch sw : Int32) (la : Nat) : Nat := if sw = ch then la else 0
def wkL (n m : Nat) (ch : Int32) (fr to : Nat → Nat) (w : Nat → Int32) (th : Nat → Bool) (L : Nat → Nat → Int32) (la : Nat) (sw : Int32) (x : Nat) : Nat → Nat → Int32 := fl (wkS n m fr to w th (wk0a ch sw la)) (x - wk0a ch sw la) (wk0L n ch sw L)
def wka (ch : Int32) (la : Nat) (sw : Int32) (x : Nat) : Nat := wk0a ch sw la + (x - wk0a ch sw la)
def falls (L : Nat → Nat → Int32) (u : Nat) : Bool := decide (¬ 0 ≤ L 12 (u * 12 + u))
def isWk (L : Nat → Nat → Int32) (u v : Nat) : Bool := decide (¬ L 12 (u * 12 + v) = 1000000000)
def someF (n : Nat) (L : Nat → Nat → Int32) : Bool := (fst (falls L) n).isSome
def botP (L : Nat → Nat → Int32) (u v x : Nat) : Bool := falls L x && (isWk L u x && isWk L x v)
def bot (n : Nat) (L : Nat → Nat → Int32) (u v : Nat) : Bool := (fst (botP L u v) n).isSome
def leastF (n : Nat) (L : Nat → Nat → Int32) (u v : Nat) : Int32 := if bot n L u v = true then -1000000000 else L 12 (u * 12 + v)
def fewP (L : Nat → Nat → Int32) (u v : Nat) (q : Int32) (i : Nat) : Bool := decide (L i (u * 12 + v) ≤ q)
def fewA (L : Nat → Nat → Int32) (u v : Nat) (q : Int32) : Nat := (fst (fewP L u v q) 12).getD 12
def canE (to : Nat → Nat) (w : Nat → Int32) (th : Nat → Bool) (L : Nat → Nat → Int32) (j v b : Nat) (q : Int32) : Bool := th j && (decide (¬ L b (to j * 12 + v) = 1000000000) && decide (¬ q < w j + L b (to j * 12 + v)))
def faP (fr to : Nat → Nat) (w : Nat → Int32) (th : Nat → Bool) (L : Nat → Nat → Int32) (u v b : Nat) (q : Int32) (j : Nat) : Bool := decide (fr j = u) && canE to w th L j v b q
def rowF (m : Nat) (fr to : Nat → Nat) (w : Nat → Int32) (th : Nat → Bool) (L : Nat → Nat → Int32) (v : Nat) : Nat → Nat → Nat → Int32 → Option Nat
  | 0, u, b, q => fst (faP fr to w th L u v (b - 1) q) m
  | i + 1, u, b, q => match fst (faP fr to w th L u v (b - 1) q) m with
    | none => none
    | some j => rowF m fr to w th L v i (to j) (b - 1) (q - w j)
def rowX (m : Nat) (fr to : Nat → Nat) (w : Nat → Int32) (th : Nat → Bool) (L : Nat → Nat → Int32) (u v b : Nat) (q x : Int32) : Option Nat := if x < 0 then none else if x < nI b then rowF m fr to w th L v x.toNatClampNeg u b q else none
def wayX (n m : Nat) (fr to : Nat → Nat) (w : Nat → Int32) (th : Nat → Bool) (L : Nat → Nat → Int32) (u v : Nat) (x : Int32) : Option Nat :=
  if leastF n L u v = 1000000000 then none else if leastF n L u v = -1000000000 then none else rowX m fr to w th L u v (fewA L u v (leastF n L u v)) (leastF n L u v) x
def resP (L : Nat → Nat → Int32) (b u v : Nat) : Bool := decide (¬ L b (u * 12 + v) = L (b + 1) (u * 12 + v))
def rests (n : Nat) (L : Nat → Nat → Int32) (u b : Nat) : Bool := (fst (resP L b u) n).isNone
def rndO (n : Nat) (L : Nat → Nat → Int32) (u : Nat) : Option Nat := fst (rests n L u) 12
def negP (L : Nat → Nat → Int32) (i u : Nat) : Bool := decide (¬ 0 ≤ L i (u * 12 + u))
def negK (n : Nat) (L : Nat → Nat → Int32) (i : Nat) : Bool := (fst (negP L (i + 1)) n).isSome
def shLo (n : Nat) (L : Nat → Nat → Int32) : Option Nat := fst (negK n L) 12
def shL (n : Nat) (L : Nat → Nat → Int32) : Nat := match shLo n L with
  | none => 0
  | some i => i + 1
def fsP (fr to : Nat → Nat) (w : Nat → Int32) (th : Nat → Bool) (L : Nat → Nat → Int32) (b j : Nat) : Bool := canE to w th L j (fr j) (b - 1) (-1)
def fsO (m : Nat) (fr to : Nat → Nat) (w : Nat → Int32) (th : Nat → Bool) (L : Nat → Nat → Int32) (b : Nat) : Option Nat := fst (fsP fr to w th L b) m
def shX (n m : Nat) (fr to : Nat → Nat) (w : Nat → Int32) (th : Nat → Bool) (L : Nat → Nat → Int32) (x : Int32) : Option Nat :=
  if x < 0 then none else if x < nI (shL n L) then (if x = 0 then fsO m fr to w th L (shL n L) else match fsO m fr to w th L (shL n L) with
    | none => none
    | some j => rowX m fr to w th L (to j) (fr j) (shL n L - 1) (-1 - w j) (x - 1)) else none
def loS (L : Nat → Nat → Int32) (v u : Nat) (x : Int32) : Int32 := if L 12 (u * 12 + v) < x then L 12 (u * 12 + v) else x
def lowF (n : Nat) (L : Nat → Nat → Int32) (v : Nat) : Int32 := fl (loS L v) n 0
theorem up_up {α : Type} (f : Nat → α) (k : Nat) (v w : α) : va_up (va_up f k v) k w = va_up f k w := by
  funext j
  by_cases h : j = k <;> simp [va_up, h]
theorem up_me {α : Type} (f : Nat → α) (k : Nat) : va_up f k (f k) = f := by
  funext j
  by_cases h : j = k <;> simp [va_up, h]
theorem nI_m1 {j : Nat} (h : j < 2 ^ 31) : ¬ nI j = -1 := fun q => nI_pos h (by rw [q]; decide)
theorem fewA_le (L : Nat → Nat → Int32) (u v : Nat) (q : Int32) : fewA L u v q ≤ 12 := by
  unfold fewA
  cases e : fst (fewP L u v q) 12 with
  | none => exact Nat.le_refl _
  | some i => exact Nat.le_of_lt (fst_inv e).1
theorem shL_le (n : Nat) (L : Nat → Nat → Int32) : shL n L ≤ 12 := by
  unfold shL
  cases e : shLo n L with
  | none => exact Nat.zero_le _
  | some i => exact (fst_inv e).1
theorem rowF_none {m : Nat} {fr to : Nat → Nat} {w : Nat → Int32} {th : Nat → Bool} {L : Nat → Nat → Int32} {v u b : Nat} {q : Int32} (h : fst (faP fr to w th L u v (b - 1) q) m = none) (i : Nat) : rowF m fr to w th L v i u b q = none := by
  cases i with
  | zero => exact h
  | succ i => simp [rowF, h]
theorem rowF_0 {m : Nat} {fr to : Nat → Nat} {w : Nat → Int32} {th : Nat → Bool} {L : Nat → Nat → Int32} {v u b : Nat} {q : Int32} : rowF m fr to w th L v 0 u b q = fst (faP fr to w th L u v (b - 1) q) m := rfl
theorem rowF_s {m : Nat} {fr to : Nat → Nat} {w : Nat → Int32} {th : Nat → Bool} {L : Nat → Nat → Int32} {v u b j : Nat} {q : Int32} (h : fst (faP fr to w th L u v (b - 1) q) m = some j) (i : Nat) : rowF m fr to w th L v (i + 1) u b q = rowF m fr to w th L v i (to j) (b - 1) (q - w j) := by
  simp [rowF, h]
theorem rowX_in {m : Nat} {fr to : Nat → Nat} {w : Nat → Int32} {th : Nat → Bool} {L : Nat → Nat → Int32} {u v b y : Nat} {q : Int32} (hy : y < 2 ^ 31) (h : nI y < nI b) : rowX m fr to w th L u v b q (nI y) = rowF m fr to w th L v y u b q := by
  rw [rowX, if_neg (nI_pos hy), if_pos h, nI_clamp hy]
theorem wkL_t {n m : Nat} {ch : Int32} {fr to : Nat → Nat} {w : Nat → Int32} {th : Nat → Bool} {L : Nat → Nat → Int32} {la : Nat} {sw : Int32} {x : Nat} (h : sw = ch) : wkL n m ch fr to w th L la sw x = fl (wkS n m fr to w th la) (x - la) L := by
  simp [wkL, wk0a, wk0L, h]
theorem wkL_f {n m : Nat} {ch : Int32} {fr to : Nat → Nat} {w : Nat → Int32} {th : Nat → Bool} {L : Nat → Nat → Int32} {la : Nat} {sw : Int32} {x : Nat} (h : ¬ sw = ch) : wkL n m ch fr to w th L la sw x = fl (wkS n m fr to w th 0) (x - 0) (va_up L 0 (cFirst n (L 0))) := by
  simp [wkL, wk0a, wk0L, h]
theorem wka_t {ch : Int32} {la : Nat} {sw : Int32} {x : Nat} (h : sw = ch) : wka ch la sw x = la + (x - la) := by
  simp [wka, wk0a, h]
theorem wka_f {ch : Int32} {la : Nat} {sw : Int32} {x : Nat} (h : ¬ sw = ch) : wka ch la sw x = 0 + (x - 0) := by
  simp [wka, wk0a, h]
