/-! PURE: the public face -/
theorem rO_ok {n m : Nat} {ch : Int32} {fr to : Nat → Nat} {th : Nat → Bool} {od : Nat → Nat} {io : Nat → Bool} {oc : Nat} {sr : Int32} (hn : n ≤ 12) (ho : oc ≤ 12 ∧ ∀ j, j < oc → od j < 12) : rOc n m ch fr to th od io oc sr ≤ 12 ∧ ∀ j, j < rOc n m ch fr to th od io oc sr → rOd n m ch fr to th od io sr j < 12 := by
  unfold rOc rOd
  by_cases h : sr = ch
  · rw [if_pos h, if_pos h]; exact ho
  · rw [if_neg h, if_neg h]
    have h2 := ordR_le (n := n) (m := m) (fr := fr) (to := to) (th := th) (od := od) (io := io)
    exact ⟨Nat.le_trans h2.1 hn, fun j hj => Nat.lt_of_lt_of_le (h2.2 j hj) hn⟩
theorem and_t {x y : Bool} (h : (x && y) = true) : x = true ∧ y = true := by simpa using h
def arB (n m : Nat) (x y z : Int32) : Bool := (ixB x n && ixB y n) && (!(ouB z (-1000) 1000) && decide (m < 40))
def arA (n m : Nat) (x y z : Int32) : Int32 := if (ixB x n && ixB y n) = true then (if ouB z (-1000) 1000 = true then -1000000002 else if m < 40 then nI m else -1000000004) else -1000000001
def weB (m : Nat) (x z : Int32) : Bool := ixB x m && !(ouB z (-1000) 1000)
def weA (m : Nat) (w : Nat → Int32) (x z : Int32) : Int32 := if ixB x m = true then (if ouB z (-1000) 1000 = true then -1000000002 else w x.toNatClampNeg) else -1000000001
def toA (n m : Nat) (th : Nat → Bool) (x : Int32) : Int32 := if x = 0 then nI n else if x = 1 then nI m else if x = 2 then nI (fl (ctS th) m 0) else -1000000002
theorem tw3 {x : Int32} (h0 : ¬ x = 0) (h1 : ¬ x = 1) (h2 : ¬ x = 2) : x.toInt < 0 ∨ 2 < x.toInt := by
  have e0 : ¬ x.toInt = 0 := fun q => h0 (Int32.toInt_inj.mp (by rw [q]; decide))
  have e1 : ¬ x.toInt = 1 := fun q => h1 (Int32.toInt_inj.mp (by rw [q]; decide))
  have e2 : ¬ x.toInt = 2 := fun q => h2 (Int32.toInt_inj.mp (by rw [q]; decide))
  omega
def wiB (n : Nat) (x y z : Int32) : Bool := (ixB x n && ixB y n) && !(ouB z 0 20)
def wiA (n : Nat) (L : Nat → Nat → Int32) (x y z : Int32) : Int32 := if (ixB x n && ixB y n) = true then (if ouB z 0 20 = true then -1000000002 else L z.toNatClampNeg (x.toNatClampNeg * 12 + y.toNatClampNeg)) else -1000000001
theorem ouB_in {z : Int32} (h : ouB z 0 20 = false) : ∃ j, j ≤ 20 ∧ z = nI j := by
  simp only [ouB, Bool.or_eq_false_iff, decide_eq_false_iff_not, Classical.not_not] at h
  exact nI_of2 (M := 20) (n := 20) (by decide) h.1 h.2
def heA (n : Nat) (L : Nat → Nat → Int32) (u : Nat) : Int32 := if someF n L = true then -1000000003 else lowF n L u
def liB (m : Nat) (th : Nat → Bool) (x : Int32) : Bool := ixB x m && th x.toNatClampNeg
def liA (n m : Nat) (fr to : Nat → Nat) (w : Nat → Int32) (th : Nat → Bool) (L : Nat → Nat → Int32) (x : Int32) : Int32 :=
  if ixB x m = true then (if th x.toNatClampNeg = true then (if someF n L = true then -1000000003 else w x.toNatClampNeg + lowF n L (fr x.toNatClampNeg) - lowF n L (to x.toNatClampNeg)) else -1000000003) else -1000000001
def spA (n m : Nat) (fr to : Nat → Nat) (w : Nat → Int32) (th : Nat → Bool) (L : Nat → Nat → Int32) (x : Int32) : Int32 :=
  if ixB x m = true then (if th x.toNatClampNeg = true then (if someF n L = true then -1000000003 else if L 12 (to x.toNatClampNeg * 12 + fr x.toNatClampNeg) = 1000000000 then 1000000000 else w x.toNatClampNeg + L 12 (to x.toNatClampNeg * 12 + fr x.toNatClampNeg)) else -1000000003) else -1000000001
def stA (n oc : Nat) (x : Int32) : Int32 := if oc < n then -1000000003 else x
