theorem wyG_pos {m : Nat} {fr to : Nat → Nat} {w : Nat → Int32} {th : Nat → Bool} {be : Nat → Int64} {v f u : Nat} (h : wyG m fr to w th be v f u) : ∃ g, f = g + 1 := by
  cases f with
  | zero => exact h.elim
  | succ g => exact ⟨g, rfl⟩
theorem wyG_s {m : Nat} {fr to : Nat → Nat} {w : Nat → Int32} {th : Nat → Bool} {be : Nat → Int64} {v f u : Nat} (h : wyG m fr to w th be v (f + 1) u) (hn : ¬ wyE be v u) : ∃ j, fst (wyP fr to w th be v u) m = some j ∧ wyG m fr to w th be v f (to j) := by
  rcases h with q | q
  · exact absurd q hn
  · exact q
theorem crG_pos {n m : Nat} {fr to : Nat → Nat} {w : Nat → Int32} {th : Nat → Bool} {mo : Nat → Int64} {f : Nat} {z : Int32} {q : Int64} (h : crG n m fr to w th mo f z q) : ∃ g, f = g + 1 := by
  cases f with
  | zero => exact h.elim
  | succ g => exact ⟨g, rfl⟩
theorem crG_s {n m : Nat} {fr to : Nat → Nat} {w : Nat → Int32} {th : Nat → Bool} {mo : Nat → Int64} {f : Nat} {z : Int32} {q : Int64} (h : crG n m fr to w th mo (f + 1) z q) (hn : ¬ q = 0) : ∃ j, fst (crP n fr to w th mo z q) m = some j ∧ crG n m fr to w th mo f (nI (to j)) (q - (1000 * (w j).toInt64 - 1)) := by
  rcases h with q | q
  · exact absurd q hn
  · exact q
