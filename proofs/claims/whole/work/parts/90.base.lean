/-! MATHEMATICS of walks: exact ones by their number of arcs; cutting rings out -/
section MB
variable {n m : Nat} {fr to : Nat → Nat} {w : Nat → Int32} {th : Nat → Bool}
/-- a walk of exactly k arcs from u to v that weighs z -/
def Ex (m : Nat) (fr to : Nat → Nat) (w : Nat → Int32) (th : Nat → Bool) : Nat → Nat → Nat → Int → Prop
  | 0, u, v, z => u = v ∧ z = 0
  | k + 1, u, v, z => ∃ j, j < m ∧ th j = true ∧ to j = v ∧ Ex m fr to w th k u (fr j) (z - (w j).toInt)
/-- of at most k arcs -/
def Wk (m : Nat) (fr to : Nat → Nat) (w : Nat → Int32) (th : Nat → Bool) (k u v : Nat) (z : Int) : Prop := ∃ i, i ≤ k ∧ Ex m fr to w th i u v z
def rch (m : Nat) (fr to : Nat → Nat) (w : Nat → Int32) (th : Nat → Bool) (u v : Nat) : Prop := ∃ k z, Ex m fr to w th k u v z
def wOK (m : Nat) (w : Nat → Int32) : Prop := ∀ j, j < m → -1000 ≤ (w j).toInt ∧ (w j).toInt ≤ 1000
theorem Ex_app {a u x : Nat} {z1 : Int} (h1 : Ex m fr to w th a u x z1) : ∀ (b v : Nat) (z2 : Int), Ex m fr to w th b x v z2 → Ex m fr to w th (a + b) u v (z1 + z2)
  | 0, v, z2, h => by
    obtain ⟨rfl, rfl⟩ := h
    rw [Int.add_zero]
    exact h1
  | b + 1, v, z2, h => by
    obtain ⟨j, hj, ht, rfl, h⟩ := h
    refine ⟨j, hj, ht, rfl, ?_⟩
    rw [show z1 + z2 - (w j).toInt = z1 + (z2 - (w j).toInt) by omega]
    exact Ex_app h1 b _ _ h
theorem Ex_split {a u : Nat} : ∀ (b v : Nat) (z : Int), Ex m fr to w th (a + b) u v z → ∃ x z1 z2, Ex m fr to w th a u x z1 ∧ Ex m fr to w th b x v z2 ∧ z = z1 + z2
  | 0, v, z, h => ⟨v, z, 0, h, ⟨rfl, rfl⟩, by omega⟩
  | b + 1, v, z, h => by
    obtain ⟨j, hj, ht, rfl, h⟩ := h
    obtain ⟨x, z1, z2, h1, h2, h3⟩ := Ex_split b _ _ h
    exact ⟨x, z1, z2 + (w j).toInt, h1, ⟨j, hj, ht, rfl, by rw [Int.add_sub_cancel]; exact h2⟩, by omega⟩
theorem Ex_arc {j : Nat} (hj : j < m) (ht : th j = true) : Ex m fr to w th 1 (fr j) (to j) (w j).toInt := ⟨j, hj, ht, rfl, rfl, by omega⟩
theorem Ex_first {k u v : Nat} {z : Int} (h : Ex m fr to w th (k + 1) u v z) : ∃ j, j < m ∧ th j = true ∧ fr j = u ∧ Ex m fr to w th k (to j) v (z - (w j).toInt) := by
  rw [Nat.add_comm] at h
  obtain ⟨x, z1, z2, ⟨j, hj, ht, rfl, h1, h1b⟩, h2, h3⟩ := Ex_split k v z h
  refine ⟨j, hj, ht, h1.symm, ?_⟩
  rw [show z - (w j).toInt = z2 by omega]
  exact h2
theorem Ex_cons {k v j : Nat} {z : Int} (hj : j < m) (ht : th j = true) (h : Ex m fr to w th k (to j) v z) : Ex m fr to w th (k + 1) (fr j) v ((w j).toInt + z) := by
  have := Ex_app (Ex_arc (fr := fr) (to := to) (w := w) hj ht) k v z h
  rw [Nat.add_comm] at this
  exact this
theorem Ex_end (hg : gOK n m fr to) : ∀ {k u v : Nat} {z : Int}, u < n → Ex m fr to w th k u v z → v < n
  | 0, u, v, z, hu, h => by obtain ⟨rfl, -⟩ := h; exact hu
  | k + 1, u, v, z, hu, h => by obtain ⟨j, hj, -, rfl, -⟩ := h; exact (hg.2.2 j hj).2
theorem Ex_bnd (hw : wOK m w) : ∀ {k u v : Nat} {z : Int}, Ex m fr to w th k u v z → -(1000 * (k : Int)) ≤ z ∧ z ≤ 1000 * (k : Int)
  | 0, u, v, z, h => by obtain ⟨-, rfl⟩ := h; omega
  | k + 1, u, v, z, h => by
    obtain ⟨j, hj, -, -, h⟩ := h
    have h1 := Ex_bnd hw h
    have h2 := hw j hj
    omega
theorem rch_app {u x v : Nat} (h1 : rch m fr to w th u x) (h2 : rch m fr to w th x v) : rch m fr to w th u v := by
  obtain ⟨a, z1, h1⟩ := h1
  obtain ⟨b, z2, h2⟩ := h2
  exact ⟨a + b, z1 + z2, Ex_app h1 b v z2 h2⟩
theorem rch_me (u : Nat) : rch m fr to w th u u := ⟨0, 0, rfl, rfl⟩
theorem rch_arc {j : Nat} (hj : j < m) (ht : th j = true) : rch m fr to w th (fr j) (to j) := ⟨1, _, Ex_arc hj ht⟩
theorem php : ∀ (n : Nat) (p : Nat → Nat), (∀ i, i ≤ n → p i < n) → ∃ i j, i < j ∧ j ≤ n ∧ p i = p j
  | 0, p, h => absurd (h 0 (Nat.le_refl 0)) (Nat.not_lt_zero _)
  | n + 1, p, h => by
    by_cases hc : ∃ i, i ≤ n ∧ p i = p (n + 1)
    · obtain ⟨i, hi, e⟩ := hc
      exact ⟨i, n + 1, by omega, Nat.le_refl _, e⟩
    · have hne : ∀ i, i ≤ n → p i ≠ p (n + 1) := fun i hi e => hc ⟨i, hi, e⟩
      have hv := h (n + 1) (Nat.le_refl _)
      obtain ⟨i, j, h1, h2, h3⟩ := php n (fun i => if p i < p (n + 1) then p i else p i - 1) (fun i hi => by
        have := h i (by omega)
        have := hne i hi
        show (if p i < p (n + 1) then p i else p i - 1) < n
        split <;> omega)
      refine ⟨i, j, h1, by omega, ?_⟩
      have e1 := hne i (by omega)
      have e2 := hne j h2
      have h3 : (if p i < p (n + 1) then p i else p i - 1) = (if p j < p (n + 1) then p j else p j - 1) := h3
      split at h3 <;> split at h3 <;> omega
theorem Ex_seq : ∀ {K u v : Nat} {z : Int}, Ex m fr to w th K u v z → ∃ (p : Nat → Nat) (q : Nat → Int), p 0 = u ∧ p K = v ∧ q 0 = 0 ∧ q K = z ∧ ∀ i, i < K → ∃ j, j < m ∧ th j = true ∧ fr j = p i ∧ to j = p (i + 1) ∧ q (i + 1) = q i + (w j).toInt
  | 0, u, v, z, h => by
    obtain ⟨rfl, rfl⟩ := h
    exact ⟨fun _ => u, fun _ => 0, rfl, rfl, rfl, rfl, fun i hi => absurd hi (Nat.not_lt_zero i)⟩
  | K + 1, u, v, z, h => by
    obtain ⟨j, hj, ht, rfl, h⟩ := h
    obtain ⟨p, q, h1, h2, h3, h4, h5⟩ := Ex_seq h
    refine ⟨fun i => if i = K + 1 then to j else p i, fun i => if i = K + 1 then z else q i, ?_, ?_, ?_, ?_, ?_⟩
    · show (if 0 = K + 1 then to j else p 0) = u
      rw [if_neg (by omega)]; exact h1
    · show (if K + 1 = K + 1 then to j else p (K + 1)) = to j
      rw [if_pos rfl]
    · show (if 0 = K + 1 then z else q 0) = 0
      rw [if_neg (by omega)]; exact h3
    · show (if K + 1 = K + 1 then z else q (K + 1)) = z
      rw [if_pos rfl]
    · intro i hi
      by_cases e : i = K
      · subst e
        refine ⟨j, hj, ht, ?_, ?_, ?_⟩
        · show fr j = (if i = i + 1 then to j else p i)
          rw [if_neg (by omega), h2]
        · show to j = (if i + 1 = i + 1 then to j else p (i + 1))
          rw [if_pos rfl]
        · show (if i + 1 = i + 1 then z else q (i + 1)) = (if i = i + 1 then z else q i) + (w j).toInt
          rw [if_pos rfl, if_neg (by omega), h4]; omega
      · obtain ⟨j2, a1, a2, a3, a4, a5⟩ := h5 i (by omega)
        refine ⟨j2, a1, a2, ?_, ?_, ?_⟩
        · show fr j2 = (if i = K + 1 then to j else p i)
          rw [if_neg (by omega)]; exact a3
        · show to j2 = (if i + 1 = K + 1 then to j else p (i + 1))
          rw [if_neg (by omega)]; exact a4
        · show (if i + 1 = K + 1 then z else q (i + 1)) = (if i = K + 1 then z else q i) + (w j2).toInt
          rw [if_neg (by omega), if_neg (by omega)]; exact a5
theorem seq_Ex {K : Nat} {p : Nat → Nat} {q : Nat → Int} (h : ∀ i, i < K → ∃ j, j < m ∧ th j = true ∧ fr j = p i ∧ to j = p (i + 1) ∧ q (i + 1) = q i + (w j).toInt) (i : Nat) : ∀ (d : Nat), i + d ≤ K → Ex m fr to w th d (p i) (p (i + d)) (q (i + d) - q i)
  | 0, _ => ⟨rfl, by rw [Nat.add_zero]; omega⟩
  | d + 1, hd => by
    obtain ⟨j, a1, a2, a3, a4, a5⟩ := h (i + d) (by omega)
    refine ⟨j, a1, a2, a4, ?_⟩
    have e : i + (d + 1) = i + d + 1 := rfl
    rw [e, a5, a3, show q (i + d) + (w j).toInt - q i - (w j).toInt = q (i + d) - q i by omega]
    exact seq_Ex h i d (by omega)
/-- a walk of n arcs or more holds a ring of n arcs at most -/
theorem cut (hg : gOK n m fr to) {K u v : Nat} {z : Int} (hu : u < n) (hK : n ≤ K) (h : Ex m fr to w th K u v z) : ∃ a c b x z1 z2 z3, a + c + b = K ∧ 1 ≤ c ∧ c ≤ n ∧ x < n ∧ Ex m fr to w th a u x z1 ∧ Ex m fr to w th c x x z2 ∧ Ex m fr to w th b x v z3 ∧ z = z1 + z2 + z3 := by
  obtain ⟨p, q, h1, h2, h3, h4, h5⟩ := Ex_seq h
  have hp : ∀ i, i ≤ n → p i < n := by
    intro i hi
    have := seq_Ex h5 0 i (by omega)
    rw [Nat.zero_add, h1] at this
    exact Ex_end hg hu this
  obtain ⟨i, j, hij, hj, e⟩ := php n p hp
  have e1 := seq_Ex h5 0 i (by omega)
  have e2 := seq_Ex h5 i (j - i) (by omega)
  have e3 := seq_Ex h5 j (K - j) (by omega)
  rw [Nat.zero_add, h1, h3] at e1
  rw [show i + (j - i) = j by omega, ← e] at e2
  rw [show j + (K - j) = K by omega, h2, h4, ← e] at e3
  exact ⟨i, j - i, K - j, p i, _, _, _, by omega, by omega, by omega, hp i (by omega), e1, e2, e3, by omega⟩
theorem short_reach (hg : gOK n m fr to) {u v : Nat} (hu : u < n) : ∀ (K : Nat) (z : Int), Ex m fr to w th K u v z → ∃ k z', k < n ∧ Ex m fr to w th k u v z' := by
  intro K
  induction K using Nat.strongRecOn with
  | ind K ih =>
    intro z h
    by_cases hK : K < n
    · exact ⟨K, z, hK, h⟩
    · obtain ⟨a, c, b, x, z1, z2, z3, e, hc, -, -, e1, e2, e3, -⟩ := cut hg hu (by omega) h
      exact ih (a + b) (by omega) _ (Ex_app e1 b v z3 e3)
/-- where no ring on the way falls, every walk has one of fewer arcs than nodes that weighs no more -/
theorem short_all (hg : gOK n m fr to) {u v : Nat} (hu : u < n) (hr : ∀ x, x < n → rch m fr to w th u x → rch m fr to w th x v → ∀ c z, Ex m fr to w th c x x z → 0 ≤ z) : ∀ (K : Nat) (z : Int), Ex m fr to w th K u v z → ∃ k z', k < n ∧ k ≤ K ∧ z' ≤ z ∧ Ex m fr to w th k u v z' := by
  intro K
  induction K using Nat.strongRecOn with
  | ind K ih =>
    intro z h
    by_cases hK : K < n
    · exact ⟨K, z, hK, Nat.le_refl _, Int.le_refl _, h⟩
    · obtain ⟨a, c, b, x, z1, z2, z3, e, hc, -, hx, e1, e2, e3, ez⟩ := cut hg hu (by omega) h
      have h0 := hr x hx ⟨a, z1, e1⟩ ⟨b, z3, e3⟩ c z2 e2
      obtain ⟨k, z', h1, h2, h3, h4⟩ := ih (a + b) (by omega) _ (Ex_app e1 b v z3 e3)
      exact ⟨k, z', h1, by omega, by omega, h4⟩
/-- a falling walk back holds a falling ring of n arcs at most -/
theorem short_neg (hg : gOK n m fr to) {x : Nat} (hx : x < n) : ∀ (K : Nat) (z : Int), Ex m fr to w th K x x z → z < 0 → ∃ y c z', y < n ∧ rch m fr to w th x y ∧ rch m fr to w th y x ∧ 1 ≤ c ∧ c ≤ n ∧ z' < 0 ∧ Ex m fr to w th c y y z' := by
  intro K
  induction K using Nat.strongRecOn with
  | ind K ih =>
    intro z h hz
    by_cases hK : K < n
    · by_cases h0 : K = 0
      · subst h0; obtain ⟨-, rfl⟩ := h; omega
      · exact ⟨x, K, z, hx, rch_me x, rch_me x, by omega, by omega, hz, h⟩
    · obtain ⟨a, c, b, y, z1, z2, z3, e, hc, hc2, hy, e1, e2, e3, ez⟩ := cut hg hx (by omega) h
      by_cases h2 : z2 < 0
      · exact ⟨y, c, z2, hy, ⟨a, z1, e1⟩, ⟨b, z3, e3⟩, hc, hc2, h2, e2⟩
      · exact ih (a + b) (by omega) _ (Ex_app e1 b x z3 e3) (by omega)
theorem Ex_rep {x c : Nat} {z : Int} (h : Ex m fr to w th c x x z) : ∀ t : Nat, Ex m fr to w th (t * c) x x ((t : Int) * z)
  | 0 => by rw [Nat.zero_mul]; exact ⟨rfl, by simp⟩
  | t + 1 => by
    have := Ex_app (Ex_rep h t) c x z h
    rw [show (t + 1) * c = t * c + c from Nat.succ_mul t c, show ((t + 1 : Nat) : Int) * z = (t : Int) * z + z by rw [Int.natCast_add, Int.add_mul]; simp]
    exact this
end MB
