/-! MATHEMATICS: the reference's 'best': reach, falling rings, least cost (a thousand weights and the arcs) -/
/-- a loop in a loop: what every step keeps, and what the step at (u, v) makes and the others keep -/
theorem dbl {σ : Type} {n : Nat} {S : Nat → Nat → σ → σ} {Inv : σ → Prop} {Pr : Nat → Nat → σ → Prop} (hI : ∀ u v s, u < n → v < n → Inv s → Inv (S u v s)) (h1 : ∀ u v s, u < n → v < n → Inv s → Pr u v (S u v s)) (h2 : ∀ x y u v s, x < n → y < n → u < n → v < n → Inv s → Pr x y s → Pr x y (S u v s)) (s0 : σ) (h0 : Inv s0) : Inv (fl (fun u => fl (S u) n) n s0) ∧ ∀ u v, u < n → v < n → Pr u v (fl (fun u => fl (S u) n) n s0) := by
  have inner : ∀ (u : Nat), u < n → ∀ (j : Nat), j ≤ n → ∀ s, Inv s → Inv (fl (S u) j s) ∧ (∀ v, v < j → Pr u v (fl (S u) j s)) ∧ ∀ x y, x < n → y < n → Pr x y s → Pr x y (fl (S u) j s) := by
    intro u hu j
    induction j with
    | zero => intro _ s hs; exact ⟨hs, fun v hv => absurd hv (Nat.not_lt_zero v), fun x y _ _ h => h⟩
    | succ j ih =>
      intro hj s hs
      obtain ⟨a1, a2, a3⟩ := ih (by omega) s hs
      rw [fl_s]
      refine ⟨hI u j _ hu (by omega) a1, fun v hv => ?_, fun x y hx hy h => h2 x y u j _ hx hy hu (by omega) a1 (a3 x y hx hy h)⟩
      by_cases e : v = j
      · subst e; exact h1 u v _ hu (by omega) a1
      · exact h2 u v u j _ hu (by omega) hu (by omega) a1 (a2 v (by omega))
  have outer : ∀ (i : Nat), i ≤ n → Inv (fl (fun u => fl (S u) n) i s0) ∧ ∀ u v, u < i → v < n → Pr u v (fl (fun u => fl (S u) n) i s0) := by
    intro i
    induction i with
    | zero => intro _; exact ⟨h0, fun u v hu _ => absurd hu (Nat.not_lt_zero u)⟩
    | succ i ih =>
      intro hi
      obtain ⟨a1, a2⟩ := ih (by omega)
      rw [fl_s]
      obtain ⟨b1, b2, b3⟩ := inner i (by omega) n (Nat.le_refl _) _ a1
      refine ⟨b1, fun u v hu hv => ?_⟩
      by_cases e : u = i
      · subst e; exact b2 v hv
      · exact b3 u v (by omega) hv (a2 u v (by omega) hv)
  exact outer n (Nat.le_refl _)
def FA : Int := 1000000000000
theorem fwV_sp {f : Nat → Int64} {a b c : Nat} (h1 : -1000000000000 ≤ (f a).toInt ∧ (f a).toInt ≤ 1000000000000) (h2 : -1000000000000 ≤ (f b).toInt ∧ (f b).toInt ≤ 1000000000000) (h3 : -1000000000000 ≤ (f c).toInt ∧ (f c).toInt ≤ 1000000000000) :
    -1000000000000 ≤ (fwV f a b c).toInt ∧ (fwV f a b c).toInt ≤ (f c).toInt ∧ ((fwV f a b c).toInt = (f c).toInt ∨ ((f a).toInt < 1000000000000 ∧ (f b).toInt < 1000000000000 ∧ (f a).toInt + (f b).toInt ≤ (fwV f a b c).toInt)) ∧ ((f a).toInt < 1000000000000 → (f b).toInt < 1000000000000 → ((fwV f a b c).toInt ≤ (f a).toInt + (f b).toInt ∨ (fwV f a b c).toInt = -1000000000000)) := by
  have es : (f a + f b).toInt = (f a).toInt + (f b).toInt := ad64 (by omega) (by omega)
  unfold fwV
  by_cases c1 : 1000000000000 ≤ f a
  · rw [if_pos c1]
    rw [leF] at c1
    exact ⟨h3.1, Int.le_refl _, Or.inl rfl, fun q => absurd q (by omega)⟩
  · rw [if_neg c1]
    rw [leF] at c1
    by_cases c2 : 1000000000000 ≤ f b
    · rw [if_pos c2]
      rw [leF] at c2
      exact ⟨h3.1, Int.le_refl _, Or.inl rfl, fun _ q => absurd q (by omega)⟩
    · rw [if_neg c2]
      rw [leF] at c2
      by_cases c3 : f c ≤ f a + f b
      · rw [if_pos c3]
        rw [Int64.le_iff_toInt_le, es] at c3
        exact ⟨h3.1, Int.le_refl _, Or.inl rfl, fun _ _ => Or.inl c3⟩
      · rw [if_neg c3]
        rw [Int64.le_iff_toInt_le, es] at c3
        by_cases c4 : -1000000000000 ≤ f a + f b
        · rw [if_pos c4, es]
          rw [Int64.le_iff_toInt_le, es, nfar64] at c4
          exact ⟨c4, by omega, Or.inr ⟨by omega, by omega, Int.le_refl _⟩, fun _ _ => Or.inl (Int.le_refl _)⟩
        · rw [if_neg c4, nfar64]
          rw [Int64.le_iff_toInt_le, es, nfar64] at c4
          exact ⟨Int.le_refl _, by omega, Or.inr ⟨by omega, by omega, by omega⟩, fun _ _ => Or.inr rfl⟩
def dI (d : Nat → Int64) (u v : Nat) : Int := (d (12 * u + v)).toInt
theorem fwV_dI {f : Nat → Int64} {a x b : Nat} (h1 : -1000000000000 ≤ dI f a x ∧ dI f a x ≤ 1000000000000) (h2 : -1000000000000 ≤ dI f x b ∧ dI f x b ≤ 1000000000000) (h3 : -1000000000000 ≤ dI f a b ∧ dI f a b ≤ 1000000000000) :
    -1000000000000 ≤ (fwV f (12 * a + x) (12 * x + b) (12 * a + b)).toInt ∧ (fwV f (12 * a + x) (12 * x + b) (12 * a + b)).toInt ≤ dI f a b ∧ ((fwV f (12 * a + x) (12 * x + b) (12 * a + b)).toInt = dI f a b ∨ (dI f a x < 1000000000000 ∧ dI f x b < 1000000000000 ∧ dI f a x + dI f x b ≤ (fwV f (12 * a + x) (12 * x + b) (12 * a + b)).toInt)) ∧ (dI f a x < 1000000000000 → dI f x b < 1000000000000 → ((fwV f (12 * a + x) (12 * x + b) (12 * a + b)).toInt ≤ dI f a x + dI f x b ∨ (fwV f (12 * a + x) (12 * x + b) (12 * a + b)).toInt = -1000000000000)) := fwV_sp h1 h2 h3
section MF
variable {n m : Nat} {fr to : Nat → Nat} {w : Nat → Int32} {th : Nat → Bool}
/-- bounds of a matrix, and a walk behind each entry -/
def fwG (n m : Nat) (fr to : Nat → Nat) (w : Nat → Int32) (th : Nat → Bool) (d : Nat → Int64) : Prop := ∀ u v, u < n → v < n → -1000000000000 ≤ dI d u v ∧ dI d u v ≤ 1000000000000 ∧ (dI d u v < 1000000000000 → ∃ k z, Ex m fr to w th k u v z ∧ 1000 * z + (k : Int) ≤ dI d u v)
theorem fwS_at {x u v a b : Nat} {d : Nat → Int64} (hv : v < 12) (hb : b < 12) : dI (fwS x u v d) a b = if a = u ∧ b = v then (fwV d (12 * u + x) (12 * x + v) (12 * u + v)).toInt else dI d a b := by
  unfold fwS dI
  by_cases e : a = u ∧ b = v
  · obtain ⟨rfl, rfl⟩ := e
    rw [if_pos ⟨rfl, rfl⟩, va_up_self]
  · rw [if_neg e, va_up_ne _ _ (by omega)]
theorem fwS_G (hn : n ≤ 12) {x u v : Nat} {d : Nat → Int64} (hx : x < n) (hu : u < n) (hv : v < n) (h : fwG n m fr to w th d) : fwG n m fr to w th (fwS x u v d) := by
  intro a b ha hb
  rw [fwS_at (by omega) (by omega)]
  by_cases e : a = u ∧ b = v
  · obtain ⟨rfl, rfl⟩ := e
    rw [if_pos ⟨rfl, rfl⟩]
    obtain ⟨p1, p2, p3⟩ := h a x hu hx
    obtain ⟨q1, q2, q3⟩ := h x b hx hv
    obtain ⟨r1, r2, r3⟩ := h a b hu hv
    obtain ⟨s1, s2, s3, -⟩ := fwV_dI (f := d) (a := a) (x := x) (b := b) ⟨p1, p2⟩ ⟨q1, q2⟩ ⟨r1, r2⟩
    refine ⟨s1, by omega, fun hlt => ?_⟩
    rcases s3 with s3 | ⟨s3, s4, s5⟩
    · rw [s3] at hlt ⊢; exact r3 hlt
    · obtain ⟨k1, z1, e1, f1⟩ := p3 s3
      obtain ⟨k2, z2, e2, f2⟩ := q3 s4
      exact ⟨k1 + k2, z1 + z2, Ex_app e1 k2 b z2 e2, by rw [Int.natCast_add]; omega⟩
  · rw [if_neg e]; exact h a b ha hb
theorem fwS_le (hn : n ≤ 12) {x u v a b : Nat} {d : Nat → Int64} (hx : x < n) (hu : u < n) (hv : v < n) (hb : b < n) (h : fwG n m fr to w th d) : dI (fwS x u v d) a b ≤ dI d a b := by
  rw [fwS_at (by omega) (by omega)]
  by_cases e : a = u ∧ b = v
  · obtain ⟨rfl, rfl⟩ := e
    rw [if_pos ⟨rfl, rfl⟩]
    obtain ⟨p1, p2, -⟩ := h a x hu hx
    obtain ⟨q1, q2, -⟩ := h x b hx hv
    obtain ⟨r1, r2, -⟩ := h a b hu hv
    exact (fwV_dI (f := d) (a := a) (x := x) (b := b) ⟨p1, p2⟩ ⟨q1, q2⟩ ⟨r1, r2⟩).2.1
  · rw [if_neg e]; exact Int.le_refl _
/-- a turn, entry by entry: finite is what was, or goes by x; nothing grows; finite ones stay below twice the bound -/
theorem fwM_fin (hn : n ≤ 12) {x : Nat} {d : Nat → Int64} {B : Int} (hx : x < n) (h : fwG n m fr to w th d) (hB : 0 ≤ B ∧ 2 * B < 1000000000000) (hu : ∀ a b, a < n → b < n → dI d a b < 1000000000000 → dI d a b ≤ B) :
    fwG n m fr to w th (fwM n x d) ∧ (∀ a b, a < n → b < n → dI (fwM n x d) a b ≤ dI d a b) ∧ (∀ a b, a < n → b < n → dI (fwM n x d) a b < 1000000000000 → dI (fwM n x d) a b ≤ 2 * B) ∧ (∀ a b, a < n → b < n → dI d a x < 1000000000000 → dI d x b < 1000000000000 → dI (fwM n x d) a b < 1000000000000) ∧ (∀ a b, a < n → b < n → dI (fwM n x d) a b < 1000000000000 → dI d a b < 1000000000000 ∨ (dI d a x < 1000000000000 ∧ dI d x b < 1000000000000)) := by
  have key := dbl (n := n) (S := fwS x) (Inv := fun c => fwG n m fr to w th c ∧ ∀ a b, a < n → b < n → dI c a b ≤ dI d a b ∧ (dI c a b < 1000000000000 → dI c a b ≤ 2 * B ∧ (dI d a b < 1000000000000 ∨ (dI d a x < 1000000000000 ∧ dI d x b < 1000000000000))))
    (Pr := fun a b c => dI d a x < 1000000000000 → dI d x b < 1000000000000 → dI c a b ≤ 2 * B) ?_ ?_ ?_ d ?_
  · obtain ⟨⟨k1, k2⟩, k3⟩ := key
    refine ⟨k1, fun a b ha hb => (k2 a b ha hb).1, fun a b ha hb hf => ((k2 a b ha hb).2 hf).1, fun a b ha hb h1 h2 => ?_, fun a b ha hb hf => ((k2 a b ha hb).2 hf).2⟩
    have h3 : dI (fl (fun u => fl (fwS x u) n) n d) a b ≤ 2 * B := k3 a b ha hb h1 h2
    show dI (fl (fun u => fl (fwS x u) n) n d) a b < 1000000000000
    omega
  · rintro u v c hu' hv' ⟨g, h2⟩
    refine ⟨fwS_G hn hx hu' hv' g, fun a b ha hb => ?_⟩
    obtain ⟨q1, q2⟩ := h2 a b ha hb
    rw [fwS_at (by omega) (by omega)]
    by_cases e : a = u ∧ b = v
    · obtain ⟨rfl, rfl⟩ := e
      rw [if_pos ⟨rfl, rfl⟩]
      obtain ⟨p1, p2, -⟩ := g a x hu' hx
      obtain ⟨r1, r2, -⟩ := g x b hx hv'
      obtain ⟨t1, t2, -⟩ := g a b hu' hv'
      obtain ⟨s1, s2, s3, s4⟩ := fwV_dI (f := c) (a := a) (x := x) (b := b) ⟨p1, p2⟩ ⟨r1, r2⟩ ⟨t1, t2⟩
      refine ⟨by omega, fun hf => ?_⟩
      rcases s3 with s3 | ⟨s3, s5, s6⟩
      · rw [s3] at hf ⊢; exact q2 hf
      · obtain ⟨ax1, ax2⟩ := h2 a x hu' hx
        obtain ⟨xb1, xb2⟩ := h2 x b hx hv'
        have f1 : dI d a x < 1000000000000 := by rcases (ax2 s3).2 with z | z; exact z; exact z.1
        have f2 : dI d x b < 1000000000000 := by rcases (xb2 s5).2 with z | z; exact z; exact z.2
        have b1 := hu a x ha hx f1
        have b2 := hu x b hx hb f2
        have s4' := s4 s3 s5
        exact ⟨by omega, Or.inr ⟨f1, f2⟩⟩
    · rw [if_neg e]; exact ⟨q1, q2⟩
  · rintro u v c hu' hv' ⟨g, h2⟩ f1 f2
    rw [fwS_at (by omega) (by omega), if_pos ⟨rfl, rfl⟩]
    obtain ⟨p1, p2, -⟩ := g u x hu' hx
    obtain ⟨r1, r2, -⟩ := g x v hx hv'
    obtain ⟨t1, t2, -⟩ := g u v hu' hv'
    obtain ⟨s1, s2, s3, s4⟩ := fwV_dI (f := c) (a := u) (x := x) (b := v) ⟨p1, p2⟩ ⟨r1, r2⟩ ⟨t1, t2⟩
    have e1 := (h2 u x hu' hx).1
    have e2 := (h2 x v hx hv').1
    have b1 := hu u x hu' hx f1
    have b2 := hu x v hx hv' f2
    have s4' := s4 (by show dI c u x < _; omega) (by show dI c x v < _; omega)
    omega
  · rintro a b u v c ha hb hu' hv' ⟨g, h2⟩ hp f1 f2
    have := fwS_le hn hx hu' hv' (a := a) hb g
    have := hp f1 f2
    omega
  · exact ⟨h, fun a b ha hb => ⟨Int.le_refl _, fun hf => ⟨by have := hu a b ha hb hf; omega, Or.inl hf⟩⟩⟩
/-- a turn on a set of nodes where x's own entry is not below nothing -/
theorem fwM_val (hn : n ≤ 12) {x : Nat} {d : Nat → Int64} {B : Int} {R : Nat → Prop} (hR : ∀ a, R a → a < n) (hx : R x) (h : fwG n m fr to w th d) (hB : 0 ≤ B ∧ 2 * B < 1000000000000) (hl : ∀ a b, R a → R b → -B ≤ dI d a b) (h0 : 0 ≤ dI d x x) :
    ∀ a b, R a → R b → (dI (fwM n x d) a b = dI d a b ∨ (dI d a x < 1000000000000 ∧ dI d x b < 1000000000000 ∧ dI (fwM n x d) a b = dI d a x + dI d x b)) ∧ dI (fwM n x d) a b ≤ dI d a b ∧ (dI d a x < 1000000000000 → dI d x b < 1000000000000 → dI (fwM n x d) a b ≤ dI d a x + dI d x b) := by
  have hxn := hR x hx
  have key := dbl (n := n) (S := fwS x) (Inv := fun c => fwG n m fr to w th c ∧ (∀ a b, R a → R b → dI c a b ≤ dI d a b ∧ (dI c a b = dI d a b ∨ (dI d a x < 1000000000000 ∧ dI d x b < 1000000000000 ∧ dI c a b = dI d a x + dI d x b ∧ dI d a x + dI d x b < dI d a b))))
    (Pr := fun a b c => R a → R b → dI d a x < 1000000000000 → dI d x b < 1000000000000 → dI c a b ≤ dI d a x + dI d x b) ?_ ?_ ?_ d ?_
  · obtain ⟨⟨k1, k2⟩, k3⟩ := key
    intro a b ha hb
    obtain ⟨q1, q2⟩ := k2 a b ha hb
    refine ⟨?_, q1, fun f1 f2 => k3 a b (hR a ha) (hR b hb) ha hb f1 f2⟩
    rcases q2 with q | ⟨q, p, r, -⟩
    · exact Or.inl q
    · exact Or.inr ⟨q, p, r⟩
  · rintro u v c hu' hv' ⟨g, h2⟩
    refine ⟨fwS_G hn hxn hu' hv' g, fun a b ha hb => ?_⟩
    have hbn := hR b hb
    rw [fwS_at (by omega) (by omega)]
    by_cases e : a = u ∧ b = v
    · obtain ⟨rfl, rfl⟩ := e
      rw [if_pos ⟨rfl, rfl⟩]
      obtain ⟨p1, p2, -⟩ := g a x hu' hxn
      obtain ⟨r1, r2, -⟩ := g x b hxn hv'
      obtain ⟨t1, t2, -⟩ := g a b hu' hv'
      obtain ⟨s1, s2, s3, s4⟩ := fwV_dI (f := c) (a := a) (x := x) (b := b) ⟨p1, p2⟩ ⟨r1, r2⟩ ⟨t1, t2⟩
      obtain ⟨ab1, ab2⟩ := h2 a b ha hb
      obtain ⟨ax1, ax2⟩ := h2 a x ha hx
      obtain ⟨xb1, xb2⟩ := h2 x b hx hb
      have eax : dI c a x = dI d a x := by rcases ax2 with z | ⟨z1, z2, z3, z4⟩; exact z; omega
      have exb : dI c x b = dI d x b := by rcases xb2 with z | ⟨z1, z2, z3, z4⟩; exact z; omega
      have l1 := hl a x ha hx
      have l2 := hl x b hx hb
      refine ⟨by omega, ?_⟩
      rcases s3 with s3 | ⟨s3, s5, s6⟩
      · rw [s3]; exact ab2
      · have f1 : dI c a x < 1000000000000 := s3
        have f2 : dI c x b < 1000000000000 := s5
        have f3 := s4 s3 s5
        have g3 : dI c a x + dI c x b ≤ (fwV c (12 * a + x) (12 * x + b) (12 * a + b)).toInt := s6
        have f4 : (fwV c (12 * a + x) (12 * x + b) (12 * a + b)).toInt ≤ dI c a x + dI c x b ∨ (fwV c (12 * a + x) (12 * x + b) (12 * a + b)).toInt = -1000000000000 := f3
        have f5 : (fwV c (12 * a + x) (12 * x + b) (12 * a + b)).toInt = dI c a x + dI c x b := by omega
        rw [f5]
        by_cases z : dI c a x + dI c x b < dI d a b
        · exact Or.inr ⟨by omega, by omega, by omega, by omega⟩
        · exact Or.inl (by have : (fwV c (12 * a + x) (12 * x + b) (12 * a + b)).toInt ≤ dI c a b := s2; omega)
    · rw [if_neg e]; exact h2 a b ha hb
  · rintro u v c hu' hv' ⟨g, h2⟩ ha hb f1 f2
    rw [fwS_at (by omega) (by omega), if_pos ⟨rfl, rfl⟩]
    obtain ⟨p1, p2, -⟩ := g u x hu' hxn
    obtain ⟨r1, r2, -⟩ := g x v hxn hv'
    obtain ⟨t1, t2, -⟩ := g u v hu' hv'
    obtain ⟨s1, s2, s3, s4⟩ := fwV_dI (f := c) (a := u) (x := x) (b := v) ⟨p1, p2⟩ ⟨r1, r2⟩ ⟨t1, t2⟩
    have e1 := (h2 u x ha hx).1
    have e2 := (h2 x v hx hb).1
    have l1 := hl u x ha hx
    have l2 := hl x v hx hb
    have s4' := s4 (by show dI c u x < _; omega) (by show dI c x v < _; omega)
    have s5 : (fwV c (12 * u + x) (12 * x + v) (12 * u + v)).toInt ≤ dI c u x + dI c x v ∨ (fwV c (12 * u + x) (12 * x + v) (12 * u + v)).toInt = -1000000000000 := s4'
    omega
  · rintro a b u v c ha' hb' hu' hv' ⟨g, h2⟩ hp ha hb f1 f2
    have := fwS_le hn hxn hu' hv' (a := a) hb' g
    have := hp ha hb f1 f2
    omega
  · exact ⟨h, fun a b ha hb => ⟨Int.le_refl _, Or.inl rfl⟩⟩
/-- a turn by a node outside of the set: nothing changes there -/
theorem fwM_out (hn : n ≤ 12) {x : Nat} {d : Nat → Int64} {R : Nat → Prop} (hR : ∀ a, R a → a < n) (hx : x < n) (h : fwG n m fr to w th d) (hcl : ∀ a b, R a → R b → rch m fr to w th a x → rch m fr to w th x b → False) :
    ∀ a b, R a → R b → dI (fwM n x d) a b = dI d a b := by
  have key := dbl (n := n) (S := fwS x) (Inv := fun c => fwG n m fr to w th c ∧ (∀ a b, R a → R b → dI c a b = dI d a b)) (Pr := fun _ _ _ => True) ?_ (fun _ _ _ _ _ _ => trivial) (fun _ _ _ _ _ _ _ _ _ _ _ => trivial) d ⟨h, fun a b _ _ => rfl⟩
  · exact key.1.2
  · rintro u v c hu' hv' ⟨g, h2⟩
    refine ⟨fwS_G hn hx hu' hv' g, fun a b ha hb => ?_⟩
    have hbn := hR b hb
    rw [fwS_at (by omega) (by omega)]
    by_cases e : a = u ∧ b = v
    · obtain ⟨rfl, rfl⟩ := e
      rw [if_pos ⟨rfl, rfl⟩]
      obtain ⟨p1, p2, p3⟩ := g a x hu' hx
      obtain ⟨r1, r2, r3⟩ := g x b hx hv'
      obtain ⟨t1, t2, -⟩ := g a b hu' hv'
      obtain ⟨s1, s2, s3, s4⟩ := fwV_dI (f := c) (a := a) (x := x) (b := b) ⟨p1, p2⟩ ⟨r1, r2⟩ ⟨t1, t2⟩
      rcases s3 with s3 | ⟨s3, s5, s6⟩
      · rw [s3]; exact h2 a b ha hb
      · obtain ⟨k1, z1, e1, -⟩ := p3 s3
        obtain ⟨k2, z2, e2, -⟩ := r3 s5
        exact (hcl a b ha hb ⟨k1, z1, e1⟩ ⟨k2, z2, e2⟩).elim
    · rw [if_neg e]; exact h2 a b ha hb
end MF
