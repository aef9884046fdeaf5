/-! MATHEMATICS: the reference's 'most' -/
section MX
variable {n m : Nat} {fr to : Nat → Nat} {w : Nat → Int32} {th : Nat → Bool}
def X64 (x : Int64) (S : Int → Prop) : Prop := (x.toInt = -1000000000000 ∧ ∀ z, ¬ S z) ∨ (S x.toInt ∧ ∀ z, S z → z ≤ x.toInt)
def MX (y : Int) (S : Int → Prop) : Prop := S y ∧ ∀ z, S z → z ≤ y
theorem o64I : (1 : Int64).toInt = 1 := by decide
theorem cost64m {x : Int32} (h : -1000 ≤ x.toInt ∧ x.toInt ≤ 1000) : (1000 * x.toInt64 - 1).toInt = 1000 * x.toInt - 1 := by
  have e0 : (1000 : Int64).toInt = 1000 := by decide
  have e1 := o64I
  have e2 : (1000 * x.toInt64).toInt = 1000 * x.toInt := by
    rw [ml64 (by rw [e0, Int32.toInt_toInt64]; omega) (by rw [e0, Int32.toInt_toInt64]; omega), e0, Int32.toInt_toInt64]
  rw [sb64 (by rw [e1, e2]; omega) (by rw [e1, e2]; omega), e1, e2]
theorem dI_up {f : Nat → Int64} {a b u v : Nat} {c : Int64} (hb : b < 12) (hv : v < 12) : dI (va_up f (12 * a + b) c) u v = if u = a ∧ v = b then c.toInt else dI f u v := by
  unfold dI
  by_cases q : u = a ∧ v = b
  · obtain ⟨rfl, rfl⟩ := q
    rw [va_up_self, if_pos ⟨rfl, rfl⟩]
  · rw [va_up_ne _ _ (by omega), if_neg q]
theorem mI_ok (hg : gOK n m fr to) (hw : wOK m w) (mo : Nat → Int64) : ∀ j, j ≤ m → (∀ u v, u < n → v < n → dI (fl (mb2 fr to w th) j (fl mb1 (n * 12) mo)) u v = -1000000000000 ∨ ∃ z, Ex m fr to w th 1 u v z ∧ dI (fl (mb2 fr to w th) j (fl mb1 (n * 12) mo)) u v = 1000 * z - 1) ∧ (∀ i, i < j → th i = true → 1000 * (w i).toInt - 1 ≤ dI (fl (mb2 fr to w th) j (fl mb1 (n * 12) mo)) (fr i) (to i)) := by
  have hn := hg.1
  intro j
  induction j with
  | zero =>
    intro _
    refine ⟨fun u v hu hv => Or.inl ?_, fun i hi => absurd hi (Nat.not_lt_zero i)⟩
    unfold dI
    rw [fl_0, flu_in (s := mb1) (g := fun i => i) (c := fun _ => -1000000000000) (fun _ _ => rfl) mo (n * 12) (12 * u + v) (by omega) (fun a b _ _ h => h)]
    exact nfar64
  | succ j ih =>
    intro hj
    obtain ⟨h1, h2⟩ := ih (by omega)
    have hj2 := hg.2.2 j (by omega)
    have hwj := hw j (by omega)
    rw [fl_s]
    generalize fl (mb2 fr to w th) j (fl mb1 (n * 12) mo) = f at h1 h2 ⊢
    unfold mb2
    have hc := cost64m hwj
    -- the new value
    have hv : ∃ c : Int64, (if th j = true then (if 1000 * (w j).toInt64 - 1 ≤ f (12 * fr j + to j) then f (12 * fr j + to j) else 1000 * (w j).toInt64 - 1) else f (12 * fr j + to j)) = c ∧ dI f (fr j) (to j) ≤ c.toInt ∧ (th j = true → 1000 * (w j).toInt - 1 ≤ c.toInt) ∧ (c.toInt = dI f (fr j) (to j) ∨ (th j = true ∧ c.toInt = 1000 * (w j).toInt - 1)) := by
      refine ⟨_, rfl, ?_⟩
      unfold dI
      by_cases c : th j = true
      · rw [if_pos c]
        by_cases d : 1000 * (w j).toInt64 - 1 ≤ f (12 * fr j + to j)
        · rw [if_pos d]
          rw [Int64.le_iff_toInt_le, hc] at d
          exact ⟨Int.le_refl _, fun _ => d, Or.inl rfl⟩
        · rw [if_neg d]
          rw [Int64.le_iff_toInt_le, hc] at d
          rw [hc]
          exact ⟨by omega, fun _ => Int.le_refl _, Or.inr ⟨c, rfl⟩⟩
      · rw [if_neg c]
        exact ⟨Int.le_refl _, fun q => absurd q c, Or.inl rfl⟩
    obtain ⟨c, hc1, hc2, hc3, hc4⟩ := hv
    rw [hc1]
    refine ⟨fun u v hu hv => ?_, fun i hi ht => ?_⟩
    · rw [dI_up (by omega) (by omega)]
      by_cases q : u = fr j ∧ v = to j
      · rw [if_pos q]
        obtain ⟨rfl, rfl⟩ := q
        rcases hc4 with e | ⟨e1, e2⟩
        · rw [e]; exact h1 _ _ hu hv
        · exact Or.inr ⟨_, Ex_arc (by omega) e1, e2⟩
      · rw [if_neg q]; exact h1 u v hu hv
    · have hi2 := hg.2.2 i (by omega)
      rw [dI_up (by omega) (by omega)]
      by_cases q : fr i = fr j ∧ to i = to j
      · rw [if_pos q]
        by_cases e : i = j
        · subst e; exact hc3 ht
        · have := h2 i (by omega) ht
          rw [q.1, q.2] at this
          omega
      · rw [if_neg q]
        exact h2 i (by
          rcases Nat.lt_or_ge i j with a | a
          · exact a
          · exact absurd ⟨by rw [show i = j by omega], by rw [show i = j by omega]⟩ q) ht
def mI (p q r : Int) : Int := if p ≤ -1000000000000 then r else if q ≤ -1000000000000 then r else if p + q ≤ r then r else p + q
theorem leM {a : Int64} : a ≤ -1000000000000 ↔ a.toInt ≤ -1000000000000 := by rw [Int64.le_iff_toInt_le, nfar64]
theorem mxV_sp {f : Nat → Int64} {a b c : Nat} (h1 : -1000000000000 ≤ (f a).toInt ∧ (f a).toInt ≤ 1000000000000) (h2 : -1000000000000 ≤ (f b).toInt ∧ (f b).toInt ≤ 1000000000000) : (mxV f a b c).toInt = mI (f a).toInt (f b).toInt (f c).toInt := by
  have es : (f a + f b).toInt = (f a).toInt + (f b).toInt := ad64 (by omega) (by omega)
  unfold mxV mI
  by_cases c1 : f a ≤ -1000000000000
  · rw [if_pos c1, if_pos (leM.mp c1)]
  · rw [if_neg c1, if_neg (fun q => c1 (leM.mpr q))]
    by_cases c2 : f b ≤ -1000000000000
    · rw [if_pos c2, if_pos (leM.mp c2)]
    · rw [if_neg c2, if_neg (fun q => c2 (leM.mpr q))]
      by_cases c3 : f a + f b ≤ f c
      · rw [if_pos c3, if_pos (by rw [← es]; exact Int64.le_iff_toInt_le.mp c3)]
      · rw [if_neg c3, if_neg (by rw [← es]; exact fun q => c3 (Int64.le_iff_toInt_le.mpr q)), es]
theorem mI_id (p q r : Int) : mI p q (mI p q r) = mI p q r := by
  unfold mI
  repeat' split
  all_goals omega
theorem mx_val (hn : n ≤ 12) {x : Nat} (hx : x < n) {f0 : Nat → Int64} (hb : ∀ a b, a < n → b < n → -1000000000000 ≤ dI f0 a b ∧ dI f0 a b ≤ 1000000000000) (h0 : dI f0 x x ≤ -1000000000000) : ∀ u v, u < n → v < n → dI (mxM n x f0) u v = mI (dI f0 u x) (dI f0 x v) (dI f0 u v) := by
  have step : ∀ u v (f : Nat → Int64), u < n → v < n → (∀ a b, a < n → b < n → dI f a b = dI f0 a b ∨ dI f a b = mI (dI f0 a x) (dI f0 x b) (dI f0 a b)) → (mxV f (12 * u + x) (12 * x + v) (12 * u + v)).toInt = mI (dI f0 u x) (dI f0 x v) (dI f0 u v) := by
    intro u v f hu hv h
    have e1 : dI f u x = dI f0 u x := by
      rcases h u x hu hx with q | q
      · exact q
      · rw [q]; unfold mI
        by_cases c : dI f0 u x ≤ -1000000000000
        · rw [if_pos c]
        · rw [if_neg c, if_pos h0]
    have e2 : dI f x v = dI f0 x v := by
      rcases h x v hx hv with q | q
      · exact q
      · rw [q]; unfold mI
        rw [if_pos h0]
    have b1 := hb u x hu hx
    have b2 := hb x v hx hv
    rw [← e1] at b1
    rw [← e2] at b2
    rw [mxV_sp b1 b2]
    show mI (dI f u x) (dI f x v) (dI f u v) = _
    rw [e1, e2]
    rcases h u v hu hv with q | q
    · rw [q]
    · rw [q, mI_id]
  have key := dbl (n := n) (S := mxS x) (Inv := fun f => ∀ a b, a < n → b < n → dI f a b = dI f0 a b ∨ dI f a b = mI (dI f0 a x) (dI f0 x b) (dI f0 a b)) (Pr := fun u v f => dI f u v = mI (dI f0 u x) (dI f0 x v) (dI f0 u v))
    (fun u v f hu hv h a b ha hb2 => by
      unfold mxS
      rw [dI_up (by omega) (by omega)]
      by_cases q : a = u ∧ b = v
      · rw [if_pos q]
        obtain ⟨rfl, rfl⟩ := q
        exact Or.inr (step _ _ f hu hv h)
      · rw [if_neg q]; exact h a b ha hb2)
    (fun u v f hu hv h => by
      unfold mxS
      rw [dI_up (by omega) (by omega), if_pos ⟨rfl, rfl⟩]
      exact step u v f hu hv h)
    (fun a b u v f ha hb2 hu hv h hp => by
      unfold mxS
      rw [dI_up (by omega) (by omega)]
      by_cases q : a = u ∧ b = v
      · rw [if_pos q]
        obtain ⟨rfl, rfl⟩ := q
        exact step _ _ f hu hv h
      · rw [if_neg q]; exact hp)
    f0 (fun a b _ _ => Or.inl rfl)
  exact key.2
/-- what holds of 'most' after s stages -/
def FI (n m : Nat) (fr to : Nat → Nat) (w : Nat → Int32) (th : Nat → Bool) (s : Nat) (f : Nat → Int64) : Prop :=
  (∀ u v, u < n → v < n → dI f u v = -1000000000000 ∨ ∃ k z, k + 1 ≤ 2 ^ s ∧ Ex m fr to w th (k + 1) u v z ∧ dI f u v = 1000 * z - ((k + 1 : Nat) : Int)) ∧
  (∀ x u v, x < s → x < n → u < n → v < n → -1000000000000 < dI f u x → -1000000000000 < dI f x v → dI f u x + dI f x v ≤ dI f u v) ∧
  (∀ j, j < m → th j = true → 1000 * (w j).toInt - 1 ≤ dI f (fr j) (to j))
theorem FI_bd (hw : wOK m w) {s : Nat} (hs : s ≤ 12) {f : Nat → Int64} (h : FI n m fr to w th s f) : ∀ a b, a < n → b < n → -1000000000000 ≤ dI f a b ∧ dI f a b ≤ 1000000000000 := by
  intro a b ha hb
  rcases h.1 a b ha hb with q | ⟨k, z, hk, hE, e⟩
  · omega
  · have := Ex_bnd hw hE
    have : 2 ^ s ≤ 2 ^ 12 := Nat.pow_le_pow_right (by omega) hs
    omega
theorem FI_lt (hw : wOK m w) {s k : Nat} (hs : s ≤ 12) (hk : k + 1 ≤ 2 ^ s) {u v : Nat} {z : Int} (hE : Ex m fr to w th (k + 1) u v z) : -400000000000 ≤ 1000 * z - ((k + 1 : Nat) : Int) ∧ 1000 * z - ((k + 1 : Nat) : Int) ≤ 400000000000 := by
  have := Ex_bnd hw hE
  have : 2 ^ s ≤ 2 ^ 12 := Nat.pow_le_pow_right (by omega) hs
  omega
theorem dg_iff {f : Nat → Int64} {u : Nat} : dgP f u = true ↔ dI f u u ≤ -1000000000000 := by
  unfold dgP dI
  rw [decide_eq_true_eq, leM]
theorem mI_ge (p q r : Int) : r ≤ mI p q r := by
  unfold mI
  repeat' split
  all_goals omega
theorem mI_sum {p q : Int} (r : Int) (hp : -1000000000000 < p) (hq : -1000000000000 < q) : p + q ≤ mI p q r := by
  unfold mI
  rw [if_neg (by omega), if_neg (by omega)]
  split <;> omega
theorem mI_or (p q r : Int) : mI p q r = r ∨ (-1000000000000 < p ∧ -1000000000000 < q ∧ mI p q r = p + q) := by
  unfold mI
  by_cases c1 : p ≤ -1000000000000
  · rw [if_pos c1]; exact Or.inl rfl
  · rw [if_neg c1]
    by_cases c2 : q ≤ -1000000000000
    · rw [if_pos c2]; exact Or.inl rfl
    · rw [if_neg c2]
      by_cases c3 : p + q ≤ r
      · rw [if_pos c3]; exact Or.inl rfl
      · rw [if_neg c3]; exact Or.inr ⟨by omega, by omega, rfl⟩
theorem FI_step (hg : gOK n m fr to) (hw : wOK m w) {s : Nat} (hs : s < n) {f : Nat → Int64} (h : FI n m fr to w th s f) (h0 : dI f s s ≤ -1000000000000) : FI n m fr to w th (s + 1) (mxM n s f) := by
  have hn := hg.1
  have hbd := FI_bd hw (by omega) h
  have hv := mx_val hn hs hbd h0
  have hss : dI f s s = -1000000000000 := by have := hbd s s hs hs; omega
  obtain ⟨hA, hT, hC⟩ := h
  have hp : 2 ^ (s + 1) = 2 * 2 ^ s := by rw [Nat.pow_succ]; omega
  refine ⟨fun u v hu hv2 => ?_, fun x u v hx hxn hu hv2 => ?_, fun j hj ht => ?_⟩
  · rw [hv u v hu hv2]
    rcases mI_or (dI f u s) (dI f s v) (dI f u v) with e | ⟨e1, e2, e⟩
    · rw [e]
      rcases hA u v hu hv2 with q | ⟨k, z, hk, hE, q⟩
      · exact Or.inl q
      · exact Or.inr ⟨k, z, by omega, hE, q⟩
    · rw [e]
      rcases hA u s hu hs with q | ⟨k, z, hk, hE, q⟩
      · omega
      · rcases hA s v hs hv2 with q2 | ⟨k2, z2, hk2, hE2, q2⟩
        · omega
        · refine Or.inr ⟨k + 1 + k2, z + z2, by omega, ?_, by omega⟩
          exact Ex_app hE (k2 + 1) v z2 hE2
  · rw [hv u x hu hxn, hv x v hxn hv2, hv u v hu hv2]
    intro g1 g2
    by_cases c : x = s
    · subst c
      have a1 : mI (dI f u x) (dI f x x) (dI f u x) = dI f u x := by
        rcases mI_or (dI f u x) (dI f x x) (dI f u x) with e | ⟨-, e2, -⟩
        · exact e
        · omega
      have a2 : mI (dI f x x) (dI f x v) (dI f x v) = dI f x v := by
        rcases mI_or (dI f x x) (dI f x v) (dI f x v) with e | ⟨e2, -, -⟩
        · exact e
        · omega
      rw [a1] at g1 ⊢
      rw [a2] at g2 ⊢
      exact mI_sum _ g1 g2
    · have hxs : x < s := by omega
      have m1 := mI_ge (dI f u s) (dI f s v) (dI f u v)
      rcases mI_or (dI f u s) (dI f s x) (dI f u x) with e | ⟨e1, e2, e⟩
      · rw [e] at g1 ⊢
        rcases mI_or (dI f x s) (dI f s v) (dI f x v) with d | ⟨d1, d2, d⟩
        · rw [d] at g2 ⊢
          have := hT x u v hxs hxn hu hv2 g1 g2
          omega
        · rw [d]
          have t1 := hT x u s hxs hxn hu hs g1 d1
          have b1 := hbd u s hu hs
          have l1 : -1000000000000 < dI f u s := by
            rcases hA u x hu hxn with q | ⟨k, z, hk, hE, q⟩
            · omega
            · rcases hA x s hxn hs with q2 | ⟨k2, z2, hk2, hE2, q2⟩
              · omega
              · have := FI_lt hw (by omega) hk hE
                have := FI_lt hw (by omega) hk2 hE2
                omega
          have := mI_sum (dI f u v) l1 d2
          omega
      · rw [e]
        rcases mI_or (dI f x s) (dI f s v) (dI f x v) with d | ⟨d1, d2, d⟩
        · rw [d] at g2 ⊢
          have t1 := hT x s v hxs hxn hs hv2 e2 g2
          have l1 : -1000000000000 < dI f s v := by
            rcases hA s x hs hxn with q | ⟨k, z, hk, hE, q⟩
            · omega
            · rcases hA x v hxn hv2 with q2 | ⟨k2, z2, hk2, hE2, q2⟩
              · omega
              · have := FI_lt hw (by omega) hk hE
                have := FI_lt hw (by omega) hk2 hE2
                omega
          have := mI_sum (dI f u v) e1 l1
          omega
        · exfalso
          have t1 := hT x s s hxs hxn hs hs e2 d1
          rcases hA s x hs hxn with q | ⟨k, z, hk, hE, q⟩
          · omega
          · rcases hA x s hxn hs with q2 | ⟨k2, z2, hk2, hE2, q2⟩
            · omega
            · have := FI_lt hw (by omega) hk hE
              have := FI_lt hw (by omega) hk2 hE2
              omega
  · have hj2 := hg.2.2 j hj
    rw [hv _ _ hj2.1 hj2.2]
    have := hC j hj ht
    have := mI_ge (dI f (fr j) s) (dI f s (to j)) (dI f (fr j) (to j))
    omega
theorem fr_inv (hg : gOK n m fr to) (hw : wOK m w) (mo : Nat → Int64) : ∀ i, i ≤ n → ((frS n m fr to w th mo i).1 = true → FI n m fr to w th i (frS n m fr to w th mo i).2) ∧ ((frS n m fr to w th mo i).1 = false → ¬ acyc n m fr to w th) := by
  have hn := hg.1
  intro i
  induction i with
  | zero =>
    intro _
    refine ⟨fun _ => ?_, fun q => by cases q⟩
    obtain ⟨h1, h2⟩ := mI_ok (th := th) hg hw mo m (Nat.le_refl _)
    refine ⟨fun u v hu hv => ?_, fun x u v hx => absurd hx (Nat.not_lt_zero x), h2⟩
    rcases h1 u v hu hv with q | ⟨z, hE, q⟩
    · exact Or.inl q
    · exact Or.inr ⟨0, z, by decide, hE, q⟩
  | succ i ih =>
    intro hi
    obtain ⟨h1, h2⟩ := ih (by omega)
    rw [frS_s]
    generalize frS n m fr to w th mo i = s at h1 h2 ⊢
    unfold fsS
    by_cases c : (s.1 && dgP s.2 i) = true
    · rw [if_pos c]
      rw [Bool.and_eq_true] at c
      exact ⟨fun _ => FI_step hg hw (by omega) (h1 c.1) (dg_iff.mp c.2), fun q => by cases q⟩
    · rw [if_neg c]
      refine ⟨fun q => (by cases q), fun _ => ?_⟩
      cases e : s.1 with
      | false => exact h2 e
      | true =>
        rw [e, Bool.true_and, dg_iff] at c
        rcases (h1 e).1 i i (by omega) (by omega) with q | ⟨k, z, hk, hE, q⟩
        · omega
        · exact fun ha => ha i k z (by omega) hE
theorem FI_comp (hg : gOK n m fr to) (hw : wOK m w) {f : Nat → Int64} (h : FI n m fr to w th n f) {u : Nat} (hu : u < n) : ∀ (k v : Nat) (z : Int), k ≤ 100 → Ex m fr to w th (k + 1) u v z → 1000 * z - ((k + 1 : Nat) : Int) ≤ dI f u v
  | 0, v, z, _, hE => by
    obtain ⟨j, hj, ht, rfl, rfl, e⟩ := hE
    have := h.2.2 j hj ht
    omega
  | k + 1, v, z, hk, hE => by
    have hn := hg.1
    have hb := Ex_bnd hw hE
    obtain ⟨j, hj, ht, rfl, hE⟩ := hE
    have hj2 := hg.2.2 j hj
    have hwj := hw j hj
    have hb2 := Ex_bnd hw hE
    have i1 := FI_comp hg hw h hu k (fr j) _ (by omega) hE
    have i2 := h.2.2 j hj ht
    have i3 := h.2.1 (fr j) u (to j) hj2.1 hj2.1 hu hj2.2 (by omega) (by omega)
    omega
theorem fr_true (hg : gOK n m fr to) (hw : wOK m w) (mo : Nat → Int64) (h : frB n m fr to w th mo = true) : acyc n m fr to w th ∧ FI n m fr to w th n (frM n m fr to w th mo) := by
  have hn := hg.1
  unfold frB at h
  rw [aa_iff] at h
  have hF := (fr_inv hg hw mo n (Nat.le_refl _)).1 h.1
  refine ⟨fun x k z hx hE => ?_, hF⟩
  have key : ∀ y c z', y < n → c ≤ 100 → ¬ Ex m fr to w th (c + 1) y y z' := fun y c z' hy hc hE2 => by
    have h1 := FI_comp hg hw hF hy c y z' hc hE2
    have h2 := dg_iff.mp (h.2 y hy)
    have h3 := Ex_bnd hw hE2
    omega
  rcases Nat.lt_or_ge (k + 1) n with q | q
  · exact key x k z hx (by omega) hE
  · obtain ⟨a, c, b, y, z1, z2, z3, e, hc, hc2, hy, e1, e2, e3, ez⟩ := cut hg hx q hE
    rw [show c = c - 1 + 1 by omega] at e2
    exact key y (c - 1) z2 hy (by omega) e2
theorem fr_acyc (hg : gOK n m fr to) (hw : wOK m w) (mo : Nat → Int64) (h : acyc n m fr to w th) : frB n m fr to w th mo = true := by
  unfold frB
  rw [aa_iff]
  obtain ⟨h1, h2⟩ := fr_inv (th := th) hg hw mo n (Nat.le_refl _)
  have e : (frS n m fr to w th mo n).1 = true := by
    cases c : (frS n m fr to w th mo n).1 with
    | true => rfl
    | false => exact absurd h (h2 c)
  refine ⟨e, fun x hx => dg_iff.mpr ?_⟩
  rcases (h1 e).1 x x hx hx with q | ⟨k, z, hk, hE, q⟩
  · omega
  · exact absurd hE (h x k z hx)
/-- the costs of walks that end, that begin at x -/
def cM (m : Nat) (fr to : Nat → Nat) (w : Nat → Int32) (th : Nat → Bool) (u v : Nat) (c : Int) : Prop := ∃ k z, Ex m fr to w th (k + 1) u v z ∧ c = 1000 * z - ((k + 1 : Nat) : Int)
theorem fr_val (hg : gOK n m fr to) (hw : wOK m w) (mo : Nat → Int64) (h : frB n m fr to w th mo = true) {u v : Nat} (hu : u < n) (hv : v < n) : X64 (frM n m fr to w th mo (12 * u + v)) (cM m fr to w th u v) := by
  have hn := hg.1
  obtain ⟨ha, hF⟩ := fr_true hg hw mo h
  have hup : ∀ c, cM m fr to w th u v c → -1000000000000 < c ∧ c ≤ dI (frM n m fr to w th mo) u v := by
    rintro c ⟨k, z, hE, rfl⟩
    have hk := acyc_short hg ha hu hE
    have hb := Ex_bnd hw hE
    exact ⟨by omega, FI_comp hg hw hF hu k v z (by omega) hE⟩
  rcases hF.1 u v hu hv with q | ⟨k, z, hk, hE, q⟩
  · exact Or.inl ⟨q, fun c hc => by have := hup c hc; omega⟩
  · exact Or.inr ⟨⟨k, z, hE, q⟩, fun c hc => (hup c hc).2⟩
def cE (n m : Nat) (fr to : Nat → Nat) (w : Nat → Int32) (th : Nat → Bool) (x : Nat) (c : Int) : Prop := ∃ k z, (∃ u, u < n ∧ Ex m fr to w th k u x z) ∧ c = 1000 * z - (k : Int)
def cB (m : Nat) (fr to : Nat → Nat) (w : Nat → Int32) (th : Nat → Bool) (x : Nat) (c : Int) : Prop := ∃ k z, (∃ v, Ex m fr to w th k x v z) ∧ c = 1000 * z - (k : Int)
theorem MX_cong {y : Int} {S T : Int → Prop} (h : ∀ z, S z ↔ T z) (hx : MX y S) : MX y T := ⟨(h y).mp hx.1, fun z hz => hx.2 z ((h z).mpr hz)⟩
theorem mx_fold {g : Nat → Int64} {S : Nat → Int → Prop} {n : Nat} (h : ∀ y, y < n → X64 (g y) (S y)) : ∀ i, i ≤ n → MX (fl (fun y c => if g y ≤ c then c else g y) i 0).toInt (fun c => c = 0 ∨ ∃ y, y < i ∧ S y c)
  | 0, _ => ⟨Or.inl z64I, fun z hz => by
      rcases hz with q | ⟨y, hy, _⟩
      · rw [fl_0, z64I]; omega
      · exact absurd hy (Nat.not_lt_zero y)⟩
  | i + 1, hi => by
    obtain ⟨h1, h2⟩ := mx_fold h i (by omega)
    rw [fl_s]
    generalize fl (fun y c => if g y ≤ c then c else g y) i 0 = c at h1 h2 ⊢
    have h0 : 0 ≤ c.toInt := h2 0 (Or.inl rfl)
    show MX (if g i ≤ c then c else g i).toInt _
    by_cases q : g i ≤ c
    · rw [if_pos q]
      rw [Int64.le_iff_toInt_le] at q
      refine ⟨?_, fun z hz => ?_⟩
      · rcases h1 with e | ⟨y, hy, e⟩
        · exact Or.inl e
        · exact Or.inr ⟨y, by omega, e⟩
      · rcases hz with e | ⟨y, hy, e⟩
        · exact h2 z (Or.inl e)
        · by_cases k : y = i
          · subst k
            rcases h y (by omega) with ⟨-, p⟩ | ⟨-, p⟩
            · exact absurd e (p z)
            · have := p z e; omega
          · exact h2 z (Or.inr ⟨y, by omega, e⟩)
    · rw [if_neg q]
      rw [Int64.le_iff_toInt_le] at q
      rcases h i (by omega) with ⟨p, -⟩ | ⟨p, p2⟩
      · omega
      · refine ⟨Or.inr ⟨i, by omega, p⟩, fun z hz => ?_⟩
        rcases hz with e | ⟨y, hy, e⟩
        · have := h2 z (Or.inl e); omega
        · by_cases k : y = i
          · subst k; exact p2 z e
          · have := h2 z (Or.inr ⟨y, by omega, e⟩); omega
theorem gt_end (hg : gOK n m fr to) (hw : wOK m w) (mo : Nat → Int64) (h : frB n m fr to w th mo = true) {x : Nat} (hx : x < n) : MX (gtF n (frM n m fr to w th mo) x true).toInt (cE n m fr to w th x) := by
  refine MX_cong (fun c => ?_) (mx_fold (g := gtV (frM n m fr to w th mo) x true) (S := fun y => cM m fr to w th y x) (fun y hy => fr_val hg hw mo h hy hx) n (Nat.le_refl _))
  constructor
  · rintro (rfl | ⟨y, hy, k, z, hE, rfl⟩)
    · exact ⟨0, 0, ⟨x, hx, rfl, rfl⟩, rfl⟩
    · exact ⟨k + 1, z, ⟨y, hy, hE⟩, rfl⟩
  · rintro ⟨k, z, ⟨u, hu, hE⟩, rfl⟩
    cases k with
    | zero => obtain ⟨-, rfl⟩ := hE; exact Or.inl rfl
    | succ k => exact Or.inr ⟨u, hu, k, z, hE, rfl⟩
theorem gt_beg (hg : gOK n m fr to) (hw : wOK m w) (mo : Nat → Int64) (h : frB n m fr to w th mo = true) {x : Nat} (hx : x < n) : MX (gtF n (frM n m fr to w th mo) x false).toInt (cB m fr to w th x) := by
  refine MX_cong (fun c => ?_) (mx_fold (g := gtV (frM n m fr to w th mo) x false) (S := fun y => cM m fr to w th x y) (fun y hy => fr_val hg hw mo h hx hy) n (Nat.le_refl _))
  constructor
  · rintro (rfl | ⟨y, hy, k, z, hE, rfl⟩)
    · exact ⟨0, 0, ⟨x, rfl, rfl⟩, rfl⟩
    · exact ⟨k + 1, z, ⟨y, hE⟩, rfl⟩
  · rintro ⟨k, z, ⟨v, hE⟩, rfl⟩
    cases k with
    | zero => obtain ⟨-, rfl⟩ := hE; exact Or.inl rfl
    | succ k => exact Or.inr ⟨v, Ex_end hg hx hE, k, z, hE, rfl⟩
/-- walks at all: none, or one that begins somewhere -/
def aW (n m : Nat) (fr to : Nat → Nat) (w : Nat → Int32) (th : Nat → Bool) (k : Nat) (z : Int) : Prop := (k = 0 ∧ z = 0) ∨ ∃ u v, u < n ∧ Ex m fr to w th k u v z
theorem tp_ok (hg : gOK n m fr to) (hw : wOK m w) (mo : Nat → Int64) (h : frB n m fr to w th mo = true) : MX (tpF n (frM n m fr to w th mo)).toInt (fun c => ∃ k z, aW n m fr to w th k z ∧ c = 1000 * z - (k : Int)) := by
  refine MX_cong (fun c => ?_) (mx_fold (g := fun x => gtF n (frM n m fr to w th mo) x true) (S := cE n m fr to w th) (fun y hy => Or.inr (gt_end hg hw mo h hy)) n (Nat.le_refl _))
  constructor
  · rintro (rfl | ⟨x, hx, k, z, ⟨u, hu, hE⟩, rfl⟩)
    · exact ⟨0, 0, Or.inl ⟨rfl, rfl⟩, rfl⟩
    · exact ⟨k, z, Or.inr ⟨u, x, hu, hE⟩, rfl⟩
  · rintro ⟨k, z, q | ⟨u, v, hu, hE⟩, rfl⟩
    · obtain ⟨rfl, rfl⟩ := q; exact Or.inl rfl
    · exact Or.inr ⟨v, Ex_end hg hu hE, k, z, ⟨u, hu, hE⟩, rfl⟩
theorem wOf_sp {q : Int64} {z : Int} {k : Nat} (h : q.toInt = 1000 * z - (k : Int)) (hk : k < 1000) (hz : -1000000 ≤ z ∧ z ≤ 1000000) : (wOf q).toInt = z := by
  have e1 : (-q).toInt = -q.toInt := by rw [Int64.toInt_neg]; exact bm64 (by omega) (by omega)
  have e2 : (wIn (-q)).toInt = -z := by rw [wIn_sp (by omega), e1, h]; omega
  unfold wOf
  rw [Int32.toInt_neg, e2, Int.neg_neg]
  exact bm32 (by omega) (by omega)
/-- the greatest cost and the greatest weight -/
theorem lexi {S : Nat → Int → Prop} {c : Int64} {y : Int32} (hk : ∀ k z, S k z → k < 1000 ∧ -1000000 ≤ z ∧ z ≤ 1000000) (h1 : MX c.toInt (fun c => ∃ k z, S k z ∧ c = 1000 * z - (k : Int))) (h2 : MX y.toInt (fun z => ∃ k, S k z)) : wOf c = y ∧ ∃ k, S k y.toInt ∧ c.toInt = 1000 * y.toInt - (k : Int) := by
  obtain ⟨⟨k, z, hS, e⟩, hm⟩ := h1
  obtain ⟨⟨k2, hS2⟩, hm2⟩ := h2
  have b1 := hk _ _ hS
  have b2 := hk _ _ hS2
  have c1 := hm2 z ⟨k, hS⟩
  have c2 := hm _ ⟨k2, _, hS2, rfl⟩
  have ez : z = y.toInt := by omega
  refine ⟨Int32.toInt_inj.mp (by rw [wOf_sp e b1.1 b1.2, ez]), k, by rw [← ez]; exact hS, by rw [e, ez]⟩
end MX
