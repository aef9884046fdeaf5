section MG
variable {n m : Nat} {fr to : Nat → Nat} {w : Nat → Int32} {th : Nat → Bool}
def cS (m : Nat) (fr to : Nat → Nat) (w : Nat → Int32) (th : Nat → Bool) (j u v : Nat) (c : Int) : Prop := (u = v ∧ c = 0) ∨ ∃ i, i < j ∧ (th i = true ∧ fr i = u ∧ to i = v ∧ c = 1000 * (w i).toInt + 1)
theorem cost64 {x : Int32} (h : -1000 ≤ x.toInt ∧ x.toInt ≤ 1000) : (1000 * x.toInt64 + 1).toInt = 1000 * x.toInt + 1 := by
  have e0 : (1000 : Int64).toInt = 1000 := by decide
  have e1 : (1 : Int64).toInt = 1 := by decide
  have e2 : (1000 * x.toInt64).toInt = 1000 * x.toInt := by
    rw [ml64 (by rw [e0, Int32.toInt_toInt64]; omega) (by rw [e0, Int32.toInt_toInt64]; omega), e0, Int32.toInt_toInt64]
  rw [ad64 (by rw [e1, e2]; omega) (by rw [e1, e2]; omega), e1, e2]
theorem fwI_ok (hg : gOK n m fr to) (hw : wOK m w) (f : Nat → Int64) : ∀ u v, u < n → v < n → M64 (fwI n m fr to w th f (12 * u + v)) (cS m fr to w th m u v) := by
  obtain ⟨hn, hm, hft⟩ := id hg
  have key : ∀ j, j ≤ m → ∀ u v, u < n → v < n → M64 (fl (fb2 fr to w th) j (fl fb1 (n * 12) f) (12 * u + v)) (cS m fr to w th j u v) := by
    intro j
    induction j with
    | zero =>
      intro _ u v hu hv
      rw [fl_0, fb1_at (n * 12) f (by omega) (by omega)]
      exact M64_cong (fun z => ⟨Or.inl, fun q => q.elim id (fun ⟨i, hi, _⟩ => absurd hi (Nat.not_lt_zero i))⟩) (M64_id u v)
    | succ j ih =>
      intro hj u v hu hv
      have hj2 := hft j (by omega)
      have hwj := hw j (by omega)
      have h0 := ih (by omega) u v hu hv
      rw [fl_s, fb2]
      by_cases e : fr j = u ∧ to j = v
      · obtain ⟨rfl, rfl⟩ := e
        rw [va_up_self]
        by_cases c : th j = true
        · rw [if_pos c]
          have h1 := M64_min (y := 1000 * (w j).toInt64 + 1) h0 (by rw [cost64 hwj]; omega)
          refine M64_cong (fun z => ?_) h1
          rw [cost64 hwj]
          constructor
          · rintro ((q | ⟨i, hi, q⟩) | q)
            · exact Or.inl q
            · exact Or.inr ⟨i, by omega, q⟩
            · exact Or.inr ⟨j, by omega, c, rfl, rfl, q⟩
          · rintro (q | ⟨i, hi, q1, q2, q3, q4⟩)
            · exact Or.inl (Or.inl q)
            · by_cases ei : i = j
              · subst ei; exact Or.inr q4
              · exact Or.inl (Or.inr ⟨i, by omega, q1, q2, q3, q4⟩)
        · rw [if_neg c]
          refine M64_cong (fun z => ?_) h0
          constructor
          · rintro (q | ⟨i, hi, q⟩)
            · exact Or.inl q
            · exact Or.inr ⟨i, by omega, q⟩
          · rintro (q | ⟨i, hi, q1, q2⟩)
            · exact Or.inl q
            · exact Or.inr ⟨i, by rcases Nat.lt_or_ge i j with x | x; exact x; exact absurd (by rw [← show i = j by omega]; exact q1) c, q1, q2⟩
      · rw [va_up_ne _ _ (by omega)]
        refine M64_cong (fun z => ?_) h0
        constructor
        · rintro (q | ⟨i, hi, q⟩)
          · exact Or.inl q
          · exact Or.inr ⟨i, by omega, q⟩
        · rintro (q | ⟨i, hi, q1, q2, q3, q4⟩)
          · exact Or.inl q
          · exact Or.inr ⟨i, by rcases Nat.lt_or_ge i j with x | x; exact x; exact absurd ⟨by rw [← show i = j by omega]; exact q2, by rw [← show i = j by omega]; exact q3⟩ e, q1, q2, q3, q4⟩
  exact key m (Nat.le_refl _)
theorem cS_bnd (hw : wOK m w) {u v : Nat} {c : Int} (h : cS m fr to w th m u v c) : -1001000 ≤ c ∧ c ≤ 1001000 := by
  rcases h with ⟨-, rfl⟩ | ⟨i, hi, -, -, -, rfl⟩
  · omega
  · have := hw i hi; omega
/-- the first matrix -/
theorem fwI_sp (hg : gOK n m fr to) (hw : wOK m w) (f : Nat → Int64) : fwG n m fr to w th (fwI n m fr to w th f) ∧ (∀ u v, u < n → v < n → -1001000 ≤ dI (fwI n m fr to w th f) u v ∧ (dI (fwI n m fr to w th f) u v < 1000000000000 → dI (fwI n m fr to w th f) u v ≤ 1001000)) ∧ (∀ u, u < n → dI (fwI n m fr to w th f) u u ≤ 0) ∧ (∀ j, j < m → th j = true → dI (fwI n m fr to w th f) (fr j) (to j) ≤ 1000 * (w j).toInt + 1) := by
  have h := fwI_ok (th := th) hg hw f
  refine ⟨fun u v hu hv => ?_, fun u v hu hv => ?_, fun u hu => ?_, fun j hj ht => ?_⟩
  · rcases h u v hu hv with ⟨h1, h2⟩ | ⟨h1, h2⟩
    · unfold dI; exact ⟨by omega, by omega, fun q => absurd q (by omega)⟩
    · have hb := cS_bnd hw h1
      unfold dI
      refine ⟨by omega, by omega, fun _ => ?_⟩
      rcases h1 with ⟨rfl, h1⟩ | ⟨i, hi, q1, rfl, rfl, q4⟩
      · exact ⟨0, 0, ⟨rfl, rfl⟩, by omega⟩
      · exact ⟨1, _, Ex_arc hi q1, by omega⟩
  · rcases h u v hu hv with ⟨h1, h2⟩ | ⟨h1, h2⟩
    · unfold dI; exact ⟨by omega, fun q => absurd q (by omega)⟩
    · have hb := cS_bnd hw h1
      unfold dI; exact ⟨by omega, fun _ => by omega⟩
  · rcases h u u hu hu with ⟨h1, h2⟩ | ⟨h1, h2⟩
    · exact absurd (Or.inl ⟨rfl, rfl⟩) (h2 0)
    · exact h2 0 (Or.inl ⟨rfl, rfl⟩)
  · have hj2 := hg.2.2 j hj
    rcases h (fr j) (to j) hj2.1 hj2.2 with ⟨h1, h2⟩ | ⟨h1, h2⟩
    · exact absurd (Or.inr ⟨j, hj, ht, rfl, rfl, rfl⟩) (h2 (1000 * (w j).toInt + 1))
    · exact h2 _ (Or.inr ⟨j, hj, ht, rfl, rfl, rfl⟩)
def bS (s : Nat) : Int := 1001000 * 2 ^ s
theorem bS_s (s : Nat) : bS (s + 1) = 2 * bS s := by unfold bS; rw [Int.pow_succ]; omega
theorem bS_12 : ∀ s, s ≤ 12 → 0 ≤ bS s ∧ 2 * bS s < 1000000000000 := by
  have h : ∀ s, s < 13 → 0 ≤ bS s ∧ 2 * bS s < 1000000000000 := by decide
  intro s hs; exact h s (by omega)
def dS (n m : Nat) (fr to : Nat → Nat) (w : Nat → Int32) (th : Nat → Bool) (f : Nat → Int64) (s : Nat) : Nat → Int64 := fl (fwM n) s (fwI n m fr to w th f)
theorem dS_s {f : Nat → Int64} {s : Nat} : dS n m fr to w th f (s + 1) = fwM n s (dS n m fr to w th f s) := rfl
theorem dS_fin (hg : gOK n m fr to) (hw : wOK m w) (f : Nat → Int64) : ∀ s, s ≤ n → fwG n m fr to w th (dS n m fr to w th f s) ∧ (∀ a b, a < n → b < n → dI (dS n m fr to w th f s) a b < 1000000000000 → dI (dS n m fr to w th f s) a b ≤ bS s) ∧ (∀ a b, a < n → b < n → dI (dS n m fr to w th f s) a b ≤ dI (fwI n m fr to w th f) a b) ∧ (∀ a b z, a < n → b < n → z < s → dI (dS n m fr to w th f s) a z < 1000000000000 → dI (dS n m fr to w th f s) z b < 1000000000000 → dI (dS n m fr to w th f s) a b < 1000000000000) := by
  obtain ⟨hn, hm, hft⟩ := id hg
  obtain ⟨i1, i2, i3, i4⟩ := fwI_sp (th := th) hg hw f
  intro s
  induction s with
  | zero => intro _; exact ⟨i1, fun a b ha hb hf => by have := (i2 a b ha hb).2 hf; show dI (fwI n m fr to w th f) a b ≤ bS 0; unfold bS; omega, fun a b _ _ => Int.le_refl _, fun a b z _ _ hz => absurd hz (Nat.not_lt_zero z)⟩
  | succ s ih =>
    intro hs
    obtain ⟨g1, g2, g3, g4⟩ := ih (by omega)
    obtain ⟨k1, k2, k3, k4, k5⟩ := fwM_fin hn (x := s) (by omega) g1 (bS_12 s (by omega)) g2
    rw [dS_s, bS_s]
    refine ⟨k1, k3, fun a b ha hb => Int.le_trans (k2 a b ha hb) (g3 a b ha hb), fun a b z ha hb hz f1 f2 => ?_⟩
    have hzn : z < n := by omega
    by_cases e : z = s
    · subst e
      have h1 : dI (dS n m fr to w th f z) a z < 1000000000000 := by rcases k5 a z ha hzn f1 with q | q; exact q; exact q.1
      have h2 : dI (dS n m fr to w th f z) z b < 1000000000000 := by rcases k5 z b hzn hb f2 with q | q; exact q; exact q.2
      exact k4 a b ha hb h1 h2
    · have hz2 : z < s := by omega
      rcases k5 a z ha hzn f1 with q | q
      · rcases k5 z b hzn hb f2 with r | r
        · have := g4 a b z ha hb hz2 q r; have := k2 a b ha hb; omega
        · exact k4 a b ha hb (g4 a s z ha (by omega) hz2 q r.1) r.2
      · rcases k5 z b hzn hb f2 with r | r
        · exact k4 a b ha hb q.1 (g4 s b z (by omega) hb hz2 q.2 r)
        · exact k4 a b ha hb q.1 r.2
theorem dS_mono (hg : gOK n m fr to) (hw : wOK m w) (f : Nat → Int64) {s : Nat} : ∀ t, s + t ≤ n → ∀ a b, a < n → b < n → dI (dS n m fr to w th f (s + t)) a b ≤ dI (dS n m fr to w th f s) a b
  | 0, _, a, b, _, _ => Int.le_refl _
  | t + 1, ht, a, b, ha, hb => by
    have h1 := dS_mono hg hw f (s := s) t (by omega) a b ha hb
    obtain ⟨g1, g2, -, -⟩ := dS_fin (th := th) hg hw f (s + t) (by omega)
    have h2 := (fwM_fin hg.1 (x := s + t) (by omega) g1 (bS_12 (s + t) (by have := hg.1; omega)) g2).2.1 a b ha hb
    have e : dS n m fr to w th f (s + (t + 1)) = fwM n (s + t) (dS n m fr to w th f (s + t)) := rfl
    rw [e]
    exact Int.le_trans h2 h1
/-- on a set of nodes that holds all between them, with no entry of its own below nothing, the entries keep to the triangle -/
theorem dS_tri (hg : gOK n m fr to) (hw : wOK m w) (f : Nat → Int64) {R : Nat → Prop} (hR : ∀ a, R a → a < n) (hcl : ∀ a b x, R a → R b → x < n → rch m fr to w th a x → rch m fr to w th x b → R x) (hd : ∀ a, R a → 0 ≤ dI (dS n m fr to w th f n) a a) :
    ∀ s, s ≤ n → (∀ a b, R a → R b → -(bS s) ≤ dI (dS n m fr to w th f s) a b) ∧ (∀ a b z, R a → R b → R z → z < s → dI (dS n m fr to w th f s) a z < 1000000000000 → dI (dS n m fr to w th f s) z b < 1000000000000 → dI (dS n m fr to w th f s) a b ≤ dI (dS n m fr to w th f s) a z + dI (dS n m fr to w th f s) z b) := by
  obtain ⟨hn, hm, hft⟩ := id hg
  obtain ⟨i1, i2, i3, i4⟩ := fwI_sp (th := th) hg hw f
  intro s
  induction s with
  | zero => intro _; exact ⟨fun a b ha hb => by have := (i2 a b (hR a ha) (hR b hb)).1; have e : dS n m fr to w th f 0 = fwI n m fr to w th f := rfl; rw [e]; unfold bS; omega, fun a b z _ _ _ hz => absurd hz (Nat.not_lt_zero z)⟩
  | succ s ih =>
    intro hs
    obtain ⟨l1, l2⟩ := ih (by omega)
    obtain ⟨g1, g2, g3, g4⟩ := dS_fin (th := th) hg hw f s (by omega)
    have hB := bS_12 s (by omega)
    rw [dS_s, bS_s]
    by_cases hx : R s
    · have hdd : 0 ≤ dI (dS n m fr to w th f s) s s := by
        have h1 := dS_mono (th := th) hg hw f (s := s) (n - s) (by omega) s s (hR s hx) (hR s hx)
        rw [show s + (n - s) = n by omega] at h1
        have := hd s hx; omega
      have V := fwM_val hn hR hx g1 hB l1 hdd
      generalize dS n m fr to w th f s = D at V l1 l2 g1 g2 g4 hdd ⊢
      refine ⟨fun a b ha hb => ?_, fun a b z ha hb hz hzs f1 f2 => ?_⟩
      · rcases (V a b ha hb).1 with q | ⟨-, -, q⟩
        · rw [q]; have := l1 a b ha hb; omega
        · rw [q]; have := l1 a s ha hx; have := l1 s b hx hb; omega
      · obtain ⟨-, v2, v3⟩ := V a b ha hb
        have hal := l1 a s ha hx
        by_cases e : z = s
        · subst e
          have p1 : dI D a z ≤ dI (fwM n z D) a z ∧ dI D a z < 1000000000000 := by
            rcases (V a z ha hz).1 with q | ⟨q1, q2, q3⟩
            · rw [q] at f1 ⊢; exact ⟨Int.le_refl _, f1⟩
            · exact ⟨by omega, q1⟩
          have p2 : dI D z b ≤ dI (fwM n z D) z b ∧ dI D z b < 1000000000000 := by
            rcases (V z b hz hb).1 with q | ⟨q1, q2, q3⟩
            · rw [q] at f2 ⊢; exact ⟨Int.le_refl _, f2⟩
            · exact ⟨by omega, q2⟩
          have := v3 p1.2 p2.2
          omega
        · have hz2 : z < s := by omega
          have han := hR a ha
          have hbn := hR b hb
          have hzn := hR z hz
          have hsn := hR s hx
          rcases (V a z ha hz).1 with q | ⟨q1, q2, q3⟩
          · rw [q] at f1 ⊢
            rcases (V z b hz hb).1 with r | ⟨r1, r2, r3⟩
            · rw [r] at f2 ⊢
              have := l2 a b z ha hb hz hz2 f1 f2; omega
            · rw [r3]
              have t1 := l2 a s z ha hx hz hz2 f1 r1
              have t2 := g4 a s z han hsn hz2 f1 r1
              have := v3 t2 r2; omega
          · rw [q3]
            rcases (V z b hz hb).1 with r | ⟨r1, r2, r3⟩
            · rw [r] at f2 ⊢
              have t1 := l2 s b z hx hb hz hz2 q2 f2
              have t2 := g4 s b z hsn hbn hz2 q2 f2
              have := v3 q1 t2; omega
            · rw [r3]
              have t1 := l2 s s z hx hx hz hz2 q2 r1
              have := v3 q1 r2; omega
    · have V := fwM_out hn hR (x := s) (by omega) g1 (fun a b ha hb h1 h2 => hx (hcl a b s ha hb (by omega) h1 h2))
      refine ⟨fun a b ha hb => ?_, fun a b z ha hb hz hzs f1 f2 => ?_⟩
      · rw [V a b ha hb]; have := l1 a b ha hb; omega
      · rw [V a z ha hz] at f1 ⊢
        rw [V z b hz hb] at f2 ⊢
        rw [V a b ha hb]
        exact l2 a b z ha hb hz (by rcases Nat.lt_or_ge z s with q | q; exact q; exact absurd (by rw [← show z = s by omega]; exact hz) hx) f1 f2
-- what 'best' is
theorem be_eq {f : Nat → Int64} : fwB n m fr to w th f = dS n m fr to w th f n := rfl
theorem be_bd (hg : gOK n m fr to) (hw : wOK m w) (f : Nat → Int64) {u v : Nat} (hu : u < n) (hv : v < n) : -1000000000000 ≤ dI (fwB n m fr to w th f) u v ∧ dI (fwB n m fr to w th f) u v ≤ 1000000000000 := by
  have h := (dS_fin (th := th) hg hw f n (Nat.le_refl _)).1 u v hu hv
  exact ⟨h.1, h.2.1⟩
theorem be_lo (hg : gOK n m fr to) (hw : wOK m w) (f : Nat → Int64) {u v : Nat} (hu : u < n) (hv : v < n) (hf : dI (fwB n m fr to w th f) u v < 1000000000000) : ∃ k z, Ex m fr to w th k u v z ∧ 1000 * z + (k : Int) ≤ dI (fwB n m fr to w th f) u v :=
  ((dS_fin (th := th) hg hw f n (Nat.le_refl _)).1 u v hu hv).2.2 hf
theorem be_fin (hg : gOK n m fr to) (hw : wOK m w) (f : Nat → Int64) {u v : Nat} (hu : u < n) (hr : rch m fr to w th u v) : dI (fwB n m fr to w th f) u v < 1000000000000 := by
  obtain ⟨i1, i2, i3, i4⟩ := fwI_sp (th := th) hg hw f
  obtain ⟨g1, g2, g3, g4⟩ := dS_fin (th := th) hg hw f n (Nat.le_refl _)
  rw [be_eq]
  obtain ⟨k, z, h⟩ := hr
  induction k generalizing v z with
  | zero =>
    obtain ⟨rfl, -⟩ := h
    have := g3 u u hu hu; have := i3 u hu; omega
  | succ k ih =>
    have hv := Ex_end hg hu h
    obtain ⟨j, hj, ht, rfl, h⟩ := h
    have hj2 := hg.2.2 j hj
    have := g3 (fr j) (to j) hj2.1 hj2.2
    have := i4 j hj ht
    have := hw j hj
    exact g4 u (to j) (fr j) hu hv hj2.1 (ih _ h) (by omega)
theorem be_up (hg : gOK n m fr to) (hw : wOK m w) (f : Nat → Int64) {R : Nat → Prop} (hR : ∀ a, R a → a < n) (hcl : ∀ a b x, R a → R b → x < n → rch m fr to w th a x → rch m fr to w th x b → R x) (hd : ∀ a, R a → 0 ≤ dI (fwB n m fr to w th f) a a) {u : Nat} (hu : R u) : ∀ {k v : Nat} {z : Int}, R v → Ex m fr to w th k u v z → dI (fwB n m fr to w th f) u v ≤ 1000 * z + (k : Int) := by
  obtain ⟨i1, i2, i3, i4⟩ := fwI_sp (th := th) hg hw f
  obtain ⟨g1, g2, g3, g4⟩ := dS_fin (th := th) hg hw f n (Nat.le_refl _)
  obtain ⟨l1, l2⟩ := dS_tri hg hw f hR hcl hd n (Nat.le_refl _)
  have hun := hR u hu
  intro k
  induction k with
  | zero =>
    intro v z hv h
    obtain ⟨rfl, rfl⟩ := h
    rw [be_eq]
    have := g3 u u hun hun; have := i3 u hun; omega
  | succ k ih =>
    intro v z hv h
    obtain ⟨j, hj, ht, rfl, h⟩ := h
    have hj2 := hg.2.2 j hj
    have hy : R (fr j) := hcl u (to j) (fr j) hu hv hj2.1 ⟨k, _, h⟩ (rch_arc hj ht)
    have h1 := ih hy h
    have b1 := be_fin (th := th) hg hw f hun ⟨k, _, h⟩
    rw [be_eq] at h1 b1 ⊢
    have h2 := g3 (fr j) (to j) hj2.1 hj2.2
    have h3 := i4 j hj ht
    have h4 := hw j hj
    have := l2 u (to j) (fr j) hu hv hy hj2.1 b1 (by omega)
    rw [Int.natCast_add]
    omega
/-- a falling walk back shows itself on the diagonal, in every set that holds all between its nodes -/
theorem be_neg (hg : gOK n m fr to) (hw : wOK m w) (f : Nat → Int64) {R : Nat → Prop} (hR : ∀ a, R a → a < n) (hcl : ∀ a b x, R a → R b → x < n → rch m fr to w th a x → rch m fr to w th x b → R x) {x c : Nat} {z : Int} (hx : R x) (h : Ex m fr to w th c x x z) (hz : z < 0) : ∃ y, R y ∧ dI (fwB n m fr to w th f) y y < 0 := by
  by_cases q : ∃ y, R y ∧ dI (fwB n m fr to w th f) y y < 0
  · exact q
  · exfalso
    have hd : ∀ a, R a → 0 ≤ dI (fwB n m fr to w th f) a a := fun a ha => by
      rcases Int.lt_or_le (dI (fwB n m fr to w th f) a a) 0 with p | p
      · exact absurd ⟨a, ha, p⟩ q
      · exact p
    obtain ⟨y, c2, z2, hy, r1, r2, hc, hc2, hz2, e⟩ := short_neg hg (hR x hx) c z h hz
    have hyR := hcl x x y hx hx hy r1 r2
    have h1 := be_up hg hw f hR hcl hd hyR hyR e
    have h2 := hd y hyR
    have := hg.1
    omega
theorem be_diag (hg : gOK n m fr to) (hw : wOK m w) (f : Nat → Int64) {x : Nat} (hx : x < n) (h : dI (fwB n m fr to w th f) x x < 0) : ∃ k z, Ex m fr to w th k x x z ∧ z < 0 := by
  obtain ⟨k, z, e, h1⟩ := be_lo (th := th) hg hw f hx hx (by omega)
  exact ⟨k, z, e, by omega⟩
end MG
