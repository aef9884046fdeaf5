/-! MATHEMATICS: the reference's powers are the same least weights -/
def M64 (x : Int64) (S : Int → Prop) : Prop := (x.toInt = 1000000000000 ∧ ∀ z, ¬ S z) ∨ (S x.toInt ∧ ∀ z, S z → x.toInt ≤ z)
theorem M64_cong {x : Int64} {S S' : Int → Prop} (h : ∀ z, S z ↔ S' z) (hx : M64 x S) : M64 x S' := by
  rcases hx with ⟨h1, h2⟩ | ⟨h1, h2⟩
  · exact Or.inl ⟨h1, fun z q => h2 z ((h z).mpr q)⟩
  · exact Or.inr ⟨(h _).mp h1, fun z q => h2 z ((h z).mpr q)⟩
theorem M64_uniq {x y : Int64} {S : Int → Prop} (hx : M64 x S) (hy : M64 y S) : x = y := by
  apply Int64.toInt_inj.mp
  rcases hx with ⟨h1, h2⟩ | ⟨h1, h2⟩
  · rcases hy with ⟨h3, h4⟩ | ⟨h3, h4⟩
    · omega
    · exact absurd h3 (h2 _)
  · rcases hy with ⟨h3, h4⟩ | ⟨h3, h4⟩
    · exact absurd h1 (h4 _)
    · have := h2 _ h3; have := h4 _ h1; omega
theorem far64 : (1000000000000 : Int64).toInt = 1000000000000 := by decide
theorem leF {a : Int64} : 1000000000000 ≤ a ↔ 1000000000000 ≤ a.toInt := by rw [Int64.le_iff_toInt_le, far64]
theorem ltF {a : Int64} : a < 1000000000000 ↔ a.toInt < 1000000000000 := by rw [Int64.lt_iff_toInt_lt, far64]
theorem nfar64 : (-1000000000000 : Int64).toInt = -1000000000000 := by decide
theorem M64_min {c y : Int64} {C : Int → Prop} (hc : M64 c C) (hy : y.toInt < 1000000000000) : M64 (if c ≤ y then c else y) (fun z => C z ∨ z = y.toInt) := by
  by_cases q : c ≤ y
  · rw [if_pos q]
    rw [Int64.le_iff_toInt_le] at q
    rcases hc with ⟨c1, c2⟩ | ⟨c1, c2⟩
    · omega
    · exact Or.inr ⟨Or.inl c1, fun z hz => hz.elim (c2 z) (fun e => by omega)⟩
  · rw [if_neg q]
    rw [Int64.le_iff_toInt_le] at q
    refine Or.inr ⟨Or.inr rfl, fun z hz => ?_⟩
    rcases hz with hz | hz
    · rcases hc with ⟨c1, c2⟩ | ⟨c1, c2⟩
      · exact absurd hz (c2 z)
      · have := c2 z hz; omega
    · omega
def jnW (a b c : Int64) : Int64 := if 1000000000000 ≤ a then c else if 1000000000000 ≤ b then c else if c ≤ a + b then c else a + b
theorem M64_jn {a b c : Int64} {A B C : Int → Prop} (ha : M64 a A) (hb : M64 b B) (hc : M64 c C) (hA : ∀ z, A z → -100000 ≤ z ∧ z ≤ 100000) (hB : ∀ z, B z → -100000 ≤ z ∧ z ≤ 100000) : M64 (jnW a b c) (fun z => C z ∨ ∃ z1 z2, A z1 ∧ B z2 ∧ z = z1 + z2) := by
  unfold jnW
  rcases ha with ⟨a1, a2⟩ | ⟨a1, a2⟩
  · rw [if_pos (leF.mpr (by omega))]
    exact M64_cong (fun z => ⟨Or.inl, fun q => q.elim id (fun ⟨z1, z2, h, _⟩ => absurd h (a2 z1))⟩) hc
  · have ba := hA _ a1
    rw [if_neg (fun q => by have := leF.mp q; omega)]
    rcases hb with ⟨b1, b2⟩ | ⟨b1, b2⟩
    · rw [if_pos (leF.mpr (by omega))]
      exact M64_cong (fun z => ⟨Or.inl, fun q => q.elim id (fun ⟨z1, z2, _, h, _⟩ => absurd h (b2 z2))⟩) hc
    · have bb := hB _ b1
      rw [if_neg (fun q => by have := leF.mp q; omega)]
      have es : (a + b).toInt = a.toInt + b.toInt := ad64 (by omega) (by omega)
      have h := M64_min (y := a + b) hc (by omega)
      rcases h with ⟨h1, h2⟩ | ⟨h1, h2⟩
      · exact absurd (Or.inr rfl) (h2 (a + b).toInt)
      · refine Or.inr ⟨?_, fun z hz => ?_⟩
        · rcases h1 with h1 | h1
          · exact Or.inl h1
          · exact Or.inr ⟨_, _, a1, b1, by rw [h1, es]⟩
        · rcases hz with hz | ⟨z1, z2, p1, p2, e⟩
          · exact h2 z (Or.inl hz)
          · have q1 := a2 _ p1; have q2 := b2 _ p2; have q3 := h2 _ (Or.inr rfl); omega
section MP
variable {n m : Nat} {fr to : Nat → Nat} {w : Nat → Int32} {th : Nat → Bool}
def POK (n m : Nat) (fr to : Nat → Nat) (w : Nat → Int32) (th : Nat → Bool) (k : Nat) (f : Nat → Int64) : Prop := ∀ u v, u < n → v < n → M64 (f (12 * u + v)) (Wk m fr to w th k u v)
theorem fb1_at (N : Nat) (f : Nat → Int64) {u v : Nat} (hv : v < 12) (h : 12 * u + v < N) : fl fb1 N f (12 * u + v) = if u = v then 0 else 1000000000000 := by
  have := flu_in (s := fb1) (g := fun i => i) (c := fun i => if i / 12 = i % 12 then 0 else 1000000000000) (fun _ _ => rfl) f N (12 * u + v) h (fun a b _ _ e => e)
  rw [show (12 * u + v) / 12 = u by omega, show (12 * u + v) % 12 = v by omega] at this
  exact this
theorem M64_id (u v : Nat) : M64 (if u = v then 0 else 1000000000000) (fun z => u = v ∧ z = 0) := by
  by_cases e : u = v
  · rw [if_pos e]
    exact Or.inr ⟨⟨e, by decide⟩, fun z hz => by rw [hz.2]; decide⟩
  · rw [if_neg e]
    exact Or.inl ⟨by decide, fun z hz => e hz.1⟩
theorem Wk_0 {u v : Nat} {z : Int} : (u = v ∧ z = 0) ↔ Wk m fr to w th 0 u v z := by
  constructor
  · intro h; exact ⟨0, Nat.le_refl _, h⟩
  · rintro ⟨i, hi, h⟩
    have : i = 0 := by omega
    subst this
    exact h
theorem pa_ok (hg : gOK n m fr to) (hw : wOK m w) (f : Nat → Int64) : POK n m fr to w th 1 (fl (fa2 fr to w th) m (fl fb1 (12 * n) f)) := by
  obtain ⟨hn, hm, hft⟩ := id hg
  have key : ∀ j, j ≤ m → ∀ u v, u < n → v < n → M64 (fl (fa2 fr to w th) j (fl fb1 (12 * n) f) (12 * u + v)) (fun z => (u = v ∧ z = 0) ∨ ∃ i, i < j ∧ (th i = true ∧ fr i = u ∧ to i = v ∧ z = (w i).toInt)) := by
    intro j
    induction j with
    | zero =>
      intro _ u v hu hv
      rw [fl_0, fb1_at (12 * n) f (by omega) (by omega)]
      exact M64_cong (fun z => ⟨Or.inl, fun q => q.elim id (fun ⟨i, hi, _⟩ => absurd hi (Nat.not_lt_zero i))⟩) (M64_id u v)
    | succ j ih =>
      intro hj u v hu hv
      have hj2 := hft j (by omega)
      have hwj := hw j (by omega)
      have h0 := ih (by omega) u v hu hv
      rw [fl_s, fa2]
      by_cases e : fr j = u ∧ to j = v
      · obtain ⟨rfl, rfl⟩ := e
        rw [va_up_self]
        by_cases c : th j = true
        · rw [if_pos c]
          have h1 := M64_min (y := (w j).toInt64) h0 (by rw [Int32.toInt_toInt64]; omega)
          refine M64_cong (fun z => ?_) h1
          rw [Int32.toInt_toInt64]
          constructor
          · rintro ((q | ⟨i, hi, q⟩) | q)
            · exact Or.inl q
            · exact Or.inr ⟨i, by omega, q⟩
            · exact Or.inr ⟨j, by omega, c, rfl, rfl, q⟩
          · rintro (q | ⟨i, hi, q1, q2, q3, q4⟩)
            · exact Or.inl (Or.inl q)
            · by_cases ei : i = j
              · subst ei; exact Or.inr q4
              · exact Or.inl (Or.inr ⟨i, by omega, q1, q2, q3, q4⟩)
        · rw [if_neg c]
          refine M64_cong (fun z => ?_) h0
          constructor
          · rintro (q | ⟨i, hi, q⟩)
            · exact Or.inl q
            · exact Or.inr ⟨i, by omega, q⟩
          · rintro (q | ⟨i, hi, q1, q2⟩)
            · exact Or.inl q
            · exact Or.inr ⟨i, by rcases Nat.lt_or_ge i j with x | x; exact x; exact absurd (by rw [← show i = j by omega]; exact q1) c, q1, q2⟩
      · rw [va_up_ne _ _ (by omega)]
        refine M64_cong (fun z => ?_) h0
        constructor
        · rintro (q | ⟨i, hi, q⟩)
          · exact Or.inl q
          · exact Or.inr ⟨i, by omega, q⟩
        · rintro (q | ⟨i, hi, q1, q2, q3, q4⟩)
          · exact Or.inl q
          · exact Or.inr ⟨i, by rcases Nat.lt_or_ge i j with x | x; exact x; exact absurd ⟨by rw [← show i = j by omega]; exact q2, by rw [← show i = j by omega]; exact q3⟩ e, q1, q2, q3, q4⟩
  intro u v hu hv
  refine M64_cong (fun z => ?_) (key m (Nat.le_refl _) u v hu hv)
  constructor
  · rintro (q | ⟨i, hi, q1, rfl, rfl, rfl⟩)
    · exact ⟨0, by omega, q⟩
    · exact ⟨1, by omega, Ex_arc hi q1⟩
  · rintro ⟨i, hi, h⟩
    by_cases e : i = 0
    · subst e; exact Or.inl h
    · have : i = 1 := by omega
      subst this
      obtain ⟨j, hj, ht, rfl, h1, h2⟩ := h
      exact Or.inr ⟨j, hj, ht, h1.symm, rfl, by omega⟩
theorem jn_at (hn : n ≤ 12) (A B bo : Nat → Int64) {u v : Nat} (hu : u < n) (hv : v < n) : jnF n A B bo (12 * u + v) = fl (jnS A B u v) n 1000000000000 := by
  have key : ∀ i, i ≤ n → fl (jnU n A B) i bo (12 * u + v) = if u < i then fl (jnS A B u v) n 1000000000000 else bo (12 * u + v) := by
    intro i
    induction i with
    | zero => intro _; rfl
    | succ i ih =>
      intro hi
      rw [fl_s]
      by_cases e : u = i
      · subst e
        rw [if_pos (by omega)]
        exact flu_in (s := jnV n A B u) (g := fun v => 12 * u + v) (c := fun v => fl (jnS A B u v) n 1000000000000) (fun _ _ => rfl) _ n v hv (fun a b _ _ h => by have h : 12 * u + a = 12 * u + b := h; omega)
      · have h1 := flu_out (s := jnV n A B i) (g := fun v => 12 * i + v) (c := fun v => fl (jnS A B i v) n 1000000000000) (fun _ _ => rfl) (fl (jnU n A B) i bo) n (12 * u + v) (fun a ha h => by have h : 12 * i + a = 12 * u + v := h; omega)
        show fl (jnV n A B i) n (fl (jnU n A B) i bo) (12 * u + v) = _
        rw [h1, ih (by omega)]
        by_cases h2 : u < i
        · rw [if_pos h2, if_pos (show u < i + 1 by omega)]
        · rw [if_neg h2, if_neg (show ¬ u < i + 1 by omega)]
  have := key n (Nat.le_refl _)
  rw [if_pos hu] at this
  exact this
theorem jn_ok (hg : gOK n m fr to) (hw : wOK m w) {a b : Nat} (ha : a ≤ 100) (hb : b ≤ 100) {A B : Nat → Int64} (bo : Nat → Int64) (hA : POK n m fr to w th a A) (hB : POK n m fr to w th b B) : POK n m fr to w th (a + b) (jnF n A B bo) := by
  obtain ⟨hn, hm, hft⟩ := id hg
  intro u v hu hv
  rw [jn_at hn A B bo hu hv]
  have key : ∀ x, x ≤ n → M64 (fl (jnS A B u v) x 1000000000000) (fun z => ∃ y, y < x ∧ ∃ z1 z2, Wk m fr to w th a u y z1 ∧ Wk m fr to w th b y v z2 ∧ z = z1 + z2) := by
    intro x
    induction x with
    | zero => intro _; exact Or.inl ⟨far64, fun z ⟨y, hy, _⟩ => absurd hy (Nat.not_lt_zero y)⟩
    | succ x ih =>
      intro hx
      have h1 := M64_jn (hA u x hu (by omega)) (hB x v (by omega) hv) (ih (by omega)) (fun z hz => by have := Wk_bnd hw hz; omega) (fun z hz => by have := Wk_bnd hw hz; omega)
      show M64 (jnS A B u v x (fl (jnS A B u v) x 1000000000000)) _
      refine M64_cong (fun z => ?_) h1
      constructor
      · rintro (⟨y, hy, q⟩ | q)
        · exact ⟨y, by omega, q⟩
        · exact ⟨x, by omega, q⟩
      · rintro ⟨y, hy, q⟩
        by_cases e : y = x
        · subst e; exact Or.inr q
        · exact Or.inl ⟨y, by omega, q⟩
  refine M64_cong (fun z => ?_) (key n (Nat.le_refl _))
  constructor
  · rintro ⟨y, hy, z1, z2, ⟨i1, h1, e1⟩, ⟨i2, h2, e2⟩, rfl⟩
    exact ⟨i1 + i2, by omega, Ex_app e1 i2 v z2 e2⟩
  · rintro ⟨i, hi, h⟩
    by_cases c : i ≤ a
    · exact ⟨v, hv, z, 0, ⟨i, c, h⟩, ⟨0, by omega, rfl, rfl⟩, by omega⟩
    · rw [show i = a + (i - a) by omega] at h
      obtain ⟨x, z1, z2, e1, e2, e3⟩ := Ex_split _ _ _ h
      exact ⟨x, Ex_end hg hu e1, z1, z2, ⟨a, Nat.le_refl _, e1⟩, ⟨i - a, by omega, e2⟩, e3⟩
theorem tk_at (bo f : Nat → Int64) {u v : Nat} (hv : v < 12) (h : u < n) : tkF n bo f (12 * u + v) = bo (12 * u + v) :=
  flu_in (s := tkS bo) (g := fun i => i) (c := fun i => bo i) (fun _ _ => rfl) f (12 * n) (12 * u + v) (by omega) (fun a b _ _ e => e)
theorem tk_ok (hn : n ≤ 12) {k : Nat} {bo : Nat → Int64} (f : Nat → Int64) (h : POK n m fr to w th k bo) : POK n m fr to w th k (tkF n bo f) := by
  intro u v hu hv
  rw [tk_at bo f (by omega) hu]
  exact h u v hu hv
theorem pw_ok (hg : gOK n m fr to) (hw : wOK m w) : ∀ (f q a b : Nat) (s : T3), q ≤ f → a + q * b ≤ 20 → POK n m fr to w th a s.1 → POK n m fr to w th b s.2.1 → POK n m fr to w th (a + q * b) (pwF n f q s).1
  | 0, q, a, b, s, hq, _, h1, _ => by
    have : q = 0 := by omega
    subst this
    rw [Nat.zero_mul]
    exact h1
  | f + 1, q, a, b, s, hq, hb, h1, h2 => by
    by_cases e : q = 0
    · subst e
      rw [pwF_0, Nat.zero_mul]
      exact h1
    · have hq0 : 0 < q := by omega
      have hbq : b ≤ q * b := Nat.le_mul_of_pos_left b hq0
      rw [pwF_s hq0]
      by_cases c : q % 2 = 1
      · rw [if_pos c]
        have e1 : a + q * b = (a + b) + (q / 2) * (b + b) := by
          have : q = 2 * (q / 2) + 1 := by omega
          have h3 : q * b = 2 * ((q / 2) * b) + b := by
            conv => lhs; rw [this]
            rw [Nat.add_mul, Nat.mul_assoc, Nat.one_mul]
          rw [Nat.mul_add]; omega
        rw [e1]
        rw [e1] at hb
        exact pw_ok hg hw f (q / 2) (a + b) (b + b) (pwE n (pwO n s)) (by omega) hb (tk_ok hg.1 _ (jn_ok hg hw (by omega) (by omega) _ h1 h2)) (tk_ok hg.1 _ (jn_ok hg hw (by omega) (by omega) _ h2 h2))
      · rw [if_neg c]
        have e1 : a + q * b = a + (q / 2) * (b + b) := by
          have : q = 2 * (q / 2) := by omega
          have h3 : q * b = 2 * ((q / 2) * b) := by
            conv => lhs; rw [this]
            rw [Nat.mul_assoc]
          rw [Nat.mul_add]; omega
        rw [e1]
        rw [e1] at hb
        exact pw_ok hg hw f (q / 2) a (b + b) (pwE n s) (by omega) hb h1 (tk_ok hg.1 _ (jn_ok hg hw (by omega) (by omega) _ h2 h2))
theorem fg_ok (hg : gOK n m fr to) (hw : wOK m w) (al pa bo : Nat → Int64) {x : Nat} (hx : x ≤ 20) : POK n m fr to w th x (fgR n m fr to w th al pa bo x).1 := by
  have h := pw_ok hg hw x x 0 1 (pw0 n m fr to w th al pa bo) (Nat.le_refl _) (by omega) (fun u v hu hv => by
    have hn := hg.1
    show M64 (fl fb1 (12 * n) al (12 * u + v)) _
    rw [fb1_at (12 * n) al (by omega) (by omega)]
    exact M64_cong (fun z => Wk_0) (M64_id u v)) (pa_ok hg hw pa)
  rw [Nat.zero_add, Nat.mul_one] at h
  exact h
theorem aV_ok (hg : gOK n m fr to) (hw : wOK m w) {x : Nat} (hx : x ≤ 20) : POK n m fr to w th x (aV n m fr to w th x) := fg_ok hg hw z64 z64 z64 hx
theorem inD_ok (hg : gOK n m fr to) (hw : wOK m w) : inD n m fr to w th := fun al pa bo x u v hx hu hv => M64_uniq (fg_ok hg hw al pa bo hx u v hu hv) (aV_ok hg hw hx u v hu hv)
end MP
