theorem bm32 {n : Int} (h1 : -2147483648 ≤ n) (h2 : n < 2147483648) : n.bmod (2 ^ 32) = n := Int.bmod_eq_of_le (by omega) (by omega)
theorem bm64 {n : Int} (h1 : -9223372036854775808 ≤ n) (h2 : n < 9223372036854775808) : n.bmod (2 ^ 64) = n := Int.bmod_eq_of_le (by omega) (by omega)
theorem ad32 {x y : Int32} (h1 : -2147483648 ≤ x.toInt + y.toInt) (h2 : x.toInt + y.toInt < 2147483648) : (x + y).toInt = x.toInt + y.toInt := by rw [Int32.toInt_add]; exact bm32 h1 h2
theorem sb32 {x y : Int32} (h1 : -2147483648 ≤ x.toInt - y.toInt) (h2 : x.toInt - y.toInt < 2147483648) : (x - y).toInt = x.toInt - y.toInt := by rw [Int32.toInt_sub]; exact bm32 h1 h2
theorem ad64 {x y : Int64} (h1 : -9223372036854775808 ≤ x.toInt + y.toInt) (h2 : x.toInt + y.toInt < 9223372036854775808) : (x + y).toInt = x.toInt + y.toInt := by rw [Int64.toInt_add]; exact bm64 h1 h2
theorem sb64 {x y : Int64} (h1 : -9223372036854775808 ≤ x.toInt - y.toInt) (h2 : x.toInt - y.toInt < 9223372036854775808) : (x - y).toInt = x.toInt - y.toInt := by rw [Int64.toInt_sub]; exact bm64 h1 h2
theorem ml64 {x y : Int64} (h1 : -9223372036854775808 ≤ x.toInt * y.toInt) (h2 : x.toInt * y.toInt < 9223372036854775808) : (x * y).toInt = x.toInt * y.toInt := by rw [Int64.toInt_mul]; exact bm64 h1 h2
/-! MATHEMATICS: the class's layers are the least weights of walks of so many arcs at most -/
def M32 (x : Int32) (S : Int → Prop) : Prop := (x.toInt = 1000000000 ∧ ∀ z, ¬ S z) ∨ (S x.toInt ∧ ∀ z, S z → x.toInt ≤ z)
theorem no32 {x : Int32} : x = 1000000000 ↔ x.toInt = 1000000000 := by
  constructor
  · rintro rfl; decide
  · intro h; exact Int32.toInt_inj.mp (by rw [h]; decide)
theorem M32_cong {x : Int32} {S S' : Int → Prop} (h : ∀ z, S z ↔ S' z) (hx : M32 x S) : M32 x S' := by
  rcases hx with ⟨h1, h2⟩ | ⟨h1, h2⟩
  · exact Or.inl ⟨h1, fun z q => h2 z ((h z).mpr q)⟩
  · exact Or.inr ⟨(h _).mp h1, fun z q => h2 z ((h z).mpr q)⟩
theorem flu_out {α : Type} {s : Nat → (Nat → α) → Nat → α} {g : Nat → Nat} {c : Nat → α} (hs : ∀ i f, s i f = va_up f (g i) (c i)) (f : Nat → α) : ∀ (N x : Nat), (∀ i, i < N → g i ≠ x) → fl s N f x = f x
  | 0, x, _ => rfl
  | N + 1, x, h => by
    rw [fl_s, hs, va_up_ne _ _ (fun q => h N (by omega) q.symm)]
    exact flu_out hs f N x (fun i hi => h i (by omega))
theorem flu_in {α : Type} {s : Nat → (Nat → α) → Nat → α} {g : Nat → Nat} {c : Nat → α} (hs : ∀ i f, s i f = va_up f (g i) (c i)) (f : Nat → α) : ∀ (N i : Nat), i < N → (∀ a b, a < N → b < N → g a = g b → a = b) → fl s N f (g i) = c i
  | 0, i, h, _ => absurd h (Nat.not_lt_zero i)
  | N + 1, i, h, hi => by
    rw [fl_s, hs]
    by_cases e : i = N
    · subst e; rw [va_up_self]
    · rw [va_up_ne _ _ (fun q => e (hi i N (by omega) (by omega) q))]
      exact flu_in hs f N i (by omega) (fun a b ha hb => hi a b (by omega) (by omega))
section ML
variable {n m : Nat} {fr to : Nat → Nat} {w : Nat → Int32} {th : Nat → Bool}
theorem first_at (hn : n ≤ 12) (f : Nat → Int32) {u v : Nat} (hu : u < n) (hv : v < n) : cFirst n f (u * 12 + v) = if u = v then 0 else 1000000000 := by
  have key : ∀ i, i ≤ n → fl (ffS n) i f (u * 12 + v) = if u < i then (if u = v then 0 else 1000000000) else f (u * 12 + v) := by
    intro i
    induction i with
    | zero => intro _; rfl
    | succ i ih =>
      intro hi
      rw [fl_s]
      by_cases e : u = i
      · subst e
        rw [if_pos (by omega)]
        exact flu_in (s := ffS1 u) (g := fun v => u * 12 + v) (c := fun v => if u = v then 0 else 1000000000) (fun _ _ => rfl) _ n v hv (fun a b _ _ h => by have h : u * 12 + a = u * 12 + b := h; omega)
      · have h1 := flu_out (s := ffS1 i) (g := fun v => i * 12 + v) (c := fun v => if i = v then 0 else 1000000000) (fun _ _ => rfl) (fl (ffS n) i f) n (u * 12 + v) (fun a ha h => by have h : i * 12 + a = u * 12 + v := h; omega)
        show fl (ffS1 i) n (fl (ffS n) i f) (u * 12 + v) = _
        rw [h1, ih (by omega)]
        by_cases h2 : u < i
        · rw [if_pos h2, if_pos (show u < i + 1 by omega)]
        · rw [if_neg h2, if_neg (show ¬ u < i + 1 by omega)]
  have := key n (Nat.le_refl _)
  rw [if_pos hu] at this
  exact this
def leV (b c wt : Int32) : Int32 := if b = 1000000000 then c else if c ≤ b + wt then c else b + wt
theorem len_at (hn : n ≤ 12) {t h : Nat} (hh : h < 12) (wt : Int32) (bf nw : Nat → Int32) {u v : Nat} (hu : u < n) (hv : v < 12) : cLen n t h wt bf nw (u * 12 + v) = if v = h then leV (bf (u * 12 + t)) (nw (u * 12 + h)) wt else nw (u * 12 + v) := by
  have key : ∀ i, i ≤ n → ∀ u v, v < 12 → fl (leS t h wt bf) i nw (u * 12 + v) = if u < i ∧ v = h then leV (bf (u * 12 + t)) (nw (u * 12 + h)) wt else nw (u * 12 + v) := by
    intro i
    induction i with
    | zero => intro _ u v _; rw [if_neg (by omega)]; rfl
    | succ i ih =>
      intro hi u v hv
      rw [fl_s, leS]
      have e0 : fl (leS t h wt bf) i nw (i * 12 + h) = nw (i * 12 + h) := by rw [ih (by omega) i h hh, if_neg (by omega)]
      rw [e0]
      by_cases e : u = i ∧ v = h
      · obtain ⟨rfl, rfl⟩ := e
        have eR : (if u < u + 1 ∧ v = v then leV (bf (u * 12 + t)) (nw (u * 12 + v)) wt else nw (u * 12 + v)) = leV (bf (u * 12 + t)) (nw (u * 12 + v)) wt := if_pos ⟨by omega, rfl⟩
        rw [eR, leV]
        by_cases c1 : bf (u * 12 + t) = 1000000000
        · rw [if_pos c1, if_pos c1, e0]
        · rw [if_neg c1, if_neg c1]
          by_cases c2 : nw (u * 12 + v) ≤ bf (u * 12 + t) + wt
          · rw [if_pos c2, if_pos c2, e0]
          · rw [if_neg c2, if_neg c2, va_up_self]
      · have e2 : (if u < i + 1 ∧ v = h then leV (bf (u * 12 + t)) (nw (u * 12 + h)) wt else nw (u * 12 + v)) = fl (leS t h wt bf) i nw (u * 12 + v) := by
          rw [ih (by omega) u v hv]
          by_cases c : u < i ∧ v = h
          · rw [if_pos c, if_pos ⟨by omega, c.2⟩]
          · rw [if_neg c, if_neg (by omega)]
        rw [e2]
        split
        · rfl
        · split
          · rfl
          · rw [va_up_ne _ _ (by omega)]
  have h1 := key n (Nat.le_refl _) u v hv
  show fl (leS t h wt bf) n nw (u * 12 + v) = _
  rw [h1]
  by_cases c : v = h
  · rw [if_pos ⟨hu, c⟩, if_pos c]
  · rw [if_neg (by omega), if_neg c]
theorem M32_le {b c wt : Int32} {B C : Int → Prop} (hb : M32 b B) (hc : M32 c C) (hB : ∀ z, B z → -20000 ≤ z ∧ z ≤ 20000) (hC : ∀ z, C z → -20000 ≤ z ∧ z ≤ 20000) (hw : -1000 ≤ wt.toInt ∧ wt.toInt ≤ 1000) : M32 (leV b c wt) (fun z => C z ∨ B (z - wt.toInt)) := by
  unfold leV
  rcases hb with ⟨b1, b2⟩ | ⟨b1, b2⟩
  · rw [if_pos (no32.mpr b1)]
    exact M32_cong (fun z => ⟨Or.inl, fun q => q.elim id (fun q => absurd q (b2 _))⟩) hc
  · have hbb := hB _ b1
    rw [if_neg (fun q => by have := no32.mp q; omega)]
    have es : (b + wt).toInt = b.toInt + wt.toInt := ad32 (by omega) (by omega)
    by_cases q : c ≤ b + wt
    · rw [if_pos q]
      rw [Int32.le_iff_toInt_le, es] at q
      rcases hc with ⟨c1, c2⟩ | ⟨c1, c2⟩
      · omega
      · refine Or.inr ⟨Or.inl c1, fun z hz => ?_⟩
        rcases hz with hz | hz
        · exact c2 z hz
        · have := b2 _ hz; omega
    · rw [if_neg q]
      rw [Int32.le_iff_toInt_le, es] at q
      refine Or.inr ⟨Or.inr (by rw [es, Int.add_sub_cancel]; exact b1), fun z hz => ?_⟩
      rw [es]
      rcases hz with hz | hz
      · rcases hc with ⟨c1, c2⟩ | ⟨c1, c2⟩
        · exact absurd hz (c2 z)
        · have := c2 z hz; omega
      · have := b2 _ hz; omega
def LOK (n m : Nat) (fr to : Nat → Nat) (w : Nat → Int32) (th : Nat → Bool) (k : Nat) (row : Nat → Int32) : Prop := ∀ u v, u < n → v < n → M32 (row (u * 12 + v)) (Wk m fr to w th k u v)
theorem Wk_s {k u v : Nat} {z : Int} : Wk m fr to w th (k + 1) u v z ↔ (Wk m fr to w th k u v z ∨ ∃ j, j < m ∧ (th j = true ∧ to j = v ∧ Wk m fr to w th k u (fr j) (z - (w j).toInt))) := by
  constructor
  · rintro ⟨i, hi, h⟩
    by_cases e : i ≤ k
    · exact Or.inl ⟨i, e, h⟩
    · have : i = k + 1 := by omega
      subst this
      obtain ⟨j, hj, ht, hv, h⟩ := h
      exact Or.inr ⟨j, hj, ht, hv, k, Nat.le_refl _, h⟩
  · rintro (⟨i, hi, h⟩ | ⟨j, hj, ht, hv, i, hi, h⟩)
    · exact ⟨i, by omega, h⟩
    · exact ⟨i + 1, by omega, j, hj, ht, hv, h⟩
theorem Wk_bnd (hw : wOK m w) {k u v : Nat} {z : Int} (h : Wk m fr to w th k u v z) : -(1000 * (k : Int)) ≤ z ∧ z ≤ 1000 * (k : Int) := by
  obtain ⟨i, hi, h⟩ := h
  have := Ex_bnd hw h
  omega
theorem first_ok (hn : n ≤ 12) (f : Nat → Int32) : LOK n m fr to w th 0 (cFirst n f) := by
  intro u v hu hv
  rw [first_at hn f hu hv]
  by_cases e : u = v
  · rw [if_pos e]
    refine Or.inr ⟨⟨0, Nat.le_refl _, e, by decide⟩, fun z hz => ?_⟩
    obtain ⟨i, hi, h⟩ := hz
    have : i = 0 := by omega
    subst this
    rw [h.2]; decide
  · rw [if_neg e]
    refine Or.inl ⟨by decide, fun z hz => ?_⟩
    obtain ⟨i, hi, h⟩ := hz
    have : i = 0 := by omega
    subst this
    exact e h.1
theorem fill_ok (hg : gOK n m fr to) (hw : wOK m w) {k : Nat} (hk : k < 20) {bf nw : Nat → Int32} (hb : LOK n m fr to w th k bf) : LOK n m fr to w th (k + 1) (cFill n m fr to w th bf nw) := by
  obtain ⟨hn, hm, hft⟩ := id hg
  have key : ∀ j, j ≤ m → ∀ u v, u < n → v < n → M32 (fl (fiS n fr to w th bf) j (va_cpy bf nw 0 0 144) (u * 12 + v)) (fun z => Wk m fr to w th k u v z ∨ ∃ i, i < j ∧ (th i = true ∧ to i = v ∧ Wk m fr to w th k u (fr i) (z - (w i).toInt))) := by
    intro j
    induction j with
    | zero =>
      intro _ u v hu hv
      rw [fl_0, pk_cpy_in (by omega) (by omega), show 0 + (u * 12 + v - 0) = u * 12 + v by omega]
      exact M32_cong (fun z => ⟨Or.inl, fun q => q.elim id (fun ⟨i, hi, _⟩ => absurd hi (Nat.not_lt_zero i))⟩) (hb u v hu hv)
    | succ j ih =>
      intro hj u v hu hv
      have hj2 := hft j (by omega)
      have h0 := ih (by omega) u v hu hv
      rw [fl_s, fiS]
      by_cases c : th j = true
      · rw [if_pos c, len_at hn (by omega) _ _ _ hu (by omega)]
        by_cases e : v = to j
        · rw [if_pos e]
          subst e
          have h1 := hb u (fr j) hu hj2.1
          have h2 := M32_le h1 h0 (fun z hz => by have := Wk_bnd hw hz; omega) (fun z hz => by
            rcases hz with hz | ⟨i, hi, _, _, hz⟩
            · have := Wk_bnd hw hz; omega
            · have h3 := Wk_bnd hw hz; have h4 := hw i (by omega); omega) (hw j (by omega))
          refine M32_cong (fun z => ?_) h2
          constructor
          · rintro ((q | ⟨i, hi, q⟩) | q)
            · exact Or.inl q
            · exact Or.inr ⟨i, by omega, q⟩
            · exact Or.inr ⟨j, by omega, c, rfl, q⟩
          · rintro (q | ⟨i, hi, q1, q2, q3⟩)
            · exact Or.inl (Or.inl q)
            · by_cases ei : i = j
              · subst ei; exact Or.inr q3
              · exact Or.inl (Or.inr ⟨i, by omega, q1, q2, q3⟩)
        · rw [if_neg e]
          refine M32_cong (fun z => ?_) h0
          constructor
          · rintro (q | ⟨i, hi, q⟩)
            · exact Or.inl q
            · exact Or.inr ⟨i, by omega, q⟩
          · rintro (q | ⟨i, hi, q1, q2, q3⟩)
            · exact Or.inl q
            · exact Or.inr ⟨i, by rcases Nat.lt_or_ge i j with x | x; exact x; exact absurd (by rw [← q2, show i = j by omega]) e, q1, q2, q3⟩
      · rw [if_neg c]
        refine M32_cong (fun z => ?_) h0
        constructor
        · rintro (q | ⟨i, hi, q⟩)
          · exact Or.inl q
          · exact Or.inr ⟨i, by omega, q⟩
        · rintro (q | ⟨i, hi, q1, q2, q3⟩)
          · exact Or.inl q
          · exact Or.inr ⟨i, by rcases Nat.lt_or_ge i j with x | x; exact x; exact absurd (by rw [← show i = j by omega]; exact q1) c, q1, q2, q3⟩
  intro u v hu hv
  exact M32_cong (fun z => Wk_s.symm) (key m (Nat.le_refl _) u v hu hv)
/-- all layers up to b stand -/
def LSt (n m : Nat) (fr to : Nat → Nat) (w : Nat → Int32) (th : Nat → Bool) (L : Nat → Nat → Int32) (b : Nat) : Prop := ∀ t, t ≤ b → LOK n m fr to w th t (L t)
theorem wkS_ok (hg : gOK n m fr to) (hw : wOK m w) {la : Nat} {L : Nat → Nat → Int32} (h : LSt n m fr to w th L la) : ∀ j, la + j ≤ 20 → LSt n m fr to w th (fl (wkS n m fr to w th la) j L) (la + j)
  | 0, _ => h
  | j + 1, hj => by
    have ih := wkS_ok hg hw h j (by omega)
    intro t ht
    rw [fl_s, wkS]
    by_cases e : t = la + 1 + j
    · subst e
      rw [va_up_self, show la + 1 + j = (la + j) + 1 by omega]
      exact fill_ok hg hw (by omega) (ih (la + j) (Nat.le_refl _))
    · rw [va_up_ne _ _ e]
      exact ih t (by omega)
theorem wkL_ok (hg : gOK n m fr to) (hw : wOK m w) {ch sw : Int32} {la x : Nat} {L : Nat → Nat → Int32} (hla : la ≤ 20) (hx : x ≤ 20) (h : sw = ch → LSt n m fr to w th L la) : LSt n m fr to w th (wkL n m ch fr to w th L la sw x) (wka ch la sw x) ∧ x ≤ wka ch la sw x ∧ wka ch la sw x ≤ 20 := by
  by_cases e : sw = ch
  · rw [wkL_t e, wka_t e]
    exact ⟨wkS_ok hg hw (h e) _ (by omega), by omega, by omega⟩
  · rw [wkL_f e, wka_f e]
    refine ⟨wkS_ok hg hw (fun t ht => ?_) _ (by omega), by omega, by omega⟩
    have : t = 0 := by omega
    subst this
    rw [va_up_self]
    exact first_ok hg.1 _
end ML
