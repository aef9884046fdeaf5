/-! THE ANSWERS: ways and heights -/
theorem fst_some_iff {P : Nat → Bool} {n : Nat} : (fst P n).isSome = true ↔ ∃ x, x < n ∧ P x = true := by
  constructor
  · intro h
    cases e : fst P n with
    | none => rw [e] at h; cases h
    | some x => exact ⟨x, (fst_inv e).1, (fst_inv e).2.1⟩
  · rintro ⟨x, hx, h⟩
    cases e : fst P n with
    | none => have := fst_ninv e x hx; rw [h] at this; cases this
    | some y => rfl
theorem any_iff {P : Nat → Bool} : ∀ {n : Nat}, anyF P n = true ↔ ∃ x, x < n ∧ P x = true
  | 0 => ⟨fun h => (by cases h), fun ⟨x, hx, _⟩ => absurd hx (Nat.not_lt_zero x)⟩
  | n + 1 => by
    rw [anyF, Bool.or_eq_true, any_iff]
    constructor
    · rintro (⟨x, hx, h⟩ | h)
      · exact ⟨x, by omega, h⟩
      · exact ⟨n, by omega, h⟩
    · rintro ⟨x, hx, h⟩
      by_cases e : x = n
      · subst e; exact Or.inr h
      · exact Or.inl ⟨x, by omega, h⟩
theorem aa_iff {P : Nat → Bool} {b : Bool} : ∀ {n : Nat}, aaF b P n = true ↔ b = true ∧ ∀ x, x < n → P x = true
  | 0 => ⟨fun h => ⟨h, fun x hx => absurd hx (Nat.not_lt_zero x)⟩, fun h => h.1⟩
  | n + 1 => by
    rw [aaF, Bool.and_eq_true, aa_iff]
    constructor
    · rintro ⟨⟨h1, h2⟩, h3⟩
      exact ⟨h1, lt_s h2 h3⟩
    · rintro ⟨h1, h2⟩
      exact ⟨⟨h1, fun x hx => h2 x (by omega)⟩, h2 n (by omega)⟩
theorem bool_eq {a b : Bool} (h : a = true ↔ b = true) : a = b := by
  cases a <;> cases b <;> simp_all
theorem neg32 {x : Int32} : ¬ 0 ≤ x ↔ x.toInt < 0 := by
  rw [Int32.le_iff_toInt_le, show (0 : Int32).toInt = 0 by decide]; omega
theorem neg64 {x : Int64} : ¬ 0 ≤ x ↔ x.toInt < 0 := by
  rw [Int64.le_iff_toInt_le, show (0 : Int64).toInt = 0 by decide]; omega
theorem tdiv_neg {q : Int} (h : q < 0) : q.tdiv 1000 = -((-q) / 1000) := by
  have : q = -(-q) := by omega
  conv => lhs; rw [this]
  rw [Int.neg_tdiv, Int.tdiv_eq_ediv_of_nonneg (by omega)]
theorem wIn_sp {q : Int64} (h : -1000000000000 ≤ q.toInt ∧ q.toInt ≤ 1000000000000) : (wIn q).toInt = q.toInt / 1000 := by
  have e0 : (1000 : Int64).toInt = 1000 := by decide
  have e1 : (1 : Int64).toInt = 1 := by decide
  have ed : (q / 1000).toInt = q.toInt.tdiv 1000 := by
    rw [Kit.i64_div (by rw [e0]; omega), e0]
  have hb : -1000000000 ≤ (q / 1000).toInt ∧ (q / 1000).toInt ≤ 1000000000 ∧ (0 ≤ q.toInt → (q / 1000).toInt = q.toInt / 1000) ∧ (q.toInt < 0 → (q / 1000).toInt = -((-q.toInt) / 1000)) := by
    rw [ed]
    by_cases c : 0 ≤ q.toInt
    · rw [Int.tdiv_eq_ediv_of_nonneg c]; exact ⟨by omega, by omega, fun _ => rfl, fun z => by omega⟩
    · rw [tdiv_neg (by omega)]; exact ⟨by omega, by omega, fun z => by omega, fun _ => rfl⟩
  obtain ⟨b1, b2, b3, b4⟩ := hb
  have em : (q / 1000 * 1000).toInt = (q / 1000).toInt * 1000 := by rw [ml64 (by rw [e0]; omega) (by rw [e0]; omega), e0]
  unfold wIn
  by_cases c : q / 1000 * 1000 ≤ q
  · rw [if_pos c, Kit.i32_of_i64 (by omega) (by omega)]
    rw [Int64.le_iff_toInt_le, em] at c
    by_cases z : 0 ≤ q.toInt
    · exact b3 z
    · have := b4 (by omega); omega
  · rw [if_neg c]
    rw [Int64.le_iff_toInt_le, em] at c
    have es : (q / 1000 - 1).toInt = (q / 1000).toInt - 1 := by rw [sb64 (by rw [e1]; omega) (by rw [e1]; omega), e1]
    rw [Kit.i32_of_i64 (by omega) (by omega), es]
    by_cases z : 0 ≤ q.toInt
    · have := b3 z; omega
    · have := b4 (by omega); omega
theorem enc {x : Int32} {y : Int64} {S : Int → Prop} (hx : M32 x S) (hy : M64 y S) (hb : ∀ z, S z → -100000 ≤ z ∧ z ≤ 100000) : (1000000000000 ≤ y → x = 1000000000) ∧ (¬ 1000000000000 ≤ y → ¬ x = 1000000000 ∧ y.toInt = x.toInt ∧ S x.toInt) := by
  rcases hx with ⟨h1, h2⟩ | ⟨h1, h2⟩
  · rcases hy with ⟨h3, h4⟩ | ⟨h3, h4⟩
    · exact ⟨fun _ => no32.mpr h1, fun q => absurd (leF.mpr (by omega)) q⟩
    · exact absurd h3 (h2 _)
  · have b1 := hb _ h1
    rcases hy with ⟨h3, h4⟩ | ⟨h3, h4⟩
    · exact absurd h1 (h4 _)
    · have b2 := hb _ h3
      refine ⟨fun q => by have := leF.mp q; omega, fun _ => ⟨fun q => by have := no32.mp q; omega, ?_, h1⟩⟩
      have := h2 _ h3; have := h4 _ h1; omega
section MO
variable {n m : Nat} {fr to : Nat → Nat} {w : Nat → Int32} {th : Nat → Bool} {L : Nat → Nat → Int32} {f : Nat → Int64}
def bad (n m : Nat) (fr to : Nat → Nat) (w : Nat → Int32) (th : Nat → Bool) (u v : Nat) : Prop := ∃ x, x < n ∧ rch m fr to w th u x ∧ rch m fr to w th x v ∧ ∃ c z, Ex m fr to w th c x x z ∧ z < 0
theorem falls_iff (hg : gOK n m fr to) (hw : wOK m w) (hL : LSt n m fr to w th L 12) {x : Nat} (hx : x < n) : falls L x = true ↔ ∃ k z, k ≤ 12 ∧ Ex m fr to w th k x x z ∧ z < 0 := by
  unfold falls
  rw [decide_eq_true_eq, neg32]
  rcases hL 12 (Nat.le_refl _) x x hx hx with ⟨h1, h2⟩ | ⟨⟨i, hi, h1⟩, h2⟩
  · exact absurd ⟨0, by omega, rfl, rfl⟩ (h2 0)
  · constructor
    · intro h; exact ⟨i, _, hi, h1, h⟩
    · rintro ⟨k, z, hk, e, hz⟩
      have := h2 z ⟨k, hk, e⟩; omega
theorem isWk_iff (hg : gOK n m fr to) (hw : wOK m w) (hL : LSt n m fr to w th L 12) {u v : Nat} (hu : u < n) (hv : v < n) : isWk L u v = true ↔ rch m fr to w th u v := by
  unfold isWk
  rw [decide_eq_true_eq]
  rcases hL 12 (Nat.le_refl _) u v hu hv with ⟨h1, h2⟩ | ⟨⟨i, hi, h1⟩, h2⟩
  · constructor
    · intro h; exact absurd (no32.mpr h1) h
    · rintro ⟨k, z, e⟩
      obtain ⟨k2, z2, hk2, e2⟩ := short_reach hg hu k z e
      exact absurd ⟨k2, by have := hg.1; omega, e2⟩ (h2 z2)
  · constructor
    · intro _; exact ⟨i, _, h1⟩
    · intro _ q
      have := no32.mp q
      have := Wk_bnd hw ⟨i, hi, h1⟩
      omega
theorem bot_iff (hg : gOK n m fr to) (hw : wOK m w) (hL : LSt n m fr to w th L 12) {u v : Nat} (hu : u < n) (hv : v < n) : bot n L u v = true ↔ bad n m fr to w th u v := by
  unfold bot
  rw [fst_some_iff]
  constructor
  · rintro ⟨x, hx, h⟩
    unfold botP at h
    rw [Bool.and_eq_true, Bool.and_eq_true, falls_iff hg hw hL hx, isWk_iff hg hw hL hu hx, isWk_iff hg hw hL hx hv] at h
    obtain ⟨⟨k, z, -, e, hz⟩, h2, h3⟩ := h
    exact ⟨x, hx, h2, h3, k, z, e, hz⟩
  · rintro ⟨x, hx, h1, h2, c, z, e, hz⟩
    obtain ⟨y, c2, z2, hy, r1, r2, hc, hc2, hz2, e2⟩ := short_neg hg hx c z e hz
    refine ⟨y, hy, ?_⟩
    unfold botP
    rw [Bool.and_eq_true, Bool.and_eq_true, falls_iff hg hw hL hy, isWk_iff hg hw hL hu hy, isWk_iff hg hw hL hy hv]
    exact ⟨⟨c2, z2, by have := hg.1; omega, e2, hz2⟩, rch_app h1 r1, rch_app r2 h2⟩
theorem be_iff (hg : gOK n m fr to) (hw : wOK m w) {u v : Nat} (hu : u < n) (hv : v < n) : ¬ 1000000000000 ≤ fwB n m fr to w th f (12 * u + v) ↔ rch m fr to w th u v := by
  rw [leF]
  have hb := be_bd (th := th) hg hw f hu hv
  constructor
  · intro h
    obtain ⟨k, z, e, -⟩ := be_lo (th := th) hg hw f hu hv (by unfold dI; omega)
    exact ⟨k, z, e⟩
  · intro h
    have := be_fin hg hw f hu h
    unfold dI at this
    omega
def Rel (n m : Nat) (fr to : Nat → Nat) (w : Nat → Int32) (th : Nat → Bool) (u v x : Nat) : Prop := x < n ∧ rch m fr to w th u x ∧ rch m fr to w th x v
theorem Rel_lt {u v : Nat} : ∀ a, Rel n m fr to w th u v a → a < n := fun _ h => h.1
theorem Rel_cl {u v : Nat} : ∀ a b x, Rel n m fr to w th u v a → Rel n m fr to w th u v b → x < n → rch m fr to w th a x → rch m fr to w th x b → Rel n m fr to w th u v x := fun _ _ _ ha hb hx h1 h2 => ⟨hx, rch_app ha.2.1 h1, rch_app h2 hb.2.2⟩
theorem any_bad (hg : gOK n m fr to) (hw : wOK m w) {u v : Nat} (hu : u < n) (hv : v < n) : anyF (bbP (fwB n m fr to w th f) u v) n = true ↔ bad n m fr to w th u v := by
  rw [any_iff]
  constructor
  · rintro ⟨x, hx, h⟩
    unfold bbP at h
    rw [Bool.and_eq_true, Bool.and_eq_true, decide_eq_true_eq, decide_eq_true_eq, decide_eq_true_eq, be_iff hg hw hu hx, be_iff hg hw hx hv, neg64] at h
    exact ⟨x, hx, h.2.1, h.2.2, be_diag hg hw f hx h.1⟩
  · rintro ⟨x, hx, h1, h2, c, z, e, hz⟩
    obtain ⟨y, hy, hd⟩ := be_neg hg hw f (Rel_lt (u := u) (v := v)) Rel_cl ⟨hx, h1, h2⟩ e hz
    refine ⟨y, hy.1, ?_⟩
    unfold bbP
    rw [Bool.and_eq_true, Bool.and_eq_true, decide_eq_true_eq, decide_eq_true_eq, decide_eq_true_eq, be_iff hg hw hu hy.1, be_iff hg hw hy.1 hv, neg64]
    exact ⟨hd, hy.2.1, hy.2.2⟩
/-- where no falling ring is on the way, 'best' is the cost of a lightest walk with the fewest arcs -/
theorem opt (hg : gOK n m fr to) (hw : wOK m w) (f : Nat → Int64) {u v : Nat} (hu : u < n) (hv : v < n) (hb : ¬ bad n m fr to w th u v) (hr : rch m fr to w th u v) : ∃ k z, k < n ∧ Ex m fr to w th k u v z ∧ dI (fwB n m fr to w th f) u v = 1000 * z + (k : Int) ∧ (∀ K z', Ex m fr to w th K u v z' → z ≤ z') ∧ ∀ K z', Ex m fr to w th K u v z' → 1000 * z + (k : Int) ≤ 1000 * z' + (K : Int) := by
  have hn := hg.1
  have hring : ∀ x, x < n → rch m fr to w th u x → rch m fr to w th x v → ∀ c z, Ex m fr to w th c x x z → 0 ≤ z := fun x hx h1 h2 c z e => by
    rcases Int.lt_or_le z 0 with q | q
    · exact absurd ⟨x, hx, h1, h2, c, z, e, q⟩ hb
    · exact q
  have hd : ∀ a, Rel n m fr to w th u v a → 0 ≤ dI (fwB n m fr to w th f) a a := fun a ha => by
    rcases Int.lt_or_le (dI (fwB n m fr to w th f) a a) 0 with q | q
    · exact absurd ⟨a, ha.1, ha.2.1, ha.2.2, be_diag hg hw f ha.1 q⟩ hb
    · exact q
  have up : ∀ K z', Ex m fr to w th K u v z' → dI (fwB n m fr to w th f) u v ≤ 1000 * z' + (K : Int) := fun K z' e => be_up hg hw f Rel_lt Rel_cl hd ⟨hu, rch_me u, hr⟩ ⟨hv, hr, rch_me v⟩ e
  obtain ⟨k0, z0, e0, c0⟩ := be_lo hg hw f hu hv (be_fin hg hw f hu hr)
  obtain ⟨k, z, h1, h2, h3, h4⟩ := short_all hg hu hring k0 z0 e0
  have h5 := up k z h4
  refine ⟨k, z, h1, h4, by omega, fun K z' e => ?_, fun K z' e => ?_⟩
  · obtain ⟨k2, z2, g1, g2, g3, g4⟩ := short_all hg hu hring K z' e
    have := up k2 z2 g4
    omega
  · have := up K z' e; omega
theorem bad_rch {u v : Nat} (h : bad n m fr to w th u v) : rch m fr to w th u v := by
  obtain ⟨x, -, h1, h2, -⟩ := h
  exact rch_app h1 h2
/-- entry by entry -/
theorem ent (hg : gOK n m fr to) (hw : wOK m w) (hL : LSt n m fr to w th L 12) {u v : Nat} (hu : u < n) (hv : v < n) (hb : ¬ bad n m fr to w th u v) : wIn (fwB n m fr to w th f (12 * u + v)) = L 12 (u * 12 + v) := by
  have hbd := be_bd (th := th) hg hw f hu hv
  apply Int32.toInt_inj.mp
  rw [wIn_sp hbd]
  have hn := hg.1
  by_cases hr : rch m fr to w th u v
  · obtain ⟨k, z, hk, e, hc, hmin, -⟩ := opt hg hw f hu hv hb hr
    unfold dI at hc
    rw [hc]
    rcases hL 12 (Nat.le_refl _) u v hu hv with ⟨h1, h2⟩ | ⟨⟨i, hi, h1⟩, h2⟩
    · exact absurd ⟨k, by omega, e⟩ (h2 z)
    · have := hmin i _ h1
      have := h2 z ⟨k, by omega, e⟩
      omega
  · have h1 : ¬ ¬ 1000000000000 ≤ fwB n m fr to w th f (12 * u + v) := fun q => hr ((be_iff hg hw hu hv).mp q)
    rw [Classical.not_not, leF] at h1
    unfold dI at hbd
    have h2 : L 12 (u * 12 + v) = 1000000000 := by
      by_cases q : L 12 (u * 12 + v) = 1000000000
      · exact q
      · exact absurd ((isWk_iff hg hw hL hu hv).mp (by unfold isWk; rw [decide_eq_true_eq]; exact q)) hr
    rw [h2, no32.mp rfl]
    omega
theorem least_eq (hg : gOK n m fr to) (hw : wOK m w) (hL : LSt n m fr to w th L 12) {u v : Nat} (hu : u < n) (hv : v < n) : leastF n L u v = lsA n (fwB n m fr to w th f) u v := by
  unfold leastF lsA
  have hb := bool_eq ((bot_iff hg hw hL hu hv).trans (any_bad (f := f) hg hw hu hv).symm)
  by_cases hr : rch m fr to w th u v
  · have h1 := (be_iff (f := f) hg hw hu hv).mpr hr
    rw [if_pos (Int64.not_le.mp h1), ← hb]
    by_cases c : bot n L u v = true
    · rw [if_pos c, if_pos c]
    · rw [if_neg c, if_neg c]
      exact (ent hg hw hL hu hv (fun q => c ((bot_iff hg hw hL hu hv).mpr q))).symm
  · have h1 : 1000000000000 ≤ fwB n m fr to w th f (12 * u + v) := by
      by_cases q : 1000000000000 ≤ fwB n m fr to w th f (12 * u + v)
      · exact q
      · exact absurd ((be_iff hg hw hu hv).mp q) hr
    rw [if_neg (Int64.not_lt.mpr h1), if_neg (fun c => hr (bad_rch ((bot_iff hg hw hL hu hv).mp c)))]
    by_cases q : L 12 (u * 12 + v) = 1000000000
    · exact q
    · exact absurd ((isWk_iff hg hw hL hu hv).mp (by unfold isWk; rw [decide_eq_true_eq]; exact q)) hr
theorem within_eq (hg : gOK n m fr to) (hw : wOK m w) {b : Nat} {al : Nat → Int64} (hb : b ≤ 20) (hL : LOK n m fr to w th b (L b)) (hP : POK n m fr to w th b al) {u v : Nat} (hu : u < n) (hv : v < n) : L b (u * 12 + v) = if 1000000000000 ≤ al (12 * u + v) then 1000000000 else (al (12 * u + v)).toInt32 := by
  have h := enc (hL u v hu hv) (hP u v hu hv) (fun z hz => by have := Wk_bnd hw hz; omega)
  by_cases c : 1000000000000 ≤ al (12 * u + v)
  · rw [if_pos c]; exact h.1 c
  · rw [if_neg c]
    obtain ⟨-, h2, h3⟩ := h.2 c
    have := Wk_bnd hw h3
    apply Int32.toInt_inj.mp
    rw [Kit.i32_of_i64 (by omega) (by omega), h2]
/-- is there a falling ring at all -/
def anyN (n m : Nat) (fr to : Nat → Nat) (w : Nat → Int32) (th : Nat → Bool) : Prop := ∃ x, x < n ∧ ∃ c z, Ex m fr to w th c x x z ∧ z < 0
theorem someF_iff (hg : gOK n m fr to) (hw : wOK m w) (hL : LSt n m fr to w th L 12) : someF n L = true ↔ anyN n m fr to w th := by
  unfold someF
  rw [fst_some_iff]
  constructor
  · rintro ⟨x, hx, h⟩
    obtain ⟨k, z, -, e, hz⟩ := (falls_iff hg hw hL hx).mp h
    exact ⟨x, hx, k, z, e, hz⟩
  · rintro ⟨x, hx, c, z, e, hz⟩
    obtain ⟨y, c2, z2, hy, r1, r2, hc, hc2, hz2, e2⟩ := short_neg hg hx c z e hz
    exact ⟨y, hy, (falls_iff hg hw hL hy).mpr ⟨c2, z2, by have := hg.1; omega, e2, hz2⟩⟩
theorem flB_iff (hg : gOK n m fr to) (hw : wOK m w) : flB n (fwB n m fr to w th f) = true ↔ anyN n m fr to w th := by
  unfold flB
  rw [any_iff]
  constructor
  · rintro ⟨x, hx, h⟩
    unfold bnP at h
    rw [decide_eq_true_eq, neg64] at h
    exact ⟨x, hx, be_diag hg hw f hx h⟩
  · rintro ⟨x, hx, c, z, e, hz⟩
    obtain ⟨y, hy, hd⟩ := be_neg hg hw f (R := fun a => a < n) (fun _ h => h) (fun _ _ _ _ _ h _ _ => h) hx e hz
    exact ⟨y, hy, by unfold bnP; rw [decide_eq_true_eq, neg64]; exact hd⟩
theorem low_eq (hg : gOK n m fr to) (hw : wOK m w) (hL : LSt n m fr to w th L 12) (hno : ¬ anyN n m fr to w th) {v : Nat} (hv : v < n) : lowF n L v = htF n (fwB n m fr to w th f) v := by
  unfold lowF htF
  have key : ∀ i, i ≤ n → wIn (fl (htS (fwB n m fr to w th f) v) i 0) = fl (loS L v) i 0 ∧ -1000000000000 ≤ (fl (htS (fwB n m fr to w th f) v) i 0).toInt ∧ (fl (htS (fwB n m fr to w th f) v) i 0).toInt ≤ 1000000000000 := by
    intro i
    induction i with
    | zero => intro _; rw [fl_0, fl_0]; exact ⟨by decide, by decide, by decide⟩
    | succ i ih =>
      intro hi
      obtain ⟨h1, h2, h3⟩ := ih (by omega)
      have hbd := be_bd (th := th) hg hw f (show i < n by omega) hv
      have he := ent (f := f) hg hw hL (show i < n by omega) hv (fun ⟨x, hx, _, _, q⟩ => hno ⟨x, hx, q⟩)
      rw [fl_s, fl_s, htS, loS, ← h1, ← he]
      have w1 := wIn_sp ⟨h2, h3⟩
      have w2 := wIn_sp hbd
      unfold dI at hbd
      generalize fl (htS (fwB n m fr to w th f) v) i 0 = c at h2 h3 w1 ⊢
      generalize fwB n m fr to w th f (12 * i + v) = d at hbd w2 ⊢
      by_cases q : c ≤ d
      · rw [if_pos q, if_neg]
        · exact ⟨rfl, h2, h3⟩
        · rw [Int32.lt_iff_toInt_lt, w1, w2]
          rw [Int64.le_iff_toInt_le] at q
          omega
      · rw [if_neg q]
        refine ⟨?_, hbd.1, hbd.2⟩
        rw [Int64.le_iff_toInt_le] at q
        by_cases r : wIn d < wIn c
        · rw [if_pos r]
        · rw [if_neg r]
          apply Int32.toInt_inj.mp
          rw [Int32.lt_iff_toInt_lt] at r
          rw [w1, w2] at r ⊢
          omega
  exact (key n (Nat.le_refl _)).1.symm
theorem height_eq (hg : gOK n m fr to) (hw : wOK m w) (hL : LSt n m fr to w th L 12) {u : Nat} (hu : u < n) : heA n L u = heM n (fwB n m fr to w th f) u := by
  unfold heA heM
  rw [bool_eq ((someF_iff hg hw hL).trans (flB_iff (f := f) hg hw).symm)]
  by_cases c : flB n (fwB n m fr to w th f) = true
  · rw [if_pos c, if_pos c]
  · rw [if_neg c, if_neg c]
    exact low_eq hg hw hL (fun q => c ((flB_iff hg hw).mpr q)) hu
theorem lifted_eq (hg : gOK n m fr to) (hw : wOK m w) (hL : LSt n m fr to w th L 12) (x : Int32) : liA n m fr to w th L x = liM n m fr to w th (fwB n m fr to w th f) x := by
  unfold liA liM
  rw [bool_eq ((someF_iff hg hw hL).trans (flB_iff (f := f) hg hw).symm)]
  by_cases c0 : ixB x m = true
  · rw [if_pos c0, if_pos c0]
    obtain ⟨j, hj, rfl⟩ := ixB_t hg.2.1 c0
    have hj2 := hg.2.2 j hj
    have hm := hg.2.1
    rw [nI_clamp (by omega)]
    by_cases c : flB n (fwB n m fr to w th f) = true
    · rw [if_pos c, if_pos c]
      split <;> rfl
    · rw [if_neg c, if_neg c]
      have hno := fun q => c ((flB_iff hg hw).mpr q)
      rw [low_eq hg hw hL hno hj2.1, low_eq hg hw hL hno hj2.2]
  · rw [if_neg c0, if_neg c0]
theorem spare_eq (hg : gOK n m fr to) (hw : wOK m w) (hL : LSt n m fr to w th L 12) (x : Int32) : spA n m fr to w th L x = spM n m fr to w th (fwB n m fr to w th f) x := by
  unfold spA spM
  rw [bool_eq ((someF_iff hg hw hL).trans (flB_iff (f := f) hg hw).symm)]
  by_cases c0 : ixB x m = true
  · rw [if_pos c0, if_pos c0]
    obtain ⟨j, hj, rfl⟩ := ixB_t hg.2.1 c0
    have hj2 := hg.2.2 j hj
    have hm := hg.2.1
    rw [nI_clamp (by omega)]
    by_cases c : flB n (fwB n m fr to w th f) = true
    · rw [if_pos c, if_pos c]
      split <;> rfl
    · rw [if_neg c, if_neg c]
      have hno : ¬ anyN n m fr to w th := fun q => c ((flB_iff hg hw).mpr q)
      have he := ent (f := f) hg hw hL hj2.2 hj2.1 (fun ⟨x, hx, _, _, q⟩ => hno ⟨x, hx, q⟩)
      by_cases ct : th j = true
      · rw [if_pos ct, if_pos ct]
        by_cases hr : rch m fr to w th (to j) (fr j)
        · have h1 := (be_iff (f := f) hg hw hj2.2 hj2.1).mpr hr
          have h2 := (isWk_iff hg hw hL hj2.2 hj2.1).mpr hr
          unfold isWk at h2
          rw [decide_eq_true_eq] at h2
          rw [if_neg h2, if_pos (Int64.not_le.mp h1), he]
        · have h1 : 1000000000000 ≤ fwB n m fr to w th f (12 * to j + fr j) := by
            by_cases q : 1000000000000 ≤ fwB n m fr to w th f (12 * to j + fr j)
            · exact q
            · exact absurd ((be_iff hg hw hj2.2 hj2.1).mp q) hr
          have h2 : L 12 (to j * 12 + fr j) = 1000000000 := by
            by_cases q : L 12 (to j * 12 + fr j) = 1000000000
            · exact q
            · exact absurd ((isWk_iff hg hw hL hj2.2 hj2.1).mp (by unfold isWk; rw [decide_eq_true_eq]; exact q)) hr
          rw [if_pos h2, if_neg (Int64.not_lt.mpr h1)]
      · rw [if_neg ct, if_neg ct]
  · rw [if_neg c0, if_neg c0]
end MO
