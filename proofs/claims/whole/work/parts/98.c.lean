/-! MATHEMATICS: the class's longest ways; the answers where there is no ring -/
section MC
variable {n m : Nat} {fr to : Nat → Nat} {w : Nat → Int32} {th : Nat → Bool} {od : Nat → Nat} {oc : Nat}
def SB (m : Nat) (fr to : Nat → Nat) (w : Nat → Int32) (th : Nat → Bool) (i x : Nat) (z : Int) : Prop := ∃ k, k ≤ i ∧ ∃ v, Ex m fr to w th k x v z
def SE (n m : Nat) (fr to : Nat → Nat) (w : Nat → Int32) (th : Nat → Bool) (x : Nat) (z : Int) : Prop := ∃ k, ∃ u, u < n ∧ Ex m fr to w th k u x z
theorem SB_bnd (hw : wOK m w) {i x : Nat} {z : Int} (h : SB m fr to w th i x z) : -(1000 * (i : Int)) ≤ z ∧ z ≤ 1000 * (i : Int) := by
  obtain ⟨k, hk, v, hE⟩ := h
  have := Ex_bnd hw hE
  omega
theorem SB_s {i x : Nat} {z : Int} : SB m fr to w th (i + 1) x z ↔ SB m fr to w th i x z ∨ ∃ j, j < m ∧ (th j = true ∧ fr j = x ∧ SB m fr to w th i (to j) (z - (w j).toInt)) := by
  constructor
  · rintro ⟨k, hk, v, hE⟩
    cases k with
    | zero => exact Or.inl ⟨0, by omega, v, hE⟩
    | succ k =>
      obtain ⟨j, hj, ht, hf, hE⟩ := Ex_first hE
      exact Or.inr ⟨j, hj, ht, hf, k, by omega, v, hE⟩
  · rintro (⟨k, hk, v, hE⟩ | ⟨j, hj, ht, rfl, k, hk, v, hE⟩)
    · exact ⟨k, by omega, v, hE⟩
    · have := Ex_cons hj ht hE
      rw [show (w j).toInt + (z - (w j).toInt) = z by omega] at this
      exact ⟨k + 1, by omega, v, this⟩
theorem MX_max {a b : Int32} {S T : Int → Prop} (ha : MX a.toInt S) (hb : MX b.toInt T) : MX (if a < b then b else a).toInt (fun z => S z ∨ T z) := by
  by_cases c : a < b
  · rw [if_pos c]
    rw [Int32.lt_iff_toInt_lt] at c
    exact ⟨Or.inr hb.1, fun z hz => hz.elim (fun q => by have := ha.2 z q; omega) (hb.2 z)⟩
  · rw [if_neg c]
    rw [Int32.lt_iff_toInt_lt] at c
    exact ⟨Or.inl ha.1, fun z hz => hz.elim (ha.2 z) (fun q => by have := hb.2 z q; omega)⟩
theorem MX_sh {y a b : Int} {S : Int → Prop} (e : y = a + b) (hb : MX b S) : MX y (fun z => S (z - a)) :=
  ⟨by show S (y - a); rw [e, show a + b - a = b by omega]; exact hb.1, fun z hz => by have := hb.2 _ hz; omega⟩
theorem ex_s {P : Nat → Prop} {j : Nat} (h : ¬ P j) : (∃ q, q < j ∧ P q) ↔ (∃ q, q < j + 1 ∧ P q) :=
  ⟨fun ⟨q, hq, hp⟩ => ⟨q, by omega, hp⟩, fun ⟨q, hq, hp⟩ => by
    by_cases k : q = j
    · subst k; exact absurd hp h
    · exact ⟨q, by omega, hp⟩⟩
theorem z32I : (0 : Int32).toInt = 0 := by decide
theorem on_fill (hg : gOK n m fr to) (hw : wOK m w) {i : Nat} (hi : i < 20) {bf nw : Nat → Int32} (hb : ∀ x, x < n → MX (bf x).toInt (SB m fr to w th i x)) : ∀ x, x < n → MX (onF m fr to w th bf nw x).toInt (SB m fr to w th (i + 1) x) := by
  have hn := hg.1
  have key : ∀ j, j ≤ m → ∀ x, x < n → MX (fl (onS fr to w th bf) j (va_cpy bf nw 0 0 12) x).toInt (fun z => SB m fr to w th i x z ∨ ∃ q, q < j ∧ (th q = true ∧ fr q = x ∧ SB m fr to w th i (to q) (z - (w q).toInt))) := by
    intro j
    induction j with
    | zero =>
      intro _ x hx
      rw [fl_0, pk_cpy_in (by omega) (by omega), Nat.zero_add, Nat.sub_zero]
      exact MX_cong (fun z => ⟨Or.inl, fun q => q.elim id (fun ⟨j, hj, _⟩ => absurd hj (Nat.not_lt_zero j))⟩) (hb x hx)
    | succ j ih =>
      intro hj x hx
      have h0 := ih (by omega)
      have hj2 := hg.2.2 j (by omega)
      have hwj := hw j (by omega)
      rw [fl_s]
      generalize fl (onS fr to w th bf) j (va_cpy bf nw 0 0 12) = f at h0 ⊢
      unfold onS
      by_cases c : th j = true
      · rw [if_pos c]
        by_cases e : x = fr j
        · subst e
          rw [va_up_self]
          have hs : (w j + bf (to j)).toInt = (w j).toInt + (bf (to j)).toInt := by
            have := SB_bnd hw (hb (to j) hj2.2).1
            exact ad32 (by omega) (by omega)
          refine MX_cong (fun z => ?_) (MX_max (h0 _ hx) (MX_sh hs (hb (to j) hj2.2)))
          constructor
          · rintro ((q | ⟨q, hq, hr⟩) | q)
            · exact Or.inl q
            · exact Or.inr ⟨q, by omega, hr⟩
            · exact Or.inr ⟨j, by omega, c, rfl, q⟩
          · rintro (q | ⟨q, hq, hr⟩)
            · exact Or.inl (Or.inl q)
            · by_cases k : q = j
              · subst k; exact Or.inr hr.2.2
              · exact Or.inl (Or.inr ⟨q, by omega, hr⟩)
        · rw [va_up_ne _ _ e]
          exact MX_cong (fun z => or_congr_right (ex_s (P := fun q => th q = true ∧ fr q = x ∧ SB m fr to w th i (to q) (z - (w q).toInt)) (fun q => e q.2.1.symm))) (h0 x hx)
      · rw [if_neg c]
        exact MX_cong (fun z => or_congr_right (ex_s (P := fun q => th q = true ∧ fr q = x ∧ SB m fr to w th i (to q) (z - (w q).toInt)) (fun q => c q.1))) (h0 x hx)
  intro x hx
  exact MX_cong (fun z => SB_s.symm) (key m (Nat.le_refl _) x hx)
theorem zS_at {N : Nat} (f : Nat → Int32) {x : Nat} (hx : x < N) : fl zS N f x = 0 := flu_in (s := zS) (g := fun i => i) (c := fun _ => 0) (fun _ _ => rfl) f N x hx (fun a b _ _ h => h)
theorem on_ok (hg : gOK n m fr to) (hw : wOK m w) (on : Nat → Nat → Int32) : ∀ i, i ≤ 11 → ∀ x, x < n → MX (onR n m fr to w th on i x).toInt (SB m fr to w th i x) := by
  have key : ∀ t, t ≤ 11 → ∀ i, i ≤ t → ∀ x, x < n → MX (fl (onT m fr to w th) t (va_up on 0 (fl zS n (on 0))) i x).toInt (SB m fr to w th i x) := by
    intro t
    induction t with
    | zero =>
      intro _ i hi x hx
      have : i = 0 := by omega
      subst this
      rw [fl_0, va_up_self, zS_at _ hx, z32I]
      refine ⟨⟨0, Nat.le_refl _, x, rfl, rfl⟩, ?_⟩
      rintro z ⟨k, hk, v, hE⟩
      have : k = 0 := by omega
      subst this
      have := hE.2
      omega
    | succ t ih =>
      intro ht i hi x hx
      rw [fl_s]
      have h0 := ih (by omega)
      generalize fl (onT m fr to w th) t (va_up on 0 (fl zS n (on 0))) = f at h0 ⊢
      unfold onT
      by_cases e : i = t + 1
      · subst e
        rw [va_up_self]
        exact on_fill hg hw (by omega) (h0 t (Nat.le_refl _)) x hx
      · rw [va_up_ne _ _ e]
        exact h0 i (by omega) x hx
  exact fun i hi => key 11 (Nat.le_refl _) i hi
theorem SE_s {y : Nat} (hy : y < n) (hg : gOK n m fr to) {z : Int} : SE n m fr to w th y z ↔ z = 0 ∨ ∃ q, q < m ∧ (th q = true ∧ to q = y ∧ SE n m fr to w th (fr q) (z - (w q).toInt)) := by
  constructor
  · rintro ⟨k, u, hu, hE⟩
    cases k with
    | zero => exact Or.inl hE.2
    | succ k =>
      obtain ⟨j, hj, ht, hto, hE⟩ := hE
      exact Or.inr ⟨j, hj, ht, hto, k, u, hu, hE⟩
  · rintro (rfl | ⟨j, hj, ht, hto, k, u, hu, hE⟩)
    · exact ⟨0, y, hy, rfl, rfl⟩
    · exact ⟨k + 1, u, hu, j, hj, ht, hto, hE⟩
theorem SE_bnd (hg : gOK n m fr to) (hw : wOK m w) (ha : acyc n m fr to w th) {x : Nat} {z : Int} (h : SE n m fr to w th x z) : -12000 ≤ z ∧ z ≤ 12000 := by
  obtain ⟨k, u, hu, hE⟩ := h
  have := acyc_short hg ha hu hE
  have := Ex_bnd hw hE
  have := hg.1
  omega
theorem ho_ok (hg : gOK n m fr to) (hw : wOK m w) (ha : acyc n m fr to w th) {x : Nat} (hx : x < n) {f : Nat → Int32} {Q : Nat → Prop} (hf : MX (f x).toInt (SE n m fr to w th x)) (h : ∀ y, y < n → MX (f y).toInt (fun z => z = 0 ∨ ∃ q, q < m ∧ (th q = true ∧ to q = y ∧ Q q ∧ SE n m fr to w th (fr q) (z - (w q).toInt)))) :
    ∀ j, j ≤ m → fl (hoS fr to w th x) j f x = f x ∧ ∀ y, y < n → MX (fl (hoS fr to w th x) j f y).toInt (fun z => z = 0 ∨ ∃ q, q < m ∧ (th q = true ∧ to q = y ∧ (Q q ∨ (q < j ∧ fr q = x)) ∧ SE n m fr to w th (fr q) (z - (w q).toInt))) := by
  intro j
  induction j with
  | zero =>
    intro _
    refine ⟨rfl, fun y hy => MX_cong (fun z => or_congr_right ?_) (h y hy)⟩
    exact ⟨fun ⟨q, a, b, c, d, e⟩ => ⟨q, a, b, c, Or.inl d, e⟩, fun ⟨q, a, b, c, d, e⟩ => ⟨q, a, b, c, d.resolve_right (fun k => Nat.not_lt_zero _ k.1), e⟩⟩
  | succ j ih =>
    intro hj
    obtain ⟨h1, h2⟩ := ih (by omega)
    have hj2 := hg.2.2 j (by omega)
    have hwj := hw j (by omega)
    rw [fl_s]
    generalize fl (hoS fr to w th x) j f = g at h1 h2 ⊢
    unfold hoS
    have same : ∀ y, ¬ (th j = true ∧ to j = y ∧ fr j = x) → ∀ z, (z = 0 ∨ ∃ q, q < m ∧ (th q = true ∧ to q = y ∧ (Q q ∨ (q < j ∧ fr q = x)) ∧ SE n m fr to w th (fr q) (z - (w q).toInt))) ↔ (z = 0 ∨ ∃ q, q < m ∧ (th q = true ∧ to q = y ∧ (Q q ∨ (q < j + 1 ∧ fr q = x)) ∧ SE n m fr to w th (fr q) (z - (w q).toInt))) := by
      intro y hno z
      apply or_congr_right
      constructor
      · rintro ⟨q, a, b, c, d, e⟩
        exact ⟨q, a, b, c, d.elim Or.inl (fun k => Or.inr ⟨by omega, k.2⟩), e⟩
      · rintro ⟨q, a, b, c, d, e⟩
        refine ⟨q, a, b, c, d.elim Or.inl (fun k => Or.inr ⟨?_, k.2⟩), e⟩
        rcases Nat.lt_or_ge q j with p | p
        · exact p
        · have : q = j := by omega
          subst this
          exact absurd ⟨b, c, k.2⟩ hno
    by_cases c : th j = true
    · rw [if_pos c]
      by_cases d : fr j = x
      · rw [if_pos d]
        have hne : x ≠ to j := fun q => ha x 0 _ hx (by
          have := Ex_arc (fr := fr) (to := to) (w := w) (show j < m by omega) c
          rw [d, ← q] at this
          exact this)
        refine ⟨by rw [va_up_ne _ _ hne]; exact h1, fun y hy => ?_⟩
        by_cases e : y = to j
        · subst e
          rw [va_up_self]
          have hs : (g x + w j).toInt = (w j).toInt + (f x).toInt := by
            have := SE_bnd hg hw ha hf.1
            rw [h1, ad32 (by omega) (by omega)]
            omega
          refine MX_cong (fun z => ?_) (MX_max (h2 _ hy) (MX_sh hs hf))
          constructor
          · rintro ((q | ⟨q, a1, a2, a3, a4, a5⟩) | q)
            · exact Or.inl q
            · exact Or.inr ⟨q, a1, a2, a3, a4.elim Or.inl (fun k => Or.inr ⟨by omega, k.2⟩), a5⟩
            · exact Or.inr ⟨j, by omega, c, rfl, Or.inr ⟨by omega, d⟩, by rw [d]; exact q⟩
          · rintro (q | ⟨q, a1, a2, a3, a4, a5⟩)
            · exact Or.inl (Or.inl q)
            · by_cases k : q = j
              · subst k
                rw [d] at a5
                exact Or.inr a5
              · exact Or.inl (Or.inr ⟨q, a1, a2, a3, a4.elim Or.inl (fun k => Or.inr ⟨by omega, k.2⟩), a5⟩)
        · rw [va_up_ne _ _ e]
          exact MX_cong (same y (fun q => e q.2.1.symm)) (h2 y hy)
      · rw [if_neg d]
        exact ⟨h1, fun y hy => MX_cong (same y (fun q => d q.2.2)) (h2 y hy)⟩
    · rw [if_neg c]
      exact ⟨h1, fun y hy => MX_cong (same y (fun q => c q.1)) (h2 y hy)⟩
theorem fa_ok (hg : gOK n m fr to) (hw : wOK m w) (h : GR n m fr to th od n) (fa : Nat → Int32) : ∀ x, x < n → MX (faR n m fr to w th od n fa x).toInt (SE n m fr to w th x) := by
  have ha : acyc n m fr to w th := GR_acyc h
  have key : ∀ i, i ≤ n → ∀ y, y < n → MX (fl (ffT m fr to w th od) i (fl zS n fa) y).toInt (fun z => z = 0 ∨ ∃ q, q < m ∧ (th q = true ∧ to q = y ∧ (∃ t, t < i ∧ od t = fr q) ∧ SE n m fr to w th (fr q) (z - (w q).toInt))) := by
    intro i
    induction i with
    | zero =>
      intro _ y hy
      rw [fl_0, zS_at _ hy, z32I]
      refine ⟨Or.inl rfl, ?_⟩
      rintro z (rfl | ⟨q, -, -, -, ⟨t, ht, -⟩, -⟩)
      · exact Int.le_refl _
      · exact absurd ht (Nat.not_lt_zero t)
    | succ i ih =>
      intro hi
      have h0 := ih (by omega)
      rw [fl_s]
      generalize fl (ffT m fr to w th od) i (fl zS n fa) = f at h0 ⊢
      unfold ffT hoF
      have hx := GR_lt h (show i < n by omega)
      have hf : MX (f (od i)).toInt (SE n m fr to w th (od i)) := MX_cong (fun z => by
        rw [SE_s hx hg]
        apply or_congr_right
        exact ⟨fun ⟨q, a, b, c, d, e⟩ => ⟨q, a, b, c, e⟩, fun ⟨q, a, b, c, e⟩ => ⟨q, a, b, c, GR_pre h (by omega) a b c, e⟩⟩) (h0 _ hx)
      intro y hy
      refine MX_cong (fun z => or_congr_right ?_) ((ho_ok hg hw ha hx hf h0 m (Nat.le_refl _)).2 y hy)
      constructor
      · rintro ⟨q, a, b, c, d, e⟩
        refine ⟨q, a, b, c, ?_, e⟩
        rcases d with ⟨t, ht, d⟩ | ⟨-, d⟩
        · exact ⟨t, by omega, d⟩
        · exact ⟨i, by omega, d.symm⟩
      · rintro ⟨q, a, b, c, ⟨t, ht, d⟩, e⟩
        refine ⟨q, a, b, c, ?_, e⟩
        by_cases k : t = i
        · subst k; exact Or.inr ⟨a, d.symm⟩
        · exact Or.inl ⟨t, by omega, d⟩
  intro x hx
  refine MX_cong (fun z => ?_) (key n (Nat.le_refl _) x hx)
  rw [SE_s hx hg]
  apply or_congr_right
  exact ⟨fun ⟨q, a, b, c, d, e⟩ => ⟨q, a, b, c, e⟩, fun ⟨q, a, b, c, e⟩ => ⟨q, a, b, c, GR_onto h (hg.2.2 q a).1, e⟩⟩
theorem grMX (hg : gOK n m fr to) {fa : Nat → Int32} (h : ∀ x, x < n → MX (fa x).toInt (SE n m fr to w th x)) : MX (grR n fa).toInt (fun z => ∃ k, aW n m fr to w th k z) := by
  have key : ∀ i, i ≤ n → MX (fl (grS fa) i 0).toInt (fun z => z = 0 ∨ ∃ y, y < i ∧ SE n m fr to w th y z) := by
    intro i
    induction i with
    | zero =>
      intro _
      rw [fl_0, z32I]
      refine ⟨Or.inl rfl, ?_⟩
      rintro z (rfl | ⟨y, hy, -⟩)
      · exact Int.le_refl _
      · exact absurd hy (Nat.not_lt_zero y)
    | succ i ih =>
      intro hi
      have h0 := ih (by omega)
      rw [fl_s]
      generalize fl (grS fa) i 0 = g at h0 ⊢
      refine MX_cong (fun z => ?_) (MX_max h0 (h i (by omega)))
      constructor
      · rintro ((q | ⟨y, hy, q⟩) | q)
        · exact Or.inl q
        · exact Or.inr ⟨y, by omega, q⟩
        · exact Or.inr ⟨i, by omega, q⟩
      · rintro (q | ⟨y, hy, q⟩)
        · exact Or.inl (Or.inl q)
        · by_cases k : y = i
          · subst k; exact Or.inr q
          · exact Or.inl (Or.inr ⟨y, by omega, q⟩)
  refine MX_cong (fun z => ?_) (key n (Nat.le_refl _))
  constructor
  · rintro (rfl | ⟨y, hy, k, u, hu, hE⟩)
    · exact ⟨0, Or.inl ⟨rfl, rfl⟩⟩
    · exact ⟨k, Or.inr ⟨u, y, hu, hE⟩⟩
  · rintro ⟨k, ⟨-, rfl⟩ | ⟨u, v, hu, hE⟩⟩
    · exact Or.inl rfl
    · exact Or.inr ⟨v, Ex_end hg hu hE, k, u, hu, hE⟩
/-- what the class keeps of a graph, worked out -/
def RV (n m : Nat) (fr to : Nat → Nat) (w : Nat → Int32) (th : Nat → Bool) (od : Nat → Nat) (oc : Nat) (fa : Nat → Int32) (on : Nat → Nat → Int32) (gr : Int32) : Prop :=
  GR n m fr to th od oc ∧ (acyc n m fr to w th → (∀ x, x < n → MX (fa x).toInt (SE n m fr to w th x)) ∧ MX gr.toInt (fun z => ∃ k, aW n m fr to w th k z) ∧ ∀ i, i ≤ 11 → ∀ x, x < n → MX (on i x).toInt (SB m fr to w th i x))
theorem RV_ok (hg : gOK n m fr to) (hw : wOK m w) {ch sr gr : Int32} {io : Nat → Bool} {fa : Nat → Int32} {on : Nat → Nat → Int32} (h : sr = ch → RV n m fr to w th od oc fa on gr) :
    RV n m fr to w th (rOd n m ch fr to th od io sr) (rOc n m ch fr to th od io oc sr) (rFa n m ch fr to w th od io fa sr) (rOn n m ch fr to w th od io on sr) (rGr n m ch fr to w th od io fa gr sr) := by
  unfold rOd rOc rFa rOn rGr
  by_cases c : sr = ch
  · rw [if_pos c, if_pos c, if_pos c, if_pos c, if_pos c]; exact h c
  · rw [if_neg c, if_neg c, if_neg c, if_neg c, if_neg c]
    have hG := ordR_GR (th := th) hg od io
    refine ⟨hG, fun ha => ?_⟩
    have e := acyc_full hg ha hG
    rw [if_neg (by omega), if_neg (by omega), if_neg (by omega)]
    rw [e] at hG ⊢
    have hf := fa_ok (w := w) hg hw hG fa
    exact ⟨hf, grMX hg hf, on_ok hg hw on⟩
end MC
