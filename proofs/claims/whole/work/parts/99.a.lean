/-! THE LAW: what holds at the head of its loop -/
def chO (c : Nat) (x : Int32) : Prop := x = -1 ∨ ∃ c', c' ≤ c ∧ x = nI c'
/-- what holds of the class's values after at most cN calls -/
def CI (cN n m : Nat) (ch : Int32) (fr to : Nat → Nat) (w : Nat → Int32) (th : Nat → Bool) (L : Nat → Nat → Int32) (la : Nat) (sw : Int32) (od : Nat → Nat) (oc : Nat) (fa : Nat → Int32) (on : Nat → Nat → Int32) (gr sr : Int32) : Prop :=
  gOK n m fr to ∧ wOK m w ∧ la < 21 ∧ (oc ≤ 12 ∧ ∀ j, j < oc → od j < 12) ∧ (∃ c, c ≤ cN ∧ ch = nI c ∧ chO c sw ∧ chO c sr) ∧ (sw = ch → LSt n m fr to w th L la) ∧ (sr = ch → RV n m fr to w th od oc fa on gr)
section LI
variable {cN n m : Nat} {ch : Int32} {fr to : Nat → Nat} {w : Nat → Int32} {th : Nat → Bool} {L : Nat → Nat → Int32} {la : Nat} {sw : Int32} {od : Nat → Nat} {io : Nat → Bool} {oc : Nat} {fa : Nat → Int32} {on : Nat → Nat → Int32} {gr sr : Int32}
theorem CI_up (h : CI cN n m ch fr to w th L la sw od oc fa on gr sr) : CI (cN + 1) n m ch fr to w th L la sw od oc fa on gr sr := by
  obtain ⟨h1, h2, h3, h4, ⟨c, c1, c2⟩, h6, h7⟩ := h
  exact ⟨h1, h2, h3, h4, ⟨c, by omega, c2⟩, h6, h7⟩
theorem chO_ne {c : Nat} (hc : c < 2 ^ 30) {x : Int32} (h : chO c x) : ¬ x = nI (c + 1) := by
  rcases h with rfl | ⟨c', h1, rfl⟩
  · exact fun q => nI_m1 (by omega) q.symm
  · intro q
    have := (nI_eq (by omega) (by omega)).mp q
    omega
theorem chO_s {c : Nat} {x : Int32} (h : chO c x) : chO (c + 1) x := by
  rcases h with rfl | ⟨c', h1, rfl⟩
  · exact Or.inl rfl
  · exact Or.inr ⟨c', by omega, rfl⟩
theorem CI_chg (h : CI cN n m ch fr to w th L la sw od oc fa on gr sr) (hcN : cN < 2 ^ 30) {n' m' : Nat} {fr' to' : Nat → Nat} {w' : Nat → Int32} (th' : Nat → Bool) (hg : gOK n' m' fr' to') (hw : wOK m' w') : CI (cN + 1) n' m' (ch + 1) fr' to' w' th' L la sw od oc fa on gr sr := by
  obtain ⟨-, -, h3, h4, ⟨c, c1, rfl, c3, c4⟩, -, -⟩ := h
  rw [nI_1]
  exact ⟨hg, hw, h3, h4, ⟨c + 1, by omega, rfl, chO_s c3, chO_s c4⟩, fun q => absurd q (chO_ne (by omega) c3), fun q => absurd q (chO_ne (by omega) c4)⟩
theorem CI_wk (h : CI cN n m ch fr to w th L la sw od oc fa on gr sr) {x : Nat} (hx : x ≤ 20) : CI (cN + 1) n m ch fr to w th (wkL n m ch fr to w th L la sw x) (wka ch la sw x) ch od oc fa on gr sr ∧ LSt n m fr to w th (wkL n m ch fr to w th L la sw x) x := by
  obtain ⟨h1, h2, h3, h4, ⟨c, c1, c2, c3, c4⟩, h6, h7⟩ := h
  obtain ⟨k1, k2, k3⟩ := wkL_ok (x := x) h1 h2 (show la ≤ 20 by omega) hx h6
  exact ⟨⟨h1, h2, by omega, h4, ⟨c, by omega, c2, Or.inr ⟨c, Nat.le_refl _, c2⟩, c4⟩, fun _ => k1, h7⟩, fun t ht => k1 t (by omega)⟩
theorem CI_rv (h : CI cN n m ch fr to w th L la sw od oc fa on gr sr) : CI (cN + 1) n m ch fr to w th L la sw (rOd n m ch fr to th od io sr) (rOc n m ch fr to th od io oc sr) (rFa n m ch fr to w th od io fa sr) (rOn n m ch fr to w th od io on sr) (rGr n m ch fr to w th od io fa gr sr) ch ∧ RV n m fr to w th (rOd n m ch fr to th od io sr) (rOc n m ch fr to th od io oc sr) (rFa n m ch fr to w th od io fa sr) (rOn n m ch fr to w th od io on sr) (rGr n m ch fr to w th od io fa gr sr) := by
  obtain ⟨h1, h2, h3, h4, ⟨c, c1, c2, c3, c4⟩, h6, h7⟩ := h
  have hR := RV_ok (io := io) h1 h2 h7
  exact ⟨⟨h1, h2, h3, rO_ok h1.1 h4, ⟨c, by omega, c2, c3, Or.inr ⟨c, Nat.le_refl _, c2⟩⟩, h6, fun _ => hR⟩, hR⟩
theorem ix_nat {x : Int32} {n : Nat} (hn : n ≤ 40) (h : ixB x n = true) : x.toNatClampNeg < n := by
  obtain ⟨u, hu, rfl⟩ := ixB_t hn h
  rw [nI_clamp (by omega)]
  exact hu
-- the changes
theorem ch_node (h : CI cN n m ch fr to w th L la sw od oc fa on gr sr) (hcN : cN < 2 ^ 30) : CI (cN + 1) (bw (decide (n < 12)) (n + 1) n) m (bw (decide (n < 12)) (ch + 1) ch) fr to w th L la sw od oc fa on gr sr := by
  by_cases c : n < 12
  · rw [bw_t (decide_eq_true c), bw_t (decide_eq_true c)]
    obtain ⟨g1, g2, g3⟩ := h.1
    exact CI_chg h hcN th ⟨by omega, g2, fun j hj => by have := g3 j hj; omega⟩ h.2.1
  · rw [bw_f (decide_eq_false c), bw_f (decide_eq_false c)]
    exact CI_up h
theorem ou_w {z : Int32} (h : ouB z (-1000) 1000 = false) : -1000 ≤ z.toInt ∧ z.toInt ≤ 1000 := by
  simp only [ouB, Bool.or_eq_false_iff, decide_eq_false_iff_not, Classical.not_not] at h
  have e1 : (-1000 : Int32).toInt = -1000 := by decide
  have e2 : (1000 : Int32).toInt = 1000 := by decide
  have h1 := h.1
  have h2 := h.2
  rw [Int32.lt_iff_toInt_lt, e1] at h1
  rw [Int32.le_iff_toInt_le, e2] at h2
  omega
theorem ch_arc (h : CI cN n m ch fr to w th L la sw od oc fa on gr sr) (hcN : cN < 2 ^ 30) (x y z : Int32) : CI (cN + 1) n (bw (arB n m x y z) (m + 1) m) (bw (arB n m x y z) (ch + 1) ch) (bw (arB n m x y z) (va_up fr m x.toNatClampNeg) fr) (bw (arB n m x y z) (va_up to m y.toNatClampNeg) to) (bw (arB n m x y z) (va_up w m z) w) (bw (arB n m x y z) (va_up th m true) th) L la sw od oc fa on gr sr := by
  cases c : arB n m x y z with
  | true =>
    rw [bw_t rfl, bw_t rfl, bw_t rfl, bw_t rfl, bw_t rfl, bw_t rfl]
    unfold arB at c
    rw [Bool.and_eq_true, Bool.and_eq_true, Bool.and_eq_true, Bool.not_eq_true', decide_eq_true_eq] at c
    obtain ⟨⟨cx, cy⟩, cz, cm⟩ := c
    obtain ⟨g1, g2, g3⟩ := h.1
    have cx := ix_nat (by omega) cx
    have cy := ix_nat (by omega) cy
    have cz := ou_w cz
    refine CI_chg h hcN _ ⟨g1, by omega, fun j hj => ?_⟩ (fun j hj => ?_)
    · by_cases e : j = m
      · subst e; rw [va_up_self, va_up_self]; exact ⟨cx, cy⟩
      · rw [va_up_ne _ _ e, va_up_ne _ _ e]; exact g3 j (by omega)
    · by_cases e : j = m
      · subst e; rw [va_up_self]; exact cz
      · rw [va_up_ne _ _ e]; exact h.2.1 j (by omega)
  | false =>
    rw [bw_f rfl, bw_f rfl, bw_f rfl, bw_f rfl, bw_f rfl, bw_f rfl]
    exact CI_up h
theorem ch_weight (h : CI cN n m ch fr to w th L la sw od oc fa on gr sr) (hcN : cN < 2 ^ 30) (x z : Int32) : CI (cN + 1) n m (bw (weB m x z) (ch + 1) ch) fr to (bw (weB m x z) (va_up w x.toNatClampNeg z) w) th L la sw od oc fa on gr sr := by
  cases c : weB m x z with
  | true =>
    rw [bw_t rfl, bw_t rfl]
    unfold weB at c
    rw [Bool.and_eq_true, Bool.not_eq_true'] at c
    have cz := ou_w c.2
    refine CI_chg h hcN _ h.1 (fun j hj => ?_)
    by_cases e : j = x.toNatClampNeg
    · subst e; rw [va_up_self]; exact cz
    · rw [va_up_ne _ _ e]; exact h.2.1 j hj
  | false =>
    rw [bw_f rfl, bw_f rfl]
    exact CI_up h
theorem ch_turn (h : CI cN n m ch fr to w th L la sw od oc fa on gr sr) (hcN : cN < 2 ^ 30) (x : Int32) : CI (cN + 1) n m (bw (ixB x m) (ch + 1) ch) fr to w (bw (ixB x m) (va_up th x.toNatClampNeg (!(th x.toNatClampNeg))) th) L la sw od oc fa on gr sr := by
  cases c : ixB x m with
  | true =>
    rw [bw_t rfl, bw_t rfl]
    exact CI_chg h hcN _ h.1 h.2.1
  | false =>
    rw [bw_f rfl, bw_f rfl]
    exact CI_up h
theorem ch_clear (h : CI cN n m ch fr to w th L la sw od oc fa on gr sr) (hcN : cN < 2 ^ 30) : CI (cN + 1) 0 0 (ch + 1) fr to w th L la sw od oc fa on gr sr :=
  CI_chg h hcN th ⟨Nat.zero_le _, Nat.zero_le _, fun j hj => absurd hj (Nat.not_lt_zero j)⟩ (fun j hj => absurd hj (Nat.not_lt_zero j))
/-- worked out, if asked so -/
theorem ch_wk (h : CI cN n m ch fr to w th L la sw od oc fa on gr sr) (q : Bool) {x : Nat} (hx : q = true → x ≤ 20) : CI (cN + 1) n m ch fr to w th (bw q (wkL n m ch fr to w th L la sw x) L) (bw q (wka ch la sw x) la) (bw q ch sw) od oc fa on gr sr := by
  cases q with
  | true => exact (CI_wk h (hx rfl)).1
  | false => exact CI_up h
theorem ch_rv (h : CI cN n m ch fr to w th L la sw od oc fa on gr sr) (q : Bool) : CI (cN + 1) n m ch fr to w th L la sw (bw q (rOd n m ch fr to th od io sr) od) (bw q (rOc n m ch fr to th od io oc sr) oc) (bw q (rFa n m ch fr to w th od io fa sr) fa) (bw q (rOn n m ch fr to w th od io on sr) on) (bw q (rGr n m ch fr to w th od io fa gr sr) gr) (bw q ch sr) := by
  cases q with
  | true => exact (CI_rv h).1
  | false => exact CI_up h
-- the answers
variable {be al pa bo mo : Nat → Int64} {r1 r2 : Int32}
theorem an_least (h : CI cN n m ch fr to w th L la sw od oc fa on gr sr) (x y : Int32) (h1 : r1 = bw (ixB x n && ixB y n) (leastF n (wkL n m ch fr to w th L la sw 12) x.toNatClampNeg y.toNatClampNeg) (-1000000001)) (h2 : r2 = bw (ixB x n && ixB y n) (lsA n (fwB n m fr to w th be) x.toNatClampNeg y.toNatClampNeg) (-1000000001)) : r1 = r2 := by
  have hn := h.1.1
  rw [h1, h2]
  cases c : (ixB x n && ixB y n) with
  | false => rw [bw_f rfl, bw_f rfl]
  | true =>
    rw [bw_t rfl, bw_t rfl]
    obtain ⟨cx, cy⟩ := and_t c
    exact least_eq h.1 h.2.1 (CI_wk h (by omega)).2 (ix_nat (by omega) cx) (ix_nat (by omega) cy)
theorem hy_way (h : CI cN n m ch fr to w th L la sw od oc fa on gr sr) (x y z : Int32) : (ixB x n && ixB y n) = true → ¬ 1000000000000 ≤ (fwB n m fr to w th be) (12 * x.toNatClampNeg + y.toNatClampNeg) → anyF (bbP (fwB n m fr to w th be) x.toNatClampNeg y.toNatClampNeg) n = false → wyG m fr to w th (fwB n m fr to w th be) y.toNatClampNeg 50 x.toNatClampNeg := by
  intro c
  have hn := h.1.1
  obtain ⟨cx, cy⟩ := and_t c
  exact (way_ok h.1 h.2.1 (CI_wk (x := 12) h (by omega)).2 (ix_nat (by omega) cx) (ix_nat (by omega) cy) z).1
theorem an_way (h : CI cN n m ch fr to w th L la sw od oc fa on gr sr) (x y z : Int32) (h1 : r1 = bw (ixB x n && ixB y n) (oI (wayX n m fr to w th (wkL n m ch fr to w th L la sw 12) x.toNatClampNeg y.toNatClampNeg z)) (-1000000001)) (h2 : ((ixB x n && ixB y n) = false ∧ r2 = -1000000001) ∨ ((ixB x n && ixB y n) = true ∧ ((fwB n m fr to w th be) (12 * x.toNatClampNeg + y.toNatClampNeg) < 1000000000000 → anyF (bbP (fwB n m fr to w th be) x.toNatClampNeg y.toNatClampNeg) n = false → wyR m fr to w th (fwB n m fr to w th be) y.toNatClampNeg z 50 x.toNatClampNeg 0 r2) ∧ ((1000000000000 ≤ (fwB n m fr to w th be) (12 * x.toNatClampNeg + y.toNatClampNeg) ∨ anyF (bbP (fwB n m fr to w th be) x.toNatClampNeg y.toNatClampNeg) n = true) → r2 = -1))) : r1 = r2 := by
  have hn := h.1.1
  rw [h1]
  rcases h2 with ⟨c, e⟩ | ⟨c, e1, e2⟩
  · rw [bw_f c, e]
  · rw [bw_t c]
    obtain ⟨cx, cy⟩ := and_t c
    exact (way_ok h.1 h.2.1 (CI_wk (x := 12) h (by omega)).2 (ix_nat (by omega) cx) (ix_nat (by omega) cy) z).2 r2 e1 e2
theorem wi_20 {x y z : Int32} (h : wiB n x y z = true) : z.toNatClampNeg ≤ 20 := by
  unfold wiB at h
  rw [Bool.and_eq_true, Bool.not_eq_true'] at h
  obtain ⟨j, hj, rfl⟩ := ouB_in h.2
  rw [nI_clamp (by omega)]
  exact hj
theorem an_within (h : CI cN n m ch fr to w th L la sw od oc fa on gr sr) (x y z : Int32) (h1 : r1 = wiA n (wkL n m ch fr to w th L la sw z.toNatClampNeg) x y z) (h2 : r2 = wiM n (fgR n m fr to w th al pa bo z.toNatClampNeg).1 x y z) : r1 = r2 := by
  have hn := h.1.1
  rw [h1, h2]
  unfold wiA wiM
  by_cases c : (ixB x n && ixB y n) = true
  · rw [if_pos c, if_pos c]
    by_cases d : ouB z 0 20 = true
    · rw [if_pos d, if_pos d]
    · rw [if_neg d, if_neg d]
      obtain ⟨cx, cy⟩ := and_t c
      obtain ⟨j, hj, rfl⟩ := ouB_in (by simpa using d)
      rw [nI_clamp (by omega)]
      have hl := (CI_wk (x := j) h hj).2 j (Nat.le_refl _)
      exact within_eq h.1 h.2.1 hj hl (fg_ok h.1 h.2.1 al pa bo hj) (ix_nat (by omega) cx) (ix_nat (by omega) cy)
  · rw [if_neg c, if_neg c]
theorem hy_rounds (h : CI cN n m ch fr to w th L la sw od oc fa on gr sr) (x : Int32) : ixB x n = true → rsB n (fwB n m fr to w th be) x.toNatClampNeg = true → ∃ jj, fst (atQ n m fr to w th (fwB n m fr to w th be) x.toNatClampNeg) 21 = some jj := by
  intro c e
  have hn := h.1.1
  obtain ⟨h1, h2⟩ := (rounds_ok (f := be) h.1 h.2.1 (CI_wk (x := 12) h (by omega)).2 (ix_nat (by omega) c)).1 e
  rw [h1]
  exact h2
theorem an_rounds (h : CI cN n m ch fr to w th L la sw od oc fa on gr sr) (x : Int32) (h1 : r1 = bw (ixB x n) (oI (rndO n (wkL n m ch fr to w th L la sw 12) x.toNatClampNeg)) (-1000000001)) (h2 : ((ixB x n) = false ∧ r2 = -1000000001) ∨ ((ixB x n) = true ∧ ((rsB n (fwB n m fr to w th be) x.toNatClampNeg = false ∧ r2 = -1) ∨ (rsB n (fwB n m fr to w th be) x.toNatClampNeg = true ∧ ∃ jj, fst (atQ n m fr to w th (fwB n m fr to w th be) x.toNatClampNeg) 21 = some jj ∧ r2 = nI jj)))) : r1 = r2 := by
  have hn := h.1.1
  rw [h1]
  rcases h2 with ⟨c, e⟩ | ⟨c, e⟩
  · rw [bw_f c, e]
  · rw [bw_t c]
    have hR := rounds_ok (f := be) h.1 h.2.1 (CI_wk (x := 12) h (by omega)).2 (ix_nat (by omega) c)
    rcases e with ⟨e1, e2⟩ | ⟨e1, jj, e2, e3⟩
    · rw [hR.2 e1, e2]; rfl
    · rw [← (hR.1 e1).1, e2, e3]; rfl
theorem an_falling (h : CI cN n m ch fr to w th L la sw od oc fa on gr sr) (h1 : r1 = nI (shL n (wkL n m ch fr to w th L la sw 12))) (h2 : r2 = nI (feN n m fr to w th)) : r1 = r2 := by
  rw [h1, h2, shL_eq h.1 h.2.1 (CI_wk (x := 12) h (by omega)).2]
theorem hy_ring (h : CI cN n m ch fr to w th L la sw od oc fa on gr sr) : rgA n m fr to w th (raC m fr to w th (wkL n m ch fr to w th L la sw 12) (feN n m fr to w th)) (feN n m fr to w th) := (ring_ok h.1 h.2.1 (CI_wk (x := 12) h (by omega)).2).1
theorem an_ring (h : CI cN n m ch fr to w th L la sw od oc fa on gr sr) (x : Int32) (h1 : r1 = oI (shX n m fr to w th (wkL n m ch fr to w th L la sw 12) x)) (h2 : r2 = bw (ixB x (feN n m fr to w th)) (nI (raC m fr to w th (wkL n m ch fr to w th L la sw 12) (feN n m fr to w th) x.toNatClampNeg)) (-1)) : r1 = r2 := by
  rw [h1, h2]
  exact (ring_ok h.1 h.2.1 (CI_wk (x := 12) h (by omega)).2).2 x
theorem an_height (h : CI cN n m ch fr to w th L la sw od oc fa on gr sr) (x : Int32) (h1 : r1 = bw (ixB x n) (heA n (wkL n m ch fr to w th L la sw 12) x.toNatClampNeg) (-1000000001)) (h2 : r2 = bw (ixB x n) (heM n (fwB n m fr to w th be) x.toNatClampNeg) (-1000000001)) : r1 = r2 := by
  have hn := h.1.1
  rw [h1, h2]
  cases c : ixB x n with
  | false => rw [bw_f rfl, bw_f rfl]
  | true =>
    rw [bw_t rfl, bw_t rfl]
    exact height_eq h.1 h.2.1 (CI_wk h (by omega)).2 (ix_nat (by omega) c)
theorem an_lifted (h : CI cN n m ch fr to w th L la sw od oc fa on gr sr) (x : Int32) (h1 : r1 = liA n m fr to w th (wkL n m ch fr to w th L la sw 12) x) (h2 : r2 = liM n m fr to w th (fwB n m fr to w th be) x) : r1 = r2 := by
  rw [h1, h2]
  exact lifted_eq h.1 h.2.1 (CI_wk h (by omega)).2 x
theorem an_spare (h : CI cN n m ch fr to w th L la sw od oc fa on gr sr) (x : Int32) (h1 : r1 = spA n m fr to w th (wkL n m ch fr to w th L la sw 12) x) (h2 : r2 = spM n m fr to w th (fwB n m fr to w th be) x) : r1 = r2 := by
  rw [h1, h2]
  exact spare_eq h.1 h.2.1 (CI_wk h (by omega)).2 x
theorem an_far (h : CI cN n m ch fr to w th L la sw od oc fa on gr sr) (x : Int32) (h1 : r1 = bw (ixB x n) (stA n (rOc n m ch fr to th od io oc sr) ((rFa n m ch fr to w th od io fa sr) x.toNatClampNeg)) (-1000000001)) (h2 : r2 = bw (ixB x n) (bw (frB n m fr to w th mo) (wOf (gtF n (frM n m fr to w th mo) x.toNatClampNeg true)) (-1000000003)) (-1000000001)) : r1 = r2 := by
  have hn := h.1.1
  rw [h1, h2]
  cases c : ixB x n with
  | false => rw [bw_f rfl, bw_f rfl]
  | true =>
    rw [bw_t rfl, bw_t rfl]
    exact T_far h.1 h.2.1 (CI_rv h).2 (ix_nat (by omega) c)
theorem an_late (h : CI cN n m ch fr to w th L la sw od oc fa on gr sr) (x : Int32) (h1 : r1 = bw (ixB x n) (stA n (rOc n m ch fr to th od io oc sr) ((rGr n m ch fr to w th od io fa gr sr) - (rOn n m ch fr to w th od io on sr) 11 x.toNatClampNeg)) (-1000000001)) (h2 : r2 = bw (ixB x n) (bw (frB n m fr to w th mo) (wOf (tpF n (frM n m fr to w th mo)) - wOf (gtF n (frM n m fr to w th mo) x.toNatClampNeg false)) (-1000000003)) (-1000000001)) : r1 = r2 := by
  have hn := h.1.1
  rw [h1, h2]
  cases c : ixB x n with
  | false => rw [bw_f rfl, bw_f rfl]
  | true =>
    rw [bw_t rfl, bw_t rfl]
    exact T_late h.1 h.2.1 (CI_rv h).2 (ix_nat (by omega) c)
theorem an_whole (h : CI cN n m ch fr to w th L la sw od oc fa on gr sr) (h1 : r1 = stA n (rOc n m ch fr to th od io oc sr) (rGr n m ch fr to w th od io fa gr sr)) (h2 : r2 = bw (frB n m fr to w th mo) (wOf (tpF n (frM n m fr to w th mo))) (-1000000003)) : r1 = r2 := by
  rw [h1, h2]
  exact T_whole h.1 h.2.1 (CI_rv h).2
theorem hy_order (h : CI cN n m ch fr to w th L la sw od oc fa on gr sr) : frB n m fr to w th mo = true → odG n m fr to th n 0 := (T_order h.1 h.2.1 (CI_rv (io := fun _ => false) h).2).1
theorem an_order (h : CI cN n m ch fr to w th L la sw od oc fa on gr sr) (x : Int32) (h1 : r1 = stA n (rOc n m ch fr to th od io oc sr) (oI (ndO (rOd n m ch fr to th od io sr) (rOc n m ch fr to th od io oc sr) x))) (h2 : ((frB n m fr to w th mo) = false ∧ r2 = -1000000003) ∨ ((frB n m fr to w th mo) = true ∧ odR n m fr to th x n 0 0 r2)) : r1 = r2 := by
  rw [h1]
  exact (T_order (mo := mo) h.1 h.2.1 (CI_rv h).2).2 x r2 h2
theorem hy_crit (h : CI cN n m ch fr to w th L la sw od oc fa on gr sr) : frB n m fr to w th mo = true → crG n m fr to w th (frM n m fr to w th mo) 50 (-1) (tpF n (frM n m fr to w th mo)) := (T_crit h.1 h.2.1 (CI_rv (io := fun _ => false) h).2).1
theorem an_critical (h : CI cN n m ch fr to w th L la sw od oc fa on gr sr) (x : Int32) (h1 : r1 = stA n (rOc n m ch fr to th od io oc sr) (oI (crX n m fr to w th (rOn n m ch fr to w th od io on sr) (rGr n m ch fr to w th od io fa gr sr) x))) (h2 : ((frB n m fr to w th mo) = false ∧ r2 = -1000000003) ∨ ((frB n m fr to w th mo) = true ∧ crR n m fr to w th (frM n m fr to w th mo) x 50 (-1) (tpF n (frM n m fr to w th mo)) 0 r2)) : r1 = r2 := by
  rw [h1]
  exact (T_crit (mo := mo) h.1 h.2.1 (CI_rv h).2).2 x r2 h2
end LI
