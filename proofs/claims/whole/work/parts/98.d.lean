/-! THE ANSWERS where there is no ring -/
section MD
variable {n m : Nat} {fr to : Nat → Nat} {w : Nat → Int32} {th : Nat → Bool} {od : Nat → Nat} {oc : Nat} {fa : Nat → Int32} {on : Nat → Nat → Int32} {gr : Int32} {mo : Nat → Int64}
theorem RV_st (hg : gOK n m fr to) (hw : wOK m w) (h : RV n m fr to w th od oc fa on gr) : (oc < n ↔ frB n m fr to w th mo = false) ∧ (frB n m fr to w th mo = true → oc = n ∧ acyc n m fr to w th) := by
  have key : frB n m fr to w th mo = true → oc = n ∧ acyc n m fr to w th := fun q => by
    have ha := (fr_true hg hw mo q).1
    exact ⟨acyc_full hg ha h.1, ha⟩
  refine ⟨⟨fun q => ?_, fun q => ?_⟩, key⟩
  · cases e : frB n m fr to w th mo with
    | false => rfl
    | true => have := (key e).1; omega
  · have h1 := h.1.1
    rcases Nat.lt_or_ge oc n with c | c
    · exact c
    · have e : oc = n := by omega
      have ha : acyc n m fr to w th := by
        have := h.1
        rw [e] at this
        exact GR_acyc this
      rw [fr_acyc hg hw mo ha] at q
      cases q
theorem stA_eq (hg : gOK n m fr to) (hw : wOK m w) (h : RV n m fr to w th od oc fa on gr) {x y : Int32} (e : frB n m fr to w th mo = true → acyc n m fr to w th → oc = n → x = y) : stA n oc x = bw (frB n m fr to w th mo) y (-1000000003) := by
  obtain ⟨h1, h2⟩ := RV_st (mo := mo) hg hw h
  unfold stA
  cases c : frB n m fr to w th mo with
  | false =>
    rw [if_pos (h1.mpr c), bw_f rfl]
  | true =>
    obtain ⟨h3, h4⟩ := h2 c
    rw [if_neg (by omega), bw_t rfl]
    exact e c h4 h3
theorem Ex_k (hg : gOK n m fr to) (hw : wOK m w) (ha : acyc n m fr to w th) {k u v : Nat} {z : Int} (hu : u < n) (hE : Ex m fr to w th k u v z) : k ≤ 11 ∧ -12000 ≤ z ∧ z ≤ 12000 := by
  have := acyc_short hg ha hu hE
  have := Ex_bnd hw hE
  have := hg.1
  omega
theorem aW_k (hg : gOK n m fr to) (hw : wOK m w) (ha : acyc n m fr to w th) {k : Nat} {z : Int} (h : aW n m fr to w th k z) : k ≤ 11 ∧ -12000 ≤ z ∧ z ≤ 12000 := by
  rcases h with ⟨rfl, rfl⟩ | ⟨u, v, hu, hE⟩
  · omega
  · exact Ex_k hg hw ha hu hE
theorem far_eq (hg : gOK n m fr to) (hw : wOK m w) (h : RV n m fr to w th od oc fa on gr) {x : Nat} (hx : x < n) (hb : frB n m fr to w th mo = true) (ha : acyc n m fr to w th) : fa x = wOf (gtF n (frM n m fr to w th mo) x true) :=
  (lexi (S := fun k z => ∃ u, u < n ∧ Ex m fr to w th k u x z) (fun k z ⟨u, hu, hE⟩ => by have := Ex_k hg hw ha hu hE; omega) (gt_end hg hw mo hb hx) ((h.2 ha).1 x hx)).1.symm
theorem on11 (hg : gOK n m fr to) (hw : wOK m w) (h : RV n m fr to w th od oc fa on gr) {x : Nat} (hx : x < n) (ha : acyc n m fr to w th) : MX (on 11 x).toInt (fun z => ∃ k, ∃ v, Ex m fr to w th k x v z) :=
  MX_cong (fun z => ⟨fun ⟨k, _, q⟩ => ⟨k, q⟩, fun ⟨k, v, q⟩ => ⟨k, (Ex_k hg hw ha hx q).1, v, q⟩⟩) ((h.2 ha).2.2 11 (Nat.le_refl _) x hx)
theorem beg_eq (hg : gOK n m fr to) (hw : wOK m w) (h : RV n m fr to w th od oc fa on gr) {x : Nat} (hx : x < n) (hb : frB n m fr to w th mo = true) (ha : acyc n m fr to w th) : on 11 x = wOf (gtF n (frM n m fr to w th mo) x false) :=
  (lexi (S := fun k z => ∃ v, Ex m fr to w th k x v z) (fun k z ⟨v, hE⟩ => by have := Ex_k hg hw ha hx hE; omega) (gt_beg hg hw mo hb hx) (on11 hg hw h hx ha)).1.symm
theorem top_eq (hg : gOK n m fr to) (hw : wOK m w) (h : RV n m fr to w th od oc fa on gr) (hb : frB n m fr to w th mo = true) (ha : acyc n m fr to w th) : wOf (tpF n (frM n m fr to w th mo)) = gr ∧ ∃ k, aW n m fr to w th k gr.toInt ∧ (tpF n (frM n m fr to w th mo)).toInt = 1000 * gr.toInt - (k : Int) :=
  lexi (S := aW n m fr to w th) (fun k z q => by have := aW_k hg hw ha q; omega) (tp_ok hg hw mo hb) (h.2 ha).2.1
theorem T_far (hg : gOK n m fr to) (hw : wOK m w) (h : RV n m fr to w th od oc fa on gr) {x : Nat} (hx : x < n) : stA n oc (fa x) = bw (frB n m fr to w th mo) (wOf (gtF n (frM n m fr to w th mo) x true)) (-1000000003) :=
  stA_eq hg hw h (fun hb ha _ => far_eq hg hw h hx hb ha)
theorem T_late (hg : gOK n m fr to) (hw : wOK m w) (h : RV n m fr to w th od oc fa on gr) {x : Nat} (hx : x < n) : stA n oc (gr - on 11 x) = bw (frB n m fr to w th mo) (wOf (tpF n (frM n m fr to w th mo)) - wOf (gtF n (frM n m fr to w th mo) x false)) (-1000000003) :=
  stA_eq hg hw h (fun hb ha _ => by rw [(top_eq hg hw h hb ha).1, ← beg_eq hg hw h hx hb ha])
theorem T_whole (hg : gOK n m fr to) (hw : wOK m w) (h : RV n m fr to w th od oc fa on gr) : stA n oc gr = bw (frB n m fr to w th mo) (wOf (tpF n (frM n m fr to w th mo))) (-1000000003) :=
  stA_eq hg hw h (fun hb ha _ => (top_eq hg hw h hb ha).1.symm)
theorem T_order (hg : gOK n m fr to) (hw : wOK m w) (h : RV n m fr to w th od oc fa on gr) : (frB n m fr to w th mo = true → odG n m fr to th n 0) ∧ ∀ x r, ((frB n m fr to w th mo = false ∧ r = -1000000003) ∨ (frB n m fr to w th mo = true ∧ odR n m fr to th x n 0 0 r)) → stA n oc (oI (ndO od oc x)) = r := by
  obtain ⟨h1, h2⟩ := RV_st (mo := mo) hg hw h
  have hG := h.1
  refine ⟨fun q => ?_, fun x r hr => ?_⟩
  · rw [(h2 q).1] at hG
    exact (order_ok hg hG).1
  · unfold stA
    rcases hr with ⟨q, rfl⟩ | ⟨q, hr⟩
    · rw [if_pos (h1.mpr q)]
    · have e := (h2 q).1
      rw [if_neg (by omega)]
      rw [e] at hG ⊢
      exact (order_ok hg hG).2 x r hr
-- critical
/-- the walks that begin at the place z: a node's name, or -1 for anywhere -/
def SZ (n m : Nat) (fr to : Nat → Nat) (w : Nat → Int32) (th : Nat → Bool) (z : Int32) (k : Nat) (t : Int) : Prop := (z = -1 ∧ aW n m fr to w th k t) ∨ ∃ x, x < n ∧ z = nI x ∧ ∃ v, Ex m fr to w th k x v t
def CS (n m : Nat) (fr to : Nat → Nat) (w : Nat → Int32) (th : Nat → Bool) (z : Int32) (b : Nat) (q32 : Int32) (q64 : Int64) : Prop := q64.toInt = 1000 * q32.toInt - (b : Int) ∧ SZ n m fr to w th z b q32.toInt ∧ ∀ k t, SZ n m fr to w th z k t → 1000 * t - (k : Int) ≤ 1000 * q32.toInt - (b : Int)
theorem SZ_k (hg : gOK n m fr to) (hw : wOK m w) (ha : acyc n m fr to w th) {z : Int32} {k : Nat} {t : Int} (h : SZ n m fr to w th z k t) : k ≤ 11 ∧ -12000 ≤ t ∧ t ≤ 12000 := by
  rcases h with ⟨-, h⟩ | ⟨x, hx, -, v, hE⟩
  · exact aW_k hg hw ha h
  · exact Ex_k hg hw ha hx hE
theorem SZ_ext (hg : gOK n m fr to) {z : Int32} {j k v : Nat} {t : Int} (hj : j < m) (ht : th j = true) (hz : z = -1 ∨ nI (fr j) = z) (hE : Ex m fr to w th k (to j) v t) : SZ n m fr to w th z (k + 1) ((w j).toInt + t) := by
  rcases hz with q | q
  · exact Or.inl ⟨q, Or.inr ⟨fr j, v, (hg.2.2 j hj).1, Ex_cons hj ht hE⟩⟩
  · exact Or.inr ⟨fr j, (hg.2.2 j hj).1, q.symm, v, Ex_cons hj ht hE⟩
theorem cr_step (hg : gOK n m fr to) (hw : wOK m w) (h : RV n m fr to w th od oc fa on gr) (hb : frB n m fr to w th mo = true) (ha : acyc n m fr to w th) {z : Int32} {b j : Nat} {q32 : Int32} {q64 : Int64} (hC : CS n m fr to w th z (b + 1) q32 q64) (hj : j < m) (ht : th j = true) (hz : z = -1 ∨ nI (fr j) = z) :
    (w j + on b (to j) = q32 ↔ 1000 * (w j).toInt64 - 1 + gtF n (frM n m fr to w th mo) (to j) false = q64) ∧
    (1000 * (w j).toInt64 - 1 + gtF n (frM n m fr to w th mo) (to j) false = q64 → CS n m fr to w th (nI (to j)) b (q32 - w j) (q64 - (1000 * (w j).toInt64 - 1))) ∧
    (∀ v, Ex m fr to w th b (to j) v (q32.toInt - (w j).toInt) → w j + on b (to j) = q32) := by
  have hn := hg.1
  obtain ⟨c1, c2, c3⟩ := hC
  have hy := (hg.2.2 j hj).2
  have hwj := hw j hj
  have bk := SZ_k hg hw ha c2
  have hO := (h.2 ha).2.2 b (by omega) (to j) hy
  have hT := gt_beg hg hw mo hb hy
  have hcost := cost64m hwj
  obtain ⟨⟨k2, z2, ⟨v2, hE2⟩, e2⟩, hTm⟩ := hT
  obtain ⟨⟨k1, hk1, v1, hE1⟩, hOm⟩ := hO
  have b2 := Ex_k hg hw ha hy hE2
  have b1 := Ex_k hg hw ha hy hE1
  have x2 := c3 _ _ (SZ_ext hg hj ht hz hE2)
  have x1 := c3 _ _ (SZ_ext hg hj ht hz hE1)
  have s32 : (w j + on b (to j)).toInt = (w j).toInt + (on b (to j)).toInt := ad32 (by omega) (by omega)
  have s64 : (1000 * (w j).toInt64 - 1 + gtF n (frM n m fr to w th mo) (to j) false).toInt = 1000 * (w j).toInt - 1 + (gtF n (frM n m fr to w th mo) (to j) false).toInt := by
    rw [ad64 (by rw [hcost]; omega) (by rw [hcost]; omega), hcost]
  have y1 := hTm _ ⟨k1, _, ⟨v1, hE1⟩, rfl⟩
  have heq : 1000 * (w j).toInt64 - 1 + gtF n (frM n m fr to w th mo) (to j) false = q64 ↔ 1000 * (w j).toInt - 1 + (gtF n (frM n m fr to w th mo) (to j) false).toInt = 1000 * q32.toInt - ((b + 1 : Nat) : Int) := by
    rw [← Int64.toInt_inj, s64, c1]
  have third : ∀ v, Ex m fr to w th b (to j) v (q32.toInt - (w j).toInt) → w j + on b (to j) = q32 := by
    intro v hE
    apply Int32.toInt_inj.mp
    rw [s32]
    have := hOm _ ⟨b, Nat.le_refl _, v, hE⟩
    omega
  have mid : 1000 * (w j).toInt64 - 1 + gtF n (frM n m fr to w th mo) (to j) false = q64 → k2 = b ∧ z2 = q32.toInt - (w j).toInt := by
    intro e
    rw [heq] at e
    omega
  refine ⟨⟨fun e => ?_, fun e => ?_⟩, fun e => ?_, third⟩
  · rw [heq]
    have e : (w j + on b (to j)).toInt = q32.toInt := by rw [e]
    rw [s32] at e
    omega
  · obtain ⟨rfl, rfl⟩ := mid e
    exact third v2 hE2
  · obtain ⟨rfl, ez⟩ := mid e
    rw [heq] at e
    have q1 : (q32 - w j).toInt = q32.toInt - (w j).toInt := sb32 (by omega) (by omega)
    have q2 : (q64 - (1000 * (w j).toInt64 - 1)).toInt = 1000 * (q32.toInt - (w j).toInt) - (k2 : Int) := by
      rw [sb64 (by rw [hcost]; omega) (by rw [hcost]; omega), hcost, c1]
      omega
    refine ⟨by rw [q2, q1], Or.inr ⟨to j, hy, rfl, v2, by rw [q1, ← ez]; exact hE2⟩, ?_⟩
    rintro k t (⟨q, -⟩ | ⟨x, hx, q, v, hE⟩)
    · exact absurd q (nI_m1 (by omega))
    · have := (nI_eq (by omega) (by omega)).mp q
      subst this
      have := hTm _ ⟨k, t, ⟨v, hE⟩, rfl⟩
      rw [q1]
      omega
theorem cr_P (hg : gOK n m fr to) (hw : wOK m w) (h : RV n m fr to w th od oc fa on gr) (hb : frB n m fr to w th mo = true) (ha : acyc n m fr to w th) {z : Int32} {b j : Nat} {q32 : Int32} {q64 : Int64} (hC : CS n m fr to w th z (b + 1) q32 q64) (hj : j < m) : fcP fr to w th on z b q32 j = crP n fr to w th (frM n m fr to w th mo) z q64 j := by
  unfold fcP crP
  by_cases ht : th j = true
  · by_cases hz : z = -1 ∨ nI (fr j) = z
    · have hs := (cr_step hg hw h hb ha hC hj ht hz).1
      have e : decide (w j + on b (to j) = q32) = decide (1000 * (w j).toInt64 - 1 + gtF n (frM n m fr to w th mo) (to j) false = q64) := bool_eq (by rw [decide_eq_true_eq, decide_eq_true_eq]; exact hs)
      rw [e]
    · have e1 : decide (z = -1) = false := decide_eq_false (fun q => hz (Or.inl q))
      have e2 : decide (nI (fr j) = z) = false := decide_eq_false (fun q => hz (Or.inr q))
      rw [e1, e2]
      rfl
  · have : th j = false := by simpa using ht
    rw [this]
    rfl
theorem cr_ex (hg : gOK n m fr to) (hw : wOK m w) (h : RV n m fr to w th od oc fa on gr) (hb : frB n m fr to w th mo = true) (ha : acyc n m fr to w th) {z : Int32} {b : Nat} {q32 : Int32} {q64 : Int64} (hC : CS n m fr to w th z (b + 1) q32 q64) : ∃ j, fst (fcP fr to w th on z b q32) m = some j ∧ fst (crP n fr to w th (frM n m fr to w th mo) z q64) m = some j ∧ CS n m fr to w th (nI (to j)) b (q32 - w j) (q64 - (1000 * (w j).toInt64 - 1)) ∧ j < m := by
  have hc := fst_cong (m := m) (fun j hj => cr_P hg hw h hb ha hC hj)
  have hx : ∃ x v, x < n ∧ (z = -1 ∨ nI x = z) ∧ Ex m fr to w th (b + 1) x v q32.toInt := by
    rcases hC.2.1 with ⟨q, ⟨e, -⟩ | ⟨u, v, hu, hE⟩⟩ | ⟨x, hx, q, v, hE⟩
    · cases e
    · exact ⟨u, v, hu, Or.inl q, hE⟩
    · exact ⟨x, v, hx, Or.inr q.symm, hE⟩
  have : ∃ j, fst (fcP fr to w th on z b q32) m = some j := by
    apply fst_ex
    obtain ⟨x, v, hx, hz, hE⟩ := hx
    obtain ⟨j, hj, ht, rfl, e⟩ := Ex_first hE
    refine ⟨j, hj, ?_⟩
    have hs := (cr_step hg hw h hb ha hC hj ht hz).2.2 v e
    unfold fcP
    rw [ht, decide_eq_true hs]
    rcases hz with q | q
    · rw [decide_eq_true q]; rfl
    · rw [decide_eq_true q, Bool.or_true]; rfl
  obtain ⟨j, hjj⟩ := this
  refine ⟨j, hjj, by rw [← hc]; exact hjj, ?_, (fst_inv hjj).1⟩
  rw [hc] at hjj
  obtain ⟨h1, h2, -⟩ := fst_inv hjj
  unfold crP at h2
  rw [Bool.and_eq_true, Bool.and_eq_true, Bool.or_eq_true, decide_eq_true_eq, decide_eq_true_eq, decide_eq_true_eq] at h2
  exact (cr_step hg hw h hb ha hC h1 h2.1 h2.2.1).2.1 h2.2.2
theorem cr_0 (hg : gOK n m fr to) (hw : wOK m w) (ha : acyc n m fr to w th) {z : Int32} {b : Nat} {q32 : Int32} {q64 : Int64} (hC : CS n m fr to w th z b q32 q64) : q64 = 0 ↔ b = 0 := by
  obtain ⟨c1, c2, -⟩ := hC
  have bk := SZ_k hg hw ha c2
  rw [← Int64.toInt_inj, z64I, c1]
  constructor
  · intro e; omega
  · rintro rfl
    rcases c2 with ⟨-, ⟨-, e⟩ | ⟨u, v, -, hE⟩⟩ | ⟨x, -, -, v, hE⟩
    · omega
    · have := hE.2; omega
    · have := hE.2; omega
theorem cr_G (hg : gOK n m fr to) (hw : wOK m w) (h : RV n m fr to w th od oc fa on gr) (hb : frB n m fr to w th mo = true) (ha : acyc n m fr to w th) : ∀ (b f : Nat) (z : Int32) (q32 : Int32) (q64 : Int64), CS n m fr to w th z b q32 q64 → b < f → crG n m fr to w th (frM n m fr to w th mo) f z q64
  | 0, f + 1, z, q32, q64, hC, _ => Or.inl ((cr_0 hg hw ha hC).mpr rfl)
  | b + 1, f + 1, z, q32, q64, hC, hlt => by
    obtain ⟨j, h1, h2, h3, h4⟩ := cr_ex hg hw h hb ha hC
    exact Or.inr ⟨j, h2, cr_G hg hw h hb ha b f _ _ _ h3 (by omega)⟩
theorem cr_R (hg : gOK n m fr to) (hw : wOK m w) (h : RV n m fr to w th od oc fa on gr) (hb : frB n m fr to w th mo = true) (ha : acyc n m fr to w th) {x r : Int32} : ∀ (b f : Nat) (z : Int32) (q32 : Int32) (q64 : Int64) (k : Nat), CS n m fr to w th z b q32 q64 → b < f → k + b < 1000 → crR n m fr to w th (frM n m fr to w th mo) x f z q64 k r → (∀ i, i < b → x = nI (k + i) → r = oI (crF m fr to w th on i z b q32)) ∧ ((∀ i, i < b → ¬ x = nI (k + i)) → r = -1)
  | 0, f + 1, z, q32, q64, k, hC, _, _, hR => by
    rcases hR with ⟨-, hr⟩ | ⟨h1, -⟩
    · exact ⟨fun i hi => absurd hi (Nat.not_lt_zero i), fun _ => hr⟩
    · exact absurd ((cr_0 hg hw ha hC).mpr rfl) h1
  | b + 1, f + 1, z, q32, q64, k, hC, hlt, hkb, hR => by
    obtain ⟨j, h1, h2, h3, h4⟩ := cr_ex hg hw h hb ha hC
    rcases hR with ⟨h5, -⟩ | ⟨-, j2, h6, h7⟩
    · have := (cr_0 hg hw ha hC).mp h5; omega
    · rw [h2] at h6
      cases h6
      rcases h7 with ⟨h7, h8⟩ | ⟨h7, h8⟩
      · refine ⟨fun i hi hz => ?_, fun hno => absurd h7.symm (hno 0 (by omega))⟩
        have : k = k + i := (nI_eq (by omega) (by omega)).mp (by rw [h7]; exact hz)
        have : i = 0 := by omega
        subst this
        rw [h8, crF_0, show b + 1 - 1 = b by omega, h1]
        rfl
      · obtain ⟨g1, g2⟩ := cr_R hg hw h hb ha b f _ _ _ (k + 1) h3 (by omega) (by omega) h8
        refine ⟨fun i hi hz => ?_, fun hno => g2 (fun i hi hz => hno (i + 1) (by omega) (by rw [hz]; congr 1; omega))⟩
        cases i with
        | zero => exact absurd hz.symm h7
        | succ i =>
          rw [g1 i (by omega) (by rw [hz]; congr 1; omega), crF_s (j := j) (by rw [show b + 1 - 1 = b by omega]; exact h1), show b + 1 - 1 = b by omega]
theorem cl_eq (hg : gOK n m fr to) (hw : wOK m w) (h : RV n m fr to w th od oc fa on gr) (ha : acyc n m fr to w th) {b : Nat} (hb : aW n m fr to w th b gr.toInt) (hm : ∀ k z, aW n m fr to w th k z → 1000 * z - (k : Int) ≤ 1000 * gr.toInt - (b : Int)) : clN n on gr = b := by
  have bk := aW_k hg hw ha hb
  unfold clN
  by_cases n0 : n = 0
  · have hb0 : b = 0 := by
      rcases hb with ⟨e, -⟩ | ⟨u, v, hu, -⟩
      · exact e
      · omega
    have : fst (gwB n on gr) 12 = none := by
      apply fst_no
      intro i hi
      unfold gwB
      rw [n0]
      rfl
    rw [this, hb0]
    rfl
  · rw [fst_yes (i := b) (fun i hi => ?_) ?_ (by omega)]
    · rfl
    · unfold gwB
      rw [fst_some_iff]
      have hE : ∃ u v, u < n ∧ Ex m fr to w th b u v gr.toInt := by
        rcases hb with ⟨e1, e2⟩ | q
        · rw [e1, e2]; exact ⟨0, 0, by omega, rfl, rfl⟩
        · exact q
      obtain ⟨u, v, hu, hE⟩ := hE
      refine ⟨u, hu, ?_⟩
      unfold gwP
      rw [decide_eq_true_eq, ← Int32.toInt_inj]
      obtain ⟨⟨k, hk, v2, o1⟩, o2⟩ := (h.2 ha).2.2 b (by omega) u hu
      have a1 := o2 _ ⟨b, Nat.le_refl _, v, hE⟩
      have a2 := (h.2 ha).2.1.2 _ ⟨k, Or.inr ⟨u, v2, hu, o1⟩⟩
      omega
    · unfold gwB
      rw [eq_false_iff, fst_some_iff]
      rintro ⟨u, hu, e⟩
      unfold gwP at e
      rw [decide_eq_true_eq] at e
      obtain ⟨⟨k, hk, v2, o1⟩, -⟩ := (h.2 ha).2.2 i (by omega) u hu
      rw [e] at o1
      have := hm _ _ (Or.inr ⟨u, v2, hu, o1⟩)
      omega
theorem T_crit (hg : gOK n m fr to) (hw : wOK m w) (h : RV n m fr to w th od oc fa on gr) : (frB n m fr to w th mo = true → crG n m fr to w th (frM n m fr to w th mo) 50 (-1) (tpF n (frM n m fr to w th mo))) ∧ ∀ x r, ((frB n m fr to w th mo = false ∧ r = -1000000003) ∨ (frB n m fr to w th mo = true ∧ crR n m fr to w th (frM n m fr to w th mo) x 50 (-1) (tpF n (frM n m fr to w th mo)) 0 r)) → stA n oc (oI (crX n m fr to w th on gr x)) = r := by
  obtain ⟨h1, h2⟩ := RV_st (mo := mo) hg hw h
  have key : frB n m fr to w th mo = true → ∃ b, b ≤ 11 ∧ CS n m fr to w th (-1) b gr (tpF n (frM n m fr to w th mo)) ∧ clN n on gr = b := by
    intro hb
    have ha := (h2 hb).2
    obtain ⟨-, b, a1, a2⟩ := top_eq hg hw h hb ha
    have hm := (tp_ok hg hw mo hb).2
    refine ⟨b, (aW_k hg hw ha a1).1, ⟨a2, Or.inl ⟨rfl, a1⟩, ?_⟩, ?_⟩
    · rintro k t (⟨-, q⟩ | ⟨x, hx, q, -⟩)
      · rw [← a2]; exact hm _ ⟨k, t, q, rfl⟩
      · exact absurd q.symm (nI_m1 (by have := hg.1; omega))
    · exact cl_eq hg hw h ha a1 (fun k z q => by rw [← a2]; exact hm _ ⟨k, z, q, rfl⟩)
  refine ⟨fun hb => ?_, fun x r hr => ?_⟩
  · obtain ⟨b, b1, b2, -⟩ := key hb
    exact cr_G hg hw h hb (h2 hb).2 b 50 _ _ _ b2 (by omega)
  · unfold stA
    rcases hr with ⟨q, rfl⟩ | ⟨hb, hr⟩
    · rw [if_pos (h1.mpr q)]
    · obtain ⟨e, ha⟩ := h2 hb
      rw [if_neg (by omega)]
      obtain ⟨b, b1, b2, b3⟩ := key hb
      obtain ⟨g1, g2⟩ := cr_R hg hw h hb ha b 50 _ _ _ 0 b2 (by omega) (by omega) hr
      unfold crX
      rw [b3]
      by_cases k1 : x < 0
      · rw [if_pos k1]
        exact (g2 (fun i hi e => by rw [e] at k1; exact nI_pos (by omega) k1)).symm
      · rw [if_neg k1]
        obtain ⟨y, hy, rfl⟩ := nI_of k1
        by_cases k2 : y < b
        · rw [if_pos (nI_lt k2 (by omega)), nI_clamp hy]
          exact (g1 y k2 (by rw [Nat.zero_add])).symm
        · rw [if_neg (nI_nlt (by omega) hy)]
          refine (g2 (fun i hi e => k2 ?_)).symm
          have := (nI_eq hy (by omega)).mp e
          omega
end MD
