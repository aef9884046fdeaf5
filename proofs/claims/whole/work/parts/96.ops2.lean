/-! THE ANSWERS: way, rounds -/
theorem fst_cong {P Q : Nat → Bool} : ∀ {m : Nat}, (∀ j, j < m → P j = Q j) → fst P m = fst Q m
  | 0, _ => rfl
  | m + 1, h => by
    show (match fst P m with | some j => some j | none => if P m = true then some m else none) = (match fst Q m with | some j => some j | none => if Q m = true then some m else none)
    rw [fst_cong (fun j hj => h j (by omega)), h m (by omega)]
theorem fst_ex {P : Nat → Bool} {m : Nat} (h : ∃ j, j < m ∧ P j = true) : ∃ j, fst P m = some j := by
  have := fst_some_iff.mpr h
  cases e : fst P m with
  | none => rw [e] at this; cases this
  | some j => exact ⟨j, rfl⟩
/-- the first below two bounds -/
theorem fst_two {P Q : Nat → Bool} {a b : Nat} (h : ∀ j, j < a → j < b → P j = Q j) (hp : ∃ j, j < a ∧ j < b ∧ P j = true) : fst P a = fst Q b := by
  obtain ⟨j0, h1, h2, h3⟩ := hp
  obtain ⟨j, hj⟩ := fst_ex ⟨j0, h1, h3⟩
  obtain ⟨g1, g2, g3⟩ := fst_inv hj
  have hjj : j ≤ j0 := by
    rcases Nat.lt_or_ge j0 j with q | q
    · have := g3 j0 q; rw [h3] at this; cases this
    · exact q
  rw [hj]
  exact (fst_yes (fun i hi => by rw [← h i (by omega) (by omega)]; exact g3 i hi) (by rw [← h j (by omega) (by omega)]; exact g2) (by omega)).symm
section MW
variable {n m : Nat} {fr to : Nat → Nat} {w : Nat → Int32} {th : Nat → Bool} {L : Nat → Nat → Int32} {f : Nat → Int64}
/-- at x, b arcs that weigh q are the best way to v -/
def OS (n m : Nat) (fr to : Nat → Nat) (w : Nat → Int32) (th : Nat → Bool) (f : Nat → Int64) (v x b : Nat) (q : Int) : Prop := x < n ∧ ¬ bad n m fr to w th x v ∧ b < n ∧ Ex m fr to w th b x v q ∧ dI (fwB n m fr to w th f) x v = 1000 * q + (b : Int) ∧ (∀ K z', Ex m fr to w th K x v z' → q ≤ z') ∧ ∀ K z', Ex m fr to w th K x v z' → 1000 * q + (b : Int) ≤ 1000 * z' + (K : Int)
theorem OS_of (hg : gOK n m fr to) (hw : wOK m w) {v x : Nat} (hx : x < n) (hv : v < n) (hb : ¬ bad n m fr to w th x v) (hr : rch m fr to w th x v) : ∃ b q, OS n m fr to w th f v x b q := by
  obtain ⟨k, z, h1, h2, h3, h4, h5⟩ := opt hg hw f hx hv hb hr
  exact ⟨k, z, hx, hb, h1, h2, h3, h4, h5⟩
theorem bad_arc {v j : Nat} (hj : j < m) (ht : th j = true) (h : bad n m fr to w th (to j) v) : bad n m fr to w th (fr j) v := by
  obtain ⟨x, hx, h1, h2, h3⟩ := h
  exact ⟨x, hx, rch_app (rch_arc hj ht) h1, h2, h3⟩
theorem sum64 {x : Int32} {y : Int64} (h : -1000 ≤ x.toInt ∧ x.toInt ≤ 1000) (hy : -1000000000000 ≤ y.toInt ∧ y.toInt ≤ 1000000000000) : (1000 * x.toInt64 + 1 + y).toInt = 1000 * x.toInt + 1 + y.toInt := by
  have e := cost64 h
  rw [ad64 (by rw [e]; omega) (by rw [e]; omega), e]
/-- an arc goes on in the class's words just where it does in the reference's, and then the state goes on too -/
theorem way_step (hg : gOK n m fr to) (hw : wOK m w) (hL : LSt n m fr to w th L 12) {v x b j : Nat} {q : Int} {q32 : Int32} (hv : v < n) (hq : q32.toInt = q) (h : OS n m fr to w th f v x (b + 1) q) (hj : j < m) (hf : fr j = x) (ht : th j = true) :
    ((¬ L b (to j * 12 + v) = 1000000000 ∧ ¬ q32 < w j + L b (to j * 12 + v)) ↔ 1000 * (w j).toInt64 + 1 + fwB n m fr to w th f (12 * to j + v) = fwB n m fr to w th f (12 * x + v)) ∧
    (1000 * (w j).toInt64 + 1 + fwB n m fr to w th f (12 * to j + v) = fwB n m fr to w th f (12 * x + v) → OS n m fr to w th f v (to j) b (q - (w j).toInt)) ∧
    (Ex m fr to w th b (to j) v (q - (w j).toInt) → ¬ L b (to j * 12 + v) = 1000000000 ∧ ¬ q32 < w j + L b (to j * 12 + v)) := by
  subst hf
  obtain ⟨hx, hb, hbn, hE, hD, hm1, hm2⟩ := h
  have hn := hg.1
  have hy := (hg.2.2 j hj).2
  have hwj := hw j hj
  have hby : ¬ bad n m fr to w th (to j) v := fun z => hb (bad_arc hj ht z)
  have hbd := be_bd (th := th) hg hw f hy hv
  have hbd0 : -1000000000000 ≤ (fwB n m fr to w th f (12 * to j + v)).toInt ∧ (fwB n m fr to w th f (12 * to j + v)).toInt ≤ 1000000000000 := hbd
  have hqb := Ex_bnd hw hE
  have hD0 : (fwB n m fr to w th f (12 * fr j + v)).toInt = 1000 * q + ((b + 1 : Nat) : Int) := hD
  have heq : 1000 * (w j).toInt64 + 1 + fwB n m fr to w th f (12 * to j + v) = fwB n m fr to w th f (12 * fr j + v) ↔ 1000 * (w j).toInt + 1 + (fwB n m fr to w th f (12 * to j + v)).toInt = 1000 * q + ((b + 1 : Nat) : Int) := by
    rw [← Int64.toInt_inj, sum64 hwj hbd0, hD0]
  have hM := hL b (by omega) (to j) v hy hv
  have third : Ex m fr to w th b (to j) v (q - (w j).toInt) → ¬ L b (to j * 12 + v) = 1000000000 ∧ ¬ q32 < w j + L b (to j * 12 + v) := by
    intro e
    rcases hM with ⟨h1, h2⟩ | ⟨h1, h2⟩
    · exact absurd ⟨b, Nat.le_refl _, e⟩ (h2 _)
    · have b1 := Wk_bnd hw h1
      have b2 := h2 _ ⟨b, Nat.le_refl _, e⟩
      refine ⟨fun z => by have := no32.mp z; omega, ?_⟩
      rw [Int32.lt_iff_toInt_lt, ad32 (by omega) (by omega), hq]
      omega
  have second : 1000 * (w j).toInt64 + 1 + fwB n m fr to w th f (12 * to j + v) = fwB n m fr to w th f (12 * fr j + v) → OS n m fr to w th f v (to j) b (q - (w j).toInt) := by
    intro e
    rw [heq] at e
    have hr : rch m fr to w th (to j) v := by
      apply (be_iff (f := f) hg hw hy hv).mp
      rw [leF]; omega
    obtain ⟨k, z, g1, g2, g3, g4, g5⟩ := opt hg hw f hy hv hby hr
    unfold dI at g3
    have ek : k = b := by omega
    have ez : z = q - (w j).toInt := by omega
    subst ek; subst ez
    exact ⟨hy, hby, g1, g2, g3, g4, g5⟩
  refine ⟨⟨fun ⟨h1, h2⟩ => ?_, fun e => third (second e).2.2.2.1⟩, second, third⟩
  rw [heq]
  rcases hM with ⟨h3, h4⟩ | ⟨⟨i, hi, h3⟩, h4⟩
  · exact absurd (no32.mpr h3) h1
  · have b1 := Wk_bnd hw ⟨i, hi, h3⟩
    rw [Int32.lt_iff_toInt_lt, ad32 (by omega) (by omega), hq] at h2
    have c1 := hm1 _ _ (Ex_cons hj ht h3)
    have c2 := hm2 _ _ (Ex_cons hj ht h3)
    have hr : rch m fr to w th (to j) v := ⟨i, _, h3⟩
    obtain ⟨k, z, g1, g2, g3, g4, g5⟩ := opt hg hw f hy hv hby hr
    unfold dI at g3
    have c3 := g5 _ _ h3
    have c4 := hm2 _ _ (Ex_cons hj ht g2)
    have hi2 : (i : Int) ≤ (b : Int) := by omega
    rw [Int.natCast_add] at c2 c4 hD0 ⊢
    rw [Int.natCast_add] at c2 c4
    omega
theorem way_P (hg : gOK n m fr to) (hw : wOK m w) (hL : LSt n m fr to w th L 12) {v x b j : Nat} {q : Int} {q32 : Int32} (hv : v < n) (hq : q32.toInt = q) (h : OS n m fr to w th f v x (b + 1) q) (hj : j < m) : faP fr to w th L x v b q32 j = wyP fr to w th (fwB n m fr to w th f) v x j := by
  unfold faP canE wyP
  by_cases hf : fr j = x
  · by_cases ht : th j = true
    · have hs := (way_step hg hw hL hv hq h hj hf ht).1
      rw [decide_eq_true hf, ht, Bool.true_and, Bool.true_and, Bool.true_and, Bool.true_and]
      apply bool_eq
      rw [Bool.and_eq_true, decide_eq_true_eq, decide_eq_true_eq, decide_eq_true_eq]
      exact hs
    · have : th j = false := by simpa using ht
      simp [this]
  · simp [hf]
theorem way_ex (hg : gOK n m fr to) (hw : wOK m w) (hL : LSt n m fr to w th L 12) {v x b : Nat} {q : Int} {q32 : Int32} (hv : v < n) (hq : q32.toInt = q) (h : OS n m fr to w th f v x (b + 1) q) : ∃ j, fst (faP fr to w th L x v b q32) m = some j ∧ fst (wyP fr to w th (fwB n m fr to w th f) v x) m = some j ∧ OS n m fr to w th f v (to j) b (q - (w j).toInt) ∧ j < m := by
  have hc := fst_cong (m := m) (fun j hj => way_P (L := L) hg hw hL hv hq h hj)
  have : ∃ j, fst (faP fr to w th L x v b q32) m = some j := by
    apply fst_ex
    obtain ⟨j, hj, ht, hf, e⟩ := Ex_first h.2.2.2.1
    refine ⟨j, hj, ?_⟩
    have hs := (way_step hg hw hL hv hq h hj hf ht).2.2 e
    unfold faP canE
    rw [decide_eq_true hf, ht, decide_eq_true hs.1, decide_eq_true hs.2]
    rfl
  obtain ⟨j, hjj⟩ := this
  refine ⟨j, hjj, by rw [← hc]; exact hjj, ?_, (fst_inv hjj).1⟩
  rw [hc] at hjj
  obtain ⟨h1, h2, -⟩ := fst_inv hjj
  unfold wyP at h2
  rw [Bool.and_eq_true, Bool.and_eq_true, decide_eq_true_eq, decide_eq_true_eq] at h2
  exact (way_step (L := L) hg hw hL hv hq h h1 h2.2.1 h2.1).2.1 h2.2.2
theorem way_E {v x b : Nat} {q : Int} (h : OS n m fr to w th f v x b q) (hn : n ≤ 12) : wyE (fwB n m fr to w th f) v x ↔ b = 0 := by
  obtain ⟨hx, hb, hbn, hE, hD, hm1, hm2⟩ := h
  unfold wyE
  have hD0 : (fwB n m fr to w th f (12 * x + v)).toInt = 1000 * q + (b : Int) := hD
  constructor
  · rintro ⟨h1, h2⟩
    rw [h1] at hD0
    have : (0 : Int64).toInt = 0 := by decide
    omega
  · rintro rfl
    obtain ⟨h1, h2⟩ := hE
    refine ⟨?_, h1⟩
    apply Int64.toInt_inj.mp
    rw [hD0, h2]
    decide
theorem way_G (hg : gOK n m fr to) (hw : wOK m w) (hL : LSt n m fr to w th L 12) {v : Nat} (hv : v < n) : ∀ (b fz x : Nat) (q : Int) (q32 : Int32), q32.toInt = q → OS n m fr to w th f v x b q → b < fz → wyG m fr to w th (fwB n m fr to w th f) v fz x
  | 0, fz + 1, x, q, _, _, h, _ => Or.inl ((way_E h hg.1).mpr rfl)
  | b + 1, fz + 1, x, q, q32, hq, h, hlt => by
    obtain ⟨j, h1, h2, h3, h4⟩ := way_ex hg hw hL hv hq h
    have hwj := hw j h4
    have hb := Ex_bnd hw h.2.2.2.1
    have hbn := h.2.2.1
    have hn := hg.1
    exact Or.inr ⟨j, h2, way_G hg hw hL hv b fz (to j) _ (q32 - w j) (by rw [sb32 (by omega) (by omega), hq]) h3 (by omega)⟩
theorem way_R (hg : gOK n m fr to) (hw : wOK m w) (hL : LSt n m fr to w th L 12) {v : Nat} (hv : v < n) {z r : Int32} : ∀ (b fz x k : Nat) (q : Int) (q32 : Int32), q32.toInt = q → k + b < 1000 → OS n m fr to w th f v x b q → b < fz → wyR m fr to w th (fwB n m fr to w th f) v z fz x k r → (∀ i, i < b → z = nI (k + i) → r = oI (rowF m fr to w th L v i x b q32)) ∧ ((∀ i, i < b → ¬ z = nI (k + i)) → r = -1)
  | 0, fz + 1, x, k, q, _, _, _, h, _, hR => by
    rcases hR with ⟨-, hr⟩ | ⟨h1, -⟩
    · exact ⟨fun i hi => absurd hi (Nat.not_lt_zero i), fun _ => hr⟩
    · exact absurd ((way_E h hg.1).mpr rfl) h1
  | b + 1, fz + 1, x, k, q, q32, hq, hkb, h, hlt, hR => by
    obtain ⟨j, h1, h2, h3, h4⟩ := way_ex hg hw hL hv hq h
    rcases hR with ⟨h5, -⟩ | ⟨-, j2, h6, h7⟩
    · have := (way_E h hg.1).mp h5; omega
    · rw [h2] at h6
      cases h6
      rcases h7 with ⟨h7, h8⟩ | ⟨h7, h8⟩
      · refine ⟨fun i hi hz => ?_, fun hno => absurd h7.symm (hno 0 (by omega))⟩
        have : k = k + i := (nI_eq (by omega) (by omega)).mp (by rw [h7]; exact hz)
        have : i = 0 := by omega
        subst this
        rw [h8, rowF_0, show b + 1 - 1 = b by omega, h1]
        rfl
      · have hwj := hw j h4
        have hb := Ex_bnd hw h.2.2.2.1
        have hbn := h.2.2.1
        have hn := hg.1
        obtain ⟨g1, g2⟩ := way_R hg hw hL hv b fz (to j) (k + 1) _ (q32 - w j) (by rw [sb32 (by omega) (by omega), hq]) (by omega) h3 (by omega) h8
        refine ⟨fun i hi hz => ?_, fun hno => g2 (fun i hi hz => hno (i + 1) (by omega) (by rw [hz]; congr 1; omega))⟩
        cases i with
        | zero => exact absurd hz.symm h7
        | succ i =>
          rw [g1 i (by omega) (by rw [hz]; congr 1; omega), rowF_s (j := j) (by rw [show b + 1 - 1 = b by omega]; exact h1), show b + 1 - 1 = b by omega]
theorem few_eq (hg : gOK n m fr to) (hw : wOK m w) (hL : LSt n m fr to w th L 12) {u v b : Nat} {q : Int} {q32 : Int32} (hv : v < n) (hq : q32.toInt = q) (h : OS n m fr to w th f v u b q) : fewA L u v q32 = b := by
  obtain ⟨hx, hb, hbn, hE, hD, hm1, hm2⟩ := h
  have hn := hg.1
  unfold fewA
  rw [fst_yes (i := b) (fun i hi => ?_) ?_ (by omega)]
  · rfl
  · unfold fewP
    rw [decide_eq_true_eq, Int32.le_iff_toInt_le, hq]
    rcases hL b (by omega) u v hx hv with ⟨h1, h2⟩ | ⟨h1, h2⟩
    · exact absurd ⟨b, Nat.le_refl _, hE⟩ (h2 q)
    · exact h2 q ⟨b, Nat.le_refl _, hE⟩
  · unfold fewP
    rw [decide_eq_false_iff_not, Int32.le_iff_toInt_le, hq]
    intro hle
    rcases hL i (by omega) u v hx hv with ⟨h1, h2⟩ | ⟨⟨i2, hi2, h1⟩, h2⟩
    · have := Ex_bnd hw hE; omega
    · have := hm2 _ _ h1; omega
theorem way_hyp (hg : gOK n m fr to) (hw : wOK m w) (hL : LSt n m fr to w th L 12) {u v : Nat} (hu : u < n) (hv : v < n) (h1 : ¬ 1000000000000 ≤ fwB n m fr to w th f (12 * u + v)) (h2 : anyF (bbP (fwB n m fr to w th f) u v) n = false) : ∃ b q, OS n m fr to w th f v u b q ∧ (L 12 (u * 12 + v)).toInt = q ∧ leastF n L u v = L 12 (u * 12 + v) ∧ ¬ L 12 (u * 12 + v) = 1000000000 ∧ ¬ L 12 (u * 12 + v) = -1000000000 := by
  have hr := (be_iff hg hw hu hv).mp h1
  have hb : ¬ bad n m fr to w th u v := fun q => by rw [(any_bad hg hw hu hv).mpr q] at h2; cases h2
  obtain ⟨b, q, h⟩ := OS_of (f := f) hg hw hu hv hb hr
  obtain ⟨hx, -, hbn, hE, hD, hm1, hm2⟩ := id h
  have hn := hg.1
  have hbq := Ex_bnd hw hE
  refine ⟨b, q, h, ?_⟩
  rcases hL 12 (Nat.le_refl _) u v hx hv with ⟨h3, h4⟩ | ⟨⟨i, hi, h3⟩, h4⟩
  · exact absurd ⟨b, by omega, hE⟩ (h4 q)
  · have e1 := hm1 _ _ h3
    have e2 := h4 q ⟨b, by omega, hE⟩
    have e3 : (L 12 (u * 12 + v)).toInt = q := by omega
    refine ⟨e3, ?_, fun z => by have := no32.mp z; omega, fun z => ?_⟩
    · unfold leastF
      rw [if_neg (fun c => hb ((bot_iff hg hw hL hu hv).mp c))]
    · rw [z] at e3
      have : (-1000000000 : Int32).toInt = -1000000000 := by decide
      omega
/-- way: the reference ends, and answers as the class -/
theorem way_ok (hg : gOK n m fr to) (hw : wOK m w) (hL : LSt n m fr to w th L 12) {u v : Nat} (hu : u < n) (hv : v < n) (z : Int32) :
    (¬ 1000000000000 ≤ fwB n m fr to w th f (12 * u + v) → anyF (bbP (fwB n m fr to w th f) u v) n = false → wyG m fr to w th (fwB n m fr to w th f) v 50 u) ∧
    ∀ r, (fwB n m fr to w th f (12 * u + v) < 1000000000000 → anyF (bbP (fwB n m fr to w th f) u v) n = false → wyR m fr to w th (fwB n m fr to w th f) v z 50 u 0 r) → ((1000000000000 ≤ fwB n m fr to w th f (12 * u + v) ∨ anyF (bbP (fwB n m fr to w th f) u v) n = true) → r = -1) → oI (wayX n m fr to w th L u v z) = r := by
  have hn := hg.1
  refine ⟨fun h1 h2 => ?_, fun r hR hN => ?_⟩
  · obtain ⟨b, q, h, e, -⟩ := way_hyp hg hw hL hu hv h1 h2
    have := h.2.2.1
    exact way_G hg hw hL hv b 50 u q _ e h (by omega)
  · unfold wayX
    by_cases c : 1000000000000 ≤ fwB n m fr to w th f (12 * u + v) ∨ anyF (bbP (fwB n m fr to w th f) u v) n = true
    · rw [hN c, least_eq (f := f) hg hw hL hu hv, lsA]
      by_cases c1 : fwB n m fr to w th f (12 * u + v) < 1000000000000
      · rw [if_pos c1, if_pos (c.resolve_left (Int64.not_le.mpr c1))]
        rfl
      · rw [if_neg c1]
        rfl
    · have c1 : ¬ 1000000000000 ≤ fwB n m fr to w th f (12 * u + v) := fun q => c (Or.inl q)
      have c2 : anyF (bbP (fwB n m fr to w th f) u v) n = false := by
        cases e : anyF (bbP (fwB n m fr to w th f) u v) n with
        | false => rfl
        | true => exact absurd (Or.inr e) c
      obtain ⟨b, q, h, e, e2, e3, e4⟩ := way_hyp hg hw hL hu hv c1 c2
      have hbn := h.2.2.1
      obtain ⟨g1, g2⟩ := way_R hg hw hL hv b 50 u 0 q _ e (by omega) h (by omega) (hR (Int64.not_le.mp c1) c2)
      rw [e2, if_neg e3, if_neg e4, few_eq hg hw hL hv e h, rowX]
      by_cases k1 : z < 0
      · rw [if_pos k1]
        exact (g2 (fun i hi hz => by rw [hz] at k1; exact nI_pos (by omega) k1)).symm
      · rw [if_neg k1]
        obtain ⟨y, hy, rfl⟩ := nI_of k1
        by_cases k2 : nI y < nI b
        · rw [if_pos k2, nI_clamp hy]
          have hyb := (nI_ltI hy (by omega)).mp k2
          exact (g1 y hyb (by rw [Nat.zero_add])).symm
        · rw [if_neg k2]
          refine (g2 (fun i hi hz => k2 ?_)).symm
          rw [hz]
          exact nI_lt (by omega) (by omega)
end MW
