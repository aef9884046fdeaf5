/-! THE ANSWERS: rounds, falling, ring -/
theorem eq_false_iff {b : Bool} : b = false ↔ ¬ b = true := by cases b <;> simp
theorem fst_none_iff {P : Nat → Bool} {n : Nat} : (fst P n).isNone = true ↔ ∀ x, x < n → P x = false := by
  constructor
  · intro h
    cases e : fst P n with
    | none => exact fst_ninv e
    | some x => rw [e] at h; cases h
  · intro h; rw [fst_no h]; rfl
theorem z64I : (0 : Int64).toInt = 0 := by decide
theorem m1I : (-1 : Int32).toInt = -1 := by decide
section MR
variable {n m : Nat} {fr to : Nat → Nat} {w : Nat → Int32} {th : Nat → Bool} {L : Nat → Nat → Int32} {f : Nat → Int64}
/-- walks of b arcs at most are as light as any from u -/
def atQQ (n m : Nat) (fr to : Nat → Nat) (w : Nat → Int32) (th : Nat → Bool) (u b : Nat) : Prop := ∀ v, v < n → ∀ K z, Ex m fr to w th K u v z → ∃ z', z' ≤ z ∧ Wk m fr to w th b u v z'
theorem M32_same {x y : Int32} {S T : Int → Prop} (hx : M32 x S) (hy : M32 y T) (h1 : ∀ z, S z → ∃ z', z' ≤ z ∧ T z') (h2 : ∀ z, T z → ∃ z', z' ≤ z ∧ S z') : x = y := by
  apply Int32.toInt_inj.mp
  rcases hx with ⟨a1, a2⟩ | ⟨a1, a2⟩
  · rcases hy with ⟨b1, b2⟩ | ⟨b1, b2⟩
    · omega
    · obtain ⟨z, -, hz⟩ := h2 _ b1; exact absurd hz (a2 z)
  · rcases hy with ⟨b1, b2⟩ | ⟨b1, b2⟩
    · obtain ⟨z, -, hz⟩ := h1 _ a1; exact absurd hz (b2 z)
    · obtain ⟨z1, p1, q1⟩ := h1 _ a1
      obtain ⟨z2, p2, q2⟩ := h2 _ b1
      have := a2 _ q2; have := b2 _ q1; omega
theorem rests_iff (hg : gOK n m fr to) (hw : wOK m w) (hL : LSt n m fr to w th L 12) {u b : Nat} (hu : u < n) (hb : b < 12) : rests n L u b = true ↔ atQQ n m fr to w th u b := by
  unfold rests
  rw [fst_none_iff]
  constructor
  · intro h v hv K
    induction K generalizing v with
    | zero =>
      intro z e
      exact ⟨z, Int.le_refl _, 0, by omega, e⟩
    | succ K ih =>
      intro z e
      obtain ⟨j, hj, ht, rfl, e⟩ := e
      have hj2 := hg.2.2 j hj
      obtain ⟨z1, h1, i1, h2, h3⟩ := ih (fr j) hj2.1 _ e
      have h4 : Wk m fr to w th (b + 1) u (to j) (z1 + (w j).toInt) := ⟨i1 + 1, by omega, j, hj, ht, rfl, by rw [Int.add_sub_cancel]; exact h3⟩
      have h5 := h (to j) hv
      unfold resP at h5
      rw [decide_eq_false_iff_not, Classical.not_not] at h5
      rcases hL (b + 1) (by omega) u (to j) hu hv with ⟨g1, g2⟩ | ⟨g1, g2⟩
      · exact absurd h4 (g2 _)
      · have b1 := Wk_bnd hw g1
        have g3 := g2 _ h4
        rcases hL b (by omega) u (to j) hu hv with ⟨k1, k2⟩ | ⟨k1, k2⟩
        · rw [← h5] at g1 b1; omega
        · exact ⟨_, by rw [h5]; omega, k1⟩
  · intro h v hv
    unfold resP
    rw [decide_eq_false_iff_not, Classical.not_not]
    refine M32_same (hL b (by omega) u v hu hv) (hL (b + 1) (by omega) u v hu hv) (fun z ⟨i, hi, e⟩ => ⟨z, Int.le_refl _, i, by omega, e⟩) (fun z ⟨i, hi, e⟩ => h v hv i z e)
theorem no_rest (hg : gOK n m fr to) (hw : wOK m w) {u b : Nat} (hb : b < 100) (h : atQQ n m fr to w th u b) {x c : Nat} {z : Int} (hx : x < n) (hr : rch m fr to w th u x) (e : Ex m fr to w th c x x z) (hz : z < 0) : False := by
  obtain ⟨k0, z0, e0⟩ := hr
  have e2 := Ex_app e0 _ x _ (Ex_rep e (z0 + 200000).toNat)
  obtain ⟨z', h1, h2⟩ := h x hx _ _ e2
  have b1 := Wk_bnd hw h2
  have b0 : (z0 + 200000).toNat * z ≤ -((z0 + 200000).toNat : Int) := by
    have : ((z0 + 200000).toNat : Int) * z ≤ ((z0 + 200000).toNat : Int) * (-1) := Int.mul_le_mul_of_nonneg_left (by omega) (by omega)
    omega
  omega
theorem at_iff (hg : gOK n m fr to) (hw : wOK m w) {u b : Nat} (hu : u < n) (hb : b ≤ 20) (hno : ∀ x, x < n → rch m fr to w th u x → ∀ c z, Ex m fr to w th c x x z → 0 ≤ z) : atQ n m fr to w th (fwB n m fr to w th f) u b = true ↔ atQQ n m fr to w th u b := by
  unfold atQ atB
  rw [aa_iff]
  have hn := hg.1
  have key : ∀ v, v < n → (arP (fwB n m fr to w th f) (aV n m fr to w th b) u v = true ↔ ∀ K z, Ex m fr to w th K u v z → ∃ z', z' ≤ z ∧ Wk m fr to w th b u v z') := by
    intro v hv
    have hbad : ¬ bad n m fr to w th u v := fun ⟨x, hx, h1, h2, c, z, e, hz⟩ => by have := hno x hx h1 c z e; omega
    have hP := aV_ok (th := th) hg hw hb u v hu hv
    have hbd := be_bd (th := th) hg hw f hu hv
    unfold arP
    by_cases hr : rch m fr to w th u v
    · have h1 := (be_iff (f := f) hg hw hu hv).mpr hr
      rw [if_pos (Int64.not_le.mp h1), Bool.and_eq_true, decide_eq_true_eq, decide_eq_true_eq]
      obtain ⟨k, z, hk, e, hc, hmin, -⟩ := opt hg hw f hu hv hbad hr
      unfold dI at hc
      have hwi : (wIn (fwB n m fr to w th f (12 * u + v))).toInt64.toInt = z := by
        rw [Int32.toInt_toInt64, wIn_sp hbd, hc]; omega
      rw [← Int64.toInt_inj, hwi, leF]
      have hzb := Ex_bnd hw e
      constructor
      · rintro ⟨h2, h3⟩ K z' e'
        rcases hP with ⟨p1, p2⟩ | ⟨p1, p2⟩
        · omega
        · exact ⟨_, by have := hmin K z' e'; omega, p1⟩
      · intro h
        obtain ⟨z', h2, h3⟩ := h k z e
        rcases hP with ⟨p1, p2⟩ | ⟨⟨i, hi, p1⟩, p2⟩
        · exact absurd h3 (p2 _)
        · have := p2 _ h3; have := hmin _ _ p1; omega
    · have h1 : 1000000000000 ≤ fwB n m fr to w th f (12 * u + v) := by
        by_cases q : 1000000000000 ≤ fwB n m fr to w th f (12 * u + v)
        · exact q
        · exact absurd ((be_iff hg hw hu hv).mp q) hr
      rw [if_neg (Int64.not_lt.mpr h1), decide_eq_true_eq]
      constructor
      · intro _ K z e; exact absurd ⟨K, z, e⟩ hr
      · intro _
        rcases hP with ⟨p1, p2⟩ | ⟨⟨i, hi, p1⟩, p2⟩
        · rw [ltF]; omega
        · exact absurd ⟨i, _, p1⟩ hr
  constructor
  · rintro ⟨-, h⟩ v hv
    exact (key v hv).mp (h v hv)
  · intro h
    exact ⟨rfl, fun v hv => (key v hv).mpr (h v hv)⟩
theorem rs_iff (hg : gOK n m fr to) (hw : wOK m w) {u : Nat} (hu : u < n) : rsB n (fwB n m fr to w th f) u = true ↔ ∀ x, x < n → rch m fr to w th u x → ∀ c z, Ex m fr to w th c x x z → 0 ≤ z := by
  unfold rsB
  rw [aa_iff]
  have hrs : ∀ x, x < n → (rsP (fwB n m fr to w th f) u x = true ↔ (rch m fr to w th u x → 0 ≤ dI (fwB n m fr to w th f) x x)) := by
    intro x hx
    unfold rsP
    by_cases c : 1000000000000 ≤ fwB n m fr to w th f (12 * u + x)
    · rw [if_pos c]
      exact ⟨fun _ h => absurd c ((be_iff hg hw hu hx).mpr h), fun _ => rfl⟩
    · rw [if_neg c, decide_eq_true_eq, Int64.not_lt, Int64.le_iff_toInt_le]
      exact ⟨fun h _ => h, fun h => h ((be_iff hg hw hu hx).mp c)⟩
  constructor
  · rintro ⟨-, h⟩ x hx hr c z e
    rcases Int.lt_or_le z 0 with q | q
    · obtain ⟨y, hy, hd⟩ := be_neg hg hw f (R := fun a => a < n ∧ rch m fr to w th u a) (fun _ h => h.1) (fun a b s ha hb hs h1 h2 => ⟨hs, rch_app ha.2 h1⟩) ⟨hx, hr⟩ e q
      have := (hrs y hy.1).mp (h y hy.1) hy.2
      omega
    · exact q
  · intro h
    refine ⟨rfl, fun x hx => (hrs x hx).mpr (fun hr => ?_)⟩
    rcases Int.lt_or_le (dI (fwB n m fr to w th f) x x) 0 with q | q
    · obtain ⟨k, z, e, hz⟩ := be_diag hg hw f hx q
      have := h x hx hr k z e; omega
    · exact q
theorem rounds_ok (hg : gOK n m fr to) (hw : wOK m w) (hL : LSt n m fr to w th L 12) {u : Nat} (hu : u < n) :
    (rsB n (fwB n m fr to w th f) u = true → fst (atQ n m fr to w th (fwB n m fr to w th f) u) 21 = rndO n L u ∧ ∃ jj, rndO n L u = some jj) ∧ (rsB n (fwB n m fr to w th f) u = false → rndO n L u = none) := by
  have hn := hg.1
  refine ⟨fun h => ?_, fun h => ?_⟩
  · have hno := (rs_iff hg hw hu).mp h
    have hq : atQQ n m fr to w th u (n - 1) := by
      intro v hv K z e
      obtain ⟨k, z', h1, h2, h3, h4⟩ := short_all hg hu (fun x hx h1 _ => hno x hx h1) K z e
      exact ⟨z', h3, k, by omega, h4⟩
    have h1 : fst (rests n L u) 12 = fst (atQ n m fr to w th (fwB n m fr to w th f) u) 21 :=
      fst_two (fun j hj _ => bool_eq ((rests_iff hg hw hL hu hj).trans (at_iff hg hw hu (by omega) hno).symm)) ⟨n - 1, by omega, by omega, (rests_iff hg hw hL hu (by omega)).mpr hq⟩
    refine ⟨h1.symm, ?_⟩
    exact fst_ex ⟨n - 1, by omega, (rests_iff hg hw hL hu (by omega)).mpr hq⟩
  · unfold rndO
    apply fst_no
    intro b hb
    rw [eq_false_iff]
    intro hc
    have hq := (rests_iff hg hw hL hu hb).mp hc
    have : ¬ rsB n (fwB n m fr to w th f) u = true := by rw [h]; decide
    apply this
    rw [rs_iff hg hw hu]
    intro x hx hr c z e
    rcases Int.lt_or_le z 0 with q | q
    · exact (no_rest hg hw (by omega) hq hx hr e q).elim
    · exact q
-- the ring
theorem negK_iff (hg : gOK n m fr to) (hw : wOK m w) (hL : LSt n m fr to w th L 12) {i : Nat} (hi : i < 12) : negK n L i = true ↔ ∃ u k z, u < n ∧ k ≤ i + 1 ∧ Ex m fr to w th k u u z ∧ z < 0 := by
  unfold negK
  rw [fst_some_iff]
  constructor
  · rintro ⟨u, hu, h⟩
    unfold negP at h
    rw [decide_eq_true_eq, neg32] at h
    rcases hL (i + 1) (by omega) u u hu hu with ⟨h1, h2⟩ | ⟨⟨k, hk, h1⟩, h2⟩
    · omega
    · exact ⟨u, k, _, hu, hk, h1, h⟩
  · rintro ⟨u, k, z, hu, hk, e, hz⟩
    refine ⟨u, hu, ?_⟩
    unfold negP
    rw [decide_eq_true_eq, neg32]
    rcases hL (i + 1) (by omega) u u hu hu with ⟨h1, h2⟩ | ⟨h1, h2⟩
    · exact absurd ⟨k, hk, e⟩ (h2 z)
    · have := h2 z ⟨k, hk, e⟩; omega
theorem ngK_iff (hg : gOK n m fr to) (hw : wOK m w) {i : Nat} (hi : i < 12) : ngK n m fr to w th i = true ↔ ∃ u k z, u < n ∧ k ≤ i + 1 ∧ Ex m fr to w th k u u z ∧ z < 0 := by
  unfold ngK
  rw [fst_some_iff]
  constructor
  · rintro ⟨u, hu, h⟩
    unfold ngP at h
    rw [decide_eq_true_eq, neg64] at h
    rcases aV_ok (th := th) hg hw (show i + 1 ≤ 20 by omega) u u hu hu with ⟨h1, h2⟩ | ⟨⟨k, hk, h1⟩, h2⟩
    · omega
    · exact ⟨u, k, _, hu, hk, h1, h⟩
  · rintro ⟨u, k, z, hu, hk, e, hz⟩
    refine ⟨u, hu, ?_⟩
    unfold ngP
    rw [decide_eq_true_eq, neg64]
    rcases aV_ok (th := th) hg hw (show i + 1 ≤ 20 by omega) u u hu hu with ⟨h1, h2⟩ | ⟨h1, h2⟩
    · exact absurd ⟨k, hk, e⟩ (h2 z)
    · have := h2 z ⟨k, hk, e⟩; omega
theorem shLo_eq (hg : gOK n m fr to) (hw : wOK m w) (hL : LSt n m fr to w th L 12) : shLo n L = fst (ngK n m fr to w th) n := by
  have hn := hg.1
  unfold shLo
  have hsame : ∀ j, j < 12 → negK n L j = ngK n m fr to w th j := fun j hj => bool_eq ((negK_iff hg hw hL hj).trans (ngK_iff hg hw hj).symm)
  by_cases c : ∃ j, j < n ∧ ngK n m fr to w th j = true
  · obtain ⟨j, hj, h⟩ := c
    exact fst_two (fun i h1 _ => hsame i h1) ⟨j, by omega, hj, by rw [hsame j (by omega)]; exact h⟩
  · have h2 : ∀ j, j < n → ngK n m fr to w th j = false := fun j hj => by
      cases e : ngK n m fr to w th j with
      | false => rfl
      | true => exact absurd ⟨j, hj, e⟩ c
    rw [fst_no h2]
    apply fst_no
    intro j hj
    rw [eq_false_iff, negK_iff hg hw hL hj]
    rintro ⟨u, k, z, hu, hk, e, hz⟩
    obtain ⟨y, c2, z2, hy, -, -, hc, hc2, hz2, e2⟩ := short_neg hg hu k z e hz
    have h3 := h2 (c2 - 1) (by omega)
    rw [(ngK_iff hg hw (by omega)).mpr ⟨y, c2, z2, hy, by omega, e2, hz2⟩] at h3
    cases h3
theorem shL_eq (hg : gOK n m fr to) (hw : wOK m w) (hL : LSt n m fr to w th L 12) : shL n L = feN n m fr to w th := by
  unfold shL feN
  rw [shLo_eq hg hw hL]
  cases fst (ngK n m fr to w th) n <;> rfl
/-- the length shown: a falling ring of so many arcs, none of fewer -/
theorem ring_min (hg : gOK n m fr to) (hw : wOK m w) {r : Nat} (hr : feN n m fr to w th = r) (h0 : 1 ≤ r) : r ≤ n ∧ (∃ u z, u < n ∧ Ex m fr to w th r u u z ∧ z < 0) ∧ ∀ k u z, k < r → u < n → Ex m fr to w th k u u z → 0 ≤ z := by
  have hn := hg.1
  unfold feN at hr
  cases e : fst (ngK n m fr to w th) n with
  | none => rw [e] at hr; have : (0 : Nat) = r := hr; omega
  | some i =>
    rw [e] at hr
    have hr : i + 1 = r := hr
    subst hr
    obtain ⟨g1, g2, g3⟩ := fst_inv e
    have hmin : ∀ k u z, k < i + 1 → u < n → Ex m fr to w th k u u z → 0 ≤ z := by
      intro k u z hk hu e2
      rcases Int.lt_or_le z 0 with q | q
      · by_cases k0 : k = 0
        · subst k0; have := e2.2; omega
        · have h3 := g3 (k - 1) (by omega)
          rw [(ngK_iff hg hw (by omega)).mpr ⟨u, k, z, hu, by omega, e2, q⟩] at h3
          cases h3
      · exact q
    obtain ⟨u, k, z, hu, hk, e2, hz⟩ := (ngK_iff hg hw (by omega)).mp g2
    refine ⟨by omega, ⟨u, z, hu, ?_, hz⟩, hmin⟩
    rcases Nat.lt_or_ge k (i + 1) with q | q
    · have := hmin k u z q hu e2; omega
    · rw [show i + 1 = k by omega]; exact e2
theorem canE_go (hg : gOK n m fr to) (hw : wOK m w) (hL : LSt n m fr to w th L 12) {j g b : Nat} {q32 : Int32} {q64 : Int64} {s : Int} (hj : j < m) (hgn : g < n) (hb : b ≤ 12) (h1 : q32.toInt = -1 - s) (h2 : q64.toInt = s) (hs : -50000 ≤ s ∧ s ≤ 50000) :
    (¬ L b (to j * 12 + g) = 1000000000 ∧ ¬ q32 < w j + L b (to j * 12 + g)) ↔ (¬ 1000000000000 ≤ aV n m fr to w th b (12 * to j + g) ∧ ¬ 0 ≤ q64 + (w j).toInt64 + aV n m fr to w th b (12 * to j + g)) := by
  have hy := (hg.2.2 j hj).2
  have hwj := hw j hj
  have he := enc (hL b hb (to j) g hy hgn) (aV_ok (th := th) hg hw (show b ≤ 20 by omega) (to j) g hy hgn) (fun z hz => by have := Wk_bnd hw hz; omega)
  by_cases c : 1000000000000 ≤ aV n m fr to w th b (12 * to j + g)
  · exact ⟨fun h => absurd (he.1 c) h.1, fun h => absurd c h.1⟩
  · obtain ⟨e1, e2, e3⟩ := he.2 c
    have hb2 := Wk_bnd hw e3
    have s1 : (q64 + (w j).toInt64).toInt = s + (w j).toInt := by rw [ad64 (by rw [Int32.toInt_toInt64]; omega) (by rw [Int32.toInt_toInt64]; omega), Int32.toInt_toInt64, h2]
    have s2 : (q64 + (w j).toInt64 + aV n m fr to w th b (12 * to j + g)).toInt = s + (w j).toInt + (L b (to j * 12 + g)).toInt := by rw [ad64 (by omega) (by omega), s1, e2]
    have s3 : (w j + L b (to j * 12 + g)).toInt = (w j).toInt + (L b (to j * 12 + g)).toInt := ad32 (by omega) (by omega)
    rw [neg64, s2, Int32.lt_iff_toInt_lt, s3, h1]
    constructor
    · rintro ⟨-, h⟩; exact ⟨c, by omega⟩
    · rintro ⟨-, h⟩; exact ⟨e1, by omega⟩
theorem ring_P (hg : gOK n m fr to) (hw : wOK m w) (hL : LSt n m fr to w th L 12) {j g x b : Nat} {q32 : Int32} {q64 : Int64} {s : Int} (hj : j < m) (hgn : g < n) (hx : x < n) (hb : b ≤ 12) (h1 : q32.toInt = -1 - s) (h2 : q64.toInt = s) (hs : -50000 ≤ s ∧ s ≤ 50000) : faP fr to w th L x g b q32 j = goB fr to w th (aV n m fr to w th b) g (nI x) q64 j := by
  have hn := hg.1
  have hc := canE_go hg hw hL hj hgn hb h1 h2 hs
  have hxx : decide (nI x = (-1 : Int32)) = false := decide_eq_false (nI_m1 (by omega))
  have hfx := (hg.2.2 j hj).1
  have hfe : decide (fr j = x) = decide (nI (fr j) = nI x) := by
    by_cases c : fr j = x
    · rw [c]; simp
    · rw [decide_eq_false c, decide_eq_false (fun q => c ((nI_eq (by omega) (by omega)).mp q))]
  unfold faP canE goB
  rw [hxx, Bool.false_or, hfe]
  have hd : (decide (¬ L b (to j * 12 + g) = 1000000000) && decide (¬ q32 < w j + L b (to j * 12 + g))) = (decide (¬ 1000000000000 ≤ aV n m fr to w th b (12 * to j + g)) && decide (¬ 0 ≤ q64 + (w j).toInt64 + aV n m fr to w th b (12 * to j + g))) := by
    apply bool_eq
    rw [Bool.and_eq_true, Bool.and_eq_true, decide_eq_true_eq, decide_eq_true_eq, decide_eq_true_eq, decide_eq_true_eq]
    exact hc
  rw [hd]
  cases th j <;> simp
/-- the chain of the ring, from a state on -/
theorem ring_chain (hg : gOK n m fr to) (hw : wOK m w) (hL : LSt n m fr to w th L 12) {r g : Nat} (hgn : g < n) (hrn : r ≤ n) (hmin : ∀ k u z, k < r → u < n → Ex m fr to w th k u u z → 0 ≤ z) :
    ∀ (b i x : Nat) (s : Int) (q32 : Int32) (q64 : Int64), i + b = r → x < n → Ex m fr to w th i g x s → (∃ z, Ex m fr to w th b x g z ∧ s + z < 0) → q32.toInt = -1 - s → q64.toInt = s →
      (∀ t, t < b → ∃ a, rowF m fr to w th L g t x b q32 = some a) ∧ ∀ ra : Nat → Nat, (∀ t, t < b → rowF m fr to w th L g t x b q32 = some (ra (i + t))) → rgC n m fr to w th ra g b i x q64
  | 0, i, x, s, q32, q64, _, _, _, _, _, _ => ⟨fun t ht => absurd ht (Nat.not_lt_zero t), fun _ _ => trivial⟩
  | b + 1, i, x, s, q32, q64, hib, hx, hE, hZ, h1, h2 => by
    have hn := hg.1
    have hsb := Ex_bnd hw hE
    have hc := fst_cong (m := m) (fun j hj => ring_P (L := L) hg hw hL hj hgn hx (show b ≤ 12 by omega) h1 h2 (by omega))
    have hex : ∃ j, fst (faP fr to w th L x g b q32) m = some j := by
      apply fst_ex
      obtain ⟨z, hz, hlt⟩ := hZ
      obtain ⟨j, hj, ht, hf, e⟩ := Ex_first hz
      refine ⟨j, hj, ?_⟩
      have hy := (hg.2.2 j hj).2
      have hwj := hw j hj
      have hL1 : ¬ L b (to j * 12 + g) = 1000000000 ∧ ¬ q32 < w j + L b (to j * 12 + g) := by
        rcases hL b (by omega) (to j) g hy hgn with ⟨p1, p2⟩ | ⟨p1, p2⟩
        · exact absurd ⟨b, Nat.le_refl _, e⟩ (p2 _)
        · have b1 := Wk_bnd hw p1
          have b2 := p2 _ ⟨b, Nat.le_refl _, e⟩
          refine ⟨fun q => by have := no32.mp q; omega, ?_⟩
          rw [Int32.lt_iff_toInt_lt, ad32 (by omega) (by omega), h1]
          omega
      unfold faP canE
      rw [decide_eq_true hf, ht, decide_eq_true hL1.1, decide_eq_true hL1.2]
      rfl
    obtain ⟨j, hjj⟩ := hex
    obtain ⟨g1, g2, -⟩ := fst_inv hjj
    have hy := (hg.2.2 j g1).2
    have hwj := hw j g1
    unfold faP canE at g2
    rw [Bool.and_eq_true, Bool.and_eq_true, Bool.and_eq_true, decide_eq_true_eq, decide_eq_true_eq, decide_eq_true_eq] at g2
    obtain ⟨hf, ht, k1, k2⟩ := g2
    have hZ2 : ∃ z, Ex m fr to w th b (to j) g z ∧ s + (w j).toInt + z < 0 := by
      rcases hL b (by omega) (to j) g hy hgn with ⟨p1, p2⟩ | ⟨⟨i2, hi2, p1⟩, p2⟩
      · exact absurd (no32.mpr p1) k1
      · have b1 := Wk_bnd hw ⟨i2, hi2, p1⟩
        rw [Int32.lt_iff_toInt_lt, ad32 (by omega) (by omega), h1] at k2
        subst hf
        have e2 := Ex_app hE _ _ _ (Ex_cons g1 ht p1)
        by_cases c : i2 = b
        · subst c; exact ⟨_, p1, by omega⟩
        · have := hmin _ g _ (show i + (i2 + 1) < r by omega) hgn e2
          omega
    have hE2 : Ex m fr to w th (i + 1) g (to j) (s + (w j).toInt) := by
      subst hf
      exact Ex_app hE 1 _ _ (Ex_arc g1 ht)
    obtain ⟨c1, c2⟩ := ring_chain hg hw hL hgn hrn hmin b (i + 1) (to j) (s + (w j).toInt) (q32 - w j) (q64 + (w j).toInt64) (by omega) hy hE2 hZ2 (by rw [sb32 (by omega) (by omega), h1]; omega) (by rw [ad64 (by rw [Int32.toInt_toInt64]; omega) (by rw [Int32.toInt_toInt64]; omega), Int32.toInt_toInt64, h2])
    have hb1 : b + 1 - 1 = b := by omega
    refine ⟨fun t ht2 => ?_, fun ra hra => ?_⟩
    · cases t with
      | zero => exact ⟨j, by rw [rowF_0, hb1]; exact hjj⟩
      | succ t =>
        rw [rowF_s (j := j) (by rw [hb1]; exact hjj), hb1]
        exact c1 t (by omega)
    · have e0 := hra 0 (by omega)
      rw [rowF_0, hb1, Nat.add_zero, hjj] at e0
      have e1 : j = ra i := Option.some.inj e0
      refine ⟨by rw [← hc, ← e1]; exact hjj, ?_⟩
      rw [← e1]
      refine c2 ra (fun t ht2 => ?_)
      have := hra (t + 1) (by omega)
      rw [rowF_s (j := j) (by rw [hb1]; exact hjj), hb1] at this
      rw [this]
      congr 2
      omega
/-- the row of the ring as the class has it -/
def raC (m : Nat) (fr to : Nat → Nat) (w : Nat → Int32) (th : Nat → Bool) (L : Nat → Nat → Int32) (r i : Nat) : Nat := match fsO m fr to w th L r with
  | none => 0
  | some j => if i = 0 then j else (rowF m fr to w th L (fr j) (i - 1) (to j) (r - 1) (-1 - w j)).getD 0
theorem ring_ok (hg : gOK n m fr to) (hw : wOK m w) (hL : LSt n m fr to w th L 12) : rgA n m fr to w th (raC m fr to w th L (feN n m fr to w th)) (feN n m fr to w th) ∧ ∀ x : Int32, oI (shX n m fr to w th L x) = bw (ixB x (feN n m fr to w th)) (nI (raC m fr to w th L (feN n m fr to w th) x.toNatClampNeg)) (-1) := by
  have hn := hg.1
  rw [show (∀ x : Int32, oI (shX n m fr to w th L x) = bw (ixB x (feN n m fr to w th)) (nI (raC m fr to w th L (feN n m fr to w th) x.toNatClampNeg)) (-1)) ↔ (∀ x : Int32, oI (shX n m fr to w th L x) = bw (ixB x (shL n L)) (nI (raC m fr to w th L (shL n L) x.toNatClampNeg)) (-1)) by rw [shL_eq hg hw hL]]
  have hr := shL_eq hg hw hL
  have hle := shL_le n L
  rw [← hr]
  by_cases h0 : shL n L = 0
  · refine ⟨Or.inl h0, fun x => ?_⟩
    have hb : ixB x (shL n L) = false := by
      rw [h0, eq_false_iff]
      intro c
      obtain ⟨u, hu, -⟩ := ixB_t (by omega) c
      exact absurd hu (Nat.not_lt_zero u)
    rw [bw_f hb]
    unfold shX
    by_cases c1 : x < 0
    · rw [if_pos c1]; rfl
    · rw [if_neg c1, h0, if_neg]
      · rfl
      · intro c2; exact c1 c2
  · obtain ⟨m1, m2, m3⟩ := ring_min (r := shL n L) hg hw hr.symm (by omega)
    generalize hS : shL n L = r at h0 m1 m2 m3 hle ⊢
    -- the first arc
    have hcA : ∀ j, j < m → fsP fr to w th L r j = goA fr to w th (aV n m fr to w th (r - 1)) (-1) 0 j := by
      intro j hj
      have hc := canE_go (q32 := -1) (q64 := 0) (s := 0) hg hw hL hj (hg.2.2 j hj).1 (show r - 1 ≤ 12 by omega) m1I z64I (by omega)
      unfold fsP canE goA
      have hd : (decide (¬ L (r - 1) (to j * 12 + fr j) = 1000000000) && decide (¬ (-1 : Int32) < w j + L (r - 1) (to j * 12 + fr j))) = (decide (¬ 1000000000000 ≤ aV n m fr to w th (r - 1) (12 * to j + fr j)) && decide (¬ (0 : Int64) ≤ 0 + (w j).toInt64 + aV n m fr to w th (r - 1) (12 * to j + fr j))) := by
        apply bool_eq
        rw [Bool.and_eq_true, Bool.and_eq_true, decide_eq_true_eq, decide_eq_true_eq, decide_eq_true_eq, decide_eq_true_eq]
        exact hc
      rw [hd, decide_eq_true (rfl : (-1 : Int32) = -1), Bool.true_or, Bool.true_and]
    have hc := fst_cong (m := m) hcA
    have hex : ∃ j, fst (fsP fr to w th L r) m = some j := by
      apply fst_ex
      obtain ⟨u, z, hu, e, hz⟩ := m2
      rw [show r = (r - 1) + 1 by omega] at e
      obtain ⟨j, hj, ht, rfl, e⟩ := Ex_first e
      refine ⟨j, hj, ?_⟩
      have hy := hg.2.2 j hj
      have hwj := hw j hj
      have hL1 : ¬ L (r - 1) (to j * 12 + fr j) = 1000000000 ∧ ¬ (-1 : Int32) < w j + L (r - 1) (to j * 12 + fr j) := by
        rcases hL (r - 1) (by omega) (to j) (fr j) hy.2 hy.1 with ⟨p1, p2⟩ | ⟨p1, p2⟩
        · exact absurd ⟨r - 1, Nat.le_refl _, e⟩ (p2 _)
        · have b1 := Wk_bnd hw p1
          have b2 := p2 _ ⟨r - 1, Nat.le_refl _, e⟩
          refine ⟨fun q => by have := no32.mp q; omega, ?_⟩
          rw [Int32.lt_iff_toInt_lt, ad32 (by omega) (by omega), m1I]
          omega
      unfold fsP canE
      rw [ht, decide_eq_true hL1.1, decide_eq_true hL1.2]
      rfl
    obtain ⟨j, hjj⟩ := hex
    obtain ⟨g1, g2, -⟩ := fst_inv hjj
    have hy := hg.2.2 j g1
    have hwj := hw j g1
    unfold fsP canE at g2
    rw [Bool.and_eq_true, Bool.and_eq_true, decide_eq_true_eq, decide_eq_true_eq] at g2
    obtain ⟨ht, k1, k2⟩ := g2
    have hZ2 : ∃ z, Ex m fr to w th (r - 1) (to j) (fr j) z ∧ (w j).toInt + z < 0 := by
      rcases hL (r - 1) (by omega) (to j) (fr j) hy.2 hy.1 with ⟨p1, p2⟩ | ⟨⟨i2, hi2, p1⟩, p2⟩
      · exact absurd (no32.mpr p1) k1
      · have b1 := Wk_bnd hw ⟨i2, hi2, p1⟩
        rw [Int32.lt_iff_toInt_lt, ad32 (by omega) (by omega), m1I] at k2
        have e2 := Ex_cons g1 ht p1
        by_cases c : i2 = r - 1
        · subst c; exact ⟨_, p1, by omega⟩
        · have := m3 _ (fr j) _ (show i2 + 1 < r by omega) hy.1 e2
          omega
    have q1 : (-1 - w j).toInt = -1 - (w j).toInt := by rw [sb32 (by rw [m1I]; omega) (by rw [m1I]; omega), m1I]
    have q2 : ((0 : Int64) + (w j).toInt64).toInt = (w j).toInt := by rw [Int64.zero_add, Int32.toInt_toInt64]
    obtain ⟨c1, c2⟩ := ring_chain hg hw hL hy.1 m1 m3 (r - 1) 1 (to j) (w j).toInt (-1 - w j) (0 + (w j).toInt64) (by omega) hy.2 (Ex_arc g1 ht) hZ2 q1 q2
    have hfs : fsO m fr to w th L r = some j := hjj
    have e0 : raC m fr to w th L r 0 = j := by unfold raC; rw [hfs]; rfl
    have eS : ∀ t, t < r - 1 → rowF m fr to w th L (fr j) t (to j) (r - 1) (-1 - w j) = some (raC m fr to w th L r (1 + t)) := by
      intro t ht2
      obtain ⟨a, ha⟩ := c1 t ht2
      rw [ha]
      unfold raC
      rw [hfs]
      show some a = some (if 1 + t = 0 then j else (rowF m fr to w th L (fr j) (1 + t - 1) (to j) (r - 1) (-1 - w j)).getD 0)
      rw [if_neg (by omega), show 1 + t - 1 = t by omega, ha]
      rfl
    refine ⟨Or.inr ⟨?_, ?_⟩, fun x => ?_⟩
    · rw [← hc, e0]; exact hjj
    · rw [e0]; exact c2 _ eS
    · unfold shX
      rw [hS]
      by_cases k0 : x < 0
      · rw [if_pos k0, bw_f (by rw [eq_false_iff]; intro q; exact ix_neg (by omega) k0 (ixB_t (by omega) q))]
        rfl
      · rw [if_neg k0]
        obtain ⟨y, hyy, rfl⟩ := nI_of k0
        by_cases k1 : y < r
        · rw [if_pos (nI_lt k1 (by omega)), bw_t (ixB_n (by omega) k1), nI_clamp hyy]
          by_cases k2 : y = 0
          · subst k2
            rw [nI_0, if_pos rfl, hfs, e0]
            rfl
          · rw [if_neg (nI_ne0 (by omega) hyy), hfs]
            show oI (rowX m fr to w th L (to j) (fr j) (r - 1) (-1 - w j) (nI y - 1)) = _
            have hy1 : nI y - 1 = nI (y - 1) := pk_sub (a := y) (b := 1) (by omega)
            rw [hy1, rowX_in (by omega) (nI_lt (by omega) (by omega)), eS (y - 1) (by omega), show 1 + (y - 1) = y by omega]
            rfl
        · rw [if_neg (nI_nlt (by omega) hyy), bw_f (by rw [eq_false_iff]; intro q; exact ix_ge (by omega) (nI_le (by omega) hyy) (ixB_t (by omega) q))]
          rfl
end MR
