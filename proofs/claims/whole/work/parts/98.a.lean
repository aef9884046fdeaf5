/-! MATHEMATICS: no ring at all: the order -/
section MO
variable {n m : Nat} {fr to : Nat → Nat} {w : Nat → Int32} {th : Nat → Bool} {od : Nat → Nat} {oc : Nat}
def acyc (n m : Nat) (fr to : Nat → Nat) (w : Nat → Int32) (th : Nat → Bool) : Prop := ∀ (x k : Nat) (z : Int), x < n → ¬ Ex m fr to w th (k + 1) x x z
/-- which stand in the first t places -/
def ioS (od : Nat → Nat) : Nat → Nat → Bool
  | 0 => fun _ => false
  | t + 1 => va_up (ioS od t) (od t) true
theorem ioS_iff {od : Nat → Nat} {x : Nat} : ∀ {t : Nat}, ioS od t x = true ↔ ∃ s, s < t ∧ od s = x
  | 0 => ⟨fun h => (by cases h), fun ⟨s, hs, _⟩ => absurd hs (Nat.not_lt_zero s)⟩
  | t + 1 => by
    show va_up (ioS od t) (od t) true x = true ↔ _
    by_cases q : x = od t
    · subst q; rw [va_up_self]; exact ⟨fun _ => ⟨t, by omega, rfl⟩, fun _ => rfl⟩
    · rw [va_up_ne _ _ q, ioS_iff]
      refine ⟨fun ⟨s, h1, h2⟩ => ⟨s, by omega, h2⟩, fun ⟨s, h1, h2⟩ => ⟨s, ?_, h2⟩⟩
      rcases Nat.lt_or_ge s t with c | c
      · exact c
      · exact absurd (by rw [← h2, show s = t by omega]) q
theorem ioS_cong {od od2 : Nat → Nat} : ∀ {t : Nat}, (∀ s, s < t → od s = od2 s) → ioS od t = ioS od2 t
  | 0, _ => rfl
  | t + 1, h => by
    show va_up (ioS od t) (od t) true = va_up (ioS od2 t) (od2 t) true
    rw [ioS_cong (fun s hs => h s (by omega)), h t (by omega)]
theorem nxP_iff {io : Nat → Bool} {u : Nat} : nxP m fr to th io u = true ↔ io u = false ∧ ∀ j, j < m → th j = true → to j = u → io (fr j) = true := by
  unfold nxP waB
  rw [Bool.and_eq_true, Bool.not_eq_true', Bool.not_eq_true', eq_false_iff (b := (fst _ m).isSome), fst_some_iff]
  constructor
  · rintro ⟨h1, h2⟩
    refine ⟨h1, fun j hj ht hu => ?_⟩
    cases e : io (fr j) with
    | true => rfl
    | false => exact absurd ⟨j, hj, by unfold waP; rw [ht, decide_eq_true hu, e]; rfl⟩ h2
  · rintro ⟨h1, h2⟩
    refine ⟨h1, fun ⟨j, hj, h⟩ => ?_⟩
    unfold waP at h
    rw [Bool.and_eq_true, Bool.and_eq_true, decide_eq_true_eq, Bool.not_eq_true'] at h
    have := h2 j hj h.1 h.2.1
    rw [h.2.2] at this
    cases this
theorem nx_cong (hg : gOK n m fr to) {io io2 : Nat → Bool} (h : ∀ x, x < n → io x = io2 x) : fst (nxP m fr to th io) n = fst (nxP m fr to th io2) n :=
  fst_cong (fun u hu => bool_eq (by
    rw [nxP_iff, nxP_iff, h u hu]
    exact ⟨fun ⟨a, b⟩ => ⟨a, fun j hj ht hu => by rw [← h _ (hg.2.2 j hj).1]; exact b j hj ht hu⟩, fun ⟨a, b⟩ => ⟨a, fun j hj ht hu => by rw [h _ (hg.2.2 j hj).1]; exact b j hj ht hu⟩⟩))
/-- the first oc places hold what the document's order holds, and more only where none can follow -/
def GR (n m : Nat) (fr to : Nat → Nat) (th : Nat → Bool) (od : Nat → Nat) (oc : Nat) : Prop := oc ≤ n ∧ (∀ t, t < oc → fst (nxP m fr to th (ioS od t)) n = some (od t)) ∧ (oc < n → fst (nxP m fr to th (ioS od oc)) n = none)
theorem ordF_GR (hg : gOK n m fr to) : ∀ (f pl : Nat) (od : Nat → Nat) (io : Nat → Bool), pl + f = n → (∀ x, x < n → io x = ioS od pl x) → (∀ t, t < pl → fst (nxP m fr to th (ioS od t)) n = some (od t)) → GR n m fr to th (ordF n m fr to th f pl od io).1 (ordF n m fr to th f pl od io).2.2
  | 0, pl, od, io, hp, hio, h => ⟨by show pl ≤ n; omega, h, fun q => by have : pl < n := q; omega⟩
  | f + 1, pl, od, io, hp, hio, h => by
    cases e : nextO n m fr to th io with
    | none =>
      rw [ordF_none e]
      exact ⟨by show pl ≤ n; omega, h, fun _ => by rw [← nx_cong hg hio]; exact e⟩
    | some x =>
      rw [ordF_some e]
      have hsame : ∀ t, t ≤ pl → ioS (va_up od pl x) t = ioS od t := fun t ht => ioS_cong (fun s hs => va_up_ne _ _ (by omega))
      refine ordF_GR hg f (pl + 1) _ _ (by omega) (fun y hy => ?_) (fun t ht => ?_)
      · show va_up io x true y = va_up (ioS (va_up od pl x) pl) (va_up od pl x pl) true y
        rw [va_up_self, hsame pl (Nat.le_refl _)]
        by_cases q : y = x
        · subst q; rw [va_up_self, va_up_self]
        · rw [va_up_ne _ _ q, va_up_ne _ _ q]; exact hio y hy
      · rw [hsame t (by omega)]
        by_cases q : t = pl
        · subst q; rw [va_up_self, ← nx_cong hg hio]; exact e
        · rw [va_up_ne _ _ q]; exact h t (by omega)
theorem ordR_GR (hg : gOK n m fr to) (od : Nat → Nat) (io : Nat → Bool) : GR n m fr to th (ordR n m fr to th od io).1 (ordR n m fr to th od io).2.2 :=
  ordF_GR hg n 0 od (fl clS n io) (by omega) (fun x hx => flu_in (s := clS) (g := fun i => i) (c := fun _ => false) (fun _ _ => rfl) io n x hx (fun a b _ _ h => h)) (fun t ht => absurd ht (Nat.not_lt_zero t))
theorem GR_lt (h : GR n m fr to th od oc) {t : Nat} (ht : t < oc) : od t < n := (fst_inv (h.2.1 t ht)).1
theorem GR_pre (h : GR n m fr to th od oc) {t j : Nat} (ht : t < oc) (hj : j < m) (hth : th j = true) (hto : to j = od t) : ∃ s, s < t ∧ od s = fr j := ioS_iff.mp ((nxP_iff.mp (fst_inv (h.2.1 t ht)).2.1).2 j hj hth hto)
theorem GR_new (h : GR n m fr to th od oc) {t : Nat} (ht : t < oc) : ∀ s, s < t → od s ≠ od t := fun s hs e => by
  have := (nxP_iff.mp (fst_inv (h.2.1 t ht)).2.1).1
  rw [ioS_iff.mpr ⟨s, hs, e⟩] at this
  cases this
theorem GR_onto (h : GR n m fr to th od n) {x : Nat} (hx : x < n) : ∃ t, t < n ∧ od t = x := by
  by_cases c : ∃ t, t < n ∧ od t = x
  · exact c
  · obtain ⟨i, j, hij, hj, e⟩ := php n (fun i => if i < n then od i else x) (fun i hi => by
      show (if i < n then od i else x) < n
      by_cases q : i < n
      · rw [if_pos q]; exact GR_lt h q
      · rw [if_neg q]; exact hx)
    have e : (if i < n then od i else x) = (if j < n then od j else x) := e
    rw [if_pos (by omega)] at e
    by_cases q : j < n
    · rw [if_pos q] at e; exact absurd e (GR_new h q i hij)
    · rw [if_neg q] at e; exact absurd ⟨i, by omega, e⟩ c
theorem GR_back (h : GR n m fr to th od oc) : ∀ {k u v t : Nat} {z : Int}, t < oc → od t = v → Ex m fr to w th k u v z → ∃ s, s + k ≤ t ∧ od s = u
  | 0, u, v, t, z, ht, e, hE => by obtain ⟨rfl, -⟩ := hE; exact ⟨t, by omega, e⟩
  | k + 1, u, v, t, z, ht, e, hE => by
    obtain ⟨j, hj, hth, hto, hE⟩ := hE
    obtain ⟨s, hs, es⟩ := GR_pre h ht hj hth (by rw [hto, e])
    obtain ⟨s2, h2, e2⟩ := GR_back h (by omega) es hE
    exact ⟨s2, by omega, e2⟩
theorem GR_acyc (h : GR n m fr to th od n) : acyc n m fr to w th := fun x k z hx hE => by
  obtain ⟨t, ht, e⟩ := GR_onto h hx
  obtain ⟨s, hs, -⟩ := GR_back h ht e (Ex_rep hE n)
  have : n ≤ n * (k + 1) := Nat.le_mul_of_pos_right n (by omega)
  omega
theorem acyc_short (hg : gOK n m fr to) (ha : acyc n m fr to w th) {k u v : Nat} {z : Int} (hu : u < n) (hE : Ex m fr to w th k u v z) : k < n := by
  rcases Nat.lt_or_ge k n with q | q
  · exact q
  · obtain ⟨a, c, b, x, z1, z2, z3, e, hc, -, hx, e1, e2, e3, ez⟩ := cut hg hu q hE
    rw [show c = c - 1 + 1 by omega] at e2
    exact absurd e2 (ha x (c - 1) z2 hx)
theorem acyc_full (hg : gOK n m fr to) (ha : acyc n m fr to w th) (h : GR n m fr to th od oc) : oc = n := by
  have h0 := h.1
  rcases Nat.lt_or_ge oc n with q | q
  · exfalso
    have hno := fst_ninv (h.2.2 q)
    have hb : ∀ k u, u < n → ioS od oc u = false → ∃ u' z, u' < n ∧ Ex m fr to w th k u' u z := by
      intro k
      induction k with
      | zero => intro u hu _; exact ⟨u, 0, hu, rfl, rfl⟩
      | succ k ih =>
        intro u hu hio
        have h1 : ¬ nxP m fr to th (ioS od oc) u = true := by rw [hno u hu]; decide
        rw [nxP_iff] at h1
        have h2 : ∃ j, j < m ∧ th j = true ∧ to j = u ∧ ioS od oc (fr j) = false := by
          apply Classical.byContradiction
          intro c
          exact h1 ⟨hio, fun j hj ht hu2 => by
            cases e : ioS od oc (fr j) with
            | true => rfl
            | false => exact absurd ⟨j, hj, ht, hu2, e⟩ c⟩
        obtain ⟨j, hj, ht, hu2, e⟩ := h2
        obtain ⟨u', z, h3, h4⟩ := ih (fr j) (hg.2.2 j hj).1 e
        exact ⟨u', z + (w j).toInt, h3, j, hj, ht, hu2, by rw [Int.add_sub_cancel]; exact h4⟩
    have hex : ∃ u, u < n ∧ ioS od oc u = false := by
      apply Classical.byContradiction
      intro c
      have hall : ∀ u, u < n → ∃ s, s < oc ∧ od s = u := fun u hu => ioS_iff.mp (by
        cases e : ioS od oc u with
        | true => rfl
        | false => exact absurd ⟨u, hu, e⟩ c)
      have hp : ∃ p : Nat → Nat, ∀ u, u < n → p u < oc ∧ od (p u) = u := by
        refine ⟨fun u => if h : u < n then (hall u h).choose else 0, fun u hu => ?_⟩
        show (if h : u < n then (hall u h).choose else 0) < oc ∧ od (if h : u < n then (hall u h).choose else 0) = u
        rw [dif_pos hu]
        exact (hall u hu).choose_spec
      obtain ⟨p, hp⟩ := hp
      obtain ⟨i, j, hij, hj, e⟩ := php oc p (fun i hi => (hp i (by omega)).1)
      have e1 := (hp i (by omega)).2
      have e2 := (hp j (by omega)).2
      rw [e] at e1
      omega
    obtain ⟨u, hu, e⟩ := hex
    obtain ⟨u', z, h3, h4⟩ := hb n u hu e
    have := acyc_short hg ha h3 h4
    omega
  · omega
-- the reference's row of bits
theorem sm32 : ∀ x, x < 12 → ((nI x).toBitVec.smod 32).toNat = x := by decide +kernel
theorem nI_31 {x : Nat} (hx : x < 12) : nI x &&& 31 = nI x := by
  rw [pk_andN (by omega) 5 (by decide), Nat.mod_eq_of_lt (by omega)]
theorem btE_iff {M x : Nat} (hM : M < 2 ^ 31) (hx : x < 12) : btE (nI M) x = true ↔ Nat.testBit M x = false := by
  unfold btE
  have h2 : M / 2 ^ x ≤ M := Nat.div_le_self _ _
  rw [nI_31 hx, pk_shrN hM _ x (sm32 x hx), pk_andN (by omega) 1 (by decide), decide_eq_true_eq, Nat.testBit_eq_decide_div_mod_eq, decide_eq_false_iff_not, ← nI_0, nI_eq (by omega) (by omega)]
  omega
theorem odZ_eq {M x : Nat} (hx : x < 12) : odZ (nI M) x = nI (M + 2 ^ x) := by
  unfold odZ
  have hp : 2 ^ x ≤ 2 ^ 11 := Nat.pow_le_pow_right (by omega) (by omega)
  have h1 : (1 : Int32) <<< nI x = nI (2 ^ x) := by
    have := pk_shlN (n := 1) (nI x) x (sm32 x hx) (by omega)
    rw [Nat.one_mul] at this
    exact this
  rw [nI_31 hx, h1, nI_add]
theorem tb_add {M x : Nat} (y : Nat) (h : Nat.testBit M x = false) : Nat.testBit (M + 2 ^ x) y = if y = x then true else Nat.testBit M y := by
  have hp : 2 ^ (x + 1) = 2 * 2 ^ x := by rw [Nat.pow_succ]; omega
  have hr : M % 2 ^ (x + 1) < 2 ^ x := by
    rw [Nat.testBit_eq_decide_div_mod_eq, decide_eq_false_iff_not] at h
    rw [Nat.mod_pow_succ, show M / 2 ^ x % 2 = 0 by omega, Nat.mul_zero, Nat.add_zero]
    exact Nat.mod_lt _ (Nat.two_pow_pos x)
  have e := Nat.div_add_mod M (2 ^ (x + 1))
  generalize M / 2 ^ (x + 1) = q at e
  generalize M % 2 ^ (x + 1) = r at e hr
  have e1 : M + 2 ^ x = 2 ^ (x + 1) * q + (2 ^ x * 1 + r) := by omega
  rw [e1, ← e, Nat.testBit_two_pow_mul_add q (by omega) y, Nat.testBit_two_pow_mul_add q (by omega) y]
  by_cases c : y < x + 1
  · rw [if_pos c, if_pos c, Nat.testBit_two_pow_mul_add 1 hr y]
    by_cases d : y = x
    · subst d
      rw [if_neg (by omega), if_pos rfl, Nat.sub_self]
      rfl
    · rw [if_pos (by omega), if_neg d]
  · rw [if_neg c, if_neg c, if_neg (by omega)]
theorem od_same (hg : gOK n m fr to) {io : Nat → Bool} {M : Nat} (hM : M < 2 ^ 31) (h : ∀ x, x < n → Nat.testBit M x = io x) : odN n m fr to th (nI M) = fst (nxP m fr to th io) n := by
  have hn := hg.1
  unfold odN
  apply fst_cong
  intro x hx
  apply bool_eq
  unfold isN
  rw [aa_iff, nxP_iff, btE_iff hM (by omega), h x hx]
  have : ∀ j, j < m → (inP fr to th (nI M) x j = true ↔ (th j = true → to j = x → io (fr j) = true)) := by
    intro j hj
    have hf := (hg.2.2 j hj).1
    unfold inP
    have hb := btE_iff (M := M) (x := fr j) hM (by omega)
    rw [h (fr j) hf] at hb
    rw [Bool.not_eq_true', eq_false_iff, Bool.and_eq_true, Bool.and_eq_true, decide_eq_true_eq, hb]
    cases io (fr j) <;> simp
  exact ⟨fun ⟨a, b⟩ => ⟨a, fun j hj ht hu => (this j hj).mp (b j hj) ht hu⟩, fun ⟨a, b⟩ => ⟨a, fun j hj => (this j hj).mpr (b j hj)⟩⟩
theorem od_chain (hg : gOK n m fr to) (h : GR n m fr to th od n) (q : Int32) : ∀ (f k M : Nat), k + f = n → M ≤ k * 2048 → (∀ x, x < n → Nat.testBit M x = ioS od k x) → odG n m fr to th f (nI M) ∧ ∀ r, odR n m fr to th q f k (nI M) r → (∀ i, i < f → q = nI (k + i) → r = nI (od (k + i))) ∧ ((∀ i, i < f → ¬ q = nI (k + i)) → r = -1)
  | 0, k, M, _, _, _ => ⟨trivial, fun r hr => ⟨fun i hi => absurd hi (Nat.not_lt_zero i), fun _ => hr⟩⟩
  | f + 1, k, M, hk, hM, hb => by
    have hn := hg.1
    have hs := od_same (th := th) hg (M := M) (by omega) hb
    rw [h.2.1 k (by omega)] at hs
    have hx := GR_lt h (show k < n by omega)
    have hio := (nxP_iff.mp (fst_inv (h.2.1 k (by omega))).2.1).1
    have hz : odZ (nI M) (od k) = nI (M + 2 ^ od k) := odZ_eq (by omega)
    have hp : 2 ^ od k ≤ 2 ^ 11 := Nat.pow_le_pow_right (by omega) (by omega)
    obtain ⟨g1, g2⟩ := od_chain hg h q f (k + 1) (M + 2 ^ od k) (by omega) (by omega) (fun x hx2 => by
      rw [tb_add x (by rw [hb _ hx]; exact hio)]
      show _ = va_up (ioS od k) (od k) true x
      by_cases e : x = od k
      · rw [if_pos e, e, va_up_self]
      · rw [if_neg e, va_up_ne _ _ e]; exact hb x hx2)
    refine ⟨⟨od k, hs, by rw [hz]; exact g1⟩, fun r hr => ?_⟩
    obtain ⟨x, h1, h2⟩ := hr
    rw [hs] at h1
    cases h1
    rcases h2 with ⟨h2, h3⟩ | ⟨h2, h3⟩
    · refine ⟨fun i hi e => ?_, fun hno => absurd h2.symm (hno 0 (by omega))⟩
      have : k = k + i := (nI_eq (by omega) (by omega)).mp (by rw [h2]; exact e)
      rw [h3, ← this]
    · rw [hz] at h3
      obtain ⟨a1, a2⟩ := g2 r h3
      refine ⟨fun i hi e => ?_, fun hno => a2 (fun i hi e => hno (i + 1) (by omega) (by rw [e]; congr 1; omega))⟩
      cases i with
      | zero => exact absurd e.symm h2
      | succ i => rw [a1 i (by omega) (by rw [e]; congr 1; omega)]; congr 2; omega
theorem order_ok (hg : gOK n m fr to) (h : GR n m fr to th od n) : odG n m fr to th n 0 ∧ ∀ x r, odR n m fr to th x n 0 0 r → oI (ndO od n x) = r := by
  have hn := hg.1
  have hc := fun x => od_chain hg h x n 0 0 (by omega) (by omega) (fun x _ => by rw [Nat.zero_testBit]; rfl)
  rw [show nI 0 = 0 from nI_0] at hc
  refine ⟨(hc 0).1, fun x r hr => ?_⟩
  obtain ⟨a1, a2⟩ := (hc x).2 r hr
  unfold ndO
  by_cases k1 : x < 0
  · rw [if_pos k1]
    exact (a2 (fun i hi e => by rw [e] at k1; exact nI_pos (by omega) k1)).symm
  · rw [if_neg k1]
    obtain ⟨y, hy, rfl⟩ := nI_of k1
    by_cases k2 : y < n
    · rw [if_pos (nI_lt k2 (by omega)), nI_clamp hy]
      have := a1 y k2 (by rw [Nat.zero_add])
      rw [Nat.zero_add] at this
      exact this.symm
    · rw [if_neg (nI_nlt (by omega) hy)]
      refine (a2 (fun i hi e => k2 ?_)).symm
      have := (nI_eq hy (by omega)).mp e
      omega
end MO
