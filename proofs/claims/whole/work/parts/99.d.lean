/-! THE LAW: its loop, its start -/
theorem LWd_up {D : va_G} {k : Nat → ClassId} {a b : Nat → Nat} {cN : Nat} {H : Heap} (h : LWd D k a b cN H) : LWd D k a b (cN + 1) H := by
  obtain ⟨n, m, ch, fr, to, w, th, L, la, sw, od, io, oc, fa, on, gr, sr, be, oe, al, pa, bo, rl, ra, mo, hP1, hP2, hC⟩ := h
  exact ⟨n, m, ch, fr, to, w, th, L, la, sw, od, io, oc, fa, on, gr, sr, be, oe, al, pa, bo, rl, ra, mo, hP1, hP2, CI_up hC⟩
set_option maxHeartbeats 4000000 in
set_option maxRecDepth 100000 in
theorem law_loop {p : Program} {l : Launch} {e : Env} {s : State} {mt : MethodId} {below : List Frame} {meth : Method} {c : Code} {bs Ls : Nat} {xs : Nat → Int32} {D : va_G} {k : Nat → ClassId} {a b : Nat → Nat} (C : LC p s mt meth c bs Ls xs D k a b) :
    ∀ (f cN : Nat), 4 * cN ≤ Ls → Ls + 4 ≤ 4 * cN + 4 * f → ∀ (H : Heap) (locs : List Loc), LWd D k a b cN H → va_S (fun q : Nat => s.heap.size ≤ q) s.heap H locs → ∀ (ls : Array Slot), lv_has ls 4 [(0, .ref bs), (1, .ref (a 0)), (2, .ref (b 0)), (3, .int (nI (4 * cN)))] → W p l e room_1 s mt #[Value.ref bs] below meth c H locs 58 4469 (lw_Z below #[Value.ref bs] s) (F0 mt 18 ls []) := by
  obtain ⟨⟨hx, hb, hr, hml, hown, hts0, hX, hbl, hlocks, hgv⟩, hLs, hK, ha, hbI, hdis, haA, hbA⟩ := id C
  have hbN : ¬ (fun q : Nat => s.heap.size ≤ q) bs := Nat.not_le.mpr hbl
  intro f
  induction f with
  | zero => intro cN h1 h2; exact absurd h2 (by omega)
  | succ f ih =>
    intro cN h1 h2 H locs hW hS ls hl
    refine lv_iload_n hx hb dL_law_18 rfl (lv_at hl 3 rfl) ?_
    refine lv_aload_n hx hb dL_law_19 rfl (lv_at hl 0 rfl) ?_
    refine va_slen hx hb hX hbl hbN hS dL_law_20 ?_
    refine lv_iconst (v := nI 4) hx hb dL_law_21 (by decide) ?_
    refine lv_isub hx hb dL_law_22 ?_
    refine lv_icmp_gt (tgt := 634) hx hb dL_law_23 (by decide) (fun q => ?_) (fun q => ?_)
    · refine lv_iconst (v := 1) hx hb dL_law_634 (by decide) ?_
      refine va_forget (fun q hq => hS.2.2 q hq) ?_
      refine W.widen (k := 600000) (n := 7302250) (by omega) (by omega) ?_
      exact lw_ret hx hb hr hlocks dL_law_635
    · have q : ¬ nI Ls - nI 4 < nI (4 * cN) := q
      rw [Int32.lt_iff_toInt_lt, pk_sub_toInt (by omega) (by omega), nI_toInt (by omega)] at q
      have hi : 4 * cN + 4 ≤ Ls := by omega
      have next : ∀ (H1 : Heap) (locs1 : List Loc), LWd D k a b (cN + 1) H1 → va_S (fun q : Nat => s.heap.size ≤ q) s.heap H1 locs1 → W p l e room_1 s mt #[Value.ref bs] below meth c H1 locs1 58 4469 (lw_Z below #[Value.ref bs] s) (F0 mt 628 ls []) := by
        intro H1 locs1 hW1 hS1
        refine lv_iinc (v := nI (4 * (cN + 1))) (lv' := [(3, .int (nI (4 * (cN + 1)))), (0, .ref bs), (1, .ref (a 0)), (2, .ref (b 0))]) hx hb dL_law_628 hl (k := 3) rfl (by rw [show Int32.ofInt 4 = nI 4 by decide, nI_add]; rfl) (by decide) rfl (fun ls hl => ?_)
        refine lv_goto (tgt := 18) hx hb dL_law_631 (by decide) ?_
        exact ih (cN + 1) (by omega) (by omega) H1 locs1 hW1 hS1 ls (lv_sub hl [1, 2, 3, 0] rfl)
      refine lv_aload_n hx hb dL_law_26 rfl (lv_at hl 0 rfl) ?_
      refine lv_iload_n hx hb dL_law_27 rfl (lv_at hl 3 rfl) ?_
      refine va_sld hx hb hX hbl hbN hS (vp_in_nI (show 4 * cN < Ls by omega) (by omega)) dL_law_28 ?_
      refine lv_bipush (v := 31) hx hb dL_law_29 (by decide) ?_
      refine lv_iand hx hb dL_law_31 ?_
      obtain ⟨j, hj, ej⟩ := pk_andE (xs (nI (4 * cN)).toNatClampNeg) (m := 31) 5 (by decide)
      rw [ej]
      rcases (show j = 0 ∨ j = 1 ∨ j = 2 ∨ j = 3 ∨ j = 4 ∨ j = 5 ∨ j = 6 ∨ j = 7 ∨ j = 8 ∨ j = 9 ∨ j = 10 ∨ j = 11 ∨ j = 12 ∨ j = 13 ∨ j = 14 ∨ j = 15 ∨ j = 16 ∨ j = 17 ∨ j = 18 ∨ j = 19 ∨ 20 ≤ j by omega) with rfl | rfl | rfl | rfl | rfl | rfl | rfl | rfl | rfl | rfl | rfl | rfl | rfl | rfl | rfl | rfl | rfl | rfl | rfl | rfl | hj2
      · refine lv_tableIn (off := 96) (tgt := 128) hx hb dL_law_32 (by decide) (by decide) (by decide) (by decide) ?_
        exact lc_node C hi (by omega) hW hS hl next
      · refine lv_tableIn (off := 109) (tgt := 141) hx hb dL_law_32 (by decide) (by decide) (by decide) (by decide) ?_
        exact lc_arc C hi (by omega) hW hS hl next
      · refine lv_tableIn (off := 152) (tgt := 184) hx hb dL_law_32 (by decide) (by decide) (by decide) (by decide) ?_
        exact lc_weight C hi (by omega) hW hS hl next
      · refine lv_tableIn (off := 185) (tgt := 217) hx hb dL_law_32 (by decide) (by decide) (by decide) (by decide) ?_
        exact lc_turn C hi (by omega) hW hS hl next
      · refine lv_tableIn (off := 208) (tgt := 240) hx hb dL_law_32 (by decide) (by decide) (by decide) (by decide) ?_
        exact lc_clear C hi (by omega) hW hS hl next
      · refine lv_tableIn (off := 221) (tgt := 253) hx hb dL_law_32 (by decide) (by decide) (by decide) (by decide) ?_
        exact lc_told C hi (by omega) hW hS hl next
      · refine lv_tableIn (off := 244) (tgt := 276) hx hb dL_law_32 (by decide) (by decide) (by decide) (by decide) ?_
        exact lc_least C hi (by omega) hW hS hl next
      · refine lv_tableIn (off := 277) (tgt := 309) hx hb dL_law_32 (by decide) (by decide) (by decide) (by decide) ?_
        exact lc_way C hi (by omega) hW hS hl next
      · refine lv_tableIn (off := 320) (tgt := 352) hx hb dL_law_32 (by decide) (by decide) (by decide) (by decide) ?_
        exact lc_within C hi (by omega) hW hS hl next
      · refine lv_tableIn (off := 363) (tgt := 395) hx hb dL_law_32 (by decide) (by decide) (by decide) (by decide) ?_
        exact lc_rounds C hi (by omega) hW hS hl next
      · refine lv_tableIn (off := 386) (tgt := 418) hx hb dL_law_32 (by decide) (by decide) (by decide) (by decide) ?_
        exact lc_falling C hi (by omega) hW hS hl next
      · refine lv_tableIn (off := 399) (tgt := 431) hx hb dL_law_32 (by decide) (by decide) (by decide) (by decide) ?_
        exact lc_ring C hi (by omega) hW hS hl next
      · refine lv_tableIn (off := 422) (tgt := 454) hx hb dL_law_32 (by decide) (by decide) (by decide) (by decide) ?_
        exact lc_height C hi (by omega) hW hS hl next
      · refine lv_tableIn (off := 445) (tgt := 477) hx hb dL_law_32 (by decide) (by decide) (by decide) (by decide) ?_
        exact lc_lifted C hi (by omega) hW hS hl next
      · refine lv_tableIn (off := 468) (tgt := 500) hx hb dL_law_32 (by decide) (by decide) (by decide) (by decide) ?_
        exact lc_spare C hi (by omega) hW hS hl next
      · refine lv_tableIn (off := 491) (tgt := 523) hx hb dL_law_32 (by decide) (by decide) (by decide) (by decide) ?_
        exact lc_order C hi (by omega) hW hS hl next
      · refine lv_tableIn (off := 514) (tgt := 546) hx hb dL_law_32 (by decide) (by decide) (by decide) (by decide) ?_
        exact lc_far C hi (by omega) hW hS hl next
      · refine lv_tableIn (off := 537) (tgt := 569) hx hb dL_law_32 (by decide) (by decide) (by decide) (by decide) ?_
        exact lc_late C hi (by omega) hW hS hl next
      · refine lv_tableIn (off := 560) (tgt := 592) hx hb dL_law_32 (by decide) (by decide) (by decide) (by decide) ?_
        exact lc_whole C hi (by omega) hW hS hl next
      · refine lv_tableIn (off := 573) (tgt := 605) hx hb dL_law_32 (by decide) (by decide) (by decide) (by decide) ?_
        exact lc_critical C hi (by omega) hW hS hl next
      · refine lv_tableOut (tgt := 628) hx hb dL_law_32 (Or.inr (by rw [nI_toInt (by omega)]; omega)) (by decide) ?_
        exact next H locs (LWd_up hW) hS
