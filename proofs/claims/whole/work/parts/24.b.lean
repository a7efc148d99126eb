/-! ===== the law's loop ===== -/
theorem xs63 (x : Int32) : ∃ q, q < 64 ∧ x &&& nI 63 = nI q := ⟨_, Nat.mod_lt _ (by decide), pk_and x 6 (by decide)⟩
theorem GI.next {cI cJ : ClassId} {A : Nat → Prop} {b L xo mo out k u : Nat} {xs : Nat → Int32} {M : MP} (h : GI cI cJ A b L xs xo mo out k M u) : GI cI cJ A b L xs xo mo out (k + 1) M u := by
  obtain ⟨tr, tk, tp, cn, N, su, pa, po, okk, pt, K, pp, w, bk, wa, ca, qu, ve, ro, no, fi, se, t3, le, od, th, oc, nr, rwv, f, hG, hP, hN, hu⟩ := h
  exact ⟨tr, tk, tp, cn, N, su, pa, po, okk, pt, K, pp, w, bk, wa, ca, qu, ve, ro, no, fi, se, t3, le, od, th, oc, nr, rwv, f, hG, hP, by omega, hu⟩
theorem lim_ix {L k : Nat} (hL : L ≤ 2048) (hk : k ≤ 512) : nI L - nI 4 < nI (4 * k) ↔ L < 4 * k + 4 := by
  by_cases h : 4 ≤ L
  · rw [pk_sub h, nI_ltI (by omega) (by omega)]
    omega
  · have h1 : nI L - nI 4 < nI 0 := by
      rcases (show L = 0 ∨ L = 1 ∨ L = 2 ∨ L = 3 by omega) with rfl | rfl | rfl | rfl <;> decide
    constructor
    · intro _; omega
    · intro _
      by_cases h0 : k = 0
      · rw [h0]; exact h1
      · exact Int32.lt_trans h1 ((nI_ltI (by decide) (by omega)).mpr (by omega))
set_option maxHeartbeats 4000000 in
set_option maxRecDepth 100000 in
theorem law_body {p : Program} {l : Launch} {e : Env} {s : State} {m : MethodId} {below : List Frame} {meth : Method} {c : Code} {Q : State → Prop} {D : va_G} {cI cJ : ClassId} {A : Nat → Prop} {sb L xo mo out : Nat} {xs : Nat → Int32} (S : LSt p l s m c D cI cJ A sb L xs) {k u : Nat} {M : MP} {H : Heap} {locs : List Loc} {ls : Array Slot} (hk : k < 512) (hL : 4 * k + 4 ≤ L) (hL2 : L ≤ 2048) (hG : GI cI cJ A sb L xs xo mo out k M u) (hM : HM D M H) (hS : va_S A s.heap H locs) (hl : lv_has ls 9 [(4, .int (nI (4 * k))), (3, .ref out), (2, .ref mo), (1, .ref xo), (0, .ref sb)]) (J : LJ p l e s m below meth c D cI cJ A sb L xs xo mo out k Q) : W p l e room_1 s m #[Value.ref sb] below meth c H locs (20 + 6 * k) (8000 + 100 * k + u) Q (F0 m 32 ls []) := by
  obtain ⟨hx, hb, hml, hown, hts, hK, hX, hl9, hAs, hXs, hbl, hbA⟩ := id S
  refine lv_aload_n hx hb dL_law_32 rfl (lv_at hl 4 rfl) ?_
  refine lv_iload hx hb dL_law_33 (lv_at hl 0 rfl) ?_
  refine w_scr hx hb hXs hbl hbA hS (4 * k) (by omega) hL2 dL_law_35 ?_
  refine lv_bipush (v := nI 63) hx hb dL_law_36 (by decide) ?_
  refine lv_iand hx hb dL_law_38 ?_
  obtain ⟨q, hq, he⟩ := xs63 (xs (4 * k))
  rw [he]
  rcases (show q = 0 ∨ q = 1 ∨ q = 2 ∨ q = 3 ∨ q = 4 ∨ q = 5 ∨ q = 6 ∨ q = 7 ∨ q = 8 ∨ q = 9 ∨ q = 10 ∨ q = 11 ∨ q = 12 ∨ q = 13 ∨ q = 14 ∨ q = 15 ∨ q = 16 ∨ q = 17 ∨ q = 18 ∨ q = 19 ∨ q = 20 ∨ q = 21 ∨ q = 22 ∨ q = 23 ∨ q = 24 ∨ q = 25 ∨ q = 26 ∨ q = 27 ∨ q = 28 ∨ q = 29 ∨ q = 30 ∨ q = 31 ∨ q = 32 ∨ q = 33 ∨ q = 34 ∨ q = 35 ∨ (q < 0 ∨ 35 < q) from by omega) with c_39 | c_39 | c_39 | c_39 | c_39 | c_39 | c_39 | c_39 | c_39 | c_39 | c_39 | c_39 | c_39 | c_39 | c_39 | c_39 | c_39 | c_39 | c_39 | c_39 | c_39 | c_39 | c_39 | c_39 | c_39 | c_39 | c_39 | c_39 | c_39 | c_39 | c_39 | c_39 | c_39 | c_39 | c_39 | c_39 | c_39
  · refine sw_at c_39 ?_
    refine lv_tableIn (tgt := 196) (off := 157) hx hb dL_law_39 (by decide) (by decide) (by decide) (by decide) ?_
    exact law_0 S hk hL hL2 hG hM hS hl J
  · refine sw_at c_39 ?_
    refine lv_tableIn (tgt := 207) (off := 168) hx hb dL_law_39 (by decide) (by decide) (by decide) (by decide) ?_
    exact law_1 S hk hL hL2 hG hM hS hl J
  · refine sw_at c_39 ?_
    refine lv_tableIn (tgt := 303) (off := 264) hx hb dL_law_39 (by decide) (by decide) (by decide) (by decide) ?_
    exact law_2 S hk hL hL2 hG hM hS hl J
  · refine sw_at c_39 ?_
    refine lv_tableIn (tgt := 359) (off := 320) hx hb dL_law_39 (by decide) (by decide) (by decide) (by decide) ?_
    exact law_3 S hk hL hL2 hG hM hS hl J
  · refine sw_at c_39 ?_
    refine lv_tableIn (tgt := 431) (off := 392) hx hb dL_law_39 (by decide) (by decide) (by decide) (by decide) ?_
    exact law_4 S hk hL hL2 hG hM hS hl J
  · refine sw_at c_39 ?_
    refine lv_tableIn (tgt := 444) (off := 405) hx hb dL_law_39 (by decide) (by decide) (by decide) (by decide) ?_
    exact law_5 S hk hL hL2 hG hM hS hl J
  · refine sw_at c_39 ?_
    refine lv_tableIn (tgt := 457) (off := 418) hx hb dL_law_39 (by decide) (by decide) (by decide) (by decide) ?_
    exact law_6 S hk hL hL2 hG hM hS hl J
  · refine sw_at c_39 ?_
    refine lv_tableIn (tgt := 513) (off := 474) hx hb dL_law_39 (by decide) (by decide) (by decide) (by decide) ?_
    exact law_7 S hk hL hL2 hG hM hS hl J
  · refine sw_at c_39 ?_
    refine lv_tableIn (tgt := 576) (off := 537) hx hb dL_law_39 (by decide) (by decide) (by decide) (by decide) ?_
    exact law_8 S hk hL hL2 hG hM hS hl J
  · refine sw_at c_39 ?_
    refine lv_tableIn (tgt := 618) (off := 579) hx hb dL_law_39 (by decide) (by decide) (by decide) (by decide) ?_
    exact law_9 S hk hL hL2 hG hM hS hl J
  · refine sw_at c_39 ?_
    refine lv_tableIn (tgt := 659) (off := 620) hx hb dL_law_39 (by decide) (by decide) (by decide) (by decide) ?_
    exact law_10 S hk hL hL2 hG hM hS hl J
  · refine sw_at c_39 ?_
    refine lv_tableIn (tgt := 715) (off := 676) hx hb dL_law_39 (by decide) (by decide) (by decide) (by decide) ?_
    exact law_11 S hk hL hL2 hG hM hS hl J
  · refine sw_at c_39 ?_
    refine lv_tableIn (tgt := 756) (off := 717) hx hb dL_law_39 (by decide) (by decide) (by decide) (by decide) ?_
    exact law_12 S hk hL hL2 hG hM hS hl J
  · refine sw_at c_39 ?_
    refine lv_tableIn (tgt := 797) (off := 758) hx hb dL_law_39 (by decide) (by decide) (by decide) (by decide) ?_
    exact law_13 S hk hL hL2 hG hM hS hl J
  · refine sw_at c_39 ?_
    refine lv_tableIn (tgt := 865) (off := 826) hx hb dL_law_39 (by decide) (by decide) (by decide) (by decide) ?_
    exact law_14 S hk hL hL2 hG hM hS hl J
  · refine sw_at c_39 ?_
    refine lv_tableIn (tgt := 948) (off := 909) hx hb dL_law_39 (by decide) (by decide) (by decide) (by decide) ?_
    exact law_15 S hk hL hL2 hG hM hS hl J
  · refine sw_at c_39 ?_
    refine lv_tableIn (tgt := 990) (off := 951) hx hb dL_law_39 (by decide) (by decide) (by decide) (by decide) ?_
    exact law_16 S hk hL hL2 hG hM hS hl J
  · refine sw_at c_39 ?_
    refine lv_tableIn (tgt := 1031) (off := 992) hx hb dL_law_39 (by decide) (by decide) (by decide) (by decide) ?_
    exact law_17 S hk hL hL2 hG hM hS hl J
  · refine sw_at c_39 ?_
    refine lv_tableIn (tgt := 1086) (off := 1047) hx hb dL_law_39 (by decide) (by decide) (by decide) (by decide) ?_
    exact law_18 S hk hL hL2 hG hM hS hl J
  · refine sw_at c_39 ?_
    refine lv_tableIn (tgt := 1099) (off := 1060) hx hb dL_law_39 (by decide) (by decide) (by decide) (by decide) ?_
    exact law_19 S hk hL hL2 hG hM hS hl J
  · refine sw_at c_39 ?_
    refine lv_tableIn (tgt := 1167) (off := 1128) hx hb dL_law_39 (by decide) (by decide) (by decide) (by decide) ?_
    exact law_20 S hk hL hL2 hG hM hS hl J
  · refine sw_at c_39 ?_
    refine lv_tableIn (tgt := 1235) (off := 1196) hx hb dL_law_39 (by decide) (by decide) (by decide) (by decide) ?_
    exact law_21 S hk hL hL2 hG hM hS hl J
  · refine sw_at c_39 ?_
    refine lv_tableIn (tgt := 1291) (off := 1252) hx hb dL_law_39 (by decide) (by decide) (by decide) (by decide) ?_
    exact law_22 S hk hL hL2 hG hM hS hl J
  · refine sw_at c_39 ?_
    refine lv_tableIn (tgt := 1304) (off := 1265) hx hb dL_law_39 (by decide) (by decide) (by decide) (by decide) ?_
    exact law_23 S hk hL hL2 hG hM hS hl J
  · refine sw_at c_39 ?_
    refine lv_tableIn (tgt := 1360) (off := 1321) hx hb dL_law_39 (by decide) (by decide) (by decide) (by decide) ?_
    exact law_24 S hk hL hL2 hG hM hS hl J
  · refine sw_at c_39 ?_
    refine lv_tableIn (tgt := 1428) (off := 1389) hx hb dL_law_39 (by decide) (by decide) (by decide) (by decide) ?_
    exact law_25 S hk hL hL2 hG hM hS hl J
  · refine sw_at c_39 ?_
    refine lv_tableIn (tgt := 1496) (off := 1457) hx hb dL_law_39 (by decide) (by decide) (by decide) (by decide) ?_
    exact law_26 S hk hL hL2 hG hM hS hl J
  · refine sw_at c_39 ?_
    refine lv_tableIn (tgt := 1552) (off := 1513) hx hb dL_law_39 (by decide) (by decide) (by decide) (by decide) ?_
    exact law_27 S hk hL hL2 hG hM hS hl J
  · refine sw_at c_39 ?_
    refine lv_tableIn (tgt := 1596) (off := 1557) hx hb dL_law_39 (by decide) (by decide) (by decide) (by decide) ?_
    exact law_28 S hk hL hL2 hG hM hS hl J
  · refine sw_at c_39 ?_
    refine lv_tableIn (tgt := 1609) (off := 1570) hx hb dL_law_39 (by decide) (by decide) (by decide) (by decide) ?_
    exact law_29 S hk hL hL2 hG hM hS hl J
  · refine sw_at c_39 ?_
    refine lv_tableIn (tgt := 1622) (off := 1583) hx hb dL_law_39 (by decide) (by decide) (by decide) (by decide) ?_
    exact law_30 S hk hL hL2 hG hM hS hl J
  · refine sw_at c_39 ?_
    refine lv_tableIn (tgt := 1635) (off := 1596) hx hb dL_law_39 (by decide) (by decide) (by decide) (by decide) ?_
    exact law_31 S hk hL hL2 hG hM hS hl J
  · refine sw_at c_39 ?_
    refine lv_tableIn (tgt := 1648) (off := 1609) hx hb dL_law_39 (by decide) (by decide) (by decide) (by decide) ?_
    exact law_32 S hk hL hL2 hG hM hS hl J
  · refine sw_at c_39 ?_
    refine lv_tableIn (tgt := 1732) (off := 1693) hx hb dL_law_39 (by decide) (by decide) (by decide) (by decide) ?_
    exact law_33 S hk hL hL2 hG hM hS hl J
  · refine sw_at c_39 ?_
    refine lv_tableIn (tgt := 1803) (off := 1764) hx hb dL_law_39 (by decide) (by decide) (by decide) (by decide) ?_
    exact law_34 S hk hL hL2 hG hM hS hl J
  · refine sw_at c_39 ?_
    refine lv_tableIn (tgt := 1844) (off := 1805) hx hb dL_law_39 (by decide) (by decide) (by decide) (by decide) ?_
    exact law_35 S hk hL hL2 hG hM hS hl J
  · refine lv_tableOut (tgt := 1885) hx hb dL_law_39 (sw_out (by omega) c_39) (by decide) ?_
    exact W.widen (by omega) (by omega) (J M u _ _ ls hG.next hM hS hl)
set_option maxHeartbeats 4000000 in
set_option maxRecDepth 100000 in
theorem law_loop {p : Program} {l : Launch} {e : Env} {s : State} {m : MethodId} {below : List Frame} {meth : Method} {c : Code} {Q : State → Prop} {D : va_G} {cI cJ : ClassId} {A : Nat → Prop} {sb L xo mo out : Nat} {xs : Nat → Int32} (S : LSt p l s m c D cI cJ A sb L xs) (hL2 : L ≤ 2048) (hend : ∀ (cells slots : Nat) (H : Heap) (locs : List Loc) (ls : Array Slot), cells ≤ 601024 → slots ≤ 7293034 → va_S A s.heap H locs → W p l e room_1 s m #[Value.ref sb] below meth c H locs cells slots Q (F0 m 1891 ls [])) : ∀ (n k : Nat) (M : MP) (u : Nat) (H : Heap) (locs : List Loc) (ls : Array Slot), k + n = 513 → k ≤ 512 → GI cI cJ A sb L xs xo mo out k M u → HM D M H → va_S A s.heap H locs → lv_has ls 9 [(4, .int (nI (4 * k))), (3, .ref out), (2, .ref mo), (1, .ref xo), (0, .ref sb)] → W p l e room_1 s m #[Value.ref sb] below meth c H locs (20 + 6 * k) (8000 + 100 * k + u) Q (F0 m 23 ls []) := by
  intro n
  induction n with
  | zero => intro k M u H locs ls h1 h2; omega
  | succ n ih =>
    intro k M u H locs ls h1 h2 hG hM hS hl
    obtain ⟨hx, hb, hml, hown, hts, hK, hX, hl9, hAs, hXs, hbl, hbA⟩ := id S
    have hu9 := hG.u_le
    refine lv_iload hx hb dL_law_23 (lv_at hl 0 rfl) ?_
    refine lv_aload_n hx hb dL_law_25 rfl (lv_at hl 4 rfl) ?_
    refine va_slen hx hb hXs hbl hbA hS dL_law_26 ?_
    refine lv_iconst (v := nI 4) hx hb dL_law_27 (by decide) ?_
    refine lv_isub hx hb dL_law_28 ?_
    refine lv_icmp_gt (tgt := 1891) hx hb dL_law_29 (by decide) (fun hc => ?_) (fun hc => ?_)
    · exact hend _ _ _ _ ls (by omega) (by omega) hS
    · have hc2 : ¬ L < 4 * k + 4 := fun z => hc ((lim_ix hL2 h2).mpr z)
      refine law_body S (by omega) (by omega) hL2 hG hM hS hl (fun M2 u2 H2 locs2 ls2 hG2 hM2 hS2 hl2 => ?_)
      refine lv_iinc (v := nI (4 * (k + 1))) (lv' := [(4, .int (nI (4 * (k + 1)))), (3, .ref out), (2, .ref mo), (1, .ref xo), (0, .ref sb)]) hx hb dL_law_1885 hl2 (k := 0) rfl (by rw [show Int32.ofInt 4 = nI 4 from by decide, nI_add]; rfl) (by decide) rfl (fun ls hl => ?_)
      refine lv_goto (tgt := 23) hx hb dL_law_1888 (by decide) ?_
      exact ih (k + 1) M2 u2 H2 locs2 ls (by omega) (by omega) hG2 hM2 hS2 hl
