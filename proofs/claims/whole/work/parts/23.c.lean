set_option maxHeartbeats 2000000 in
theorem semh_countSequences (l : Launch) {D : va_G} {cI cJ : ClassId} {A : Nat → Prop} {b L : Nat} {xs : Nat → Int32} {xo mo out : Nat} (hl9 : l.stackTraces = false) (y : Int32) : SemH (α := Int32) .int (fun r => r.toInt64.toBitVec) l D cI cJ A b L xs xo mo out yL_countSequences cL_countSequences 4 [(0, 9, 12, 15)] yX4_countSequences cX4_countSequences 4 (some .int) [.int y, .ref out] [.int y] := by
  intro k M u sz hk hAn hg
  obtain ⟨tr, tk, tp, cn, N, su, pa, po, okk, pt, K, pp, w, bk, wa, ca, qu, ve, ro, no, fi, se, t3, le, od, th, oc, nr, rwv, f, hG, hP, hN, hu⟩ := hg
  have hC := hG.1
  have hb := hG.2.2.1
  have hxo := hC.1
  obtain ⟨⟨g1, g2, g3, lf, ⟨hmo, hro, hno, hfi, hse, ht3, hle, hap⟩, hL⟩, hAm, hn1, hn2, hn3⟩ := hG.2.1
  obtain ⟨⟨hcn, hq0, hc0, hc8⟩, ⟨hPo, ⟨hq, hq2⟩, hcap⟩, ⟨hoc, hve⟩, hset, hply⟩ := id hP
  obtain ⟨hr, hku, hO, hNr⟩ := id hPo
  have hpg : M (pa cn) = some (.inr (0, [.ref (po cn), pgV pa cn, .int (nI cn), afV pa N cn, .int (nI (ca cn)), .int (nI (qu cn)), .int (nI (ve cn))])) := hC.2.1.1 cn hcn
  obtain ⟨hpo, hokk, hpt⟩ := id (hC.2.1.2.1 cn hcn)
  have hA_mo := hAm mo (Or.inl rfl)
  have hA_fi := hAm fi (Or.inr (Or.inr (Or.inr (Or.inl rfl))))
  have hA_no := hAm no (Or.inr (Or.inr (Or.inl rfl)))
  have hw := hPo.wfr
  have hW := hPo.wfpt
  have hve2 : ve cn < 2 ^ 31 := by omega
  have hoc2 : oc < 2 ^ 31 := by omega
  obtain ⟨ob, hout⟩ := hG.2.2.2.2.1
  have hA_out := hG.2.2.2.2.2
  have hom : out ≠ mo := fun z => (hG.2.2.ref hG.2.1).2 (Or.inl (Or.inl z))
  have hon : out ≠ no := fun z => (hG.2.2.ref hG.2.1).2 (Or.inl (Or.inr (Or.inr (Or.inl z))))
  have hof : out ≠ fi := fun z => (hG.2.2.ref hG.2.1).2 (Or.inl (Or.inr (Or.inr (Or.inr (Or.inl z)))))
  have hos : out ≠ se := fun z => (hG.2.2.ref hG.2.1).2 (Or.inl (Or.inr (Or.inr (Or.inr (Or.inr (Or.inl z))))))
  have hot : out ≠ t3 := fun z => (hG.2.2.ref hG.2.1).2 (Or.inl (Or.inr (Or.inr (Or.inr (Or.inr (Or.inr z))))))
  obtain ⟨TK, TP, tw, tb, ta, htr, htok, htpt⟩ := id hC.2.2.1
  have hA_tr := hC.2.2.2.2 tr (Or.inr (Or.inl rfl))
  have hA_tk := hC.2.2.2.2 tk (Or.inr (Or.inr (Or.inl rfl)))
  have hA_tp := hC.2.2.2.2 tp (Or.inr (Or.inr (Or.inr rfl)))
  have hA_se := hAm se (Or.inr (Or.inr (Or.inr (Or.inr (Or.inl rfl)))))
  have hA_t3 := hAm t3 (Or.inr (Or.inr (Or.inr (Or.inr (Or.inr rfl)))))
  have htr0 : out ≠ tr := fun z => (hG.2.2.cls hG.1).2 (Or.inr (Or.inl z))
  have htk0 : out ≠ tk := fun z => (hG.2.2.cls hG.1).2 (Or.inr (Or.inr (Or.inl z)))
  have htp0 : out ≠ tp := fun z => (hG.2.2.cls hG.1).2 (Or.inr (Or.inr (Or.inr z)))
  obtain ⟨n1, n2, n3⟩ := hC.2.2.2.1 cn hcn
  cases hy : mIs12 y
  · refine ⟨7, 1, 6, 1, _, by decide, by decide, by decide, by decide, hT_countSequences_1 l xo out y hxo (xet_X3_countSequences_k l hl9 (xo := xo) (y := y) (hby := hy)), fun M1 h1 => ?_⟩
    subst h1
    refine ⟨⟨_, hmo⟩, hb, fun sz1 _ => ⟨7, 0, 0, nI 0, _, by decide, by decide, by decide, met_X4_countSequences_b l (hmo := hmo) (hbx := hy) (hA_mo := hA_mo), fun M2 h2 => ?_⟩⟩
    rw [h2]
    obtain ⟨f1, f2, f3, f4⟩ := (hG.wmo (th' := 1)).fin (l := l) (D := D) hP (k := k) (u := u) (by omega) hu
    exact ⟨f1, f2, f3, f4, ob, mu_g hom hout, fun z => by cases z⟩
  · have hy2 : y = nI 1 ∨ y = nI 2 := by
      unfold mIs12 at hy
      rw [Bool.or_eq_true, decide_eq_true_eq, decide_eq_true_eq] at hy
      exact hy
    rcases Bool.eq_false_or_eq_true su with hsu | hsu
    · obtain ⟨q, hq12, rfl⟩ : ∃ q, (q = 1 ∨ q = 2) ∧ y = nI q := by rcases hy2 with h | h; exact ⟨1, Or.inl rfl, h⟩; exact ⟨2, Or.inr rfl, h⟩
      refine ⟨6, 0, 0, 0, _, by decide, by decide, by decide, by decide, hG_countSequences l xo out (nI q) (ob := ob) hxo (met_X3_countSequences_s l (k := q) (hxo := hxo) (hpg := hpg) (hpo := hpo) (hokk := hokk) (hpt := hpt) (hk := hq12) (hsu := hsu) (hW := hW)) (fun M1 h => by rw [h]; exact hout) hA_out, fun M1 h1 => ?_⟩
      obtain ⟨M0, ob1, h0, h3, h1⟩ := h1
      rw [show M0 = M from h0] at h1
      have hG1 := hG.wout (ob := ob1)
      rw [← h1] at hG1
      have hout1 : M1 out = some (eJ cJ 1 (fun k => bL (ob1 k))) := by rw [h1]; exact mu_s
      obtain ⟨⟨g1, g2, g3, lf, ⟨hmo, hro, hno, hfi, hse, ht3, hle, hap⟩, hL⟩, -⟩ := id hG1.2.1
      refine ⟨⟨_, hmo⟩, hG1.2.2.1, fun sz1 _ => ⟨7, 0, 0, nI 0, _, by decide, by decide, by decide, met_X4_countSequences_s l (k := q) (hmo := hmo) (hk := hq12) (hsu := hsu) (hA_mo := hA_mo), fun M2 h2 => ?_⟩⟩
      rw [h2]
      obtain ⟨f1, f2, f3, f4⟩ := (hG1.wmo (th' := 0)).fin (l := l) (D := D) hP (k := k) (u := u) (by omega) hu
      exact ⟨f1, f2, f3, f4, ob1, mu_g hom hout1, fun _ => h3⟩
    · rcases hy2 with rfl | rfl
      · refine ⟨6, 0, 0, 0, _, by decide, by decide, by decide, by decide, hG_countSequences l xo out (nI 1) (ob := ob) hxo (met_X3_countSequences_1 l (hxo := hxo) (hpg := hpg) (hpo := hpo) (hokk := hokk) (hpt := hpt) (hsu := hsu) (hW := hW)) (fun M1 h => by rw [h]; exact hout) hA_out, fun M1 h1 => ?_⟩
        obtain ⟨M0, ob1, h0, h3, h1⟩ := h1
        rw [show M0 = M from h0] at h1
        have hG1 := hG.wout (ob := ob1)
        rw [← h1] at hG1
        have hout1 : M1 out = some (eJ cJ 1 (fun k => bL (ob1 k))) := by rw [h1]; exact mu_s
        obtain ⟨⟨g1, g2, g3, lf, ⟨hmo, hro, hno, hfi, hse, ht3, hle, hap⟩, hL⟩, -⟩ := id hG1.2.1
        have eq : kCnt (K cn) (pp cn) (w cn) (bk cn) (wa cn) = mMoves f := r_cnt hr hku hO hNr
        refine ⟨⟨_, hmo⟩, hG1.2.2.1, fun sz1 _ => ⟨7, 0, 0, nI (kCnt (K cn) (pp cn) (w cn) (bk cn) (wa cn)), _, by decide, by decide, by decide, by rw [eq]; exact met_X4_countSequences_1 l (hmo := hmo) (hno := hno) (hfi := hfi) (hle := hle) (hsu := hsu) (hP := hw.1) (hB := hw.2.1) (hs := hw.2.2) (hL := hL) (hnf := hap.2.1.1) (hlf := hap.2.2.1.2.2.symm) (hA_mo := hA_mo) (hA_fi := hA_fi), fun M2 h2 => ?_⟩⟩
        obtain ⟨g4, h2⟩ := h2
        rw [h2]
        obtain ⟨f1, f2, f3, f4⟩ := ((hG1.wmo (th' := 0)).wfi).fin (l := l) (D := D) hP (k := k) (u := u) (by omega) hu
        exact ⟨f1, f2, f3, f4, ob1, mu_g hof (mu_g hom hout1), fun _ => h3⟩
      · refine ⟨7, 0, 0, 0, _, by decide, by decide, by decide, by decide, hG_countSequences l xo out (nI 2) (ob := ob) hxo (met_X3_countSequences_2 l (hxo := hxo) (hpg := hpg) (hpo := hpo) (hokk := hokk) (hpt := hpt) (htr := htr) (htok := htok) (htpt := htpt) (hsu := hsu) (hW := hW) (hKd := hPo.wfk) (htp := n1) (hto := n2) (htq := n3) (hA_tr := hA_tr) (hA_tok := hA_tk) (hA_tpt := hA_tp)) (fun M1 h => by obtain ⟨a1, a2, a3, a4, a5, h⟩ := h; rw [h]; exact mu_g htp0 (mu_g htk0 (mu_g htr0 hout))) hA_out, fun M1 h1 => ?_⟩
        obtain ⟨M0, ob1, h0, h3, h1⟩ := h1
        obtain ⟨a1, a2, a3, a4, a5, h0⟩ := h0
        rw [h0] at h1
        have hG1 := (hG.wtr (TK := a1) (TP := a2) (tw := a3) (tb := a4) (ta := a5)).wout (ob := ob1)
        rw [← h1] at hG1
        have hout1 : M1 out = some (eJ cJ 1 (fun k => bL (ob1 k))) := by rw [h1]; exact mu_s
        obtain ⟨⟨g1, g2, g3, lf, ⟨hmo, hro, hno, hfi, hse, ht3, hle, hap⟩, hL⟩, -⟩ := id hG1.2.1
        have eq : kPairs (K cn) (pp cn) (w cn) (bk cn) (wa cn) = mSeqs f := r_pairs hr hku hO hNr
        refine ⟨⟨_, hmo⟩, hG1.2.2.1, fun sz1 _ => ⟨7, 0, 0, nI (kPairs (K cn) (pp cn) (w cn) (bk cn) (wa cn)), _, by decide, by decide, by decide, by rw [eq]; exact met_X4_countSequences_2 l (g := g1) (hmo := hmo) (hno := hno) (hse := hse) (ht3 := ht3) (hle := hle) (hsu := hsu) (hP := hw.1) (hB := hw.2.1) (hs := hw.2.2) (hL := hL) (hap := hap) (hA_mo := hA_mo) (hA_se := hA_se) (hA_t3 := hA_t3), fun M2 h2 => ?_⟩⟩
        obtain ⟨g4, g5, h2⟩ := h2
        rw [h2]
        obtain ⟨f1, f2, f3, f4⟩ := ((hG1.wmo (th' := 0)).wse.wt3).fin (l := l) (D := D) hP (k := k) (u := u) (by omega) hu
        exact ⟨f1, f2, f3, f4, ob1, mu_g hot (mu_g hos (mu_g hom hout1)), fun _ => h3⟩
set_option maxHeartbeats 2000000 in
theorem semh_capturedCount (l : Launch) {D : va_G} {cI cJ : ClassId} {A : Nat → Prop} {b L : Nat} {xs : Nat → Int32} {xo mo out : Nat} (hl9 : l.stackTraces = false) (y : Int32) (d : Bool) : SemH (α := Int32) .int (fun r => r.toInt64.toBitVec) l D cI cJ A b L xs xo mo out yL_capturedCount cL_capturedCount 5 [(0, 10, 13, 15)] yX4_capturedCount cX4_capturedCount 3 (some .int) [.int y, .int (bI d), .ref out] [.int y, .int (bI d)] := by
  intro k M u sz hk hAn hg
  obtain ⟨tr, tk, tp, cn, N, su, pa, po, okk, pt, K, pp, w, bk, wa, ca, qu, ve, ro, no, fi, se, t3, le, od, th, oc, nr, rwv, f, hG, hP, hN, hu⟩ := hg
  have hC := hG.1
  have hb := hG.2.2.1
  have hxo := hC.1
  obtain ⟨⟨g1, g2, g3, lf, ⟨hmo, hro, hno, hfi, hse, ht3, hle, hap⟩, hL⟩, hAm, hn1, hn2, hn3⟩ := hG.2.1
  obtain ⟨⟨hcn, hq0, hc0, hc8⟩, ⟨hPo, ⟨hq, hq2⟩, hcap⟩, ⟨hoc, hve⟩, hset, hply⟩ := id hP
  obtain ⟨hr, hku, hO, hNr⟩ := id hPo
  have hpg : M (pa cn) = some (.inr (0, [.ref (po cn), pgV pa cn, .int (nI cn), afV pa N cn, .int (nI (ca cn)), .int (nI (qu cn)), .int (nI (ve cn))])) := hC.2.1.1 cn hcn
  obtain ⟨hpo, hokk, hpt⟩ := id (hC.2.1.2.1 cn hcn)
  have hA_mo := hAm mo (Or.inl rfl)
  have hA_fi := hAm fi (Or.inr (Or.inr (Or.inr (Or.inl rfl))))
  have hA_no := hAm no (Or.inr (Or.inr (Or.inl rfl)))
  have hw := hPo.wfr
  have hW := hPo.wfpt
  have hve2 : ve cn < 2 ^ 31 := by omega
  have hoc2 : oc < 2 ^ 31 := by omega
  obtain ⟨ob, hout⟩ := hG.2.2.2.2.1
  have hA_out := hG.2.2.2.2.2
  have hom : out ≠ mo := fun z => (hG.2.2.ref hG.2.1).2 (Or.inl (Or.inl z))
  have hon : out ≠ no := fun z => (hG.2.2.ref hG.2.1).2 (Or.inl (Or.inr (Or.inr (Or.inl z))))
  have hof : out ≠ fi := fun z => (hG.2.2.ref hG.2.1).2 (Or.inl (Or.inr (Or.inr (Or.inr (Or.inl z)))))
  have hos : out ≠ se := fun z => (hG.2.2.ref hG.2.1).2 (Or.inl (Or.inr (Or.inr (Or.inr (Or.inr (Or.inl z))))))
  have hot : out ≠ t3 := fun z => (hG.2.2.ref hG.2.1).2 (Or.inl (Or.inr (Or.inr (Or.inr (Or.inr (Or.inr z))))))
  rcases kd_cases y with hy | ⟨q, k1, k6, rfl⟩
  · refine ⟨8, 1, 6, 1, _, by decide, by decide, by decide, by decide, hT_capturedCount_1 l xo out y (bI d) hxo (xet_X3_capturedCount_k l hl9 (xo := xo) (y := y) (b := d) (hby := hy)), fun M1 h1 => ?_⟩
    subst h1
    refine ⟨⟨_, hmo⟩, hb, fun sz1 _ => ⟨1, 0, 0, nI 0, _, by decide, by decide, by decide, met_X4_capturedCount_b l (b := d) (hmo := hmo) (hy := hy) (hA_mo := hA_mo), fun M2 h2 => ?_⟩⟩
    rw [h2]
    obtain ⟨f1, f2, f3, f4⟩ := (hG.wmo (th' := 1)).fin (l := l) (D := D) hP (k := k) (u := u) (by omega) hu
    exact ⟨f1, f2, f3, f4, ob, mu_g hom hout, fun z => by cases z⟩
  · refine ⟨3, 0, 0, 0, _, by decide, by decide, by decide, by decide, hG_capturedCount l xo out (nI q) (bI d) (ob := ob) hxo (met_X3_capturedCount l (k := q) (b := d) (hxo := hxo) (hPs := hC.2.1) (hcn := hcn) (hN := by omega) (hk1 := k1) (hk6 := k6) (hca := hc8)) (fun M1 h => by rw [h]; exact hout) hA_out, fun M1 h1 => ?_⟩
    obtain ⟨M0, ob1, h0, h3, h1⟩ := h1
    rw [show M0 = M from h0] at h1
    have hG1 := hG.wout (ob := ob1)
    rw [← h1] at hG1
    have hout1 : M1 out = some (eJ cJ 1 (fun k => bL (ob1 k))) := by rw [h1]; exact mu_s
    obtain ⟨⟨g1, g2, g3, lf, ⟨hmo, hro, hno, hfi, hse, ht3, hle, hap⟩, hL⟩, -⟩ := id hG1.2.1
    have eq : nI (kCap ca wa q d cn) = f (130 + sdN d + q) := (hcap q d k1 k6).symm
    refine ⟨⟨_, hmo⟩, hG1.2.2.1, fun sz1 _ => ⟨1, 0, 0, nI (kCap ca wa q d cn), _, by decide, by decide, by decide, by rw [eq]; exact met_X4_capturedCount l (k := q) (b := d) (hmo := hmo) (hno := hno) (hA_mo := hA_mo) (hk1 := k1) (hk6 := k6), fun M2 h2 => ?_⟩⟩
    rw [h2]
    obtain ⟨f1, f2, f3, f4⟩ := (hG1.wmo (th' := 0)).fin (l := l) (D := D) hP (k := k) (u := u) (by omega) hu
    exact ⟨f1, f2, f3, f4, ob1, mu_g hom hout1, fun _ => h3⟩
set_option maxHeartbeats 2000000 in
theorem semh_place (l : Launch) {D : va_G} {cI cJ : ClassId} {A : Nat → Prop} {b L : Nat} {xs : Nat → Int32} {xo mo out : Nat} (hl9 : l.stackTraces = false) (x y : Int32) (d : Bool) : SemH (α := Int32) .int (fun r => r.toInt64.toBitVec) l D cI cJ A b L xs xo mo out yL_place cL_place 6 [(0, 12, 15, 13), (0, 12, 19, 15), (0, 12, 23, 17)] yX4_place cX4_place 6 (some .int) [.int x, .int y, .int (bI d), .ref out] [.int x, .int y, .int (bI d)] := by
  intro k M u sz hk hAn hg
  obtain ⟨tr, tk, tp, cn, N, su, pa, po, okk, pt, K, pp, w, bk, wa, ca, qu, ve, ro, no, fi, se, t3, le, od, th, oc, nr, rwv, f, hG, hP, hN, hu⟩ := hg
  have hC := hG.1
  have hb := hG.2.2.1
  have hxo := hC.1
  obtain ⟨⟨g1, g2, g3, lf, ⟨hmo, hro, hno, hfi, hse, ht3, hle, hap⟩, hL⟩, hAm, hn1, hn2, hn3⟩ := hG.2.1
  obtain ⟨⟨hcn, hq0, hc0, hc8⟩, ⟨hPo, ⟨hq, hq2⟩, hcap⟩, ⟨hoc, hve⟩, hset, hply⟩ := id hP
  obtain ⟨hr, hku, hO, hNr⟩ := id hPo
  have hpg : M (pa cn) = some (.inr (0, [.ref (po cn), pgV pa cn, .int (nI cn), afV pa N cn, .int (nI (ca cn)), .int (nI (qu cn)), .int (nI (ve cn))])) := hC.2.1.1 cn hcn
  obtain ⟨hpo, hokk, hpt⟩ := id (hC.2.1.2.1 cn hcn)
  have hA_mo := hAm mo (Or.inl rfl)
  have hA_fi := hAm fi (Or.inr (Or.inr (Or.inr (Or.inl rfl))))
  have hA_no := hAm no (Or.inr (Or.inr (Or.inl rfl)))
  have hw := hPo.wfr
  have hW := hPo.wfpt
  have hve2 : ve cn < 2 ^ 31 := by omega
  have hoc2 : oc < 2 ^ 31 := by omega
  obtain ⟨ob, hout⟩ := hG.2.2.2.2.1
  have hA_out := hG.2.2.2.2.2
  have hom : out ≠ mo := fun z => (hG.2.2.ref hG.2.1).2 (Or.inl (Or.inl z))
  have hon : out ≠ no := fun z => (hG.2.2.ref hG.2.1).2 (Or.inl (Or.inr (Or.inr (Or.inl z))))
  have hof : out ≠ fi := fun z => (hG.2.2.ref hG.2.1).2 (Or.inl (Or.inr (Or.inr (Or.inr (Or.inl z)))))
  have hos : out ≠ se := fun z => (hG.2.2.ref hG.2.1).2 (Or.inl (Or.inr (Or.inr (Or.inr (Or.inr (Or.inl z))))))
  have hot : out ≠ t3 := fun z => (hG.2.2.ref hG.2.1).2 (Or.inl (Or.inr (Or.inr (Or.inr (Or.inr (Or.inr z))))))
  rcases sq_cases x with hx | ⟨j, hj, rfl⟩
  · refine ⟨8, 1, 6, 1, _, by decide, by decide, by decide, by decide, hT_place_1 l xo out x y (bI d) hxo (xet_X3_place_x l hl9 (xo := xo) (y := y) (b := d) (hbx := hx)), fun M1 h1 => ?_⟩
    subst h1
    refine ⟨⟨_, hmo⟩, hb, fun sz1 _ => ⟨2, 0, 0, nI 0, _, by decide, by decide, by decide, met_X4_place_b l (y := y) (b := d) (hmo := hmo) (hbx := hx) (hA_mo := hA_mo), fun M2 h2 => ?_⟩⟩
    rw [h2]
    obtain ⟨f1, f2, f3, f4⟩ := (hG.wmo (th' := 1)).fin (l := l) (D := D) hP (k := k) (u := u) (by omega) hu
    exact ⟨f1, f2, f3, f4, ob, mu_g hom hout, fun z => by cases z⟩
  rcases kd_cases y with hy | ⟨q, k1, k6, rfl⟩
  · refine ⟨8, 1, 6, 2, _, by decide, by decide, by decide, by decide, hT_place_2 l xo out (nI j) y (bI d) hxo (xet_X3_place_k l hl9 (xo := xo) (j := j) (b := d) (hj := hj) (hby := hy)), fun M1 h1 => ?_⟩
    subst h1
    refine ⟨⟨_, hmo⟩, hb, fun sz1 _ => ⟨2, 0, 0, nI 0, _, by decide, by decide, by decide, met_X4_place_k l (j := j) (b := d) (hmo := hmo) (hj := hj) (hy := hy) (hA_mo := hA_mo), fun M2 h2 => ?_⟩⟩
    rw [h2]
    obtain ⟨f1, f2, f3, f4⟩ := (hG.wmo (th' := 2)).fin (l := l) (D := D) hP (k := k) (u := u) (by omega) hu
    exact ⟨f1, f2, f3, f4, ob, mu_g hom hout, fun z => by cases z⟩
  rcases Bool.eq_false_or_eq_true su with hsu | hsu
  · cases hrm : kRoom (K cn) (w cn) (bk cn) j q d
    · have hok : mPlcOk su f j q d = false := by unfold mPlcOk; rw [hsu, ← r_room hr hku hj d, hrm]; rfl
      refine ⟨7, 1, 6, 3, _, by decide, by decide, by decide, by decide, hT_place_3 l xo out (nI j) (nI q) (bI d) hxo (xet_X3_place_r l hl9 (j := j) (k := q) (b := d) (hxo := hxo) (hpg := hpg) (hpo := hpo) (hokk := hokk) (hj := hj) (hk1 := k1) (hk6 := k6) (hsu := hsu) (hrm := hrm)), fun M1 h1 => ?_⟩
      subst h1
      refine ⟨⟨_, hmo⟩, hb, fun sz1 _ => ⟨2, 0, 0, nI (mPlcV su f j q d), _, by decide, by decide, by decide, met_X4_place l (j := j) (k := q) (b := d) (hmo := hmo) (hno := hno) (hA_mo := hA_mo) (hj := hj) (hk1 := k1) (hk6 := k6) (hA_no := hA_no), fun M2 h2 => ?_⟩⟩
      rw [h2]
      rw [show mPlcT su f j q d = 3 from by unfold mPlcT; rw [hok]; rfl, show mPlcN su f j q d = f from by unfold mPlcN; rw [hok]; rfl]
      obtain ⟨f1, f2, f3, f4⟩ := ((hG.wmo (th' := 3)).wno).fin (l := l) (D := D) hP (k := k) (u := u) (by omega) hu
      exact ⟨f1, f2, f3, f4, ob, mu_g hon (mu_g hom hout), fun z => by cases z⟩
    · subst hsu
      have hrm2 := hrm
      rw [r_room hr hku hj d] at hrm2
      have hok : mPlcOk true f j q d = true := by unfold mPlcOk; rw [hrm2]; rfl
      have hz : f j = 0 := by
        rw [Bool.and_eq_true, decide_eq_true_eq] at hrm2; exact hrm2.1
      have hsec : mSec f q d = false := by
        rw [Bool.and_eq_true, Bool.and_eq_true, Bool.not_eq_true'] at hrm2; exact hrm2.2.1
      have hA_po := hC.2.2.2.2 _ (Or.inl (Or.inr ⟨cn, hcn, Or.inr (Or.inl rfl)⟩))
      have hA_ok := hC.2.2.2.2 _ (Or.inl (Or.inr ⟨cn, hcn, Or.inr (Or.inr (Or.inl rfl))⟩))
      have hp0 : out ≠ po cn := fun z => (hG.2.2.cls hG.1).2 (Or.inl (Or.inr ⟨cn, hcn, Or.inr (Or.inl z)⟩))
      have hk0 : out ≠ okk cn := fun z => (hG.2.2.cls hG.1).2 (Or.inl (Or.inr ⟨cn, hcn, Or.inr (Or.inr (Or.inl z))⟩))
      have hP1 := ps_place (d := d) hP hj k1 k6 hz hsec
      have hv : nI (pcnt (kPtW (w cn) j d ||| kPtW (bk cn) j (!d))) = nI (mPlcV true f j q d) := by
        unfold mPlcV; rw [hok, if_pos rfl, r_pieces (r_plc hr hj k1 k6 d hz)]
      refine ⟨4, 0, 0, 0, _, by decide, by decide, by decide, by decide, hG_place l xo out (nI j) (nI q) (bI d) (ob := ob) hxo (met_X3_place l (j := j) (k := q) (b := d) (hxo := hxo) (hpg := hpg) (hpo := hpo) (hokk := hokk) (hj := hj) (hk1 := k1) (hk6 := k6) (hsu := rfl) (hrm := hrm) (hA_po := hA_po) (hA_okk := hA_ok)) (fun M1 h => by rw [h]; exact mu_g hk0 (mu_g hp0 hout)) hA_out, fun M1 h1 => ?_⟩
      obtain ⟨M0, ob1, h0, h3, h1⟩ := h1
      rw [h0] at h1
      have hG1 := (hG.plc hcn (K1 := kPut (K cn) q j) (w1 := kPtW (w cn) j d) (b1 := kPtW (bk cn) j (!d))).wout (ob := ob1)
      rw [← h1] at hG1
      have hout1 : M1 out = some (eJ cJ 1 (fun k => bL (ob1 k))) := by rw [h1]; exact mu_s
      obtain ⟨⟨g1, g2, g3, lf, ⟨hmo, hro, hno, hfi, hse, ht3, hle, hap⟩, hL⟩, -⟩ := id hG1.2.1
      refine ⟨⟨_, hmo⟩, hG1.2.2.1, fun sz1 _ => ⟨2, 0, 0, nI (pcnt (kPtW (w cn) j d ||| kPtW (bk cn) j (!d))), _, by decide, by decide, by decide, by rw [hv]; exact met_X4_place l (j := j) (k := q) (b := d) (hmo := hmo) (hno := hno) (hj := hj) (hk1 := k1) (hk6 := k6) (hA_mo := hA_mo) (hA_no := hA_no), fun M2 h2 => ?_⟩⟩
      rw [show mPlcT true f j q d = 0 from by unfold mPlcT; rw [hok]; rfl, show mPlcN true f j q d = mPlc f j q d from by unfold mPlcN; rw [hok]; rfl] at h2
      rw [h2]
      obtain ⟨f1, f2, f3, f4⟩ := ((hG1.wmo (th' := 0)).wno (g := mPlc f j q d)).fin (l := l) (D := D) hP1 (k := k) (u := u) (by omega) hu
      exact ⟨f1, f2, f3, f4, ob1, mu_g hon (mu_g hom hout1), fun _ => h3⟩
  · have hok : mPlcOk su f j q d = false := by unfold mPlcOk; rw [hsu]; rfl
    refine ⟨7, 1, 6, 3, _, by decide, by decide, by decide, by decide, hT_place_3 l xo out (nI j) (nI q) (bI d) hxo (xet_X3_place_s l hl9 (j := j) (k := q) (b := d) (hxo := hxo) (hpg := hpg) (hpo := hpo) (hokk := hokk) (hj := hj) (hk1 := k1) (hk6 := k6) (hsu := hsu)), fun M1 h1 => ?_⟩
    subst h1
    refine ⟨⟨_, hmo⟩, hb, fun sz1 _ => ⟨2, 0, 0, nI (mPlcV su f j q d), _, by decide, by decide, by decide, met_X4_place l (j := j) (k := q) (b := d) (hmo := hmo) (hno := hno) (hA_mo := hA_mo) (hj := hj) (hk1 := k1) (hk6 := k6) (hA_no := hA_no), fun M2 h2 => ?_⟩⟩
    rw [h2]
    rw [show mPlcT su f j q d = 3 from by unfold mPlcT; rw [hok]; rfl, show mPlcN su f j q d = f from by unfold mPlcN; rw [hok]; rfl]
    obtain ⟨f1, f2, f3, f4⟩ := ((hG.wmo (th' := 3)).wno).fin (l := l) (D := D) hP (k := k) (u := u) (by omega) hu
    exact ⟨f1, f2, f3, f4, ob, mu_g hon (mu_g hom hout), fun z => by cases z⟩
set_option maxHeartbeats 2000000 in
theorem semh_remove (l : Launch) {D : va_G} {cI cJ : ClassId} {A : Nat → Prop} {b L : Nat} {xs : Nat → Int32} {xo mo out : Nat} (hl9 : l.stackTraces = false) (x : Int32) : SemH (α := Int32) .int (fun r => r.toInt64.toBitVec) l D cI cJ A b L xs xo mo out yL_remove cL_remove 4 [(0, 9, 12, 13), (0, 9, 15, 17)] yX4_remove cX4_remove 3 (some .int) [.int x, .ref out] [.int x] := by
  intro k M u sz hk hAn hg
  obtain ⟨tr, tk, tp, cn, N, su, pa, po, okk, pt, K, pp, w, bk, wa, ca, qu, ve, ro, no, fi, se, t3, le, od, th, oc, nr, rwv, f, hG, hP, hN, hu⟩ := hg
  have hC := hG.1
  have hb := hG.2.2.1
  have hxo := hC.1
  obtain ⟨⟨g1, g2, g3, lf, ⟨hmo, hro, hno, hfi, hse, ht3, hle, hap⟩, hL⟩, hAm, hn1, hn2, hn3⟩ := hG.2.1
  obtain ⟨⟨hcn, hq0, hc0, hc8⟩, ⟨hPo, ⟨hq, hq2⟩, hcap⟩, ⟨hoc, hve⟩, hset, hply⟩ := id hP
  obtain ⟨hr, hku, hO, hNr⟩ := id hPo
  have hpg : M (pa cn) = some (.inr (0, [.ref (po cn), pgV pa cn, .int (nI cn), afV pa N cn, .int (nI (ca cn)), .int (nI (qu cn)), .int (nI (ve cn))])) := hC.2.1.1 cn hcn
  obtain ⟨hpo, hokk, hpt⟩ := id (hC.2.1.2.1 cn hcn)
  have hA_mo := hAm mo (Or.inl rfl)
  have hA_fi := hAm fi (Or.inr (Or.inr (Or.inr (Or.inl rfl))))
  have hA_no := hAm no (Or.inr (Or.inr (Or.inl rfl)))
  have hw := hPo.wfr
  have hW := hPo.wfpt
  have hve2 : ve cn < 2 ^ 31 := by omega
  have hoc2 : oc < 2 ^ 31 := by omega
  obtain ⟨ob, hout⟩ := hG.2.2.2.2.1
  have hA_out := hG.2.2.2.2.2
  have hom : out ≠ mo := fun z => (hG.2.2.ref hG.2.1).2 (Or.inl (Or.inl z))
  have hon : out ≠ no := fun z => (hG.2.2.ref hG.2.1).2 (Or.inl (Or.inr (Or.inr (Or.inl z))))
  have hof : out ≠ fi := fun z => (hG.2.2.ref hG.2.1).2 (Or.inl (Or.inr (Or.inr (Or.inr (Or.inl z)))))
  have hos : out ≠ se := fun z => (hG.2.2.ref hG.2.1).2 (Or.inl (Or.inr (Or.inr (Or.inr (Or.inr (Or.inl z))))))
  have hot : out ≠ t3 := fun z => (hG.2.2.ref hG.2.1).2 (Or.inl (Or.inr (Or.inr (Or.inr (Or.inr (Or.inr z))))))
  rcases sq_cases x with hx | ⟨j, hj, rfl⟩
  · refine ⟨8, 1, 6, 1, _, by decide, by decide, by decide, by decide, hT_remove_1 l xo out x hxo (xet_X3_remove_x l hl9 (xo := xo) (hbx := hx)), fun M1 h1 => ?_⟩
    subst h1
    refine ⟨⟨_, hmo⟩, hb, fun sz1 _ => ⟨1, 0, 0, nI 0, _, by decide, by decide, by decide, met_X4_remove_b l (hmo := hmo) (hbx := hx) (hA_mo := hA_mo), fun M2 h2 => ?_⟩⟩
    rw [h2]
    obtain ⟨f1, f2, f3, f4⟩ := (hG.wmo (th' := 1)).fin (l := l) (D := D) hP (k := k) (u := u) (by omega) hu
    exact ⟨f1, f2, f3, f4, ob, mu_g hom hout, fun z => by cases z⟩
  have hkz : kKind (K cn) j = 0 ↔ f j = 0 := by
    obtain ⟨-, z1, z2, z3⟩ := hr.1 j hj
    rw [r_kKind hr hj, r_zero hr hj]
    omega
  rcases Bool.eq_false_or_eq_true su with hsu | hsu
  · by_cases hkd : kKind (K cn) j = 0
    · have hok : mRemOk su f j = false := by unfold mRemOk; rw [decide_eq_true (hkz.mp hkd), hsu]; rfl
      refine ⟨7, 1, 6, 2, _, by decide, by decide, by decide, by decide, hT_remove_2 l xo out (nI j) hxo (xet_X3_remove_r l hl9 (j := j) (hxo := hxo) (hpg := hpg) (hpo := hpo) (hokk := hokk) (hj := hj) (hsu := hsu) (hkd := hkd)), fun M1 h1 => ?_⟩
      subst h1
      refine ⟨⟨_, hmo⟩, hb, fun sz1 _ => ⟨1, 0, 0, nI (mRemV su f j), _, by decide, by decide, by decide, met_X4_remove l (j := j) (hmo := hmo) (hno := hno) (hA_mo := hA_mo) (hj := hj) (hA_no := hA_no), fun M2 h2 => ?_⟩⟩
      rw [h2]
      rw [show mRemT su f j = 2 from by unfold mRemT; rw [hok]; rfl, show mRemN su f j = f from by unfold mRemN; rw [hok]; rfl]
      obtain ⟨f1, f2, f3, f4⟩ := ((hG.wmo (th' := 2)).wno).fin (l := l) (D := D) hP (k := k) (u := u) (by omega) hu
      exact ⟨f1, f2, f3, f4, ob, mu_g hon (mu_g hom hout), fun z => by cases z⟩
    · subst hsu
      have hok : mRemOk true f j = true := by unfold mRemOk; rw [decide_eq_false (fun z => hkd (hkz.mpr z))]; rfl
      have hA_po := hC.2.2.2.2 _ (Or.inl (Or.inr ⟨cn, hcn, Or.inr (Or.inl rfl)⟩))
      have hA_ok := hC.2.2.2.2 _ (Or.inl (Or.inr ⟨cn, hcn, Or.inr (Or.inr (Or.inl rfl))⟩))
      have hp0 : out ≠ po cn := fun z => (hG.2.2.cls hG.1).2 (Or.inl (Or.inr ⟨cn, hcn, Or.inr (Or.inl z)⟩))
      have hk0 : out ≠ okk cn := fun z => (hG.2.2.cls hG.1).2 (Or.inl (Or.inr ⟨cn, hcn, Or.inr (Or.inr (Or.inl z))⟩))
      have hP1 := ps_remove hP hj
      have hv : nI (kKind (K cn) j) = nI (mRemV true f j) := by
        unfold mRemV; rw [hok, if_pos rfl, r_kKind hr hj, r_kind hr hj]
      refine ⟨3, 0, 0, 0, _, by decide, by decide, by decide, by decide, hG_remove l xo out (nI j) (ob := ob) hxo (met_X3_remove l (j := j) (hxo := hxo) (hpg := hpg) (hpo := hpo) (hokk := hokk) (hj := hj) (hsu := rfl) (hkd := by omega) (hA_po := hA_po) (hA_okk := hA_ok)) (fun M1 h => by rw [h]; exact mu_g hk0 (mu_g hp0 hout)) hA_out, fun M1 h1 => ?_⟩
      obtain ⟨M0, ob1, h0, h3, h1⟩ := h1
      rw [h0] at h1
      have hG1 := (hG.plc hcn (K1 := kLift (K cn) j) (w1 := w cn &&& kNot (kB j)) (b1 := bk cn &&& kNot (kB j))).wout (ob := ob1)
      rw [← h1] at hG1
      have hout1 : M1 out = some (eJ cJ 1 (fun k => bL (ob1 k))) := by rw [h1]; exact mu_s
      obtain ⟨⟨g1, g2, g3, lf, ⟨hmo, hro, hno, hfi, hse, ht3, hle, hap⟩, hL⟩, -⟩ := id hG1.2.1
      refine ⟨⟨_, hmo⟩, hG1.2.2.1, fun sz1 _ => ⟨1, 0, 0, nI (kKind (K cn) j), _, by decide, by decide, by decide, by rw [hv]; exact met_X4_remove l (j := j) (hmo := hmo) (hno := hno) (hj := hj) (hA_mo := hA_mo) (hA_no := hA_no), fun M2 h2 => ?_⟩⟩
      rw [show mRemT true f j = 0 from by unfold mRemT; rw [hok]; rfl, show mRemN true f j = upd f j (nI 0) from by unfold mRemN; rw [hok]; rfl] at h2
      rw [h2]
      obtain ⟨f1, f2, f3, f4⟩ := ((hG1.wmo (th' := 0)).wno (g := upd f j (nI 0))).fin (l := l) (D := D) hP1 (k := k) (u := u) (by omega) hu
      exact ⟨f1, f2, f3, f4, ob1, mu_g hon (mu_g hom hout1), fun _ => h3⟩
  · have hok : mRemOk su f j = false := by unfold mRemOk; rw [hsu]; rfl
    refine ⟨7, 1, 6, 2, _, by decide, by decide, by decide, by decide, hT_remove_2 l xo out (nI j) hxo (xet_X3_remove_s l hl9 (j := j) (hxo := hxo) (hpg := hpg) (hpo := hpo) (hokk := hokk) (hj := hj) (hsu := hsu)), fun M1 h1 => ?_⟩
    subst h1
    refine ⟨⟨_, hmo⟩, hb, fun sz1 _ => ⟨1, 0, 0, nI (mRemV su f j), _, by decide, by decide, by decide, met_X4_remove l (j := j) (hmo := hmo) (hno := hno) (hA_mo := hA_mo) (hj := hj) (hA_no := hA_no), fun M2 h2 => ?_⟩⟩
    rw [h2]
    rw [show mRemT su f j = 2 from by unfold mRemT; rw [hok]; rfl, show mRemN su f j = f from by unfold mRemN; rw [hok]; rfl]
    obtain ⟨f1, f2, f3, f4⟩ := ((hG.wmo (th' := 2)).wno).fin (l := l) (D := D) hP (k := k) (u := u) (by omega) hu
    exact ⟨f1, f2, f3, f4, ob, mu_g hon (mu_g hom hout), fun z => by cases z⟩
