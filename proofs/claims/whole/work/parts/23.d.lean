/-! ===== actions: both games answer alike ===== -/
theorem kp_le {nr a : Nat} (h : nr < 150000) : kpS nr a ≤ 300000 := by unfold kpS; split <;> omega
theorem kc_le (nr a : Nat) : kpC nr a ≤ 1 := by unfold kpC; split <;> omega
theorem tc_le (N cn : Nat) : tC N cn ≤ 5 := by unfold tC; split <;> omega
theorem ts_le (N cn : Nat) : tS N cn ≤ 100 := by unfold tS; split <;> omega
set_option maxHeartbeats 2000000 in
theorem semh_endSetup (l : Launch) {D : va_G} {cI cJ : ClassId} {A : Nat → Prop} {b L : Nat} {xs : Nat → Int32} {xo mo out : Nat} (hl9 : l.stackTraces = false) (d : Bool) : SemH (α := Int32) .int (fun r => r.toInt64.toBitVec) l D cI cJ A b L xs xo mo out yL_endSetup cL_endSetup 4 [(0, 9, 12, 17)] yX4_endSetup cX4_endSetup 3 (some .int) [.int (bI d), .ref out] [.int (bI d)] := by
  intro k M u sz hk hAn hg
  obtain ⟨tr, tk, tp, cn, N, su, pa, po, okk, pt, K, pp, w, bk, wa, ca, qu, ve, ro, no, fi, se, t3, le, od, th, oc, nr, rwv, f, hG, hP, hN, hu⟩ := hg
  have hC := hG.1
  have hb := hG.2.2.1
  have hxo := hC.1
  obtain ⟨⟨g1, g2, g3, lf, ⟨hmo, hro, hno, hfi, hse, ht3, hle, hap⟩, hL⟩, hAm, hn1, hn2, hn3⟩ := hG.2.1
  obtain ⟨⟨hcn, hq0, hc0, hc8⟩, ⟨hPo, ⟨hq, hq2⟩, hcap⟩, ⟨hoc, hve⟩, hset, hply⟩ := id hP
  obtain ⟨hr, hku, hO, hNr⟩ := id hPo
  have hpg : M (pa cn) = some (.inr (0, [.ref (po cn), pgV pa cn, .int (nI cn), afV pa N cn, .int (nI (ca cn)), .int (nI (qu cn)), .int (nI (ve cn))])) := hC.2.1.1 cn hcn
  obtain ⟨hpo, hokk, hpt⟩ := id (hC.2.1.2.1 cn hcn)
  have hA_mo := hAm mo (Or.inl rfl)
  have hA_fi := hAm fi (Or.inr (Or.inr (Or.inr (Or.inl rfl))))
  have hA_no := hAm no (Or.inr (Or.inr (Or.inl rfl)))
  have hw := hPo.wfr
  have hW := hPo.wfpt
  have hve2 : ve cn < 2 ^ 31 := by omega
  have hoc2 : oc < 2 ^ 31 := by omega
  obtain ⟨ob, hout⟩ := hG.2.2.2.2.1
  have hA_out := hG.2.2.2.2.2
  have hom : out ≠ mo := fun z => (hG.2.2.ref hG.2.1).2 (Or.inl (Or.inl z))
  have hon : out ≠ no := fun z => (hG.2.2.ref hG.2.1).2 (Or.inl (Or.inr (Or.inr (Or.inl z))))
  have hof : out ≠ fi := fun z => (hG.2.2.ref hG.2.1).2 (Or.inl (Or.inr (Or.inr (Or.inr (Or.inl z)))))
  have hos : out ≠ se := fun z => (hG.2.2.ref hG.2.1).2 (Or.inl (Or.inr (Or.inr (Or.inr (Or.inr (Or.inl z))))))
  have hot : out ≠ t3 := fun z => (hG.2.2.ref hG.2.1).2 (Or.inl (Or.inr (Or.inr (Or.inr (Or.inr (Or.inr z))))))
  have hbe := r_beg hr hku d
  rcases Bool.eq_false_or_eq_true su with hsu | hsu
  · cases hbg : kBeg (K cn) (w cn) (bk cn) d
    · have hok : mEsOk su f d = false := by unfold mEsOk; rw [hsu, ← hbe, hbg]; rfl
      refine ⟨7, 1, 6, 1, _, by decide, by decide, by decide, by decide, hT_endSetup_1 l xo out (bI d) hxo (xet_X3_endSetup_r l hl9 (b := d) (hxo := hxo) (hpg := hpg) (hpo := hpo) (hokk := hokk) (hsu := hsu) (hbg := hbg)), fun M1 h1 => ?_⟩
      subst h1
      refine ⟨⟨_, hmo⟩, hb, fun sz1 _ => ⟨10, 0, 0, nI 0, _, by decide, by decide, by decide, met_X4_endSetup_b l (b := d) (hmo := hmo) (hno := hno) (hes := hok) (hA_mo := hA_mo), fun M2 h2 => ?_⟩⟩
      rw [h2]
      obtain ⟨f1, f2, f3, f4⟩ := (hG.wmo (th' := 1)).fin (l := l) (D := D) hP (k := k) (u := u) (by omega) hu
      exact ⟨f1, f2, f3, f4, ob, mu_g hom hout, fun z => by cases z⟩
    · subst hsu
      have hok : mEsOk true f d = true := by unfold mEsOk; rw [← hbe, hbg]; rfl
      have hA_ro := hAm ro (Or.inr (Or.inl rfl))
      have hp0 : out ≠ po cn := fun z => (hG.2.2.cls hG.1).2 (Or.inl (Or.inr ⟨cn, hcn, Or.inr (Or.inl z)⟩))
      have hk0 : out ≠ pa cn := fun z => (hG.2.2.cls hG.1).2 (Or.inl (Or.inr ⟨cn, hcn, Or.inl z⟩))
      have hx0 : out ≠ xo := fun z => (hG.2.2.cls hG.1).2 (Or.inl (Or.inl z))
      obtain ⟨hcn0, hoc0, -⟩ := hset rfl
      have hE := ps_end (rw1 := mEsN f d) hP hok (fun _ _ => rfl)
      have hv : nI (kVer K pp w bk (va_up wa cn d) qu cn) = nI (mOutc (mEsN f d) (mEsN f d) 0) := by
        have z := hE.1.2.2.1.1
        rw [up_eq] at z
        rw [z]
      refine ⟨7, 0, 0, 0, _, by decide, by decide, by decide, by decide, hG_endSetup l xo out (bI d) (ob := ob) hxo (met_X3_endSetup l (b := d) (hxo := hxo) (hPs := hC.2.1) (hcn := hcn) (hN := by omega) (hsu := rfl) (hbg := hbg) (hW := hW) (hqu := by omega) (hA_xo := hC.2.2.2.2 _ (Or.inl (Or.inl rfl))) (hA_po_cn := hC.2.2.2.2 _ (Or.inl (Or.inr ⟨cn, hcn, Or.inr (Or.inl rfl)⟩))) (hA_pa_cn := hC.2.2.2.2 _ (Or.inl (Or.inr ⟨cn, hcn, Or.inl rfl⟩)))) (fun M1 h => by rw [h]; exact mu_g hk0 (mu_g hp0 (mu_g hx0 hout))) hA_out, fun M1 h1 => ?_⟩
      obtain ⟨M0, ob1, h0, h3, h1⟩ := h1
      rw [h0] at h1
      have hG1 := (hG.es hcn (d := d) (v := kVer K pp w bk (va_up wa cn d) qu cn)).wout (ob := ob1)
      rw [← h1] at hG1
      have hout1 : M1 out = some (eJ cJ 1 (fun k => bL (ob1 k))) := by rw [h1]; exact mu_s
      obtain ⟨⟨g1, g2, g3, lf, ⟨hmo, hro, hno, hfi, hse, ht3, hle, hap⟩, hL⟩, -⟩ := id hG1.2.1
      refine ⟨⟨_, hmo⟩, hG1.2.2.1, fun sz1 hAn1 => ⟨10, kpC nr 0, kpS nr 0, nI (kVer K pp w bk (va_up wa cn d) qu cn), _, by decide, kc_le _ _, kp_le hn2, by rw [hv]; exact met_X4_endSetup l (g := g1) (g2 := g2) (g3 := g3) (b := d) (hmo := hmo) (hro := hro) (hno := hno) (hfi := hfi) (hse := hse) (ht3 := ht3) (hle := hle) (hP := hw.1) (hB := hw.2.1) (hs := hw.2.2) (hL := hL) (hap := hap) (hes := hok) (h3 := by omega) (hnr := by omega) (hA_mo := hA_mo) (hA_ro := hA_ro) (hA_no := hA_no) (hA_fi := hA_fi) (hAn := hAn1), fun M2 h2 => ?_⟩⟩
      obtain ⟨ro', nr', rw', hG2, hr1, hr2, hks, hkc⟩ := hG1.kept hL (by decide) h2
      have hE2 := ps_end (rw1 := rw') hP hok (fun q hq => by have z := hr2 q hq; rwa [Nat.mul_zero, Nat.zero_add] at z)
      have hkeep : M2 out = some (eJ cJ 1 (fun k => bL (ob1 k))) := by
        obtain ⟨_, _, _, _, _, hkk, -⟩ := h2
        exact hkk _ _ hout1 (fun z => (hG1.2.2.ref hG1.2.1).2 (Or.inl z))
      obtain ⟨hE3, hE4⟩ := hE2
      subst hE4
      obtain ⟨f1, f2, f3, f4⟩ := hG2.fin (l := l) (D := D) hE3 (k := k) (u := u + kpS nr 0) (by omega) (by omega)
      exact ⟨f1, f2, f3, f4, ob1, hkeep, fun _ => h3⟩
  · have hok : mEsOk su f d = false := by unfold mEsOk; rw [hsu]; rfl
    refine ⟨7, 1, 6, 1, _, by decide, by decide, by decide, by decide, hT_endSetup_1 l xo out (bI d) hxo (xet_X3_endSetup_s l hl9 (b := d) (hxo := hxo) (hpg := hpg) (hpo := hpo) (hokk := hokk) (hsu := hsu)), fun M1 h1 => ?_⟩
    subst h1
    refine ⟨⟨_, hmo⟩, hb, fun sz1 _ => ⟨10, 0, 0, nI 0, _, by decide, by decide, by decide, met_X4_endSetup_b l (b := d) (hmo := hmo) (hno := hno) (hes := hok) (hA_mo := hA_mo), fun M2 h2 => ?_⟩⟩
    rw [h2]
    obtain ⟨f1, f2, f3, f4⟩ := (hG.wmo (th' := 1)).fin (l := l) (D := D) hP (k := k) (u := u) (by omega) hu
    exact ⟨f1, f2, f3, f4, ob, mu_g hom hout, fun z => by cases z⟩
set_option maxHeartbeats 2000000 in
theorem semh_move (l : Launch) {D : va_G} {cI cJ : ClassId} {A : Nat → Prop} {b L : Nat} {xs : Nat → Int32} {xo mo out : Nat} (hl9 : l.stackTraces = false) (x y : Int32) : SemH (α := Int32) .int (fun r => r.toInt64.toBitVec) l D cI cJ A b L xs xo mo out yL_move cL_move 5 [(0, 10, 13, 13), (0, 10, 17, 17)] yX4_move cX4_move 4 (some .int) [.int x, .int y, .ref out] [.int x, .int y] := by
  intro k M u sz hk hAn hg
  obtain ⟨tr, tk, tp, cn, N, su, pa, po, okk, pt, K, pp, w, bk, wa, ca, qu, ve, ro, no, fi, se, t3, le, od, th, oc, nr, rwv, f, hG, hP, hN, hu⟩ := hg
  have hC := hG.1
  have hb := hG.2.2.1
  have hxo := hC.1
  obtain ⟨⟨g1, g2, g3, lf, ⟨hmo, hro, hno, hfi, hse, ht3, hle, hap⟩, hL⟩, hAm, hn1, hn2, hn3⟩ := hG.2.1
  obtain ⟨⟨hcn, hq0, hc0, hc8⟩, ⟨hPo, ⟨hq, hq2⟩, hcap⟩, ⟨hoc, hve⟩, hset, hply⟩ := id hP
  obtain ⟨hr, hku, hO, hNr⟩ := id hPo
  have hpg : M (pa cn) = some (.inr (0, [.ref (po cn), pgV pa cn, .int (nI cn), afV pa N cn, .int (nI (ca cn)), .int (nI (qu cn)), .int (nI (ve cn))])) := hC.2.1.1 cn hcn
  obtain ⟨hpo, hokk, hpt⟩ := id (hC.2.1.2.1 cn hcn)
  have hA_mo := hAm mo (Or.inl rfl)
  have hA_fi := hAm fi (Or.inr (Or.inr (Or.inr (Or.inl rfl))))
  have hA_no := hAm no (Or.inr (Or.inr (Or.inl rfl)))
  have hw := hPo.wfr
  have hW := hPo.wfpt
  have hve2 : ve cn < 2 ^ 31 := by omega
  have hoc2 : oc < 2 ^ 31 := by omega
  obtain ⟨ob, hout⟩ := hG.2.2.2.2.1
  have hA_out := hG.2.2.2.2.2
  have hom : out ≠ mo := fun z => (hG.2.2.ref hG.2.1).2 (Or.inl (Or.inl z))
  have hon : out ≠ no := fun z => (hG.2.2.ref hG.2.1).2 (Or.inl (Or.inr (Or.inr (Or.inl z))))
  have hof : out ≠ fi := fun z => (hG.2.2.ref hG.2.1).2 (Or.inl (Or.inr (Or.inr (Or.inr (Or.inl z)))))
  have hos : out ≠ se := fun z => (hG.2.2.ref hG.2.1).2 (Or.inl (Or.inr (Or.inr (Or.inr (Or.inr (Or.inl z))))))
  have hot : out ≠ t3 := fun z => (hG.2.2.ref hG.2.1).2 (Or.inl (Or.inr (Or.inr (Or.inr (Or.inr (Or.inr z))))))
  rcases sq_cases x with hx | ⟨a, ha, rfl⟩
  · refine ⟨9, 1, 6, 1, _, by decide, by decide, by decide, by decide, hT_move_1 l xo out x y hxo (xet_X3_move_x l hl9 (xo := xo) (y := y) (hbx := hx) (hxo := hxo)), fun M1 h1 => ?_⟩
    subst h1
    refine ⟨⟨_, hmo⟩, hb, fun sz1 _ => ⟨9, 0, 0, nI 0, _, by decide, by decide, by decide, met_X4_move_b l (hmo := hmo) (hbx := by rw [hx]; rfl) (hA_mo := hA_mo), fun M2 h2 => ?_⟩⟩
    rw [h2]
    obtain ⟨f1, f2, f3, f4⟩ := (hG.wmo (th' := 1)).fin (l := l) (D := D) hP (k := k) (u := u) (by omega) hu
    exact ⟨f1, f2, f3, f4, ob, mu_g hom hout, fun z => by cases z⟩
  rcases sq_cases y with hy | ⟨c, hc, rfl⟩
  · refine ⟨9, 1, 6, 1, _, by decide, by decide, by decide, by decide, hT_move_1 l xo out (nI a) y hxo (xet_X3_move_y l hl9 (xo := xo) (j := a) (hj := ha) (hby := hy) (hxo := hxo)), fun M1 h1 => ?_⟩
    subst h1
    refine ⟨⟨_, hmo⟩, hb, fun sz1 _ => ⟨9, 0, 0, nI 0, _, by decide, by decide, by decide, met_X4_move_b l (hmo := hmo) (hbx := by rw [hy, Bool.and_false]) (hA_mo := hA_mo), fun M2 h2 => ?_⟩⟩
    rw [h2]
    obtain ⟨f1, f2, f3, f4⟩ := (hG.wmo (th' := 1)).fin (l := l) (D := D) hP (k := k) (u := u) (by omega) hu
    exact ⟨f1, f2, f3, f4, ob, mu_g hom hout, fun z => by cases z⟩
  · cases hok : mMovOk su oc f a c
    · refine ⟨7, 1, 6, 2, _, by decide, by decide, by decide, by decide, hT_move_2 l xo out (nI a) (nI c) hxo (xet_X3_move_r l hl9 (a := a) (b := c) (hxo := hxo) (hpg := hpg) (hpo := hpo) (hokk := hokk) (hpt := hpt) (ha := ha) (hb2 := hc) (hve := hve2) (hW := hW) (hr := (by
        unfold mMovOk at hok
        cases hpl : mPl su oc
        · rw [show kPl su (ve cn) = false from by rw [← hoc]; exact hpl, if_neg (by decide)]; decide
        · rw [show kPl su (ve cn) = true from by rw [← hoc]; exact hpl, if_pos rfl, r_movR hr hku hO hNr ha hc]
          rw [hpl, Bool.true_and, decide_eq_false_iff_not] at hok
          exact hok))), fun M1 h1 => ?_⟩
      subst h1
      refine ⟨⟨_, hmo⟩, hb, fun sz1 _ => ⟨9, 0, 0, nI 0, _, by decide, by decide, by decide, met_X4_move_r l (j := a) (k := c) (hmo := hmo) (hno := hno) (hfi := hfi) (hle := hle) (hj := ha) (hk := hc) (hoc := hoc2) (hok := hok) (hP := hw.1) (hB := hw.2.1) (hs := hw.2.2) (hL := hL) (hnf := hap.2.1.1) (hlf := hap.2.2.1.2.2.symm) (hA_mo := hA_mo) (hA_fi := hA_fi), fun M2 h2 => ?_⟩⟩
      obtain ⟨g4, h2⟩ := h2
      rw [h2]
      obtain ⟨f1, f2, f3, f4⟩ := ((hG.wmo (th' := 2)).wfi).fin (l := l) (D := D) hP (k := k) (u := u) (by omega) hu
      exact ⟨f1, f2, f3, f4, ob, mu_g hof (mu_g hom hout), fun z => by cases z⟩
    · have hsu : su = false := by
        unfold mMovOk mPl at hok
        cases su
        · rfl
        · cases hok
      subst hsu
      have hok2 := hok
      unfold mMovOk at hok2
      rw [Bool.and_eq_true, decide_eq_true_eq] at hok2
      obtain ⟨hpl, hrs⟩ := hok2
      have hkp : kPl false (ve cn) = true := by rw [← hoc]; exact hpl
      have hpo3 := ((hply rfl).1 cn (Nat.le_refl _)).2.1.cg (hply rfl).2.sym
      have hA_ro := hAm ro (Or.inr (Or.inl rfl))
      have hA_xo := hC.2.2.2.2 xo (Or.inl (Or.inl rfl))
      have hA1 := mv_all hPo hpo3.1 hpo3.2 ha hc hrs
      have hch := hA1.2.2.1
      have hr0 : kMovR (K cn) (pp cn) (w cn) (bk cn) (wa cn) a c = 0 := by rw [r_movR hr hku hO hNr ha hc]; exact hrs
      have hq1 : mApply f a c 129 = nI (kQui (K cn) a c (qu cn)) ∧ kQui (K cn) a c (qu cn) ≤ cn + 1 := ⟨quiN hr ha hc hw.2.1 hq, qui_le hq2⟩
      have hcp := fun q d k1 k6 => capN hr hw.2.1 ha hc hA1.2.2.2.1 q d k1 k6
      have hc1 : kKind (K cn) c < 8 := by rw [r_kKind hr hc]; omega
      refine ⟨8, tC N cn, tS N cn, 0, _, by decide, tc_le _ _, ts_le _ _, by decide, hG_move l xo out (nI a) (nI c) (ob := ob) hxo (met_X3_move l (a := a) (b := c) (ha := ha) (hb2 := hc) (hka := hA1.2.2.2.2) (hxo := hxo) (hPs := hC.2.1) (hcn := hcn) (hN := by omega) (hqu := by omega) (hnu := by omega) (hAc := fun q z => hC.2.2.2.2 q (Or.inl z)) (hW := hW) (hN5 := by omega) (hve := hve2) (hpl := hkp) (hr0 := hr0) (hA_xo := hA_xo) (hAn := hAn)) (fun M1 h => by obtain ⟨_, _, _, _, _, -, -, -, -, -, -, hkk⟩ := h; exact hkk _ _ hout (fun z => (hG.2.2.cls hG.1).2 (Or.inl z))) hA_out, fun M1 h1 => ?_⟩
      obtain ⟨M0, ob1, h0, h3, h1⟩ := h1
      obtain ⟨pa', po', okk', pt', ve', hGa, hvo, hvn⟩ := hG.act hcn h0
      have hG1 := hGa.wout (ob := ob1)
      rw [← h1] at hG1
      have hout1 : M1 out = some (eJ cJ 1 (fun k => bL (ob1 k))) := by rw [h1]; exact mu_s
      obtain ⟨⟨g1, g2, g3, lf, ⟨hmo, hro, hno, hfi, hse, ht3, hle, hap⟩, hL⟩, -⟩ := id hG1.2.1
      refine ⟨⟨_, hmo⟩, hG1.2.2.1, fun sz1 hAn1 => ⟨9, kpC nr (cn + 1), kpS nr (cn + 1), nI (kKind (K cn) c), _, by decide, kc_le _ _, kp_le hn2, by rw [r_kKind hr hc]; exact met_X4_move l (j := a) (k := c) (hj := ha) (hk := hc) (g := g1) (g2 := g2) (g3 := g3) (hmo := hmo) (hro := hro) (hno := hno) (hfi := hfi) (hse := hse) (ht3 := ht3) (hle := hle) (hP := hw.1) (hB := hw.2.1) (hs := hw.2.2) (hL := hL) (hap := hap) (hoc := hoc2) (hok := hok) (hlo := hn3) (h3 := by omega) (hnr := by omega) (hA_mo := hA_mo) (hA_ro := hA_ro) (hA_no := hA_no) (hA_fi := hA_fi) (hAn := hAn1), fun M2 h2 => ?_⟩⟩
      obtain ⟨ro', nr', rw', hG2, hr1, hr2, hks, hkc⟩ := hG1.kept hL (by omega) h2
      have hP2 := ps_act (N1 := tN N cn) (ve1 := ve') (rw1 := rw') hP (by omega) hA1.1 hA1.2.1 hch hq1 hcp hc1 (tN_lt hcn) (fun i hi hne => by unfold tN at hi; split at hi <;> omega) hvo hvn hr1 hr2
      have hkeep : M2 out = some (eJ cJ 1 (fun k => bL (ob1 k))) := by
        obtain ⟨_, _, _, _, _, hkk, -⟩ := h2
        exact hkk _ _ hout1 (fun z => (hG1.2.2.ref hG1.2.1).2 (Or.inl z))
      have hNt := tN_le (N := N) (cn := cn)
      obtain ⟨f1, f2, f3, f4⟩ := hG2.fin (l := l) (D := D) hP2 (k := k) (u := u + kpS nr (cn + 1)) (by omega) (by omega)
      exact ⟨f1, f2, f3, f4, ob1, hkeep, fun _ => h3⟩
set_option maxHeartbeats 2000000 in
theorem semh_bond (l : Launch) {D : va_G} {cI cJ : ClassId} {A : Nat → Prop} {b L : Nat} {xs : Nat → Int32} {xo mo out : Nat} (hl9 : l.stackTraces = false) (x y : Int32) : SemH (α := Int32) .int (fun r => r.toInt64.toBitVec) l D cI cJ A b L xs xo mo out yL_bond cL_bond 5 [(0, 10, 13, 13), (0, 10, 17, 17)] yX4_bond cX4_bond 3 (some .int) [.int x, .int y, .ref out] [.int x, .int y] := by
  intro k M u sz hk hAn hg
  obtain ⟨tr, tk, tp, cn, N, su, pa, po, okk, pt, K, pp, w, bk, wa, ca, qu, ve, ro, no, fi, se, t3, le, od, th, oc, nr, rwv, f, hG, hP, hN, hu⟩ := hg
  have hC := hG.1
  have hb := hG.2.2.1
  have hxo := hC.1
  obtain ⟨⟨g1, g2, g3, lf, ⟨hmo, hro, hno, hfi, hse, ht3, hle, hap⟩, hL⟩, hAm, hn1, hn2, hn3⟩ := hG.2.1
  obtain ⟨⟨hcn, hq0, hc0, hc8⟩, ⟨hPo, ⟨hq, hq2⟩, hcap⟩, ⟨hoc, hve⟩, hset, hply⟩ := id hP
  obtain ⟨hr, hku, hO, hNr⟩ := id hPo
  have hpg : M (pa cn) = some (.inr (0, [.ref (po cn), pgV pa cn, .int (nI cn), afV pa N cn, .int (nI (ca cn)), .int (nI (qu cn)), .int (nI (ve cn))])) := hC.2.1.1 cn hcn
  obtain ⟨hpo, hokk, hpt⟩ := id (hC.2.1.2.1 cn hcn)
  have hA_mo := hAm mo (Or.inl rfl)
  have hA_fi := hAm fi (Or.inr (Or.inr (Or.inr (Or.inl rfl))))
  have hA_no := hAm no (Or.inr (Or.inr (Or.inl rfl)))
  have hw := hPo.wfr
  have hW := hPo.wfpt
  have hve2 : ve cn < 2 ^ 31 := by omega
  have hoc2 : oc < 2 ^ 31 := by omega
  obtain ⟨ob, hout⟩ := hG.2.2.2.2.1
  have hA_out := hG.2.2.2.2.2
  have hom : out ≠ mo := fun z => (hG.2.2.ref hG.2.1).2 (Or.inl (Or.inl z))
  have hon : out ≠ no := fun z => (hG.2.2.ref hG.2.1).2 (Or.inl (Or.inr (Or.inr (Or.inl z))))
  have hof : out ≠ fi := fun z => (hG.2.2.ref hG.2.1).2 (Or.inl (Or.inr (Or.inr (Or.inr (Or.inl z)))))
  have hos : out ≠ se := fun z => (hG.2.2.ref hG.2.1).2 (Or.inl (Or.inr (Or.inr (Or.inr (Or.inr (Or.inl z))))))
  have hot : out ≠ t3 := fun z => (hG.2.2.ref hG.2.1).2 (Or.inl (Or.inr (Or.inr (Or.inr (Or.inr (Or.inr z))))))
  rcases sq_cases x with hx | ⟨a, ha, rfl⟩
  · refine ⟨9, 1, 6, 1, _, by decide, by decide, by decide, by decide, hT_bond_1 l xo out x y hxo (xet_X3_bond_x l hl9 (xo := xo) (y := y) (hbx := hx) (hxo := hxo)), fun M1 h1 => ?_⟩
    subst h1
    refine ⟨⟨_, hmo⟩, hb, fun sz1 _ => ⟨10, 0, 0, nI 0, _, by decide, by decide, by decide, met_X4_bond_b l (hmo := hmo) (hbx := by rw [hx]; rfl) (hA_mo := hA_mo), fun M2 h2 => ?_⟩⟩
    rw [h2]
    obtain ⟨f1, f2, f3, f4⟩ := (hG.wmo (th' := 1)).fin (l := l) (D := D) hP (k := k) (u := u) (by omega) hu
    exact ⟨f1, f2, f3, f4, ob, mu_g hom hout, fun z => by cases z⟩
  rcases sq_cases y with hy | ⟨c, hc, rfl⟩
  · refine ⟨9, 1, 6, 1, _, by decide, by decide, by decide, by decide, hT_bond_1 l xo out (nI a) y hxo (xet_X3_bond_y l hl9 (xo := xo) (j := a) (hj := ha) (hby := hy) (hxo := hxo)), fun M1 h1 => ?_⟩
    subst h1
    refine ⟨⟨_, hmo⟩, hb, fun sz1 _ => ⟨10, 0, 0, nI 0, _, by decide, by decide, by decide, met_X4_bond_b l (hmo := hmo) (hbx := by rw [hy, Bool.and_false]) (hA_mo := hA_mo), fun M2 h2 => ?_⟩⟩
    rw [h2]
    obtain ⟨f1, f2, f3, f4⟩ := (hG.wmo (th' := 1)).fin (l := l) (D := D) hP (k := k) (u := u) (by omega) hu
    exact ⟨f1, f2, f3, f4, ob, mu_g hom hout, fun z => by cases z⟩
  · cases hok : mBndOk su oc f a c
    · refine ⟨7, 1, 6, 2, _, by decide, by decide, by decide, by decide, hT_bond_2 l xo out (nI a) (nI c) hxo (xet_X3_bond_r l hl9 (a := a) (b := c) (hxo := hxo) (hpg := hpg) (hpo := hpo) (hokk := hokk) (hpt := hpt) (ha := ha) (hb2 := hc) (hve := hve2) (hr := (by
        unfold mBndOk at hok
        cases hpl : mPl su oc
        · rw [show kPl su (ve cn) = false from by rw [← hoc]; exact hpl, if_neg (by decide)]; decide
        · rw [show kPl su (ve cn) = true from by rw [← hoc]; exact hpl, if_pos rfl, r_bndR hr hku ha hc]
          rw [hpl, Bool.true_and, decide_eq_false_iff_not] at hok
          exact hok))), fun M1 h1 => ?_⟩
      subst h1
      refine ⟨⟨_, hmo⟩, hb, fun sz1 _ => ⟨10, 0, 0, nI 0, _, by decide, by decide, by decide, met_X4_bond_r l (j := a) (k := c) (hmo := hmo) (hno := hno) (hle := hle) (hj := ha) (hk := hc) (hoc := hoc2) (hok := hok) (hs := hw.2.2) (hL := hL) (hA_mo := hA_mo), fun M2 h2 => ?_⟩⟩
      rw [h2]
      obtain ⟨f1, f2, f3, f4⟩ := (hG.wmo (th' := 2)).fin (l := l) (D := D) hP (k := k) (u := u) (by omega) hu
      exact ⟨f1, f2, f3, f4, ob, mu_g hom hout, fun z => by cases z⟩
    · have hsu : su = false := by
        unfold mBndOk mPl at hok
        cases su
        · rfl
        · cases hok
      subst hsu
      have hok2 := hok
      unfold mBndOk at hok2
      rw [Bool.and_eq_true, decide_eq_true_eq] at hok2
      obtain ⟨hpl, hrs⟩ := hok2
      have hkp : kPl false (ve cn) = true := by rw [← hoc]; exact hpl
      have hpo3 := ((hply rfl).1 cn (Nat.le_refl _)).2.1.cg (hply rfl).2.sym
      have hA_ro := hAm ro (Or.inr (Or.inl rfl))
      have hA_xo := hC.2.2.2.2 xo (Or.inl (Or.inl rfl))
      have hA1 := bd_all hPo hpo3.1 ha hc hrs
      have hch := hA1.2.2
      have hr0 : kBndR (K cn) (pp cn) (w cn) (bk cn) (wa cn) a c = 0 := by rw [r_bndR hr hku ha hc]; exact hrs
      have hhi : ∀ j, 128 < j → mTie f a c j = f j := fun j hj => by unfold mTie; rw [upd_n (by omega), upd_n (by omega)]
      have hq1 : mEnd (mTie f a c) 129 = nI (qu cn + 1) ∧ qu cn + 1 ≤ cn + 1 := ⟨calm_129 (hhi 129 (by decide)) hq, by omega⟩
      have hcp := fun q d k1 (_ : q ≤ 6) => calm_cap (wa := wa cn) (f := f) (fun j hj => hhi j (by omega)) q d k1
      have hc1 : 0 < 8 := by decide
      refine ⟨8, tC N cn, tS N cn, 0, _, by decide, tc_le _ _, ts_le _ _, by decide, hG_bond l xo out (nI a) (nI c) (ob := ob) hxo (met_X3_bond l (a := a) (b := c) (ha := ha) (hb2 := hc) (hxo := hxo) (hPs := hC.2.1) (hcn := hcn) (hN := by omega) (hqu := by omega) (hnu := by omega) (hAc := fun q z => hC.2.2.2.2 q (Or.inl z)) (hW := hW) (hN5 := by omega) (hve := hve2) (hpl := hkp) (hr0 := hr0) (hA_xo := hA_xo) (hAn := hAn)) (fun M1 h => by obtain ⟨_, _, _, _, _, -, -, -, -, -, -, hkk⟩ := h; exact hkk _ _ hout (fun z => (hG.2.2.cls hG.1).2 (Or.inl z))) hA_out, fun M1 h1 => ?_⟩
      obtain ⟨M0, ob1, h0, h3, h1⟩ := h1
      obtain ⟨pa', po', okk', pt', ve', hGa, hvo, hvn⟩ := hG.act hcn h0
      have hG1 := hGa.wout (ob := ob1)
      rw [← h1] at hG1
      have hout1 : M1 out = some (eJ cJ 1 (fun k => bL (ob1 k))) := by rw [h1]; exact mu_s
      obtain ⟨⟨g1, g2, g3, lf, ⟨hmo, hro, hno, hfi, hse, ht3, hle, hap⟩, hL⟩, -⟩ := id hG1.2.1
      refine ⟨⟨_, hmo⟩, hG1.2.2.1, fun sz1 hAn1 => ⟨10, kpC nr (cn + 1), kpS nr (cn + 1), nI (mHop a c), _, by decide, kc_le _ _, kp_le hn2, met_X4_bond l (j := a) (k := c) (hj := ha) (hk := hc) (g := g1) (g2 := g2) (g3 := g3) (hmo := hmo) (hro := hro) (hno := hno) (hfi := hfi) (hse := hse) (ht3 := ht3) (hle := hle) (hP := hw.1) (hB := hw.2.1) (hs := hw.2.2) (hL := hL) (hap := hap) (hoc := hoc2) (hok := hok) (hlo := hn3) (h3 := by omega) (hnr := by omega) (hA_mo := hA_mo) (hA_ro := hA_ro) (hA_no := hA_no) (hA_fi := hA_fi) (hAn := hAn1), fun M2 h2 => ?_⟩⟩
      obtain ⟨ro', nr', rw', hG2, hr1, hr2, hks, hkc⟩ := hG1.kept hL (by omega) h2
      have hP2 := ps_act (N1 := tN N cn) (ve1 := ve') (rw1 := rw') hP (by omega) hA1.1 hA1.2.1 hch hq1 hcp hc1 (tN_lt hcn) (fun i hi hne => by unfold tN at hi; split at hi <;> omega) hvo hvn hr1 hr2
      have hkeep : M2 out = some (eJ cJ 1 (fun k => bL (ob1 k))) := by
        obtain ⟨_, _, _, _, _, hkk, -⟩ := h2
        exact hkk _ _ hout1 (fun z => (hG1.2.2.ref hG1.2.1).2 (Or.inl z))
      have hNt := tN_le (N := N) (cn := cn)
      obtain ⟨f1, f2, f3, f4⟩ := hG2.fin (l := l) (D := D) hP2 (k := k) (u := u + kpS nr (cn + 1)) (by omega) (by omega)
      exact ⟨f1, f2, f3, f4, ob1, hkeep, fun _ => h3⟩
set_option maxHeartbeats 2000000 in
theorem semh_dissolve (l : Launch) {D : va_G} {cI cJ : ClassId} {A : Nat → Prop} {b L : Nat} {xs : Nat → Int32} {xo mo out : Nat} (hl9 : l.stackTraces = false) (x : Int32) : SemH (α := Int32) .int (fun r => r.toInt64.toBitVec) l D cI cJ A b L xs xo mo out yL_dissolve cL_dissolve 4 [(0, 9, 12, 13), (0, 9, 15, 17)] yX4_dissolve cX4_dissolve 3 (some .int) [.int x, .ref out] [.int x] := by
  intro k M u sz hk hAn hg
  obtain ⟨tr, tk, tp, cn, N, su, pa, po, okk, pt, K, pp, w, bk, wa, ca, qu, ve, ro, no, fi, se, t3, le, od, th, oc, nr, rwv, f, hG, hP, hN, hu⟩ := hg
  have hC := hG.1
  have hb := hG.2.2.1
  have hxo := hC.1
  obtain ⟨⟨g1, g2, g3, lf, ⟨hmo, hro, hno, hfi, hse, ht3, hle, hap⟩, hL⟩, hAm, hn1, hn2, hn3⟩ := hG.2.1
  obtain ⟨⟨hcn, hq0, hc0, hc8⟩, ⟨hPo, ⟨hq, hq2⟩, hcap⟩, ⟨hoc, hve⟩, hset, hply⟩ := id hP
  obtain ⟨hr, hku, hO, hNr⟩ := id hPo
  have hpg : M (pa cn) = some (.inr (0, [.ref (po cn), pgV pa cn, .int (nI cn), afV pa N cn, .int (nI (ca cn)), .int (nI (qu cn)), .int (nI (ve cn))])) := hC.2.1.1 cn hcn
  obtain ⟨hpo, hokk, hpt⟩ := id (hC.2.1.2.1 cn hcn)
  have hA_mo := hAm mo (Or.inl rfl)
  have hA_fi := hAm fi (Or.inr (Or.inr (Or.inr (Or.inl rfl))))
  have hA_no := hAm no (Or.inr (Or.inr (Or.inl rfl)))
  have hw := hPo.wfr
  have hW := hPo.wfpt
  have hve2 : ve cn < 2 ^ 31 := by omega
  have hoc2 : oc < 2 ^ 31 := by omega
  obtain ⟨ob, hout⟩ := hG.2.2.2.2.1
  have hA_out := hG.2.2.2.2.2
  have hom : out ≠ mo := fun z => (hG.2.2.ref hG.2.1).2 (Or.inl (Or.inl z))
  have hon : out ≠ no := fun z => (hG.2.2.ref hG.2.1).2 (Or.inl (Or.inr (Or.inr (Or.inl z))))
  have hof : out ≠ fi := fun z => (hG.2.2.ref hG.2.1).2 (Or.inl (Or.inr (Or.inr (Or.inr (Or.inl z)))))
  have hos : out ≠ se := fun z => (hG.2.2.ref hG.2.1).2 (Or.inl (Or.inr (Or.inr (Or.inr (Or.inr (Or.inl z))))))
  have hot : out ≠ t3 := fun z => (hG.2.2.ref hG.2.1).2 (Or.inl (Or.inr (Or.inr (Or.inr (Or.inr (Or.inr z))))))
  rcases sq_cases x with hx | ⟨j, hj, rfl⟩
  · refine ⟨9, 1, 6, 1, _, by decide, by decide, by decide, by decide, hT_dissolve_1 l xo out x hxo (xet_X3_dissolve_x l hl9 (hxo := hxo) (hbx := hx)), fun M1 h1 => ?_⟩
    subst h1
    refine ⟨⟨_, hmo⟩, hb, fun sz1 _ => ⟨10, 0, 0, nI 0, _, by decide, by decide, by decide, met_X4_dissolve_b l (hmo := hmo) (hbx := hx) (hA_mo := hA_mo), fun M2 h2 => ?_⟩⟩
    rw [h2]
    obtain ⟨f1, f2, f3, f4⟩ := (hG.wmo (th' := 1)).fin (l := l) (D := D) hP (k := k) (u := u) (by omega) hu
    exact ⟨f1, f2, f3, f4, ob, mu_g hom hout, fun z => by cases z⟩
  · cases hok : mDisOk su oc f j
    · refine ⟨7, 1, 6, 2, _, by decide, by decide, by decide, by decide, hT_dissolve_2 l xo out (nI j) hxo (xet_X3_dissolve_r l hl9 (a := j) (hxo := hxo) (hpg := hpg) (hpo := hpo) (hokk := hokk) (hpt := hpt) (ha := hj) (hve := hve2) (hr := (by
        unfold mDisOk at hok
        cases hpl : mPl su oc
        · rw [show kPl su (ve cn) = false from by rw [← hoc]; exact hpl, if_neg (by decide)]; decide
        · rw [show kPl su (ve cn) = true from by rw [← hoc]; exact hpl, if_pos rfl, r_disR hr hku hj]
          rw [hpl, Bool.true_and, decide_eq_false_iff_not] at hok
          exact hok))), fun M1 h1 => ?_⟩
      subst h1
      refine ⟨⟨_, hmo⟩, hb, fun sz1 _ => ⟨10, 0, 0, nI 0, _, by decide, by decide, by decide, met_X4_dissolve_r l (j := j) (hmo := hmo) (hno := hno) (hj := hj) (hoc := hoc2) (hok := hok) (hs := hw.2.2) (hA_mo := hA_mo), fun M2 h2 => ?_⟩⟩
      rw [h2]
      obtain ⟨f1, f2, f3, f4⟩ := (hG.wmo (th' := 2)).fin (l := l) (D := D) hP (k := k) (u := u) (by omega) hu
      exact ⟨f1, f2, f3, f4, ob, mu_g hom hout, fun z => by cases z⟩
    · have hsu : su = false := by
        unfold mDisOk mPl at hok
        cases su
        · rfl
        · cases hok
      subst hsu
      have hok2 := hok
      unfold mDisOk at hok2
      rw [Bool.and_eq_true, decide_eq_true_eq] at hok2
      obtain ⟨hpl, hrs⟩ := hok2
      have hkp : kPl false (ve cn) = true := by rw [← hoc]; exact hpl
      have hpo3 := ((hply rfl).1 cn (Nat.le_refl _)).2.1.cg (hply rfl).2.sym
      have hA_ro := hAm ro (Or.inr (Or.inl rfl))
      have hA_xo := hC.2.2.2.2 xo (Or.inl (Or.inl rfl))
      have hA1 := ds_all hPo hpo3.1 hj hrs
      have hch := hA1.2.2
      have hr0 : kDisR (K cn) (pp cn) (w cn) (bk cn) (wa cn) j = 0 := by rw [r_disR hr hku hj]; exact hrs
      have hhi : ∀ i, 128 < i → mUntie f j i = f i := fun i hi => untie_hi hw.2.1 hj (by omega)
      have hq1 : mEnd (mUntie f j) 129 = nI (qu cn + 1) ∧ qu cn + 1 ≤ cn + 1 := ⟨calm_129 (hhi 129 (by decide)) hq, by omega⟩
      have hcp := fun q d k1 (_ : q ≤ 6) => calm_cap (wa := wa cn) (f := f) (fun j hj => hhi j (by omega)) q d k1
      have hc1 : 0 < 8 := by decide
      refine ⟨8, tC N cn, tS N cn, 0, _, by decide, tc_le _ _, ts_le _ _, by decide, hG_dissolve l xo out (nI j) (ob := ob) hxo (met_X3_dissolve l (a := j) (ha := hj) (hxo := hxo) (hPs := hC.2.1) (hcn := hcn) (hN := by omega) (hqu := by omega) (hnu := by omega) (hAc := fun q z => hC.2.2.2.2 q (Or.inl z)) (hW := hW) (hN5 := by omega) (hve := hve2) (hpl := hkp) (hr0 := hr0) (hA_xo := hA_xo) (hAn := hAn)) (fun M1 h => by obtain ⟨_, _, _, _, _, -, -, -, -, -, -, hkk⟩ := h; exact hkk _ _ hout (fun z => (hG.2.2.cls hG.1).2 (Or.inl z))) hA_out, fun M1 h1 => ?_⟩
      obtain ⟨M0, ob1, h0, h3, h1⟩ := h1
      obtain ⟨pa', po', okk', pt', ve', hGa, hvo, hvn⟩ := hG.act hcn h0
      have hG1 := hGa.wout (ob := ob1)
      rw [← h1] at hG1
      have hout1 : M1 out = some (eJ cJ 1 (fun k => bL (ob1 k))) := by rw [h1]; exact mu_s
      obtain ⟨⟨g1, g2, g3, lf, ⟨hmo, hro, hno, hfi, hse, ht3, hle, hap⟩, hL⟩, -⟩ := id hG1.2.1
      refine ⟨⟨_, hmo⟩, hG1.2.2.1, fun sz1 hAn1 => ⟨10, kpC nr (cn + 1), kpS nr (cn + 1), pp cn j, _, by decide, kc_le _ _, kp_le hn2, by rw [hr.2.2.2.2.1 j hj]; exact met_X4_dissolve l (j := j) (hj := hj) (g := g1) (g2 := g2) (g3 := g3) (hmo := hmo) (hro := hro) (hno := hno) (hfi := hfi) (hse := hse) (ht3 := ht3) (hle := hle) (hP := hw.1) (hB := hw.2.1) (hs := hw.2.2) (hL := hL) (hap := hap) (hoc := hoc2) (hok := hok) (hlo := hn3) (h3 := by omega) (hnr := by omega) (hA_mo := hA_mo) (hA_ro := hA_ro) (hA_no := hA_no) (hA_fi := hA_fi) (hAn := hAn1), fun M2 h2 => ?_⟩⟩
      obtain ⟨ro', nr', rw', hG2, hr1, hr2, hks, hkc⟩ := hG1.kept hL (by omega) h2
      have hP2 := ps_act (N1 := tN N cn) (ve1 := ve') (rw1 := rw') hP (by omega) hA1.1 hA1.2.1 hch hq1 hcp hc1 (tN_lt hcn) (fun i hi hne => by unfold tN at hi; split at hi <;> omega) hvo hvn hr1 hr2
      have hkeep : M2 out = some (eJ cJ 1 (fun k => bL (ob1 k))) := by
        obtain ⟨_, _, _, _, _, hkk, -⟩ := h2
        exact hkk _ _ hout1 (fun z => (hG1.2.2.ref hG1.2.1).2 (Or.inl z))
      have hNt := tN_le (N := N) (cn := cn)
      obtain ⟨f1, f2, f3, f4⟩ := hG2.fin (l := l) (D := D) hP2 (k := k) (u := u + kpS nr (cn + 1)) (by omega) (by omega)
      exact ⟨f1, f2, f3, f4, ob1, hkeep, fun _ => h3⟩
set_option maxHeartbeats 2000000 in
theorem semh_takeBack (l : Launch) {D : va_G} {cI cJ : ClassId} {A : Nat → Prop} {b L : Nat} {xs : Nat → Int32} {xo mo out : Nat} (hl9 : l.stackTraces = false) : SemH (α := Int32) .int (fun r => r.toInt64.toBitVec) l D cI cJ A b L xs xo mo out yL_takeBack cL_takeBack 3 [(0, 8, 11, 17)] yX4_takeBack cX4_takeBack 1 (some .int) [.ref out] [] := by
  intro k M u sz hk hAn hg
  obtain ⟨tr, tk, tp, cn, N, su, pa, po, okk, pt, K, pp, w, bk, wa, ca, qu, ve, ro, no, fi, se, t3, le, od, th, oc, nr, rwv, f, hG, hP, hN, hu⟩ := hg
  have hC := hG.1
  have hb := hG.2.2.1
  have hxo := hC.1
  obtain ⟨⟨g1, g2, g3, lf, ⟨hmo, hro, hno, hfi, hse, ht3, hle, hap⟩, hL⟩, hAm, hn1, hn2, hn3⟩ := hG.2.1
  obtain ⟨⟨hcn, hq0, hc0, hc8⟩, ⟨hPo, ⟨hq, hq2⟩, hcap⟩, ⟨hoc, hve⟩, hset, hply⟩ := id hP
  obtain ⟨hr, hku, hO, hNr⟩ := id hPo
  have hpg : M (pa cn) = some (.inr (0, [.ref (po cn), pgV pa cn, .int (nI cn), afV pa N cn, .int (nI (ca cn)), .int (nI (qu cn)), .int (nI (ve cn))])) := hC.2.1.1 cn hcn
  obtain ⟨hpo, hokk, hpt⟩ := id (hC.2.1.2.1 cn hcn)
  have hA_mo := hAm mo (Or.inl rfl)
  have hA_fi := hAm fi (Or.inr (Or.inr (Or.inr (Or.inl rfl))))
  have hA_no := hAm no (Or.inr (Or.inr (Or.inl rfl)))
  have hw := hPo.wfr
  have hW := hPo.wfpt
  have hve2 : ve cn < 2 ^ 31 := by omega
  have hoc2 : oc < 2 ^ 31 := by omega
  obtain ⟨ob, hout⟩ := hG.2.2.2.2.1
  have hA_out := hG.2.2.2.2.2
  have hom : out ≠ mo := fun z => (hG.2.2.ref hG.2.1).2 (Or.inl (Or.inl z))
  have hon : out ≠ no := fun z => (hG.2.2.ref hG.2.1).2 (Or.inl (Or.inr (Or.inr (Or.inl z))))
  have hof : out ≠ fi := fun z => (hG.2.2.ref hG.2.1).2 (Or.inl (Or.inr (Or.inr (Or.inr (Or.inl z)))))
  have hos : out ≠ se := fun z => (hG.2.2.ref hG.2.1).2 (Or.inl (Or.inr (Or.inr (Or.inr (Or.inr (Or.inl z))))))
  have hot : out ≠ t3 := fun z => (hG.2.2.ref hG.2.1).2 (Or.inl (Or.inr (Or.inr (Or.inr (Or.inr (Or.inr z))))))
  have hc31 : cn < 2 ^ 31 := by omega
  rcases Bool.eq_false_or_eq_true su with hsu | hsu
  · refine ⟨7, 1, 6, 1, _, by decide, by decide, by decide, by decide, hT_takeBack_1 l xo out hxo (xet_X3_takeBack_s l hl9 (hxo := hxo) (hPs := hC.2.1) (hcn := hcn) (hN := by omega) (hsu := hsu)), fun M1 h1 => ?_⟩
    subst h1
    refine ⟨⟨_, hmo⟩, hb, fun sz1 _ => ⟨8, 0, 0, nI 0, _, by decide, by decide, by decide, met_X4_takeBack_b l (hmo := hmo) (hsu := by rw [hsu]; rfl) (hac := hc31) (hA_mo := hA_mo), fun M2 h2 => ?_⟩⟩
    rw [h2]
    obtain ⟨f1, f2, f3, f4⟩ := (hG.wmo (th' := 1)).fin (l := l) (D := D) hP (k := k) (u := u) (by omega) hu
    exact ⟨f1, f2, f3, f4, ob, mu_g hom hout, fun z => by cases z⟩
  by_cases hc9 : cn = 0
  · refine ⟨7, 1, 6, 1, _, by decide, by decide, by decide, by decide, hT_takeBack_1 l xo out hxo (xet_X3_takeBack_0 l hl9 (hxo := hxo) (hPs := hC.2.1) (hcn := hcn) (hN := by omega) (hsu := hsu) (hc0 := hc9)), fun M1 h1 => ?_⟩
    subst h1
    refine ⟨⟨_, hmo⟩, hb, fun sz1 _ => ⟨8, 0, 0, nI 0, _, by decide, by decide, by decide, met_X4_takeBack_b l (hmo := hmo) (hsu := by rw [hsu, hc9]; rfl) (hac := hc31) (hA_mo := hA_mo), fun M2 h2 => ?_⟩⟩
    rw [h2]
    obtain ⟨f1, f2, f3, f4⟩ := (hG.wmo (th' := 1)).fin (l := l) (D := D) hP (k := k) (u := u) (by omega) hu
    exact ⟨f1, f2, f3, f4, ob, mu_g hom hout, fun z => by cases z⟩
  · subst hsu
    have hrw := ((hply rfl).1 (cn - 1) (by omega)).1.1.wfr
    have hx0 : out ≠ xo := fun z => (hG.2.2.cls hG.1).2 (Or.inl (Or.inl z))
    have hA_xo := hC.2.2.2.2 xo (Or.inl (Or.inl rfl))
    have hP1 := ps_back hP (by omega) (by omega)
    refine ⟨2, 0, 0, 0, _, by decide, by decide, by decide, by decide, hG_takeBack l xo out (ob := ob) hxo (met_X3_takeBack l (hxo := hxo) (hPs := hC.2.1) (hcn := hcn) (hN := by omega) (hsu := rfl) (hc0 := by omega) (hA_xo := hA_xo)) (fun M1 h => by rw [h]; exact mu_g hx0 hout) hA_out, fun M1 h1 => ?_⟩
    obtain ⟨M0, ob1, h0, h3, h1⟩ := h1
    rw [h0] at h1
    have hG1 := hG.tb.wout (ob := ob1)
    rw [← h1] at hG1
    have hout1 : M1 out = some (eJ cJ 1 (fun k => bL (ob1 k))) := by rw [h1]; exact mu_s
    obtain ⟨⟨g1, g2, g3, lf, ⟨hmo, hro, hno, hfi, hse, ht3, hle, hap⟩, hL⟩, -⟩ := id hG1.2.1
    refine ⟨⟨_, hmo⟩, hG1.2.2.1, fun sz1 _ => ⟨8, 0, 0, nI (cn - 1), _, by decide, by decide, by decide, met_X4_takeBack l (g2 := g2) (g3 := g3) (hmo := hmo) (hro := hro) (hno := hno) (hfi := hfi) (hle := hle) (hsu := rfl) (hac := by omega) (hr1 := hn3) (hnr := by omega) (hwr := hrw) (hL := hL) (hap := hap) (hA_mo := hA_mo) (hA_no := hA_no) (hA_fi := hA_fi), fun M2 h2 => ?_⟩⟩
    obtain ⟨g4, h2⟩ := h2
    rw [h2]
    obtain ⟨f1, f2, f3, f4⟩ := (((hG1.wm0 (th' := 0) (oc' := mOutc rwv (rowN rwv (cn - 1)) (cn - 1)) (a' := cn - 1) (s' := false) (by omega)).wno (g := rowN rwv (cn - 1))).wfi (g := g4)).fin (l := l) (D := D) hP1 (k := k) (u := u) (by omega) hu
    exact ⟨f1, f2, f3, f4, ob1, mu_g hof (mu_g hon (mu_g hom hout1)), fun _ => h3⟩
theorem sem_beginSetup (l : Launch) {D : va_G} {cI cJ : ClassId} {A : Nat → Prop} {b L : Nat} {xs : Nat → Int32} {xo mo out : Nat} : ∀ (k : Nat) (M : MP) (u sz : Nat), k < 512 → (∀ q, sz ≤ q → A q) → GI cI cJ A b L xs xo mo out k M u → ∃ (d : Nat) (Rm : MP → Prop), d ≤ 11 ∧ (∃ fs, M xo = some (.inr (2, fs))) ∧ Wr l yX3_beginSetup cX3_beginSetup 1 none d 0 0 D cI cJ [.ref xo] M sz A none Rm ∧
    ∀ M1, Rm M1 → (∃ fs, M1 mo = some (.inr (3, fs))) ∧ ScrP b L xs ∧ ∀ sz1, ∃ (d2 : Nat) (Rm2 : MP → Prop), d2 ≤ 11 ∧ Wr l yX4_beginSetup cX4_beginSetup 1 none d2 0 0 D cI cJ [.ref mo] M1 sz1 A none Rm2 ∧ ∀ M2, Rm2 M2 → GI cI cJ A b L xs xo mo out (k + 1) M2 u := by
  intro k M u sz hk hAn hg
  obtain ⟨tr, tk, tp, cn, N, su, pa, po, okk, pt, K, pp, w, bk, wa, ca, qu, ve, ro, no, fi, se, t3, le, od, th, oc, nr, rwv, f, hG, hP, hN, hu⟩ := hg
  have hC := hG.1
  have hb := hG.2.2.1
  have hxo := hC.1
  obtain ⟨⟨g1, g2, g3, lf, ⟨hmo, hro, hno, hfi, hse, ht3, hle, hap⟩, hL⟩, hAm, hn1, hn2, hn3⟩ := hG.2.1
  obtain ⟨⟨hcn, hq0, hc0, hc8⟩, ⟨hPo, ⟨hq, hq2⟩, hcap⟩, ⟨hoc, hve⟩, hset, hply⟩ := id hP
  obtain ⟨hr, hku, hO, hNr⟩ := id hPo
  have hpg : M (pa cn) = some (.inr (0, [.ref (po cn), pgV pa cn, .int (nI cn), afV pa N cn, .int (nI (ca cn)), .int (nI (qu cn)), .int (nI (ve cn))])) := hC.2.1.1 cn hcn
  obtain ⟨hpo, hokk, hpt⟩ := id (hC.2.1.2.1 cn hcn)
  have hA_mo := hAm mo (Or.inl rfl)
  have hA_fi := hAm fi (Or.inr (Or.inr (Or.inr (Or.inl rfl))))
  have hA_no := hAm no (Or.inr (Or.inr (Or.inl rfl)))
  have hw := hPo.wfr
  have hW := hPo.wfpt
  have hve2 : ve cn < 2 ^ 31 := by omega
  have hoc2 : oc < 2 ^ 31 := by omega
  have h0 : 0 < N := by omega
  refine ⟨2, _, by decide, ⟨_, hxo⟩, met_X3_beginSetup l (hxo := hxo) (hPs := hC.2.1) (hcn := hcn) (hN := by omega) (hA_xo := hC.2.2.2.2 _ (Or.inl (Or.inl rfl))) (hA_pa_0 := hC.2.2.2.2 _ (Or.inl (Or.inr ⟨0, h0, Or.inl rfl⟩))) (hA_po_0 := hC.2.2.2.2 _ (Or.inl (Or.inr ⟨0, h0, Or.inr (Or.inl rfl)⟩))) (hA_okk_0 := hC.2.2.2.2 _ (Or.inl (Or.inr ⟨0, h0, Or.inr (Or.inr (Or.inl rfl))⟩))) (hA_pt_0 := hC.2.2.2.2 _ (Or.inl (Or.inr ⟨0, h0, Or.inr (Or.inr (Or.inr rfl))⟩))), fun M1 h1 => ?_⟩
  have hG1 := hG.bs hcn
  rw [← h1] at hG1
  obtain ⟨⟨g1, g2, g3, lf, ⟨hmo, hro, hno, hfi, hse, ht3, hle, hap⟩, hL⟩, -⟩ := id hG1.2.1
  refine ⟨⟨_, hmo⟩, hG1.2.2.1, fun sz1 => ⟨1, _, by decide, met_X4_beginSetup l (hmo := hmo) (hno := hno) (hA_mo := hA_mo) (hA_no := hA_no), fun M2 h2 => ?_⟩⟩
  rw [h2]
  exact ⟨_, _, _, 0, N, true, _, _, _, _, _, _, _, _, _, _, _, _, _, _, _, _, _, _, _, _, 0, _, _, _, (hG1.wm0 (th' := 0) (oc' := 0) (a' := 0) (s' := true) (by omega)).wno (g := mBeg f), ps_begin hP, by omega, hu⟩
