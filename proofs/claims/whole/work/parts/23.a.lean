/-! ===== the answers of both games are the same ===== -/
/-- a call of the class and the same call of the reference -/
def SemV {α : Type} (mk : α → Value) (ok : α → Prop) (l : Launch) (D : va_G) (cI cJ : ClassId) (A : Nat → Prop) (b L : Nat) (xs : Nat → Int32) (xo mo out : Nat) (yx : MethodName) (ccx : ByteArray) (nx : Nat) (rx : Option FieldType) (ym : MethodName) (ccm : ByteArray) (nm : Nat) (rm : Option FieldType) (As : List Value) : Prop :=
  ∀ (k : Nat) (M : MP) (u sz : Nat), k < 512 → (∀ q, sz ≤ q → A q) → GI cI cJ A b L xs xo mo out k M u → ∃ (d : Nat) (v : α) (Rm : MP → Prop), d ≤ 11 ∧ ok v ∧ (∃ fs, M xo = some (.inr (2, fs))) ∧ Wr l yx ccx nx rx d 0 0 D cI cJ (.ref xo :: As) M sz A (some (mk v)) Rm ∧
    ∀ M1, Rm M1 → (∃ fs, M1 mo = some (.inr (3, fs))) ∧ ScrP b L xs ∧ ∀ sz1, ∃ (d2 : Nat) (Rm2 : MP → Prop), d2 ≤ 11 ∧ Wr l ym ccm nm rm d2 0 0 D cI cJ (.ref mo :: As) M1 sz1 A (some (mk v)) Rm2 ∧ ∀ M2, Rm2 M2 → GI cI cJ A b L xs xo mo out (k + 1) M2 u
theorem r_wta {f : Nat → Int32} {K : Nat → BitVec 64} {pp : Nat → Int32} {w bk : BitVec 64} {wa : Bool} (h : Rel f K pp w bk wa) : decide (f 128 = nI 8) = wa := by
  rw [h.2.2.2.2.2]; cases wa <;> decide
theorem sem_isSetup (l : Launch) {D : va_G} {cI cJ : ClassId} {A : Nat → Prop} {b L : Nat} {xs : Nat → Int32} {xo mo out : Nat} : SemV .int (fun _ => True) l D cI cJ A b L xs xo mo out yX3_isSetup cX3_isSetup 1 (some .boolean) yX4_isSetup cX4_isSetup 1 (some .boolean) [] := by
  intro k M u sz hk hAn hg
  obtain ⟨tr, tk, tp, cn, N, su, pa, po, okk, pt, K, pp, w, bk, wa, ca, qu, ve, ro, no, fi, se, t3, le, od, th, oc, nr, rwv, f, hG, hP, hN, hu⟩ := hg
  have hC := hG.1
  have hb := hG.2.2.1
  have hxo := hC.1
  obtain ⟨⟨g1, g2, g3, lf, ⟨hmo, hro, hno, hfi, hse, ht3, hle, hap⟩, hL⟩, hAm, hn1, hn2, hn3⟩ := hG.2.1
  obtain ⟨⟨hcn, hq0, hc0, hc8⟩, ⟨hPo, ⟨hq, hq2⟩, hcap⟩, ⟨hoc, hve⟩, hset, hply⟩ := id hP
  obtain ⟨hr, hku, hO, hNr⟩ := id hPo
  have hpg : M (pa cn) = some (.inr (0, [.ref (po cn), pgV pa cn, .int (nI cn), afV pa N cn, .int (nI (ca cn)), .int (nI (qu cn)), .int (nI (ve cn))])) := hC.2.1.1 cn hcn
  obtain ⟨hpo, hokk, hpt⟩ := id (hC.2.1.2.1 cn hcn)
  have hA_mo := hAm mo (Or.inl rfl)
  have hA_fi := hAm fi (Or.inr (Or.inr (Or.inr (Or.inl rfl))))
  have hA_no := hAm no (Or.inr (Or.inr (Or.inl rfl)))
  have hw := hPo.wfr
  have hW := hPo.wfpt
  have hve2 : ve cn < 2 ^ 31 := by omega
  have hoc2 : oc < 2 ^ 31 := by omega
  refine ⟨_, bI su, _, by decide, trivial, ⟨_, hxo⟩, met_X3_isSetup l (hxo := hxo), fun M1 h1 => ?_⟩
  subst h1
  refine ⟨⟨_, hmo⟩, hb, fun sz1 => ⟨0, _, by decide, met_X4_isSetup l (hmo := hmo) (hA_mo := hA_mo), fun M2 h2 => ?_⟩⟩
  rw [h2]
  exact ⟨tr, tk, tp, cn, N, su, pa, po, okk, pt, K, pp, w, bk, wa, ca, qu, ve, ro, no, fi, se, t3, le, od, _, oc, nr, rwv, f, hG.wmo, hP, by omega, hu⟩
theorem sem_whiteToAct (l : Launch) {D : va_G} {cI cJ : ClassId} {A : Nat → Prop} {b L : Nat} {xs : Nat → Int32} {xo mo out : Nat} : SemV .int (fun _ => True) l D cI cJ A b L xs xo mo out yX3_whiteToAct cX3_whiteToAct 1 (some .boolean) yX4_whiteToAct cX4_whiteToAct 1 (some .boolean) [] := by
  intro k M u sz hk hAn hg
  obtain ⟨tr, tk, tp, cn, N, su, pa, po, okk, pt, K, pp, w, bk, wa, ca, qu, ve, ro, no, fi, se, t3, le, od, th, oc, nr, rwv, f, hG, hP, hN, hu⟩ := hg
  have hC := hG.1
  have hb := hG.2.2.1
  have hxo := hC.1
  obtain ⟨⟨g1, g2, g3, lf, ⟨hmo, hro, hno, hfi, hse, ht3, hle, hap⟩, hL⟩, hAm, hn1, hn2, hn3⟩ := hG.2.1
  obtain ⟨⟨hcn, hq0, hc0, hc8⟩, ⟨hPo, ⟨hq, hq2⟩, hcap⟩, ⟨hoc, hve⟩, hset, hply⟩ := id hP
  obtain ⟨hr, hku, hO, hNr⟩ := id hPo
  have hpg : M (pa cn) = some (.inr (0, [.ref (po cn), pgV pa cn, .int (nI cn), afV pa N cn, .int (nI (ca cn)), .int (nI (qu cn)), .int (nI (ve cn))])) := hC.2.1.1 cn hcn
  obtain ⟨hpo, hokk, hpt⟩ := id (hC.2.1.2.1 cn hcn)
  have hA_mo := hAm mo (Or.inl rfl)
  have hA_fi := hAm fi (Or.inr (Or.inr (Or.inr (Or.inl rfl))))
  have hA_no := hAm no (Or.inr (Or.inr (Or.inl rfl)))
  have hw := hPo.wfr
  have hW := hPo.wfpt
  have hve2 : ve cn < 2 ^ 31 := by omega
  have hoc2 : oc < 2 ^ 31 := by omega
  refine ⟨_, bI (wa cn), _, by decide, trivial, ⟨_, hxo⟩, met_X3_whiteToAct l (hxo := hxo) (hpg := hpg) (hpo := hpo), fun M1 h1 => ?_⟩
  subst h1
  have eq : wa cn = decide (f 128 = nI 8) := (r_wta hr).symm
  refine ⟨⟨_, hmo⟩, hb, fun sz1 => ⟨0, _, by decide, by rw [eq]; exact met_X4_whiteToAct l (hmo := hmo) (hno := hno) (hA_mo := hA_mo), fun M2 h2 => ?_⟩⟩
  rw [h2]
  exact ⟨tr, tk, tp, cn, N, su, pa, po, okk, pt, K, pp, w, bk, wa, ca, qu, ve, ro, no, fi, se, t3, le, od, _, oc, nr, rwv, f, hG.wmo, hP, by omega, hu⟩
theorem sem_piecesOf (l : Launch) {D : va_G} {cI cJ : ClassId} {A : Nat → Prop} {b L : Nat} {xs : Nat → Int32} {xo mo out : Nat} (d : Bool) : SemV (fun x => .long (bL x)) (fun _ => True) l D cI cJ A b L xs xo mo out yX3_piecesOf cX3_piecesOf 2 (some .long) yX4_piecesOf cX4_piecesOf 5 (some .long) [.int (bI d)] := by
  intro k M u sz hk hAn hg
  obtain ⟨tr, tk, tp, cn, N, su, pa, po, okk, pt, K, pp, w, bk, wa, ca, qu, ve, ro, no, fi, se, t3, le, od, th, oc, nr, rwv, f, hG, hP, hN, hu⟩ := hg
  have hC := hG.1
  have hb := hG.2.2.1
  have hxo := hC.1
  obtain ⟨⟨g1, g2, g3, lf, ⟨hmo, hro, hno, hfi, hse, ht3, hle, hap⟩, hL⟩, hAm, hn1, hn2, hn3⟩ := hG.2.1
  obtain ⟨⟨hcn, hq0, hc0, hc8⟩, ⟨hPo, ⟨hq, hq2⟩, hcap⟩, ⟨hoc, hve⟩, hset, hply⟩ := id hP
  obtain ⟨hr, hku, hO, hNr⟩ := id hPo
  have hpg : M (pa cn) = some (.inr (0, [.ref (po cn), pgV pa cn, .int (nI cn), afV pa N cn, .int (nI (ca cn)), .int (nI (qu cn)), .int (nI (ve cn))])) := hC.2.1.1 cn hcn
  obtain ⟨hpo, hokk, hpt⟩ := id (hC.2.1.2.1 cn hcn)
  have hA_mo := hAm mo (Or.inl rfl)
  have hA_fi := hAm fi (Or.inr (Or.inr (Or.inr (Or.inl rfl))))
  have hA_no := hAm no (Or.inr (Or.inr (Or.inl rfl)))
  have hw := hPo.wfr
  have hW := hPo.wfpt
  have hve2 : ve cn < 2 ^ 31 := by omega
  have hoc2 : oc < 2 ^ 31 := by omega
  refine ⟨_, kSide (w cn) (bk cn) d, _, by decide, trivial, ⟨_, hxo⟩, met_X3_piecesOf l (b := d) (hxo := hxo) (hpg := hpg) (hpo := hpo), fun M1 h1 => ?_⟩
  subst h1
  have eq : kSide (w cn) (bk cn) d = mOfSet f (sdN d) := (r_ofSet hr d).symm
  refine ⟨⟨_, hmo⟩, hb, fun sz1 => ⟨1, _, by decide, by rw [eq]; exact met_X4_piecesOf l (b := d) (hmo := hmo) (hno := hno) (hA_mo := hA_mo), fun M2 h2 => ?_⟩⟩
  rw [h2]
  exact ⟨tr, tk, tp, cn, N, su, pa, po, okk, pt, K, pp, w, bk, wa, ca, qu, ve, ro, no, fi, se, t3, le, od, _, oc, nr, rwv, f, hG.wmo, hP, by omega, hu⟩
theorem sem_kingSquare (l : Launch) {D : va_G} {cI cJ : ClassId} {A : Nat → Prop} {b L : Nat} {xs : Nat → Int32} {xo mo out : Nat} (d : Bool) : SemV .int (fun _ => True) l D cI cJ A b L xs xo mo out yX3_kingSquare cX3_kingSquare 2 (some .int) yX4_kingSquare cX4_kingSquare 2 (some .int) [.int (bI d)] := by
  intro k M u sz hk hAn hg
  obtain ⟨tr, tk, tp, cn, N, su, pa, po, okk, pt, K, pp, w, bk, wa, ca, qu, ve, ro, no, fi, se, t3, le, od, th, oc, nr, rwv, f, hG, hP, hN, hu⟩ := hg
  have hC := hG.1
  have hb := hG.2.2.1
  have hxo := hC.1
  obtain ⟨⟨g1, g2, g3, lf, ⟨hmo, hro, hno, hfi, hse, ht3, hle, hap⟩, hL⟩, hAm, hn1, hn2, hn3⟩ := hG.2.1
  obtain ⟨⟨hcn, hq0, hc0, hc8⟩, ⟨hPo, ⟨hq, hq2⟩, hcap⟩, ⟨hoc, hve⟩, hset, hply⟩ := id hP
  obtain ⟨hr, hku, hO, hNr⟩ := id hPo
  have hpg : M (pa cn) = some (.inr (0, [.ref (po cn), pgV pa cn, .int (nI cn), afV pa N cn, .int (nI (ca cn)), .int (nI (qu cn)), .int (nI (ve cn))])) := hC.2.1.1 cn hcn
  obtain ⟨hpo, hokk, hpt⟩ := id (hC.2.1.2.1 cn hcn)
  have hA_mo := hAm mo (Or.inl rfl)
  have hA_fi := hAm fi (Or.inr (Or.inr (Or.inr (Or.inl rfl))))
  have hA_no := hAm no (Or.inr (Or.inr (Or.inl rfl)))
  have hw := hPo.wfr
  have hW := hPo.wfpt
  have hve2 : ve cn < 2 ^ 31 := by omega
  have hoc2 : oc < 2 ^ 31 := by omega
  refine ⟨_, kLow (K cn 1 &&& kSide (w cn) (bk cn) d), _, by decide, trivial, ⟨_, hxo⟩, met_X3_kingSquare l (b := d) (hxo := hxo) (hpg := hpg) (hpo := hpo) (hokk := hokk), fun M1 h1 => ?_⟩
  subst h1
  have eq : kLow (K cn 1 &&& kSide (w cn) (bk cn) d) = oI (mKing f (sdN d)) := r_low hr hku d
  refine ⟨⟨_, hmo⟩, hb, fun sz1 => ⟨2, _, by decide, by rw [eq]; exact met_X4_kingSquare l (b := d) (hmo := hmo) (hno := hno) (hA_mo := hA_mo), fun M2 h2 => ?_⟩⟩
  rw [h2]
  exact ⟨tr, tk, tp, cn, N, su, pa, po, okk, pt, K, pp, w, bk, wa, ca, qu, ve, ro, no, fi, se, t3, le, od, _, oc, nr, rwv, f, hG.wmo, hP, by omega, hu⟩
theorem sem_bondCount (l : Launch) {D : va_G} {cI cJ : ClassId} {A : Nat → Prop} {b L : Nat} {xs : Nat → Int32} {xo mo out : Nat} (d : Bool) : SemV .int (fun _ => True) l D cI cJ A b L xs xo mo out yX3_bondCount cX3_bondCount 2 (some .int) yX4_bondCount cX4_bondCount 4 (some .int) [.int (bI d)] := by
  intro k M u sz hk hAn hg
  obtain ⟨tr, tk, tp, cn, N, su, pa, po, okk, pt, K, pp, w, bk, wa, ca, qu, ve, ro, no, fi, se, t3, le, od, th, oc, nr, rwv, f, hG, hP, hN, hu⟩ := hg
  have hC := hG.1
  have hb := hG.2.2.1
  have hxo := hC.1
  obtain ⟨⟨g1, g2, g3, lf, ⟨hmo, hro, hno, hfi, hse, ht3, hle, hap⟩, hL⟩, hAm, hn1, hn2, hn3⟩ := hG.2.1
  obtain ⟨⟨hcn, hq0, hc0, hc8⟩, ⟨hPo, ⟨hq, hq2⟩, hcap⟩, ⟨hoc, hve⟩, hset, hply⟩ := id hP
  obtain ⟨hr, hku, hO, hNr⟩ := id hPo
  have hpg : M (pa cn) = some (.inr (0, [.ref (po cn), pgV pa cn, .int (nI cn), afV pa N cn, .int (nI (ca cn)), .int (nI (qu cn)), .int (nI (ve cn))])) := hC.2.1.1 cn hcn
  obtain ⟨hpo, hokk, hpt⟩ := id (hC.2.1.2.1 cn hcn)
  have hA_mo := hAm mo (Or.inl rfl)
  have hA_fi := hAm fi (Or.inr (Or.inr (Or.inr (Or.inl rfl))))
  have hA_no := hAm no (Or.inr (Or.inr (Or.inl rfl)))
  have hw := hPo.wfr
  have hW := hPo.wfpt
  have hve2 : ve cn < 2 ^ 31 := by omega
  have hoc2 : oc < 2 ^ 31 := by omega
  refine ⟨_, nI (pcnt (kBnd (pp cn) (w cn) (bk cn) d) / 2), _, by decide, trivial, ⟨_, hxo⟩, met_X3_bondCount l (b := d) (hxo := hxo) (hpg := hpg) (hpo := hpo) (hpt := hpt), fun M1 h1 => ?_⟩
  subst h1
  have eq : pcnt (kBnd (pp cn) (w cn) (bk cn) d) / 2 = mBonds f (sdN d) := r_bonds hr hO d
  refine ⟨⟨_, hmo⟩, hb, fun sz1 => ⟨1, _, by decide, by rw [eq]; exact met_X4_bondCount l (b := d) (hmo := hmo) (hno := hno) (hA_mo := hA_mo), fun M2 h2 => ?_⟩⟩
  rw [h2]
  exact ⟨tr, tk, tp, cn, N, su, pa, po, okk, pt, K, pp, w, bk, wa, ca, qu, ve, ro, no, fi, se, t3, le, od, _, oc, nr, rwv, f, hG.wmo, hP, by omega, hu⟩
theorem sem_longestBond (l : Launch) {D : va_G} {cI cJ : ClassId} {A : Nat → Prop} {b L : Nat} {xs : Nat → Int32} {xo mo out : Nat} (d : Bool) : SemV .int (fun _ => True) l D cI cJ A b L xs xo mo out yX3_longestBond cX3_longestBond 7 (some .int) yX4_longestBond cX4_longestBond 4 (some .int) [.int (bI d)] := by
  intro k M u sz hk hAn hg
  obtain ⟨tr, tk, tp, cn, N, su, pa, po, okk, pt, K, pp, w, bk, wa, ca, qu, ve, ro, no, fi, se, t3, le, od, th, oc, nr, rwv, f, hG, hP, hN, hu⟩ := hg
  have hC := hG.1
  have hb := hG.2.2.1
  have hxo := hC.1
  obtain ⟨⟨g1, g2, g3, lf, ⟨hmo, hro, hno, hfi, hse, ht3, hle, hap⟩, hL⟩, hAm, hn1, hn2, hn3⟩ := hG.2.1
  obtain ⟨⟨hcn, hq0, hc0, hc8⟩, ⟨hPo, ⟨hq, hq2⟩, hcap⟩, ⟨hoc, hve⟩, hset, hply⟩ := id hP
  obtain ⟨hr, hku, hO, hNr⟩ := id hPo
  have hpg : M (pa cn) = some (.inr (0, [.ref (po cn), pgV pa cn, .int (nI cn), afV pa N cn, .int (nI (ca cn)), .int (nI (qu cn)), .int (nI (ve cn))])) := hC.2.1.1 cn hcn
  obtain ⟨hpo, hokk, hpt⟩ := id (hC.2.1.2.1 cn hcn)
  have hA_mo := hAm mo (Or.inl rfl)
  have hA_fi := hAm fi (Or.inr (Or.inr (Or.inr (Or.inl rfl))))
  have hA_no := hAm no (Or.inr (Or.inr (Or.inl rfl)))
  have hw := hPo.wfr
  have hW := hPo.wfpt
  have hve2 : ve cn < 2 ^ 31 := by omega
  have hoc2 : oc < 2 ^ 31 := by omega
  refine ⟨_, nI (kLong (pp cn) (w cn) (bk cn) d), _, by decide, trivial, ⟨_, hxo⟩, met_X3_longestBond l (b := d) (hxo := hxo) (hpg := hpg) (hpo := hpo) (hpt := hpt) (hW := hW), fun M1 h1 => ?_⟩
  subst h1
  have eq : kLong (pp cn) (w cn) (bk cn) d = mLong f (sdN d) := r_long hr d
  refine ⟨⟨_, hmo⟩, hb, fun sz1 => ⟨1, _, by decide, by rw [eq]; exact met_X4_longestBond l (b := d) (hmo := hmo) (hno := hno) (hA_mo := hA_mo) (hle := hle) (hB := hw.2.1) (hL := hL), fun M2 h2 => ?_⟩⟩
  rw [h2]
  exact ⟨tr, tk, tp, cn, N, su, pa, po, okk, pt, K, pp, w, bk, wa, ca, qu, ve, ro, no, fi, se, t3, le, od, _, oc, nr, rwv, f, hG.wmo, hP, by omega, hu⟩
theorem sem_attackedSquares (l : Launch) {D : va_G} {cI cJ : ClassId} {A : Nat → Prop} {b L : Nat} {xs : Nat → Int32} {xo mo out : Nat} (d : Bool) : SemV (fun x => .long (bL x)) (fun _ => True) l D cI cJ A b L xs xo mo out yX3_attackedSquares cX3_attackedSquares 2 (some .long) yX4_attackedSquares cX4_attackedSquares 2 (some .long) [.int (bI d)] := by
  intro k M u sz hk hAn hg
  obtain ⟨tr, tk, tp, cn, N, su, pa, po, okk, pt, K, pp, w, bk, wa, ca, qu, ve, ro, no, fi, se, t3, le, od, th, oc, nr, rwv, f, hG, hP, hN, hu⟩ := hg
  have hC := hG.1
  have hb := hG.2.2.1
  have hxo := hC.1
  obtain ⟨⟨g1, g2, g3, lf, ⟨hmo, hro, hno, hfi, hse, ht3, hle, hap⟩, hL⟩, hAm, hn1, hn2, hn3⟩ := hG.2.1
  obtain ⟨⟨hcn, hq0, hc0, hc8⟩, ⟨hPo, ⟨hq, hq2⟩, hcap⟩, ⟨hoc, hve⟩, hset, hply⟩ := id hP
  obtain ⟨hr, hku, hO, hNr⟩ := id hPo
  have hpg : M (pa cn) = some (.inr (0, [.ref (po cn), pgV pa cn, .int (nI cn), afV pa N cn, .int (nI (ca cn)), .int (nI (qu cn)), .int (nI (ve cn))])) := hC.2.1.1 cn hcn
  obtain ⟨hpo, hokk, hpt⟩ := id (hC.2.1.2.1 cn hcn)
  have hA_mo := hAm mo (Or.inl rfl)
  have hA_fi := hAm fi (Or.inr (Or.inr (Or.inr (Or.inl rfl))))
  have hA_no := hAm no (Or.inr (Or.inr (Or.inl rfl)))
  have hw := hPo.wfr
  have hW := hPo.wfpt
  have hve2 : ve cn < 2 ^ 31 := by omega
  have hoc2 : oc < 2 ^ 31 := by omega
  refine ⟨_, kAtd (K cn) (w cn) (bk cn) d, _, by decide, trivial, ⟨_, hxo⟩, met_X3_attackedSquares l (b := d) (hxo := hxo) (hpg := hpg) (hpo := hpo) (hokk := hokk), fun M1 h1 => ?_⟩
  subst h1
  have eq : kAtd (K cn) (w cn) (bk cn) d = mAttSet f (sdN d) := r_atd hr d
  refine ⟨⟨_, hmo⟩, hb, fun sz1 => ⟨5, _, by decide, by rw [eq]; exact met_X4_attackedSquares l (b := d) (hmo := hmo) (hno := hno) (hA_mo := hA_mo), fun M2 h2 => ?_⟩⟩
  rw [h2]
  exact ⟨tr, tk, tp, cn, N, su, pa, po, okk, pt, K, pp, w, bk, wa, ca, qu, ve, ro, no, fi, se, t3, le, od, _, oc, nr, rwv, f, hG.wmo, hP, by omega, hu⟩
theorem sem_isInCheck (l : Launch) {D : va_G} {cI cJ : ClassId} {A : Nat → Prop} {b L : Nat} {xs : Nat → Int32} {xo mo out : Nat} (d : Bool) : SemV .int (fun _ => True) l D cI cJ A b L xs xo mo out yX3_isInCheck cX3_isInCheck 2 (some .boolean) yX4_isInCheck cX4_isInCheck 2 (some .boolean) [.int (bI d)] := by
  intro k M u sz hk hAn hg
  obtain ⟨tr, tk, tp, cn, N, su, pa, po, okk, pt, K, pp, w, bk, wa, ca, qu, ve, ro, no, fi, se, t3, le, od, th, oc, nr, rwv, f, hG, hP, hN, hu⟩ := hg
  have hC := hG.1
  have hb := hG.2.2.1
  have hxo := hC.1
  obtain ⟨⟨g1, g2, g3, lf, ⟨hmo, hro, hno, hfi, hse, ht3, hle, hap⟩, hL⟩, hAm, hn1, hn2, hn3⟩ := hG.2.1
  obtain ⟨⟨hcn, hq0, hc0, hc8⟩, ⟨hPo, ⟨hq, hq2⟩, hcap⟩, ⟨hoc, hve⟩, hset, hply⟩ := id hP
  obtain ⟨hr, hku, hO, hNr⟩ := id hPo
  have hpg : M (pa cn) = some (.inr (0, [.ref (po cn), pgV pa cn, .int (nI cn), afV pa N cn, .int (nI (ca cn)), .int (nI (qu cn)), .int (nI (ve cn))])) := hC.2.1.1 cn hcn
  obtain ⟨hpo, hokk, hpt⟩ := id (hC.2.1.2.1 cn hcn)
  have hA_mo := hAm mo (Or.inl rfl)
  have hA_fi := hAm fi (Or.inr (Or.inr (Or.inr (Or.inl rfl))))
  have hA_no := hAm no (Or.inr (Or.inr (Or.inl rfl)))
  have hw := hPo.wfr
  have hW := hPo.wfpt
  have hve2 : ve cn < 2 ^ 31 := by omega
  have hoc2 : oc < 2 ^ 31 := by omega
  refine ⟨_, bI (kChk (K cn) (w cn) (bk cn) d), _, by decide, trivial, ⟨_, hxo⟩, met_X3_isInCheck l (b := d) (hxo := hxo) (hpg := hpg) (hpo := hpo) (hokk := hokk), fun M1 h1 => ?_⟩
  subst h1
  have eq : kChk (K cn) (w cn) (bk cn) d = mInCheck f (sdN d) := r_chk hr hku d
  refine ⟨⟨_, hmo⟩, hb, fun sz1 => ⟨5, _, by decide, by rw [eq]; exact met_X4_isInCheck l (b := d) (hmo := hmo) (hno := hno) (hA_mo := hA_mo), fun M2 h2 => ?_⟩⟩
  rw [h2]
  exact ⟨tr, tk, tp, cn, N, su, pa, po, okk, pt, K, pp, w, bk, wa, ca, qu, ve, ro, no, fi, se, t3, le, od, _, oc, nr, rwv, f, hG.wmo, hP, by omega, hu⟩
theorem sem_actionCount (l : Launch) {D : va_G} {cI cJ : ClassId} {A : Nat → Prop} {b L : Nat} {xs : Nat → Int32} {xo mo out : Nat} : SemV .int (fun _ => True) l D cI cJ A b L xs xo mo out yX3_actionCount cX3_actionCount 1 (some .int) yX4_actionCount cX4_actionCount 1 (some .int) [] := by
  intro k M u sz hk hAn hg
  obtain ⟨tr, tk, tp, cn, N, su, pa, po, okk, pt, K, pp, w, bk, wa, ca, qu, ve, ro, no, fi, se, t3, le, od, th, oc, nr, rwv, f, hG, hP, hN, hu⟩ := hg
  have hC := hG.1
  have hb := hG.2.2.1
  have hxo := hC.1
  obtain ⟨⟨g1, g2, g3, lf, ⟨hmo, hro, hno, hfi, hse, ht3, hle, hap⟩, hL⟩, hAm, hn1, hn2, hn3⟩ := hG.2.1
  obtain ⟨⟨hcn, hq0, hc0, hc8⟩, ⟨hPo, ⟨hq, hq2⟩, hcap⟩, ⟨hoc, hve⟩, hset, hply⟩ := id hP
  obtain ⟨hr, hku, hO, hNr⟩ := id hPo
  have hpg : M (pa cn) = some (.inr (0, [.ref (po cn), pgV pa cn, .int (nI cn), afV pa N cn, .int (nI (ca cn)), .int (nI (qu cn)), .int (nI (ve cn))])) := hC.2.1.1 cn hcn
  obtain ⟨hpo, hokk, hpt⟩ := id (hC.2.1.2.1 cn hcn)
  have hA_mo := hAm mo (Or.inl rfl)
  have hA_fi := hAm fi (Or.inr (Or.inr (Or.inr (Or.inl rfl))))
  have hA_no := hAm no (Or.inr (Or.inr (Or.inl rfl)))
  have hw := hPo.wfr
  have hW := hPo.wfpt
  have hve2 : ve cn < 2 ^ 31 := by omega
  have hoc2 : oc < 2 ^ 31 := by omega
  refine ⟨_, nI cn, _, by decide, trivial, ⟨_, hxo⟩, met_X3_actionCount l (hxo := hxo) (hpg := hpg), fun M1 h1 => ?_⟩
  subst h1
  refine ⟨⟨_, hmo⟩, hb, fun sz1 => ⟨0, _, by decide, met_X4_actionCount l (hmo := hmo) (hA_mo := hA_mo), fun M2 h2 => ?_⟩⟩
  rw [h2]
  exact ⟨tr, tk, tp, cn, N, su, pa, po, okk, pt, K, pp, w, bk, wa, ca, qu, ve, ro, no, fi, se, t3, le, od, _, oc, nr, rwv, f, hG.wmo, hP, by omega, hu⟩
theorem sem_outcome (l : Launch) {D : va_G} {cI cJ : ClassId} {A : Nat → Prop} {b L : Nat} {xs : Nat → Int32} {xo mo out : Nat} : SemV .int (fun _ => True) l D cI cJ A b L xs xo mo out yX3_outcome cX3_outcome 1 (some .int) yX4_outcome cX4_outcome 1 (some .int) [] := by
  intro k M u sz hk hAn hg
  obtain ⟨tr, tk, tp, cn, N, su, pa, po, okk, pt, K, pp, w, bk, wa, ca, qu, ve, ro, no, fi, se, t3, le, od, th, oc, nr, rwv, f, hG, hP, hN, hu⟩ := hg
  have hC := hG.1
  have hb := hG.2.2.1
  have hxo := hC.1
  obtain ⟨⟨g1, g2, g3, lf, ⟨hmo, hro, hno, hfi, hse, ht3, hle, hap⟩, hL⟩, hAm, hn1, hn2, hn3⟩ := hG.2.1
  obtain ⟨⟨hcn, hq0, hc0, hc8⟩, ⟨hPo, ⟨hq, hq2⟩, hcap⟩, ⟨hoc, hve⟩, hset, hply⟩ := id hP
  obtain ⟨hr, hku, hO, hNr⟩ := id hPo
  have hpg : M (pa cn) = some (.inr (0, [.ref (po cn), pgV pa cn, .int (nI cn), afV pa N cn, .int (nI (ca cn)), .int (nI (qu cn)), .int (nI (ve cn))])) := hC.2.1.1 cn hcn
  obtain ⟨hpo, hokk, hpt⟩ := id (hC.2.1.2.1 cn hcn)
  have hA_mo := hAm mo (Or.inl rfl)
  have hA_fi := hAm fi (Or.inr (Or.inr (Or.inr (Or.inl rfl))))
  have hA_no := hAm no (Or.inr (Or.inr (Or.inl rfl)))
  have hw := hPo.wfr
  have hW := hPo.wfpt
  have hve2 : ve cn < 2 ^ 31 := by omega
  have hoc2 : oc < 2 ^ 31 := by omega
  refine ⟨_, nI (ve cn), _, by decide, trivial, ⟨_, hxo⟩, met_X3_outcome l (hxo := hxo) (hpg := hpg), fun M1 h1 => ?_⟩
  subst h1
  have eq : ve cn = oc := hoc.symm
  refine ⟨⟨_, hmo⟩, hb, fun sz1 => ⟨0, _, by decide, by rw [eq]; exact met_X4_outcome l (hmo := hmo) (hA_mo := hA_mo), fun M2 h2 => ?_⟩⟩
  rw [h2]
  exact ⟨tr, tk, tp, cn, N, su, pa, po, okk, pt, K, pp, w, bk, wa, ca, qu, ve, ro, no, fi, se, t3, le, od, _, oc, nr, rwv, f, hG.wmo, hP, by omega, hu⟩
theorem sem_quietActions (l : Launch) {D : va_G} {cI cJ : ClassId} {A : Nat → Prop} {b L : Nat} {xs : Nat → Int32} {xo mo out : Nat} : SemV .int (fun _ => True) l D cI cJ A b L xs xo mo out yX3_quietActions cX3_quietActions 1 (some .int) yX4_quietActions cX4_quietActions 1 (some .int) [] := by
  intro k M u sz hk hAn hg
  obtain ⟨tr, tk, tp, cn, N, su, pa, po, okk, pt, K, pp, w, bk, wa, ca, qu, ve, ro, no, fi, se, t3, le, od, th, oc, nr, rwv, f, hG, hP, hN, hu⟩ := hg
  have hC := hG.1
  have hb := hG.2.2.1
  have hxo := hC.1
  obtain ⟨⟨g1, g2, g3, lf, ⟨hmo, hro, hno, hfi, hse, ht3, hle, hap⟩, hL⟩, hAm, hn1, hn2, hn3⟩ := hG.2.1
  obtain ⟨⟨hcn, hq0, hc0, hc8⟩, ⟨hPo, ⟨hq, hq2⟩, hcap⟩, ⟨hoc, hve⟩, hset, hply⟩ := id hP
  obtain ⟨hr, hku, hO, hNr⟩ := id hPo
  have hpg : M (pa cn) = some (.inr (0, [.ref (po cn), pgV pa cn, .int (nI cn), afV pa N cn, .int (nI (ca cn)), .int (nI (qu cn)), .int (nI (ve cn))])) := hC.2.1.1 cn hcn
  obtain ⟨hpo, hokk, hpt⟩ := id (hC.2.1.2.1 cn hcn)
  have hA_mo := hAm mo (Or.inl rfl)
  have hA_fi := hAm fi (Or.inr (Or.inr (Or.inr (Or.inl rfl))))
  have hA_no := hAm no (Or.inr (Or.inr (Or.inl rfl)))
  have hw := hPo.wfr
  have hW := hPo.wfpt
  have hve2 : ve cn < 2 ^ 31 := by omega
  have hoc2 : oc < 2 ^ 31 := by omega
  refine ⟨_, nI (qu cn), _, by decide, trivial, ⟨_, hxo⟩, met_X3_quietActions l (hxo := hxo) (hpg := hpg), fun M1 h1 => ?_⟩
  subst h1
  have eq : nI (qu cn) = f 129 := hq.symm
  refine ⟨⟨_, hmo⟩, hb, fun sz1 => ⟨0, _, by decide, by rw [eq]; exact met_X4_quietActions l (hmo := hmo) (hno := hno) (hA_mo := hA_mo), fun M2 h2 => ?_⟩⟩
  rw [h2]
  exact ⟨tr, tk, tp, cn, N, su, pa, po, okk, pt, K, pp, w, bk, wa, ca, qu, ve, ro, no, fi, se, t3, le, od, _, oc, nr, rwv, f, hG.wmo, hP, by omega, hu⟩
theorem sem_occurrences (l : Launch) {D : va_G} {cI cJ : ClassId} {A : Nat → Prop} {b L : Nat} {xs : Nat → Int32} {xo mo out : Nat} : SemV .int (fun _ => True) l D cI cJ A b L xs xo mo out yX3_occurrences cX3_occurrences 1 (some .int) yX4_occurrences cX4_occurrences 1 (some .int) [] := by
  intro k M u sz hk hAn hg
  obtain ⟨tr, tk, tp, cn, N, su, pa, po, okk, pt, K, pp, w, bk, wa, ca, qu, ve, ro, no, fi, se, t3, le, od, th, oc, nr, rwv, f, hG, hP, hN, hu⟩ := hg
  have hC := hG.1
  have hb := hG.2.2.1
  have hxo := hC.1
  obtain ⟨⟨g1, g2, g3, lf, ⟨hmo, hro, hno, hfi, hse, ht3, hle, hap⟩, hL⟩, hAm, hn1, hn2, hn3⟩ := hG.2.1
  obtain ⟨⟨hcn, hq0, hc0, hc8⟩, ⟨hPo, ⟨hq, hq2⟩, hcap⟩, ⟨hoc, hve⟩, hset, hply⟩ := id hP
  obtain ⟨hr, hku, hO, hNr⟩ := id hPo
  have hpg : M (pa cn) = some (.inr (0, [.ref (po cn), pgV pa cn, .int (nI cn), afV pa N cn, .int (nI (ca cn)), .int (nI (qu cn)), .int (nI (ve cn))])) := hC.2.1.1 cn hcn
  obtain ⟨hpo, hokk, hpt⟩ := id (hC.2.1.2.1 cn hcn)
  have hA_mo := hAm mo (Or.inl rfl)
  have hA_fi := hAm fi (Or.inr (Or.inr (Or.inr (Or.inl rfl))))
  have hA_no := hAm no (Or.inr (Or.inr (Or.inl rfl)))
  have hw := hPo.wfr
  have hW := hPo.wfpt
  have hve2 : ve cn < 2 ^ 31 := by omega
  have hoc2 : oc < 2 ^ 31 := by omega
  refine ⟨_, nI (if su then 0 else kTm K pp w bk wa cn), _, by decide, trivial, ⟨_, hxo⟩, met_X3_occurrences l (hxo := hxo) (hPs := hC.2.1) (hcn := hcn) (hN := by omega), fun M1 h1 => ?_⟩
  subst h1
  have eq : (if su then 0 else kTm K pp w bk wa cn) = (if su then 0 else mOcc rwv f cn) := by
    cases su
    · exact g_occ (fun i hi => ((hply rfl).1 i hi).1.1.1) hr
    · rfl
  refine ⟨⟨_, hmo⟩, hb, fun sz1 => ⟨2, _, by decide, by rw [eq]; exact met_X4_occurrences l (hmo := hmo) (hno := hno) (hro := hro) (hr1 := hn3) (hnr := by omega) (hA_mo := hA_mo), fun M2 h2 => ?_⟩⟩
  rw [h2]
  exact ⟨tr, tk, tp, cn, N, su, pa, po, okk, pt, K, pp, w, bk, wa, ca, qu, ve, ro, no, fi, se, t3, le, od, _, oc, nr, rwv, f, hG.wmo, hP, by omega, hu⟩
theorem sem_strengthOf (l : Launch) {D : va_G} {cI cJ : ClassId} {A : Nat → Prop} {b L : Nat} {xs : Nat → Int32} {xo mo out : Nat} (d : Bool) : SemV .float (fun x => ∃ s c q, FP.Core.val64 (FP.f2d x) = .fin s c q) l D cI cJ A b L xs xo mo out yX3_strengthOf cX3_strengthOf 7 (some .float) yX4_strengthOf cX4_strengthOf 2 (some .float) [.int (bI d)] := by
  intro k M u sz hk hAn hg
  obtain ⟨tr, tk, tp, cn, N, su, pa, po, okk, pt, K, pp, w, bk, wa, ca, qu, ve, ro, no, fi, se, t3, le, od, th, oc, nr, rwv, f, hG, hP, hN, hu⟩ := hg
  have hC := hG.1
  have hb := hG.2.2.1
  have hxo := hC.1
  obtain ⟨⟨g1, g2, g3, lf, ⟨hmo, hro, hno, hfi, hse, ht3, hle, hap⟩, hL⟩, hAm, hn1, hn2, hn3⟩ := hG.2.1
  obtain ⟨⟨hcn, hq0, hc0, hc8⟩, ⟨hPo, ⟨hq, hq2⟩, hcap⟩, ⟨hoc, hve⟩, hset, hply⟩ := id hP
  obtain ⟨hr, hku, hO, hNr⟩ := id hPo
  have hpg : M (pa cn) = some (.inr (0, [.ref (po cn), pgV pa cn, .int (nI cn), afV pa N cn, .int (nI (ca cn)), .int (nI (qu cn)), .int (nI (ve cn))])) := hC.2.1.1 cn hcn
  obtain ⟨hpo, hokk, hpt⟩ := id (hC.2.1.2.1 cn hcn)
  have hA_mo := hAm mo (Or.inl rfl)
  have hA_fi := hAm fi (Or.inr (Or.inr (Or.inr (Or.inl rfl))))
  have hA_no := hAm no (Or.inr (Or.inr (Or.inl rfl)))
  have hw := hPo.wfr
  have hW := hPo.wfpt
  have hve2 : ve cn < 2 ^ 31 := by omega
  have hoc2 : oc < 2 ^ 31 := by omega
  refine ⟨_, kSth (K cn) (pp cn) (w cn) (bk cn) d, _, by decide, (by rw [r_sth hr d]; exact f2d_v f (sdN d)), ⟨_, hxo⟩, met_X3_strengthOf l (b := d) (hxo := hxo) (hpg := hpg) (hpo := hpo) (hokk := hokk) (hpt := hpt) (hst := r_stOk hr d (stOk f (sdN d))), fun M1 h1 => ?_⟩
  subst h1
  have eq : kSth (K cn) (pp cn) (w cn) (bk cn) d = mSth f (sdN d) := r_sth hr d
  refine ⟨⟨_, hmo⟩, hb, fun sz1 => ⟨6, _, by decide, by rw [eq]; exact met_X4_strengthOf l (b := d) (hmo := hmo) (hno := hno) (hA_mo := hA_mo) (hst := stOk f (sdN d)), fun M2 h2 => ?_⟩⟩
  rw [h2]
  exact ⟨tr, tk, tp, cn, N, su, pa, po, okk, pt, K, pp, w, bk, wa, ca, qu, ve, ro, no, fi, se, t3, le, od, _, oc, nr, rwv, f, hG.wmo, hP, by omega, hu⟩
theorem sem_strengthBits (l : Launch) {D : va_G} {cI cJ : ClassId} {A : Nat → Prop} {b L : Nat} {xs : Nat → Int32} {xo mo out : Nat} (d : Bool) : SemV .int (fun _ => True) l D cI cJ A b L xs xo mo out yX3_strengthBits cX3_strengthBits 2 (some .int) yX4_strengthBits cX4_strengthBits 2 (some .int) [.int (bI d)] := by
  intro k M u sz hk hAn hg
  obtain ⟨tr, tk, tp, cn, N, su, pa, po, okk, pt, K, pp, w, bk, wa, ca, qu, ve, ro, no, fi, se, t3, le, od, th, oc, nr, rwv, f, hG, hP, hN, hu⟩ := hg
  have hC := hG.1
  have hb := hG.2.2.1
  have hxo := hC.1
  obtain ⟨⟨g1, g2, g3, lf, ⟨hmo, hro, hno, hfi, hse, ht3, hle, hap⟩, hL⟩, hAm, hn1, hn2, hn3⟩ := hG.2.1
  obtain ⟨⟨hcn, hq0, hc0, hc8⟩, ⟨hPo, ⟨hq, hq2⟩, hcap⟩, ⟨hoc, hve⟩, hset, hply⟩ := id hP
  obtain ⟨hr, hku, hO, hNr⟩ := id hPo
  have hpg : M (pa cn) = some (.inr (0, [.ref (po cn), pgV pa cn, .int (nI cn), afV pa N cn, .int (nI (ca cn)), .int (nI (qu cn)), .int (nI (ve cn))])) := hC.2.1.1 cn hcn
  obtain ⟨hpo, hokk, hpt⟩ := id (hC.2.1.2.1 cn hcn)
  have hA_mo := hAm mo (Or.inl rfl)
  have hA_fi := hAm fi (Or.inr (Or.inr (Or.inr (Or.inl rfl))))
  have hA_no := hAm no (Or.inr (Or.inr (Or.inl rfl)))
  have hw := hPo.wfr
  have hW := hPo.wfpt
  have hve2 : ve cn < 2 ^ 31 := by omega
  have hoc2 : oc < 2 ^ 31 := by omega
  refine ⟨_, flB (kSth (K cn) (pp cn) (w cn) (bk cn) d), _, by decide, trivial, ⟨_, hxo⟩, met_X3_strengthBits l (b := d) (hxo := hxo) (hpg := hpg) (hpo := hpo) (hokk := hokk) (hpt := hpt) (hst := r_stOk hr d (stOk f (sdN d))) (hfb := by rw [r_sth hr d]; exact sth_fb f (sdN d)), fun M1 h1 => ?_⟩
  subst h1
  have eq : kSth (K cn) (pp cn) (w cn) (bk cn) d = mSth f (sdN d) := r_sth hr d
  refine ⟨⟨_, hmo⟩, hb, fun sz1 => ⟨6, _, by decide, by rw [eq]; exact met_X4_strengthBits l (b := d) (hmo := hmo) (hno := hno) (hA_mo := hA_mo) (hst := stOk f (sdN d)), fun M2 h2 => ?_⟩⟩
  rw [h2]
  exact ⟨tr, tk, tp, cn, N, su, pa, po, okk, pt, K, pp, w, bk, wa, ca, qu, ve, ro, no, fi, se, t3, le, od, _, oc, nr, rwv, f, hG.wmo, hP, by omega, hu⟩
theorem sem_balance (l : Launch) {D : va_G} {cI cJ : ClassId} {A : Nat → Prop} {b L : Nat} {xs : Nat → Int32} {xo mo out : Nat} : SemV .double (fun x => FP.Core.val64 x ≠ .nan) l D cI cJ A b L xs xo mo out yX3_balance cX3_balance 1 (some .double) yX4_balance cX4_balance 1 (some .double) [] := by
  intro k M u sz hk hAn hg
  obtain ⟨tr, tk, tp, cn, N, su, pa, po, okk, pt, K, pp, w, bk, wa, ca, qu, ve, ro, no, fi, se, t3, le, od, th, oc, nr, rwv, f, hG, hP, hN, hu⟩ := hg
  have hC := hG.1
  have hb := hG.2.2.1
  have hxo := hC.1
  obtain ⟨⟨g1, g2, g3, lf, ⟨hmo, hro, hno, hfi, hse, ht3, hle, hap⟩, hL⟩, hAm, hn1, hn2, hn3⟩ := hG.2.1
  obtain ⟨⟨hcn, hq0, hc0, hc8⟩, ⟨hPo, ⟨hq, hq2⟩, hcap⟩, ⟨hoc, hve⟩, hset, hply⟩ := id hP
  obtain ⟨hr, hku, hO, hNr⟩ := id hPo
  have hpg : M (pa cn) = some (.inr (0, [.ref (po cn), pgV pa cn, .int (nI cn), afV pa N cn, .int (nI (ca cn)), .int (nI (qu cn)), .int (nI (ve cn))])) := hC.2.1.1 cn hcn
  obtain ⟨hpo, hokk, hpt⟩ := id (hC.2.1.2.1 cn hcn)
  have hA_mo := hAm mo (Or.inl rfl)
  have hA_fi := hAm fi (Or.inr (Or.inr (Or.inr (Or.inl rfl))))
  have hA_no := hAm no (Or.inr (Or.inr (Or.inl rfl)))
  have hw := hPo.wfr
  have hW := hPo.wfpt
  have hve2 : ve cn < 2 ^ 31 := by omega
  have hoc2 : oc < 2 ^ 31 := by omega
  refine ⟨_, FP.dsub (FP.f2d (kSth (K cn) (pp cn) (w cn) (bk cn) true)) (FP.f2d (kSth (K cn) (pp cn) (w cn) (bk cn) false)), _, by decide, (by rw [r_sth hr true, r_sth hr false]; exact bal_nn f), ⟨_, hxo⟩, met_X3_balance l (hxo := hxo) (hpg := hpg) (hpo := hpo) (hokk := hokk) (hpt := hpt) (hst := r_stOk hr true (stOk f (sdN true))) (hst2 := r_stOk hr false (stOk f (sdN false))) (hd1 := by rw [r_sth hr true]; exact dbOk f (sdN true)) (hd2 := by rw [r_sth hr false]; exact dbOk f (sdN false)) (hd3 := by rw [r_sth hr true, r_sth hr false]; exact balOk f), fun M1 h1 => ?_⟩
  subst h1
  have eq : FP.dsub (FP.f2d (kSth (K cn) (pp cn) (w cn) (bk cn) true)) (FP.f2d (kSth (K cn) (pp cn) (w cn) (bk cn) false)) = mBal f := by
    rw [r_sth hr true, r_sth hr false]; rfl
  refine ⟨⟨_, hmo⟩, hb, fun sz1 => ⟨6, _, by decide, by rw [eq]; exact met_X4_balance l (hmo := hmo) (hno := hno) (hA_mo := hA_mo) (hst := stOk f (sdN true)) (hst2 := stOk f (sdN false)) (hd1 := dbOk f (sdN true)) (hd2 := dbOk f (sdN false)) (hd3 := balOk f), fun M2 h2 => ?_⟩⟩
  rw [h2]
  exact ⟨tr, tk, tp, cn, N, su, pa, po, okk, pt, K, pp, w, bk, wa, ca, qu, ve, ro, no, fi, se, t3, le, od, _, oc, nr, rwv, f, hG.wmo, hP, by omega, hu⟩
theorem sem_legalMoveCount (l : Launch) {D : va_G} {cI cJ : ClassId} {A : Nat → Prop} {b L : Nat} {xs : Nat → Int32} {xo mo out : Nat} : SemV .int (fun _ => True) l D cI cJ A b L xs xo mo out yX3_legalMoveCount cX3_legalMoveCount 1 (some .int) yX4_legalMoveCount cX4_legalMoveCount 1 (some .int) [] := by
  intro k M u sz hk hAn hg
  obtain ⟨tr, tk, tp, cn, N, su, pa, po, okk, pt, K, pp, w, bk, wa, ca, qu, ve, ro, no, fi, se, t3, le, od, th, oc, nr, rwv, f, hG, hP, hN, hu⟩ := hg
  have hC := hG.1
  have hb := hG.2.2.1
  have hxo := hC.1
  obtain ⟨⟨g1, g2, g3, lf, ⟨hmo, hro, hno, hfi, hse, ht3, hle, hap⟩, hL⟩, hAm, hn1, hn2, hn3⟩ := hG.2.1
  obtain ⟨⟨hcn, hq0, hc0, hc8⟩, ⟨hPo, ⟨hq, hq2⟩, hcap⟩, ⟨hoc, hve⟩, hset, hply⟩ := id hP
  obtain ⟨hr, hku, hO, hNr⟩ := id hPo
  have hpg : M (pa cn) = some (.inr (0, [.ref (po cn), pgV pa cn, .int (nI cn), afV pa N cn, .int (nI (ca cn)), .int (nI (qu cn)), .int (nI (ve cn))])) := hC.2.1.1 cn hcn
  obtain ⟨hpo, hokk, hpt⟩ := id (hC.2.1.2.1 cn hcn)
  have hA_mo := hAm mo (Or.inl rfl)
  have hA_fi := hAm fi (Or.inr (Or.inr (Or.inr (Or.inl rfl))))
  have hA_no := hAm no (Or.inr (Or.inr (Or.inl rfl)))
  have hw := hPo.wfr
  have hW := hPo.wfpt
  have hve2 : ve cn < 2 ^ 31 := by omega
  have hoc2 : oc < 2 ^ 31 := by omega
  refine ⟨_, nI (if kPl su (ve cn) then kCnt (K cn) (pp cn) (w cn) (bk cn) (wa cn) else 0), _, by decide, trivial, ⟨_, hxo⟩, met_X3_legalMoveCount l (hxo := hxo) (hpg := hpg) (hpo := hpo) (hokk := hokk) (hpt := hpt) (hve := hve2) (hW := hW), fun M1 h1 => ?_⟩
  subst h1
  refine ⟨⟨_, hmo⟩, hb, fun sz1 => ?_⟩
  cases hpl : mPl su oc
  · have eq : kPl su (ve cn) = false := by rw [← hoc]; exact hpl
    refine ⟨7, _, by decide, by rw [eq]; exact met_X4_legalMoveCount_n l (hmo := hmo) (hoc := hoc2) (hpl := hpl) (hA_mo := hA_mo), fun M2 h2 => ?_⟩
    rw [h2]
    exact ⟨tr, tk, tp, cn, N, su, pa, po, okk, pt, K, pp, w, bk, wa, ca, qu, ve, ro, no, fi, se, t3, le, od, _, oc, nr, rwv, f, hG.wmo, hP, by omega, hu⟩
  · have eq : kPl su (ve cn) = true := by rw [← hoc]; exact hpl
    have eq2 : kCnt (K cn) (pp cn) (w cn) (bk cn) (wa cn) = mMoves f := r_cnt hr hku hO hNr
    refine ⟨7, _, by decide, by rw [eq, if_pos rfl, eq2]; exact met_X4_legalMoveCount l (hmo := hmo) (hno := hno) (hfi := hfi) (hle := hle) (hoc := hoc2) (hpl := hpl) (hP := hw.1) (hB := hw.2.1) (hs := hw.2.2) (hL := hL) (hnf := hap.2.1.1) (hlf := hap.2.2.1.2.2.symm) (hA_mo := hA_mo) (hA_fi := hA_fi), fun M2 h2 => ?_⟩
    obtain ⟨g4, h2⟩ := h2
    rw [h2]
    exact ⟨tr, tk, tp, cn, N, su, pa, po, okk, pt, K, pp, w, bk, wa, ca, qu, ve, ro, no, fi, se, t3, le, od, _, oc, nr, rwv, f, hG.wmo.wfi, hP, by omega, hu⟩
theorem sem_matingMove (l : Launch) {D : va_G} {cI cJ : ClassId} {A : Nat → Prop} {b L : Nat} {xs : Nat → Int32} {xo mo out : Nat} : SemV .int (fun _ => True) l D cI cJ A b L xs xo mo out yX3_matingMove cX3_matingMove 8 (some .int) yX4_matingMove cX4_matingMove 2 (some .int) [] := by
  intro k M u sz hk hAn hg
  obtain ⟨tr, tk, tp, cn, N, su, pa, po, okk, pt, K, pp, w, bk, wa, ca, qu, ve, ro, no, fi, se, t3, le, od, th, oc, nr, rwv, f, hG, hP, hN, hu⟩ := hg
  have hC := hG.1
  have hb := hG.2.2.1
  have hxo := hC.1
  obtain ⟨⟨g1, g2, g3, lf, ⟨hmo, hro, hno, hfi, hse, ht3, hle, hap⟩, hL⟩, hAm, hn1, hn2, hn3⟩ := hG.2.1
  obtain ⟨⟨hcn, hq0, hc0, hc8⟩, ⟨hPo, ⟨hq, hq2⟩, hcap⟩, ⟨hoc, hve⟩, hset, hply⟩ := id hP
  obtain ⟨hr, hku, hO, hNr⟩ := id hPo
  have hpg : M (pa cn) = some (.inr (0, [.ref (po cn), pgV pa cn, .int (nI cn), afV pa N cn, .int (nI (ca cn)), .int (nI (qu cn)), .int (nI (ve cn))])) := hC.2.1.1 cn hcn
  obtain ⟨hpo, hokk, hpt⟩ := id (hC.2.1.2.1 cn hcn)
  have hA_mo := hAm mo (Or.inl rfl)
  have hA_fi := hAm fi (Or.inr (Or.inr (Or.inr (Or.inl rfl))))
  have hA_no := hAm no (Or.inr (Or.inr (Or.inl rfl)))
  have hw := hPo.wfr
  have hW := hPo.wfpt
  have hve2 : ve cn < 2 ^ 31 := by omega
  have hoc2 : oc < 2 ^ 31 := by omega
  obtain ⟨TK, TP, tw, tb, ta, htr, htok, htpt⟩ := id hC.2.2.1
  have hA_tr := hC.2.2.2.2 tr (Or.inr (Or.inl rfl))
  have hA_tk := hC.2.2.2.2 tk (Or.inr (Or.inr (Or.inl rfl)))
  have hA_tp := hC.2.2.2.2 tp (Or.inr (Or.inr (Or.inr rfl)))
  have hA_se := hAm se (Or.inr (Or.inr (Or.inr (Or.inr (Or.inl rfl)))))
  obtain ⟨n1, n2, n3⟩ := hC.2.2.2.1 cn hcn
  cases hpl : mPl su oc
  · have eq : kPl su (ve cn) = false := by rw [← hoc]; exact hpl
    refine ⟨_, (-1), _, by decide, trivial, ⟨_, hxo⟩, met_X3_matingMove_n l (hxo := hxo) (hpg := hpg) (hpo := hpo) (hokk := hokk) (hpt := hpt) (hve := hve2) (hpl := eq), fun M1 h1 => ?_⟩
    subst h1
    refine ⟨⟨_, hmo⟩, hb, fun sz1 => ⟨_, _, by decide, met_X4_matingMove_n l (hmo := hmo) (hoc := hoc2) (hpl := hpl) (hA_mo := hA_mo), fun M2 h2 => ?_⟩⟩
    rw [h2]
    exact ⟨tr, tk, tp, cn, N, su, pa, po, okk, pt, K, pp, w, bk, wa, ca, qu, ve, ro, no, fi, se, t3, le, od, _, oc, nr, rwv, f, hG.wmo, hP, by omega, hu⟩
  · have eq : kPl su (ve cn) = true := by rw [← hoc]; exact hpl
    have eq2 : kMating (K cn) (pp cn) (w cn) (bk cn) (wa cn) = mMating f := r_mating hr hku hO hNr
    refine ⟨_, oI (kMating (K cn) (pp cn) (w cn) (bk cn) (wa cn)), _, by decide, trivial, ⟨_, hxo⟩, met_X3_matingMove l (hxo := hxo) (hpg := hpg) (hpo := hpo) (hokk := hokk) (hpt := hpt) (htr := htr) (htok := htok) (htpt := htpt) (hve := hve2) (hpl := eq) (hW := hW) (hKd := hPo.wfk) (htp := n1) (hto := n2) (htq := n3) (hA_tr := hA_tr) (hA_tok := hA_tk) (hA_tpt := hA_tp), fun M1 h1 => ?_⟩
    obtain ⟨a1, a2, a3, a4, a5, h1⟩ := h1
    have hG1 := hG.wtr (TK := a1) (TP := a2) (tw := a3) (tb := a4) (ta := a5)
    rw [← h1] at hG1
    obtain ⟨⟨g1, g2, g3, lf, ⟨hmo, hro, hno, hfi, hse, ht3, hle, hap⟩, hL⟩, -⟩ := id hG1.2.1
    refine ⟨⟨_, hmo⟩, hG1.2.2.1, fun sz1 => ⟨7, _, by decide, by rw [eq2]; exact met_X4_matingMove l (g3 := g3) (hmo := hmo) (hno := hno) (hfi := hfi) (hse := hse) (hle := hle) (hoc := hoc2) (hpl := hpl) (hP := hw.1) (hB := hw.2.1) (hs := hw.2.2) (hL := hL) (hap := hap) (hA_mo := hA_mo) (hA_fi := hA_fi) (hA_se := hA_se), fun M2 h2 => ?_⟩⟩
    obtain ⟨g4, g5, h2⟩ := h2
    rw [h2]
    exact ⟨tr, tk, tp, cn, N, su, pa, po, okk, pt, K, pp, w, bk, wa, ca, qu, ve, ro, no, fi, se, t3, le, od, _, oc, nr, rwv, f, hG1.wmo.wfi.wse, hP, by omega, hu⟩
