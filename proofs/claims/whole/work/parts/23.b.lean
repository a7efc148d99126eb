/-! ===== calls that may throw: both games answer alike ===== -/
def SemH {α : Type} (mk : α → Value) (lv : α → BitVec 64) (l : Launch) (D : va_G) (cI cJ : ClassId) (A : Nat → Prop) (b L : Nat) (xs : Nat → Int32) (xo mo out : Nat) (yh : MethodName) (cch : ByteArray) (nh : Nat) (hh : List (Nat × Nat × Nat × Nat)) (ym : MethodName) (ccm : ByteArray) (nm : Nat) (rm : Option FieldType) (Ax Am : List Value) : Prop :=
  ∀ (k : Nat) (M : MP) (u sz : Nat), k < 512 → (∀ q, sz ≤ q → A q) → GI cI cJ A b L xs xo mo out k M u → ∃ (d mc ms kk : Nat) (Rm : MP → Prop), d ≤ 11 ∧ mc ≤ 5 ∧ ms ≤ 100 ∧ kk ≤ 3 ∧ Hc l yh cch nh (some .int) hh d mc ms D cI cJ (.ref xo :: Ax) M sz A (some (.int (nI kk))) Rm ∧
    ∀ M1, Rm M1 → (∃ fs, M1 mo = some (.inr (3, fs))) ∧ ScrP b L xs ∧ ∀ sz1, (∀ q, sz1 ≤ q → A q) → ∃ (d2 mc2 ms2 : Nat) (r : α) (Rm2 : MP → Prop), d2 ≤ 11 ∧ mc2 ≤ 1 ∧ ms2 ≤ 300000 ∧ Wr l ym ccm nm rm d2 mc2 ms2 D cI cJ (.ref mo :: Am) M1 sz1 A (some (mk r)) Rm2 ∧
      ∀ M2, Rm2 M2 → GI cI cJ A b L xs xo mo out (k + 1) M2 (u + ms2) ∧ (∃ fs, M2 mo = some (.inr (3, fs))) ∧ RdI l yX4_thrown cX4_thrown 1 (some .int) 0 D cI cJ [.ref mo] M2 (nI kk) ∧ ScrP b L xs ∧ ∃ ob : Nat → BitVec 64, M2 out = some (eJ cJ 1 (fun k => bL (ob k))) ∧ (kk = 0 → ob 0 = lv r)
theorem GX.fin {l : Launch} {D : va_G} {cI cJ : ClassId} {M : MP} {A : Nat → Prop} {b L xo out mo : Nat} {xs : Nat → Int32} {tr tk tp cn N : Nat} {su : Bool} {pa po okk pt : Nat → Nat} {K : Nat → Nat → BitVec 64} {pp : Nat → Nat → Int32} {w bk : Nat → BitVec 64} {wa : Nat → Bool} {ca qu ve : Nat → Nat} {ro no fi se t3 le od th oc nr : Nat} {rw f : Nat → Int32} (h : GX cI cJ M A b L xs xo mo out tr tk tp cn N su pa po okk pt K pp w bk wa ca qu ve ro no fi se t3 le od th cn oc su nr rw f) (hP : PS su cn N K pp w bk wa ca qu ve rw f oc) {k u : Nat} (hN : N ≤ k + 1 + 1) (hu : u = 2 * nr) : GI cI cJ A b L xs xo mo out (k + 1) M u ∧ (∃ fs, M mo = some (.inr (3, fs))) ∧ RdI l yX4_thrown cX4_thrown 1 (some .int) 0 D cI cJ [.ref mo] M (nI th) ∧ ScrP b L xs := by
  obtain ⟨⟨g1, g2, g3, lf, ⟨hmo, -⟩, -⟩, -⟩ := id h.2.1
  exact ⟨⟨tr, tk, tp, cn, N, su, pa, po, okk, pt, K, pp, w, bk, wa, ca, qu, ve, ro, no, fi, se, t3, le, od, th, oc, nr, rw, f, h, hP, hN, hu⟩, ⟨_, hmo⟩, met_X4_thrown l (hmo := hmo), h.2.2.1⟩
set_option maxHeartbeats 2000000 in
theorem semh_pieceAt (l : Launch) {D : va_G} {cI cJ : ClassId} {A : Nat → Prop} {b L : Nat} {xs : Nat → Int32} {xo mo out : Nat} (hl9 : l.stackTraces = false) (x : Int32) : SemH (α := Int32) .int (fun r => r.toInt64.toBitVec) l D cI cJ A b L xs xo mo out yL_pieceAt cL_pieceAt 4 [(0, 9, 12, 13)] yX4_pieceAt cX4_pieceAt 2 (some .int) [.int x, .ref out] [.int x] := by
  intro k M u sz hk hAn hg
  obtain ⟨tr, tk, tp, cn, N, su, pa, po, okk, pt, K, pp, w, bk, wa, ca, qu, ve, ro, no, fi, se, t3, le, od, th, oc, nr, rwv, f, hG, hP, hN, hu⟩ := hg
  have hC := hG.1
  have hb := hG.2.2.1
  have hxo := hC.1
  obtain ⟨⟨g1, g2, g3, lf, ⟨hmo, hro, hno, hfi, hse, ht3, hle, hap⟩, hL⟩, hAm, hn1, hn2, hn3⟩ := hG.2.1
  obtain ⟨⟨hcn, hq0, hc0, hc8⟩, ⟨hPo, ⟨hq, hq2⟩, hcap⟩, ⟨hoc, hve⟩, hset, hply⟩ := id hP
  obtain ⟨hr, hku, hO, hNr⟩ := id hPo
  have hpg : M (pa cn) = some (.inr (0, [.ref (po cn), pgV pa cn, .int (nI cn), afV pa N cn, .int (nI (ca cn)), .int (nI (qu cn)), .int (nI (ve cn))])) := hC.2.1.1 cn hcn
  obtain ⟨hpo, hokk, hpt⟩ := id (hC.2.1.2.1 cn hcn)
  have hA_mo := hAm mo (Or.inl rfl)
  have hA_fi := hAm fi (Or.inr (Or.inr (Or.inr (Or.inl rfl))))
  have hA_no := hAm no (Or.inr (Or.inr (Or.inl rfl)))
  have hw := hPo.wfr
  have hW := hPo.wfpt
  have hve2 : ve cn < 2 ^ 31 := by omega
  have hoc2 : oc < 2 ^ 31 := by omega
  obtain ⟨ob, hout⟩ := hG.2.2.2.2.1
  have hA_out := hG.2.2.2.2.2
  have hom : out ≠ mo := fun z => (hG.2.2.ref hG.2.1).2 (Or.inl (Or.inl z))
  have hon : out ≠ no := fun z => (hG.2.2.ref hG.2.1).2 (Or.inl (Or.inr (Or.inr (Or.inl z))))
  have hof : out ≠ fi := fun z => (hG.2.2.ref hG.2.1).2 (Or.inl (Or.inr (Or.inr (Or.inr (Or.inl z)))))
  have hos : out ≠ se := fun z => (hG.2.2.ref hG.2.1).2 (Or.inl (Or.inr (Or.inr (Or.inr (Or.inr (Or.inl z))))))
  have hot : out ≠ t3 := fun z => (hG.2.2.ref hG.2.1).2 (Or.inl (Or.inr (Or.inr (Or.inr (Or.inr (Or.inr z))))))
  rcases sq_cases x with hx | ⟨j, hj, rfl⟩
  · refine ⟨8, 1, 6, 1, _, by decide, by decide, by decide, by decide, hT_pieceAt_1 l xo out x hxo (xet_X3_pieceAt_x l hl9 (xo := xo) (hbx := hx)), fun M1 h1 => ?_⟩
    subst h1
    refine ⟨⟨_, hmo⟩, hb, fun sz1 _ => ⟨1, 0, 0, nI 0, _, by decide, by decide, by decide, met_X4_pieceAt_b l (hmo := hmo) (hbx := hx) (hA_mo := hA_mo), fun M2 h2 => ?_⟩⟩
    rw [h2]
    obtain ⟨f1, f2, f3, f4⟩ := (hG.wmo (th' := 1)).fin (l := l) (D := D) hP (k := k) (u := u) (by omega) hu
    exact ⟨f1, f2, f3, f4, ob, mu_g hom hout, fun z => by cases z⟩
  · refine ⟨3, 0, 0, 0, _, by decide, by decide, by decide, by decide, hG_pieceAt l xo out (nI j) (ob := ob) hxo (met_X3_pieceAt l (j := j) (hxo := hxo) (hpg := hpg) (hpo := hpo) (hokk := hokk) (hj := hj)) (fun M1 h => by rw [h]; exact hout) hA_out, fun M1 h1 => ?_⟩
    obtain ⟨M0, ob1, h0, h3, h1⟩ := h1
    rw [show M0 = M from h0] at h1
    have hG1 := hG.wout (ob := ob1)
    rw [← h1] at hG1
    have hout1 : M1 out = some (eJ cJ 1 (fun k => bL (ob1 k))) := by rw [h1]; exact mu_s
    obtain ⟨⟨g1, g2, g3, lf, ⟨hmo, hro, hno, hfi, hse, ht3, hle, hap⟩, hL⟩, -⟩ := id hG1.2.1
    have eq : kKind (K cn) j = mKindN f j := by rw [r_kKind hr hj, r_kind hr hj]
    refine ⟨⟨_, hmo⟩, hG1.2.2.1, fun sz1 _ => ⟨1, 0, 0, nI (kKind (K cn) j), _, by decide, by decide, by decide, by rw [eq]; exact met_X4_pieceAt l (j := j) (hmo := hmo) (hno := hno) (hA_mo := hA_mo) (hj := hj), fun M2 h2 => ?_⟩⟩
    rw [h2]
    obtain ⟨f1, f2, f3, f4⟩ := (hG1.wmo (th' := 0)).fin (l := l) (D := D) hP (k := k) (u := u) (by omega) hu
    exact ⟨f1, f2, f3, f4, ob1, mu_g hom hout1, fun _ => h3⟩
set_option maxHeartbeats 2000000 in
theorem semh_bondOf (l : Launch) {D : va_G} {cI cJ : ClassId} {A : Nat → Prop} {b L : Nat} {xs : Nat → Int32} {xo mo out : Nat} (hl9 : l.stackTraces = false) (x : Int32) : SemH (α := Int32) .int (fun r => r.toInt64.toBitVec) l D cI cJ A b L xs xo mo out yL_bondOf cL_bondOf 4 [(0, 9, 12, 13)] yX4_bondOf cX4_bondOf 2 (some .int) [.int x, .ref out] [.int x] := by
  intro k M u sz hk hAn hg
  obtain ⟨tr, tk, tp, cn, N, su, pa, po, okk, pt, K, pp, w, bk, wa, ca, qu, ve, ro, no, fi, se, t3, le, od, th, oc, nr, rwv, f, hG, hP, hN, hu⟩ := hg
  have hC := hG.1
  have hb := hG.2.2.1
  have hxo := hC.1
  obtain ⟨⟨g1, g2, g3, lf, ⟨hmo, hro, hno, hfi, hse, ht3, hle, hap⟩, hL⟩, hAm, hn1, hn2, hn3⟩ := hG.2.1
  obtain ⟨⟨hcn, hq0, hc0, hc8⟩, ⟨hPo, ⟨hq, hq2⟩, hcap⟩, ⟨hoc, hve⟩, hset, hply⟩ := id hP
  obtain ⟨hr, hku, hO, hNr⟩ := id hPo
  have hpg : M (pa cn) = some (.inr (0, [.ref (po cn), pgV pa cn, .int (nI cn), afV pa N cn, .int (nI (ca cn)), .int (nI (qu cn)), .int (nI (ve cn))])) := hC.2.1.1 cn hcn
  obtain ⟨hpo, hokk, hpt⟩ := id (hC.2.1.2.1 cn hcn)
  have hA_mo := hAm mo (Or.inl rfl)
  have hA_fi := hAm fi (Or.inr (Or.inr (Or.inr (Or.inl rfl))))
  have hA_no := hAm no (Or.inr (Or.inr (Or.inl rfl)))
  have hw := hPo.wfr
  have hW := hPo.wfpt
  have hve2 : ve cn < 2 ^ 31 := by omega
  have hoc2 : oc < 2 ^ 31 := by omega
  obtain ⟨ob, hout⟩ := hG.2.2.2.2.1
  have hA_out := hG.2.2.2.2.2
  have hom : out ≠ mo := fun z => (hG.2.2.ref hG.2.1).2 (Or.inl (Or.inl z))
  have hon : out ≠ no := fun z => (hG.2.2.ref hG.2.1).2 (Or.inl (Or.inr (Or.inr (Or.inl z))))
  have hof : out ≠ fi := fun z => (hG.2.2.ref hG.2.1).2 (Or.inl (Or.inr (Or.inr (Or.inr (Or.inl z)))))
  have hos : out ≠ se := fun z => (hG.2.2.ref hG.2.1).2 (Or.inl (Or.inr (Or.inr (Or.inr (Or.inr (Or.inl z))))))
  have hot : out ≠ t3 := fun z => (hG.2.2.ref hG.2.1).2 (Or.inl (Or.inr (Or.inr (Or.inr (Or.inr (Or.inr z))))))
  rcases sq_cases x with hx | ⟨j, hj, rfl⟩
  · refine ⟨8, 1, 6, 1, _, by decide, by decide, by decide, by decide, hT_bondOf_1 l xo out x hxo (xet_X3_bondOf_x l hl9 (xo := xo) (hbx := hx)), fun M1 h1 => ?_⟩
    subst h1
    refine ⟨⟨_, hmo⟩, hb, fun sz1 _ => ⟨1, 0, 0, nI 0, _, by decide, by decide, by decide, met_X4_bondOf_b l (hmo := hmo) (hbx := hx) (hA_mo := hA_mo), fun M2 h2 => ?_⟩⟩
    rw [h2]
    obtain ⟨f1, f2, f3, f4⟩ := (hG.wmo (th' := 1)).fin (l := l) (D := D) hP (k := k) (u := u) (by omega) hu
    exact ⟨f1, f2, f3, f4, ob, mu_g hom hout, fun z => by cases z⟩
  · refine ⟨3, 0, 0, 0, _, by decide, by decide, by decide, by decide, hG_bondOf l xo out (nI j) (ob := ob) hxo (met_X3_bondOf l (j := j) (hxo := hxo) (hpg := hpg) (hpo := hpo) (hpt := hpt) (hj := hj)) (fun M1 h => by rw [h]; exact hout) hA_out, fun M1 h1 => ?_⟩
    obtain ⟨M0, ob1, h0, h3, h1⟩ := h1
    rw [show M0 = M from h0] at h1
    have hG1 := hG.wout (ob := ob1)
    rw [← h1] at hG1
    have hout1 : M1 out = some (eJ cJ 1 (fun k => bL (ob1 k))) := by rw [h1]; exact mu_s
    obtain ⟨⟨g1, g2, g3, lf, ⟨hmo, hro, hno, hfi, hse, ht3, hle, hap⟩, hL⟩, -⟩ := id hG1.2.1
    have eq : pp cn j = f (64 + j) := hr.2.2.2.2.1 j hj
    refine ⟨⟨_, hmo⟩, hG1.2.2.1, fun sz1 _ => ⟨1, 0, 0, (pp cn j), _, by decide, by decide, by decide, by rw [eq]; exact met_X4_bondOf l (j := j) (hmo := hmo) (hno := hno) (hA_mo := hA_mo) (hj := hj), fun M2 h2 => ?_⟩⟩
    rw [h2]
    obtain ⟨f1, f2, f3, f4⟩ := (hG1.wmo (th' := 0)).fin (l := l) (D := D) hP (k := k) (u := u) (by omega) hu
    exact ⟨f1, f2, f3, f4, ob1, mu_g hom hout1, fun _ => h3⟩
set_option maxHeartbeats 2000000 in
theorem semh_attackers (l : Launch) {D : va_G} {cI cJ : ClassId} {A : Nat → Prop} {b L : Nat} {xs : Nat → Int32} {xo mo out : Nat} (hl9 : l.stackTraces = false) (x : Int32) (d : Bool) : SemH (α := BitVec 64) (fun x => .long (bL x)) (fun x => x) l D cI cJ A b L xs xo mo out yL_attackers cL_attackers 5 [(0, 9, 12, 13)] yX4_attackers cX4_attackers 6 (some .long) [.int x, .int (bI d), .ref out] [.int x, .int (bI d)] := by
  intro k M u sz hk hAn hg
  obtain ⟨tr, tk, tp, cn, N, su, pa, po, okk, pt, K, pp, w, bk, wa, ca, qu, ve, ro, no, fi, se, t3, le, od, th, oc, nr, rwv, f, hG, hP, hN, hu⟩ := hg
  have hC := hG.1
  have hb := hG.2.2.1
  have hxo := hC.1
  obtain ⟨⟨g1, g2, g3, lf, ⟨hmo, hro, hno, hfi, hse, ht3, hle, hap⟩, hL⟩, hAm, hn1, hn2, hn3⟩ := hG.2.1
  obtain ⟨⟨hcn, hq0, hc0, hc8⟩, ⟨hPo, ⟨hq, hq2⟩, hcap⟩, ⟨hoc, hve⟩, hset, hply⟩ := id hP
  obtain ⟨hr, hku, hO, hNr⟩ := id hPo
  have hpg : M (pa cn) = some (.inr (0, [.ref (po cn), pgV pa cn, .int (nI cn), afV pa N cn, .int (nI (ca cn)), .int (nI (qu cn)), .int (nI (ve cn))])) := hC.2.1.1 cn hcn
  obtain ⟨hpo, hokk, hpt⟩ := id (hC.2.1.2.1 cn hcn)
  have hA_mo := hAm mo (Or.inl rfl)
  have hA_fi := hAm fi (Or.inr (Or.inr (Or.inr (Or.inl rfl))))
  have hA_no := hAm no (Or.inr (Or.inr (Or.inl rfl)))
  have hw := hPo.wfr
  have hW := hPo.wfpt
  have hve2 : ve cn < 2 ^ 31 := by omega
  have hoc2 : oc < 2 ^ 31 := by omega
  obtain ⟨ob, hout⟩ := hG.2.2.2.2.1
  have hA_out := hG.2.2.2.2.2
  have hom : out ≠ mo := fun z => (hG.2.2.ref hG.2.1).2 (Or.inl (Or.inl z))
  have hon : out ≠ no := fun z => (hG.2.2.ref hG.2.1).2 (Or.inl (Or.inr (Or.inr (Or.inl z))))
  have hof : out ≠ fi := fun z => (hG.2.2.ref hG.2.1).2 (Or.inl (Or.inr (Or.inr (Or.inr (Or.inl z)))))
  have hos : out ≠ se := fun z => (hG.2.2.ref hG.2.1).2 (Or.inl (Or.inr (Or.inr (Or.inr (Or.inr (Or.inl z))))))
  have hot : out ≠ t3 := fun z => (hG.2.2.ref hG.2.1).2 (Or.inl (Or.inr (Or.inr (Or.inr (Or.inr (Or.inr z))))))
  rcases sq_cases x with hx | ⟨j, hj, rfl⟩
  · refine ⟨8, 1, 6, 1, _, by decide, by decide, by decide, by decide, hT_attackers_1 l xo out x (bI d) hxo (xet_X3_attackers_x l hl9 (xo := xo) (b := d) (hbx := hx)), fun M1 h1 => ?_⟩
    subst h1
    refine ⟨⟨_, hmo⟩, hb, fun sz1 _ => ⟨3, 0, 0, 0#64, _, by decide, by decide, by decide, met_X4_attackers_b l (b := d) (hmo := hmo) (hbx := hx) (hA_mo := hA_mo), fun M2 h2 => ?_⟩⟩
    rw [h2]
    obtain ⟨f1, f2, f3, f4⟩ := (hG.wmo (th' := 1)).fin (l := l) (D := D) hP (k := k) (u := u) (by omega) hu
    exact ⟨f1, f2, f3, f4, ob, mu_g hom hout, fun z => by cases z⟩
  · refine ⟨3, 0, 0, 0, _, by decide, by decide, by decide, by decide, hG_attackers l xo out (nI j) (bI d) (ob := ob) hxo (met_X3_attackers l (b := d) (j := j) (hxo := hxo) (hpg := hpg) (hpo := hpo) (hokk := hokk) (hj := hj)) (fun M1 h => by rw [h]; exact hout) hA_out, fun M1 h1 => ?_⟩
    obtain ⟨M0, ob1, h0, h3, h1⟩ := h1
    rw [show M0 = M from h0] at h1
    have hG1 := hG.wout (ob := ob1)
    rw [← h1] at hG1
    have hout1 : M1 out = some (eJ cJ 1 (fun k => bL (ob1 k))) := by rw [h1]; exact mu_s
    obtain ⟨⟨g1, g2, g3, lf, ⟨hmo, hro, hno, hfi, hse, ht3, hle, hap⟩, hL⟩, -⟩ := id hG1.2.1
    have eq : kAtt (K cn) (w cn) (bk cn) (kB j) d (w cn ||| bk cn) = mAtts f j (sdN d) := (r_atts hr d hj).symm
    refine ⟨⟨_, hmo⟩, hG1.2.2.1, fun sz1 _ => ⟨3, 0, 0, (kAtt (K cn) (w cn) (bk cn) (kB j) d (w cn ||| bk cn)), _, by decide, by decide, by decide, by rw [eq]; exact met_X4_attackers l (b := d) (j := j) (hmo := hmo) (hno := hno) (hA_mo := hA_mo) (hj := hj), fun M2 h2 => ?_⟩⟩
    rw [h2]
    obtain ⟨f1, f2, f3, f4⟩ := (hG1.wmo (th' := 0)).fin (l := l) (D := D) hP (k := k) (u := u) (by omega) hu
    exact ⟨f1, f2, f3, f4, ob1, mu_g hom hout1, fun _ => h3⟩
set_option maxHeartbeats 2000000 in
theorem semh_isWhite (l : Launch) {D : va_G} {cI cJ : ClassId} {A : Nat → Prop} {b L : Nat} {xs : Nat → Int32} {xo mo out : Nat} (hl9 : l.stackTraces = false) (x : Int32) : SemH (α := Bool) (fun v => .int (bI v)) (fun v => if v then 1#64 else 0#64) l D cI cJ A b L xs xo mo out yL_isWhite cL_isWhite 4 [(0, 16, 19, 13), (0, 16, 22, 34)] yX4_isWhite cX4_isWhite 2 (some .boolean) [.int x, .ref out] [.int x] := by
  intro k M u sz hk hAn hg
  obtain ⟨tr, tk, tp, cn, N, su, pa, po, okk, pt, K, pp, w, bk, wa, ca, qu, ve, ro, no, fi, se, t3, le, od, th, oc, nr, rwv, f, hG, hP, hN, hu⟩ := hg
  have hC := hG.1
  have hb := hG.2.2.1
  have hxo := hC.1
  obtain ⟨⟨g1, g2, g3, lf, ⟨hmo, hro, hno, hfi, hse, ht3, hle, hap⟩, hL⟩, hAm, hn1, hn2, hn3⟩ := hG.2.1
  obtain ⟨⟨hcn, hq0, hc0, hc8⟩, ⟨hPo, ⟨hq, hq2⟩, hcap⟩, ⟨hoc, hve⟩, hset, hply⟩ := id hP
  obtain ⟨hr, hku, hO, hNr⟩ := id hPo
  have hpg : M (pa cn) = some (.inr (0, [.ref (po cn), pgV pa cn, .int (nI cn), afV pa N cn, .int (nI (ca cn)), .int (nI (qu cn)), .int (nI (ve cn))])) := hC.2.1.1 cn hcn
  obtain ⟨hpo, hokk, hpt⟩ := id (hC.2.1.2.1 cn hcn)
  have hA_mo := hAm mo (Or.inl rfl)
  have hA_fi := hAm fi (Or.inr (Or.inr (Or.inr (Or.inl rfl))))
  have hA_no := hAm no (Or.inr (Or.inr (Or.inl rfl)))
  have hw := hPo.wfr
  have hW := hPo.wfpt
  have hve2 : ve cn < 2 ^ 31 := by omega
  have hoc2 : oc < 2 ^ 31 := by omega
  obtain ⟨ob, hout⟩ := hG.2.2.2.2.1
  have hA_out := hG.2.2.2.2.2
  have hom : out ≠ mo := fun z => (hG.2.2.ref hG.2.1).2 (Or.inl (Or.inl z))
  have hon : out ≠ no := fun z => (hG.2.2.ref hG.2.1).2 (Or.inl (Or.inr (Or.inr (Or.inl z))))
  have hof : out ≠ fi := fun z => (hG.2.2.ref hG.2.1).2 (Or.inl (Or.inr (Or.inr (Or.inr (Or.inl z)))))
  have hos : out ≠ se := fun z => (hG.2.2.ref hG.2.1).2 (Or.inl (Or.inr (Or.inr (Or.inr (Or.inr (Or.inl z))))))
  have hot : out ≠ t3 := fun z => (hG.2.2.ref hG.2.1).2 (Or.inl (Or.inr (Or.inr (Or.inr (Or.inr (Or.inr z))))))
  rcases sq_cases x with hx | ⟨j, hj, rfl⟩
  · refine ⟨8, 1, 6, 1, _, by decide, by decide, by decide, by decide, hT_isWhite_1 l xo out x hxo (xet_X3_isWhite_x l hl9 (xo := xo) (hbx := hx)), fun M1 h1 => ?_⟩
    subst h1
    refine ⟨⟨_, hmo⟩, hb, fun sz1 _ => ⟨1, 0, 0, false, _, by decide, by decide, by decide, met_X4_isWhite_b l (hmo := hmo) (hbx := hx) (hA_mo := hA_mo), fun M2 h2 => ?_⟩⟩
    rw [h2]
    obtain ⟨f1, f2, f3, f4⟩ := (hG.wmo (th' := 1)).fin (l := l) (D := D) hP (k := k) (u := u) (by omega) hu
    exact ⟨f1, f2, f3, f4, ob, mu_g hom hout, fun z => by cases z⟩
  · cases hoc3 : (w cn ||| bk cn).getLsbD j
    · have hz : f j = 0 := (r_emp hr hj).mpr hoc3
      refine ⟨8, 1, 6, 2, _, by decide, by decide, by decide, by decide, hT_isWhite_2 l xo out (nI j) hxo (xet_X3_isWhite_n l hl9 (j := j) (hxo := hxo) (hpg := hpg) (hpo := hpo) (hj := hj) (hoc := hoc3)), fun M1 h1 => ?_⟩
      subst h1
      refine ⟨⟨_, hmo⟩, hb, fun sz1 _ => ⟨1, 0, 0, (mIsOf f j 8), _, by decide, by decide, by decide, met_X4_isWhite l (j := j) (hmo := hmo) (hno := hno) (hA_mo := hA_mo) (hj := hj), fun M2 h2 => ?_⟩⟩
      rw [h2]
      rw [show mWhT f j = 2 from by unfold mWhT; exact if_pos hz]
      obtain ⟨f1, f2, f3, f4⟩ := (hG.wmo (th' := 2)).fin (l := l) (D := D) hP (k := k) (u := u) (by omega) hu
      exact ⟨f1, f2, f3, f4, ob, mu_g hom hout, fun z => by cases z⟩
    · have hz : ¬ f j = 0 := fun z => by rw [(r_emp hr hj).mp z] at hoc3; cases hoc3
      refine ⟨3, 0, 0, 0, _, by decide, by decide, by decide, by decide, hG_isWhite l xo out (nI j) (ob := ob) hxo (met_X3_isWhite l (j := j) (hxo := hxo) (hpg := hpg) (hpo := hpo) (hj := hj) (hoc := hoc3)) (fun M1 h => by rw [h]; exact hout) hA_out, fun M1 h1 => ?_⟩
      obtain ⟨M0, ob1, h0, h3, h1⟩ := h1
      rw [show M0 = M from h0] at h1
      have hG1 := hG.wout (ob := ob1)
      rw [← h1] at hG1
      have hout1 : M1 out = some (eJ cJ 1 (fun k => bL (ob1 k))) := by rw [h1]; exact mu_s
      obtain ⟨⟨g1, g2, g3, lf, ⟨hmo, hro, hno, hfi, hse, ht3, hle, hap⟩, hL⟩, -⟩ := id hG1.2.1
      have eq : (w cn).getLsbD j = mIsOf f j 8 := (r_isOf hr true hj).symm
      refine ⟨⟨_, hmo⟩, hG1.2.2.1, fun sz1 _ => ⟨1, 0, 0, ((w cn).getLsbD j), _, by decide, by decide, by decide, by rw [eq]; exact met_X4_isWhite l (j := j) (hmo := hmo) (hno := hno) (hA_mo := hA_mo) (hj := hj), fun M2 h2 => ?_⟩⟩
      rw [h2]
      rw [show mWhT f j = 0 from by unfold mWhT; exact if_neg hz]
      obtain ⟨f1, f2, f3, f4⟩ := (hG1.wmo (th' := 0)).fin (l := l) (D := D) hP (k := k) (u := u) (by omega) hu
      exact ⟨f1, f2, f3, f4, ob1, mu_g hom hout1, fun _ => h3⟩
set_option maxHeartbeats 2000000 in
theorem semh_legalMoves (l : Launch) {D : va_G} {cI cJ : ClassId} {A : Nat → Prop} {b L : Nat} {xs : Nat → Int32} {xo mo out : Nat} (hl9 : l.stackTraces = false) (x : Int32) : SemH (α := BitVec 64) (fun x => .long (bL x)) (fun x => x) l D cI cJ A b L xs xo mo out yL_legalMoves cL_legalMoves 4 [(0, 8, 11, 13)] yX4_legalMoves cX4_legalMoves 5 (some .long) [.int x, .ref out] [.int x] := by
  intro k M u sz hk hAn hg
  obtain ⟨tr, tk, tp, cn, N, su, pa, po, okk, pt, K, pp, w, bk, wa, ca, qu, ve, ro, no, fi, se, t3, le, od, th, oc, nr, rwv, f, hG, hP, hN, hu⟩ := hg
  have hC := hG.1
  have hb := hG.2.2.1
  have hxo := hC.1
  obtain ⟨⟨g1, g2, g3, lf, ⟨hmo, hro, hno, hfi, hse, ht3, hle, hap⟩, hL⟩, hAm, hn1, hn2, hn3⟩ := hG.2.1
  obtain ⟨⟨hcn, hq0, hc0, hc8⟩, ⟨hPo, ⟨hq, hq2⟩, hcap⟩, ⟨hoc, hve⟩, hset, hply⟩ := id hP
  obtain ⟨hr, hku, hO, hNr⟩ := id hPo
  have hpg : M (pa cn) = some (.inr (0, [.ref (po cn), pgV pa cn, .int (nI cn), afV pa N cn, .int (nI (ca cn)), .int (nI (qu cn)), .int (nI (ve cn))])) := hC.2.1.1 cn hcn
  obtain ⟨hpo, hokk, hpt⟩ := id (hC.2.1.2.1 cn hcn)
  have hA_mo := hAm mo (Or.inl rfl)
  have hA_fi := hAm fi (Or.inr (Or.inr (Or.inr (Or.inl rfl))))
  have hA_no := hAm no (Or.inr (Or.inr (Or.inl rfl)))
  have hw := hPo.wfr
  have hW := hPo.wfpt
  have hve2 : ve cn < 2 ^ 31 := by omega
  have hoc2 : oc < 2 ^ 31 := by omega
  obtain ⟨ob, hout⟩ := hG.2.2.2.2.1
  have hA_out := hG.2.2.2.2.2
  have hom : out ≠ mo := fun z => (hG.2.2.ref hG.2.1).2 (Or.inl (Or.inl z))
  have hon : out ≠ no := fun z => (hG.2.2.ref hG.2.1).2 (Or.inl (Or.inr (Or.inr (Or.inl z))))
  have hof : out ≠ fi := fun z => (hG.2.2.ref hG.2.1).2 (Or.inl (Or.inr (Or.inr (Or.inr (Or.inl z)))))
  have hos : out ≠ se := fun z => (hG.2.2.ref hG.2.1).2 (Or.inl (Or.inr (Or.inr (Or.inr (Or.inr (Or.inl z))))))
  have hot : out ≠ t3 := fun z => (hG.2.2.ref hG.2.1).2 (Or.inl (Or.inr (Or.inr (Or.inr (Or.inr (Or.inr z))))))
  rcases sq_cases x with hx | ⟨j, hj, rfl⟩
  · refine ⟨8, 1, 6, 1, _, by decide, by decide, by decide, by decide, hT_legalMoves_1 l xo out x hxo (xet_X3_legalMoves_x l hl9 (xo := xo) (hbx := hx)), fun M1 h1 => ?_⟩
    subst h1
    refine ⟨⟨_, hmo⟩, hb, fun sz1 _ => ⟨6, 0, 0, 0#64, _, by decide, by decide, by decide, met_X4_legalMoves_b l (hmo := hmo) (hbx := hx) (hA_mo := hA_mo), fun M2 h2 => ?_⟩⟩
    rw [h2]
    obtain ⟨f1, f2, f3, f4⟩ := (hG.wmo (th' := 1)).fin (l := l) (D := D) hP (k := k) (u := u) (by omega) hu
    exact ⟨f1, f2, f3, f4, ob, mu_g hom hout, fun z => by cases z⟩
  · cases hpl : mPl su oc
    · have heq : kPl su (ve cn) = false := by rw [← hoc]; exact hpl
      refine ⟨5, 0, 0, 0, _, by decide, by decide, by decide, by decide, hG_legalMoves l xo out (nI j) (ob := ob) hxo (met_X3_legalMoves l (j := j) (hxo := hxo) (hpg := hpg) (hpo := hpo) (hokk := hokk) (hpt := hpt) (hj := hj) (hve := hve2) (hW := hW)) (fun M1 h => by rw [h]; exact hout) hA_out, fun M1 h1 => ?_⟩
      obtain ⟨M0, ob1, h0, h3, h1⟩ := h1
      rw [show M0 = M from h0] at h1
      have hG1 := hG.wout (ob := ob1)
      rw [← h1] at hG1
      have hout1 : M1 out = some (eJ cJ 1 (fun k => bL (ob1 k))) := by rw [h1]; exact mu_s
      obtain ⟨⟨g1, g2, g3, lf, ⟨hmo, hro, hno, hfi, hse, ht3, hle, hap⟩, hL⟩, -⟩ := id hG1.2.1
      have eq : (if kPl su (ve cn) then kLegal (K cn) (pp cn) (w cn) (bk cn) (wa cn) j else 0#64) = 0#64 := by rw [heq]; rfl
      refine ⟨⟨_, hmo⟩, hG1.2.2.1, fun sz1 _ => ⟨6, 0, 0, (if kPl su (ve cn) then kLegal (K cn) (pp cn) (w cn) (bk cn) (wa cn) j else 0#64), _, by decide, by decide, by decide, by rw [eq]; exact met_X4_legalMoves_n l (j := j) (hmo := hmo) (hj := hj) (hoc := hoc2) (hpl := hpl) (hA_mo := hA_mo), fun M2 h2 => ?_⟩⟩
      rw [h2]
      obtain ⟨f1, f2, f3, f4⟩ := (hG1.wmo (th' := 0)).fin (l := l) (D := D) hP (k := k) (u := u) (by omega) hu
      exact ⟨f1, f2, f3, f4, ob1, mu_g hom hout1, fun _ => h3⟩
    · have heq : kPl su (ve cn) = true := by rw [← hoc]; exact hpl
      refine ⟨5, 0, 0, 0, _, by decide, by decide, by decide, by decide, hG_legalMoves l xo out (nI j) (ob := ob) hxo (met_X3_legalMoves l (j := j) (hxo := hxo) (hpg := hpg) (hpo := hpo) (hokk := hokk) (hpt := hpt) (hj := hj) (hve := hve2) (hW := hW)) (fun M1 h => by rw [h]; exact hout) hA_out, fun M1 h1 => ?_⟩
      obtain ⟨M0, ob1, h0, h3, h1⟩ := h1
      rw [show M0 = M from h0] at h1
      have hG1 := hG.wout (ob := ob1)
      rw [← h1] at hG1
      have hout1 : M1 out = some (eJ cJ 1 (fun k => bL (ob1 k))) := by rw [h1]; exact mu_s
      obtain ⟨⟨g1, g2, g3, lf, ⟨hmo, hro, hno, hfi, hse, ht3, hle, hap⟩, hL⟩, -⟩ := id hG1.2.1
      have eq : (if kPl su (ve cn) then kLegal (K cn) (pp cn) (w cn) (bk cn) (wa cn) j else 0#64) = mLegal f j := by rw [heq, if_pos rfl]; exact r_legal hr hku hO hNr hj
      refine ⟨⟨_, hmo⟩, hG1.2.2.1, fun sz1 _ => ⟨6, 0, 0, (if kPl su (ve cn) then kLegal (K cn) (pp cn) (w cn) (bk cn) (wa cn) j else 0#64), _, by decide, by decide, by decide, by rw [eq]; exact met_X4_legalMoves l (j := j) (hmo := hmo) (hno := hno) (hfi := hfi) (hle := hle) (hj := hj) (hoc := hoc2) (hpl := hpl) (hP := hw.1) (hB := hw.2.1) (hs := hw.2.2) (hL := hL) (hnf := hap.2.1.1) (hlf := hap.2.2.1.2.2.symm) (hA_mo := hA_mo) (hA_fi := hA_fi), fun M2 h2 => ?_⟩⟩
      obtain ⟨g4, h2⟩ := h2
      rw [h2]
      obtain ⟨f1, f2, f3, f4⟩ := ((hG1.wmo (th' := 0)).wfi).fin (l := l) (D := D) hP (k := k) (u := u) (by omega) hu
      exact ⟨f1, f2, f3, f4, ob1, mu_g hof (mu_g hom hout1), fun _ => h3⟩
set_option maxHeartbeats 2000000 in
theorem semh_dissolveRefusal (l : Launch) {D : va_G} {cI cJ : ClassId} {A : Nat → Prop} {b L : Nat} {xs : Nat → Int32} {xo mo out : Nat} (hl9 : l.stackTraces = false) (x : Int32) : SemH (α := Int32) .int (fun r => r.toInt64.toBitVec) l D cI cJ A b L xs xo mo out yL_dissolveRefusal cL_dissolveRefusal 4 [(0, 9, 12, 13)] yX4_dissolveRefusal cX4_dissolveRefusal 2 (some .int) [.int x, .ref out] [.int x] := by
  intro k M u sz hk hAn hg
  obtain ⟨tr, tk, tp, cn, N, su, pa, po, okk, pt, K, pp, w, bk, wa, ca, qu, ve, ro, no, fi, se, t3, le, od, th, oc, nr, rwv, f, hG, hP, hN, hu⟩ := hg
  have hC := hG.1
  have hb := hG.2.2.1
  have hxo := hC.1
  obtain ⟨⟨g1, g2, g3, lf, ⟨hmo, hro, hno, hfi, hse, ht3, hle, hap⟩, hL⟩, hAm, hn1, hn2, hn3⟩ := hG.2.1
  obtain ⟨⟨hcn, hq0, hc0, hc8⟩, ⟨hPo, ⟨hq, hq2⟩, hcap⟩, ⟨hoc, hve⟩, hset, hply⟩ := id hP
  obtain ⟨hr, hku, hO, hNr⟩ := id hPo
  have hpg : M (pa cn) = some (.inr (0, [.ref (po cn), pgV pa cn, .int (nI cn), afV pa N cn, .int (nI (ca cn)), .int (nI (qu cn)), .int (nI (ve cn))])) := hC.2.1.1 cn hcn
  obtain ⟨hpo, hokk, hpt⟩ := id (hC.2.1.2.1 cn hcn)
  have hA_mo := hAm mo (Or.inl rfl)
  have hA_fi := hAm fi (Or.inr (Or.inr (Or.inr (Or.inl rfl))))
  have hA_no := hAm no (Or.inr (Or.inr (Or.inl rfl)))
  have hw := hPo.wfr
  have hW := hPo.wfpt
  have hve2 : ve cn < 2 ^ 31 := by omega
  have hoc2 : oc < 2 ^ 31 := by omega
  obtain ⟨ob, hout⟩ := hG.2.2.2.2.1
  have hA_out := hG.2.2.2.2.2
  have hom : out ≠ mo := fun z => (hG.2.2.ref hG.2.1).2 (Or.inl (Or.inl z))
  have hon : out ≠ no := fun z => (hG.2.2.ref hG.2.1).2 (Or.inl (Or.inr (Or.inr (Or.inl z))))
  have hof : out ≠ fi := fun z => (hG.2.2.ref hG.2.1).2 (Or.inl (Or.inr (Or.inr (Or.inr (Or.inl z)))))
  have hos : out ≠ se := fun z => (hG.2.2.ref hG.2.1).2 (Or.inl (Or.inr (Or.inr (Or.inr (Or.inr (Or.inl z))))))
  have hot : out ≠ t3 := fun z => (hG.2.2.ref hG.2.1).2 (Or.inl (Or.inr (Or.inr (Or.inr (Or.inr (Or.inr z))))))
  rcases sq_cases x with hx | ⟨j, hj, rfl⟩
  · refine ⟨8, 1, 6, 1, _, by decide, by decide, by decide, by decide, hT_dissolveRefusal_1 l xo out x hxo (xet_X3_dissolveRefusal_x l hl9 (xo := xo) (hbx := hx)), fun M1 h1 => ?_⟩
    subst h1
    refine ⟨⟨_, hmo⟩, hb, fun sz1 _ => ⟨6, 0, 0, nI 0, _, by decide, by decide, by decide, met_X4_dissolveRefusal_b l (hmo := hmo) (hbx := hx) (hA_mo := hA_mo), fun M2 h2 => ?_⟩⟩
    rw [h2]
    obtain ⟨f1, f2, f3, f4⟩ := (hG.wmo (th' := 1)).fin (l := l) (D := D) hP (k := k) (u := u) (by omega) hu
    exact ⟨f1, f2, f3, f4, ob, mu_g hom hout, fun z => by cases z⟩
  · cases hpl : mPl su oc
    · have heq : kPl su (ve cn) = false := by rw [← hoc]; exact hpl
      refine ⟨4, 0, 0, 0, _, by decide, by decide, by decide, by decide, hG_dissolveRefusal l xo out (nI j) (ob := ob) hxo (met_X3_dissolveRefusal l (a := j) (hxo := hxo) (hpg := hpg) (hpo := hpo) (hokk := hokk) (hpt := hpt) (ha := hj) (hve := hve2)) (fun M1 h => by rw [h]; exact hout) hA_out, fun M1 h1 => ?_⟩
      obtain ⟨M0, ob1, h0, h3, h1⟩ := h1
      rw [show M0 = M from h0] at h1
      have hG1 := hG.wout (ob := ob1)
      rw [← h1] at hG1
      have hout1 : M1 out = some (eJ cJ 1 (fun k => bL (ob1 k))) := by rw [h1]; exact mu_s
      obtain ⟨⟨g1, g2, g3, lf, ⟨hmo, hro, hno, hfi, hse, ht3, hle, hap⟩, hL⟩, -⟩ := id hG1.2.1
      have eq : nI (if kPl su (ve cn) then kDisR (K cn) (pp cn) (w cn) (bk cn) (wa cn) j else 1) = nI 1 := by rw [heq]; rfl
      refine ⟨⟨_, hmo⟩, hG1.2.2.1, fun sz1 _ => ⟨6, 0, 0, nI (if kPl su (ve cn) then kDisR (K cn) (pp cn) (w cn) (bk cn) (wa cn) j else 1), _, by decide, by decide, by decide, by rw [eq]; exact met_X4_dissolveRefusal_n l (j := j) (hmo := hmo) (hj := hj) (hoc := hoc2) (hpl := hpl) (hA_mo := hA_mo), fun M2 h2 => ?_⟩⟩
      rw [h2]
      obtain ⟨f1, f2, f3, f4⟩ := (hG1.wmo (th' := 0)).fin (l := l) (D := D) hP (k := k) (u := u) (by omega) hu
      exact ⟨f1, f2, f3, f4, ob1, mu_g hom hout1, fun _ => h3⟩
    · have heq : kPl su (ve cn) = true := by rw [← hoc]; exact hpl
      refine ⟨4, 0, 0, 0, _, by decide, by decide, by decide, by decide, hG_dissolveRefusal l xo out (nI j) (ob := ob) hxo (met_X3_dissolveRefusal l (a := j) (hxo := hxo) (hpg := hpg) (hpo := hpo) (hokk := hokk) (hpt := hpt) (ha := hj) (hve := hve2)) (fun M1 h => by rw [h]; exact hout) hA_out, fun M1 h1 => ?_⟩
      obtain ⟨M0, ob1, h0, h3, h1⟩ := h1
      rw [show M0 = M from h0] at h1
      have hG1 := hG.wout (ob := ob1)
      rw [← h1] at hG1
      have hout1 : M1 out = some (eJ cJ 1 (fun k => bL (ob1 k))) := by rw [h1]; exact mu_s
      obtain ⟨⟨g1, g2, g3, lf, ⟨hmo, hro, hno, hfi, hse, ht3, hle, hap⟩, hL⟩, -⟩ := id hG1.2.1
      have eq : nI (if kPl su (ve cn) then kDisR (K cn) (pp cn) (w cn) (bk cn) (wa cn) j else 1) = nI (mDissR f j) := by rw [heq, if_pos rfl, r_disR hr hku hj]
      refine ⟨⟨_, hmo⟩, hG1.2.2.1, fun sz1 _ => ⟨6, 0, 0, nI (if kPl su (ve cn) then kDisR (K cn) (pp cn) (w cn) (bk cn) (wa cn) j else 1), _, by decide, by decide, by decide, by rw [eq]; exact met_X4_dissolveRefusal l (j := j) (hmo := hmo) (hno := hno) (hj := hj) (hoc := hoc2) (hpl := hpl) (hs := hw.2.2) (hA_mo := hA_mo), fun M2 h2 => ?_⟩⟩
      rw [h2]
      obtain ⟨f1, f2, f3, f4⟩ := (hG1.wmo (th' := 0)).fin (l := l) (D := D) hP (k := k) (u := u) (by omega) hu
      exact ⟨f1, f2, f3, f4, ob1, mu_g hom hout1, fun _ => h3⟩
set_option maxHeartbeats 2000000 in
theorem semh_knightDistance (l : Launch) {D : va_G} {cI cJ : ClassId} {A : Nat → Prop} {b L : Nat} {xs : Nat → Int32} {xo mo out : Nat} (hl9 : l.stackTraces = false) (x y : Int32) : SemH (α := Int32) .int (fun r => r.toInt64.toBitVec) l D cI cJ A b L xs xo mo out yL_knightDistance cL_knightDistance 5 [(0, 10, 13, 13)] yX4_knightDistance cX4_knightDistance 3 (some .int) [.int x, .int y, .ref out] [.int x, .int y] := by
  intro k M u sz hk hAn hg
  obtain ⟨tr, tk, tp, cn, N, su, pa, po, okk, pt, K, pp, w, bk, wa, ca, qu, ve, ro, no, fi, se, t3, le, od, th, oc, nr, rwv, f, hG, hP, hN, hu⟩ := hg
  have hC := hG.1
  have hb := hG.2.2.1
  have hxo := hC.1
  obtain ⟨⟨g1, g2, g3, lf, ⟨hmo, hro, hno, hfi, hse, ht3, hle, hap⟩, hL⟩, hAm, hn1, hn2, hn3⟩ := hG.2.1
  obtain ⟨⟨hcn, hq0, hc0, hc8⟩, ⟨hPo, ⟨hq, hq2⟩, hcap⟩, ⟨hoc, hve⟩, hset, hply⟩ := id hP
  obtain ⟨hr, hku, hO, hNr⟩ := id hPo
  have hpg : M (pa cn) = some (.inr (0, [.ref (po cn), pgV pa cn, .int (nI cn), afV pa N cn, .int (nI (ca cn)), .int (nI (qu cn)), .int (nI (ve cn))])) := hC.2.1.1 cn hcn
  obtain ⟨hpo, hokk, hpt⟩ := id (hC.2.1.2.1 cn hcn)
  have hA_mo := hAm mo (Or.inl rfl)
  have hA_fi := hAm fi (Or.inr (Or.inr (Or.inr (Or.inl rfl))))
  have hA_no := hAm no (Or.inr (Or.inr (Or.inl rfl)))
  have hw := hPo.wfr
  have hW := hPo.wfpt
  have hve2 : ve cn < 2 ^ 31 := by omega
  have hoc2 : oc < 2 ^ 31 := by omega
  obtain ⟨ob, hout⟩ := hG.2.2.2.2.1
  have hA_out := hG.2.2.2.2.2
  have hom : out ≠ mo := fun z => (hG.2.2.ref hG.2.1).2 (Or.inl (Or.inl z))
  have hon : out ≠ no := fun z => (hG.2.2.ref hG.2.1).2 (Or.inl (Or.inr (Or.inr (Or.inl z))))
  have hof : out ≠ fi := fun z => (hG.2.2.ref hG.2.1).2 (Or.inl (Or.inr (Or.inr (Or.inr (Or.inl z)))))
  have hos : out ≠ se := fun z => (hG.2.2.ref hG.2.1).2 (Or.inl (Or.inr (Or.inr (Or.inr (Or.inr (Or.inl z))))))
  have hot : out ≠ t3 := fun z => (hG.2.2.ref hG.2.1).2 (Or.inl (Or.inr (Or.inr (Or.inr (Or.inr (Or.inr z))))))
  rcases sq_cases x with hx | ⟨a, ha, rfl⟩
  · refine ⟨8, 1, 6, 1, _, by decide, by decide, by decide, by decide, hT_knightDistance_1 l xo out x y hxo (xet_X3_knightDistance_x l hl9 (xo := xo) (y := y) (hbx := hx)), fun M1 h1 => ?_⟩
    subst h1
    refine ⟨⟨_, hmo⟩, hb, fun sz1 _ => ⟨1, 0, 0, nI 0, _, by decide, by decide, by decide, met_X4_knightDistance_b l (hmo := hmo) (hbx := by rw [hx]; rfl) (hA_mo := hA_mo), fun M2 h2 => ?_⟩⟩
    rw [h2]
    obtain ⟨f1, f2, f3, f4⟩ := (hG.wmo (th' := 1)).fin (l := l) (D := D) hP (k := k) (u := u) (by omega) hu
    exact ⟨f1, f2, f3, f4, ob, mu_g hom hout, fun z => by cases z⟩
  rcases sq_cases y with hy | ⟨c, hc, rfl⟩
  · refine ⟨8, 1, 6, 1, _, by decide, by decide, by decide, by decide, hT_knightDistance_1 l xo out (nI a) y hxo (xet_X3_knightDistance_y l hl9 (xo := xo) (j := a) (hj := ha) (hby := hy)), fun M1 h1 => ?_⟩
    subst h1
    refine ⟨⟨_, hmo⟩, hb, fun sz1 _ => ⟨1, 0, 0, nI 0, _, by decide, by decide, by decide, met_X4_knightDistance_b l (hmo := hmo) (hbx := by rw [hy, Bool.and_false]) (hA_mo := hA_mo), fun M2 h2 => ?_⟩⟩
    rw [h2]
    obtain ⟨f1, f2, f3, f4⟩ := (hG.wmo (th' := 1)).fin (l := l) (D := D) hP (k := k) (u := u) (by omega) hu
    exact ⟨f1, f2, f3, f4, ob, mu_g hom hout, fun z => by cases z⟩
  · refine ⟨3, 0, 0, 0, _, by decide, by decide, by decide, by decide, hG_knightDistance l xo out (nI a) (nI c) (ob := ob) hxo (met_X3_knightDistance l (xo := xo) (j := a) (k := c) (hj := ha) (hk := hc)) (fun M1 h => by rw [h]; exact hout) hA_out, fun M1 h1 => ?_⟩
    obtain ⟨M0, ob1, h0, h3, h1⟩ := h1
    rw [show M0 = M from h0] at h1
    have hG1 := hG.wout (ob := ob1)
    rw [← h1] at hG1
    have hout1 : M1 out = some (eJ cJ 1 (fun k => bL (ob1 k))) := by rw [h1]; exact mu_s
    obtain ⟨⟨g1, g2, g3, lf, ⟨hmo, hro, hno, hfi, hse, ht3, hle, hap⟩, hL⟩, -⟩ := id hG1.2.1
    refine ⟨⟨_, hmo⟩, hG1.2.2.1, fun sz1 _ => ⟨1, 0, 0, nI (mHop a c), _, by decide, by decide, by decide, met_X4_knightDistance l (j := a) (k := c) (hmo := hmo) (hle := hle) (hj := ha) (hk := hc) (hL := hL) (hA_mo := hA_mo), fun M2 h2 => ?_⟩⟩
    rw [h2]
    obtain ⟨f1, f2, f3, f4⟩ := (hG1.wmo (th' := 0)).fin (l := l) (D := D) hP (k := k) (u := u) (by omega) hu
    exact ⟨f1, f2, f3, f4, ob1, mu_g hom hout1, fun _ => h3⟩
set_option maxHeartbeats 2000000 in
theorem semh_moveRefusal (l : Launch) {D : va_G} {cI cJ : ClassId} {A : Nat → Prop} {b L : Nat} {xs : Nat → Int32} {xo mo out : Nat} (hl9 : l.stackTraces = false) (x y : Int32) : SemH (α := Int32) .int (fun r => r.toInt64.toBitVec) l D cI cJ A b L xs xo mo out yL_moveRefusal cL_moveRefusal 5 [(0, 10, 13, 13)] yX4_moveRefusal cX4_moveRefusal 3 (some .int) [.int x, .int y, .ref out] [.int x, .int y] := by
  intro k M u sz hk hAn hg
  obtain ⟨tr, tk, tp, cn, N, su, pa, po, okk, pt, K, pp, w, bk, wa, ca, qu, ve, ro, no, fi, se, t3, le, od, th, oc, nr, rwv, f, hG, hP, hN, hu⟩ := hg
  have hC := hG.1
  have hb := hG.2.2.1
  have hxo := hC.1
  obtain ⟨⟨g1, g2, g3, lf, ⟨hmo, hro, hno, hfi, hse, ht3, hle, hap⟩, hL⟩, hAm, hn1, hn2, hn3⟩ := hG.2.1
  obtain ⟨⟨hcn, hq0, hc0, hc8⟩, ⟨hPo, ⟨hq, hq2⟩, hcap⟩, ⟨hoc, hve⟩, hset, hply⟩ := id hP
  obtain ⟨hr, hku, hO, hNr⟩ := id hPo
  have hpg : M (pa cn) = some (.inr (0, [.ref (po cn), pgV pa cn, .int (nI cn), afV pa N cn, .int (nI (ca cn)), .int (nI (qu cn)), .int (nI (ve cn))])) := hC.2.1.1 cn hcn
  obtain ⟨hpo, hokk, hpt⟩ := id (hC.2.1.2.1 cn hcn)
  have hA_mo := hAm mo (Or.inl rfl)
  have hA_fi := hAm fi (Or.inr (Or.inr (Or.inr (Or.inl rfl))))
  have hA_no := hAm no (Or.inr (Or.inr (Or.inl rfl)))
  have hw := hPo.wfr
  have hW := hPo.wfpt
  have hve2 : ve cn < 2 ^ 31 := by omega
  have hoc2 : oc < 2 ^ 31 := by omega
  obtain ⟨ob, hout⟩ := hG.2.2.2.2.1
  have hA_out := hG.2.2.2.2.2
  have hom : out ≠ mo := fun z => (hG.2.2.ref hG.2.1).2 (Or.inl (Or.inl z))
  have hon : out ≠ no := fun z => (hG.2.2.ref hG.2.1).2 (Or.inl (Or.inr (Or.inr (Or.inl z))))
  have hof : out ≠ fi := fun z => (hG.2.2.ref hG.2.1).2 (Or.inl (Or.inr (Or.inr (Or.inr (Or.inl z)))))
  have hos : out ≠ se := fun z => (hG.2.2.ref hG.2.1).2 (Or.inl (Or.inr (Or.inr (Or.inr (Or.inr (Or.inl z))))))
  have hot : out ≠ t3 := fun z => (hG.2.2.ref hG.2.1).2 (Or.inl (Or.inr (Or.inr (Or.inr (Or.inr (Or.inr z))))))
  rcases sq_cases x with hx | ⟨a, ha, rfl⟩
  · refine ⟨8, 1, 6, 1, _, by decide, by decide, by decide, by decide, hT_moveRefusal_1 l xo out x y hxo (xet_X3_moveRefusal_x l hl9 (xo := xo) (y := y) (hbx := hx)), fun M1 h1 => ?_⟩
    subst h1
    refine ⟨⟨_, hmo⟩, hb, fun sz1 _ => ⟨6, 0, 0, nI 0, _, by decide, by decide, by decide, met_X4_moveRefusal_b l (hmo := hmo) (hbx := by rw [hx]; rfl) (hA_mo := hA_mo), fun M2 h2 => ?_⟩⟩
    rw [h2]
    obtain ⟨f1, f2, f3, f4⟩ := (hG.wmo (th' := 1)).fin (l := l) (D := D) hP (k := k) (u := u) (by omega) hu
    exact ⟨f1, f2, f3, f4, ob, mu_g hom hout, fun z => by cases z⟩
  rcases sq_cases y with hy | ⟨c, hc, rfl⟩
  · refine ⟨8, 1, 6, 1, _, by decide, by decide, by decide, by decide, hT_moveRefusal_1 l xo out (nI a) y hxo (xet_X3_moveRefusal_y l hl9 (xo := xo) (j := a) (hj := ha) (hby := hy)), fun M1 h1 => ?_⟩
    subst h1
    refine ⟨⟨_, hmo⟩, hb, fun sz1 _ => ⟨6, 0, 0, nI 0, _, by decide, by decide, by decide, met_X4_moveRefusal_b l (hmo := hmo) (hbx := by rw [hy, Bool.and_false]) (hA_mo := hA_mo), fun M2 h2 => ?_⟩⟩
    rw [h2]
    obtain ⟨f1, f2, f3, f4⟩ := (hG.wmo (th' := 1)).fin (l := l) (D := D) hP (k := k) (u := u) (by omega) hu
    exact ⟨f1, f2, f3, f4, ob, mu_g hom hout, fun z => by cases z⟩
  · cases hpl : mPl su oc
    · have heq : kPl su (ve cn) = false := by rw [← hoc]; exact hpl
      refine ⟨4, 0, 0, 0, _, by decide, by decide, by decide, by decide, hG_moveRefusal l xo out (nI a) (nI c) (ob := ob) hxo (met_X3_moveRefusal l (a := a) (b := c) (hxo := hxo) (hpg := hpg) (hpo := hpo) (hokk := hokk) (hpt := hpt) (ha := ha) (hb2 := hc) (hve := hve2) (hW := hW)) (fun M1 h => by rw [h]; exact hout) hA_out, fun M1 h1 => ?_⟩
      obtain ⟨M0, ob1, h0, h3, h1⟩ := h1
      rw [show M0 = M from h0] at h1
      have hG1 := hG.wout (ob := ob1)
      rw [← h1] at hG1
      have hout1 : M1 out = some (eJ cJ 1 (fun k => bL (ob1 k))) := by rw [h1]; exact mu_s
      obtain ⟨⟨g1, g2, g3, lf, ⟨hmo, hro, hno, hfi, hse, ht3, hle, hap⟩, hL⟩, -⟩ := id hG1.2.1
      have eq : nI (if kPl su (ve cn) then kMovR (K cn) (pp cn) (w cn) (bk cn) (wa cn) a c else 1) = nI 1 := by rw [heq]; rfl
      refine ⟨⟨_, hmo⟩, hG1.2.2.1, fun sz1 _ => ⟨6, 0, 0, nI (if kPl su (ve cn) then kMovR (K cn) (pp cn) (w cn) (bk cn) (wa cn) a c else 1), _, by decide, by decide, by decide, by rw [eq]; exact met_X4_moveRefusal_n l (j := a) (k := c) (hmo := hmo) (hj := ha) (hk := hc) (hoc := hoc2) (hpl := hpl) (hA_mo := hA_mo), fun M2 h2 => ?_⟩⟩
      rw [h2]
      obtain ⟨f1, f2, f3, f4⟩ := (hG1.wmo (th' := 0)).fin (l := l) (D := D) hP (k := k) (u := u) (by omega) hu
      exact ⟨f1, f2, f3, f4, ob1, mu_g hom hout1, fun _ => h3⟩
    · have heq : kPl su (ve cn) = true := by rw [← hoc]; exact hpl
      refine ⟨4, 0, 0, 0, _, by decide, by decide, by decide, by decide, hG_moveRefusal l xo out (nI a) (nI c) (ob := ob) hxo (met_X3_moveRefusal l (a := a) (b := c) (hxo := hxo) (hpg := hpg) (hpo := hpo) (hokk := hokk) (hpt := hpt) (ha := ha) (hb2 := hc) (hve := hve2) (hW := hW)) (fun M1 h => by rw [h]; exact hout) hA_out, fun M1 h1 => ?_⟩
      obtain ⟨M0, ob1, h0, h3, h1⟩ := h1
      rw [show M0 = M from h0] at h1
      have hG1 := hG.wout (ob := ob1)
      rw [← h1] at hG1
      have hout1 : M1 out = some (eJ cJ 1 (fun k => bL (ob1 k))) := by rw [h1]; exact mu_s
      obtain ⟨⟨g1, g2, g3, lf, ⟨hmo, hro, hno, hfi, hse, ht3, hle, hap⟩, hL⟩, -⟩ := id hG1.2.1
      have eq : nI (if kPl su (ve cn) then kMovR (K cn) (pp cn) (w cn) (bk cn) (wa cn) a c else 1) = nI (mReason f a c) := by rw [heq, if_pos rfl, r_movR hr hku hO hNr ha hc]
      refine ⟨⟨_, hmo⟩, hG1.2.2.1, fun sz1 _ => ⟨6, 0, 0, nI (if kPl su (ve cn) then kMovR (K cn) (pp cn) (w cn) (bk cn) (wa cn) a c else 1), _, by decide, by decide, by decide, by rw [eq]; exact met_X4_moveRefusal l (j := a) (k := c) (hmo := hmo) (hno := hno) (hfi := hfi) (hle := hle) (hj := ha) (hk := hc) (hoc := hoc2) (hpl := hpl) (hP := hw.1) (hB := hw.2.1) (hs := hw.2.2) (hL := hL) (hnf := hap.2.1.1) (hlf := hap.2.2.1.2.2.symm) (hA_mo := hA_mo) (hA_fi := hA_fi), fun M2 h2 => ?_⟩⟩
      rw [h2]
      obtain ⟨f1, f2, f3, f4⟩ := ((hG1.wmo (th' := 0)).wfi).fin (l := l) (D := D) hP (k := k) (u := u) (by omega) hu
      exact ⟨f1, f2, f3, f4, ob1, mu_g hof (mu_g hom hout1), fun _ => h3⟩
set_option maxHeartbeats 2000000 in
theorem semh_bondRefusal (l : Launch) {D : va_G} {cI cJ : ClassId} {A : Nat → Prop} {b L : Nat} {xs : Nat → Int32} {xo mo out : Nat} (hl9 : l.stackTraces = false) (x y : Int32) : SemH (α := Int32) .int (fun r => r.toInt64.toBitVec) l D cI cJ A b L xs xo mo out yL_bondRefusal cL_bondRefusal 5 [(0, 10, 13, 13)] yX4_bondRefusal cX4_bondRefusal 3 (some .int) [.int x, .int y, .ref out] [.int x, .int y] := by
  intro k M u sz hk hAn hg
  obtain ⟨tr, tk, tp, cn, N, su, pa, po, okk, pt, K, pp, w, bk, wa, ca, qu, ve, ro, no, fi, se, t3, le, od, th, oc, nr, rwv, f, hG, hP, hN, hu⟩ := hg
  have hC := hG.1
  have hb := hG.2.2.1
  have hxo := hC.1
  obtain ⟨⟨g1, g2, g3, lf, ⟨hmo, hro, hno, hfi, hse, ht3, hle, hap⟩, hL⟩, hAm, hn1, hn2, hn3⟩ := hG.2.1
  obtain ⟨⟨hcn, hq0, hc0, hc8⟩, ⟨hPo, ⟨hq, hq2⟩, hcap⟩, ⟨hoc, hve⟩, hset, hply⟩ := id hP
  obtain ⟨hr, hku, hO, hNr⟩ := id hPo
  have hpg : M (pa cn) = some (.inr (0, [.ref (po cn), pgV pa cn, .int (nI cn), afV pa N cn, .int (nI (ca cn)), .int (nI (qu cn)), .int (nI (ve cn))])) := hC.2.1.1 cn hcn
  obtain ⟨hpo, hokk, hpt⟩ := id (hC.2.1.2.1 cn hcn)
  have hA_mo := hAm mo (Or.inl rfl)
  have hA_fi := hAm fi (Or.inr (Or.inr (Or.inr (Or.inl rfl))))
  have hA_no := hAm no (Or.inr (Or.inr (Or.inl rfl)))
  have hw := hPo.wfr
  have hW := hPo.wfpt
  have hve2 : ve cn < 2 ^ 31 := by omega
  have hoc2 : oc < 2 ^ 31 := by omega
  obtain ⟨ob, hout⟩ := hG.2.2.2.2.1
  have hA_out := hG.2.2.2.2.2
  have hom : out ≠ mo := fun z => (hG.2.2.ref hG.2.1).2 (Or.inl (Or.inl z))
  have hon : out ≠ no := fun z => (hG.2.2.ref hG.2.1).2 (Or.inl (Or.inr (Or.inr (Or.inl z))))
  have hof : out ≠ fi := fun z => (hG.2.2.ref hG.2.1).2 (Or.inl (Or.inr (Or.inr (Or.inr (Or.inl z)))))
  have hos : out ≠ se := fun z => (hG.2.2.ref hG.2.1).2 (Or.inl (Or.inr (Or.inr (Or.inr (Or.inr (Or.inl z))))))
  have hot : out ≠ t3 := fun z => (hG.2.2.ref hG.2.1).2 (Or.inl (Or.inr (Or.inr (Or.inr (Or.inr (Or.inr z))))))
  rcases sq_cases x with hx | ⟨a, ha, rfl⟩
  · refine ⟨8, 1, 6, 1, _, by decide, by decide, by decide, by decide, hT_bondRefusal_1 l xo out x y hxo (xet_X3_bondRefusal_x l hl9 (xo := xo) (y := y) (hbx := hx)), fun M1 h1 => ?_⟩
    subst h1
    refine ⟨⟨_, hmo⟩, hb, fun sz1 _ => ⟨6, 0, 0, nI 0, _, by decide, by decide, by decide, met_X4_bondRefusal_b l (hmo := hmo) (hbx := by rw [hx]; rfl) (hA_mo := hA_mo), fun M2 h2 => ?_⟩⟩
    rw [h2]
    obtain ⟨f1, f2, f3, f4⟩ := (hG.wmo (th' := 1)).fin (l := l) (D := D) hP (k := k) (u := u) (by omega) hu
    exact ⟨f1, f2, f3, f4, ob, mu_g hom hout, fun z => by cases z⟩
  rcases sq_cases y with hy | ⟨c, hc, rfl⟩
  · refine ⟨8, 1, 6, 1, _, by decide, by decide, by decide, by decide, hT_bondRefusal_1 l xo out (nI a) y hxo (xet_X3_bondRefusal_y l hl9 (xo := xo) (j := a) (hj := ha) (hby := hy)), fun M1 h1 => ?_⟩
    subst h1
    refine ⟨⟨_, hmo⟩, hb, fun sz1 _ => ⟨6, 0, 0, nI 0, _, by decide, by decide, by decide, met_X4_bondRefusal_b l (hmo := hmo) (hbx := by rw [hy, Bool.and_false]) (hA_mo := hA_mo), fun M2 h2 => ?_⟩⟩
    rw [h2]
    obtain ⟨f1, f2, f3, f4⟩ := (hG.wmo (th' := 1)).fin (l := l) (D := D) hP (k := k) (u := u) (by omega) hu
    exact ⟨f1, f2, f3, f4, ob, mu_g hom hout, fun z => by cases z⟩
  · cases hpl : mPl su oc
    · have heq : kPl su (ve cn) = false := by rw [← hoc]; exact hpl
      refine ⟨4, 0, 0, 0, _, by decide, by decide, by decide, by decide, hG_bondRefusal l xo out (nI a) (nI c) (ob := ob) hxo (met_X3_bondRefusal l (a := a) (b := c) (hxo := hxo) (hpg := hpg) (hpo := hpo) (hokk := hokk) (hpt := hpt) (ha := ha) (hb2 := hc) (hve := hve2)) (fun M1 h => by rw [h]; exact hout) hA_out, fun M1 h1 => ?_⟩
      obtain ⟨M0, ob1, h0, h3, h1⟩ := h1
      rw [show M0 = M from h0] at h1
      have hG1 := hG.wout (ob := ob1)
      rw [← h1] at hG1
      have hout1 : M1 out = some (eJ cJ 1 (fun k => bL (ob1 k))) := by rw [h1]; exact mu_s
      obtain ⟨⟨g1, g2, g3, lf, ⟨hmo, hro, hno, hfi, hse, ht3, hle, hap⟩, hL⟩, -⟩ := id hG1.2.1
      have eq : nI (if kPl su (ve cn) then kBndR (K cn) (pp cn) (w cn) (bk cn) (wa cn) a c else 1) = nI 1 := by rw [heq]; rfl
      refine ⟨⟨_, hmo⟩, hG1.2.2.1, fun sz1 _ => ⟨6, 0, 0, nI (if kPl su (ve cn) then kBndR (K cn) (pp cn) (w cn) (bk cn) (wa cn) a c else 1), _, by decide, by decide, by decide, by rw [eq]; exact met_X4_bondRefusal_n l (j := a) (k := c) (hmo := hmo) (hj := ha) (hk := hc) (hoc := hoc2) (hpl := hpl) (hA_mo := hA_mo), fun M2 h2 => ?_⟩⟩
      rw [h2]
      obtain ⟨f1, f2, f3, f4⟩ := (hG1.wmo (th' := 0)).fin (l := l) (D := D) hP (k := k) (u := u) (by omega) hu
      exact ⟨f1, f2, f3, f4, ob1, mu_g hom hout1, fun _ => h3⟩
    · have heq : kPl su (ve cn) = true := by rw [← hoc]; exact hpl
      refine ⟨4, 0, 0, 0, _, by decide, by decide, by decide, by decide, hG_bondRefusal l xo out (nI a) (nI c) (ob := ob) hxo (met_X3_bondRefusal l (a := a) (b := c) (hxo := hxo) (hpg := hpg) (hpo := hpo) (hokk := hokk) (hpt := hpt) (ha := ha) (hb2 := hc) (hve := hve2)) (fun M1 h => by rw [h]; exact hout) hA_out, fun M1 h1 => ?_⟩
      obtain ⟨M0, ob1, h0, h3, h1⟩ := h1
      rw [show M0 = M from h0] at h1
      have hG1 := hG.wout (ob := ob1)
      rw [← h1] at hG1
      have hout1 : M1 out = some (eJ cJ 1 (fun k => bL (ob1 k))) := by rw [h1]; exact mu_s
      obtain ⟨⟨g1, g2, g3, lf, ⟨hmo, hro, hno, hfi, hse, ht3, hle, hap⟩, hL⟩, -⟩ := id hG1.2.1
      have eq : nI (if kPl su (ve cn) then kBndR (K cn) (pp cn) (w cn) (bk cn) (wa cn) a c else 1) = nI (mBondR f a c) := by rw [heq, if_pos rfl, r_bndR hr hku ha hc]
      refine ⟨⟨_, hmo⟩, hG1.2.2.1, fun sz1 _ => ⟨6, 0, 0, nI (if kPl su (ve cn) then kBndR (K cn) (pp cn) (w cn) (bk cn) (wa cn) a c else 1), _, by decide, by decide, by decide, by rw [eq]; exact met_X4_bondRefusal l (j := a) (k := c) (hmo := hmo) (hno := hno) (hle := hle) (hj := ha) (hk := hc) (hoc := hoc2) (hpl := hpl) (hs := hw.2.2) (hL := hL) (hA_mo := hA_mo), fun M2 h2 => ?_⟩⟩
      rw [h2]
      obtain ⟨f1, f2, f3, f4⟩ := (hG1.wmo (th' := 0)).fin (l := l) (D := D) hP (k := k) (u := u) (by omega) hu
      exact ⟨f1, f2, f3, f4, ob1, mu_g hom hout1, fun _ => h3⟩
