/-! ===== the two games in one world: what the actions write ===== -/
theorem up_id {α : Type} {F : Nat → α} {k : Nat} : va_up F k (F k) = F := by
  funext q
  by_cases h : q = k
  · rw [h, up_eq]
  · rw [up_ne h]
section WORLD2
variable {cI cJ : ClassId} {M M' : MP} {A P : Nat → Prop} {b L xo out mo : Nat} {xs : Nat → Int32} {tr tk tp cn N : Nat} {su : Bool} {pa po okk pt : Nat → Nat} {K : Nat → Nat → BitVec 64} {pp : Nat → Nat → Int32} {w bk : Nat → BitVec 64} {wa : Nat → Bool} {ca qu ve : Nat → Nat} {ro no fi se t3 le od th ac oc : Nat} {s2 : Bool} {nr : Nat} {rw f : Nat → Int32}
theorem CAt.xo0 (h : CAt cI cJ M A xo tr tk tp cn N su pa po okk pt K pp w bk wa ca qu ve) : ∀ i, i < N → pa i ≠ xo ∧ po i ≠ xo ∧ okk i ≠ xo ∧ pt i ≠ xo := fun i hi =>
  ⟨ne_oo (h.2.1.1 i hi) h.1 (by decide), ne_oo (h.2.1.2.1 i hi).1 h.1 (by decide), ne_io (h.2.1.2.1 i hi).2.1 h.1, ne_io (h.2.1.2.1 i hi).2.2 h.1⟩
theorem CAt.tr0 (h : CAt cI cJ M A xo tr tk tp cn N su pa po okk pt K pp w bk wa ca qu ve) {q : Nat} (hq : OwC xo pa po okk pt N q) : q ≠ tr ∧ q ≠ tk ∧ q ≠ tp := by
  obtain ⟨h1, h2, ⟨TK, TP, tw, tb, ta, h3, h4, h5⟩, h6, -⟩ := h
  rcases hq with rfl | ⟨i, hi, rfl | rfl | rfl | rfl⟩
  · exact ⟨ne_oo h1 h3 (by decide), ne_oi h1 h4, ne_oi h1 h5⟩
  · exact ⟨ne_oo (h2.1 i hi) h3 (by decide), ne_oi (h2.1 i hi) h4, ne_oi (h2.1 i hi) h5⟩
  · exact ⟨(h6 i hi).1.symm, ne_oi (h2.2.1 i hi).1 h4, ne_oi (h2.2.1 i hi).1 h5⟩
  · exact ⟨ne_io (h2.2.1 i hi).2.1 h3, (h6 i hi).2.1.symm, ne_ji (h2.2.1 i hi).2.1 h5⟩
  · exact ⟨ne_io (h2.2.1 i hi).2.2 h3, ne_ij (h2.2.1 i hi).2.2 h4, (h6 i hi).2.2.symm⟩
/-- the trial position is not among what is written -/
theorem CAt.tr1 (h : CAt cI cJ M A xo tr tk tp cn N su pa po okk pt K pp w bk wa ca qu ve) (hk : Keep M M' (OwC xo pa po okk pt N)) : ∃ (TK : Nat → BitVec 64) (TP : Nat → Int32) (tw tb : BitVec 64) (ta : Bool), PosAt cI cJ M' tr tk tp TK TP tw tb ta := by
  obtain ⟨TK, TP, tw, tb, ta, h3, h4, h5⟩ := id h.2.2.1
  exact ⟨TK, TP, tw, tb, ta, hk _ _ h3 (fun z => (h.tr0 z).1 rfl), hk _ _ h4 (fun z => (h.tr0 z).2.1 rfl), hk _ _ h5 (fun z => (h.tr0 z).2.2 rfl)⟩
theorem GX.own (h : GX cI cJ M A b L xs xo mo out tr tk tp cn N su pa po okk pt K pp w bk wa ca qu ve ro no fi se t3 le od th ac oc s2 nr rw f) (hk : Keep M M' (OwC xo pa po okk pt N)) : RAt cI M' A mo ro no fi se t3 le od th ac oc s2 nr rw f ∧ FX cI cJ M' A b L xs out := h.clss (hk.weak (fun _ _ _ z => Or.inl z))
theorem GX.plc (h : GX cI cJ M A b L xs xo mo out tr tk tp cn N su pa po okk pt K pp w bk wa ca qu ve ro no fi se t3 le od th ac oc s2 nr rw f) (hcn : cn < N) {K1 : Nat → BitVec 64} {w1 b1 : BitVec 64} : GX cI cJ (mu (mu M (po cn) (.inr (1, [.ref (okk cn), .ref (pt cn), .long (bL w1), .long (bL b1), .int (bI (wa cn))]))) (okk cn) (eJ cJ 7 (fun ζ => bL (K1 ζ)))) A b L xs xo mo out tr tk tp cn N su pa po okk pt (va_up K cn K1) pp (va_up w cn w1) (va_up bk cn b1) wa ca qu ve ro no fi se t3 le od th ac oc s2 nr rw f := by
  have hk : Keep M (mu (mu M (po cn) (.inr (1, [.ref (okk cn), .ref (pt cn), .long (bL w1), .long (bL b1), .int (bI (wa cn))]))) (okk cn) (eJ cJ 7 (fun ζ => bL (K1 ζ)))) (OwC xo pa po okk pt N) := (Keep.rf.up (Or.inr ⟨cn, hcn, Or.inr (Or.inl rfl)⟩)).up (Or.inr ⟨cn, hcn, Or.inr (Or.inr (Or.inl rfl))⟩)
  obtain ⟨c1, c2⟩ := h.own hk
  have hx := h.1.xo0 cn hcn
  have hp := (h.1.2.1.w1 (k := cn) hcn (w1 := w1) (b1 := b1) (a1 := wa cn)).w2 (k := cn) hcn (K1 := K1)
  rw [up_id (F := wa)] at hp
  exact ⟨⟨mu_g hx.2.2.1.symm (mu_g hx.2.1.symm h.1.1), hp, h.1.tr1 hk, h.1.2.2.2.1, h.1.2.2.2.2⟩, c1, c2⟩
theorem GX.es (h : GX cI cJ M A b L xs xo mo out tr tk tp cn N su pa po okk pt K pp w bk wa ca qu ve ro no fi se t3 le od th ac oc s2 nr rw f) (hcn : cn < N) {d : Bool} {v : Nat} : GX cI cJ (mu (mu (mu M xo (.inr (2, [.ref (pa 0), .ref tr, .ref (pa cn), .int (bI false)]))) (po cn) (.inr (1, [.ref (okk cn), .ref (pt cn), .long (bL (w cn)), .long (bL (bk cn)), .int (bI d)]))) (pa cn) (.inr (0, [.ref (po cn), pgV pa cn, .int (nI cn), afV pa N cn, .int (nI (ca cn)), .int (nI (qu cn)), .int (nI v)]))) A b L xs xo mo out tr tk tp cn N false pa po okk pt K pp w bk (va_up wa cn d) ca qu (va_up ve cn v) ro no fi se t3 le od th ac oc s2 nr rw f := by
  have hk : Keep M (mu (mu (mu M xo (.inr (2, [.ref (pa 0), .ref tr, .ref (pa cn), .int (bI false)]))) (po cn) (.inr (1, [.ref (okk cn), .ref (pt cn), .long (bL (w cn)), .long (bL (bk cn)), .int (bI d)]))) (pa cn) (.inr (0, [.ref (po cn), pgV pa cn, .int (nI cn), afV pa N cn, .int (nI (ca cn)), .int (nI (qu cn)), .int (nI v)]))) (OwC xo pa po okk pt N) := ((Keep.rf.up (Or.inl rfl)).up (Or.inr ⟨cn, hcn, Or.inr (Or.inl rfl)⟩)).up (Or.inr ⟨cn, hcn, Or.inl rfl⟩)
  obtain ⟨c1, c2⟩ := h.own hk
  have hx := h.1.xo0 cn hcn
  have hp := ((h.1.2.1.w0 (a := xo) (x := .inr (2, [.ref (pa 0), .ref tr, .ref (pa cn), .int (bI false)])) h.1.xo0).w1 (k := cn) hcn (w1 := w cn) (b1 := bk cn) (a1 := d)).w4 (k := cn) hcn (c1 := ca cn) (q1 := qu cn) (v1 := v)
  rw [up_id (F := w), up_id (F := bk), up_id (F := ca), up_id (F := qu)] at hp
  exact ⟨⟨mu_g hx.1.symm (mu_g hx.2.1.symm mu_s), hp, h.1.tr1 hk, h.1.2.2.2.1, h.1.2.2.2.2⟩, c1, c2⟩
theorem GX.tb (h : GX cI cJ M A b L xs xo mo out tr tk tp cn N su pa po okk pt K pp w bk wa ca qu ve ro no fi se t3 le od th ac oc s2 nr rw f) : GX cI cJ (mu M xo (.inr (2, [.ref (pa 0), .ref tr, .ref (pa (cn - 1)), .int (bI su)]))) A b L xs xo mo out tr tk tp (cn - 1) N su pa po okk pt K pp w bk wa ca qu ve ro no fi se t3 le od th ac oc s2 nr rw f := by
  have hk : Keep M (mu M xo (.inr (2, [.ref (pa 0), .ref tr, .ref (pa (cn - 1)), .int (bI su)]))) (OwC xo pa po okk pt N) := Keep.rf.up (Or.inl rfl)
  obtain ⟨c1, c2⟩ := h.own hk
  exact ⟨⟨mu_s, h.1.2.1.w0 h.1.xo0, h.1.tr1 hk, h.1.2.2.2.1, h.1.2.2.2.2⟩, c1, c2⟩
theorem GX.bs (h : GX cI cJ M A b L xs xo mo out tr tk tp cn N su pa po okk pt K pp w bk wa ca qu ve ro no fi se t3 le od th ac oc s2 nr rw f) (hcn : cn < N) : GX cI cJ (mu (mu (mu (mu (mu M xo (.inr (2, [.ref (pa 0), .ref tr, .ref (pa 0), .int (bI true)]))) (pa 0) (.inr (0, [.ref (po 0), pgV pa 0, .int (nI 0), afV pa N 0, .int (nI (ca 0)), .int (nI (qu 0)), .int (nI 0)]))) (po 0) (.inr (1, [.ref (okk 0), .ref (pt 0), .long (bL (0#64)), .long (bL (0#64)), .int (bI true)]))) (okk 0) (eJ cJ 7 (fun ζ => bL (kZ ζ)))) (pt 0) (eI cI 64 pNo)) A b L xs xo mo out tr tk tp 0 N true pa po okk pt (va_up K 0 kZ) (va_up pp 0 pNo) (va_up w 0 0#64) (va_up bk 0 0#64) (va_up wa 0 true) ca qu (va_up ve 0 0) ro no fi se t3 le od th ac oc s2 nr rw f := by
  have h0 : 0 < N := by omega
  have hk : Keep M (mu (mu (mu (mu (mu M xo (.inr (2, [.ref (pa 0), .ref tr, .ref (pa 0), .int (bI true)]))) (pa 0) (.inr (0, [.ref (po 0), pgV pa 0, .int (nI 0), afV pa N 0, .int (nI (ca 0)), .int (nI (qu 0)), .int (nI 0)]))) (po 0) (.inr (1, [.ref (okk 0), .ref (pt 0), .long (bL (0#64)), .long (bL (0#64)), .int (bI true)]))) (okk 0) (eJ cJ 7 (fun ζ => bL (kZ ζ)))) (pt 0) (eI cI 64 pNo)) (OwC xo pa po okk pt N) :=
    ((((Keep.rf.up (Or.inl rfl)).up (Or.inr ⟨0, h0, Or.inl rfl⟩)).up (Or.inr ⟨0, h0, Or.inr (Or.inl rfl)⟩)).up (Or.inr ⟨0, h0, Or.inr (Or.inr (Or.inl rfl))⟩)).up (Or.inr ⟨0, h0, Or.inr (Or.inr (Or.inr rfl))⟩)
  obtain ⟨c1, c2⟩ := h.own hk
  have hx := h.1.xo0 0 h0
  have hp := ((((h.1.2.1.w0 (a := xo) (x := .inr (2, [.ref (pa 0), .ref tr, .ref (pa 0), .int (bI true)])) h.1.xo0).w4 (k := 0) h0 (c1 := ca 0) (q1 := qu 0) (v1 := 0)).w1 (k := 0) h0 (w1 := 0#64) (b1 := 0#64) (a1 := true)).w2 (k := 0) h0 (K1 := kZ)).w3 (k := 0) h0 (p1 := pNo)
  rw [up_id (F := ca), up_id (F := qu)] at hp
  exact ⟨⟨mu_g hx.2.2.2.symm (mu_g hx.2.2.1.symm (mu_g hx.2.1.symm (mu_g hx.1.symm mu_s))), hp, h.1.tr1 hk, h.1.2.2.2.1, h.1.2.2.2.2⟩, c1, c2⟩
/-- an action of the class -/
theorem GX.act (h : GX cI cJ M A b L xs xo mo out tr tk tp cn N su pa po okk pt K pp w bk wa ca qu ve ro no fi se t3 le od th ac oc s2 nr rw f) (hcn : cn < N) {K1 : Nat → BitVec 64} {p1 : Nat → Int32} {w1 b1 : BitVec 64} {c1 q1 : Nat} (hA : Acted cI cJ M M' A xo tr cn su pa po okk pt K pp w bk wa ca qu ve N K1 p1 w1 b1 c1 q1) :
    ∃ pa' po' okk' pt' ve' : Nat → Nat, GX cI cJ M' A b L xs xo mo out tr tk tp (cn + 1) (tN N cn) su pa' po' okk' pt' (va_up K (cn + 1) K1) (va_up pp (cn + 1) p1) (va_up w (cn + 1) w1) (va_up bk (cn + 1) b1) (va_up wa (cn + 1) (!wa cn)) (va_up ca (cn + 1) c1) (va_up qu (cn + 1) q1) ve' ro no fi se t3 le od th ac oc s2 nr rw f ∧ (∀ i, i ≤ cn → ve' i = ve i) ∧ ve' (cn + 1) = kVer (va_up K (cn + 1) K1) (va_up pp (cn + 1) p1) (va_up w (cn + 1) w1) (va_up bk (cn + 1) b1) (va_up wa (cn + 1) (!wa cn)) (va_up qu (cn + 1) q1) (cn + 1) := by
  obtain ⟨pa', po', okk', pt', ve', hP, hx, hv, hv1, hs, hn, hk⟩ := hA
  obtain ⟨d1, d2⟩ := h.own hk
  have hlt : ∀ i, i < tN N cn → i < N ∨ (i = N ∧ cn + 1 = N) := fun i hi => by unfold tN at hi; split at hi <;> omega
  refine ⟨pa', po', okk', pt', ve', ⟨⟨hx, hP, h.1.tr1 hk, fun i hi => ?_, fun q hq => ?_⟩, d1, d2⟩, hv, hv1⟩
  · rcases hlt i hi with z | ⟨rfl, z⟩
    · obtain ⟨e1, e2, e3, e4⟩ := hs i z
      rw [e2, e3, e4]; exact h.1.2.2.2.1 i z
    · obtain ⟨TK, TP, tw, tb, ta, h3, h4, h5⟩ := id h.1.2.2.1
      rcases hn with y | ⟨-, n2, n3, n4⟩
      · omega
      · exact ⟨ne_none h3 n2.1, ne_none h4 n3.1, ne_none h5 n4.1⟩
  · rcases hq with (hq | ⟨i, hi, hq⟩) | hq
    · exact h.1.2.2.2.2 q (Or.inl (Or.inl hq))
    · rcases hlt i hi with z | ⟨rfl, z⟩
      · obtain ⟨e1, e2, e3, e4⟩ := hs i z
        rw [e1, e2, e3, e4] at hq
        exact h.1.2.2.2.2 q (Or.inl (Or.inr ⟨i, z, hq⟩))
      · rcases hn with y | ⟨n1, n2, n3, n4⟩
        · omega
        · rcases hq with rfl | rfl | rfl | rfl
          · exact n1.2
          · exact n2.2
          · exact n3.2
          · exact n4.2
    · exact h.1.2.2.2.2 q (Or.inr hq)
/-- a position is kept -/
theorem GX.kept (h : GX cI cJ M A b L xs xo mo out tr tk tp cn N su pa po okk pt K pp w bk wa ca qu ve ro no fi se t3 le od th ac oc s2 nr rw f) {th' a' : Nat} {s' : Bool} {f' g2 g3 lf : Nat → Int32} (hL : WfL lf) (ha : a' ≤ 512) (hm : MoKept cI M M' A mo ro no fi se t3 le od th' a' s' nr rw f' g2 g3 lf) :
    ∃ (ro' nr' : Nat) (rw' : Nat → Int32), GX cI cJ M' A b L xs xo mo out tr tk tp cn N su pa po okk pt K pp w bk wa ca qu ve ro' no fi se t3 le od th' a' (mOutc rw' f' a') s' nr' rw' f' ∧ (∀ k, k < 146 * a' → rw' k = rw k) ∧ (∀ k, k < 146 → rw' (146 * a' + k) = f' k) ∧ kpS nr a' + 2 * nr = 2 * nr' ∧ kpC nr a' ≤ 1 := by
  obtain ⟨ro', nr', rw', g1, h1, h2, r1, r2, r3, r4⟩ := hm
  obtain ⟨c1, c2⟩ := h.refs h2
  have hn := h.2.1.2.2
  refine ⟨ro', nr', rw', ⟨c1, ⟨⟨g1, g2, g3, lf, h1, hL⟩, fun q hq => ?_, ?_, ?_, r1⟩, c2⟩, r2, r3, ?_, ?_⟩
  · rcases hq with hq | hq | hq
    · exact h.2.1.2.1 q (Or.inl hq)
    · rcases r4 with ⟨e, -, -⟩ | ⟨-, e, -, -⟩
      · exact h.2.1.2.1 q (Or.inr (Or.inl (hq.trans e)))
      · rw [hq]; exact e
    · exact h.2.1.2.1 q (Or.inr (Or.inr hq))
  · rcases r4 with ⟨-, e, -⟩ | ⟨-, -, e, -⟩ <;> omega
  · rcases r4 with ⟨-, e, -⟩ | ⟨-, -, e, e2⟩ <;> omega
  · unfold kpS
    rcases r4 with ⟨-, e, e2⟩ | ⟨-, -, e, e2⟩
    · rw [if_pos e2]; omega
    · rw [if_neg (by omega)]; omega
  · unfold kpC; split <;> omega
end WORLD2

