/-! ===== the two games in one world ===== -/
def etag : va_E → Nat
  | .inr q => q.1
  | .inl q => 100 + q.2.1
def ClsP (xo tr tk tp : Nat) (pa po okk pt : Nat → Nat) (N q : Nat) : Prop := OwC xo pa po okk pt N q ∨ q = tr ∨ q = tk ∨ q = tp
def CAt (cI cJ : ClassId) (M : MP) (A : Nat → Prop) (xo : Nat) (tr tk tp cn N : Nat) (su : Bool) (pa po okk pt : Nat → Nat) (K : Nat → Nat → BitVec 64) (pp : Nat → Nat → Int32) (w bk : Nat → BitVec 64) (wa : Nat → Bool) (ca qu ve : Nat → Nat) : Prop :=
  M xo = some (.inr (2, [.ref (pa 0), .ref tr, .ref (pa cn), .int (bI su)])) ∧ Pages cI cJ M pa po okk pt K pp w bk wa ca qu ve N ∧ (∃ (TK : Nat → BitVec 64) (TP : Nat → Int32) (tw tb : BitVec 64) (ta : Bool), PosAt cI cJ M tr tk tp TK TP tw tb ta) ∧ (∀ i, i < N → tr ≠ po i ∧ tk ≠ okk i ∧ tp ≠ pt i) ∧ (∀ q, ClsP xo tr tk tp pa po okk pt N q → A q)
def RAt (cI : ClassId) (M : MP) (A : Nat → Prop) (mo : Nat) (ro no fi se t3 le od th ac oc : Nat) (s2 : Bool) (nr : Nat) (rw f : Nat → Int32) : Prop :=
  (∃ g1 g2 g3 lf : Nat → Int32, MoAt cI M mo ro no fi se t3 le od th ac oc s2 nr rw f g1 g2 g3 lf ∧ WfL lf) ∧ (∀ q, OwM mo ro no fi se t3 q → A q) ∧ (2336 ≤ nr ∧ nr < 150000 ∧ 146 * (ac + 1) ≤ nr)
/-- the script is old, and stays where it is -/
def ScrP (b L : Nat) (xs : Nat → Int32) : Prop := ∃ f : Nat → Int32, f = fun j => if j < L + b then xs j else xs j
def FX (cI cJ : ClassId) (M : MP) (A : Nat → Prop) (b L : Nat) (xs : Nat → Int32) (out : Nat) : Prop := ScrP b L xs ∧ ¬ A b ∧ (∃ ob : Nat → BitVec 64, M out = some (eJ cJ 1 (fun k => bL (ob k)))) ∧ A out
section WORLD
variable {cI cJ : ClassId} {M M' : MP} {A P : Nat → Prop} {b L xo out mo : Nat} {xs : Nat → Int32} {tr tk tp cn N : Nat} {su : Bool} {pa po okk pt : Nat → Nat} {K : Nat → Nat → BitVec 64} {pp : Nat → Nat → Int32} {w bk : Nat → BitVec 64} {wa : Nat → Bool} {ca qu ve : Nat → Nat} {ro no fi se t3 le od th ac oc : Nat} {s2 : Bool} {nr : Nat} {rw f : Nat → Int32}
theorem CAt.tag (h : CAt cI cJ M A xo tr tk tp cn N su pa po okk pt K pp w bk wa ca qu ve) {q : Nat} (hq : ClsP xo tr tk tp pa po okk pt N q) : ∃ e, M q = some e ∧ (etag e = 0 ∨ etag e = 1 ∨ etag e = 2 ∨ etag e = 107 ∨ etag e = 164) := by
  obtain ⟨h1, h2, ⟨TK, TP, tw, tb, ta, h3, h4, h5⟩, -, -⟩ := h
  rcases hq with (rfl | ⟨i, hi, rfl | rfl | rfl | rfl⟩) | rfl | rfl | rfl
  · exact ⟨_, h1, Or.inr (Or.inr (Or.inl rfl))⟩
  · exact ⟨_, h2.1 i hi, Or.inl rfl⟩
  · exact ⟨_, (h2.2.1 i hi).1, Or.inr (Or.inl rfl)⟩
  · exact ⟨_, (h2.2.1 i hi).2.1, Or.inr (Or.inr (Or.inr (Or.inl rfl)))⟩
  · exact ⟨_, (h2.2.1 i hi).2.2, Or.inr (Or.inr (Or.inr (Or.inr rfl)))⟩
  · exact ⟨_, h3, Or.inr (Or.inl rfl)⟩
  · exact ⟨_, h4, Or.inr (Or.inr (Or.inr (Or.inl rfl)))⟩
  · exact ⟨_, h5, Or.inr (Or.inr (Or.inr (Or.inr rfl)))⟩
theorem RAt.tag (h : RAt cI M A mo ro no fi se t3 le od th ac oc s2 nr rw f) {q : Nat} (hq : OwM mo ro no fi se t3 q ∨ q = le) : ∃ e, M q = some e ∧ (etag e = 3 ∨ etag e = 246 ∨ 2436 ≤ etag e) := by
  obtain ⟨⟨g1, g2, g3, lf, ⟨h1, h2, h3, h4, h5, h6, h7, -⟩, -⟩, -, hn, -, -⟩ := h
  rcases hq with (rfl | rfl | rfl | rfl | rfl | rfl) | rfl
  · exact ⟨_, h1, Or.inl rfl⟩
  · exact ⟨_, h2, Or.inr (Or.inr (show 2436 ≤ 100 + nr by omega))⟩
  · exact ⟨_, h3, Or.inr (Or.inl rfl)⟩
  · exact ⟨_, h4, Or.inr (Or.inl rfl)⟩
  · exact ⟨_, h5, Or.inr (Or.inl rfl)⟩
  · exact ⟨_, h6, Or.inr (Or.inl rfl)⟩
  · exact ⟨_, h7, Or.inr (Or.inr (show 2436 ≤ 100 + 4096 by omega))⟩
theorem CAt.apart (h : CAt cI cJ M A xo tr tk tp cn N su pa po okk pt K pp w bk wa ca qu ve) (h2 : RAt cI M A mo ro no fi se t3 le od th ac oc s2 nr rw f) {q : Nat} (hq : ClsP xo tr tk tp pa po okk pt N q) : ¬ (OwM mo ro no fi se t3 q ∨ q = le) := fun hr => by
  obtain ⟨e, he, ht⟩ := h.tag hq
  obtain ⟨e2, he2, ht2⟩ := h2.tag hr
  cases Option.some.inj (he.symm.trans he2)
  omega
theorem FX.cls (h : FX cI cJ M A b L xs out) (h2 : CAt cI cJ M A xo tr tk tp cn N su pa po okk pt K pp w bk wa ca qu ve) : ¬ ClsP xo tr tk tp pa po okk pt N b ∧ ¬ ClsP xo tr tk tp pa po okk pt N out := by
  obtain ⟨h3, h4, ⟨ob, h5⟩, h6⟩ := h
  refine ⟨fun z => h4 (h2.2.2.2.2 _ z), fun z => ?_⟩
  obtain ⟨e, he, ht⟩ := h2.tag z
  cases Option.some.inj (he.symm.trans h5)
  change 100 + 1 = 0 ∨ 100 + 1 = 1 ∨ 100 + 1 = 2 ∨ 100 + 1 = 107 ∨ 100 + 1 = 164 at ht
  omega
theorem FX.ref (h : FX cI cJ M A b L xs out) (h2 : RAt cI M A mo ro no fi se t3 le od th ac oc s2 nr rw f) : ¬ OwM mo ro no fi se t3 b ∧ ¬ (OwM mo ro no fi se t3 out ∨ out = le) := by
  obtain ⟨h3, h4, ⟨ob, h5⟩, h6⟩ := h
  refine ⟨fun z => h4 (h2.2.1 _ z), fun z => ?_⟩
  obtain ⟨e, he, ht⟩ := h2.tag z
  cases Option.some.inj (he.symm.trans h5)
  change 100 + 1 = 3 ∨ 100 + 1 = 246 ∨ 2436 ≤ 100 + 1 at ht
  omega
theorem CAt.keep (h : CAt cI cJ M A xo tr tk tp cn N su pa po okk pt K pp w bk wa ca qu ve) (hk : Keep M M' P) (hp : ∀ q, ClsP xo tr tk tp pa po okk pt N q → ¬ P q) : CAt cI cJ M' A xo tr tk tp cn N su pa po okk pt K pp w bk wa ca qu ve := by
  obtain ⟨h1, h2, ⟨TK, TP, tw, tb, ta, h3, h4, h5⟩, h6, h7⟩ := h
  exact ⟨hk _ _ h1 (hp _ (Or.inl (Or.inl rfl))), h2.keep hk (fun i hi => ⟨hp _ (Or.inl (Or.inr ⟨i, hi, Or.inl rfl⟩)), hp _ (Or.inl (Or.inr ⟨i, hi, Or.inr (Or.inl rfl)⟩)), hp _ (Or.inl (Or.inr ⟨i, hi, Or.inr (Or.inr (Or.inl rfl))⟩)), hp _ (Or.inl (Or.inr ⟨i, hi, Or.inr (Or.inr (Or.inr rfl))⟩))⟩),
    ⟨TK, TP, tw, tb, ta, hk _ _ h3 (hp _ (Or.inr (Or.inl rfl))), hk _ _ h4 (hp _ (Or.inr (Or.inr (Or.inl rfl)))), hk _ _ h5 (hp _ (Or.inr (Or.inr (Or.inr rfl))))⟩, h6, h7⟩
theorem RAt.keep (h : RAt cI M A mo ro no fi se t3 le od th ac oc s2 nr rw f) (hk : Keep M M' P) (hp : ∀ q, OwM mo ro no fi se t3 q ∨ q = le → ¬ P q) : RAt cI M' A mo ro no fi se t3 le od th ac oc s2 nr rw f := by
  obtain ⟨⟨g1, g2, g3, lf, ⟨h1, h2, h3, h4, h5, h6, h7, h8⟩, h9⟩, h10, h11⟩ := h
  exact ⟨⟨g1, g2, g3, lf, ⟨hk _ _ h1 (hp _ (Or.inl (Or.inl rfl))), hk _ _ h2 (hp _ (Or.inl (Or.inr (Or.inl rfl)))), hk _ _ h3 (hp _ (Or.inl (Or.inr (Or.inr (Or.inl rfl))))), hk _ _ h4 (hp _ (Or.inl (Or.inr (Or.inr (Or.inr (Or.inl rfl)))))), hk _ _ h5 (hp _ (Or.inl (Or.inr (Or.inr (Or.inr (Or.inr (Or.inl rfl))))))), hk _ _ h6 (hp _ (Or.inl (Or.inr (Or.inr (Or.inr (Or.inr (Or.inr rfl))))))), hk _ _ h7 (hp _ (Or.inr rfl)), h8⟩, h9⟩, h10, h11⟩
theorem FX.keep (h : FX cI cJ M A b L xs out) (hk : Keep M M' P) (h1 : ¬ P b) (h2 : ¬ P out) : FX cI cJ M' A b L xs out := by
  obtain ⟨h3, h4, ⟨ob, h5⟩, h6⟩ := h
  exact ⟨h3, h4, ⟨ob, hk _ _ h5 h2⟩, h6⟩
/-- all three -/
def GX (cI cJ : ClassId) (M : MP) (A : Nat → Prop) (b L : Nat) (xs : Nat → Int32) (xo mo out : Nat) (tr tk tp cn N : Nat) (su : Bool) (pa po okk pt : Nat → Nat) (K : Nat → Nat → BitVec 64) (pp : Nat → Nat → Int32) (w bk : Nat → BitVec 64) (wa : Nat → Bool) (ca qu ve : Nat → Nat) (ro no fi se t3 le od th ac oc : Nat) (s2 : Bool) (nr : Nat) (rw f : Nat → Int32) : Prop := CAt cI cJ M A xo tr tk tp cn N su pa po okk pt K pp w bk wa ca qu ve ∧ RAt cI M A mo ro no fi se t3 le od th ac oc s2 nr rw f ∧ FX cI cJ M A b L xs out
/-- the reference's own writes -/
theorem GX.refs (h : GX cI cJ M A b L xs xo mo out tr tk tp cn N su pa po okk pt K pp w bk wa ca qu ve ro no fi se t3 le od th ac oc s2 nr rw f) (hk : Keep M M' (OwM mo ro no fi se t3)) : CAt cI cJ M' A xo tr tk tp cn N su pa po okk pt K pp w bk wa ca qu ve ∧ FX cI cJ M' A b L xs out :=
  ⟨h.1.keep hk (fun _ hq z => h.1.apart h.2.1 hq (Or.inl z)), h.2.2.keep hk (h.2.2.ref h.2.1).1 (fun z => (h.2.2.ref h.2.1).2 (Or.inl z))⟩
/-- the class's own writes -/
theorem GX.clss (h : GX cI cJ M A b L xs xo mo out tr tk tp cn N su pa po okk pt K pp w bk wa ca qu ve ro no fi se t3 le od th ac oc s2 nr rw f) (hk : Keep M M' (ClsP xo tr tk tp pa po okk pt N)) : RAt cI M' A mo ro no fi se t3 le od th ac oc s2 nr rw f ∧ FX cI cJ M' A b L xs out :=
  ⟨h.2.1.keep hk (fun _ hq z => h.1.apart h.2.1 z hq), h.2.2.keep hk (h.2.2.cls h.1).1 (h.2.2.cls h.1).2⟩
theorem GX.wmo (h : GX cI cJ M A b L xs xo mo out tr tk tp cn N su pa po okk pt K pp w bk wa ca qu ve ro no fi se t3 le od th ac oc s2 nr rw f) {th' oc' : Nat} : GX cI cJ (mu M mo (.inr (3, [.int (nI th'), .int (bI s2), .ref ro, .int (nI ac), .int (nI oc'), .ref no, .ref fi, .ref se, .ref t3, .ref le, .ref od]))) A b L xs xo mo out tr tk tp cn N su pa po okk pt K pp w bk wa ca qu ve ro no fi se t3 le od th' ac oc' s2 nr rw f := by
  have hk : Keep M (mu M mo (.inr (3, [.int (nI th'), .int (bI s2), .ref ro, .int (nI ac), .int (nI oc'), .ref no, .ref fi, .ref se, .ref t3, .ref le, .ref od]))) (OwM mo ro no fi se t3) := Keep.rf.up (Or.inl rfl)
  obtain ⟨c1, c2⟩ := h.refs hk
  obtain ⟨⟨g1, g2, g3, lf, ⟨h1, h2, h3, h4, h5, h6, h7, h8⟩, h9⟩, h10, h11⟩ := h.2.1
  exact ⟨c1, ⟨⟨g1, g2, g3, lf, ⟨mu_s, mu_g (ne_io h2 h1) h2, mu_g (ne_io h3 h1) h3, mu_g (ne_io h4 h1) h4, mu_g (ne_io h5 h1) h5, mu_g (ne_io h6 h1) h6, mu_g (ne_io h7 h1) h7, h8⟩, h9⟩, h10, h11⟩, c2⟩
theorem GX.wm0 (h : GX cI cJ M A b L xs xo mo out tr tk tp cn N su pa po okk pt K pp w bk wa ca qu ve ro no fi se t3 le od th ac oc s2 nr rw f) {th' oc' a' : Nat} {s' : Bool} (ha : 146 * (a' + 1) ≤ nr) : GX cI cJ (mu M mo (.inr (3, [.int (nI th'), .int (bI s'), .ref ro, .int (nI a'), .int (nI oc'), .ref no, .ref fi, .ref se, .ref t3, .ref le, .ref od]))) A b L xs xo mo out tr tk tp cn N su pa po okk pt K pp w bk wa ca qu ve ro no fi se t3 le od th' a' oc' s' nr rw f := by
  have hk : Keep M (mu M mo (.inr (3, [.int (nI th'), .int (bI s'), .ref ro, .int (nI a'), .int (nI oc'), .ref no, .ref fi, .ref se, .ref t3, .ref le, .ref od]))) (OwM mo ro no fi se t3) := Keep.rf.up (Or.inl rfl)
  obtain ⟨c1, c2⟩ := h.refs hk
  obtain ⟨⟨g1, g2, g3, lf, ⟨h1, h2, h3, h4, h5, h6, h7, h8⟩, h9⟩, h10, h11⟩ := h.2.1
  exact ⟨c1, ⟨⟨g1, g2, g3, lf, ⟨mu_s, mu_g (ne_io h2 h1) h2, mu_g (ne_io h3 h1) h3, mu_g (ne_io h4 h1) h4, mu_g (ne_io h5 h1) h5, mu_g (ne_io h6 h1) h6, mu_g (ne_io h7 h1) h7, h8⟩, h9⟩, h10, h11.1, h11.2.1, ha⟩, c2⟩
theorem GX.wfi (h : GX cI cJ M A b L xs xo mo out tr tk tp cn N su pa po okk pt K pp w bk wa ca qu ve ro no fi se t3 le od th ac oc s2 nr rw f) {g : Nat → Int32} : GX cI cJ (mu M fi (eI cI 146 g)) A b L xs xo mo out tr tk tp cn N su pa po okk pt K pp w bk wa ca qu ve ro no fi se t3 le od th ac oc s2 nr rw f := by
  have hk : Keep M (mu M fi (eI cI 146 g)) (OwM mo ro no fi se t3) := Keep.rf.up (Or.inr (Or.inr (Or.inr (Or.inl rfl))))
  obtain ⟨c1, c2⟩ := h.refs hk
  obtain ⟨⟨g1, g2, g3, lf, ⟨h1, h2, h3, h4, h5, h6, h7, h8⟩, h9⟩, h10, h11⟩ := h.2.1
  obtain ⟨⟨a1, a2, a3, a4, a5⟩, ⟨b1, b2, b3, b4⟩, ⟨d1, d2, d3⟩, ⟨e1, e2⟩, e3⟩ := id h8
  exact ⟨c1, ⟨⟨g, g2, g3, lf, ⟨mu_g (ne_oi h1 h4) h1, mu_g a2 h2, mu_g b1 h3, mu_s, mu_g d1.symm h5, mu_g d2.symm h6, mu_g d3.symm h7, h8⟩, h9⟩, h10, h11⟩, c2⟩
theorem GX.wse (h : GX cI cJ M A b L xs xo mo out tr tk tp cn N su pa po okk pt K pp w bk wa ca qu ve ro no fi se t3 le od th ac oc s2 nr rw f) {g : Nat → Int32} : GX cI cJ (mu M se (eI cI 146 g)) A b L xs xo mo out tr tk tp cn N su pa po okk pt K pp w bk wa ca qu ve ro no fi se t3 le od th ac oc s2 nr rw f := by
  have hk : Keep M (mu M se (eI cI 146 g)) (OwM mo ro no fi se t3) := Keep.rf.up (Or.inr (Or.inr (Or.inr (Or.inr (Or.inl rfl)))))
  obtain ⟨c1, c2⟩ := h.refs hk
  obtain ⟨⟨g1, g2, g3, lf, ⟨h1, h2, h3, h4, h5, h6, h7, h8⟩, h9⟩, h10, h11⟩ := h.2.1
  obtain ⟨⟨a1, a2, a3, a4, a5⟩, ⟨b1, b2, b3, b4⟩, ⟨d1, d2, d3⟩, ⟨e1, e2⟩, e3⟩ := id h8
  exact ⟨c1, ⟨⟨g1, g, g3, lf, ⟨mu_g (ne_oi h1 h5) h1, mu_g a3 h2, mu_g b2 h3, mu_g d1 h4, mu_s, mu_g e1.symm h6, mu_g e2.symm h7, h8⟩, h9⟩, h10, h11⟩, c2⟩
theorem GX.wt3 (h : GX cI cJ M A b L xs xo mo out tr tk tp cn N su pa po okk pt K pp w bk wa ca qu ve ro no fi se t3 le od th ac oc s2 nr rw f) {g : Nat → Int32} : GX cI cJ (mu M t3 (eI cI 146 g)) A b L xs xo mo out tr tk tp cn N su pa po okk pt K pp w bk wa ca qu ve ro no fi se t3 le od th ac oc s2 nr rw f := by
  have hk : Keep M (mu M t3 (eI cI 146 g)) (OwM mo ro no fi se t3) := Keep.rf.up (Or.inr (Or.inr (Or.inr (Or.inr (Or.inr rfl)))))
  obtain ⟨c1, c2⟩ := h.refs hk
  obtain ⟨⟨g1, g2, g3, lf, ⟨h1, h2, h3, h4, h5, h6, h7, h8⟩, h9⟩, h10, h11⟩ := h.2.1
  obtain ⟨⟨a1, a2, a3, a4, a5⟩, ⟨b1, b2, b3, b4⟩, ⟨d1, d2, d3⟩, ⟨e1, e2⟩, e3⟩ := id h8
  exact ⟨c1, ⟨⟨g1, g2, g, lf, ⟨mu_g (ne_oi h1 h6) h1, mu_g a4 h2, mu_g b3 h3, mu_g d2 h4, mu_g e1 h5, mu_s, mu_g e3.symm h7, h8⟩, h9⟩, h10, h11⟩, c2⟩
theorem GX.wno (h : GX cI cJ M A b L xs xo mo out tr tk tp cn N su pa po okk pt K pp w bk wa ca qu ve ro no fi se t3 le od th ac oc s2 nr rw f) {g : Nat → Int32} : GX cI cJ (mu M no (eI cI 146 g)) A b L xs xo mo out tr tk tp cn N su pa po okk pt K pp w bk wa ca qu ve ro no fi se t3 le od th ac oc s2 nr rw g := by
  have hk : Keep M (mu M no (eI cI 146 g)) (OwM mo ro no fi se t3) := Keep.rf.up (Or.inr (Or.inr (Or.inl rfl)))
  obtain ⟨c1, c2⟩ := h.refs hk
  obtain ⟨⟨g1, g2, g3, lf, ⟨h1, h2, h3, h4, h5, h6, h7, h8⟩, h9⟩, h10, h11⟩ := h.2.1
  obtain ⟨⟨a1, a2, a3, a4, a5⟩, ⟨b1, b2, b3, b4⟩, ⟨d1, d2, d3⟩, ⟨e1, e2⟩, e3⟩ := id h8
  exact ⟨c1, ⟨⟨g1, g2, g3, lf, ⟨mu_g (ne_oi h1 h3) h1, mu_g a1 h2, mu_s, mu_g b1.symm h4, mu_g b2.symm h5, mu_g b3.symm h6, mu_g b4.symm h7, h8⟩, h9⟩, h10, h11⟩, c2⟩
theorem GX.wout (h : GX cI cJ M A b L xs xo mo out tr tk tp cn N su pa po okk pt K pp w bk wa ca qu ve ro no fi se t3 le od th ac oc s2 nr rw f) {ob : Nat → BitVec 64} : GX cI cJ (mu M out (eJ cJ 1 (fun k => bL (ob k)))) A b L xs xo mo out tr tk tp cn N su pa po okk pt K pp w bk wa ca qu ve ro no fi se t3 le od th ac oc s2 nr rw f := by
  have hk : Keep M (mu M out (eJ cJ 1 (fun k => bL (ob k)))) (fun q => q = out) := Keep.rf.up rfl
  exact ⟨h.1.keep hk (fun q hq z => (h.2.2.cls h.1).2 (by rw [← z]; exact hq)), h.2.1.keep hk (fun q hq z => (h.2.2.ref h.2.1).2 (by rw [← z]; exact hq)), h.2.2.1, h.2.2.2.1, ⟨ob, mu_s⟩, h.2.2.2.2.2⟩
/-- the trial position -/
theorem GX.wtr (h : GX cI cJ M A b L xs xo mo out tr tk tp cn N su pa po okk pt K pp w bk wa ca qu ve ro no fi se t3 le od th ac oc s2 nr rw f) {TK : Nat → BitVec 64} {TP : Nat → Int32} {tw tb : BitVec 64} {ta : Bool} : GX cI cJ (mu (mu (mu M tr (.inr (1, [.ref tk, .ref tp, .long (bL tw), .long (bL tb), .int (bI ta)]))) tk (eJ cJ 7 (fun ζ => bL (TK ζ)))) tp (eI cI 64 TP)) A b L xs xo mo out tr tk tp cn N su pa po okk pt K pp w bk wa ca qu ve ro no fi se t3 le od th ac oc s2 nr rw f := by
  have hk : Keep M (mu (mu (mu M tr (.inr (1, [.ref tk, .ref tp, .long (bL tw), .long (bL tb), .int (bI ta)]))) tk (eJ cJ 7 (fun ζ => bL (TK ζ)))) tp (eI cI 64 TP)) (ClsP xo tr tk tp pa po okk pt N) := ((Keep.rf.up (Or.inr (Or.inl rfl))).up (Or.inr (Or.inr (Or.inl rfl)))).up (Or.inr (Or.inr (Or.inr rfl)))
  obtain ⟨c1, c2⟩ := h.clss hk
  obtain ⟨h1, h2, ⟨TK2, TP2, tw2, tb2, ta2, h3, h4, h5⟩, h6, h7⟩ := h.1
  refine ⟨⟨mu_g (ne_oi h1 h5) (mu_g (ne_oi h1 h4) (mu_g (ne_oo h1 h3 (by decide)) h1)), ?_, ⟨TK, TP, tw, tb, ta, mu_g (ne_oi h3 h5) (mu_g (ne_oi h3 h4) mu_s), mu_g (ne_ji h4 h5) mu_s, mu_s⟩, h6, h7⟩, c1, c2⟩
  refine ((h2.w0 (a := tr) (fun i hi => ⟨ne_oo (h2.1 i hi) h3 (by decide), (h6 i hi).1.symm, ne_io (h2.2.1 i hi).2.1 h3, ne_io (h2.2.1 i hi).2.2 h3⟩)).w0 (a := tk) (fun i hi => ⟨ne_oi (h2.1 i hi) h4, ne_oi (h2.2.1 i hi).1 h4, (h6 i hi).2.1.symm, ne_ij (h2.2.1 i hi).2.2 h4⟩)).w0 (a := tp) (fun i hi => ⟨ne_oi (h2.1 i hi) h5, ne_oi (h2.2.1 i hi).1 h5, ne_ji (h2.2.1 i hi).2.1 h5, (h6 i hi).2.2.symm⟩)
end WORLD
def GI (cI cJ : ClassId) (A : Nat → Prop) (b L : Nat) (xs : Nat → Int32) (xo mo out : Nat) (k : Nat) (M : MP) (u : Nat) : Prop :=
  ∃ (tr tk tp cn N : Nat) (su : Bool) (pa po okk pt : Nat → Nat) (K : Nat → Nat → BitVec 64) (pp : Nat → Nat → Int32) (w bk : Nat → BitVec 64) (wa : Nat → Bool) (ca qu ve : Nat → Nat) (ro no fi se t3 le od th oc nr : Nat) (rw f : Nat → Int32), GX cI cJ M A b L xs xo mo out tr tk tp cn N su pa po okk pt K pp w bk wa ca qu ve ro no fi se t3 le od th cn oc su nr rw f ∧ PS su cn N K pp w bk wa ca qu ve rw f oc ∧ N ≤ k + 1 ∧ u = 2 * nr

