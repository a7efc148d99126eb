/-! ===== PURE 3: what a move does, in both words ===== -/
theorem low_untie (f : Nat → Int32) (j : Nat) {k : Nat} (hk : k < 64) : mUntie f j k = f k := by
  unfold mUntie; split
  · rfl
  · rw [upd_n (by omega), upd_n (by omega)]
theorem low_tie (f : Nat → Int32) (a b : Nat) {k : Nat} (hk : k < 64) : mTie f a b k = f k := by
  unfold mTie; rw [upd_n (by omega), upd_n (by omega)]
theorem low_cap (f : Nat → Int32) (b : Nat) {k : Nat} (hk : k < 64) : mCap f b k = f k := by
  unfold mCap; split
  · rfl
  · rw [low_untie _ _ hk, upd_n (by omega)]
theorem low_bnd (f : Nat → Int32) (a b : Nat) {k : Nat} (hk : k < 64) : mBnd f a b k = f k := by
  unfold mBnd; split
  · rfl
  · rw [low_tie _ _ _ hk, low_untie _ _ hk]
theorem low_flip (f : Nat → Int32) {k : Nat} (hk : k < 64) : mFlip f k = f k := by
  unfold mFlip; rw [upd_n (by omega)]
theorem ap_low (f : Nat → Int32) {a b j : Nat} (hj : j < 64) : mApply f a b j = if j = a then nI 0 else if j = b then mNewp f a b else f j := by
  unfold mApply
  rw [low_flip _ hj, low_bnd _ _ _ hj]
  unfold mMid
  by_cases h1 : j = a
  · subst h1; rw [upd_s, if_pos rfl]
  · rw [upd_n h1, if_neg h1]
    by_cases h2 : j = b
    · subst h2; rw [upd_s, if_pos rfl]
    · rw [upd_n h2, if_neg h2, upd_n (by omega), low_cap _ _ hj]
def nwc (c b : Nat) : Nat := if c % 8 = 6 then (if b < 8 then 8 * (c / 8) + 2 else if 55 < b then 8 * (c / 8) + 2 else c) else c
theorem tb_nw : ∀ c, c < 15 → (nI c &&& nI 8) + nI 2 = nI (8 * (c / 8) + 2) := by decide +kernel
theorem nwc_ok {c : Nat} (b : Nat) (h : c < 15) (h7 : c ≠ 7) (h8 : c ≠ 8) (h1 : 1 ≤ c % 8) : nwc c b < 15 ∧ nwc c b ≠ 7 ∧ nwc c b ≠ 8 ∧ decide (8 < nwc c b) = decide (8 < c) ∧ nwc c b % 8 = (if c % 8 = 6 ∧ (b < 8 ∨ 55 < b) then 2 else c % 8) ∧ 0 < nwc c b ∧ (decide (0 < nwc c b) && decide (nwc c b < 7)) = !decide (8 < c) := by
  have hz : nwc c b = (if c % 8 = 6 ∧ (b < 8 ∨ 55 < b) then 8 * (c / 8) + 2 else c) := by
    unfold nwc
    by_cases e6 : c % 8 = 6
    · rw [if_pos e6]
      by_cases e1 : b < 8
      · rw [if_pos e1, if_pos ⟨e6, Or.inl e1⟩]
      · rw [if_neg e1]
        by_cases e2 : 55 < b
        · rw [if_pos e2, if_pos ⟨e6, Or.inr e2⟩]
        · rw [if_neg e2, if_neg (fun z => z.2.elim e1 e2)]
    · rw [if_neg e6, if_neg (fun z => e6 z.1)]
  rw [hz]
  by_cases e : c % 8 = 6 ∧ (b < 8 ∨ 55 < b)
  · rw [if_pos e, if_pos e]
    have ec : c = 6 ∨ c = 14 := by omega
    rcases ec with rfl | rfl <;> decide
  · rw [if_neg e, if_neg e]
    refine ⟨h, h7, h8, rfl, rfl, by omega, ?_⟩
    have h0 : 0 < c := by omega
    rw [decide_eq_true h0, Bool.true_and]
    by_cases h9 : 8 < c
    · rw [decide_eq_true h9, decide_eq_false (by omega)]; rfl
    · rw [decide_eq_false h9, decide_eq_true (by omega)]; rfl
/-- the bonds of a row and partners, square by square -/
def RB (pp m : Nat → Int32) : Prop := ∀ j, j < 64 → pp j = m (64 + j)
theorem RB_part {pp m : Nat → Int32} (h : RB pp m) {a : Nat} (ha : a < 64) : RB (kPart pp a) (mUntie m a) := by
  intro j hj
  unfold kPart mUntie
  rw [h a ha]
  by_cases e : m (64 + a) = -1
  · rw [if_pos e, if_pos e]; exact h j hj
  · rw [if_neg e, if_neg e]
    generalize (m (64 + a)).toNatClampNeg = o
    by_cases e1 : j = o
    · subst e1
      rw [upd_s]
      by_cases e2 : j = a
      · subst e2; rw [upd_s]
      · rw [upd_n (by omega), upd_s]
    · rw [upd_n e1]
      by_cases e2 : j = a
      · subst e2; rw [upd_s, upd_s]
      · rw [upd_n e2, upd_n (by omega), upd_n (by omega)]; exact h j hj
theorem RB_join {pp m : Nat → Int32} (h : RB pp m) (a b : Nat) : RB (kJoin pp a b) (mTie m a b) := by
  intro j hj
  unfold kJoin mTie
  by_cases e1 : j = b
  · subst e1; rw [upd_s, upd_s]
  · rw [upd_n e1, upd_n (show 64 + j ≠ 64 + b by omega)]
    by_cases e2 : j = a
    · subst e2; rw [upd_s, upd_s]
    · rw [upd_n e2, upd_n (show 64 + j ≠ 64 + a by omega)]; exact h j hj
theorem RB_cap {pp f : Nat → Int32} (h : RB pp f) {b : Nat} (hb : b < 64) (h0 : pcN f b = 0 → f (64 + b) = -1) : RB (kPart pp b) (mCap f b) := by
  unfold mCap
  by_cases e : pcN f b = 0
  · rw [if_pos e]
    have e2 : kPart pp b = pp := by unfold kPart; rw [if_pos (by rw [h b hb]; exact h0 e)]
    rw [e2]; exact h
  · rw [if_neg e]
    refine RB_part (fun j hj => ?_) hb
    rw [upd_n (by omega)]; exact h j hj
theorem RB_mid {pp f : Nat → Int32} (h : RB pp f) {a b : Nat} (ha : a < 64) (hb : b < 64) (h0 : pcN f b = 0 → f (64 + b) = -1) : RB (kPart pp b) (mMid f a b) := fun j hj => by
  unfold mMid
  rw [upd_n (by omega), upd_n (by omega), upd_n (by omega)]
  exact RB_cap h hb h0 j hj
theorem RB_apply {pp f : Nat → Int32} (h : RB pp f) {a b : Nat} (ha : a < 64) (hb : b < 64) (h0 : pcN f b = 0 → f (64 + b) = -1) : RB (kShP pp a b) (mApply f a b) := by
  have hm := RB_mid h ha hb h0
  have hc : RB (kShP pp a b) (mBnd (mMid f a b) a b) := by
    unfold kShP mBnd kOth
    rw [hm a ha]
    by_cases e : mMid f a b (64 + a) = -1
    · rw [if_pos e, if_pos e]
      have e2 : kPart (kPart pp b) a = kPart pp b := by
        show (if kPart pp b a = -1 then kPart pp b else _) = _
        rw [if_pos (by rw [hm a ha]; exact e)]
      rw [e2]; exact hm
    · rw [if_neg e, if_neg e]
      exact RB_join (RB_part hm ha) b _
  intro j hj
  unfold mApply mFlip
  rw [upd_n (by omega)]
  exact hc j hj
theorem kPtW_bit (x : BitVec 64) {b : Nat} (c : Bool) {j : Nat} (hb : b < 64) : (kPtW x b c).getLsbD j = (x.getLsbD j || (c && decide (b = j))) := by
  unfold kPtW
  cases c
  · rw [if_neg (by decide), Bool.false_and, Bool.or_false]
  · rw [if_pos rfl, BitVec.getLsbD_or, kB_get hb, Bool.true_and]
theorem kLift_bit (K : Nat → BitVec 64) {a k j : Nat} (k1 : 1 ≤ k) (k6 : k ≤ 6) (ha : a < 64) (hj : j < 64) : (kLift K a k).getLsbD j = ((K k).getLsbD j && !decide (a = j)) := by
  unfold kLift kLiftN
  rw [if_pos ⟨k1, by omega⟩, BitVec.getLsbD_and, kNot_get _ hj, kB_get ha]
theorem kShW_bit (x : BitVec 64) {a b : Nat} (c : Bool) {j : Nat} (ha : a < 64) (hb : b < 64) (hj : j < 64) : (kShW x a b c).getLsbD j = (((x.getLsbD j && !decide (b = j)) && !decide (a = j)) || (c && decide (b = j))) := by
  unfold kShW
  rw [kPtW_bit _ c hb, BitVec.getLsbD_and, BitVec.getLsbD_and, kNot_get _ hj, kNot_get _ hj, kB_get ha, kB_get hb]
theorem kPut_bit (K : Nat → BitVec 64) {n b k j : Nat} (hb : b < 64) : (kPut K n b k).getLsbD j = ((K k).getLsbD j || (decide (k = n) && decide (b = j))) := by
  unfold kPut va_up
  by_cases e : k = n
  · subst e; rw [if_pos rfl, BitVec.getLsbD_or, kB_get hb, decide_eq_true rfl, Bool.true_and]
  · rw [if_neg e, decide_eq_false e, Bool.false_and, Bool.or_false]
theorem kShK_bit (K : Nat → BitVec 64) {a b k j : Nat} (k1 : 1 ≤ k) (k6 : k ≤ 6) (ha : a < 64) (hb : b < 64) (hj : j < 64) : (kShK K a b k).getLsbD j = ((((K k).getLsbD j && !decide (b = j)) && !decide (a = j)) || (decide (k = kNk K a b) && decide (b = j))) := by
  unfold kShK
  rw [kPut_bit _ hb, kLift_bit _ k1 k6 ha hj, kLift_bit _ k1 k6 hb hj]
theorem kSide_sh (w bk : BitVec 64) (a b : Nat) (c d : Bool) : kSide (kShW w a b c) (kShW bk a b (!c)) d = kShW (kSide w bk d) a b (c == d) := by
  cases c <;> cases d <;> rfl
section APPLY
variable {f : Nat → Int32} {K : Nat → BitVec 64} {pp : Nat → Int32} {w bk : BitVec 64} {wa : Bool} {a b : Nat}
theorem r_newp (h : Rel f K pp w bk wa) (ha : a < 64) : mNewp f a b = nI (nwc (pcN f a) b) := by
  obtain ⟨h1, h2, h3, h4⟩ := h.1 a ha
  have hp : mPawn f a b = decide (pcN f a % 8 = 6) := by
    unfold mPawn
    have e : mKindN (mCap f b) a = mKindN f a := by unfold mKindN; rw [low_cap _ _ ha]
    rw [e, r_kind h ha]
  have h5 : (f a &&& nI 8) + nI 2 = nI (8 * (pcN f a / 8) + 2) := by rw [h1]; exact (congrArg (fun z => nI (8 * (z / 8) + 2)) (pc_nI h2).symm) ▸ tb_nw _ h2
  unfold mNewp nwc
  rw [hp]
  by_cases e6 : pcN f a % 8 = 6
  · rw [decide_eq_true e6, if_pos rfl, if_pos e6, h5]
    by_cases e1 : b < 8
    · rw [if_pos e1, if_pos e1]
    · rw [if_neg e1, if_neg e1]
      by_cases e2 : 55 < b
      · rw [if_pos e2, if_pos e2]
      · rw [if_neg e2, if_neg e2]; exact h1
  · rw [decide_eq_false e6, if_neg (by decide), if_neg e6]; exact h1
theorem r_cod (h : Rel f K pp w bk wa) (ha : a < 64) {j : Nat} (hj : j < 64) : mApply f a b j = nI (if j = a then 0 else if j = b then nwc (pcN f a) b else pcN f j) := by
  rw [ap_low f hj]
  by_cases e1 : j = a
  · rw [if_pos e1, if_pos e1]
  · rw [if_neg e1, if_neg e1]
    by_cases e2 : j = b
    · rw [if_pos e2, if_pos e2]; exact r_newp h ha
    · rw [if_neg e2, if_neg e2]; exact (h.1 j hj).1
theorem r_cod2 (h : Rel f K pp w bk wa) (ha : a < 64) (hs : (kSide w bk wa).getLsbD a = true) {j : Nat} (hj : j < 64) : pcN (mApply f a b) j = (if j = a then 0 else if j = b then nwc (pcN f a) b else pcN f j) := by
  obtain ⟨h1, h2, h3, h4⟩ := h.1 a ha
  have hn := nwc_ok b h2 h3 h4 (r_kd1 h ha hs).1
  show (mApply f a b j).toNatClampNeg = _
  rw [r_cod h ha hj]
  refine pc_nI ?_
  by_cases e1 : j = a
  · rw [if_pos e1]; decide
  · rw [if_neg e1]
    by_cases e2 : j = b
    · rw [if_pos e2]; exact hn.1
    · rw [if_neg e2]; exact (h.1 j hj).2.1
theorem r_nk (h : Rel f K pp w bk wa) (ha : a < 64) (hb : b < 64) (hs : (kSide w bk wa).getLsbD a = true) : kNk K a b = nwc (pcN f a) b % 8 := by
  obtain ⟨h1, h2, h3, h4⟩ := h.1 a ha
  have hn := nwc_ok b h2 h3 h4 (r_kd1 h ha hs).1
  rw [hn.2.2.2.2.1]
  unfold kNk kPro
  rw [r_kKind h ha]
  by_cases e6 : pcN f a % 8 = 6
  · rw [decide_eq_true e6, Bool.true_and]
    by_cases e1 : b < 8
    · rw [decide_eq_true (show b / 8 = 0 by omega), Bool.true_or, if_pos rfl, if_pos ⟨e6, Or.inl e1⟩]
    · by_cases e2 : 55 < b
      · rw [decide_eq_true (show b / 8 = 7 by omega), Bool.or_true, if_pos rfl, if_pos ⟨e6, Or.inr e2⟩]
      · rw [decide_eq_false (show ¬ b / 8 = 0 by omega), decide_eq_false (show ¬ b / 8 = 7 by omega), Bool.or_false, if_neg (by decide), if_neg (fun z => z.2.elim e1 e2)]
  · rw [decide_eq_false e6, Bool.false_and, if_neg (by decide), if_neg (fun z => e6 z.1)]
theorem r_apply (h : Rel f K pp w bk wa) (hB : WfB f) (ha : a < 64) (hb : b < 64) (hs : (kSide w bk wa).getLsbD a = true) (hn : (kSide w bk wa).getLsbD b = false) (h0 : pcN f b = 0 → f (64 + b) = -1) : Rel (mApply f a b) (kShK K a b) (kShP pp a b) (kShW w a b (w.getLsbD a)) (kShW bk a b (!w.getLsbD a)) (!wa) := by
  obtain ⟨h1, h2, h3, h4⟩ := h.1 a ha
  have hnw := nwc_ok b h2 h3 h4 (r_kd1 h ha hs).1
  have hab : a ≠ b := fun e => by rw [e, hn] at hs; cases hs
  have hcd : ∀ j, j < 64 → pcN (mApply f a b) j = (if j = a then 0 else if j = b then nwc (pcN f a) b else pcN f j) := fun j hj => r_cod2 h ha hs hj
  refine ⟨fun j hj => ?_, fun j hj => ?_, fun j hj => ?_, fun j hj k k1 k6 => ?_, ?_, ?_⟩
  · rw [hcd j hj, r_cod h ha hj]
    refine ⟨rfl, ?_⟩
    by_cases e1 : j = a
    · rw [if_pos e1]; decide
    · rw [if_neg e1]
      by_cases e2 : j = b
      · rw [if_pos e2]; exact ⟨hnw.1, hnw.2.1, hnw.2.2.1⟩
      · rw [if_neg e2]; exact (h.1 j hj).2
  · rw [hcd j hj, kShW_bit _ _ ha hb hj]
    by_cases e1 : j = a
    · subst e1
      rw [if_pos rfl, decide_eq_true (rfl : j = j), decide_eq_false (Ne.symm hab)]
      simp
    · rw [if_neg e1, decide_eq_false (Ne.symm e1)]
      by_cases e2 : j = b
      · subst e2
        rw [if_pos rfl, hnw.2.2.2.1, decide_eq_true (rfl : j = j), h.2.1 a ha]
        simp
      · rw [if_neg e2, decide_eq_false (Ne.symm e2), h.2.1 j hj]
        simp
  · rw [hcd j hj, kShW_bit _ _ ha hb hj]
    by_cases e1 : j = a
    · subst e1
      rw [if_pos rfl, decide_eq_true (rfl : j = j), decide_eq_false (Ne.symm hab)]
      simp
    · rw [if_neg e1, decide_eq_false (Ne.symm e1)]
      by_cases e2 : j = b
      · subst e2
        rw [if_pos rfl, hnw.2.2.2.2.2.2, decide_eq_true (rfl : j = j), h.2.1 a ha]
        simp
      · rw [if_neg e2, decide_eq_false (Ne.symm e2), h.2.2.1 j hj]
        simp
  · rw [hcd j hj, kShK_bit K k1 k6 ha hb hj, r_nk h ha hb hs]
    by_cases e1 : j = a
    · subst e1
      rw [if_pos rfl, decide_eq_true (rfl : j = j), decide_eq_false (Ne.symm hab)]
      have : ¬ 0 % 8 = k := by omega
      rw [decide_eq_false this]
      simp
    · rw [if_neg e1, decide_eq_false (Ne.symm e1)]
      by_cases e2 : j = b
      · subst e2
        rw [if_pos rfl, decide_eq_true (rfl : j = j)]
        have : decide (k = nwc (pcN f a) j % 8) = decide (nwc (pcN f a) j % 8 = k) := decide_eq_decide.mpr ⟨Eq.symm, Eq.symm⟩
        rw [this]
        simp
      · rw [if_neg e2, decide_eq_false (Ne.symm e2), h.2.2.2.1 j hj k k1 k6]
        simp
  · exact RB_apply h.2.2.2.2.1 ha hb h0
  · unfold mApply mFlip
    rw [upd_s, bnd_128 (WfB_mid hB ha hb) ha hb, mid_128 hB ha hb, h.2.2.2.2.2]
    cases wa <;> decide
theorem BondOk.wf {g : Nat → Int32} (h : BondOk g) : WfB g := fun j hj => by
  rcases h j hj with e | ⟨o, ho, e, _⟩
  · exact Or.inl e
  · exact Or.inr ⟨o, ho, e⟩
theorem BondOk.h0 {g : Nat → Int32} (h : BondOk g) {j : Nat} (hj : j < 64) (e : pcN g j = 0) : g (64 + j) = -1 := by
  rcases h j hj with e1 | ⟨o, _, _, _, _, e5, _⟩
  · exact e1
  · rw [e] at e5; cases e5
theorem nI_j {a b : Nat} (ha : a < 64) (hb : b < 64) : nI a = nI b ↔ a = b := nI_eq (by omega) (by omega)
theorem part_val {p : Nat → Int32} {q j : Nat} (hq : p q = -1 ∨ ∃ o, o < 64 ∧ p q = nI o) (hj : j < 64) : kPart p q j = if j = q ∨ p q = nI j then -1 else p j := by
  unfold kPart
  rcases hq with e | ⟨o, ho, e⟩
  · rw [if_pos e]
    by_cases ej : j = q
    · rw [if_pos (Or.inl ej), ej, e]
    · rw [if_neg (fun z => z.elim ej (fun z => by rw [e] at z; exact nI_m1 hj z.symm))]
  · rw [if_neg (by rw [e]; exact nI_m1 ho), e, nI_cl ho]
    by_cases e1 : j = o
    · subst e1; rw [upd_s, if_pos (Or.inr rfl)]
    · rw [upd_n e1]
      by_cases e2 : j = q
      · subst e2; rw [upd_s, if_pos (Or.inl rfl)]
      · rw [upd_n e2, if_neg (fun z => z.elim e2 (fun z => e1 ((nI_j ho hj).mp z).symm))]
/-- the bonds behind a move: the captured knight's is gone, the moved knight's goes with it -/
theorem ap_bond (h : Rel f K pp w bk wa) (hO : BondOk f) (ha : a < 64) (hb : b < 64) (hs : (kSide w bk wa).getLsbD a = true) (hn : (kSide w bk wa).getLsbD b = false) :
    (f (64 + a) = -1 ∧ ∀ j, j < 64 → mApply f a b (64 + j) = if j = a ∨ j = b ∨ f (64 + b) = nI j then -1 else f (64 + j)) ∨
    ∃ o, o < 64 ∧ f (64 + a) = nI o ∧ o ≠ a ∧ o ≠ b ∧ f (64 + o) = nI a ∧ pcN f o = pcN f a ∧ pcN f a % 8 = 5 ∧ ∀ j, j < 64 → mApply f a b (64 + j) = if j = o then nI b else if j = b then nI o else if j = a ∨ f (64 + b) = nI j then -1 else f (64 + j) := by
  have hab : a ≠ b := fun e => by rw [e, hn] at hs; cases hs
  have hR : RB (kShP (fun j => f (64 + j)) a b) (mApply f a b) := RB_apply (fun j _ => rfl) ha hb (hO.h0 hb)
  have hwf := hO.wf
  have hba : ¬ f (64 + b) = nI a := fun e => by
    rcases hO b hb with e1 | ⟨o, ho, e1, _, _, e5, e6⟩
    · rw [e1] at e; exact nI_m1 ha e.symm
    · rw [e1] at e
      rw [(nI_j ho ha).mp e] at e6
      rw [r_side h wa ha, e6, ← r_side h wa hb, hn] at hs
      cases hs
  have hp2 : ∀ j, j < 64 → kPart (fun j => f (64 + j)) b j = if j = b ∨ f (64 + b) = nI j then -1 else f (64 + j) := fun j hj => part_val (p := fun j => f (64 + j)) (hwf b hb) hj
  have hpa : kPart (fun j => f (64 + j)) b a = f (64 + a) := by rw [hp2 a ha, if_neg (fun z => z.elim hab hba)]
  have hoth : kOth (fun j => f (64 + j)) a b = f (64 + a) := hpa
  rcases hO a ha with e | ⟨o, ho, e, e3, e4, e5, e6⟩
  · refine Or.inl ⟨e, fun j hj => ?_⟩
    rw [← hR j hj]
    unfold kShP
    rw [hoth, if_pos e]
    rw [part_val (by left; rw [hpa]; exact e) hj, hpa, e, hp2 j hj]
    by_cases q1 : j = a
    · rw [if_pos (Or.inl q1), if_pos (Or.inl q1)]
    · rw [if_neg (fun z => z.elim q1 (fun z => nI_m1 hj z.symm))]
      by_cases q2 : j = b ∨ f (64 + b) = nI j
      · rw [if_pos q2, if_pos (Or.inr q2)]
      · rw [if_neg q2, if_neg (fun z => z.elim q1 q2)]
  · have hob : o ≠ b := fun z => by
      rw [z] at e6
      rw [r_side h wa ha, ← e6, ← r_side h wa hb, hn] at hs
      cases hs
    refine Or.inr ⟨o, ho, e, e3, hob, e4, e6, e5, fun j hj => ?_⟩
    rw [← hR j hj]
    unfold kShP
    rw [hoth, e, if_neg (nI_m1 ho), nI_cl ho]
    unfold kJoin
    by_cases q1 : j = o
    · subst q1; rw [upd_s, if_pos rfl]
    · rw [upd_n q1, if_neg q1]
      by_cases q2 : j = b
      · subst q2; rw [upd_s, if_pos rfl]
      · rw [upd_n q2, if_neg q2]
        rw [part_val (by right; exact ⟨o, ho, by rw [hpa]; exact e⟩) hj, hpa, e, hp2 j hj]
        by_cases q3 : j = a
        · rw [if_pos (Or.inl q3), if_pos (Or.inl q3)]
        · rw [if_neg (fun z => z.elim q3 (fun z => q1 ((nI_j ho hj).mp z).symm))]
          by_cases q4 : f (64 + b) = nI j
          · rw [if_pos (Or.inr q4), if_pos (Or.inr q4)]
          · rw [if_neg (fun z => z.elim q2 q4), if_neg (fun z => z.elim q3 q4)]
theorem BondOk_apply (h : Rel f K pp w bk wa) (hO : BondOk f) (ha : a < 64) (hb : b < 64) (hs : (kSide w bk wa).getLsbD a = true) (hn : (kSide w bk wa).getLsbD b = false) : BondOk (mApply f a b) := by
  have hab : a ≠ b := fun e => by rw [e, hn] at hs; cases hs
  have hcd : ∀ j, j < 64 → pcN (mApply f a b) j = (if j = a then 0 else if j = b then nwc (pcN f a) b else pcN f j) := fun j hj => r_cod2 h ha hs hj
  have hcn : ∀ j, j < 64 → j ≠ a → j ≠ b → pcN (mApply f a b) j = pcN f j := fun j hj q1 q2 => by rw [hcd j hj, if_neg q1, if_neg q2]
  rcases ap_bond h hO ha hb hs hn with ⟨e, hv⟩ | ⟨o, ho, e, e3, hob, e4, e6, e5, hv⟩
  · intro j hj
    rw [hv j hj]
    by_cases q : j = a ∨ j = b ∨ f (64 + b) = nI j
    · rw [if_pos q]; exact Or.inl rfl
    · rw [if_neg q]
      rcases hO j hj with z | ⟨p, hp, z1, z2, z3, z4, z5⟩
      · exact Or.inl z
      · right
        have pa : p ≠ a := fun y => by rw [y, e] at z3; exact nI_m1 hj z3.symm
        have pb : p ≠ b := fun y => q (Or.inr (Or.inr (by rw [← y]; exact z3)))
        have pq : ¬ f (64 + b) = nI p := fun y => by
          rcases hO b hb with y1 | ⟨r, hr, y1, y2, y3, _⟩
          · rw [y1] at y; exact nI_m1 hp y.symm
          · rw [y1] at y
            rw [(nI_j hr hp).mp y, z3] at y3
            exact q (Or.inr (Or.inl ((nI_j hj hb).mp y3)))
        refine ⟨p, hp, z1, z2, ?_, ?_, ?_⟩
        · rw [hv p hp, if_neg (fun y => y.elim pa (fun y => y.elim pb pq))]; exact z3
        · rw [hcn j hj (fun y => q (Or.inl y)) (fun y => q (Or.inr (Or.inl y)))]; exact z4
        · rw [hcn j hj (fun y => q (Or.inl y)) (fun y => q (Or.inr (Or.inl y))), hcn p hp pa pb]; exact z5
  · have hcb : pcN (mApply f a b) b = pcN f a := by
      rw [hcd b hb, if_neg (Ne.symm hab), if_pos rfl]
      unfold nwc; rw [if_neg (by omega)]
    intro j hj
    rw [hv j hj]
    by_cases q1 : j = o
    · rw [if_pos q1, q1]
      refine Or.inr ⟨b, hb, rfl, Ne.symm hob, ?_, ?_, ?_⟩
      · rw [hv b hb, if_neg (Ne.symm hob), if_pos rfl]
      · rw [hcn o ho e3 hob, e6]; exact e5
      · rw [hcb, hcn o ho e3 hob, e6]
    · rw [if_neg q1]
      by_cases q2 : j = b
      · rw [if_pos q2, q2]
        refine Or.inr ⟨o, ho, rfl, hob, ?_, ?_, ?_⟩
        · rw [hv o ho, if_pos rfl]
        · rw [hcb]; exact e5
        · rw [hcb, hcn o ho e3 hob, e6]
      · rw [if_neg q2]
        by_cases q3 : j = a ∨ f (64 + b) = nI j
        · rw [if_pos q3]; exact Or.inl rfl
        · rw [if_neg q3]
          rcases hO j hj with z | ⟨p, hp, z1, z2, z3, z4, z5⟩
          · exact Or.inl z
          · right
            have pa : p ≠ a := fun y => by rw [y, e] at z3; exact q1 ((nI_j ho hj).mp z3).symm
            have pb : p ≠ b := fun y => q3 (Or.inr (by rw [← y]; exact z3))
            have po : p ≠ o := fun y => by rw [y, e4] at z3; exact q3 (Or.inl ((nI_j ha hj).mp z3).symm)
            have pq : ¬ f (64 + b) = nI p := fun y => by
              rcases hO b hb with y1 | ⟨r, hr, y1, y2, y3, _⟩
              · rw [y1] at y; exact nI_m1 hp y.symm
              · rw [y1] at y
                rw [(nI_j hr hp).mp y, z3] at y3
                exact q2 ((nI_j hj hb).mp y3)
            refine ⟨p, hp, z1, z2, ?_, ?_, ?_⟩
            · rw [hv p hp, if_neg po, if_neg pb, if_neg (fun y => y.elim pa pq)]; exact z3
            · rw [hcn j hj (fun y => q3 (Or.inl y)) q2]; exact z4
            · rw [hcn j hj (fun y => q3 (Or.inl y)) q2, hcn p hp pa pb]; exact z5
def hopC (a b : Nat) : Bool := decide (mHop a b = mHop b a) && ((hopIt 3 (kB a)).getLsbD b == decide (mHop a b ≤ 3))
theorem hopc_all : (List.range 64).all (fun a => (List.range 64).all (fun b => hopC a b)) = true := by decide +kernel
theorem hop_c {a b : Nat} (ha : a < 64) (hb : b < 64) : mHop a b = mHop b a ∧ (hopIt 3 (kB a)).getLsbD b = decide (mHop a b ≤ 3) := by
  have h1 := List.all_eq_true.mp (List.all_eq_true.mp hopc_all a (List.mem_range.mpr ha)) b (List.mem_range.mpr hb)
  unfold hopC at h1
  rw [Bool.and_eq_true, decide_eq_true_eq, beq_iff_eq] at h1
  exact h1
theorem rng_all : ∀ b, b < 64 → (18446744073709551615#64).getLsbD b = true := by decide +kernel
theorem r_rng (h : Rel f K pp w bk wa) (hO : BondOk f) (ha : a < 64) (hb : b < 64) : (kRng pp a).getLsbD b = (if f (64 + a) = -1 then true else decide (mHop (f (64 + a)).toNatClampNeg b ≤ 3)) := by
  unfold kRng
  rw [h.2.2.2.2.1 a ha]
  rcases hO a ha with e | ⟨o, ho, e, _⟩
  · rw [if_pos e, if_pos e]; exact rng_all b hb
  · rw [e, if_neg (nI_m1 ho), if_neg (nI_m1 ho), nI_cl ho]; exact (hop_c ho hb).2
/-- the bonds are near behind a move just where the moved knight stays near -/
theorem BondNear_apply (h : Rel f K pp w bk wa) (hO : BondOk f) (hN : BondNear f) (ha : a < 64) (hb : b < 64) (hs : (kSide w bk wa).getLsbD a = true) (hn : (kSide w bk wa).getLsbD b = false) (hr : (kRng pp a).getLsbD b = true) : BondNear (mApply f a b) := by
  rw [r_rng h hO ha hb] at hr
  rcases ap_bond h hO ha hb hs hn with ⟨e, hv⟩ | ⟨o, ho, e, e3, hob, e4, e6, e5, hv⟩
  · intro j hj
    rw [hv j hj]
    by_cases q : j = a ∨ j = b ∨ f (64 + b) = nI j
    · rw [if_pos q]; intro z; exact absurd rfl z
    · rw [if_neg q]; exact hN j hj
  · rw [e, if_neg (nI_m1 ho), nI_cl ho, decide_eq_true_eq] at hr
    intro j hj
    rw [hv j hj]
    by_cases q1 : j = o
    · rw [if_pos q1, q1, nI_cl hb]; intro _; exact hr
    · rw [if_neg q1]
      by_cases q2 : j = b
      · rw [if_pos q2, q2, nI_cl ho, (hop_c hb ho).1]; intro _; exact hr
      · rw [if_neg q2]
        by_cases q3 : j = a ∨ f (64 + b) = nI j
        · rw [if_pos q3]; intro z; exact absurd rfl z
        · rw [if_neg q3]; exact hN j hj
theorem mFar_near {g : Nat → Int32} {sd : Nat} (hN : BondNear g) : mFar g sd = false := by
  cases hq : mFar g sd
  · rfl
  · unfold mFar at hq
    obtain ⟨j, _, hj, hp⟩ := mAnyL_iff.mp hq
    rw [Bool.and_eq_true] at hp
    have h2 := hp.2
    unfold mFarAt at h2
    by_cases e : g (64 + j) = -1
    · rw [if_pos e] at h2; cases h2
    · rw [if_neg e, decide_eq_true_eq] at h2
      have := hN j (by omega) e
      omega
theorem r_far (h : Rel f K pp w bk wa) (hO : BondOk f) (hN : BondNear f) (ha : a < 64) (hb : b < 64) (hs : (kSide w bk wa).getLsbD a = true) (hn : (kSide w bk wa).getLsbD b = false) : mFar (mApply f a b) (sdN wa) = !(kRng pp a).getLsbD b := by
  cases hr : (kRng pp a).getLsbD b
  · rw [r_rng h hO ha hb] at hr
    rcases ap_bond h hO ha hb hs hn with ⟨e, hv⟩ | ⟨o, ho, e, e3, hob, e4, e6, e5, hv⟩
    · rw [if_pos e] at hr; cases hr
    · rw [e, if_neg (nI_m1 ho), nI_cl ho, decide_eq_false_iff_not] at hr
      have hg := r_apply h hO.wf ha hb hs hn (hO.h0 hb)
      show mFar (mApply f a b) (sdN wa) = true
      unfold mFar
      rw [mAnyL_iff]
      refine ⟨b, Nat.zero_le _, by omega, ?_⟩
      rw [Bool.and_eq_true, r_isOf hg wa hb, kSide_sh, kShW_bit _ _ ha hb hb, r_col h ha hs]
      refine ⟨by simp, ?_⟩
      unfold mFarAt
      rw [hv b hb, if_neg (Ne.symm hob), if_pos rfl, if_neg (nI_m1 ho), nI_cl ho, decide_eq_true_eq, (hop_c hb ho).1]
      omega
  · exact mFar_near (BondNear_apply h hO hN ha hb hs hn hr)
end APPLY
