/-! ===== PURE 4: lawful moves ===== -/
theorem kAtt_get (K : Nat → BitVec 64) (w bk t : BitVec 64) (c : Bool) (tk : BitVec 64) (j : Nat) : (kAtt K w bk t c tk).getLsbD j = (((((((kKi t).getLsbD j && (K 1).getLsbD j) || ((kN t).getLsbD j && (K 5).getLsbD j)) || ((kPa t (!c)).getLsbD j && (K 6).getLsbD j)) || ((kRk t tk).getLsbD j && ((K 2).getLsbD j || (K 3).getLsbD j))) || ((kBi t tk).getLsbD j && ((K 2).getLsbD j || (K 4).getLsbD j))) && (kSide w bk c).getLsbD j) := by
  unfold kAtt
  simp only [BitVec.getLsbD_and, BitVec.getLsbD_or]
theorem kFoldS_get {g : Nat → BitVec 64 → BitVec 64} {q : Nat → Bool} (hg : ∀ k, k < 64 → ∀ r, g k r = if q k then r ||| kB k else r) {j : Nat} : ∀ n i r, i + n ≤ 64 → ((kFoldS g n i r).getLsbD j = true ↔ r.getLsbD j = true ∨ (i ≤ j ∧ j < i + n ∧ q j = true))
  | 0, i, r, _ => by
    constructor
    · intro h; exact Or.inl h
    · rintro (h | h)
      · exact h
      · omega
  | n + 1, i, r, hin => by
    show (kFoldS g n (i + 1) (g i r)).getLsbD j = true ↔ _
    rw [kFoldS_get hg n (i + 1) _ (by omega), hg i (by omega)]
    cases hp : q i
    · rw [if_neg (by decide)]
      constructor
      · rintro (h | ⟨h1, h2, h3⟩)
        · exact Or.inl h
        · exact Or.inr ⟨by omega, by omega, h3⟩
      · rintro (h | ⟨h1, h2, h3⟩)
        · exact Or.inl h
        · refine Or.inr ⟨?_, by omega, h3⟩
          by_cases e : i = j
          · subst e; rw [hp] at h3; cases h3
          · omega
    · rw [if_pos rfl, BitVec.getLsbD_or, kB_get (show i < 64 by omega), Bool.or_eq_true, decide_eq_true_eq]
      constructor
      · rintro ((h | h) | ⟨h1, h2, h3⟩)
        · exact Or.inl h
        · subst h; exact Or.inr ⟨Nat.le_refl _, by omega, hp⟩
        · exact Or.inr ⟨by omega, by omega, h3⟩
      · rintro (h | ⟨h1, h2, h3⟩)
        · exact Or.inl (Or.inl h)
        · by_cases e : i = j
          · exact Or.inl (Or.inr e)
          · exact Or.inr ⟨by omega, by omega, h3⟩
theorem kFold_bit {g : Nat → BitVec 64 → BitVec 64} {q : Nat → Bool} (hg : ∀ k, k < 64 → ∀ r, g k r = if q k then r ||| kB k else r) {j : Nat} (hj : j < 64) : (kFoldS g 64 0 0#64).getLsbD j = q j := by
  refine bool_ext ?_
  rw [kFoldS_get hg 64 0 _ (by decide), z_get]
  constructor
  · rintro (h | h)
    · cases h
    · exact h.2.2
  · intro h; exact Or.inr ⟨Nat.zero_le _, by omega, h⟩
def subOk (k e i : Nat) : Bool := decide (i = 0) || ((mStr k (mPth k e i) == mStr k e) && ((mDia k (mPth k e i) == mDia k e) && (decide (mDist k (mPth k e i) = i) && (List.range i).all (fun m => decide (mPth k (mPth k e i) m = mPth k e m)))))
theorem sub_all : (List.range 64).all (fun k => (List.range 64).all (fun e => !mAl k e || (List.range (mDist k e)).all (fun i => subOk k e i))) = true := by decide +kernel
theorem sub_at {k e i : Nat} (hk : k < 64) (he : e < 64) (h : mAl k e = true) (i1 : 1 ≤ i) (hi : i < mDist k e) : mStr k (mPth k e i) = mStr k e ∧ mDia k (mPth k e i) = mDia k e ∧ mDist k (mPth k e i) = i ∧ ∀ m, m < i → mPth k (mPth k e i) m = mPth k e m := by
  have h1 := List.all_eq_true.mp (List.all_eq_true.mp sub_all k (List.mem_range.mpr hk)) e (List.mem_range.mpr he)
  rw [h] at h1
  simp only [Bool.not_true, Bool.false_or, List.all_eq_true, List.mem_range] at h1
  have h2 := h1 i hi
  unfold subOk at h2
  rw [decide_eq_false (by omega), Bool.false_or] at h2
  simp only [Bool.and_eq_true, beq_iff_eq, decide_eq_true_eq, List.all_eq_true, List.mem_range] at h2
  exact h2
section LAWFUL
variable {f : Nat → Int32} {K : Nat → BitVec 64} {pp : Nat → Int32} {w bk : BitVec 64} {wa : Bool} {a b : Nat}
theorem r_mside (h : Rel f K pp w bk wa) : mSide f = sdN wa := by
  unfold mSide
  rw [h.2.2.2.2.2]
  cases wa <;> decide
theorem r_own (h : Rel f K pp w bk wa) {j : Nat} (hj : j < 64) : mIsOf f j (mSide f) = (kSide w bk wa).getLsbD j := by rw [r_mside h, r_isOf h wa hj]
theorem r_fwd (h : Rel f K pp w bk wa) (ha : a < 64) (hb : b < 64) (hs : (kSide w bk wa).getLsbD a = true) : mFwd f a b = gFw wa a b := by
  unfold mFwd gFw
  rw [r_ahead h ha hb, r_col h ha hs]
/-- the squares to which a piece can go, legally or not -/
theorem r_tgt (h : Rel f K pp w bk wa) (ha : a < 64) (hb : b < 64) (hs : (kSide w bk wa).getLsbD a = true) : (kTgt K w bk wa a).getLsbD b = mCanMove f a b := by
  have hof : mIsOf f b (sdX (f a)) = (kSide w bk wa).getLsbD b := by rw [r_sdX h ha, r_col h ha hs, r_isOf h wa hb]
  have hg : (kOf (pcN f a % 8) wa (kB a) (w ||| bk)).getLsbD b = mAtt f a b := bool_ext (by rw [kOf_bit wa _ ha hb, r_att h ha hb, r_col h ha hs])
  unfold kTgt mCanMove
  rw [hof, r_kKind h ha, r_kind h ha]
  by_cases e6 : pcN f a % 8 = 6
  · rw [if_pos e6, if_pos e6, BitVec.getLsbD_or, BitVec.getLsbD_and, BitVec.getLsbD_and, kNot_get _ hb, hg, kAhd_bit _ ha hb]
    have hoc : (w ||| bk).getLsbD b = ((kSide w bk wa).getLsbD b || (kSide w bk (!wa)).getLsbD b) := by
      rw [BitVec.getLsbD_or]; cases wa
      · exact Bool.or_comm _ _
      · rfl
    cases ho : (kSide w bk wa).getLsbD b
    · rw [if_neg (by decide)]
      rw [ho, Bool.false_or] at hoc
      by_cases e0 : f b = 0
      · have h5 := (r_emp h hb).mp e0
        rw [if_pos e0, r_fwd h ha hb hs, ← hoc, h5]
        simp
      · rw [if_neg e0]
        have h5 : (w ||| bk).getLsbD b = true := by
          cases hq : (w ||| bk).getLsbD b
          · exact absurd ((r_emp h hb).mpr hq) e0
          · rfl
        rw [← hoc, h5]
        simp
    · rw [if_pos rfl, r_one h hb ho]
      rw [ho, Bool.true_or] at hoc
      rw [hoc]
      simp
  · rw [if_neg e6, if_neg e6, BitVec.getLsbD_and, kNot_get _ hb, hg]
    cases ho : (kSide w bk wa).getLsbD b
    · rw [if_neg (by decide)]; simp
    · rw [if_pos rfl]; simp
theorem r_can (h : Rel f K pp w bk wa) (ha : a < 64) (hb : b < 64) (hs : (kSide w bk wa).getLsbD a = true) (hc : mCanMove f a b = true) : (kSide w bk wa).getLsbD b = false := by
  unfold mCanMove at hc
  rw [r_sdX h ha, r_col h ha hs, r_isOf h wa hb] at hc
  cases hq : (kSide w bk wa).getLsbD b
  · rfl
  · rw [hq, if_pos rfl] at hc; cases hc
/-- what stands behind a move -/
theorem sh_occ (h : Rel f K pp w bk wa) (ha : a < 64) (hb : b < 64) (hs : (kSide w bk wa).getLsbD a = true) (hn : (kSide w bk wa).getLsbD b = false) : kShW w a b (w.getLsbD a) ||| kShW bk a b (!w.getLsbD a) = ((w ||| bk) &&& kNot (kB a)) ||| kB b := bv_ext fun j hj => by
  rw [BitVec.getLsbD_or, kShW_bit _ _ ha hb hj, kShW_bit _ _ ha hb hj, BitVec.getLsbD_or, BitVec.getLsbD_and, kNot_get _ hj, kB_get ha, kB_get hb, BitVec.getLsbD_or]
  cases w.getLsbD j <;> cases bk.getLsbD j <;> cases decide (b = j) <;> cases decide (a = j) <;> cases w.getLsbD a <;> rfl
theorem sh_king (h : Rel f K pp w bk wa) (hu : KU f) (ha : a < 64) (hb : b < 64) (hs : (kSide w bk wa).getLsbD a = true) (hn : (kSide w bk wa).getLsbD b = false) : kShK K a b 1 &&& kSide (kShW w a b (w.getLsbD a)) (kShW bk a b (!w.getLsbD a)) wa = kKg K w bk wa a b := bv_ext fun j hj => by
  have hab : a ≠ b := fun e => by rw [e, hn] at hs; cases hs
  rw [kSide_sh, r_col h ha hs, BitVec.getLsbD_and, kShK_bit K (Nat.le_refl 1) (by decide) ha hb hj, kShW_bit _ _ ha hb hj, beq_self_eq_true]
  unfold kKg
  rw [BitVec.getLsbD_and, hs, Bool.and_true]
  have hk1 : kNk K a b = 1 ↔ (K 1).getLsbD a = true := by
    rw [h.2.2.2.1 a ha 1 (Nat.le_refl 1) (by decide), decide_eq_true_eq]
    unfold kNk kPro
    rw [r_kKind h ha]
    by_cases e6 : pcN f a % 8 = 6
    · rw [e6]
      constructor
      · intro z; split at z <;> cases z
      · intro z; cases z
    · rw [decide_eq_false e6, Bool.false_and, if_neg (by decide)]
  cases hka : (K 1).getLsbD a
  · rw [if_neg (by decide), BitVec.getLsbD_and]
    have hnk : ¬ 1 = kNk K a b := fun e => by rw [hk1.mp e.symm] at hka; cases hka
    rw [decide_eq_false hnk]
    by_cases e1 : b = j
    · subst e1; rw [hn]; simp
    · rw [decide_eq_false e1]
      by_cases e2 : a = j
      · subst e2; rw [hka]; simp
      · rw [decide_eq_false e2]; simp
  · rw [if_pos rfl, kB_get hb]
    rw [decide_eq_true (hk1.mpr hka).symm]
    by_cases e1 : b = j
    · subst e1; simp
    · rw [decide_eq_false e1]
      by_cases e2 : a = j
      · subst e2; simp
      · rw [decide_eq_false e2]
        have : ((K 1).getLsbD j && (kSide w bk wa).getLsbD j) = false := by
          cases hq : ((K 1).getLsbD j && (kSide w bk wa).getLsbD j)
          · rfl
          · rw [← BitVec.getLsbD_and, ← r_isOwn h wa hj (Nat.le_refl 1) (by decide)] at hq
            have hq2 : mIsOwn f a 1 (sdN wa) = true := by rw [r_isOwn h wa ha (Nat.le_refl 1) (by decide), BitVec.getLsbD_and, hka, hs]; rfl
            exact absurd (hu wa a j ha hj hq2 hq) e2
        revert this
        cases (K 1).getLsbD j <;> cases (kSide w bk wa).getLsbD j <;> simp
theorem sh_att (h : Rel f K pp w bk wa) (ha : a < 64) (hb : b < 64) (hs : (kSide w bk wa).getLsbD a = true) (hn : (kSide w bk wa).getLsbD b = false) (t o : BitVec 64) : kAtt K w bk t (!wa) o &&& kNot (kB b) = kAtt (kShK K a b) (kShW w a b (w.getLsbD a)) (kShW bk a b (!w.getLsbD a)) t (!wa) o := bv_ext fun j hj => by
  have hn2 : (wa == !wa) = false := by cases wa <;> rfl
  have ho := r_one h ha hs
  rw [BitVec.getLsbD_and, kNot_get _ hj, kB_get hb, kAtt_get, kAtt_get, kSide_sh, r_col h ha hs, hn2, kShW_bit _ _ ha hb hj]
  rw [kShK_bit K (show 1 ≤ 1 by decide) (by decide) ha hb hj, kShK_bit K (show 1 ≤ 2 by decide) (by decide) ha hb hj, kShK_bit K (show 1 ≤ 3 by decide) (by decide) ha hb hj, kShK_bit K (show 1 ≤ 4 by decide) (by decide) ha hb hj, kShK_bit K (show 1 ≤ 5 by decide) (by decide) ha hb hj, kShK_bit K (show 1 ≤ 6 by decide) (by decide) ha hb hj]
  by_cases e1 : b = j
  · subst e1; simp
  · rw [decide_eq_false e1]
    by_cases e2 : a = j
    · subst e2; rw [ho]; simp
    · rw [decide_eq_false e2]; simp
/-- a move keeps the own king safe just where the own side is not in check behind it -/
theorem r_safe (h : Rel f K pp w bk wa) (hu : KU f) (ha : a < 64) (hb : b < 64) (hs : (kSide w bk wa).getLsbD a = true) (hn : (kSide w bk wa).getLsbD b = false) : kSafe K w bk wa a b = !kChk (kShK K a b) (kShW w a b (w.getLsbD a)) (kShW bk a b (!w.getLsbD a)) wa := by
  unfold kChk kSafe
  rw [sh_king h hu ha hb hs hn, sh_occ h ha hb hs hn, ← sh_att h ha hb hs hn, Bool.not_not]
theorem KU_apply (h : Rel f K pp w bk wa) (hu : KU f) (ha : a < 64) (hs : (kSide w bk wa).getLsbD a = true) : KU (mApply f a b) := by
  obtain ⟨h1, h2, h3, h4⟩ := h.1 a ha
  have hn := nwc_ok b h2 h3 h4 (r_kd1 h ha hs).1
  have key : ∀ d j, j < 64 → mIsOwn (mApply f a b) j 1 (sdN d) = true → j ≠ a ∧ (j = b → mIsOwn f a 1 (sdN d) = true) ∧ (j ≠ b → mIsOwn f j 1 (sdN d) = true) := by
    intro d j hj z
    unfold mIsOwn at z ⊢
    rw [r_cod h ha hj, decide_eq_true_eq] at z
    have hd : sdN d + 1 < 15 ∧ (sdN d + 1) % 8 = 1 ∧ sdN d + 1 ≠ 0 := by cases d <;> decide
    have h9 : ∀ c, c < 15 → nI c = nI (sdN d + 1) → c = sdN d + 1 := fun c hc y => (nI_eq (by omega) (by omega)).mp y
    by_cases e1 : j = a
    · rw [if_pos e1] at z
      exact absurd (h9 0 (by decide) z).symm hd.2.2
    · rw [if_neg e1] at z
      refine ⟨e1, fun e2 => ?_, fun e2 => ?_⟩
      · rw [if_pos e2] at z
        have z2 := h9 _ hn.1 z
        have z3 : nwc (pcN f a) b = pcN f a := by
          have z4 := hn.2.2.2.2.1
          rw [z2, hd.2.1] at z4
          unfold nwc
          by_cases e6 : pcN f a % 8 = 6
          · by_cases e7 : b < 8 ∨ 55 < b
            · rw [if_pos ⟨e6, e7⟩] at z4; cases z4
            · rw [if_neg (fun y => e7 y.2), e6] at z4; cases z4
          · rw [if_neg e6]
        rw [decide_eq_true_eq, h1, ← z3, z2]
      · rw [if_neg e2, ← (h.1 j hj).1] at z
        rw [decide_eq_true_eq]; exact z
  intro d i j hi hj z1 z2
  obtain ⟨i1, i2, i3⟩ := key d i hi z1
  obtain ⟨j1, j2, j3⟩ := key d j hj z2
  by_cases e1 : i = b
  · by_cases e2 : j = b
    · rw [e1, e2]
    · exact absurd (hu d a j ha hj (i2 e1) (j3 e2)) (Ne.symm j1)
  · by_cases e2 : j = b
    · exact absurd (hu d a i ha hi (j2 e2) (i3 e1)) (Ne.symm i1)
    · exact hu d i j hi hj (i3 e1) (j3 e2)
theorem r_safe2 (h : Rel f K pp w bk wa) (hu : KU f) (hO : BondOk f) (ha : a < 64) (hb : b < 64) (hs : (kSide w bk wa).getLsbD a = true) (hn : (kSide w bk wa).getLsbD b = false) : kSafe K w bk wa a b = !mInCheck (mApply f a b) (sdN wa) := by
  rw [r_safe h hu ha hb hs hn, r_chk (r_apply h hO.wf ha hb hs hn (hO.h0 hb)) (KU_apply h hu ha hs) wa]
/-- the refusal of a move -/
theorem r_movR (h : Rel f K pp w bk wa) (hu : KU f) (hO : BondOk f) (hN : BondNear f) (ha : a < 64) (hb : b < 64) : kMovR K pp w bk wa a b = mReason f a b := by
  unfold kMovR mReason
  rw [r_own h ha]
  cases hs : (kSide w bk wa).getLsbD a
  · rfl
  · rw [if_pos rfl, if_pos rfl, r_tgt h ha hb hs]
    cases hc : mCanMove f a b
    · rfl
    · have hn := r_can h ha hb hs hc
      rw [if_pos rfl, if_pos rfl, r_safe2 h hu hO ha hb hs hn, r_mside h, r_far h hO hN ha hb hs hn]
      cases mInCheck (mApply f a b) (sdN wa) <;> cases (kRng pp a).getLsbD b <;> rfl
/-- a piece that the own king does not see can't uncover it -/
theorem r_del (h : Rel f K pp w bk wa) (hu : KU f) (ha : a < 64) (hb : b < 64) (hs : (kSide w bk wa).getLsbD a = true) (hn : (kSide w bk wa).getLsbD b = false) (hd : (kDel K w bk wa).getLsbD a = false) : kSafe K w bk wa a b = true := by
  unfold kDel at hd
  cases hc : kChk K w bk wa
  · rw [hc, if_neg (by decide), BitVec.getLsbD_and, hs, Bool.and_true, BitVec.getLsbD_or, Bool.or_eq_false_iff] at hd
    obtain ⟨hd1, hd2⟩ := hd
    unfold kSafe kKg
    rw [hd1, if_neg (by decide), decide_eq_true_eq]
    rcases r_king h hu wa with ⟨_, hk⟩ | ⟨k, hk6, _, hk⟩
    · rw [hk, kAtt_0]; exact BitVec.zero_and
    · rw [hk] at hd1 hd2 ⊢
      refine Classical.byContradiction fun hne => ?_
      obtain ⟨e, he, hx⟩ := bv_ne0.mp hne
      rw [BitVec.getLsbD_and, Bool.and_eq_true, r_kAtt h (!wa) _ hk6 he, kNot_get _ he, kB_get hb] at hx
      obtain ⟨⟨x1, x2⟩, x3⟩ := hx
      have hno : ¬ GAt (pcN f e % 8) (!wa) (w ||| bk) e k := fun z => by
        have : kAtt K w bk (kB k) (!wa) (w ||| bk) ≠ 0#64 := bv_ne0.mpr ⟨e, he, (r_kAtt h (!wa) _ hk6 he).mpr ⟨x1, z⟩⟩
        unfold kChk at hc
        rw [hk] at hc
        simp [this] at hc
      have hline : ∀ hal : mAl e k = true, Clr (((w ||| bk) &&& kNot (kB a)) ||| kB b) e k → Clr (w ||| bk) e k ∨ ((mStr k a = mStr e k ∧ mDia k a = mDia e k) ∧ Clr (w ||| bk) k a) := by
        intro hal hcl
        by_cases hoc : Clr (w ||| bk) e k
        · exact Or.inl hoc
        · right
          have hal2 : mAl k e = true := by rw [mAl_c]; exact hal
          have hcl2 := Clr_c he hk6 hal hcl
          have hoc2 : ¬ Clr (w ||| bk) k e := fun z => hoc (Clr_c hk6 he hal2 z)
          have : ∃ i, 1 ≤ i ∧ i < mDist k e ∧ (w ||| bk).getLsbD (mPth k e i) = true := by
            refine Classical.byContradiction fun hq => hoc2 fun i i1 i2 => ?_
            cases hy : (w ||| bk).getLsbD (mPth k e i)
            · rfl
            · exact absurd ⟨i, i1, i2, hy⟩ hq
          obtain ⟨i, i1, i2, hy⟩ := this
          have hp6 := ((pth_tab k hk6 e he hal2).2.2.2.2 i i2).1
          have hz : ∀ m, 1 ≤ m → m < mDist k e → (w ||| bk).getLsbD (mPth k e m) = true → mPth k e m = a := by
            intro m m1 m2 hm
            have hm6 := ((pth_tab k hk6 e he hal2).2.2.2.2 m m2).1
            have h7 := hcl2 m m1 m2
            rw [BitVec.getLsbD_or, BitVec.getLsbD_and, kNot_get _ hm6, hm, kB_get ha, Bool.true_and, Bool.or_eq_false_iff] at h7
            have h8 := h7.1
            rw [Bool.not_eq_false', decide_eq_true_eq] at h8
            exact h8.symm
          have hia := hz i i1 i2 hy
          obtain ⟨s1, s2, s3, s4⟩ := sub_at hk6 he hal2 i1 i2
          rw [hia] at s1 s2 s3 s4
          refine ⟨⟨by rw [s1, mStr_c], by rw [s2, mDia_c]⟩, fun m m1 m2 => ?_⟩
          rw [s3] at m2
          rw [s4 m m2]
          cases hy2 : (w ||| bk).getLsbD (mPth k e m)
          · rfl
          · have h9 := hz m m1 (by omega) hy2
            have hal3 : mAl k a = true := by
              unfold mAl; rw [s1, s2]; exact hal2
            have h10 := ((pth_tab k hk6 a ha hal3).2.2.2.2 m (by rw [s3]; exact m2)).2.1
            rw [s4 m m2] at h10
            exact absurd h9 h10
      have hsee : ∀ y : Bool, (y = true → (mStr k a = true ∨ mDia k a = true) ∧ Clr (w ||| bk) k a) → y = false := by
        intro y hy
        cases y
        · rfl
        · exfalso
          obtain ⟨h1, h2⟩ := hy rfl
          rw [BitVec.getLsbD_or, Bool.or_eq_false_iff] at hd2
          rcases h1 with h1 | h1
          · rw [(kRk_bit (w ||| bk) hk6 ha).mpr ⟨h1, h2⟩] at hd2; cases hd2.1
          · rw [(kBi_bit (w ||| bk) hk6 ha).mpr ⟨h1, h2⟩] at hd2; cases hd2.2
      have hsee2 : ¬ ((mStr k a = true ∨ mDia k a = true) ∧ Clr (w ||| bk) k a) := fun z => by have := hsee true (fun _ => z); cases this
      have hst : ∀ hal : mAl e k = true, Clr (((w ||| bk) &&& kNot (kB a)) ||| kB b) e k → Clr (w ||| bk) e k := by
        intro hal hcl
        rcases hline hal hcl with z | ⟨⟨z1, z2⟩, z3⟩
        · exact z
        · refine absurd ⟨?_, z3⟩ hsee2
          unfold mAl at hal
          rw [Bool.or_eq_true] at hal
          rw [z1, z2]; exact hal
      refine hno ?_
      rcases x2 with z | ⟨z, z1, z2⟩ | ⟨z, z1, z2⟩ | ⟨z, z1, z2⟩ | z | z
      · exact Or.inl z
      · refine Or.inr (Or.inl ⟨z, z1, hst ?_ z2⟩)
        rcases z1 with z1 | z1
        · exact al_str _ _ z1
        · exact al_dia _ _ z1
      · exact Or.inr (Or.inr (Or.inl ⟨z, z1, hst (al_str _ _ z1) z2⟩))
      · exact Or.inr (Or.inr (Or.inr (Or.inl ⟨z, z1, hst (al_dia _ _ z1) z2⟩)))
      · exact Or.inr (Or.inr (Or.inr (Or.inr (Or.inl z))))
      · exact Or.inr (Or.inr (Or.inr (Or.inr (Or.inr z))))
  · rw [hc, if_pos rfl, hs] at hd; cases hd
theorem kTR_in (h : Rel f K pp w bk wa) (ha : a < 64) (hb : b < 64) (hs : (kSide w bk wa).getLsbD a = true) (ht : (kTR K pp w bk wa a).getLsbD b = true) : mCanMove f a b = true ∧ (kSide w bk wa).getLsbD b = false := by
  unfold kTR at ht
  rw [BitVec.getLsbD_and, Bool.and_eq_true, r_tgt h ha hb hs] at ht
  exact ⟨ht.1, r_can h ha hb hs ht.1⟩
theorem kLaw_bit (h : Rel f K pp w bk wa) (hu : KU f) (ha : a < 64) (hb : b < 64) (hs : (kSide w bk wa).getLsbD a = true) : (kLaw K pp w bk wa a (kDel K w bk wa)).getLsbD b = ((kTR K pp w bk wa a).getLsbD b && kSafe K w bk wa a b) := by
  unfold kLaw
  cases hd : (kDel K w bk wa).getLsbD a
  · rw [if_neg (by decide)]
    cases ht : (kTR K pp w bk wa a).getLsbD b
    · rfl
    · rw [r_del h hu ha hb hs (kTR_in h ha hb hs ht).2 hd]; rfl
  · rw [if_pos rfl]
    refine kFold_bit (q := fun t => (kTR K pp w bk wa a).getLsbD t && kSafe K w bk wa a t) (fun k _ r => ?_) hb
    unfold kLaw1
    cases (kTR K pp w bk wa a).getLsbD k <;> cases kSafe K w bk wa a k <;> rfl
/-- a lawful target is a legal move -/
theorem r_law (h : Rel f K pp w bk wa) (hu : KU f) (hO : BondOk f) (hN : BondNear f) (ha : a < 64) (hb : b < 64) (hs : (kSide w bk wa).getLsbD a = true) : (kLaw K pp w bk wa a (kDel K w bk wa)).getLsbD b = decide (mReason f a b = 0) := by
  rw [kLaw_bit h hu ha hb hs, ← r_movR h hu hO hN ha hb]
  unfold kMovR kTR
  rw [hs, if_pos rfl, BitVec.getLsbD_and]
  cases (kTgt K w bk wa a).getLsbD b <;> cases (kRng pp a).getLsbD b <;> cases kSafe K w bk wa a b <;> rfl
theorem r_tg1 (h : Rel f K pp w bk wa) (hu : KU f) (hO : BondOk f) (hN : BondNear f) (ha : a < 64) (hb : b < 64) : (kTg1 K pp w bk wa a).getLsbD b = (mIsOf f a (mSide f) && decide (mReason f a b = 0)) := by
  unfold kTg1
  rw [r_own h ha]
  cases hs : (kSide w bk wa).getLsbD a
  · rw [if_neg (by decide), z_get, Bool.false_and]
  · rw [if_pos rfl, r_law h hu hO hN ha hb hs, Bool.true_and]
theorem r_okm (h : Rel f K pp w bk wa) (hu : KU f) (hO : BondOk f) (hN : BondNear f) {k : Nat} (hk : k < 4096) : mOkMove f k = (kTg1 K pp w bk wa (k / 64)).getLsbD (k % 64) := by
  rw [r_tg1 h hu hO hN (by omega) (by omega)]
  rfl
theorem r_legal (h : Rel f K pp w bk wa) (hu : KU f) (hO : BondOk f) (hN : BondNear f) (ha : a < 64) : kLegal K pp w bk wa a = mLegal f a := bv_ext fun t ht => by
  unfold mLegal
  rw [mSet_bit _ ht]
  show (kTg1 K pp w bk wa a).getLsbD t = _
  rw [r_tg1 h hu hO hN ha ht]
  cases hq : mIsOf f a (mSide f)
  · unfold mReason; rw [hq]; rfl
  · rfl
theorem mCntL_add (p : Nat → Bool) : ∀ n m i r, mCntL p (n + m) i r = mCntL p m (i + n) (mCntL p n i r)
  | 0, m, i, r => by rw [Nat.zero_add]; rfl
  | n + 1, m, i, r => by
    rw [show n + 1 + m = (n + m) + 1 by omega]
    show mCntL p (n + m) (i + 1) _ = mCntL p m (i + (n + 1)) (mCntL p n (i + 1) _)
    rw [mCntL_add p n m (i + 1), show i + 1 + n = i + (n + 1) by omega]
theorem mCntL_acc (p : Nat → Bool) : ∀ n i r, mCntL p n i r = r + mCntL p n i 0
  | 0, i, r => rfl
  | n + 1, i, r => by
    show mCntL p n (i + 1) _ = r + mCntL p n (i + 1) _
    rw [mCntL_acc p n (i + 1) (if p i then r + 1 else r), mCntL_acc p n (i + 1) (if p i then 0 + 1 else 0)]
    split <;> omega
theorem mCntL_sh (p : Nat → Bool) (s : Nat) : ∀ n i r, mCntL (fun t => p (s + t)) n i r = mCntL p n (s + i) r
  | 0, i, r => rfl
  | n + 1, i, r => mCntL_sh p s n (i + 1) _
theorem mCntL_blk (p : Nat → Bool) : ∀ n i r, mCntL p (64 * n) (64 * i) r = mFoldL (fun j r => r + mCntL (fun t => p (64 * j + t)) 64 0 0) n i r
  | 0, i, r => rfl
  | n + 1, i, r => by
    rw [show 64 * (n + 1) = 64 + 64 * n by omega, mCntL_add, show 64 * i + 64 = 64 * (i + 1) by omega, mCntL_blk p n (i + 1)]
    show _ = mFoldL _ n (i + 1) (r + mCntL (fun t => p (64 * i + t)) 64 0 0)
    rw [mCntL_acc p 64 (64 * i) r, mCntL_sh p (64 * i) 64 0 0]
    rfl
theorem r_cnt (h : Rel f K pp w bk wa) (hu : KU f) (hO : BondOk f) (hN : BondNear f) : kCnt K pp w bk wa = mMoves f := by
  unfold kCnt mMoves
  have e := mCntL_blk (mOkMove f) 64 0 0
  rw [show 64 * 64 = 4096 by rfl, show 64 * 0 = 0 by rfl] at e
  rw [e]
  refine mFoldL_cg 64 0 0 (fun k _ hk r => ?_)
  have hk6 : k < 64 := by omega
  have hq : mCntL (fun t => mOkMove f (64 * k + t)) 64 0 0 = pcnt (kTg1 K pp w bk wa k) := by
    unfold pcnt
    refine mCntL_cg 64 0 0 (fun t _ ht => ?_)
    rw [r_okm h hu hO hN (by omega), show (64 * k + t) / 64 = k by omega, show (64 * k + t) % 64 = t by omega]
  rw [hq]
  unfold kCnt1 kTg1
  split
  · rfl
  · have : pcnt 0#64 = 0 := by decide
    rw [this]; rfl
theorem r_has (h : Rel f K pp w bk wa) (hu : KU f) (hO : BondOk f) (hN : BondNear f) : kHas K pp w bk wa = mHas f := by
  unfold kHas mHas
  refine bool_ext ?_
  rw [mAnyL_iff, mAnyL_iff]
  constructor
  · rintro ⟨j, _, hj, z⟩
    rw [Bool.and_eq_true, Bool.not_eq_true', decide_eq_false_iff_not, bv_ne0] at z
    obtain ⟨zs, t, ht, z2⟩ := z
    refine ⟨64 * j + t, Nat.zero_le _, by omega, ?_⟩
    rw [r_okm h hu hO hN (by omega), show (64 * j + t) / 64 = j by omega, show (64 * j + t) % 64 = t by omega]
    unfold kTg1
    rw [zs, if_pos rfl]; exact z2
  · rintro ⟨k, _, hk, z⟩
    rw [r_okm h hu hO hN (by omega)] at z
    refine ⟨k / 64, Nat.zero_le _, by omega, ?_⟩
    unfold kTg1 at z
    cases hs : (kSide w bk wa).getLsbD (k / 64)
    · rw [hs, if_neg (by decide), z_get] at z; cases z
    · rw [hs, if_pos rfl] at z
      rw [Bool.true_and, Bool.not_eq_true', decide_eq_false_iff_not, bv_ne0]
      exact ⟨k % 64, by omega, z⟩
/-- behind a legal move all stands as before it -/
theorem r_after (h : Rel f K pp w bk wa) (hu : KU f) (hO : BondOk f) (hN : BondNear f) (ha : a < 64) (hb : b < 64) (hr : mReason f a b = 0) : Rel (mApply f a b) (kShK K a b) (kShP pp a b) (kShW w a b (w.getLsbD a)) (kShW bk a b (!w.getLsbD a)) (!wa) ∧ KU (mApply f a b) ∧ BondOk (mApply f a b) ∧ BondNear (mApply f a b) := by
  obtain ⟨z1, z2, _⟩ := reason0 hr
  rw [r_own h ha] at z1
  have hn := r_can h ha hb z1 z2
  refine ⟨r_apply h hO.wf ha hb z1 hn (hO.h0 hb), KU_apply h hu ha z1, BondOk_apply h hO ha hb z1 hn, BondNear_apply h hO hN ha hb z1 hn ?_⟩
  rw [← r_movR h hu hO hN ha hb] at hr
  unfold kMovR at hr
  rw [z1, if_pos rfl, r_tgt h ha hb z1, z2, if_pos rfl] at hr
  cases hs : kSafe K w bk wa a b
  · rw [hs, if_neg (by decide)] at hr; cases hr
  · rw [hs, if_pos rfl] at hr
    cases hq : (kRng pp a).getLsbD b
    · rw [hq, if_neg (by decide)] at hr; cases hr
    · rfl
theorem r_pairs (h : Rel f K pp w bk wa) (hu : KU f) (hO : BondOk f) (hN : BondNear f) : kPairs K pp w bk wa = mSeqs f := by
  unfold kPairs mSeqs
  refine mFoldL_cg 4096 0 0 (fun k _ hk r => ?_)
  unfold kPrF mSeq1
  rw [← r_okm h hu hO hN (by omega)]
  cases hq : mOkMove f k
  · rw [if_neg Bool.false_ne_true, if_neg Bool.false_ne_true]
  · unfold mOkMove at hq
    rw [Bool.and_eq_true, decide_eq_true_eq] at hq
    obtain ⟨g1, g2, g3, g4⟩ := r_after h hu hO hN (show k / 64 < 64 by omega) (show k % 64 < 64 by omega) hq.2
    rw [if_pos rfl, if_pos rfl, r_cnt g1 g2 g3 g4]
theorem r_mated (h : Rel f K pp w bk wa) (hu : KU f) (hO : BondOk f) (hN : BondNear f) : kMated K pp w bk wa = (mInCheck f (mSide f) && !mHas f) := by
  unfold kMated
  rw [r_chk h hu, r_has h hu hO hN, r_mside h]
theorem r_mating (h : Rel f K pp w bk wa) (hu : KU f) (hO : BondOk f) (hN : BondNear f) : kMating K pp w bk wa = mMating f := by
  unfold kMating mMating
  refine mFirst_cg 4096 0 (fun k _ hk => ?_)
  unfold kMaF mMate
  rw [← r_okm h hu hO hN (by omega)]
  cases hq : mOkMove f k
  · rfl
  · unfold mOkMove at hq
    rw [Bool.and_eq_true, decide_eq_true_eq] at hq
    obtain ⟨g1, g2, g3, g4⟩ := r_after h hu hO hN (show k / 64 < 64 by omega) (show k % 64 < 64 by omega) hq.2
    rw [Bool.true_and, Bool.true_and, r_mated g1 g2 g3 g4]
end LAWFUL
