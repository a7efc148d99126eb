/-! ===== PURE 6: moves, bondings, dissolvings, and the set-up, row by row ===== -/
theorem ap_hi {f : Nat → Int32} {a b j : Nat} (hB : WfB f) (ha : a < 64) (hb : b < 64) (hj : 128 < j) : mApply f a b j = mMid f a b j := by
  have hB2 := WfB_mid (f := f) hB ha hb
  have hc := clamp_lt hB2 ha
  unfold mApply mFlip
  rw [upd_n (by omega)]
  unfold mBnd
  split
  · rfl
  · unfold mTie
    rw [upd_n (by omega), upd_n (by omega), untie_hi hB2 ha (by omega)]
theorem ap_129 {f : Nat → Int32} {a b : Nat} (hB : WfB f) (ha : a < 64) (hb : b < 64) : mApply f a b 129 = mCalm f a b := by
  rw [ap_hi hB ha hb (by decide)]
  unfold mMid
  rw [upd_n (by omega), upd_n (by omega), upd_s]
theorem ap_cap {f : Nat → Int32} {a b x : Nat} (hB : WfB f) (ha : a < 64) (hb : b < 64) : mApply f a b (130 + x) = f (130 + x) + nI (if pcN f b = x ∧ ¬ pcN f b = 0 then 1 else 0) := by
  have h0 : ∀ z : Int32, z + nI 0 = z := fun z => by show z + 0 = z; exact Int32.add_zero z
  rw [ap_hi hB ha hb (by omega)]
  unfold mMid
  rw [upd_n (by omega), upd_n (by omega), upd_n (by omega)]
  unfold mCap
  by_cases e : pcN f b = 0
  · rw [if_pos e, if_neg (fun z => z.2 e), h0]
  · rw [if_neg e, untie_hi (WfB_upd hB (by omega)) hb (by omega)]
    by_cases e2 : pcN f b = x
    · rw [e2, upd_s, if_pos ⟨rfl, by rw [← e2]; exact e⟩]
    · rw [upd_n (by omega), if_neg (fun z => e2 z.1), h0]
theorem king_of {f : Nat → Int32} {i sd : Nat} (hi : i < 64) (h : mIsOwn f i 1 sd = true) : (mKing f sd).isSome = true := by
  cases hk : mKing f sd with
  | none =>
    have := mFirst_none hk i (Nat.zero_le _) (by omega)
    rw [h] at this; cases this
  | some k => rfl
section MV
variable {f : Nat → Int32} {K : Nat → BitVec 64} {pp : Nat → Int32} {w bk : BitVec 64} {wa : Bool} {a b : Nat}
theorem quiN (h : Rel f K pp w bk wa) (ha : a < 64) (hb : b < 64) (hB : WfB f) {q : Nat} (hq : f 129 = nI q) : mApply f a b 129 = nI (kQui K a b q) := by
  rw [ap_129 hB ha hb]
  obtain ⟨-, h1, h2, h3⟩ := h.1 b hb
  unfold mCalm kQui
  rw [r_kKind h hb]
  by_cases e : pcN f b = 0
  · have e2 : mCap f b = f := by unfold mCap; rw [if_pos e]
    rw [if_pos e, e, if_pos (show 0 % 8 = 0 from rfl)]
    unfold mPawn
    rw [e2, r_kind h ha, ← r_kKind h ha]
    by_cases e3 : kKind K a = 6
    · rw [if_pos e3, if_pos (decide_eq_true e3)]
    · rw [if_neg e3, if_neg (by rw [decide_eq_false e3]; decide), hq, nI_add]
  · rw [if_neg e, if_neg (by omega)]
theorem qui_le {q n : Nat} (h : q ≤ n) : kQui K a b q ≤ n + 1 := by unfold kQui; (repeat' split) <;> omega
theorem capN (h : Rel f K pp w bk wa) (hB : WfB f) (ha : a < 64) (hb : b < 64) (hn : (kSide w bk wa).getLsbD b = false) (k : Nat) (d : Bool) (k1 : 1 ≤ k) (k6 : k ≤ 6) : mApply f a b (130 + sdN d + k) = f (130 + sdN d + k) + nI (if decide (kKind K b = k) && decide ((!wa) = d) then 1 else 0) := by
  rw [Nat.add_assoc, ap_cap hB ha hb]
  obtain ⟨-, h1, h2, h3⟩ := h.1 b hb
  have hs := r_side h wa hb
  rw [hn] at hs
  rw [r_kKind h hb]
  congr 2
  generalize pcN f b = c at h1 h2 h3 hs
  have key : ∀ k, k < 7 → 1 ≤ k → ((if c = sdN d + k ∧ ¬ c = 0 then 1 else 0) = if decide (c % 8 = k) && decide ((!wa) = d) then 1 else 0) := by
    intro k k7 k1
    rcases (show k = 1 ∨ k = 2 ∨ k = 3 ∨ k = 4 ∨ k = 5 ∨ k = 6 by omega) with rfl | rfl | rfl | rfl | rfl | rfl <;> cases d <;> cases wa <;> rcases tb_cs h1 h2 h3 with rfl | rfl | rfl | rfl | rfl | rfl | rfl | rfl | rfl | rfl | rfl | rfl | rfl <;> first | rfl | exact absurd hs (by decide)
  exact key k (by omega) k1
/-- the kings stay -/
theorem ki2_apply (h : Rel f K pp w bk wa) (hu : KU f) (hk : Ki2 f) (hc : kChk K w bk (!wa) = false) (ha : a < 64) (hb : b < 64) (hs : (kSide w bk wa).getLsbD a = true) (hm : mCanMove f a b = true) : Ki2 (mApply f a b) := by
  have hn := r_can h ha hb hs hm
  have hown : ∀ d, ∃ q, q < 64 ∧ mIsOwn f q 1 (sdN d) = true := fun d => by
    obtain ⟨q, hq, e, -⟩ := r_king2 h hu hk d
    exact ⟨q, hq, (mFirst_some e).2.2⟩
  have hcd : ∀ {q d}, mIsOwn f q 1 (sdN d) = true → f q = nI (sdN d + 1) := fun hq => by unfold mIsOwn at hq; exact of_decide_eq_true hq
  intro d
  obtain ⟨q, hq, ho⟩ := hown d
  have hv := hcd ho
  by_cases hd : d = wa
  · by_cases e : q = a
    · refine king_of hb ?_
      unfold mIsOwn
      have hab : b ≠ a := fun z => by rw [z, hs] at hn; cases hn
      rw [ap_low f hb, if_neg hab, if_pos rfl, r_newp h ha, ← e]
      have hp : pcN f q = sdN d + 1 := by unfold pcN; rw [hv]; cases d <;> decide
      have hw : nwc (sdN d + 1) b = sdN d + 1 := by unfold nwc; rw [if_neg (by cases d <;> decide)]
      rw [hp, hw]
      exact decide_eq_true rfl
    · refine king_of hq ?_
      unfold mIsOwn
      have hqb : q ≠ b := fun z => by
        rw [r_isOwn h d hq (Nat.le_refl 1) (by decide), BitVec.getLsbD_and, Bool.and_eq_true, hd, z, hn] at ho
        cases ho.2
      rw [ap_low f hq, if_neg e, if_neg hqb]
      exact decide_eq_true hv
  · have hd2 : d = !wa := by cases d <;> cases wa <;> first | rfl | exact absurd rfl hd
    subst hd2
    have hside : (kSide w bk (!wa)).getLsbD q = true := by
      rw [r_isOwn h _ hq (Nat.le_refl 1) (by decide), BitVec.getLsbD_and, Bool.and_eq_true] at ho
      exact ho.2
    have hqa : q ≠ a := fun z => by
      rw [z] at hside
      rw [r_one h ha hs] at hside; cases hside
    have hqb : q ≠ b := fun z => by
      rw [← z] at hm hn
      have hatt : mAtt f a q = true := by
        unfold mCanMove at hm
        rw [r_sdX h ha, r_col h ha hs, r_isOf h wa hq, hn, if_neg (by decide)] at hm
        have hz : ¬ f q = 0 := fun z => by rw [z] at hv; exact absurd hv (by cases wa <;> decide)
        rw [if_neg hz] at hm
        split at hm <;> exact hm
      rw [r_chk h hu] at hc
      unfold mInCheck at hc
      have hkq : mKing f (sdN (!wa)) = some q := by
        obtain ⟨r, hr, e, -⟩ := r_king2 h hu hk (!wa)
        rw [e, hu (!wa) r q hr hq (mFirst_some e).2.2 ho]
      rw [hkq] at hc
      have hat : mIsAtt f q (8 - sdN (!wa)) = true := by
        rw [sdN_not, Bool.not_not]
        unfold mIsAtt
        refine mAnyL_iff.mpr ⟨a, Nat.zero_le _, by omega, ?_⟩
        rw [r_isOf h wa ha, hs, hatt]; rfl
      exact absurd (hat.symm.trans hc) (by decide)
    refine king_of hq ?_
    unfold mIsOwn
    rw [ap_low f hq, if_neg hqa, if_neg hqb]
    exact decide_eq_true hv
/-- a legal move -/
theorem mv_all (h : PosR f K pp w bk wa) (hk : Ki2 f) (hc : kChk K w bk (!wa) = false) (ha : a < 64) (hb : b < 64) (hr : mReason f a b = 0) : PosR (mApply f a b) (kShK K a b) (kShP pp a b) (kShW w a b (w.getLsbD a)) (kShW bk a b (!w.getLsbD a)) (!wa) ∧ Ki2 (mApply f a b) ∧ kChk (kShK K a b) (kShW w a b (w.getLsbD a)) (kShW bk a b (!w.getLsbD a)) wa = false ∧ (kSide w bk wa).getLsbD b = false ∧ 1 ≤ kKind K a := by
  obtain ⟨hR, hu, hO, hN⟩ := h
  have hA := r_after hR hu hO hN ha hb hr
  obtain ⟨z1, z2, -⟩ := reason0 hr
  rw [r_own hR ha] at z1
  refine ⟨hA, ki2_apply hR hu hk hc ha hb z1 z2, ?_, r_can hR ha hb z1 z2, by rw [r_kKind hR ha]; exact (r_kd1 hR ha z1).1⟩
  rw [r_chk hA.1 hA.2.1]
  unfold mReason at hr
  rw [r_own hR ha, z1, if_pos rfl, z2, if_pos rfl, r_mside hR] at hr
  cases hq : mInCheck (mApply f a b) (sdN wa)
  · rfl
  · rw [hq, if_pos rfl] at hr; cases hr
/-- an action that moves no piece -/
theorem calm_low {g : Nat → Int32} (hl : ∀ i, i < 64 → g i = f i) {i : Nat} (hi : i < 64) : mEnd g i = f i := by unfold mEnd; rw [low_flip _ hi, upd_n (by omega), hl i hi]
theorem calm_129 {g : Nat → Int32} (h9 : g 129 = f 129) {q : Nat} (hq : f 129 = nI q) : mEnd g 129 = nI (q + 1) := by unfold mEnd mFlip; rw [upd_n (by omega), upd_s, h9, hq, nI_add]
theorem calm_cap {g : Nat → Int32} (hh : ∀ j, 129 < j → g j = f j) (k : Nat) (d : Bool) (k1 : 1 ≤ k) : mEnd g (130 + sdN d + k) = f (130 + sdN d + k) + nI (if decide (0 = k) && decide ((!wa) = d) then 1 else 0) := by
  unfold mEnd mFlip
  rw [upd_n (by omega), upd_n (by omega), hh _ (by omega), decide_eq_false (show ¬ 0 = k by omega)]
  show _ = _ + (0 : Int32)
  rw [Int32.add_zero]
theorem ku_low {g : Nat → Int32} (hl : ∀ i, i < 64 → g i = f i) (hu : KU f) : KU g := fun b i j hi hj h1 h2 => by
  unfold mIsOwn at h1 h2
  rw [hl i hi] at h1
  rw [hl j hj] at h2
  exact hu b i j hi hj h1 h2
theorem ki2_low {g : Nat → Int32} (hl : ∀ i, i < 64 → g i = f i) (hk : Ki2 f) : Ki2 g := fun d => by
  have e : mKing g (sdN d) = mKing f (sdN d) := mFirst_cg 64 0 (fun k _ h => by unfold mIsOwn; rw [hl k (by omega)])
  rw [e]; exact hk d
end MV
