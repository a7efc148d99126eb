/-! ===== PURE 2: one position in the class's words and in the reference's ===== -/
theorem mFirst_none {p : Nat → Bool} : ∀ {n i : Nat}, mFirst p n i = none → ∀ k, i ≤ k → k < i + n → p k = false
  | 0, i, _, k, h1, h2 => by omega
  | n + 1, i, h, k, h1, h2 => by
    unfold mFirst at h
    cases hp : p i
    · rw [hp, if_neg (by decide)] at h
      by_cases hk : k = i
      · subst hk; exact hp
      · exact mFirst_none h k (by omega) (by omega)
    · rw [hp, if_pos rfl] at h; cases h
theorem mFirst_cg {p q : Nat → Bool} : ∀ n i, (∀ k, i ≤ k → k < i + n → p k = q k) → mFirst p n i = mFirst q n i
  | 0, _, _ => rfl
  | n + 1, i, h => by unfold mFirst; rw [h i (Nat.le_refl _) (by omega), mFirst_cg n (i + 1) (fun k h1 h2 => h k (by omega) (by omega))]
theorem mFoldL_cg {g g2 : Nat → Nat → Nat} : ∀ n i r, (∀ k, i ≤ k → k < i + n → ∀ r, g k r = g2 k r) → mFoldL g n i r = mFoldL g2 n i r
  | 0, _, _, _ => rfl
  | n + 1, i, r, h => by unfold mFoldL; rw [h i (Nat.le_refl _) (by omega)]; exact mFoldL_cg n _ _ (fun k h1 h2 => h k (by omega) (by omega))
theorem mSetL_get {p : Nat → Bool} {j : Nat} : ∀ n i r, i + n ≤ 64 → ((mSetL p n i r).getLsbD j = true ↔ r.getLsbD j = true ∨ (i ≤ j ∧ j < i + n ∧ p j = true))
  | 0, i, r, _ => by
    constructor
    · intro h; exact Or.inl h
    · rintro (h | h)
      · exact h
      · omega
  | n + 1, i, r, hin => by
    unfold mSetL
    rw [mSetL_get n (i + 1) _ (by omega)]
    have hb : (1#64 <<< i).getLsbD j = decide (i = j) := getT i j (by omega)
    cases hp : p i
    · rw [if_neg (by decide), BitVec.getLsbD_or, z_get, Bool.or_false]
      constructor
      · rintro (h | ⟨h1, h2, h3⟩)
        · exact Or.inl h
        · exact Or.inr ⟨by omega, by omega, h3⟩
      · rintro (h | ⟨h1, h2, h3⟩)
        · exact Or.inl h
        · refine Or.inr ⟨?_, by omega, h3⟩
          by_cases e : i = j
          · subst e; rw [hp] at h3; cases h3
          · omega
    · rw [if_pos rfl, BitVec.getLsbD_or, hb, Bool.or_eq_true, decide_eq_true_eq]
      constructor
      · rintro ((h | h) | ⟨h1, h2, h3⟩)
        · exact Or.inl h
        · subst h; exact Or.inr ⟨Nat.le_refl _, by omega, hp⟩
        · exact Or.inr ⟨by omega, by omega, h3⟩
      · rintro (h | ⟨h1, h2, h3⟩)
        · exact Or.inl (Or.inl h)
        · by_cases e : i = j
          · exact Or.inl (Or.inr e)
          · exact Or.inr ⟨by omega, by omega, h3⟩
theorem mSet_bit (p : Nat → Bool) {j : Nat} (hj : j < 64) : (mSetL p 64 0 0#64).getLsbD j = p j := by
  refine bool_ext ?_
  rw [mSetL_get 64 0 _ (by decide), z_get]
  constructor
  · rintro (h | h)
    · cases h
    · exact h.2.2
  · intro h; exact Or.inr ⟨Nat.zero_le _, by omega, h⟩
def Rel (f : Nat → Int32) (K : Nat → BitVec 64) (pp : Nat → Int32) (w bk : BitVec 64) (wa : Bool) : Prop :=
  (∀ j, j < 64 → f j = nI (pcN f j) ∧ pcN f j < 15 ∧ pcN f j ≠ 7 ∧ pcN f j ≠ 8) ∧ (∀ j, j < 64 → w.getLsbD j = decide (8 < pcN f j)) ∧ (∀ j, j < 64 → bk.getLsbD j = (decide (0 < pcN f j) && decide (pcN f j < 7))) ∧ (∀ j, j < 64 → ∀ k, 1 ≤ k → k ≤ 6 → (K k).getLsbD j = decide (pcN f j % 8 = k)) ∧ (∀ j, j < 64 → pp j = f (64 + j)) ∧ f 128 = nI (sdN wa)
/-- at most one king a side -/
def KU (f : Nat → Int32) : Prop := ∀ b i j, i < 64 → j < 64 → mIsOwn f i 1 (sdN b) = true → mIsOwn f j 1 (sdN b) = true → i = j
/-- bonds are mutual, between two knights of a side -/
def BondOk (f : Nat → Int32) : Prop := ∀ j, j < 64 → f (64 + j) = -1 ∨ ∃ o, o < 64 ∧ f (64 + j) = nI o ∧ o ≠ j ∧ f (64 + o) = nI j ∧ pcN f j % 8 = 5 ∧ pcN f o = pcN f j
/-- bonds are no longer than may be -/
def BondNear (f : Nat → Int32) : Prop := ∀ j, j < 64 → f (64 + j) ≠ -1 → mHop j (f (64 + j)).toNatClampNeg ≤ 3
def sdC (b : Bool) (c : Nat) : Bool := if b then decide (8 < c) else decide (0 < c) && decide (c < 7)
theorem tb_of : ∀ c, c < 15 → c ≠ 7 → c ≠ 8 → ∀ b, (!decide (nI c = 0) && decide (nI c &&& nI 8 = nI (sdN b))) = sdC b c := by decide +kernel
theorem tb_cs {c : Nat} (h : c < 15) (h7 : c ≠ 7) (h8 : c ≠ 8) : c = 0 ∨ c = 1 ∨ c = 2 ∨ c = 3 ∨ c = 4 ∨ c = 5 ∨ c = 6 ∨ c = 9 ∨ c = 10 ∨ c = 11 ∨ c = 12 ∨ c = 13 ∨ c = 14 := by omega
theorem tb_own : ∀ c, c < 15 → c ≠ 7 → c ≠ 8 → ∀ k, k < 7 → 1 ≤ k → ∀ b, decide (nI c = nI (sdN b + k)) = (decide (c % 8 = k) && sdC b c) := by
  intro c h h7 h8 k k7 k1 b
  rcases (show k = 1 ∨ k = 2 ∨ k = 3 ∨ k = 4 ∨ k = 5 ∨ k = 6 by omega) with rfl | rfl | rfl | rfl | rfl | rfl <;> cases b <;> rcases tb_cs h h7 h8 with rfl | rfl | rfl | rfl | rfl | rfl | rfl | rfl | rfl | rfl | rfl | rfl | rfl <;> rfl
theorem tb_sd : ∀ c, c < 15 → c ≠ 7 → c ≠ 8 → sdX (nI c) = sdN (decide (8 < c)) := by decide +kernel
theorem tb_kd : ∀ q, q < 7 → (mFirst (fun k => decide (q = k)) 6 1).getD 0 = q := by decide +kernel
theorem tb_xx : ∀ c, c < 15 → c ≠ 7 → c ≠ 8 → c % 8 < 7 ∧ (sdC true c = true → 1 ≤ c % 8) ∧ (sdC false c = true → 1 ≤ c % 8) ∧ (1 ≤ c % 8 → sdC true c = !sdC false c) ∧ (sdC true c = true → sdC false c = false) ∧ (c = 0 ↔ (sdC true c || sdC false c) = false) ∧ (sdC true c = true → decide (8 < c) = true) ∧ (sdC false c = true → decide (8 < c) = false) := by
  intro c h h7 h8
  rcases tb_cs h h7 h8 with rfl | rfl | rfl | rfl | rfl | rfl | rfl | rfl | rfl | rfl | rfl | rfl | rfl <;> decide
section REL
variable {f : Nat → Int32} {K : Nat → BitVec 64} {pp : Nat → Int32} {w bk : BitVec 64} {wa : Bool}
theorem r_side (h : Rel f K pp w bk wa) (b : Bool) {j : Nat} (hj : j < 64) : (kSide w bk b).getLsbD j = sdC b (pcN f j) := by
  cases b
  · exact h.2.2.1 j hj
  · exact h.2.1 j hj
theorem r_isOf (h : Rel f K pp w bk wa) (b : Bool) {j : Nat} (hj : j < 64) : mIsOf f j (sdN b) = (kSide w bk b).getLsbD j := by
  obtain ⟨h1, h2, h3, h4⟩ := h.1 j hj
  rw [r_side h b hj]
  unfold mIsOf
  rw [h1]
  generalize pcN f j = c at h2 h3 h4
  exact tb_of c h2 h3 h4 b
theorem pc_nI {c : Nat} (h : c < 15) : (nI c).toNatClampNeg = c := nI_clamp (by omega)
theorem r_kind (h : Rel f K pp w bk wa) {j : Nat} (hj : j < 64) : mKindN f j = pcN f j % 8 := by
  obtain ⟨h1, h2, h3, h4⟩ := h.1 j hj
  have h5 : (f j).toBitVec.toNat = pcN f j := by
    have h6 := congrArg (fun z => z.toBitVec.toNat) h1
    exact h6.trans (pk_tn (by omega))
  unfold mKindN
  rw [h5]
theorem r_kKind (h : Rel f K pp w bk wa) {j : Nat} (hj : j < 64) : kKind K j = pcN f j % 8 := by
  obtain ⟨h1, h2, h3, h4⟩ := h.1 j hj
  unfold kKind
  rw [mFirst_cg (q := fun k => decide (pcN f j % 8 = k)) 6 1 (fun k k1 k2 => h.2.2.2.1 j hj k k1 (by omega))]
  exact tb_kd _ (tb_xx _ h2 h3 h4).1
theorem r_isOwn (h : Rel f K pp w bk wa) (b : Bool) {j k : Nat} (hj : j < 64) (k1 : 1 ≤ k) (k6 : k ≤ 6) : mIsOwn f j k (sdN b) = (K k &&& kSide w bk b).getLsbD j := by
  obtain ⟨h1, h2, h3, h4⟩ := h.1 j hj
  rw [BitVec.getLsbD_and, h.2.2.2.1 j hj k k1 k6, r_side h b hj]
  unfold mIsOwn
  rw [h1]
  generalize pcN f j = c at h2 h3 h4
  exact tb_own c h2 h3 h4 k (by omega) k1 b
theorem r_occ (h : Rel f K pp w bk wa) {j : Nat} (hj : j < 64) : (w ||| bk).getLsbD j = !decide (pcN f j = 0) := by
  obtain ⟨h1, h2, h3, h4⟩ := h.1 j hj
  rw [BitVec.getLsbD_or, h.2.1 j hj, h.2.2.1 j hj]
  have h5 := (tb_xx _ h2 h3 h4).2.2.2.2.2.1
  generalize pcN f j = c at h2 h3 h4 h5
  by_cases e : c = 0
  · subst e; rfl
  · have e2 : (sdC true c || sdC false c) = true := by
      cases hq : (sdC true c || sdC false c)
      · exact absurd (h5.mpr hq) e
      · rfl
    rw [decide_eq_false e]
    exact e2
theorem r_zero (h : Rel f K pp w bk wa) {j : Nat} (hj : j < 64) : f j = 0 ↔ pcN f j = 0 := by
  obtain ⟨h1, h2, h3, h4⟩ := h.1 j hj
  constructor
  · intro e; unfold pcN; rw [e]; rfl
  · intro e; rw [h1, e]; rfl
theorem r_emp (h : Rel f K pp w bk wa) {j : Nat} (hj : j < 64) : f j = 0 ↔ (w ||| bk).getLsbD j = false := by
  rw [r_occ h hj, r_zero h hj]
  by_cases e : pcN f j = 0
  · simp [e]
  · simp [e]
theorem r_sdX (h : Rel f K pp w bk wa) {j : Nat} (hj : j < 64) : sdX (f j) = sdN (w.getLsbD j) := by
  obtain ⟨h1, h2, h3, h4⟩ := h.1 j hj
  rw [h.2.1 j hj, h1]
  have e : pcN f j = pcN f j := rfl
  generalize hc : pcN f j = c at h2 h3 h4 ⊢
  exact tb_sd c h2 h3 h4
/-- the colour of a piece of a side -/
theorem r_col (h : Rel f K pp w bk wa) {b : Bool} {j : Nat} (hj : j < 64) (hs : (kSide w bk b).getLsbD j = true) : w.getLsbD j = b := by
  obtain ⟨h1, h2, h3, h4⟩ := h.1 j hj
  rw [r_side h b hj] at hs
  rw [h.2.1 j hj]
  have t := tb_xx _ h2 h3 h4
  cases b
  · exact t.2.2.2.2.2.2.2 hs
  · exact t.2.2.2.2.2.2.1 hs
theorem r_one (h : Rel f K pp w bk wa) {b : Bool} {j : Nat} (hj : j < 64) (hs : (kSide w bk b).getLsbD j = true) : (kSide w bk (!b)).getLsbD j = false := by
  obtain ⟨h1, h2, h3, h4⟩ := h.1 j hj
  rw [r_side h b hj] at hs
  rw [r_side h (!b) hj]
  have t := tb_xx _ h2 h3 h4
  cases b
  · show sdC true (pcN f j) = false
    cases hq : sdC true (pcN f j)
    · rfl
    · rw [t.2.2.2.2.1 hq] at hs; cases hs
  · exact t.2.2.2.2.1 hs
theorem r_kd1 (h : Rel f K pp w bk wa) {b : Bool} {j : Nat} (hj : j < 64) (hs : (kSide w bk b).getLsbD j = true) : 1 ≤ pcN f j % 8 ∧ pcN f j % 8 ≤ 6 := by
  obtain ⟨h1, h2, h3, h4⟩ := h.1 j hj
  rw [r_side h b hj] at hs
  have t := tb_xx _ h2 h3 h4
  refine ⟨?_, by have := t.1; omega⟩
  cases b
  · exact t.2.2.1 hs
  · exact t.2.1 hs
theorem mClearL_iff (g : Nat → Int32) (a b : Nat) : ∀ n k, mClearL g a b n k = true ↔ ∀ q, k ≤ q → q < k + n → g (mPth a b q) = 0
  | 0, k => by
    constructor
    · intro _ q h1 h2; omega
    · intro _; rfl
  | n + 1, k => by
    unfold mClearL
    by_cases e : g (mPth a b k) = 0
    · rw [if_pos e, mClearL_iff g a b n (k + 1)]
      constructor
      · intro h q h1 h2
        by_cases hq : q = k
        · subst hq; exact e
        · exact h q (by omega) (by omega)
      · intro h q h1 h2; exact h q (by omega) (by omega)
    · rw [if_neg e]
      constructor
      · intro z; cases z
      · intro h; exact absurd (h k (Nat.le_refl _) (by omega)) e
theorem r_clear (h : Rel f K pp w bk wa) {a b : Nat} (ha : a < 64) (hb : b < 64) (hal : mAl a b = true) : mClear f a b = true ↔ Clr (w ||| bk) a b := by
  have hp := pth_tab a ha b hb hal
  unfold mClear Clr
  rw [mClearL_iff]
  constructor
  · intro z k k1 k2
    exact (r_emp h (hp.2.2.2.2 k k2).1).mp (z k k1 (by omega))
  · intro z q q1 q2
    exact (r_emp h (hp.2.2.2.2 q (by omega)).1).mpr (z q q1 (by omega))
theorem ahead_t {x y : Nat} (hx : x < 8) (hy : y < 8) : nI y = nI x + nI 1 ↔ y = x + 1 := by
  rw [nI_add, nI_eq (by omega) (by omega)]
theorem ahead_f {x y : Nat} (hx : x < 8) (hy : y < 8) : nI y = nI x + (-1) ↔ x = y + 1 := by
  cases x with
  | zero =>
    constructor
    · intro e
      have e2 : nI 0 + (-1 : Int32) = -1 := by decide
      rw [e2] at e
      exact absurd e (nI_m1 (by omega))
    · intro e; omega
  | succ x =>
    rw [pk_m1, nI_eq (by omega) (by omega)]
    omega
theorem r_ahead (h : Rel f K pp w bk wa) {a b : Nat} (ha : a < 64) (hb : b < 64) : decide (nI (b / 8) = mAhead f a) = (if w.getLsbD a then decide (b / 8 = a / 8 + 1) else decide (a / 8 = b / 8 + 1)) := by
  unfold mAhead
  rw [and8, r_sdX h ha]
  cases hw : w.getLsbD a
  · rw [if_neg (by decide), if_neg (by decide)]
    exact decide_eq_decide.mpr (ahead_f (by omega) (by omega))
  · rw [if_pos (by decide), if_pos rfl]
    exact decide_eq_decide.mpr (ahead_t (by omega) (by omega))
theorem r_att (h : Rel f K pp w bk wa) {a b : Nat} (ha : a < 64) (hb : b < 64) : mAtt f a b = true ↔ GAt (pcN f a % 8) (w.getLsbD a) (w ||| bk) a b := by
  unfold mAtt
  rw [r_kind h ha]
  generalize pcN f a % 8 = k
  by_cases h1 : k = 1
  · subst h1
    rw [if_pos rfl]
    unfold GAt gKi; simp
  rw [if_neg h1]
  by_cases h2 : k = 2
  · subst h2
    rw [if_pos rfl, Bool.and_eq_true, Bool.or_eq_true]
    unfold GAt
    constructor
    · rintro ⟨z, z2⟩
      refine Or.inr (Or.inl ⟨rfl, z, (r_clear h ha hb ?_).mp z2⟩)
      rcases z with z | z
      · exact al_str _ _ z
      · exact al_dia _ _ z
    · rintro (⟨z, _⟩ | ⟨_, z, z3⟩ | ⟨z, _⟩ | ⟨z, _⟩ | ⟨z, _⟩ | ⟨z, _⟩)
      · exact absurd z (by decide)
      · refine ⟨z, (r_clear h ha hb ?_).mpr z3⟩
        rcases z with z | z
        · exact al_str _ _ z
        · exact al_dia _ _ z
      all_goals exact absurd z (by decide)
  rw [if_neg h2]
  by_cases h3 : k = 3
  · subst h3
    rw [if_pos rfl, Bool.and_eq_true]
    unfold GAt
    constructor
    · rintro ⟨z, z2⟩
      exact Or.inr (Or.inr (Or.inl ⟨rfl, z, (r_clear h ha hb (al_str _ _ z)).mp z2⟩))
    · rintro (⟨z, _⟩ | ⟨z, _⟩ | ⟨_, z, z3⟩ | ⟨z, _⟩ | ⟨z, _⟩ | ⟨z, _⟩)
      · exact absurd z (by decide)
      · exact absurd z (by decide)
      · exact ⟨z, (r_clear h ha hb (al_str _ _ z)).mpr z3⟩
      all_goals exact absurd z (by decide)
  rw [if_neg h3]
  by_cases h4 : k = 4
  · subst h4
    rw [if_pos rfl, Bool.and_eq_true]
    unfold GAt
    constructor
    · rintro ⟨z, z2⟩
      exact Or.inr (Or.inr (Or.inr (Or.inl ⟨rfl, z, (r_clear h ha hb (al_dia _ _ z)).mp z2⟩)))
    · rintro (⟨z, _⟩ | ⟨z, _⟩ | ⟨z, _⟩ | ⟨_, z, z3⟩ | ⟨z, _⟩ | ⟨z, _⟩)
      · exact absurd z (by decide)
      · exact absurd z (by decide)
      · exact absurd z (by decide)
      · exact ⟨z, (r_clear h ha hb (al_dia _ _ z)).mpr z3⟩
      all_goals exact absurd z (by decide)
  rw [if_neg h4]
  by_cases h5 : k = 5
  · subst h5
    rw [if_pos rfl]
    unfold GAt mLeap; simp
  rw [if_neg h5]
  by_cases h6 : k = 6
  · subst h6
    rw [if_pos rfl, r_ahead h ha hb]
    unfold GAt gPa; simp
  rw [if_neg h6]
  unfold GAt
  constructor
  · intro z; cases z
  · rintro (⟨z, _⟩ | ⟨z, _⟩ | ⟨z, _⟩ | ⟨z, _⟩ | ⟨z, _⟩ | ⟨z, _⟩)
    · exact absurd z h1
    · exact absurd z h2
    · exact absurd z h3
    · exact absurd z h4
    · exact absurd z h5
    · exact absurd z h6
theorem GAt_k {k : Nat} {c : Bool} {o : BitVec 64} {a b : Nat} (h : GAt k c o a b) : 1 ≤ k ∧ k ≤ 6 := by
  rcases h with ⟨z, _⟩ | ⟨z, _⟩ | ⟨z, _⟩ | ⟨z, _⟩ | ⟨z, _⟩ | ⟨z, _⟩ <;> omega
theorem r_kAtt (h : Rel f K pp w bk wa) {t a : Nat} (c : Bool) (o : BitVec 64) (ht : t < 64) (ha : a < 64) : (kAtt K w bk (kB t) c o).getLsbD a = true ↔ (kSide w bk c).getLsbD a = true ∧ GAt (pcN f a % 8) c o a t := by
  rw [kAtt_bit K w bk c o ht ha]
  constructor
  · rintro ⟨hs, k, k1, k6, hk, hg⟩
    rw [h.2.2.2.1 a ha k k1 k6, decide_eq_true_eq] at hk
    exact ⟨hs, by rw [hk]; exact hg⟩
  · rintro ⟨hs, hg⟩
    have hk := GAt_k hg
    exact ⟨hs, _, hk.1, hk.2, by rw [h.2.2.2.1 a ha _ hk.1 hk.2, decide_eq_true_eq], hg⟩
theorem r_isAtt (h : Rel f K pp w bk wa) (b : Bool) {q : Nat} (hq : q < 64) : mIsAtt f q (sdN b) = true ↔ ∃ a, a < 64 ∧ (kSide w bk b).getLsbD a = true ∧ GAt (pcN f a % 8) b (w ||| bk) a q := by
  unfold mIsAtt
  rw [mAnyL_iff]
  constructor
  · rintro ⟨a, _, ha, hp⟩
    have ha : a < 64 := by omega
    rw [Bool.and_eq_true, r_isOf h b ha, r_att h ha hq] at hp
    rw [r_col h ha hp.1] at hp
    exact ⟨a, ha, hp⟩
  · rintro ⟨a, ha, hs, hg⟩
    refine ⟨a, Nat.zero_le _, by omega, ?_⟩
    rw [Bool.and_eq_true, r_isOf h b ha, r_att h ha hq, r_col h ha hs]
    exact ⟨hs, hg⟩
theorem sdN_not (b : Bool) : 8 - sdN b = sdN (!b) := by cases b <;> rfl
theorem r_king (h : Rel f K pp w bk wa) (hu : KU f) (b : Bool) : (mKing f (sdN b) = none ∧ K 1 &&& kSide w bk b = 0#64) ∨ ∃ k, k < 64 ∧ mKing f (sdN b) = some k ∧ K 1 &&& kSide w bk b = kB k := by
  cases hk : mKing f (sdN b) with
  | none =>
    left
    refine ⟨rfl, bv_ext fun i hi => ?_⟩
    rw [← r_isOwn h b hi (Nat.le_refl 1) (by decide), z_get]
    exact mFirst_none hk i (Nat.zero_le _) (by omega)
  | some k =>
    right
    have hk2 := mFirst_some hk
    have hk6 : k < 64 := by omega
    refine ⟨k, hk6, rfl, bv_ext fun i hi => bool_ext ?_⟩
    rw [← r_isOwn h b hi (Nat.le_refl 1) (by decide), kB_bit (by omega) hi]
    constructor
    · intro z; exact hu b k i hk6 hi hk2.2.2 z
    · intro e; rw [← e]; exact hk2.2.2
theorem r_chk (h : Rel f K pp w bk wa) (hu : KU f) (b : Bool) : kChk K w bk b = mInCheck f (sdN b) := by
  unfold kChk mInCheck
  rcases r_king h hu b with ⟨h1, h2⟩ | ⟨k, hk, h1, h2⟩
  · rw [h1, h2, kAtt_0]; rfl
  · rw [h1, h2, sdN_not]
    refine bool_ext ?_
    show (!decide (kAtt K w bk (kB k) (!b) (w ||| bk) = 0#64)) = true ↔ mIsAtt f k (sdN (!b)) = true
    rw [Bool.not_eq_true', decide_eq_false_iff_not, bv_ne0, r_isAtt h (!b) hk]
    constructor
    · rintro ⟨i, hi, z⟩; exact ⟨i, hi, (r_kAtt h (!b) _ hk hi).mp z⟩
    · rintro ⟨i, hi, z⟩; exact ⟨i, hi, (r_kAtt h (!b) _ hk hi).mpr z⟩
theorem low_all : ∀ k, k < 64 → pcnt ((kB k &&& -kB k) - 1#64) = k := by decide +kernel
theorem kB_ne {k : Nat} (hk : k < 64) : ¬ kB k = 0#64 := fun e => by
  have h := kB_get hk k
  rw [e, z_get, decide_eq_true rfl] at h
  cases h
theorem r_low (h : Rel f K pp w bk wa) (hu : KU f) (b : Bool) : kLow (K 1 &&& kSide w bk b) = oI (mKing f (sdN b)) := by
  rcases r_king h hu b with ⟨h1, h2⟩ | ⟨k, hk, h1, h2⟩
  · rw [h1, h2]; rfl
  · rw [h1, h2]
    unfold kLow
    rw [if_neg (kB_ne hk), low_all k hk]
    rfl
theorem r_ofSet (h : Rel f K pp w bk wa) (b : Bool) : mOfSet f (sdN b) = kSide w bk b := bv_ext fun j hj => by
  unfold mOfSet
  rw [mSet_bit _ hj, r_isOf h b hj]
theorem r_atts (h : Rel f K pp w bk wa) (b : Bool) {q : Nat} (hq : q < 64) : mAtts f q (sdN b) = kAtt K w bk (kB q) b (w ||| bk) := bv_ext fun j hj => bool_ext (by
  unfold mAtts
  rw [mSet_bit _ hj, Bool.and_eq_true, r_isOf h b hj, r_att h hj hq, r_kAtt h b _ hq hj]
  constructor
  · rintro ⟨h1, h2⟩; rw [r_col h hj h1] at h2; exact ⟨h1, h2⟩
  · rintro ⟨h1, h2⟩; rw [r_col h hj h1]; exact ⟨h1, h2⟩)
theorem r_atd (h : Rel f K pp w bk wa) (b : Bool) : kAtd K w bk b = mAttSet f (sdN b) := bv_ext fun j hj => bool_ext (by
  unfold mAttSet
  rw [mSet_bit _ hj, r_isAtt h b hj]
  have e : kAtd K w bk b = (((((0#64 ||| kOf 1 b (K 1 &&& kSide w bk b) (w ||| bk)) ||| kOf 2 b (K 2 &&& kSide w bk b) (w ||| bk)) ||| kOf 3 b (K 3 &&& kSide w bk b) (w ||| bk)) ||| kOf 4 b (K 4 &&& kSide w bk b) (w ||| bk)) ||| kOf 5 b (K 5 &&& kSide w bk b) (w ||| bk)) ||| kOf 6 b (K 6 &&& kSide w bk b) (w ||| bk) := rfl
  have hk : ∀ k, 1 ≤ k → k ≤ 6 → ((kOf k b (K k &&& kSide w bk b) (w ||| bk)).getLsbD j = true ↔ ∃ a, a < 64 ∧ (pcN f a % 8 = k ∧ (kSide w bk b).getLsbD a = true) ∧ GAt k b (w ||| bk) a j) := by
    intro k k1 k6
    rw [kOf_set b _ _ hj]
    constructor
    · rintro ⟨a, ha, h1, h2⟩
      rw [BitVec.getLsbD_and, Bool.and_eq_true, h.2.2.2.1 a ha k k1 k6, decide_eq_true_eq] at h1
      exact ⟨a, ha, h1, h2⟩
    · rintro ⟨a, ha, h1, h2⟩
      refine ⟨a, ha, ?_, h2⟩
      rw [BitVec.getLsbD_and, Bool.and_eq_true, h.2.2.2.1 a ha k k1 k6, decide_eq_true_eq]
      exact h1
  rw [e]
  simp only [BitVec.getLsbD_or, Bool.or_eq_true, z_get]
  constructor
  · intro z
    have z2 : ∃ k, 1 ≤ k ∧ k ≤ 6 ∧ (kOf k b (K k &&& kSide w bk b) (w ||| bk)).getLsbD j = true := by
      rcases z with (((((z | z) | z) | z) | z) | z) | z
      · cases z
      · exact ⟨1, by decide, by decide, z⟩
      · exact ⟨2, by decide, by decide, z⟩
      · exact ⟨3, by decide, by decide, z⟩
      · exact ⟨4, by decide, by decide, z⟩
      · exact ⟨5, by decide, by decide, z⟩
      · exact ⟨6, by decide, by decide, z⟩
    obtain ⟨k, k1, k6, z3⟩ := z2
    obtain ⟨a, ha, ⟨h1, h2⟩, h3⟩ := (hk k k1 k6).mp z3
    exact ⟨a, ha, h2, by rw [h1]; exact h3⟩
  · rintro ⟨a, ha, h1, h2⟩
    obtain ⟨k1, k6⟩ := GAt_k h2
    have z := (hk _ k1 k6).mpr ⟨a, ha, ⟨rfl, h1⟩, h2⟩
    generalize pcN f a % 8 = k at z k1 k6
    rcases (show k = 1 ∨ k = 2 ∨ k = 3 ∨ k = 4 ∨ k = 5 ∨ k = 6 by omega) with rfl | rfl | rfl | rfl | rfl | rfl
    · exact Or.inl (Or.inl (Or.inl (Or.inl (Or.inl (Or.inr z)))))
    · exact Or.inl (Or.inl (Or.inl (Or.inl (Or.inr z))))
    · exact Or.inl (Or.inl (Or.inl (Or.inr z)))
    · exact Or.inl (Or.inl (Or.inr z))
    · exact Or.inl (Or.inr z)
    · exact Or.inr z)
end REL
