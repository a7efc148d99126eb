/-! ===== PURE 6: games side by side ===== -/
def Agr (f g : Nat → Int32) : Prop := ∀ j, j < 146 → f j = g j
def PosR (f : Nat → Int32) (K : Nat → BitVec 64) (pp : Nat → Int32) (w bk : BitVec 64) (wa : Bool) : Prop := Rel f K pp w bk wa ∧ KU f ∧ BondOk f ∧ BondNear f
section SIDE
variable {f g : Nat → Int32} {K K2 : Nat → BitVec 64} {pp pp2 : Nat → Int32} {w bk w2 bk2 : BitVec 64} {wa wa2 : Bool}
theorem Agr.sym (h : Agr f g) : Agr g f := fun j hj => (h j hj).symm
theorem pcN_cg {j : Nat} (h : f j = g j) : pcN f j = pcN g j := by unfold pcN; rw [h]
theorem Rel.cg (a : Agr f g) (h : Rel f K pp w bk wa) : Rel g K pp w bk wa := by
  have e : ∀ j, j < 64 → pcN g j = pcN f j := fun j hj => (pcN_cg (a j (by omega))).symm
  refine ⟨fun j hj => ?_, fun j hj => ?_, fun j hj => ?_, fun j hj k k1 k6 => ?_, fun j hj => ?_, ?_⟩
  · rw [e j hj, ← a j (by omega)]; exact h.1 j hj
  · rw [e j hj]; exact h.2.1 j hj
  · rw [e j hj]; exact h.2.2.1 j hj
  · rw [e j hj]; exact h.2.2.2.1 j hj k k1 k6
  · rw [← a _ (by omega)]; exact h.2.2.2.2.1 j hj
  · rw [← a _ (by omega)]; exact h.2.2.2.2.2
theorem own_cg (a : Agr f g) {i k sd : Nat} (hi : i < 64) : mIsOwn f i k sd = mIsOwn g i k sd := by unfold mIsOwn; rw [a i (by omega)]
theorem KU.cg (a : Agr f g) (h : KU f) : KU g := fun b i j hi hj h1 h2 => h b i j hi hj (by rw [own_cg a hi]; exact h1) (by rw [own_cg a hj]; exact h2)
theorem BondOk.cg (a : Agr f g) (h : BondOk f) : BondOk g := fun j hj => by
  rcases h j hj with h1 | ⟨o, ho, h1, h2, h3, h4, h5⟩
  · left; rw [← a _ (by omega)]; exact h1
  · right
    exact ⟨o, ho, by rw [← a _ (by omega)]; exact h1, h2, by rw [← a _ (by omega)]; exact h3, by rw [← pcN_cg (a j (by omega))]; exact h4, by rw [← pcN_cg (a o (by omega)), ← pcN_cg (a j (by omega))]; exact h5⟩
theorem BondNear.cg (a : Agr f g) (h : BondNear f) : BondNear g := fun j hj hn => by
  rw [← a _ (by omega)] at hn ⊢
  exact h j hj hn
theorem PosR.cg (a : Agr f g) (h : PosR f K pp w bk wa) : PosR g K pp w bk wa := ⟨h.1.cg a, h.2.1.cg a, h.2.2.1.cg a, h.2.2.2.cg a⟩
theorem king_cg (a : Agr f g) (sd : Nat) : mKing f sd = mKing g sd := mFirst_cg 64 0 (fun k _ hk => own_cg a (by omega))
theorem Ki2.cg (a : Agr f g) (h : Ki2 f) : Ki2 g := fun d => by rw [← king_cg a]; exact h d
theorem PosR.wfr (h : PosR f K pp w bk wa) : WfR f := ⟨fun j hj => ⟨(h.1.1 j hj).1, (h.1.1 j hj).2.1⟩, h.2.2.1.wf, by unfold WfS; rw [r_mside h.1]; exact h.1.2.2.2.2.2⟩
theorem PosR.wfpt (h : PosR f K pp w bk wa) : WfPt pp := fun j hj => by rw [h.1.2.2.2.2.1 j hj]; exact h.2.2.1.wf j hj
theorem PosR.wfk (h : PosR f K pp w bk wa) : WfK K w bk := fun j hj ho => by
  rw [BitVec.getLsbD_or, Bool.or_eq_true] at ho
  rw [r_kKind h.1 hj]
  rcases ho with ho | ho
  · exact (r_kd1 (b := true) h.1 hj ho).1
  · exact (r_kd1 (b := false) h.1 hj ho).1
theorem mAllL_iff (p : Nat → Bool) : ∀ n i, mAllL p n i = true ↔ ∀ k, i ≤ k → k < i + n → p k = true
  | 0, i => by
    constructor
    · intro _ k h1 h2; omega
    · intro _; rfl
  | n + 1, i => by
    unfold mAllL
    cases hp : p i
    · rw [if_neg (by decide)]
      constructor
      · intro h; cases h
      · intro h; rw [h i (Nat.le_refl _) (by omega)] at hp; cases hp
    · rw [if_pos rfl, mAllL_iff p n (i + 1)]
      constructor
      · intro h k h1 h2
        by_cases e : k = i
        · rw [e]; exact hp
        · exact h k (by omega) (by omega)
      · intro h k h1 h2; exact h k (by omega) (by omega)
theorem code_of {c d : Nat} (hc : c < 15) (h7 : c ≠ 7) (h8 : c ≠ 8) (hd : d < 15) (h72 : d ≠ 7) (h82 : d ≠ 8) (hk : c % 8 = d % 8) (hs : decide (8 < c) = decide (8 < d)) : c = d := by
  have h3 := decide_eq_decide.mp hs
  omega
theorem sdN_inj {a b : Bool} (h : nI (sdN a) = nI (sdN b)) : a = b := by
  cases a <;> cases b <;> first | rfl | exact absurd h (by decide)
/-- the class's positions match where the rows are alike -/
theorem r_eq (h : Rel f K pp w bk wa) (h2 : Rel g K2 pp2 w2 bk2 wa2) : kEq K K2 pp pp2 w bk w2 bk2 wa wa2 = true ↔ ∀ j, j < 129 → f j = g j := by
  unfold kEq
  rw [Bool.and_eq_true, Bool.and_eq_true, Bool.and_eq_true, Bool.and_eq_true, decide_eq_true_eq, decide_eq_true_eq, decide_eq_true_eq, mAllL_iff, mAllL_iff]
  constructor
  · rintro ⟨e1, e2, e3, e4, e5⟩ j hj
    by_cases j1 : j < 64
    · rw [(h.1 j j1).1, (h2.1 j j1).1]
      have hk : pcN f j % 8 = pcN g j % 8 := by
        rw [← r_kKind h j1, ← r_kKind h2 j1]
        unfold kKind
        rw [mFirst_cg 6 1 (fun k k1 k2 => by rw [of_decide_eq_true (e4 k k1 k2)])]
      have hs : decide (8 < pcN f j) = decide (8 < pcN g j) := by rw [← h.2.1 j j1, ← h2.2.1 j j1, e1]
      obtain ⟨-, a1, a2, a3⟩ := h.1 j j1
      obtain ⟨-, b1, b2, b3⟩ := h2.1 j j1
      rw [code_of a1 a2 a3 b1 b2 b3 hk hs]
    · by_cases j2 : j < 128
      · have h6 := of_decide_eq_true (e5 (j - 64) (Nat.zero_le _) (by omega))
        rw [h.2.2.2.2.1 (j - 64) (by omega), h2.2.2.2.2.1 (j - 64) (by omega), show 64 + (j - 64) = j by omega] at h6
        exact h6
      · have e : j = 128 := by omega
        subst e
        rw [h.2.2.2.2.2, h2.2.2.2.2.2, e3]
  · intro e
    have ep : ∀ j, j < 64 → pcN f j = pcN g j := fun j hj => pcN_cg (e j (by omega))
    refine ⟨bv_ext fun j hj => ?_, bv_ext fun j hj => ?_, ?_, fun k k1 k2 => ?_, fun j _ hj => ?_⟩
    · rw [h.2.1 j hj, h2.2.1 j hj, ep j hj]
    · rw [h.2.2.1 j hj, h2.2.2.1 j hj, ep j hj]
    · refine sdN_inj ?_
      rw [← h.2.2.2.2.2, ← h2.2.2.2.2.2]
      exact e 128 (by decide)
    · refine decide_eq_true (bv_ext fun j hj => ?_)
      rw [h.2.2.2.1 j hj k k1 (by omega), h2.2.2.2.1 j hj k k1 (by omega), ep j hj]
    · refine decide_eq_true ?_
      rw [h.2.2.2.2.1 j (by omega), h2.2.2.2.2.1 j (by omega)]
      exact e _ (by omega)
theorem mSameL_iff (rw f : Nat → Int32) (r : Nat) : ∀ n i acc, mSameL rw f r n i acc = true ↔ acc = true ∧ ∀ k, i ≤ k → k < i + n → rw (146 * r + k) = f k
  | 0, i, acc => by
    unfold mSameL
    constructor
    · intro h; exact ⟨h, fun k h1 h2 => by omega⟩
    · intro h; exact h.1
  | n + 1, i, acc => by
    unfold mSameL
    rw [mSameL_iff rw f r n (i + 1), Bool.and_eq_true, decide_eq_true_eq]
    constructor
    · rintro ⟨⟨h1, h2⟩, h3⟩
      refine ⟨h1, fun k k1 k2 => ?_⟩
      by_cases e : k = i
      · rw [e]; exact h2
      · exact h3 k (by omega) (by omega)
    · rintro ⟨h1, h2⟩
      exact ⟨⟨h1, h2 i (Nat.le_refl _) (by omega)⟩, fun k k1 k2 => h2 k (by omega) (by omega)⟩
theorem mSame_iff (rw f : Nat → Int32) (r : Nat) : mSame rw f r = true ↔ ∀ j, j < 129 → rowN rw r j = f j := by
  unfold mSame
  rw [mSameL_iff]
  constructor
  · intro h j hj; exact h.2 j (Nat.zero_le _) (by omega)
  · intro h; exact ⟨rfl, fun k _ hk => h k (by omega)⟩
theorem kCntD_sum (p : Nat → Bool) : ∀ n r, kCntD p n r = r + sumN (fun k => if p k then 1 else 0) n
  | 0, r => rfl
  | n + 1, r => by
    unfold kCntD
    rw [kCntD_sum p n]
    show _ = r + (sumN _ n + (if p n then 1 else 0))
    cases p n
    · simp
    · simp; omega
end SIDE
/-- a page's position and its row: also the quiet actions and the captured pieces -/
def RowOk (g : Nat → Int32) (K : Nat → Nat → BitVec 64) (pp : Nat → Nat → Int32) (w bk : Nat → BitVec 64) (wa : Nat → Bool) (ca qu : Nat → Nat) (i : Nat) : Prop :=
  PosR g (K i) (pp i) (w i) (bk i) (wa i) ∧ (g 129 = nI (qu i) ∧ qu i ≤ i) ∧ ∀ k b, 1 ≤ k → k ≤ 6 → g (130 + sdN b + k) = nI (kCap ca wa k b i)
/-- .. of a game that is played -/
def PlOk (g : Nat → Int32) (K : Nat → Nat → BitVec 64) (w bk : Nat → BitVec 64) (wa : Nat → Bool) (i : Nat) : Prop := Ki2 g ∧ kChk (K i) (w i) (bk i) (!wa i) = false
def PS (su : Bool) (cn N : Nat) (K : Nat → Nat → BitVec 64) (pp : Nat → Nat → Int32) (w bk : Nat → BitVec 64) (wa : Nat → Bool) (ca qu ve : Nat → Nat) (rw f : Nat → Int32) (oc : Nat) : Prop :=
  (cn < N ∧ qu 0 = 0 ∧ ca 0 = 0 ∧ ∀ i, i < N → ca i < 8) ∧ RowOk f K pp w bk wa ca qu cn ∧ (oc = ve cn ∧ ve cn ≤ 5) ∧
  (su = true → cn = 0 ∧ oc = 0 ∧ ∀ j, j < 64 → f (64 + j) = -1) ∧
  (su = false → (∀ i, i ≤ cn → RowOk (rowN rw i) K pp w bk wa ca qu i ∧ PlOk (rowN rw i) K w bk wa i ∧ ve i = kVer K pp w bk wa qu i) ∧ Agr f (rowN rw cn))
theorem sdk_lt {b : Bool} {k : Nat} (k6 : k ≤ 6) : 130 + sdN b + k < 146 := by cases b <;> simp [sdN] <;> omega
theorem RowOk.cg {f g : Nat → Int32} {K : Nat → Nat → BitVec 64} {pp : Nat → Nat → Int32} {w bk : Nat → BitVec 64} {wa : Nat → Bool} {ca qu : Nat → Nat} {i : Nat} (a : Agr f g) (h : RowOk f K pp w bk wa ca qu i) : RowOk g K pp w bk wa ca qu i :=
  ⟨h.1.cg a, by rw [← a 129 (by decide)]; exact h.2.1, fun k b k1 k6 => by rw [← a _ (sdk_lt k6)]; exact h.2.2 k b k1 k6⟩
theorem PlOk.cg {f g : Nat → Int32} {K : Nat → Nat → BitVec 64} {w bk : Nat → BitVec 64} {wa : Nat → Bool} {i : Nat} (a : Agr f g) (h : PlOk f K w bk wa i) : PlOk g K w bk wa i := ⟨h.1.cg a, h.2⟩
/-- how often the present position occurred -/
theorem g_occ {cn : Nat} {K : Nat → Nat → BitVec 64} {pp : Nat → Nat → Int32} {w bk : Nat → BitVec 64} {wa : Nat → Bool} {rw f : Nat → Int32} (h : ∀ i, i ≤ cn → Rel (rowN rw i) (K i) (pp i) (w i) (bk i) (wa i)) (hf : Rel f (K cn) (pp cn) (w cn) (bk cn) (wa cn)) : kTm K pp w bk wa cn = mOcc rw f cn := by
  unfold kTm mOcc
  rw [kCntD_sum, cnt_sum, Nat.zero_add]
  refine sumN_cg _ (fun i hi => ?_)
  have e : kEqP K pp w bk wa cn i = mSame rw f i := bool_ext (by
    rw [mSame_iff]
    exact r_eq (h i (by omega)) hf)
  rw [e]
/-- the verdict is the outcome -/
theorem g_out {cn : Nat} {K : Nat → Nat → BitVec 64} {pp : Nat → Nat → Int32} {w bk : Nat → BitVec 64} {wa : Nat → Bool} {ca qu : Nat → Nat} {rw f : Nat → Int32} (h : ∀ i, i ≤ cn → Rel (rowN rw i) (K i) (pp i) (w i) (bk i) (wa i)) (hf : RowOk f K pp w bk wa ca qu cn) (hk : Ki2 f) (hc : cn < 2 ^ 30) : kVer K pp w bk wa qu cn = mOutc rw f cn := by
  obtain ⟨⟨hr, hu, hO, hN⟩, ⟨hq, hq2⟩, -⟩ := hf
  have h1 := r_has hr hu hO hN
  have h2 := r_chk hr hu (wa cn)
  have h3 := r_bare hr hu hk
  have h4 := g_occ h hr
  have h5 : f 129 < nI 40 ↔ qu cn < 40 := by rw [hq]; exact nI_ltI (by omega) (by decide)
  unfold kVer mOutc
  rw [h1, h2, h4, r_mside hr]
  cases hC : mInCheck f (sdN (wa cn))
  · have h6 := r_bAct hr hu hO hC
    rw [h6]
    cases hH : mHas f <;> cases hB : mBondAct f <;> simp [h3, h5]
  · cases hH : mHas f <;> simp [h3, h5]
