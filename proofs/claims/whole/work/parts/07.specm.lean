/-! ===== the reference's own functions, over the numbers of a row ===== -/
def sdN (b : Bool) : Nat := if b then 8 else 0
theorem sdN_le (b : Bool) : sdN b ≤ 8 := by cases b <;> decide
def mIsSq (x : Int32) : Bool := !decide (x < 0) && !decide (nI 64 ≤ x)
def mAway (a b : Nat) : Nat := if b < a then a - b else b - a
def mLeap (a b : Nat) : Bool := decide (mAway (a % 8) (b % 8) * mAway (a / 8) (b / 8) = 2)
def mKindN (f : Nat → Int32) (j : Nat) : Nat := (f j).toBitVec.toNat % 8
theorem mKindN_lt (f : Nat → Int32) (j : Nat) : mKindN f j < 8 := Nat.mod_lt _ (by decide)
theorem mKind_eq (f : Nat → Int32) (j : Nat) : f j &&& nI 7 = nI (mKindN f j) := pk_and (f j) 3 (by decide)
def mIsOf (f : Nat → Int32) (j sd : Nat) : Bool := !decide (f j = 0) && decide (f j &&& nI 8 = nI sd)
def mIsOwn (f : Nat → Int32) (j k sd : Nat) : Bool := decide (f j = nI (sd + k))
/-- the side of a number: 8 or 0 -/
def sdX (x : Int32) : Nat := if x.toBitVec.getLsbD 3 then 8 else 0
theorem sdX_le (x : Int32) : sdX x ≤ 8 := by unfold sdX; split <;> decide
theorem and8 (x : Int32) : x &&& nI 8 = nI (sdX x) := by
  apply Int32.toBitVec_inj.1
  apply BitVec.eq_of_getLsbD_eq
  intro i hi
  show (x.toBitVec &&& 8#32).getLsbD i = _
  rw [BitVec.getLsbD_and]
  have h8 : ∀ i, i < 32 → (8#32).getLsbD i = decide (i = 3) := by decide
  rw [h8 i hi]
  unfold sdX
  by_cases h3 : i = 3
  · subst h3
    cases hb : x.toBitVec.getLsbD 3
    · simp; rfl
    · simp; rfl
  · have hd : decide (i = 3) = false := by simp [h3]
    rw [hd, Bool.and_false]
    split
    · show false = (8#32).getLsbD i
      rw [h8 i hi, hd]
    · show false = (0#32).getLsbD i
      simp
/-- the first place from i on, within n places, that is hit -/
def mFirst (p : Nat → Bool) : Nat → Nat → Option Nat
  | 0, _ => none
  | n + 1, i => if p i then some i else mFirst p n (i + 1)
theorem mFirst_some {p : Nat → Bool} : ∀ {n i j : Nat}, mFirst p n i = some j → i ≤ j ∧ j < i + n ∧ p j = true
  | 0, i, j, h => by cases h
  | n + 1, i, j, h => by
    unfold mFirst at h
    cases hp : p i
    · rw [hp, if_neg (by decide)] at h
      have := mFirst_some h
      exact ⟨by omega, by omega, this.2.2⟩
    · rw [hp, if_pos rfl] at h
      cases h
      exact ⟨Nat.le_refl _, by omega, hp⟩
def mAnyL (p : Nat → Bool) : Nat → Nat → Bool
  | 0, _ => false
  | n + 1, i => if p i then true else mAnyL p n (i + 1)
def oI (o : Option Nat) : Int32 := match o with
  | some j => nI j
  | none => -1
theorem oI_n : oI none = -1 := rfl
theorem oI_s (j : Nat) : oI (some j) = nI j := rfl
def mKing (f : Nat → Int32) (sd : Nat) : Option Nat := mFirst (fun j => mIsOwn f j 1 sd) 64 0
theorem mKing_lt {f : Nat → Int32} {sd j : Nat} (h : mKing f sd = some j) : j < 64 := by have := mFirst_some h; omega
theorem mAway_le {a b k : Nat} (ha : a ≤ k) (hb : b ≤ k) : mAway a b ≤ k := by
  unfold mAway
  split <;> omega
theorem mLeap_in (a b : Nat) (ha : a < 64) (hb : b < 64) : mAway (a % 8) (b % 8) * mAway (a / 8) (b / 8) ≤ 49 :=
  Nat.mul_le_mul (mAway_le (k := 7) (by omega) (by omega)) (mAway_le (k := 7) (by omega) (by omega))
/-! ===== lines ===== -/
def cmpI (a b : Nat) : Int32 := if a < b then -1 else if a = b then nI 0 else nI 1
def cmpZ (a b : Nat) : Int := if a < b then -1 else if a = b then 0 else 1
def mStep (a b : Nat) : Int32 := cmpI (b % 8) (a % 8) + nI 8 * cmpI (b / 8) (a / 8)
def mStepZ (a b : Nat) : Int := cmpZ (b % 8) (a % 8) + 8 * cmpZ (b / 8) (a / 8)
def mStr (a b : Nat) : Bool := decide (mAway (a % 8) (b % 8) = 0) != decide (mAway (a / 8) (b / 8) = 0)
def mDia (a b : Nat) : Bool := decide (mAway (a % 8) (b % 8) = mAway (a / 8) (b / 8)) && decide (0 < mAway (a % 8) (b % 8))
theorem mStr_t {a b : Nat} (h : ¬ decide (mAway (a % 8) (b % 8) = 0) = decide (mAway (a / 8) (b / 8) = 0)) : mStr a b = true := by unfold mStr; exact bne_iff_ne.mpr h
theorem mStr_f {a b : Nat} (h : decide (mAway (a % 8) (b % 8) = 0) = decide (mAway (a / 8) (b / 8) = 0)) : mStr a b = false := by unfold mStr; rw [h]; exact bne_self_eq_false _
def mAl (a b : Nat) : Bool := mStr a b || mDia a b
def mDist (a b : Nat) : Nat := if mAway (a % 8) (b % 8) < mAway (a / 8) (b / 8) then mAway (a / 8) (b / 8) else mAway (a % 8) (b % 8)
/-- the k-th square on the way from a to b -/
def mPth (a b k : Nat) : Nat := ((a : Int) + k * mStepZ a b).toNat
def pthOk (a b : Nat) : Bool := !mAl a b || (decide (mPth a b (mDist a b) = b) && (decide (0 < mDist a b) && (decide (mDist a b ≤ 7) && (decide (mPth a b 0 = a) && (List.range (mDist a b)).all (fun k => decide (mPth a b k < 64) && (decide (¬ mPth a b k = b) && decide (nI (mPth a b k) + mStep a b = nI (mPth a b (k + 1)))))))))
theorem pth_all : (List.range 64).all (fun a => (List.range 64).all (fun b => pthOk a b)) = true := by decide +kernel
theorem pth_tab (a : Nat) (ha : a < 64) (b : Nat) (hb : b < 64) (h : mAl a b = true) : mPth a b (mDist a b) = b ∧ 0 < mDist a b ∧ mDist a b ≤ 7 ∧ mPth a b 0 = a ∧ ∀ k, k < mDist a b → mPth a b k < 64 ∧ ¬ mPth a b k = b ∧ nI (mPth a b k) + mStep a b = nI (mPth a b (k + 1)) := by
  have h1 := List.all_eq_true.mp (List.all_eq_true.mp pth_all a (List.mem_range.mpr ha)) b (List.mem_range.mpr hb)
  unfold pthOk at h1
  rw [h] at h1
  simp only [Bool.not_true, Bool.false_or, Bool.and_eq_true, decide_eq_true_eq, List.all_eq_true, List.mem_range] at h1
  exact h1
def mClearL (f : Nat → Int32) (a b : Nat) : Nat → Nat → Bool
  | 0, _ => true
  | n + 1, k => if f (mPth a b k) = 0 then mClearL f a b n (k + 1) else false
def mClear (f : Nat → Int32) (a b : Nat) : Bool := mClearL f a b (mDist a b - 1) 1
def mAhead (f : Nat → Int32) (j : Nat) : Int32 := nI (j / 8) + (if f j &&& nI 8 = nI 8 then nI 1 else -1)
def mAtt (f : Nat → Int32) (a b : Nat) : Bool :=
  if mKindN f a = 1 then decide (mAway (a % 8) (b % 8) ≤ 1) && (decide (mAway (a / 8) (b / 8) ≤ 1) && decide (0 < mAway (a % 8) (b % 8) + mAway (a / 8) (b / 8)))
  else if mKindN f a = 2 then (mStr a b || mDia a b) && mClear f a b
  else if mKindN f a = 3 then mStr a b && mClear f a b
  else if mKindN f a = 4 then mDia a b && mClear f a b
  else if mKindN f a = 5 then decide (mAway (a % 8) (b % 8) * mAway (a / 8) (b / 8) = 2)
  else if mKindN f a = 6 then decide (mAway (a % 8) (b % 8) = 1) && decide (nI (b / 8) = mAhead f a)
  else false
def mIsAtt (f : Nat → Int32) (sq by_ : Nat) : Bool := mAnyL (fun j => mIsOf f j by_ && mAtt f j sq) 64 0
def mInCheck (f : Nat → Int32) (sd : Nat) : Bool := match mKing f sd with
  | none => false
  | some k => mIsAtt f k (8 - sd)
def mFwd (f : Nat → Int32) (a b : Nat) : Bool := decide (a % 8 = b % 8) && decide (nI (b / 8) = mAhead f a)
def mCanMove (f : Nat → Int32) (a b : Nat) : Bool :=
  if mIsOf f b (sdX (f a)) then false
  else if mKindN f a = 6 then (if f b = 0 then mFwd f a b else mAtt f a b)
  else mAtt f a b
def mCntL (p : Nat → Bool) : Nat → Nat → Nat → Nat
  | 0, _, r => r
  | n + 1, i, r => mCntL p n (i + 1) (if p i then r + 1 else r)
theorem mCntL_le (p : Nat → Bool) : ∀ n i r, mCntL p n i r ≤ r + n
  | 0, i, r => Nat.le_refl _
  | n + 1, i, r => by
    unfold mCntL
    have := mCntL_le p n (i + 1) (if p i then r + 1 else r)
    split at this <;> split <;> simp_all <;> omega
def mPieces (f : Nat → Int32) : Nat := mCntL (fun j => !decide (f j = 0)) 64 0 0
/-! ===== bonds, captures, moves ===== -/
def pcN (f : Nat → Int32) (j : Nat) : Nat := (f j).toNatClampNeg
def WfP (f : Nat → Int32) : Prop := ∀ j, j < 64 → f j = nI (pcN f j) ∧ pcN f j < 15
def WfB (f : Nat → Int32) : Prop := ∀ j, j < 64 → f (64 + j) = -1 ∨ ∃ o, o < 64 ∧ f (64 + j) = nI o
def mSide (f : Nat → Int32) : Nat := if f 128 = nI 8 then 8 else 0
theorem mSide_le (f : Nat → Int32) : mSide f ≤ 8 := by unfold mSide; split <;> decide
def WfS (f : Nat → Int32) : Prop := f 128 = nI (mSide f)
def WfR (f : Nat → Int32) : Prop := WfP f ∧ WfB f ∧ WfS f
theorem upd_s {f : Nat → Int32} {k : Nat} {x : Int32} : upd f k x k = x := if_pos rfl
theorem upd_n {f : Nat → Int32} {k j : Nat} {x : Int32} (h : j ≠ k) : upd f k x j = f j := if_neg h
def mTie (f : Nat → Int32) (a b : Nat) : Nat → Int32 := upd (upd f (64 + a) (nI b)) (64 + b) (nI a)
def mUntie (f : Nat → Int32) (j : Nat) : Nat → Int32 := if f (64 + j) = -1 then f else upd (upd f (64 + (f (64 + j)).toNatClampNeg) (-1)) (64 + j) (-1)
def mCap (f : Nat → Int32) (b : Nat) : Nat → Int32 := if pcN f b = 0 then f else mUntie (upd f (130 + pcN f b) (f (130 + pcN f b) + nI 1)) b
def mPawn (f : Nat → Int32) (a b : Nat) : Bool := decide (mKindN (mCap f b) a = 6)
def mCalm (f : Nat → Int32) (a b : Nat) : Int32 := if pcN f b = 0 then (if mPawn f a b then nI 0 else mCap f b 129 + nI 1) else nI 0
def mNewp (f : Nat → Int32) (a b : Nat) : Int32 := if mPawn f a b then (if b < 8 then (f a &&& nI 8) + nI 2 else if 55 < b then (f a &&& nI 8) + nI 2 else f a) else f a
def mMid (f : Nat → Int32) (a b : Nat) : Nat → Int32 := upd (upd (upd (mCap f b) 129 (mCalm f a b)) b (mNewp f a b)) a (nI 0)
def mBnd (f : Nat → Int32) (a b : Nat) : Nat → Int32 := if f (64 + a) = -1 then f else mTie (mUntie f a) b (f (64 + a)).toNatClampNeg
def mFlip (f : Nat → Int32) : Nat → Int32 := upd f 128 (nI 8 - f 128)
def mApply (f : Nat → Int32) (a b : Nat) : Nat → Int32 := mFlip (mBnd (mMid f a b) a b)
theorem cpy0 {f g : Nat → Int32} {n k : Nat} (h : k < n) : va_cpy f g 0 0 n k = f k := by
  unfold va_cpy; rw [if_pos ⟨Nat.zero_le _, by omega⟩]; congr 1; omega
theorem cpy_step (f g : Nat → Int32) (sp dp k : Nat) : upd (va_cpy f g sp dp k) (dp + k) (f (sp + k)) = va_cpy f g sp dp (k + 1) := by
  funext q
  unfold upd va_cpy
  by_cases h : q = dp + k
  · subst h; rw [if_pos rfl, if_pos ⟨by omega, by omega⟩]; congr 1; omega
  · rw [if_neg h]
    by_cases h2 : dp ≤ q ∧ q < dp + k
    · rw [if_pos h2, if_pos ⟨h2.1, by omega⟩]
    · rw [if_neg h2, if_neg (fun z => h2 ⟨z.1, by omega⟩)]
theorem cpy_zero (f g : Nat → Int32) (sp dp : Nat) : va_cpy f g sp dp 0 = g := by
  funext q; unfold va_cpy; rw [if_neg (by omega)]
theorem WfB_upd {f : Nat → Int32} {k : Nat} {x : Int32} (h : WfB f) (hk : k < 64 ∨ 128 ≤ k) : WfB (upd f k x) := fun j hj => by
  rw [upd_n (by omega)]; exact h j hj
theorem WfB_upd2 {f : Nat → Int32} {k : Nat} {x : Int32} (h : WfB f) (hx : x = -1 ∨ ∃ o, o < 64 ∧ x = nI o) : WfB (upd f k x) := fun j hj => by
  by_cases hk : 64 + j = k
  · subst hk; rw [upd_s]; exact hx
  · rw [upd_n hk]; exact h j hj
theorem WfB_tie {f : Nat → Int32} {a b : Nat} (h : WfB f) (ha : a < 64) (hb : b < 64) : WfB (mTie f a b) := WfB_upd2 (WfB_upd2 h (Or.inr ⟨b, hb, rfl⟩)) (Or.inr ⟨a, ha, rfl⟩)
theorem WfB_untie {f : Nat → Int32} {j : Nat} (h : WfB f) : WfB (mUntie f j) := by
  unfold mUntie; split
  · exact h
  · exact WfB_upd2 (WfB_upd2 h (Or.inl rfl)) (Or.inl rfl)
theorem WfB_cap {f : Nat → Int32} {b : Nat} (h : WfB f) : WfB (mCap f b) := by
  unfold mCap; split
  · exact h
  · exact WfB_untie (WfB_upd h (by omega))
theorem WfB_mid {f : Nat → Int32} {a b : Nat} (h : WfB f) (ha : a < 64) (hb : b < 64) : WfB (mMid f a b) := WfB_upd (WfB_upd (WfB_upd (WfB_cap h) (by omega)) (by omega)) (by omega)
theorem clamp_in {x : Int32} (h : x = -1 ∨ ∃ o, o < 64 ∧ x = nI o) : x.toNatClampNeg < 64 := by
  rcases h with rfl | ⟨o, ho, rfl⟩
  · decide
  · rw [nI_cl ho]; exact ho
theorem WfB_bnd {f : Nat → Int32} {a b : Nat} (h : WfB f) (ha : a < 64) (hb : b < 64) : WfB (mBnd f a b) := by
  unfold mBnd; split
  · exact h
  · exact WfB_tie (WfB_untie h) hb (clamp_in (h a ha))
theorem WfB_apply {f : Nat → Int32} {a b : Nat} (h : WfB f) (ha : a < 64) (hb : b < 64) : WfB (mApply f a b) := WfB_upd (WfB_bnd (WfB_mid h ha hb) ha hb) (by omega)
/-! ===== knight moves, and what rests on them ===== -/
def kN (x : BitVec 64) : BitVec 64 :=
  ((((x &&& 18374403900871474942#64) >>> 1) ||| ((x &&& 9187201950435737471#64) <<< 1)) <<< 16 ||| (((x &&& 18374403900871474942#64) >>> 1) ||| ((x &&& 9187201950435737471#64) <<< 1)) >>> 16) ||| (((x &&& 18229723555195321596#64) >>> 2) ||| ((x &&& 4557430888798830399#64) <<< 2)) <<< 8 ||| (((x &&& 18229723555195321596#64) >>> 2) ||| ((x &&& 4557430888798830399#64) <<< 2)) >>> 8
def hopL (b : Nat) : Nat → BitVec 64 → Nat → Nat
  | 0, _, h => h
  | n + 1, s, h => if s.getLsbD b then h else hopL b n (s ||| kN s) (h + 1)
theorem hopL_le (b : Nat) : ∀ n s h, hopL b n s h ≤ h + n
  | 0, s, h => Nat.le_refl _
  | n + 1, s, h => by
    unfold hopL
    split
    · omega
    · have := hopL_le b n (s ||| kN s) (h + 1); omega
def mHop (a b : Nat) : Nat := hopL b 6 (BitVec.twoPow 64 a) 0
theorem mHop_le (a b : Nat) : mHop a b ≤ 6 := by have := hopL_le b 6 (BitVec.twoPow 64 a) 0; unfold mHop; omega
def WfL (lf : Nat → Int32) : Prop := ∀ a b, a < 64 → b < 64 → lf (64 * a + b) = nI (mHop a b)
def mFarAt (f : Nat → Int32) (j : Nat) : Bool := if f (64 + j) = -1 then false else decide (3 < mHop j (f (64 + j)).toNatClampNeg)
def mFar (f : Nat → Int32) (sd : Nat) : Bool := mAnyL (fun j => mIsOf f j sd && mFarAt f j) 64 0
def mReason (f : Nat → Int32) (a b : Nat) : Nat :=
  if mIsOf f a (mSide f) then (if mCanMove f a b then (if mInCheck (mApply f a b) (mSide f) then 4 else if mFar (mApply f a b) (mSide f) then 5 else 0) else 3) else 2
def mAft (f g : Nat → Int32) (a b : Nat) : Nat → Int32 := if mIsOf f a (mSide f) then (if mCanMove f a b then mApply f a b else g) else g
def mOkMove (f : Nat → Int32) (k : Nat) : Bool := mIsOf f (k / 64) (mSide f) && decide (mReason f (k / 64) (k % 64) = 0)
def mMoves (f : Nat → Int32) : Nat := mCntL (mOkMove f) 4096 0 0
def mHas (f : Nat → Int32) : Bool := mAnyL (mOkMove f) 4096 0
theorem mMoves_le (f : Nat → Int32) : mMoves f ≤ 4096 := by have := mCntL_le (mOkMove f) 4096 0 0; unfold mMoves; omega
def mBondR (f : Nat → Int32) (a b : Nat) : Nat :=
  if a = b then 2 else if mIsOwn f a 5 (mSide f) then (if mIsOwn f b 5 (mSide f) then (if f (64 + a) = -1 then (if f (64 + b) = -1 then (if 3 < mHop a b then 5 else if mInCheck f (mSide f) then 4 else 0) else 6) else 6) else 2) else 2
def mDissR (f : Nat → Int32) (a : Nat) : Nat := if mIsOwn f a 5 (mSide f) then (if f (64 + a) = -1 then 7 else if mInCheck f (mSide f) then 4 else 0) else 2
def mBondAct (f : Nat → Int32) : Bool := mAnyL (fun a => decide (mDissR f a = 0) || mAnyL (fun b => decide (mBondR f a b = 0)) a 0) 64 0
def mSameL (rw f : Nat → Int32) (r : Nat) : Nat → Nat → Bool → Bool
  | 0, _, acc => acc
  | n + 1, i, acc => mSameL rw f r n (i + 1) (acc && decide (rw (146 * r + i) = f i))
def mSame (rw f : Nat → Int32) (r : Nat) : Bool := mSameL rw f r 129 0 true
def mOcc (rw f : Nat → Int32) (ac : Nat) : Nat := mCntL (fun r => mSame rw f r) (ac + 1) 0 0
def mOutc (rw f : Nat → Int32) (ac : Nat) : Nat :=
  if mInCheck f (mSide f) && !mHas f then 1
  else if !mInCheck f (mSide f) && (!mHas f && !mBondAct f) then 2
  else if mPieces f = 2 then 3
  else if 3 ≤ mOcc rw f ac then 4
  else if f 129 < nI 40 then 0 else 5
theorem mReason_le (f : Nat → Int32) (a b : Nat) : mReason f a b ≤ 5 := by unfold mReason; (repeat' split) <;> decide
theorem mBondR_le (f : Nat → Int32) (a b : Nat) : mBondR f a b ≤ 6 := by unfold mBondR; (repeat' split) <;> decide
theorem mDissR_le (f : Nat → Int32) (a : Nat) : mDissR f a ≤ 7 := by unfold mDissR; (repeat' split) <;> decide
theorem mPieces_le (f : Nat → Int32) : mPieces f ≤ 64 := by have := mCntL_le (fun j => !decide (f j = 0)) 64 0 0; unfold mPieces; omega
theorem mOcc_le (rw f : Nat → Int32) (ac : Nat) : mOcc rw f ac ≤ ac + 1 := by have := mCntL_le (fun r => mSame rw f r) (ac + 1) 0 0; unfold mOcc; omega
/-! ===== the reference's state in a world ===== -/
def gN (b : Bool) : Nat := if b then 0 else 1
theorem mIsSq_n {j : Nat} (h : j < 64) : mIsSq (nI j) = true := by
  have h1 : ¬ nI j < 0 := nI_pos (by omega)
  have h2 : ¬ nI 64 ≤ nI j := nI_ge h (by decide)
  unfold mIsSq
  rw [decide_eq_false h1, decide_eq_false h2]; rfl
theorem sq_cases (x : Int32) : mIsSq x = false ∨ ∃ j, j < 64 ∧ x = nI j := by
  rcases pk_ix x (n := 64) (by decide) with h | h | ⟨j, hj, e⟩
  · left; unfold mIsSq; rw [decide_eq_true h]; rfl
  · left; unfold mIsSq; rw [decide_eq_true h]; simp
  · exact Or.inr ⟨j, hj, e⟩
def Apart6 (a b c d e f : Nat) : Prop := (a ≠ b ∧ a ≠ c ∧ a ≠ d ∧ a ≠ e ∧ a ≠ f) ∧ (b ≠ c ∧ b ≠ d ∧ b ≠ e ∧ b ≠ f) ∧ (c ≠ d ∧ c ≠ e ∧ c ≠ f) ∧ (d ≠ e ∧ d ≠ f) ∧ e ≠ f
def MoAt (cI : ClassId) (M : MP) (mo ro no fi se t3 le od th ac oc : Nat) (su : Bool) (nr : Nat) (rw f g1 g2 g3 lf : Nat → Int32) : Prop :=
  M mo = some (.inr (3, [.int (nI th), .int (bI su), .ref ro, .int (nI ac), .int (nI oc), .ref no, .ref fi, .ref se, .ref t3, .ref le, .ref od])) ∧ M ro = some (eI cI nr rw) ∧ M no = some (eI cI 146 f) ∧ M fi = some (eI cI 146 g1) ∧ M se = some (eI cI 146 g2) ∧ M t3 = some (eI cI 146 g3) ∧ M le = some (eI cI 4096 lf) ∧ Apart6 ro no fi se t3 le
def OwM (mo ro no fi se t3 : Nat) (b : Nat) : Prop := b = mo ∨ b = ro ∨ b = no ∨ b = fi ∨ b = se ∨ b = t3
/-- what lies outside P stays -/
def Keep (M M' : MP) (P : Nat → Prop) : Prop := ∀ (b : Nat) (e : va_E), M b = some e → ¬ P b → M' b = some e
theorem Keep.rf {M : MP} {P : Nat → Prop} : Keep M M P := fun _ _ h _ => h
theorem Keep.up {M M' : MP} {P : Nat → Prop} (h : Keep M M' P) {a : Nat} {x : va_E} (ha : P a) : Keep M (mu M' a x) P := fun b e hb hn => (mu_n (fun z => hn (by rw [z]; exact ha))).trans (h b e hb hn)
theorem Keep.tr {M M1 M2 : MP} {P : Nat → Prop} (h : Keep M M1 P) (h2 : Keep M1 M2 P) : Keep M M2 P := fun b e hb hn => h2 b e (h b e hb hn) hn
theorem Keep.new {M M' : MP} {P : Nat → Prop} (h : Keep M M' P) {a : Nat} {x : va_E} (ha : M a = none) : Keep M (mu M' a x) P := fun b e hb hn => (mu_n (fun z => by rw [z, ha] at hb; cases hb)).trans (h b e hb hn)
def mSetL (p : Nat → Bool) : Nat → Nat → BitVec 64 → BitVec 64
  | 0, _, r => r
  | n + 1, i, r => mSetL p n (i + 1) (if p i then r ||| (1#64 <<< i) else r ||| 0#64)
def mAttSet (f : Nat → Int32) (sd : Nat) : BitVec 64 := mSetL (fun j => mIsAtt f j sd) 64 0 0#64
def mClrV (i : Nat) : Int32 := if i < 64 then nI 0 else if 128 ≤ i then nI 0 else -1
def mClr (f : Nat → Int32) (n : Nat) : Nat → Int32 := fun k => if k < n then mClrV k else f k
theorem mClr_0 (f : Nat → Int32) : mClr f 0 = f := by funext k; unfold mClr; rw [if_neg (by omega)]
theorem mClr_step (f : Nat → Int32) (i : Nat) : upd (mClr f i) i (mClrV i) = mClr f (i + 1) := by
  funext k; unfold upd mClr
  by_cases h : k = i
  · subst h; rw [if_pos rfl, if_pos (by omega)]
  · rw [if_neg h]
    by_cases h2 : k < i
    · rw [if_pos h2, if_pos (by omega)]
    · rw [if_neg h2, if_neg (by omega)]
/-- the rows of a game behind the keeping of one: the same array, or a new one of twice its length -/
def RoRel (M : MP) (A : Nat → Prop) (ro nr ac ro' nr' : Nat) (rw f rw' : Nat → Int32) : Prop :=
  146 * (ac + 1) ≤ nr' ∧ (∀ k, k < 146 * ac → rw' k = rw k) ∧ (∀ k, k < 146 → rw' (146 * ac + k) = f k) ∧ ((ro' = ro ∧ nr' = nr ∧ 146 * (ac + 1) ≤ nr) ∨ (M ro' = none ∧ A ro' ∧ nr' = 2 * nr ∧ nr < 146 * (ac + 1)))
def kpC (nr ac : Nat) : Nat := if 146 * (ac + 1) ≤ nr then 0 else 1
def kpS (nr ac : Nat) : Nat := if 146 * (ac + 1) ≤ nr then 0 else 2 * nr
