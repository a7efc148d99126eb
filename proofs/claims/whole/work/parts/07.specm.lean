/-! ===== the reference's own functions, over the numbers of a row ===== -/
def sdN (b : Bool) : Nat := if b then 8 else 0
theorem sdN_le (b : Bool) : sdN b ≤ 8 := by cases b <;> decide
def mIsSq (x : Int32) : Bool := !decide (x < 0) && !decide (nI 64 ≤ x)
def mAway (a b : Nat) : Nat := if b < a then a - b else b - a
def mLeap (a b : Nat) : Bool := decide (mAway (a % 8) (b % 8) * mAway (a / 8) (b / 8) = 2)
def mKindN (f : Nat → Int32) (j : Nat) : Nat := (f j).toBitVec.toNat % 8
theorem mKindN_lt (f : Nat → Int32) (j : Nat) : mKindN f j < 8 := Nat.mod_lt _ (by decide)
theorem mKind_eq (f : Nat → Int32) (j : Nat) : f j &&& nI 7 = nI (mKindN f j) := pk_and (f j) 3 (by decide)
def mIsOf (f : Nat → Int32) (j sd : Nat) : Bool := !decide (f j = 0) && decide (f j &&& nI 8 = nI sd)
def mIsOwn (f : Nat → Int32) (j k sd : Nat) : Bool := decide (f j = nI (sd + k))
/-- the side of a number: 8 or 0 -/
def sdX (x : Int32) : Nat := if x.toBitVec.getLsbD 3 then 8 else 0
theorem sdX_le (x : Int32) : sdX x ≤ 8 := by unfold sdX; split <;> decide
theorem and8 (x : Int32) : x &&& nI 8 = nI (sdX x) := by
  apply Int32.toBitVec_inj.1
  apply BitVec.eq_of_getLsbD_eq
  intro i hi
  show (x.toBitVec &&& 8#32).getLsbD i = _
  rw [BitVec.getLsbD_and]
  have h8 : ∀ i, i < 32 → (8#32).getLsbD i = decide (i = 3) := by decide
  rw [h8 i hi]
  unfold sdX
  by_cases h3 : i = 3
  · subst h3
    cases hb : x.toBitVec.getLsbD 3
    · simp; rfl
    · simp; rfl
  · have hd : decide (i = 3) = false := by simp [h3]
    rw [hd, Bool.and_false]
    split
    · show false = (8#32).getLsbD i
      rw [h8 i hi, hd]
    · show false = (0#32).getLsbD i
      simp
/-- the first place from i on, within n places, that is hit -/
def mFirst (p : Nat → Bool) : Nat → Nat → Option Nat
  | 0, _ => none
  | n + 1, i => if p i then some i else mFirst p n (i + 1)
theorem mFirst_some {p : Nat → Bool} : ∀ {n i j : Nat}, mFirst p n i = some j → i ≤ j ∧ j < i + n ∧ p j = true
  | 0, i, j, h => by cases h
  | n + 1, i, j, h => by
    unfold mFirst at h
    cases hp : p i
    · rw [hp, if_neg (by decide)] at h
      have := mFirst_some h
      exact ⟨by omega, by omega, this.2.2⟩
    · rw [hp, if_pos rfl] at h
      cases h
      exact ⟨Nat.le_refl _, by omega, hp⟩
def mAnyL (p : Nat → Bool) : Nat → Nat → Bool
  | 0, _ => false
  | n + 1, i => if p i then true else mAnyL p n (i + 1)
def oI (o : Option Nat) : Int32 := match o with
  | some j => nI j
  | none => -1
theorem oI_n : oI none = -1 := rfl
theorem oI_s (j : Nat) : oI (some j) = nI j := rfl
def mKing (f : Nat → Int32) (sd : Nat) : Option Nat := mFirst (fun j => mIsOwn f j 1 sd) 64 0
theorem mKing_lt {f : Nat → Int32} {sd j : Nat} (h : mKing f sd = some j) : j < 64 := by have := mFirst_some h; omega
theorem mAway_le {a b k : Nat} (ha : a ≤ k) (hb : b ≤ k) : mAway a b ≤ k := by
  unfold mAway
  split <;> omega
theorem mLeap_in (a b : Nat) (ha : a < 64) (hb : b < 64) : mAway (a % 8) (b % 8) * mAway (a / 8) (b / 8) ≤ 49 :=
  Nat.mul_le_mul (mAway_le (k := 7) (by omega) (by omega)) (mAway_le (k := 7) (by omega) (by omega))
/-! ===== lines ===== -/
def cmpI (a b : Nat) : Int32 := if a < b then -1 else if a = b then nI 0 else nI 1
def cmpZ (a b : Nat) : Int := if a < b then -1 else if a = b then 0 else 1
def mStep (a b : Nat) : Int32 := cmpI (b % 8) (a % 8) + nI 8 * cmpI (b / 8) (a / 8)
def mStepZ (a b : Nat) : Int := cmpZ (b % 8) (a % 8) + 8 * cmpZ (b / 8) (a / 8)
def mStr (a b : Nat) : Bool := decide (mAway (a % 8) (b % 8) = 0) != decide (mAway (a / 8) (b / 8) = 0)
def mDia (a b : Nat) : Bool := decide (mAway (a % 8) (b % 8) = mAway (a / 8) (b / 8)) && decide (0 < mAway (a % 8) (b % 8))
theorem mStr_t {a b : Nat} (h : ¬ decide (mAway (a % 8) (b % 8) = 0) = decide (mAway (a / 8) (b / 8) = 0)) : mStr a b = true := by unfold mStr; exact bne_iff_ne.mpr h
theorem mStr_f {a b : Nat} (h : decide (mAway (a % 8) (b % 8) = 0) = decide (mAway (a / 8) (b / 8) = 0)) : mStr a b = false := by unfold mStr; rw [h]; exact bne_self_eq_false _
def mAl (a b : Nat) : Bool := mStr a b || mDia a b
def mDist (a b : Nat) : Nat := if mAway (a % 8) (b % 8) < mAway (a / 8) (b / 8) then mAway (a / 8) (b / 8) else mAway (a % 8) (b % 8)
/-- the k-th square on the way from a to b -/
def mPth (a b k : Nat) : Nat := ((a : Int) + k * mStepZ a b).toNat
def pthOk (a b : Nat) : Bool := !mAl a b || (decide (mPth a b (mDist a b) = b) && (decide (0 < mDist a b) && (decide (mDist a b ≤ 7) && (decide (mPth a b 0 = a) && (List.range (mDist a b)).all (fun k => decide (mPth a b k < 64) && (decide (¬ mPth a b k = b) && decide (nI (mPth a b k) + mStep a b = nI (mPth a b (k + 1)))))))))
theorem pth_all : (List.range 64).all (fun a => (List.range 64).all (fun b => pthOk a b)) = true := by decide +kernel
theorem pth_tab (a : Nat) (ha : a < 64) (b : Nat) (hb : b < 64) (h : mAl a b = true) : mPth a b (mDist a b) = b ∧ 0 < mDist a b ∧ mDist a b ≤ 7 ∧ mPth a b 0 = a ∧ ∀ k, k < mDist a b → mPth a b k < 64 ∧ ¬ mPth a b k = b ∧ nI (mPth a b k) + mStep a b = nI (mPth a b (k + 1)) := by
  have h1 := List.all_eq_true.mp (List.all_eq_true.mp pth_all a (List.mem_range.mpr ha)) b (List.mem_range.mpr hb)
  unfold pthOk at h1
  rw [h] at h1
  simp only [Bool.not_true, Bool.false_or, Bool.and_eq_true, decide_eq_true_eq, List.all_eq_true, List.mem_range] at h1
  exact h1
def mClearL (f : Nat → Int32) (a b : Nat) : Nat → Nat → Bool
  | 0, _ => true
  | n + 1, k => if f (mPth a b k) = 0 then mClearL f a b n (k + 1) else false
def mClear (f : Nat → Int32) (a b : Nat) : Bool := mClearL f a b (mDist a b - 1) 1
def mAhead (f : Nat → Int32) (j : Nat) : Int32 := nI (j / 8) + (if f j &&& nI 8 = nI 8 then nI 1 else -1)
def mAtt (f : Nat → Int32) (a b : Nat) : Bool :=
  if mKindN f a = 1 then decide (mAway (a % 8) (b % 8) ≤ 1) && (decide (mAway (a / 8) (b / 8) ≤ 1) && decide (0 < mAway (a % 8) (b % 8) + mAway (a / 8) (b / 8)))
  else if mKindN f a = 2 then (mStr a b || mDia a b) && mClear f a b
  else if mKindN f a = 3 then mStr a b && mClear f a b
  else if mKindN f a = 4 then mDia a b && mClear f a b
  else if mKindN f a = 5 then decide (mAway (a % 8) (b % 8) * mAway (a / 8) (b / 8) = 2)
  else if mKindN f a = 6 then decide (mAway (a % 8) (b % 8) = 1) && decide (nI (b / 8) = mAhead f a)
  else false
def mIsAtt (f : Nat → Int32) (sq by_ : Nat) : Bool := mAnyL (fun j => mIsOf f j by_ && mAtt f j sq) 64 0
def mInCheck (f : Nat → Int32) (sd : Nat) : Bool := match mKing f sd with
  | none => false
  | some k => mIsAtt f k (8 - sd)
def mFwd (f : Nat → Int32) (a b : Nat) : Bool := decide (a % 8 = b % 8) && decide (nI (b / 8) = mAhead f a)
def mCanMove (f : Nat → Int32) (a b : Nat) : Bool :=
  if mIsOf f b (sdX (f a)) then false
  else if mKindN f a = 6 then (if f b = 0 then mFwd f a b else mAtt f a b)
  else mAtt f a b
def mCntL (p : Nat → Bool) : Nat → Nat → Nat → Nat
  | 0, _, r => r
  | n + 1, i, r => mCntL p n (i + 1) (if p i then r + 1 else r)
theorem mCntL_le (p : Nat → Bool) : ∀ n i r, mCntL p n i r ≤ r + n
  | 0, i, r => Nat.le_refl _
  | n + 1, i, r => by
    unfold mCntL
    have := mCntL_le p n (i + 1) (if p i then r + 1 else r)
    split at this <;> split <;> simp_all <;> omega
def mPieces (f : Nat → Int32) : Nat := mCntL (fun j => !decide (f j = 0)) 64 0 0
