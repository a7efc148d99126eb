/-! ===== the reference's public methods: pure functions ===== -/
def mBeg (f : Nat → Int32) : Nat → Int32 := upd (mClr f 146) 128 (nI 8)
def mIsKd (y : Int32) : Bool := !decide (y < nI 1) && decide (y ≤ nI 6)
theorem kd_cases (x : Int32) : mIsKd x = false ∨ ∃ k, 1 ≤ k ∧ k ≤ 6 ∧ x = nI k := by
  rcases pk_ix x (n := 7) (by decide) with h | h | ⟨j, hj, e⟩
  · left
    have h1 : x < nI 1 := Int32.lt_iff_toInt_lt.mpr (by have := Int32.lt_iff_toInt_lt.mp h; have e0 : (0 : Int32).toInt = 0 := by decide
                                                        have e1 : (nI 1).toInt = 1 := by decide
                                                        omega)
    unfold mIsKd; rw [decide_eq_true h1]; rfl
  · left
    have h1 : ¬ x ≤ nI 6 := fun z => by
      have h2 := Int32.le_iff_toInt_le.mp z
      have h3 := Int32.le_iff_toInt_le.mp h
      have e6 : (nI 6).toInt = 6 := by decide
      have e7 : (nI 7).toInt = 7 := by decide
      omega
    unfold mIsKd; rw [decide_eq_false h1, Bool.and_false]
  · by_cases h0 : j = 0
    · left; subst h0; rw [e]; decide
    · exact Or.inr ⟨j, by omega, by omega, e⟩
def mSec (f : Nat → Int32) (k : Nat) (b : Bool) : Bool := decide (k = 1) && (mKing f (sdN b)).isSome
def mEdge (j k : Nat) : Bool := decide (k = 6) && (decide (j < 8) || decide (55 < j))
def mPlcOk (su : Bool) (f : Nat → Int32) (j k : Nat) (b : Bool) : Bool := su && (decide (f j = 0) && (!mSec f k b && !mEdge j k))
def mPlc (f : Nat → Int32) (j k : Nat) (b : Bool) : Nat → Int32 := upd f j (nI (sdN b + k))
def mPlcV (su : Bool) (f : Nat → Int32) (j k : Nat) (b : Bool) : Nat := if mPlcOk su f j k b then mPieces (mPlc f j k b) else 0
def mPlcT (su : Bool) (f : Nat → Int32) (j k : Nat) (b : Bool) : Nat := if mPlcOk su f j k b then 0 else 3
def mPlcN (su : Bool) (f : Nat → Int32) (j k : Nat) (b : Bool) : Nat → Int32 := if mPlcOk su f j k b then mPlc f j k b else f
def mRemOk (su : Bool) (f : Nat → Int32) (j : Nat) : Bool := su && !decide (f j = 0)
def mRemV (su : Bool) (f : Nat → Int32) (j : Nat) : Nat := if mRemOk su f j then mKindN f j else 0
def mRemT (su : Bool) (f : Nat → Int32) (j : Nat) : Nat := if mRemOk su f j then 0 else 2
def mRemN (su : Bool) (f : Nat → Int32) (j : Nat) : Nat → Int32 := if mRemOk su f j then upd f j (nI 0) else f
def mKings (f : Nat → Int32) : Bool := (mKing f 0).isSome && (mKing f 8).isSome
def mEsOk (su : Bool) (f : Nat → Int32) (b : Bool) : Bool := su && (mKings f && !mInCheck f (sdN (!b)))
def mEsN (f : Nat → Int32) (b : Bool) : Nat → Int32 := upd f 128 (nI (sdN b))
def mWhT (f : Nat → Int32) (j : Nat) : Nat := if f j = 0 then 2 else 0
def mFoldL (g : Nat → Nat → Nat) : Nat → Nat → Nat → Nat
  | 0, _, r => r
  | n + 1, i, r => mFoldL g n (i + 1) (g i r)
def mBonds (f : Nat → Int32) (sd : Nat) : Nat := mCntL (fun j => mIsOf f j sd && !decide (f (64 + j) ≤ nI j)) 64 0 0
def mMax (a b : Nat) : Nat := if a < b then b else a
theorem mMax_le {a b k : Nat} (ha : a ≤ k) (hb : b ≤ k) : mMax a b ≤ k := by unfold mMax; split <;> assumption
def mLng1 (f : Nat → Int32) (sd j r : Nat) : Nat := if mIsOf f j sd then (if f (64 + j) = -1 then r else mMax r (mHop j (f (64 + j)).toNatClampNeg)) else r
def mLong (f : Nat → Int32) (sd : Nat) : Nat := mFoldL (mLng1 f sd) 64 0 0
def mOfSet (f : Nat → Int32) (sd : Nat) : BitVec 64 := mSetL (fun j => mIsOf f j sd) 64 0 0#64
def mAtts (f : Nat → Int32) (q sd : Nat) : BitVec 64 := mSetL (fun j => mIsOf f j sd && mAtt f j q) 64 0 0#64
def mLegal (f : Nat → Int32) (j : Nat) : BitVec 64 := mSetL (fun t => decide (mReason f j t = 0)) 64 0 0#64
def mPl (su : Bool) (oc : Nat) : Bool := !su && decide (oc = 0)
theorem reason0 {f : Nat → Int32} {a b : Nat} (h : mReason f a b = 0) : mIsOf f a (mSide f) = true ∧ mCanMove f a b = true ∧ ∀ g, mAft f g a b = mApply f a b := by
  unfold mReason at h
  unfold mAft
  cases h1 : mIsOf f a (mSide f)
  · rw [h1] at h; simp at h
  · cases h2 : mCanMove f a b
    · rw [h1, h2] at h; simp at h
    · exact ⟨rfl, rfl, fun g => by simp⟩
def mMate (f : Nat → Int32) (k : Nat) : Bool := mOkMove f k && (mInCheck (mApply f (k / 64) (k % 64)) (mSide (mApply f (k / 64) (k % 64))) && !mHas (mApply f (k / 64) (k % 64)))
def mMating (f : Nat → Int32) : Option Nat := mFirst (mMate f) 4096 0
def mSeq1 (f : Nat → Int32) (k r : Nat) : Nat := if mOkMove f k then r + mMoves (mApply f (k / 64) (k % 64)) else r
def mSeqs (f : Nat → Int32) : Nat := mFoldL (mSeq1 f) 4096 0 0
def mIs12 (x : Int32) : Bool := decide (x = nI 1) || decide (x = nI 2)
def rowN (rw : Nat → Int32) (r : Nat) : Nat → Int32 := fun k => rw (146 * r + k)
theorem cpy_row {rw g : Nat → Int32} {r k : Nat} (h : k < 146) : va_cpy rw g (146 * r) 0 146 k = rowN rw r k := by
  unfold va_cpy rowN; rw [if_pos ⟨Nat.zero_le _, by omega⟩]; congr 1
theorem king_d {f : Nat → Int32} {sd : Nat} (h : mKing f sd = none) : (mKing f sd).isSome = false := by rw [h]; rfl
def mMovOk (su : Bool) (oc : Nat) (f : Nat → Int32) (a b : Nat) : Bool := mPl su oc && decide (mReason f a b = 0)
def mBndOk (su : Bool) (oc : Nat) (f : Nat → Int32) (a b : Nat) : Bool := mPl su oc && decide (mBondR f a b = 0)
def mDisOk (su : Bool) (oc : Nat) (f : Nat → Int32) (a : Nat) : Bool := mPl su oc && decide (mDissR f a = 0)
theorem WfR_tie {f : Nat → Int32} {a b : Nat} (h : WfR f) (ha : a < 64) (hb : b < 64) : WfR (mTie f a b) := ⟨WfP_tie h.1, WfB_tie h.2.1 ha hb, by
  have h2 := h.2.2
  unfold WfS mSide at *
  rw [tie_128 ha hb]; exact h2⟩
theorem WfR_untie {f : Nat → Int32} {a : Nat} (h : WfR f) (ha : a < 64) : WfR (mUntie f a) := ⟨WfP_untie h.1, WfB_untie h.2.1, by
  have h2 := h.2.2
  unfold WfS mSide at *
  rw [untie_hi h.2.1 ha (Nat.le_refl _)]; exact h2⟩
theorem WfR_es {f : Nat → Int32} (b : Bool) (hP : WfP f) (hB : WfB f) : WfR (mEsN f b) := ⟨WfP_upd hP (by omega), WfB_upd hB (by omega), by
  unfold WfS mSide mEsN
  rw [upd_s]
  cases b <;> decide⟩
theorem mSame_cg {rw rw2 f : Nat → Int32} {r : Nat} (h : ∀ k, k < 129 → rw (146 * r + k) = rw2 (146 * r + k)) : mSame rw f r = mSame rw2 f r := by
  have key : ∀ n i acc, i + n = 129 → mSameL rw f r n i acc = mSameL rw2 f r n i acc := by
    intro n
    induction n with
    | zero => intro i acc _; rfl
    | succ n ih => intro i acc hi; unfold mSameL; rw [h i (by omega), ih _ _ (by omega)]
  exact key 129 0 true rfl
theorem mCntL_cg {p q : Nat → Bool} : ∀ n i r, (∀ k, i ≤ k → k < i + n → p k = q k) → mCntL p n i r = mCntL q n i r
  | 0, _, _, _ => rfl
  | n + 1, i, r, h => by unfold mCntL; rw [h i (Nat.le_refl _) (by omega)]; exact mCntL_cg n _ _ (fun k h1 h2 => h k (by omega) (by omega))
theorem mOcc_cg {rw rw2 f : Nat → Int32} {ac : Nat} (h : ∀ k, k < 146 * (ac + 1) → rw k = rw2 k) : mOcc rw f ac = mOcc rw2 f ac :=
  mCntL_cg _ _ _ (fun r _ h2 => mSame_cg (fun k hk => h _ (by omega)))
theorem mOutc_cg {rw rw2 f : Nat → Int32} {ac : Nat} (h : ∀ k, k < 146 * (ac + 1) → rw k = rw2 k) : mOutc rw f ac = mOutc rw2 f ac := by
  unfold mOutc; rw [mOcc_cg h]
section MAXROW
variable {p : Program} {l : Launch} {e : Env} {R : Room} {s : State} {m : MethodId} {args : Array Value} {below : List Frame} {meth : Method} {c : Code} {H : Heap} {locs : List Loc} {cells slots : Nat} {Q : State → Prop}
variable {cc : ByteArray} {pc : Nat} {ls : Array Slot} {rest : List Value}
theorem w_max {own : String} {idx nL : Nat} (hx : p.tables.exec = Jvm.exec) (hb : c.code = cc) (hml : c.maxLocals = nL) (hsz : ls.size = nL) (hown : s.vm.findClass own = some m.cls) (hts : ∀ w ∈ AW, w.before args s = true) (hlink : Cond.methodLink own idx yJ9_max_7cf53 ∈ AW) (a b : Nat) (ha : a < 2 ^ 31) (hb2 : b < 2 ^ 31) (hfr : 1 ≤ R.frames) (hlo : (rest.map fun v => v.category).sum + 13 ≤ R.locals) (hc : cells ≤ R.cells) (hs : slots ≤ R.slots) (hdg : decode cc pc = .ok (.invokestatic idx, 3))
    (kk : W p l e R s m args below meth c H locs cells slots Q (F0 m (pc + 3) ls (.int (nI (mMax a b)) :: rest))) : W p l e R s m args below meth c H locs cells slots Q (F0 m pc ls (.int (nI b) :: .int (nI a) :: rest)) := by
  have h1 : (if nI a < nI b then nI b else nI a) = nI (mMax a b) := by
    unfold mMax
    have h2 : nI a < nI b ↔ a < b := by rw [Int32.lt_iff_toInt_lt, nI_toInt ha, nI_toInt hb2]; omega
    by_cases h : a < b
    · rw [if_pos (h2.mpr h), if_pos h]
    · rw [if_neg (fun z => h (h2.mp z)), if_neg h]
  exact va_mmax hx hb (hml.trans hsz.symm) hown (hts _ hlink) (hts _ qw_1_192) (hts _ qw_1_17) (hts _ qw_1_193) hfr hlo hc hs hdg (by rw [h1]; exact kk)
end MAXROW
theorem out_0 {rw f : Nat → Int32} (h : ∀ k, k < 146 → rw (146 * 0 + k) = f k) : mOutc rw f 0 = mOutc f f 0 := mOutc_cg (fun k hk => by
  have h2 := h k (by omega)
  rw [show 146 * 0 + k = k by omega] at h2
  exact h2)
