/-! ===== the class's public methods, on the present page ===== -/
def kPl (su : Bool) (ve : Nat) : Bool := !su && decide (ve = 0)
def kLng1 (bd : BitVec 64) (pp : Nat → Int32) (j r : Nat) : Nat := if bd.getLsbD j then mMax r (mHop j (pp j).toNatClampNeg) else r
def kLong (pp : Nat → Int32) (w bk : BitVec 64) (b : Bool) : Nat := mFoldL (kLng1 (kBnd pp w bk b) pp) 64 0 0
def kLegal (K : Nat → BitVec 64) (pp : Nat → Int32) (w bk : BitVec 64) (wa : Bool) (j : Nat) : BitVec 64 := if (kSide w bk wa).getLsbD j then kLaw K pp w bk wa j (kDel K w bk wa) else 0#64
def kMovR (K : Nat → BitVec 64) (pp : Nat → Int32) (w bk : BitVec 64) (wa : Bool) (a b : Nat) : Nat :=
  if (kSide w bk wa).getLsbD a then (if (kTgt K w bk wa a).getLsbD b then (if kSafe K w bk wa a b then (if (kRng pp a).getLsbD b then 0 else 5) else 4) else 3) else 2
def kBndR (K : Nat → BitVec 64) (pp : Nat → Int32) (w bk : BitVec 64) (wa : Bool) (a b : Nat) : Nat :=
  if a = b then 2 else if (K 5 &&& kSide w bk wa).getLsbD a then (if (K 5 &&& kSide w bk wa).getLsbD b then (if pp a = -1 then (if pp b = -1 then (if 3 < mHop a b then 5 else if kChk K w bk wa then 4 else 0) else 6) else 6) else 2) else 2
def kDisR (K : Nat → BitVec 64) (pp : Nat → Int32) (w bk : BitVec 64) (wa : Bool) (a : Nat) : Nat :=
  if (K 5 &&& kSide w bk wa).getLsbD a then (if pp a = -1 then 7 else if kChk K w bk wa then 4 else 0) else 2
theorem kMovR_le (K : Nat → BitVec 64) (pp : Nat → Int32) (w bk : BitVec 64) (wa : Bool) (a b : Nat) : kMovR K pp w bk wa a b ≤ 5 := by unfold kMovR; (repeat' split) <;> decide
theorem kBndR_le (K : Nat → BitVec 64) (pp : Nat → Int32) (w bk : BitVec 64) (wa : Bool) (a b : Nat) : kBndR K pp w bk wa a b ≤ 6 := by unfold kBndR; (repeat' split) <;> decide
theorem kDisR_le (K : Nat → BitVec 64) (pp : Nat → Int32) (w bk : BitVec 64) (wa : Bool) (a : Nat) : kDisR K pp w bk wa a ≤ 7 := by unfold kDisR; (repeat' split) <;> decide
/-- the partner of a bonded knight is a square -/
theorem kBnd_in {pp : Nat → Int32} {w bk : BitVec 64} {b : Bool} (j : Nat) (h : (kBnd pp w bk b).getLsbD j = true) : pp j ≠ -1 := by
  intro he
  unfold kBnd at h
  rw [BitVec.getLsbD_and, Bool.and_eq_true] at h
  have key : ∀ n i r, r.getLsbD j = false → (kFoldS (kBd1 pp) n i r).getLsbD j = false := by
    intro n
    induction n with
    | zero => intro i r hr; exact hr
    | succ n ih =>
      intro i r hr
      show (kFoldS (kBd1 pp) n (i + 1) (kBd1 pp i r)).getLsbD j = false
      refine ih _ _ ?_
      unfold kBd1
      split
      · exact hr
      · rename_i hi
        rw [BitVec.getLsbD_or, hr, Bool.false_or]
        show (BitVec.twoPow 64 i).getLsbD j = false
        rw [BitVec.getLsbD_twoPow]
        by_cases hij : i = j
        · subst hij; exact absurd he hi
        · simp [hij]
  rw [key 64 0 0#64 (by simp)] at h
  cases h.1
