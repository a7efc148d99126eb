/-! ===== the reference's own functions, over the numbers of a row ===== -/
def sdN (b : Bool) : Nat := if b then 8 else 0
theorem sdN_le (b : Bool) : sdN b ≤ 8 := by cases b <;> decide
def mIsSq (x : Int32) : Bool := !decide (x < 0) && !decide (nI 64 ≤ x)
def mAway (a b : Nat) : Nat := if b < a then a - b else b - a
def mLeap (a b : Nat) : Bool := decide (mAway (a % 8) (b % 8) * mAway (a / 8) (b / 8) = 2)
def mKind (f : Nat → Int32) (j : Nat) : Int32 := f j &&& nI 7
def mIsOf (f : Nat → Int32) (j sd : Nat) : Bool := !decide (f j = 0) && decide (f j &&& nI 8 = nI sd)
def mIsOwn (f : Nat → Int32) (j k sd : Nat) : Bool := decide (f j = nI (sd + k))
/-- the first place from i on, within n places, that is hit -/
def mFirst (p : Nat → Bool) : Nat → Nat → Option Nat
  | 0, _ => none
  | n + 1, i => if p i then some i else mFirst p n (i + 1)
def oI (o : Option Nat) : Int32 := match o with
  | some j => nI j
  | none => -1
theorem oI_n : oI none = -1 := rfl
theorem oI_s (j : Nat) : oI (some j) = nI j := rfl
def mKing (f : Nat → Int32) (sd : Nat) : Option Nat := mFirst (fun j => mIsOwn f j 1 sd) 64 0
theorem mAway_le {a b k : Nat} (ha : a ≤ k) (hb : b ≤ k) : mAway a b ≤ k := by
  unfold mAway
  split <;> omega
theorem mLeap_in (a b : Nat) (ha : a < 64) (hb : b < 64) : mAway (a % 8) (b % 8) * mAway (a / 8) (b / 8) ≤ 49 :=
  Nat.mul_le_mul (mAway_le (k := 7) (by omega) (by omega)) (mAway_le (k := 7) (by omega) (by omega))
