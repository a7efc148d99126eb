/-! ===== the class's own functions: a position, which is sets by kind and side, partners, and who acts ===== -/
def kSide (w bk : BitVec 64) (b : Bool) : BitVec 64 := if b then w else bk
def kAtt (K : Nat → BitVec 64) (w bk t : BitVec 64) (b : Bool) (tk : BitVec 64) : BitVec 64 :=
  (((((kKi t &&& K 1) ||| (kN t &&& K 5)) ||| (kPa t (!b) &&& K 6)) ||| (kRk t tk &&& (K 2 ||| K 3))) ||| (kBi t tk &&& (K 2 ||| K 4))) &&& kSide w bk b
def kFoldS (g : Nat → BitVec 64 → BitVec 64) : Nat → Nat → BitVec 64 → BitVec 64
  | 0, _, r => r
  | n + 1, i, r => kFoldS g n (i + 1) (g i r)
def kAtd1 (K : Nat → BitVec 64) (w bk : BitVec 64) (b : Bool) (k : Nat) (r : BitVec 64) : BitVec 64 := r ||| kOf k b (K k &&& kSide w bk b) (w ||| bk)
def kAtd (K : Nat → BitVec 64) (w bk : BitVec 64) (b : Bool) : BitVec 64 := kFoldS (kAtd1 K w bk b) 6 1 0#64
def kChk (K : Nat → BitVec 64) (w bk : BitVec 64) (b : Bool) : Bool := !decide (kAtt K w bk (K 1 &&& kSide w bk b) (!b) (w ||| bk) = 0#64)
def kKind (K : Nat → BitVec 64) (j : Nat) : Nat := (mFirst (fun k => (K k).getLsbD j) 6 1).getD 0
theorem kKind_lt (K : Nat → BitVec 64) (j : Nat) : kKind K j < 7 := by
  unfold kKind
  cases h : mFirst (fun k => (K k).getLsbD j) 6 1 with
  | none => decide
  | some k => have := mFirst_some h; show k < 7; omega
def kAhd (wa : Bool) (j : Nat) : BitVec 64 := if wa then kB j <<< 8 else kB j >>> 8
def kTgt (K : Nat → BitVec 64) (w bk : BitVec 64) (wa : Bool) (j : Nat) : BitVec 64 :=
  if kKind K j = 6 then (kOf (kKind K j) wa (kB j) (w ||| bk) &&& kSide w bk (!wa)) ||| (kAhd wa j &&& kNot (w ||| bk))
  else kOf (kKind K j) wa (kB j) (w ||| bk) &&& kNot (kSide w bk wa)
def kRng (pp : Nat → Int32) (j : Nat) : BitVec 64 := if pp j = -1 then 18446744073709551615#64 else hopIt 3 (kB (pp j).toNatClampNeg)
def kKg (K : Nat → BitVec 64) (w bk : BitVec 64) (wa : Bool) (a b : Nat) : BitVec 64 := if (K 1 &&& kSide w bk wa).getLsbD a then kB b else K 1 &&& kSide w bk wa
def kSafe (K : Nat → BitVec 64) (w bk : BitVec 64) (wa : Bool) (a b : Nat) : Bool :=
  decide (kAtt K w bk (kKg K w bk wa a b) (!wa) (((w ||| bk) &&& kNot (kB a)) ||| kB b) &&& kNot (kB b) = 0#64)
def kDel (K : Nat → BitVec 64) (w bk : BitVec 64) (wa : Bool) : BitVec 64 :=
  if kChk K w bk wa then kSide w bk wa else ((K 1 &&& kSide w bk wa) ||| (kRk (K 1 &&& kSide w bk wa) (w ||| bk) ||| kBi (K 1 &&& kSide w bk wa) (w ||| bk))) &&& kSide w bk wa
def kTR (K : Nat → BitVec 64) (pp : Nat → Int32) (w bk : BitVec 64) (wa : Bool) (j : Nat) : BitVec 64 := kTgt K w bk wa j &&& kRng pp j
def kLaw1 (K : Nat → BitVec 64) (pp : Nat → Int32) (w bk : BitVec 64) (wa : Bool) (j t : Nat) (r : BitVec 64) : BitVec 64 := if (kTR K pp w bk wa j).getLsbD t then (if kSafe K w bk wa j t then r ||| kB t else r) else r
def kLaw (K : Nat → BitVec 64) (pp : Nat → Int32) (w bk : BitVec 64) (wa : Bool) (j : Nat) (dl : BitVec 64) : BitVec 64 :=
  if dl.getLsbD j then kFoldS (kLaw1 K pp w bk wa j) 64 0 0#64 else kTR K pp w bk wa j
def kCnt1 (K : Nat → BitVec 64) (pp : Nat → Int32) (w bk : BitVec 64) (wa : Bool) (j r : Nat) : Nat := if (kSide w bk wa).getLsbD j then r + pcnt (kLaw K pp w bk wa j (kDel K w bk wa)) else r
def kCnt (K : Nat → BitVec 64) (pp : Nat → Int32) (w bk : BitVec 64) (wa : Bool) : Nat := mFoldL (kCnt1 K pp w bk wa) 64 0 0
def kHas (K : Nat → BitVec 64) (pp : Nat → Int32) (w bk : BitVec 64) (wa : Bool) : Bool := mAnyL (fun j => (kSide w bk wa).getLsbD j && !decide (kLaw K pp w bk wa j (kDel K w bk wa) = 0#64)) 64 0
def kBd1 (pp : Nat → Int32) (j : Nat) (r : BitVec 64) : BitVec 64 := if pp j = -1 then r else r ||| kB j
def kBnd (pp : Nat → Int32) (w bk : BitVec 64) (b : Bool) : BitVec 64 := kFoldS (kBd1 pp) 64 0 0#64 &&& kSide w bk b
def kBAct (K : Nat → BitVec 64) (pp : Nat → Int32) (w bk : BitVec 64) (wa : Bool) : Bool :=
  if kBnd pp w bk wa = 0#64 then mAnyL (fun j => (K 5 &&& kSide w bk wa).getLsbD j && !decide (hopIt 3 (kB j) &&& ((K 5 &&& kSide w bk wa) &&& kNot (kB j)) = 0#64)) 64 0 else true
def kMated (K : Nat → BitVec 64) (pp : Nat → Int32) (w bk : BitVec 64) (wa : Bool) : Bool := kChk K w bk wa && !kHas K pp w bk wa
def kRoom (K : Nat → BitVec 64) (w bk : BitVec 64) (j k : Nat) (b : Bool) : Bool :=
  if (w ||| bk).getLsbD j then false else if k = 1 then decide (K 1 &&& kSide w bk b = 0#64) else !decide (k = 6) || (!decide (j / 8 = 0) && !decide (j / 8 = 7))
def kBeg (K : Nat → BitVec 64) (w bk : BitVec 64) (b : Bool) : Bool := !decide (K 1 &&& kSide w bk true = 0#64) && (!decide (K 1 &&& kSide w bk false = 0#64) && !kChk K w bk (!b))
def mAllL (p : Nat → Bool) : Nat → Nat → Bool
  | 0, _ => true
  | n + 1, i => if p i then mAllL p n (i + 1) else false
def kEq (K K2 : Nat → BitVec 64) (pp pp2 : Nat → Int32) (w bk w2 bk2 : BitVec 64) (wa wa2 : Bool) : Bool :=
  decide (w = w2) && (decide (bk = bk2) && (decide (wa = wa2) && (mAllL (fun k => decide (K k = K2 k)) 6 1 && mAllL (fun j => decide (pp j = pp2 j)) 64 0)))
/-! ===== what changes a position ===== -/
def WfPt (pp : Nat → Int32) : Prop := ∀ j, j < 64 → pp j = -1 ∨ ∃ o, o < 64 ∧ pp j = nI o
def kPut (K : Nat → BitVec 64) (k j : Nat) : Nat → BitVec 64 := va_up K k (K k ||| kB j)
def kPtW (w : BitVec 64) (j : Nat) (b : Bool) : BitVec 64 := if b then w ||| kB j else w
def kLiftN (K : Nat → BitVec 64) (j i : Nat) : Nat → BitVec 64 := fun k => if 1 ≤ k ∧ k < i then K k &&& kNot (kB j) else K k
def kLift (K : Nat → BitVec 64) (j : Nat) : Nat → BitVec 64 := kLiftN K j 7
theorem kLiftN_1 (K : Nat → BitVec 64) (j : Nat) : kLiftN K j 1 = K := by
  funext k; unfold kLiftN; rw [if_neg (by omega)]
theorem kLiftN_s (K : Nat → BitVec 64) (j i : Nat) (hi : 1 ≤ i) : va_up (kLiftN K j i) i (kLiftN K j i i &&& kNot (kB j)) = kLiftN K j (i + 1) := by
  funext k
  unfold va_up kLiftN
  by_cases h : k = i
  · subst h; rw [if_pos rfl, if_neg (by omega), if_pos ⟨hi, by omega⟩]
  · rw [if_neg h]
    by_cases h2 : 1 ≤ k ∧ k < i
    · rw [if_pos h2, if_pos ⟨h2.1, by omega⟩]
    · rw [if_neg h2, if_neg (by omega)]
def kJoin (pp : Nat → Int32) (a b : Nat) : Nat → Int32 := upd (upd pp a (nI b)) b (nI a)
def kPart (pp : Nat → Int32) (j : Nat) : Nat → Int32 := if pp j = -1 then pp else upd (upd pp j (-1)) (pp j).toNatClampNeg (-1)
theorem WfPt_upd {pp : Nat → Int32} {k : Nat} {x : Int32} (h : WfPt pp) (hx : x = -1 ∨ ∃ o, o < 64 ∧ x = nI o) : WfPt (upd pp k x) := fun j hj => by
  by_cases hk : j = k
  · subst hk; rw [upd_s]; exact hx
  · rw [upd_n hk]; exact h j hj
theorem WfPt_part {pp : Nat → Int32} {j : Nat} (h : WfPt pp) : WfPt (kPart pp j) := by
  unfold kPart; split
  · exact h
  · exact WfPt_upd (WfPt_upd h (Or.inl rfl)) (Or.inl rfl)
theorem WfPt_join {pp : Nat → Int32} {a b : Nat} (h : WfPt pp) (ha : a < 64) (hb : b < 64) : WfPt (kJoin pp a b) := WfPt_upd (WfPt_upd h (Or.inr ⟨b, hb, rfl⟩)) (Or.inr ⟨a, ha, rfl⟩)
def kPro (K : Nat → BitVec 64) (a b : Nat) : Bool := decide (kKind K a = 6) && (decide (b / 8 = 0) || decide (b / 8 = 7))
def kNk (K : Nat → BitVec 64) (a b : Nat) : Nat := if kPro K a b then 2 else kKind K a
def kShK (K : Nat → BitVec 64) (a b : Nat) : Nat → BitVec 64 := kPut (kLift (kLift K b) a) (kNk K a b) b
def kShW (w : BitVec 64) (a b : Nat) (c : Bool) : BitVec 64 := kPtW ((w &&& kNot (kB b)) &&& kNot (kB a)) b c
def kOth (pp : Nat → Int32) (a b : Nat) : Int32 := kPart pp b a
def kShP (pp : Nat → Int32) (a b : Nat) : Nat → Int32 := if kOth pp a b = -1 then kPart (kPart pp b) a else kJoin (kPart (kPart pp b) a) b (kOth pp a b).toNatClampNeg
def fillN (f : Nat → Int32) (v : Int32) (i : Nat) : Nat → Int32 := fun k => if k < i then v else f k
def fillS (K : Nat → BitVec 64) (v : BitVec 64) (i : Nat) : Nat → BitVec 64 := fun k => if k < i then v else K k
theorem fillN_0 (f : Nat → Int32) (v : Int32) : fillN f v 0 = f := by funext k; unfold fillN; rw [if_neg (by omega)]
theorem fillS_0 (f : Nat → BitVec 64) (v : BitVec 64) : fillS f v 0 = f := by funext k; unfold fillS; rw [if_neg (by omega)]
theorem fillN_s (f : Nat → Int32) (v : Int32) (i : Nat) : upd (fillN f v i) i v = fillN f v (i + 1) := by
  funext k; unfold upd fillN
  by_cases h : k = i
  · subst h; rw [if_pos rfl, if_pos (by omega)]
  · rw [if_neg h]
    by_cases h2 : k < i
    · rw [if_pos h2, if_pos (by omega)]
    · rw [if_neg h2, if_neg (by omega)]
theorem fillS_s (f : Nat → BitVec 64) (v : BitVec 64) (i : Nat) : va_up (fillS f v i) i v = fillS f v (i + 1) := by
  funext k; unfold va_up fillS
  by_cases h : k = i
  · subst h; rw [if_pos rfl, if_pos (by omega)]
  · rw [if_neg h]
    by_cases h2 : k < i
    · rw [if_pos h2, if_pos (by omega)]
    · rw [if_neg h2, if_neg (by omega)]
