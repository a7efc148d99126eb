section KPAIRS
variable {K : Nat → BitVec 64} {pp : Nat → Int32} {w bk : BitVec 64} {wa : Bool} {i t r : Nat}
theorem kPrF_t (ht : t < 64) (h : (kTg1 K pp w bk wa i).getLsbD t = true) : kPrF K pp w bk wa (64 * i + t) r = r + kCnt (kShK K i t) (kShP pp i t) (kShW w i t (w.getLsbD i)) (kShW bk i t (!w.getLsbD i)) (!wa) := by
  unfold kPrF
  rw [show (64 * i + t) / 64 = i by omega, show (64 * i + t) % 64 = t by omega, h, if_pos rfl]
theorem kPrF_f (ht : t < 64) (h : (kTg1 K pp w bk wa i).getLsbD t = false) : kPrF K pp w bk wa (64 * i + t) r = r := by
  unfold kPrF
  rw [show (64 * i + t) / 64 = i by omega, show (64 * i + t) % 64 = t by omega, h, if_neg (by decide)]
theorem kMaF_t (ht : t < 64) (h : (kTg1 K pp w bk wa i).getLsbD t = true) : kMaF K pp w bk wa (64 * i + t) = kMated (kShK K i t) (kShP pp i t) (kShW w i t (w.getLsbD i)) (kShW bk i t (!w.getLsbD i)) (!wa) := by
  unfold kMaF
  rw [show (64 * i + t) / 64 = i by omega, show (64 * i + t) % 64 = t by omega, h, Bool.true_and]
theorem kMaF_f (ht : t < 64) (h : (kTg1 K pp w bk wa i).getLsbD t = false) : kMaF K pp w bk wa (64 * i + t) = false := by
  unfold kMaF
  rw [show (64 * i + t) / 64 = i by omega, show (64 * i + t) % 64 = t by omega, h, Bool.false_and]
theorem kPr_skip {n x : Nat} (h : kTg1 K pp w bk wa i = 0#64) (hn : t + n ≤ 64) : mFoldL (kPrF K pp w bk wa) (n + x) (64 * i + t) r = mFoldL (kPrF K pp w bk wa) x (64 * i + t + n) r :=
  mFoldL_skip n x _ r (fun k h1 h2 r => by
    rw [show k = 64 * i + (k - 64 * i) by omega]
    exact kPrF_f (by omega) (by rw [h]; simp))
theorem kMa_skip {n x : Nat} (h : kTg1 K pp w bk wa i = 0#64) (hn : t + n ≤ 64) : mFirst (kMaF K pp w bk wa) (n + x) (64 * i + t) = mFirst (kMaF K pp w bk wa) x (64 * i + t + n) :=
  mFirst_skip n x _ (fun k h1 h2 => by
    rw [show k = 64 * i + (k - 64 * i) by omega]
    exact kMaF_f (by omega) (by rw [h]; simp))
end KPAIRS
theorem WfPt_sh {pp : Nat → Int32} {a b : Nat} (h : WfPt pp) (ha : a < 64) (hb : b < 64) : WfPt (kShP pp a b) := by
  have h1 : WfPt (kPart pp b) := WfPt_part h
  unfold kShP
  split
  · exact WfPt_part h1
  · exact WfPt_join (WfPt_part h1) hb (clamp_in (h1 a ha))
