/-! ===== floats: no sum here is NaN, and the class's bits are the machine's ===== -/
def fb (E T : Nat) : UInt32 := UInt32.ofNat (E * 2 ^ 23 + T)
theorem fb_nat {E T : Nat} (h2 : E ≤ 254) (ht : T < 2 ^ 23) : (fb E T).toNat = E * 2 ^ 23 + T := by
  unfold fb
  rw [UInt32.toNat_ofNat_of_lt' (by show E * 2 ^ 23 + T < 2 ^ 32; omega)]
theorem fb_val {E T : Nat} (h1 : 1 ≤ E) (h2 : E ≤ 254) (ht : T < 2 ^ 23) : FP.Core.val32 (fb E T) = .fin false (2 ^ 23 + T) ((E : Int) - 150) := by
  have e1 : (fb E T).toNat = FP.Core.assemble FP.Core.b32 false E T := by
    rw [fb_nat h2 ht]
    show E * 2 ^ 23 + T = (0 * 2 ^ 8 + E) * 2 ^ 23 + T
    omega
  show FP.Core.decode FP.Core.b32 (fb E T).toNat = _
  rw [e1, FP.Core.decode_assemble _ _ _ _ (by show E < 2 ^ 8; omega) (by show T < 2 ^ 23; exact ht)]
  have e2 : FP.Core.b32.exps - 1 = 255 := by decide
  have e3 : FP.Core.b32.tails = 2 ^ 23 := by decide
  have e4 : FP.Core.b32.qmin = -149 := by decide
  rw [e2, e3, e4, if_neg (by omega), if_neg (by omega)]
  congr 1
  omega
theorem two_val : FP.Core.val32 FP.fconst2 = .fin false (2 ^ 23) (-22) := by decide +kernel
theorem one_val : FP.Core.val32 FP.fconst1 = .fin false (2 ^ 23) (-23) := by decide +kernel
theorem big_val : FP.Core.val32 1258291200 = .fin false (2 ^ 23) 0 := by decide +kernel
theorem fb_fits {E T : Nat} (h1 : 1 ≤ E) (h2 : E ≤ 254) (ht : T < 2 ^ 23) : FP.Core.fits FP.Core.b32 (.fin false (2 ^ 23 + T) ((E : Int) - 150)) := by
  rw [← fb_val h1 h2 ht]
  exact FP.Core.val32_fits _
theorem fb_div {E T : Nat} (h1 : 2 ≤ E) (h2 : E ≤ 254) (ht : T < 2 ^ 23) : FP.fdiv (fb E T) FP.fconst2 = fb (E - 1) T := by
  have hr : FP.Core.val32 (FP.fdiv (fb E T) FP.fconst2) = .fin false (2 ^ 23 + T) (((E - 1 : Nat) : Int) - 150) := by
    have e := FP.Core.val32_fdiv (fb E T) FP.fconst2
    rw [fb_val (by omega) h2 ht, two_val] at e
    refine e.trans ?_
    show (if (2 ^ 23 : Nat) = 0 then (if (2 ^ 23 + T : Nat) = 0 then FP.Core.Datum.nan else FP.Core.Datum.inf (false != false)) else FP.Core.roundRatio FP.Core.b32 (false != false) (2 ^ 23 + T) (2 ^ 23) (((E : Int) - 150) - (-22))) = _
    rw [if_neg (by decide)]
    refine FP.Core.roundRatio_exact FP.Core.good_b32 (by decide) (fb_fits (by omega) (by omega) ht) ?_
    have e1 : ((((E : Int) - 150) - (-22)) - ((((E - 1 : Nat) : Int)) - 150)).toNat = 23 := by omega
    have e2 : ((((E - 1 : Nat) : Int) - 150) - (((E : Int) - 150) - (-22))).toNat = 0 := by omega
    rw [e1, e2, Nat.pow_zero, Nat.mul_one]
  exact FP.Core.val32_inj (by rw [hr]; exact FP.Core.Datum.noConfusion) (hr.trans (fb_val (by omega) (by omega) ht).symm)
theorem fb_mul {E T : Nat} (h1 : 1 ≤ E) (h2 : E ≤ 253) (ht : T < 2 ^ 23) : FP.fmul (fb E T) FP.fconst2 = fb (E + 1) T := by
  have hr : FP.Core.val32 (FP.fmul (fb E T) FP.fconst2) = .fin false (2 ^ 23 + T) (((E + 1 : Nat) : Int) - 150) := by
    have e := FP.Core.val32_fmul (fb E T) FP.fconst2
    rw [fb_val h1 (by omega) ht, two_val] at e
    refine e.trans ?_
    show FP.Core.roundRatio FP.Core.b32 (false != false) ((2 ^ 23 + T) * 2 ^ 23) 1 (((E : Int) - 150) + (-22)) = _
    refine FP.Core.roundRatio_exact FP.Core.good_b32 (by decide) (fb_fits (by omega) (by omega) ht) ?_
    have e1 : ((((E : Int) - 150) + (-22)) - ((((E + 1 : Nat) : Int)) - 150)).toNat = 0 := by omega
    have e2 : ((((E + 1 : Nat) : Int) - 150) - (((E : Int) - 150) + (-22))).toNat = 23 := by omega
    rw [e1, e2, Nat.pow_zero, Nat.mul_one, Nat.mul_one]
  exact FP.Core.val32_inj (by rw [hr]; exact FP.Core.Datum.noConfusion) (hr.trans (fb_val (by omega) (by omega) ht).symm)
theorem fb_nn {E T : Nat} (h1 : 1 ≤ E) (h2 : E ≤ 254) (ht : T < 2 ^ 23) : vf_n32 (fb E T) := by
  rw [vf_iff, fb_nat h2 ht]
  omega
theorem nn_of {a : UInt32} (h : FP.Core.val32 a ≠ .nan) : vf_n32 a := (vf_iff a).mpr ((FP.Core.ne_nan32 a).mp h)
theorem cmp_lt {x y : Int} (h : x < y) : compare x y = Ordering.lt := by simp [compare, compareOfLessAndEq, h]
theorem cmp_ge {x y : Int} (h : y ≤ x) : compare x y = Ordering.eq ∨ compare x y = Ordering.gt := by
  by_cases e : x = y
  · left; simp [compare, compareOfLessAndEq, e]
  · right
    have h1 : ¬ x < y := by omega
    simp [compare, compareOfLessAndEq, e, h1]
theorem fb_lt {E T : Nat} {k : UInt32} {r : Int} {op : CmpOp} (h1 : 1 ≤ E) (h2 : E ≤ 254) (ht : T < 2 ^ 23) (hk : FP.Core.val32 k = .fin false (2 ^ 23) r) (h : (E : Int) - 150 < r) : Op.cmpValue (FP.fcmp (fb E T) k) op = -1 := by
  have e : FP.fcmp (fb E T) k = FP.Core.order (FP.Core.val32 (fb E T)) (FP.Core.val32 k) := rfl
  rw [e, fb_val h1 h2 ht, hk]
  show Op.cmpValue (some (compare (((2 ^ 23 + T) * 2 ^ (((E : Int) - 150) - min ((E : Int) - 150) r).toNat : Nat) : Int) ((2 ^ 23 * 2 ^ (r - min ((E : Int) - 150) r).toNat : Nat) : Int))) op = -1
  have e1 : (((E : Int) - 150) - min ((E : Int) - 150) r).toNat = 0 := by omega
  obtain ⟨j, ej⟩ : ∃ j, (r - min ((E : Int) - 150) r).toNat = j + 1 := ⟨(r - min ((E : Int) - 150) r).toNat - 1, by omega⟩
  have hp := Nat.two_pow_pos j
  rw [e1, ej, cmp_lt (by rw [Nat.pow_succ]; omega)]
  rfl
theorem fb_ge {E T : Nat} {k : UInt32} {r : Int} {op : CmpOp} (h1 : 1 ≤ E) (h2 : E ≤ 254) (ht : T < 2 ^ 23) (hk : FP.Core.val32 k = .fin false (2 ^ 23) r) (h : r ≤ (E : Int) - 150) : ∃ n, n ≤ 1 ∧ Op.cmpValue (FP.fcmp (fb E T) k) op = nI n := by
  have e : FP.fcmp (fb E T) k = FP.Core.order (FP.Core.val32 (fb E T)) (FP.Core.val32 k) := rfl
  rw [e, fb_val h1 h2 ht, hk]
  have hc : compare (((2 ^ 23 + T) * 2 ^ (((E : Int) - 150) - min ((E : Int) - 150) r).toNat : Nat) : Int) ((2 ^ 23 * 2 ^ (r - min ((E : Int) - 150) r).toNat : Nat) : Int) = Ordering.eq ∨ compare (((2 ^ 23 + T) * 2 ^ (((E : Int) - 150) - min ((E : Int) - 150) r).toNat : Nat) : Int) ((2 ^ 23 * 2 ^ (r - min ((E : Int) - 150) r).toNat : Nat) : Int) = Ordering.gt := by
    refine cmp_ge ?_
    have e1 : (r - min ((E : Int) - 150) r).toNat = 0 := by omega
    rw [e1]
    have hp := Nat.two_pow_pos (((E : Int) - 150) - min ((E : Int) - 150) r).toNat
    have := Nat.mul_le_mul (show 2 ^ 23 ≤ 2 ^ 23 + T by omega) (show 2 ^ 0 ≤ 2 ^ (((E : Int) - 150) - min ((E : Int) - 150) r).toNat by rw [Nat.pow_zero]; omega)
    exact Int.ofNat_le.mpr this
  show ∃ n, n ≤ 1 ∧ Op.cmpValue (some (compare (((2 ^ 23 + T) * 2 ^ (((E : Int) - 150) - min ((E : Int) - 150) r).toNat : Nat) : Int) ((2 ^ 23 * 2 ^ (r - min ((E : Int) - 150) r).toNat : Nat) : Int))) op = nI n
  rcases hc with hc | hc
  · rw [hc]; exact ⟨0, by decide, rfl⟩
  · rw [hc]; exact ⟨1, by decide, rfl⟩
theorem fb_pos {E T : Nat} (h1 : 1 ≤ E) (h2 : E ≤ 254) (ht : T < 2 ^ 23) : Op.cmpValue (FP.fcmp (fb E T) FP.fconst0) .l = nI 1 := by
  have e : FP.fcmp (fb E T) FP.fconst0 = FP.Core.order (FP.Core.val32 (fb E T)) (FP.Core.val32 FP.fconst0) := rfl
  have e0 : FP.Core.val32 FP.fconst0 = .fin false 0 (-149) := by decide +kernel
  rw [e, fb_val h1 h2 ht, e0]
  show Op.cmpValue (some (compare (((2 ^ 23 + T) * 2 ^ (((E : Int) - 150) - min ((E : Int) - 150) (-149)).toNat : Nat) : Int) ((0 * 2 ^ ((-149 : Int) - min ((E : Int) - 150) (-149)).toNat : Nat) : Int))) .l = nI 1
  have hp := Nat.two_pow_pos (((E : Int) - 150) - min ((E : Int) - 150) (-149)).toNat
  have hq : 0 < (2 ^ 23 + T) * 2 ^ (((E : Int) - 150) - min ((E : Int) - 150) (-149)).toNat := Nat.mul_pos (by omega) hp
  rw [Nat.zero_mul]
  generalize (2 ^ 23 + T) * 2 ^ (((E : Int) - 150) - min ((E : Int) - 150) (-149)).toNat = z at hq
  have h3 : ¬ ((z : Nat) : Int) < ((0 : Nat) : Int) := by omega
  have h4 : ¬ ((z : Nat) : Int) = ((0 : Nat) : Int) := by omega
  simp only [compare, compareOfLessAndEq, h3, h4, if_false]
  rfl
/-- what is left of a number from 1 to 2, taken whole -/
theorem fb_sub {T : Nat} (ht : T < 2 ^ 23) : ∃ c q, FP.Core.val32 (FP.fsub (fb 127 T) FP.fconst1) = .fin false c q ∧ -149 ≤ q ∧ c * 2 ^ (q + 149).toNat = T * 2 ^ 126 := by
  have e := FP.Core.val32_fsub (fb 127 T) FP.fconst1
  rw [fb_val (by decide) (by decide) ht, one_val] at e
  have e2 : FP.Core.exactSum (.fin false (2 ^ 23 + T) (((127 : Nat) : Int) - 150)) (FP.Core.negate (.fin false (2 ^ 23) (-23))) = .fin false T (-23) := by
    show FP.Core.Datum.fin (FP.Core.sumSign false true ((((2 ^ 23 + T) * 2 ^ 0 : Nat) : Int) + -((2 ^ 23 * 2 ^ 0 : Nat) : Int))) ((((2 ^ 23 + T) * 2 ^ 0 : Nat) : Int) + -((2 ^ 23 * 2 ^ 0 : Nat) : Int)).natAbs (-23) = _
    have e3 : (((2 ^ 23 + T) * 2 ^ 0 : Nat) : Int) + -((2 ^ 23 * 2 ^ 0 : Nat) : Int) = (T : Int) := by omega
    rw [e3]
    have e4 : FP.Core.sumSign false true (T : Int) = false := by
      unfold FP.Core.sumSign
      split
      · rfl
      · exact decide_eq_false (by omega)
    rw [e4]
    rfl
  have e5 : FP.Core.val32 (FP.fsub (fb 127 T) FP.fconst1) = FP.Core.round FP.Core.b32 (.fin false T (-23)) := e.trans (congrArg (FP.Core.round FP.Core.b32) e2)
  obtain ⟨c, q, r1, r2⟩ := FP.Core.round_exact FP.Core.good_b32 false (c := T) (q := -23) (show T < 2 ^ 24 by omega) (by decide) (by decide)
  have hf := FP.Core.round_fits FP.Core.good_b32 (.fin false T (-23))
  rw [r1] at hf
  refine ⟨c, q, e5.trans r1, hf.2.1, ?_⟩
  have r3 : c * 2 ^ (q - (-149)).toNat = T * 2 ^ ((-23 : Int) - (-149)).toNat := r2
  rw [show q + 149 = q - (-149) by omega]
  exact r3
theorem fb_tail {T : Nat} (ht : T < 2 ^ 23) : FP.f2i (FP.fmul (FP.fsub (fb 127 T) FP.fconst1) 1258291200) = nI T ∧ FP.Core.val32 (FP.fmul (FP.fsub (fb 127 T) FP.fconst1) 1258291200) ≠ .nan := by
  obtain ⟨c, q, e1, hq, e2⟩ := fb_sub ht
  have hI : FP.Core.FInt (T : Int) (FP.fmul (FP.fsub (fb 127 T) FP.fconst1) 1258291200) := by
    have e := FP.Core.val32_fmul (FP.fsub (fb 127 T) FP.fconst1) 1258291200
    rw [e1, big_val] at e
    show FP.Core.Whole (T : Int) (FP.Core.val32 (FP.fmul (FP.fsub (fb 127 T) FP.fconst1) 1258291200))
    have e3 : FP.Core.Whole (T : Int) (FP.Core.round FP.Core.b32 (FP.Core.exactProduct (.fin false c q) (.fin false (2 ^ 23) 0))) := by
      refine FP.Core.whole_round FP.Core.good_b32 FP.Core.wide_b32 (show (T : Int).natAbs ≤ 2 ^ 24 by omega) ?_
      show ((c * 2 ^ 23 * 2 ^ (q + 0).toNat : Nat) : Int) = (T : Int) * ((2 ^ (-(q + 0)).toNat : Nat) : Int)
      rw [← Int.natCast_mul]
      congr 1
      rw [Int.add_zero]
      rcases Int.lt_or_le q 0 with h | h
      · have e4 : q.toNat = 0 := by omega
        have e5 : (q + 149).toNat + (-q).toNat = 149 := by omega
        rw [e4, Nat.pow_zero, Nat.mul_one]
        refine Nat.eq_of_mul_eq_mul_right (Nat.two_pow_pos (q + 149).toNat) ?_
        calc c * 2 ^ 23 * 2 ^ (q + 149).toNat = c * 2 ^ (q + 149).toNat * 2 ^ 23 := by ac_rfl
          _ = T * 2 ^ 126 * 2 ^ 23 := by rw [e2]
          _ = T * 2 ^ 149 := by rw [Nat.mul_assoc, ← Nat.pow_add]
          _ = T * 2 ^ ((-q).toNat + (q + 149).toNat) := by rw [Nat.add_comm, e5]
          _ = T * 2 ^ (-q).toNat * 2 ^ (q + 149).toNat := by rw [Nat.pow_add, Nat.mul_assoc]
      · have e4 : (-q).toNat = 0 := by omega
        have e5 : (q + 149).toNat = q.toNat + 149 := by omega
        rw [e4, Nat.pow_zero, Nat.mul_one]
        refine Nat.eq_of_mul_eq_mul_right (Nat.two_pow_pos 126) ?_
        calc c * 2 ^ 23 * 2 ^ q.toNat * 2 ^ 126 = c * (2 ^ q.toNat * (2 ^ 23 * 2 ^ 126)) := by ac_rfl
          _ = c * 2 ^ (q + 149).toNat := by rw [e5, ← Nat.pow_add, ← Nat.pow_add]
          _ = T * 2 ^ 126 := e2
    have e6 : FP.Core.val32 (FP.fmul (FP.fsub (fb 127 T) FP.fconst1) 1258291200) = FP.Core.round FP.Core.b32 (FP.Core.exactProduct (.fin false c q) (.fin false (2 ^ 23) 0)) := e
    rw [e6]
    exact e3
  refine ⟨?_, fun hz => ?_⟩
  · have e7 : (nI T).toInt = (T : Int) := nI_toInt (by omega)
    exact FP.Core.f2i_int (a := nI T) (by rw [e7]; exact hI)
  · have hw : FP.Core.Whole (T : Int) (FP.Core.val32 (FP.fmul (FP.fsub (fb 127 T) FP.fconst1) 1258291200)) := hI
    rw [hz] at hw
    exact hw
theorem fb_sub_nn {T : Nat} (ht : T < 2 ^ 23) : vf_n32 (FP.fsub (fb 127 T) FP.fconst1) := by
  obtain ⟨c, q, e1, _⟩ := fb_sub ht
  exact nn_of (by rw [e1]; exact FP.Core.Datum.noConfusion)
theorem fb_bits {E T : Nat} (h2 : E ≤ 254) (ht : T < 2 ^ 23) : (nI E <<< (nI 23 &&& 31)) + nI T = flB (fb E T) := by
  have e1 : nI E <<< (nI 23 &&& 31) = nI (E * 2 ^ 23) := pk_shlN (nI 23 &&& 31) 23 (by decide) (by omega)
  rw [e1, nI_add]
  apply Int32.toBitVec_inj.1
  apply BitVec.eq_of_toNat_eq
  have e2 : (flB (fb E T)).toBitVec.toNat = (fb E T).toNat := rfl
  rw [e2, fb_nat h2 ht]
  exact pk_tn (by omega)
section TOPF
variable {p : Program} {l : Launch} {e : Env} {R : Room} {s : State} {m : MethodId} {args : Array Value} {below : List Frame} {meth : Method} {c : Code} {H : Heap} {locs : List Loc} {cells slots : Nat} {Q : State → Prop}
variable {pc : Nat} {ls : Array Slot} {rest : List Value}
theorem topf {x : UInt32} (y : UInt32) (h : x = y) (k : W p l e R s m args below meth c H locs cells slots Q (F0 m pc ls (.float y :: rest))) : W p l e R s m args below meth c H locs cells slots Q (F0 m pc ls (.float x :: rest)) := h ▸ k
end TOPF
/-! sums of weights: never negative, never too great -/
def SB (n : Nat) (a : UInt32) : Prop := (∃ c q, FP.Core.val32 a = .fin false c q) ∧ FP.Core.zmag FP.Core.b32 (FP.Core.val32 a) ≤ n * 2 ^ 149
theorem int_dat {n : Nat} (h : n ≤ 2 ^ 24) : ∃ V, FP.Core.fits FP.Core.b32 V ∧ V ≠ .nan ∧ FP.Core.zmag FP.Core.b32 V = n * 2 ^ 149 := by
  obtain ⟨c, q, hf, hv⟩ := FP.Core.natFit FP.Core.good_b32 FP.Core.wide_b32 false (n := n) h
  refine ⟨_, hf, FP.Core.Datum.noConfusion, ?_⟩
  show c * 2 ^ (q - (-149)).toNat = n * 2 ^ 149
  have hq : -149 ≤ q := hf.2.1
  have hv2 : n * 2 ^ (0 - q).toNat = c * 1 * 2 ^ (q - 0).toNat := hv
  rcases Int.lt_or_le q 0 with h3 | h3
  · have e1 : (q - 0).toNat = 0 := by omega
    have e2 : (0 - q).toNat + (q - (-149)).toNat = 149 := by omega
    rw [e1, Nat.pow_zero, Nat.mul_one, Nat.mul_one] at hv2
    rw [← hv2, Nat.mul_assoc, ← Nat.pow_add, e2]
  · have e1 : (0 - q).toNat = 0 := by omega
    have e2 : (q - (-149)).toNat = (q - 0).toNat + 149 := by omega
    rw [e1, Nat.pow_zero, Nat.mul_one, Nat.mul_one] at hv2
    rw [hv2, e2, Nat.pow_add, Nat.mul_assoc]
theorem sum_pos {a b : UInt32} {c d : Nat} {q r : Int} (ha : FP.Core.val32 a = .fin false c q) (hb : FP.Core.val32 b = .fin false d r) : ∃ (A : Nat) (e : Int), -149 ≤ e ∧ FP.Core.val32 (FP.fadd a b) = FP.Core.roundRatio FP.Core.b32 false A 1 e ∧ FP.Core.inUnits A e (-149) = FP.Core.zmag FP.Core.b32 (FP.Core.val32 a) + FP.Core.zmag FP.Core.b32 (FP.Core.val32 b) := by
  have fa := FP.Core.val32_fits a
  have fb' := FP.Core.val32_fits b
  rw [ha] at fa
  rw [hb] at fb'
  have hq : -149 ≤ q := fa.2.1
  have hr : -149 ≤ r := fb'.2.1
  refine ⟨FP.Core.inUnits c q (min q r) + FP.Core.inUnits d r (min q r), min q r, by omega, ?_, ?_⟩
  · have e := FP.Core.val32_fadd a b
    rw [ha, hb] at e
    refine e.trans ?_
    show FP.Core.round FP.Core.b32 (.fin (FP.Core.sumSign false false (((FP.Core.inUnits c q (min q r) : Nat) : Int) + ((FP.Core.inUnits d r (min q r) : Nat) : Int))) (((FP.Core.inUnits c q (min q r) : Nat) : Int) + ((FP.Core.inUnits d r (min q r) : Nat) : Int)).natAbs (min q r)) = _
    have e4 : FP.Core.sumSign false false (((FP.Core.inUnits c q (min q r) : Nat) : Int) + ((FP.Core.inUnits d r (min q r) : Nat) : Int)) = false := by
      unfold FP.Core.sumSign
      split
      · rfl
      · exact decide_eq_false (by omega)
    have e5 : (((FP.Core.inUnits c q (min q r) : Nat) : Int) + ((FP.Core.inUnits d r (min q r) : Nat) : Int)).natAbs = FP.Core.inUnits c q (min q r) + FP.Core.inUnits d r (min q r) := by omega
    rw [e4, e5]
    rfl
  · rw [ha, hb]
    show (c * 2 ^ (q - min q r).toNat + d * 2 ^ (r - min q r).toNat) * 2 ^ (min q r - (-149)).toNat = c * 2 ^ (q - (-149)).toNat + d * 2 ^ (r - (-149)).toNat
    rw [Nat.add_mul, Nat.mul_assoc, Nat.mul_assoc, ← Nat.pow_add, ← Nat.pow_add, show (q - min q r).toNat + (min q r - (-149)).toNat = (q - (-149)).toNat by omega, show (r - min q r).toNat + (min q r - (-149)).toNat = (r - (-149)).toNat by omega]
theorem sb_add {n m : Nat} {a b : UInt32} (ha : SB n a) (hb : SB m b) (h : n + m ≤ 2 ^ 20) : SB (n + m) (FP.fadd a b) := by
  obtain ⟨⟨c, q, ea⟩, za⟩ := ha
  obtain ⟨⟨d, r, eb⟩, zb⟩ := hb
  obtain ⟨A, e, he, hv, hz⟩ := sum_pos ea eb
  obtain ⟨V, v1, v2, v3⟩ := int_dat (n := n + m) (by omega)
  have hle := FP.Core.zmag_roundRatio_le FP.Core.good_b32 (s := false) (A := A) (B := 1) (e := e) (e0 := -149) (by decide) v1 v2 (by decide) he (by
    rw [hz, v3]
    show _ ≤ (n + m) * 2 ^ 149 * 2 ^ ((-149 : Int) - (-149)).toNat * 1
    rw [show ((-149 : Int) - (-149)).toNat = 0 by decide, Nat.pow_zero, Nat.mul_one, Nat.mul_one, Nat.add_mul]
    exact Nat.add_le_add za zb)
  rw [v3] at hle
  refine ⟨?_, by rw [hv]; exact hle⟩
  rw [hv]
  rcases FP.Core.roundRatio_cases FP.Core.b32 false A 1 e with z | z
  · exact z
  · rw [z] at hle
    have e1 : FP.Core.zmag FP.Core.b32 (.inf false) = 2 ^ 23 * 2 ^ 254 := by decide
    rw [e1, ← Nat.pow_add] at hle
    have h2 : (n + m) * 2 ^ 149 ≤ 2 ^ 20 * 2 ^ 149 := Nat.mul_le_mul_right _ h
    rw [← Nat.pow_add] at h2
    have h3 : 2 ^ (20 + 149) < 2 ^ (23 + 254) := Nat.pow_lt_pow_right (by decide) (by decide)
    omega
theorem sum_ge {a b : UInt32} {V : FP.Core.Datum} (ha : ∃ c q, FP.Core.val32 a = .fin false c q) (hb : ∃ c q, FP.Core.val32 b = .fin false c q) (hV : FP.Core.fits FP.Core.b32 V) (h : FP.Core.zmag FP.Core.b32 V ≤ FP.Core.zmag FP.Core.b32 (FP.Core.val32 a) + FP.Core.zmag FP.Core.b32 (FP.Core.val32 b)) : FP.Core.zmag FP.Core.b32 V ≤ FP.Core.zmag FP.Core.b32 (FP.Core.val32 (FP.fadd a b)) := by
  obtain ⟨c, q, ea⟩ := ha
  obtain ⟨d, r, eb⟩ := hb
  obtain ⟨A, e, he, hv, hz⟩ := sum_pos ea eb
  rw [hv]
  refine FP.Core.zmag_roundRatio_ge FP.Core.good_b32 (s := false) (A := A) (B := 1) (e := e) (e0 := -149) (by decide) hV (by decide) he ?_
  rw [hz]
  show _ * 2 ^ ((-149 : Int) - (-149)).toNat * 1 ≤ _
  rw [show ((-149 : Int) - (-149)).toNat = 0 by decide, Nat.pow_zero, Nat.mul_one, Nat.mul_one]
  exact h
/-- nothing, or at least the number V -/
def PZ (V : FP.Core.Datum) (a : UInt32) : Prop := a = FP.fconst0 ∨ FP.Core.zmag FP.Core.b32 V ≤ FP.Core.zmag FP.Core.b32 (FP.Core.val32 a)
theorem add_0 {n : Nat} {a : UInt32} (ha : SB n a) : FP.fadd a FP.fconst0 = a := by
  obtain ⟨⟨c, q, ea⟩, _⟩ := ha
  refine FP.Core.fadd_zero (by rw [ea]; exact FP.Core.Datum.noConfusion) (fun e => ?_)
  rw [e, FP.Core.val32_fzeroNeg] at ea
  cases ea
theorem pz_add {n m : Nat} {V : FP.Core.Datum} {a b : UInt32} (ha : SB n a) (hb : SB m b) (hV : FP.Core.fits FP.Core.b32 V) (pa : PZ V a) (pb : PZ V b) : PZ V (FP.fadd a b) := by
  rcases pb with pb | pb
  · rw [pb, add_0 ha]; exact pa
  · right
    exact sum_ge ha.1 hb.1 hV (by omega)
def wtL : List UInt32 := [1092091904, 1084227584, 1079194419, 1078774989, 1080872141, FP.fconst1, FP.fconst0]
def V1 : FP.Core.Datum := .fin false (2 ^ 23) (-23)
def V0 : FP.Core.Datum := .fin false (2 ^ 23) (-149)
theorem fit_V1 : FP.Core.fits FP.Core.b32 V1 := by unfold V1 FP.Core.fits; decide
theorem fit_V0 : FP.Core.fits FP.Core.b32 V0 := by unfold V0 FP.Core.fits; decide
def finPos : FP.Core.Datum → Bool
  | .fin false _ _ => true
  | _ => false
theorem finPos_of {d : FP.Core.Datum} (h : finPos d = true) : ∃ c q, d = .fin false c q := by
  cases d with
  | nan => cases h
  | inf s => cases h
  | fin s c q =>
    cases s
    · exact ⟨c, q, rfl⟩
    · cases h
theorem wt_all : wtL.all (fun x => finPos (FP.Core.val32 x) && (decide (FP.Core.zmag FP.Core.b32 (FP.Core.val32 x) ≤ 10 * 2 ^ 149) && (decide (x = FP.fconst0) || decide (FP.Core.zmag FP.Core.b32 V1 ≤ FP.Core.zmag FP.Core.b32 (FP.Core.val32 x))))) = true := by decide +kernel
theorem wt_in {x : UInt32} (h : x ∈ wtL) : SB 10 x ∧ PZ V1 x := by
  have h1 := List.all_eq_true.mp wt_all x h
  simp only [Bool.and_eq_true, Bool.or_eq_true, decide_eq_true_eq] at h1
  exact ⟨⟨finPos_of h1.1, h1.2.1⟩, h1.2.2⟩
theorem mWt_in (f : Nat → Int32) (j : Nat) : mWt f j ∈ wtL := by
  unfold mWt wtL
  repeat' split
  all_goals simp
theorem zero_sb : SB 0 FP.fconst0 ∧ PZ V1 FP.fconst0 := by
  have e0 : FP.Core.val32 FP.fconst0 = .fin false 0 (-149) := by decide +kernel
  refine ⟨⟨⟨0, -149, e0⟩, ?_⟩, Or.inl rfl⟩
  rw [e0]; decide
theorem stP_sb (f : Nat → Int32) (sd : Nat) : ∀ n, n ≤ 64 → SB (10 * n) (mStP f sd n) ∧ PZ V1 (mStP f sd n)
  | 0, _ => zero_sb
  | n + 1, h => by
    obtain ⟨h1, h2⟩ := stP_sb f sd n (by omega)
    obtain ⟨h3, h4⟩ := wt_in (mWt_in f n)
    show SB (10 * (n + 1)) (if mIsOf f n sd then FP.fadd (mStP f sd n) (mWt f n) else mStP f sd n) ∧ PZ V1 (if mIsOf f n sd then FP.fadd (mStP f sd n) (mWt f n) else mStP f sd n)
    cases mIsOf f n sd
    · rw [if_neg (by decide)]
      exact ⟨⟨h1.1, Nat.le_trans h1.2 (Nat.mul_le_mul_right _ (by omega))⟩, h2⟩
    · rw [if_pos rfl]
      have h5 := sb_add h1 h3 (show 10 * n + 10 ≤ 2 ^ 20 by omega)
      exact ⟨h5, pz_add h1 h3 fit_V1 h2 h4⟩
theorem mul_all : (List.range 65).all (fun n => finPos (FP.Core.val32 (FP.fmul 1036831949 (FP.i2f (nI n)))) && (decide (FP.Core.zmag FP.Core.b32 (FP.Core.val32 (FP.fmul 1036831949 (FP.i2f (nI n)))) ≤ 10 * 2 ^ 149) && (decide (FP.fmul 1036831949 (FP.i2f (nI n)) = FP.fconst0) || decide (FP.Core.zmag FP.Core.b32 V0 ≤ FP.Core.zmag FP.Core.b32 (FP.Core.val32 (FP.fmul 1036831949 (FP.i2f (nI n)))))))) = true := by decide +kernel
theorem mul_in {n : Nat} (h : n ≤ 64) : SB 10 (FP.fmul 1036831949 (FP.i2f (nI n))) ∧ PZ V0 (FP.fmul 1036831949 (FP.i2f (nI n))) := by
  have h1 := List.all_eq_true.mp mul_all n (List.mem_range.mpr (by omega))
  simp only [Bool.and_eq_true, Bool.or_eq_true, decide_eq_true_eq] at h1
  exact ⟨⟨finPos_of h1.1, h1.2.1⟩, h1.2.2⟩
theorem V01 : FP.Core.zmag FP.Core.b32 V0 ≤ FP.Core.zmag FP.Core.b32 V1 := by decide
theorem PZ.dn {a : UInt32} (h : PZ V1 a) : PZ V0 a := h.elim Or.inl (fun z => Or.inr (Nat.le_trans V01 z))
theorem sth_sb (f : Nat → Int32) (sd : Nat) : SB 650 (mSth f sd) ∧ PZ V0 (mSth f sd) := by
  obtain ⟨h1, h2⟩ := stP_sb f sd 64 (Nat.le_refl _)
  obtain ⟨h3, h4⟩ := mul_in (pcnt_le (mAttSet f sd))
  have h5 : SB (10 * 64 + 10) (FP.fadd (mStP f sd 64) (FP.fmul 1036831949 (FP.i2f (nI (pcnt (mAttSet f sd)))))) := sb_add h1 h3 (show 10 * 64 + 10 ≤ 2 ^ 20 by omega)
  exact ⟨h5, pz_add h1 h3 fit_V0 h2.dn h4⟩
theorem SB.nn {n : Nat} {a : UInt32} (h : SB n a) : vf_n32 a := by
  obtain ⟨⟨c, q, e⟩, _⟩ := h
  exact nn_of (by rw [e]; exact FP.Core.Datum.noConfusion)
/-- every strength is a number -/
theorem stOk (f : Nat → Int32) (sd : Nat) : StOk f sd := by
  refine ⟨fun i hi hs => ?_, (mul_in (pcnt_le (mAttSet f sd))).1.nn, (sth_sb f sd).1.nn⟩
  exact (sb_add (stP_sb f sd i (by omega)).1 (wt_in (mWt_in f i)).1 (by omega)).nn
theorem SB.fin {n : Nat} {a : UInt32} (h : SB n a) : FP.Core.FFin a := by
  obtain ⟨⟨c, q, e⟩, _⟩ := h
  exact ⟨_, _, _, e⟩
theorem nn64_of {a : UInt64} (h : FP.Core.val64 a ≠ .nan) : vf_n64 a := by
  have h1 := (FP.Core.ne_nan a).mp h
  unfold vf_n64
  rw [UInt64.le_iff_toNat_le, UInt64.toNat_and]
  show (a.toNat &&& (2 ^ 63 - 1)) ≤ 9218868437227405312
  rw [Nat.and_two_pow_sub_one_eq_mod]
  exact h1
theorem dbOk (f : Nat → Int32) (sd : Nat) : DbOk f sd := by
  obtain ⟨s, c, q, e⟩ := FP.Core.f2d_fin (sth_sb f sd).1.fin
  exact nn64_of (by rw [show FP.f2d (mSth f sd) = FP.Core.f2d (mSth f sd) from FP.f2d_core ?_, e]; exact FP.Core.Datum.noConfusion; exact (FP.Core.notNaN_iff32 _).mpr (by obtain ⟨⟨c, q, e⟩, _⟩ := (sth_sb f sd).1; rw [e]; exact FP.Core.Datum.noConfusion))
/-- a strength is nothing, or a number of the usual form -/
theorem sth_fb (f : Nat → Int32) (sd : Nat) : mSth f sd = FP.fconst0 ∨ ∃ E T, 1 ≤ E ∧ E ≤ 254 ∧ T < 2 ^ 23 ∧ mSth f sd = fb E T := by
  obtain ⟨h1, h2⟩ := sth_sb f sd
  generalize mSth f sd = a at h1 h2
  rcases h2 with h2 | h2
  · exact Or.inl h2
  · right
    obtain ⟨⟨c, q, e⟩, _⟩ := id h1
    have hs : ¬ 2 ^ 31 ≤ a.toNat := fun z => by
      have := (FP.Core.sign_bits32 (a := a) (s := false) (Or.inl ⟨c, q, e⟩)).mpr z
      cases this
    have hf := (FP.Core.fin_bits32 a).mp h1.fin
    have hz := FP.Core.zmag_toNat32 (a := a) (by rw [e]; exact FP.Core.Datum.noConfusion)
    have hm : a.toNat % 2 ^ 31 = a.toNat := Nat.mod_eq_of_lt (by omega)
    rw [hm] at hf hz
    have hv : FP.Core.zmag FP.Core.b32 V0 = 2 ^ 23 := by decide
    have hlo : 2 ^ 23 ≤ a.toNat := by
      refine Nat.le_of_not_lt fun hlt => ?_
      have hu : FP.Core.unitsOf FP.Core.b32 a.toNat = a.toNat := if_pos (by show a.toNat < 2 ^ 23; exact hlt)
      rw [hz, hu, hv] at h2
      omega
    refine ⟨a.toNat / 2 ^ 23, a.toNat % 2 ^ 23, by omega, by omega, Nat.mod_lt _ (by decide), ?_⟩
    apply UInt32.toNat.inj
    rw [fb_nat (by omega) (Nat.mod_lt _ (by decide))]
    omega
