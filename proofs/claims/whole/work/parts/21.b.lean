/-! ===== PURE 6: the first position; what an action does to a game ===== -/
theorem ini_rel : Rel mIni (iniK 8) iniP (iniW 8) (iniB 8) true := by
  refine ⟨by decide +kernel, by decide +kernel, by decide +kernel, fun j hj k k1 k6 => ?_, by decide +kernel, by decide +kernel⟩
  have h1 : ∀ j, j < 64 → (iniK 8 1).getLsbD j = decide (pcN mIni j % 8 = 1) := by decide +kernel
  have h2 : ∀ j, j < 64 → (iniK 8 2).getLsbD j = decide (pcN mIni j % 8 = 2) := by decide +kernel
  have h3 : ∀ j, j < 64 → (iniK 8 3).getLsbD j = decide (pcN mIni j % 8 = 3) := by decide +kernel
  have h4 : ∀ j, j < 64 → (iniK 8 4).getLsbD j = decide (pcN mIni j % 8 = 4) := by decide +kernel
  have h5 : ∀ j, j < 64 → (iniK 8 5).getLsbD j = decide (pcN mIni j % 8 = 5) := by decide +kernel
  have h6 : ∀ j, j < 64 → (iniK 8 6).getLsbD j = decide (pcN mIni j % 8 = 6) := by decide +kernel
  rcases (show k = 1 ∨ k = 2 ∨ k = 3 ∨ k = 4 ∨ k = 5 ∨ k = 6 by omega) with rfl | rfl | rfl | rfl | rfl | rfl
  · exact h1 j hj
  · exact h2 j hj
  · exact h3 j hj
  · exact h4 j hj
  · exact h5 j hj
  · exact h6 j hj
theorem ini_ku : KU mIni := by
  have hw : ∀ i, i < 64 → mIsOwn mIni i 1 (sdN true) = decide (i = 4) := by decide +kernel
  have hb : ∀ i, i < 64 → mIsOwn mIni i 1 (sdN false) = decide (i = 60) := by decide +kernel
  intro b i j hi hj h1 h2
  cases b
  · rw [hb i hi, decide_eq_true_eq] at h1
    rw [hb j hj, decide_eq_true_eq] at h2
    rw [h1, h2]
  · rw [hw i hi, decide_eq_true_eq] at h1
    rw [hw j hj, decide_eq_true_eq] at h2
    rw [h1, h2]
def iniO (j : Nat) : Nat := if j = 1 then 6 else if j = 6 then 1 else if j = 57 then 62 else 57
theorem ini_bo : (List.range 64).all (fun j => decide (mIni (64 + j) = -1) || (decide (iniO j < 64) && (decide (mIni (64 + j) = nI (iniO j)) && (decide (iniO j ≠ j) && (decide (mIni (64 + iniO j) = nI j) && (decide (pcN mIni j % 8 = 5) && decide (pcN mIni (iniO j) = pcN mIni j))))))) = true := by decide +kernel
theorem ini_bn : (List.range 64).all (fun j => decide (mIni (64 + j) = -1) || decide (mHop j (mIni (64 + j)).toNatClampNeg ≤ 3)) = true := by decide +kernel
theorem ini_pos : PosR mIni (iniK 8) iniP (iniW 8) (iniB 8) true := by
  refine ⟨ini_rel, ini_ku, fun j hj => ?_, fun j hj hn => ?_⟩
  · have h := List.all_eq_true.mp ini_bo j (List.mem_range.mpr hj)
    simp only [Bool.or_eq_true, Bool.and_eq_true, decide_eq_true_eq] at h
    rcases h with h | ⟨h1, h2, h3, h4, h5, h6⟩
    · exact Or.inl h
    · exact Or.inr ⟨_, h1, h2, h3, h4, h5, h6⟩
  · have h := List.all_eq_true.mp ini_bn j (List.mem_range.mpr hj)
    simp only [Bool.or_eq_true, decide_eq_true_eq] at h
    exact h.resolve_left hn
theorem ini_k2 : Ki2 mIni := by
  have h1 : (mKing mIni (sdN true)).isSome = true := by decide +kernel
  have h2 : (mKing mIni (sdN false)).isSome = true := by decide +kernel
  intro d; cases d
  · exact h2
  · exact h1
theorem ini_ch : kChk (iniK 8) (iniW 8) (iniB 8) false = false := by decide +kernel
theorem ini_129 : mIni 129 = nI 0 := by decide +kernel
theorem ini_cap : ∀ q, q < 16 → mIni (130 + q) = nI 0 := by decide +kernel
theorem ini_has : mOkMove mIni (64 * 8 + 16) = true := by decide +kernel
theorem ini_nch : mInCheck mIni (mSide mIni) = false := by decide +kernel
theorem ini_pcs : mPieces mIni = 32 := by decide +kernel
theorem ini_out (rw : Nat → Int32) : mOutc rw mIni 0 = 0 := by
  have h1 : mHas mIni = true := mAnyL_iff.mpr ⟨64 * 8 + 16, Nat.zero_le _, by decide, ini_has⟩
  have h2 : mOcc rw mIni 0 ≤ 1 := by have := mCntL_le (fun r => mSame rw mIni r) 1 0 0; unfold mOcc; omega
  unfold mOutc
  rw [h1, ini_nch, ini_pcs, ini_129, if_neg (by decide), if_neg (by decide), if_neg (by decide), if_neg (by omega), if_pos (by decide)]
section ACT
variable {cn i : Nat} {K : Nat → Nat → BitVec 64} {pp : Nat → Nat → Int32} {w bk : Nat → BitVec 64} {wa : Nat → Bool} {ca qu : Nat → Nat} {K1 : Nat → BitVec 64} {p1 : Nat → Int32} {w1 b1 : BitVec 64} {a1 : Bool} {c1 q1 : Nat} {f g : Nat → Int32}
theorem up_ne {α : Type} {F : Nat → α} {x : α} {j k : Nat} (h : j ≠ k) : va_up F k x j = F j := by unfold va_up; exact if_neg h
theorem up_eq {α : Type} {F : Nat → α} {x : α} {k : Nat} : va_up F k x k = x := by unfold va_up; exact if_pos rfl
theorem kCap_cg {ca2 : Nat → Nat} {wa2 : Nat → Bool} (k : Nat) (b : Bool) (n : Nat) (h : ∀ j, j ≤ n → ca j = ca2 j ∧ wa j = wa2 j) : kCap ca wa k b n = kCap ca2 wa2 k b n := by
  unfold kCap
  rw [kCntD_sum, kCntD_sum]
  congr 1
  refine sumN_cg _ (fun j hj => ?_)
  rw [(h j (by omega)).1, (h j (by omega)).2]
theorem kCap_s (k : Nat) (b : Bool) (n : Nat) : kCap ca wa k b (n + 1) = kCap ca wa k b n + (if decide (ca (n + 1) = k) && decide (wa (n + 1) = b) then 1 else 0) := by
  unfold kCap
  rw [kCntD_sum, kCntD_sum, Nat.zero_add, Nat.zero_add]
  rfl
theorem kTm_cg {K2 : Nat → Nat → BitVec 64} {pp2 : Nat → Nat → Int32} {w2 bk2 : Nat → BitVec 64} {wa2 : Nat → Bool} (n : Nat) (h : ∀ j, j ≤ n → K j = K2 j ∧ pp j = pp2 j ∧ w j = w2 j ∧ bk j = bk2 j ∧ wa j = wa2 j) : kTm K pp w bk wa n = kTm K2 pp2 w2 bk2 wa2 n := by
  unfold kTm
  rw [kCntD_sum, kCntD_sum]
  congr 1
  refine sumN_cg _ (fun j hj => ?_)
  obtain ⟨e1, e2, e3, e4, e5⟩ := h j (by omega)
  obtain ⟨d1, d2, d3, d4, d5⟩ := h n (Nat.le_refl _)
  unfold kEqP
  rw [e1, e2, e3, e4, e5, d1, d2, d3, d4, d5]
theorem kVer_cg {K2 : Nat → Nat → BitVec 64} {pp2 : Nat → Nat → Int32} {w2 bk2 : Nat → BitVec 64} {wa2 : Nat → Bool} {qu2 : Nat → Nat} (n : Nat) (h : ∀ j, j ≤ n → K j = K2 j ∧ pp j = pp2 j ∧ w j = w2 j ∧ bk j = bk2 j ∧ wa j = wa2 j) (hq : qu n = qu2 n) : kVer K pp w bk wa qu n = kVer K2 pp2 w2 bk2 wa2 qu2 n := by
  obtain ⟨d1, d2, d3, d4, d5⟩ := h n (Nat.le_refl _)
  unfold kVer
  rw [kTm_cg n h, d1, d2, d3, d4, d5, hq]
theorem RowOk.up (hi : i ≤ cn) (h : RowOk g K pp w bk wa ca qu i) : RowOk g (va_up K (cn + 1) K1) (va_up pp (cn + 1) p1) (va_up w (cn + 1) w1) (va_up bk (cn + 1) b1) (va_up wa (cn + 1) a1) (va_up ca (cn + 1) c1) (va_up qu (cn + 1) q1) i := by
  unfold RowOk
  rw [up_ne (by omega), up_ne (by omega), up_ne (by omega), up_ne (by omega), up_ne (by omega), up_ne (by omega)]
  refine ⟨h.1, h.2.1, fun k b k1 k6 => ?_⟩
  rw [h.2.2 k b k1 k6, kCap_cg (ca := ca) (wa := wa) (ca2 := va_up ca (cn + 1) c1) (wa2 := va_up wa (cn + 1) a1) k b i (fun j hj => ⟨(up_ne (by omega)).symm, (up_ne (by omega)).symm⟩)]
theorem PlOk.up (hi : i ≤ cn) (h : PlOk g K w bk wa i) : PlOk g (va_up K (cn + 1) K1) (va_up w (cn + 1) w1) (va_up bk (cn + 1) b1) (va_up wa (cn + 1) a1) i := by
  unfold PlOk
  rw [up_ne (by omega), up_ne (by omega), up_ne (by omega), up_ne (by omega)]
  exact h
theorem ps_act {N N1 oc : Nat} {ve ve1 : Nat → Nat} {rw rw1 f1 : Nat → Int32} (h : PS false cn N K pp w bk wa ca qu ve rw f oc) (hcn : cn < 2 ^ 20) (hP : PosR f1 K1 p1 w1 b1 (!wa cn)) (hk : Ki2 f1) (hch : kChk K1 w1 b1 (wa cn) = false) (hq : f1 129 = nI q1 ∧ q1 ≤ cn + 1) (hc : ∀ k b, 1 ≤ k → k ≤ 6 → f1 (130 + sdN b + k) = f (130 + sdN b + k) + nI (if decide (c1 = k) && decide ((!wa cn) = b) then 1 else 0)) (hc8 : c1 < 8)
    (hN1 : cn + 1 < N1) (hNi : ∀ i, i < N1 → i ≠ cn + 1 → i < N) (hve : ∀ i, i ≤ cn → ve1 i = ve i) (hve1 : ve1 (cn + 1) = kVer (va_up K (cn + 1) K1) (va_up pp (cn + 1) p1) (va_up w (cn + 1) w1) (va_up bk (cn + 1) b1) (va_up wa (cn + 1) (!wa cn)) (va_up qu (cn + 1) q1) (cn + 1)) (hr1 : ∀ k, k < 146 * (cn + 1) → rw1 k = rw k) (hr2 : ∀ k, k < 146 → rw1 (146 * (cn + 1) + k) = f1 k) :
    PS false (cn + 1) N1 (va_up K (cn + 1) K1) (va_up pp (cn + 1) p1) (va_up w (cn + 1) w1) (va_up bk (cn + 1) b1) (va_up wa (cn + 1) (!wa cn)) (va_up ca (cn + 1) c1) (va_up qu (cn + 1) q1) ve1 rw1 f1 (mOutc rw1 f1 (cn + 1)) := by
  obtain ⟨⟨g1, g2, g3, g4⟩, hR, ⟨ho, ho2⟩, -, hpl⟩ := h
  obtain ⟨hrows, hag⟩ := hpl rfl
  have hag1 : Agr f1 (rowN rw1 (cn + 1)) := fun j hj => (hr2 j hj).symm
  have hagi : ∀ i, i ≤ cn → Agr (rowN rw i) (rowN rw1 i) := fun i hi j hj => (hr1 _ (by have := Nat.mul_le_mul_left 146 hi; omega)).symm
  have hR1 : RowOk f1 (va_up K (cn + 1) K1) (va_up pp (cn + 1) p1) (va_up w (cn + 1) w1) (va_up bk (cn + 1) b1) (va_up wa (cn + 1) (!wa cn)) (va_up ca (cn + 1) c1) (va_up qu (cn + 1) q1) (cn + 1) := by
    refine ⟨?_, ?_, fun k b k1 k6 => ?_⟩
    · rw [up_eq, up_eq, up_eq, up_eq, up_eq]; exact hP
    · rw [up_eq]; exact hq
    · rw [hc k b k1 k6, hR.2.2 k b k1 k6, kCap_s, up_eq, up_eq, nI_add, kCap_cg (ca := ca) (wa := wa) (ca2 := va_up ca (cn + 1) c1) (wa2 := va_up wa (cn + 1) (!wa cn)) k b cn (fun j hj => ⟨(up_ne (by omega)).symm, (up_ne (by omega)).symm⟩)]
  have hRi : ∀ i, i ≤ cn + 1 → RowOk (rowN rw1 i) (va_up K (cn + 1) K1) (va_up pp (cn + 1) p1) (va_up w (cn + 1) w1) (va_up bk (cn + 1) b1) (va_up wa (cn + 1) (!wa cn)) (va_up ca (cn + 1) c1) (va_up qu (cn + 1) q1) i := by
    intro i hi
    by_cases e : i = cn + 1
    · rw [e]; exact hR1.cg hag1
    · exact ((hrows i (by omega)).1.cg (hagi i (by omega))).up (by omega)
  have hout := g_out (rw := rw1) (fun i hi => (hRi i hi).1.1) hR1 hk (by omega)
  refine ⟨⟨hN1, ?_, ?_, fun i hi => ?_⟩, hR1, ⟨?_, ?_⟩, (fun h => by cases h), fun _ => ⟨fun i hi => ⟨hRi i hi, ?_, ?_⟩, hag1⟩⟩
  · rw [up_ne (by omega)]; exact g2
  · rw [up_ne (by omega)]; exact g3
  · by_cases e : i = cn + 1
    · rw [e, up_eq]; exact hc8
    · rw [up_ne e]; exact g4 i (hNi i hi e)
  · rw [hve1]; exact hout.symm
  · rw [hve1]; exact kVer_le _ _ _ _ _ _ _
  · by_cases e : i = cn + 1
    · subst e
      refine ⟨hk.cg hag1, ?_⟩
      rw [up_eq, up_eq, up_eq, up_eq, Bool.not_not]; exact hch
    · exact ((hrows i (by omega)).2.1.cg (hagi i (by omega))).up (by omega)
  · by_cases e : i = cn + 1
    · subst e; exact hve1
    · rw [hve i (by omega), (hrows i (by omega)).2.2]
      exact kVer_cg i (fun j hj => ⟨(up_ne (by omega)).symm, (up_ne (by omega)).symm, (up_ne (by omega)).symm, (up_ne (by omega)).symm, (up_ne (by omega)).symm⟩) (up_ne (by omega)).symm
/-- taken back -/
theorem ps_back {N oc : Nat} {ve : Nat → Nat} {rw : Nat → Int32} (h : PS false cn N K pp w bk wa ca qu ve rw f oc) (h0 : 0 < cn) (hcn : cn < 2 ^ 20) : PS false (cn - 1) N K pp w bk wa ca qu ve rw (rowN rw (cn - 1)) (mOutc rw (rowN rw (cn - 1)) (cn - 1)) := by
  obtain ⟨⟨g1, g2, g3, g4⟩, hR, ⟨ho, ho2⟩, -, hpl⟩ := h
  obtain ⟨hrows, hag⟩ := hpl rfl
  obtain ⟨r1, r2, r3⟩ := hrows (cn - 1) (by omega)
  have hout := g_out (rw := rw) (fun i hi => (hrows i (by omega)).1.1.1) r1 r2.1 (by omega)
  exact ⟨⟨by omega, g2, g3, g4⟩, r1, ⟨by rw [r3]; exact hout.symm, by rw [r3]; exact kVer_le _ _ _ _ _ _ _⟩, (fun h => by cases h), fun _ => ⟨fun i hi => hrows i (by omega), fun _ _ => rfl⟩⟩
end ACT
