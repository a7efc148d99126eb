/-! ===== the keeping of a position, and what rests on it ===== -/
theorem ne_none {M : MP} {a q : Nat} {e : va_E} (ha : M a = some e) (hq : M q = none) : a ≠ q := fun h => by rw [h, hq] at ha; cases ha
theorem cpy_step0 (f g : Nat → Int32) (k : Nat) : upd (va_cpy f g 0 0 k) k (f k) = va_cpy f g 0 0 (k + 1) := by
  have h := cpy_step f g 0 0 k
  rwa [Nat.zero_add] at h
theorem cpy_lo {f g : Nat → Int32} {sp dp n k : Nat} (h : k < dp) : va_cpy f g sp dp n k = g k := by unfold va_cpy; rw [if_neg (by omega)]
theorem cpy_in {f g : Nat → Int32} {dp n k : Nat} (h : k < n) : va_cpy f g 0 dp n (dp + k) = f k := by unfold va_cpy; rw [if_pos ⟨by omega, by omega⟩]; congr 1; omega
def MoKept (cI : ClassId) (M M' : MP) (A : Nat → Prop) (mo ro no fi se t3 le od th ac : Nat) (su : Bool) (nr : Nat) (rw f g2 g3 lf : Nat → Int32) : Prop :=
  ∃ (ro' nr' : Nat) (rw' g1 : Nat → Int32), MoAt cI M' mo ro' no fi se t3 le od th ac (mOutc rw' f ac) su nr' rw' f g1 g2 g3 lf ∧ Keep M M' (OwM mo ro no fi se t3) ∧ RoRel M A ro nr ac ro' nr' rw f rw'
theorem MoKept.dn {cI : ClassId} {M M' : MP} {A : Nat → Prop} {mo ro no fi se t3 le od th ac nr a : Nat} {su : Bool} {rw f g2 g3 lf : Nat → Int32} {x : va_E} (h : MoKept cI (mu M a x) M' A mo ro no fi se t3 le od th ac su nr rw f g2 g3 lf) (ha : OwM mo ro no fi se t3 a) : MoKept cI M M' A mo ro no fi se t3 le od th ac su nr rw f g2 g3 lf := by
  obtain ⟨ro', nr', rw', g1, h1, h2, h3, h4, h5, h6⟩ := h
  refine ⟨ro', nr', rw', g1, h1, fun b e hb hn => h2 b e ((mu_n (fun z => hn (by rw [z]; exact ha))).trans hb) hn, h3, h4, h5, ?_⟩
  rcases h6 with h6 | ⟨h6, h7⟩
  · exact Or.inl h6
  · exact Or.inr ⟨mu_none h6, h7⟩
theorem WfP_upd {f : Nat → Int32} {k : Nat} {x : Int32} (h : WfP f) (hk : 64 ≤ k) : WfP (upd f k x) := fun j hj => by
  unfold pcN; rw [upd_n (by omega)]; exact h j hj
theorem WfP_upd2 {f : Nat → Int32} {k n : Nat} (h : WfP f) (hn : n < 15) : WfP (upd f k (nI n)) := fun j hj => by
  unfold pcN
  by_cases hk : j = k
  · subst hk; rw [upd_s]; exact ⟨by rw [nI_clamp (by omega)], by rw [nI_clamp (by omega)]; exact hn⟩
  · rw [upd_n hk]; exact h j hj
theorem WfP_eq {f g : Nat → Int32} (h : WfP f) (e : ∀ j, j < 64 → g j = f j) : WfP g := fun j hj => by unfold pcN; rw [e j hj]; exact h j hj
theorem WfB_eq {f g : Nat → Int32} (h : WfB f) (e : ∀ j, j < 64 → g (64 + j) = f (64 + j)) : WfB g := fun j hj => by rw [e j hj]; exact h j hj
theorem WfP_tie {f : Nat → Int32} {a b : Nat} (h : WfP f) : WfP (mTie f a b) := WfP_upd (WfP_upd h (by omega)) (by omega)
theorem WfP_untie {f : Nat → Int32} {j : Nat} (h : WfP f) : WfP (mUntie f j) := by
  unfold mUntie; split
  · exact h
  · exact WfP_upd (WfP_upd h (by omega)) (by omega)
theorem WfP_cap {f : Nat → Int32} {b : Nat} (h : WfP f) : WfP (mCap f b) := by
  unfold mCap; split
  · exact h
  · exact WfP_untie (WfP_upd h (by omega))
theorem sdX_pc {n : Nat} (h : n < 15) : sdX (nI n) + 2 < 15 := by have := sdX_le (nI n); omega
theorem WfP_newp {f : Nat → Int32} {a b : Nat} (h : WfP f) (ha : a < 64) : ∃ n, n < 15 ∧ mNewp f a b = nI n := by
  have h1 : (f a &&& nI 8) + nI 2 = nI (sdX (f a) + 2) := by rw [and8, nI_add]
  have h2 := sdX_le (f a)
  unfold mNewp
  split
  · split
    · exact ⟨_, by omega, h1⟩
    · split
      · exact ⟨_, by omega, h1⟩
      · exact ⟨_, (h a ha).2, (h a ha).1⟩
  · exact ⟨_, (h a ha).2, (h a ha).1⟩
theorem WfP_mid {f : Nat → Int32} {a b : Nat} (h : WfP f) (ha : a < 64) : WfP (mMid f a b) := by
  obtain ⟨n, hn, e⟩ := WfP_newp (b := b) h ha
  unfold mMid
  rw [e]
  exact WfP_upd2 (WfP_upd2 (WfP_upd (WfP_cap h) (by omega)) hn) (by omega)
theorem WfP_bnd {f : Nat → Int32} {a b : Nat} (h : WfP f) : WfP (mBnd f a b) := by
  unfold mBnd; split
  · exact h
  · exact WfP_tie (WfP_untie h)
theorem WfP_flip {f : Nat → Int32} (h : WfP f) : WfP (mFlip f) := WfP_upd h (by omega)
theorem WfB_flip {f : Nat → Int32} (h : WfB f) : WfB (mFlip f) := WfB_upd h (by omega)
theorem WfP_apply {f : Nat → Int32} {a b : Nat} (h : WfP f) (ha : a < 64) : WfP (mApply f a b) := WfP_flip (WfP_bnd (WfP_mid h ha))
theorem mSide_flip {f g : Nat → Int32} (h : WfS f) (e : g 128 = f 128) : WfS (mFlip g) ∧ mSide (mFlip g) = 8 - mSide f := by
  have h1 : mFlip g 128 = nI 8 - f 128 := by unfold mFlip; rw [upd_s, e]
  unfold WfS mSide at *
  rw [h1]
  by_cases h2 : f 128 = nI 8
  · rw [if_pos h2, h2]; decide
  · rw [if_neg h2] at h ⊢
    rw [h]; decide
theorem clamp_lt {f : Nat → Int32} (hB : WfB f) {j : Nat} (hj : j < 64) : (f (64 + j)).toNatClampNeg < 64 := clamp_in (hB j hj)
theorem tie_128 {f : Nat → Int32} {a b : Nat} (ha : a < 64) (hb : b < 64) : mTie f a b 128 = f 128 := by
  unfold mTie; rw [upd_n (by omega), upd_n (by omega)]
theorem untie_hi {f : Nat → Int32} {j k : Nat} (hB : WfB f) (hj : j < 64) (hk : 128 ≤ k) : mUntie f j k = f k := by
  have := clamp_lt hB hj
  unfold mUntie; split
  · rfl
  · rw [upd_n (by omega), upd_n (by omega)]
theorem cap_128 {f : Nat → Int32} {b : Nat} (hB : WfB f) (hb : b < 64) : mCap f b 128 = f 128 := by
  unfold mCap; split
  · rfl
  · rw [untie_hi (WfB_upd hB (by omega)) hb (Nat.le_refl _), upd_n (by omega)]
theorem mid_128 {f : Nat → Int32} {a b : Nat} (hB : WfB f) (ha : a < 64) (hb : b < 64) : mMid f a b 128 = f 128 := by
  unfold mMid; rw [upd_n (by omega), upd_n (by omega), upd_n (by omega), cap_128 hB hb]
theorem bnd_128 {f : Nat → Int32} {a b : Nat} (hB : WfB f) (ha : a < 64) (hb : b < 64) : mBnd f a b 128 = f 128 := by
  have := clamp_lt hB ha
  unfold mBnd; split
  · rfl
  · rw [tie_128 hb this, untie_hi hB ha (Nat.le_refl _)]
theorem apply_side {f : Nat → Int32} {a b : Nat} (h : WfR f) (ha : a < 64) (hb : b < 64) : WfS (mApply f a b) ∧ mSide (mApply f a b) = 8 - mSide f :=
  mSide_flip h.2.2 (by rw [bnd_128 (WfB_mid h.2.1 ha hb) ha hb, mid_128 h.2.1 ha hb])
theorem WfR_apply {f : Nat → Int32} {a b : Nat} (h : WfR f) (ha : a < 64) (hb : b < 64) : WfR (mApply f a b) := ⟨WfP_apply h.1 ha, WfB_apply h.2.1 ha hb, (apply_side h ha hb).1⟩
/-- the row behind an action that is no move -/
def mEnd (f : Nat → Int32) : Nat → Int32 := mFlip (upd f 129 (f 129 + nI 1))
theorem WfR_end {f : Nat → Int32} (h : WfR f) : WfR (mEnd f) := ⟨WfP_flip (WfP_upd h.1 (by omega)), WfB_flip (WfB_upd h.2.1 (by omega)), (mSide_flip h.2.2 (upd_n (by omega))).1⟩
