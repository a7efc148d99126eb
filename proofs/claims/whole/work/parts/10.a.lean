/-! ===== counting the bits of a set ===== -/
def popN : Nat → Nat → Nat
  | 0, _ => 0
  | n + 1, x => x % 2 + popN n (x / 2)
def pcnt (x : BitVec 64) : Nat := mCntL (fun j => x.getLsbD j) 64 0 0
theorem popN_split : ∀ n m x, popN (n + m) x = popN n (x % 2 ^ n) + popN m (x / 2 ^ n)
  | 0, m, x => by rw [Nat.zero_add]; unfold popN; simp
  | n + 1, m, x => by
    rw [show n + 1 + m = (n + m) + 1 by omega]
    show x % 2 + popN (n + m) (x / 2) = (x % 2 ^ (n + 1) % 2 + popN n (x % 2 ^ (n + 1) / 2)) + popN m (x / 2 ^ (n + 1))
    rw [popN_split n m (x / 2)]
    have e1 : x % 2 ^ (n + 1) % 2 = x % 2 := Nat.mod_mod_of_dvd x (by rw [Nat.pow_succ]; exact Nat.dvd_mul_left 2 (2 ^ n))
    have e2 : x % 2 ^ (n + 1) / 2 = x / 2 % 2 ^ n := by rw [Nat.pow_succ, Nat.mul_comm (2 ^ n) 2, Nat.mod_mul_right_div_self]
    have e3 : x / 2 / 2 ^ n = x / 2 ^ (n + 1) := by rw [Nat.div_div_eq_div_mul, Nat.pow_succ, Nat.mul_comm]
    rw [e1, e2, e3]; omega
theorem popN_cnt (N : Nat) : ∀ n i r, mCntL (fun j => N.testBit j) n i r = r + popN n (N / 2 ^ i)
  | 0, i, r => rfl
  | n + 1, i, r => by
    unfold mCntL
    rw [popN_cnt N n (i + 1)]
    show _ = r + (N / 2 ^ i % 2 + popN n (N / 2 ^ i / 2))
    have e3 : N / 2 ^ i / 2 = N / 2 ^ (i + 1) := by rw [Nat.div_div_eq_div_mul, Nat.pow_succ]
    rw [e3]
    have e4 : N.testBit i = decide (N / 2 ^ i % 2 = 1) := Nat.testBit_eq_decide_div_mod_eq
    rw [e4]
    have := Nat.mod_two_eq_zero_or_one (N / 2 ^ i)
    by_cases h : N / 2 ^ i % 2 = 1
    · rw [decide_eq_true h, if_pos rfl, h]; omega
    · rw [decide_eq_false h, if_neg (by decide)]; omega
theorem pcnt_pop (x : BitVec 64) : pcnt x = popN 64 x.toNat := by
  have h := popN_cnt x.toNat 64 0 0
  rw [Nat.zero_add, Nat.pow_zero, Nat.div_one] at h
  rw [← h]
  rfl
theorem land_by (a b : Nat) : a &&& b = (a % 256 &&& b % 256) + 256 * (a / 256 &&& b / 256) := by
  have h1 : (a &&& b) % 2 ^ 8 = (a % 2 ^ 8) &&& (b % 2 ^ 8) := Nat.and_mod_two_pow
  have h2 : (a &&& b) / 2 ^ 8 = (a / 2 ^ 8) &&& (b / 2 ^ 8) := Nat.and_div_two_pow
  have h3 := Nat.mod_add_div (a &&& b) (2 ^ 8)
  rw [h1, h2] at h3
  exact h3.symm
def mk8 (c : Nat) : Nat → Nat
  | 0 => 0
  | n + 1 => c + 256 * mk8 c n
def swA (n x : Nat) : Nat := x - (x / 2 &&& mk8 0x55 n)
def swB (n x : Nat) : Nat := (x &&& mk8 0x33 n) + (x / 4 &&& mk8 0x33 n)
def swC (n x : Nat) : Nat := (x + x / 16) &&& mk8 0x0f n
def swT (n x : Nat) : Nat := swC n (swB n (swA n x))
theorem sw_t1 : ∀ v, v < 256 → ∀ k, k < 2 → ((v / 2 + 128 * k) &&& 0x55) = (v / 2 &&& 0x55) := by decide +kernel
theorem sw_t2 : ∀ v, v < 256 → ∀ k, k < 4 → ((v / 4 + 64 * k) &&& 0x33) = (v / 4 &&& 0x33) := by decide +kernel
theorem sw_t3 : ∀ v, v < 256 → v % 16 ≤ 4 → v / 16 ≤ 4 → ∀ k, k ≤ 4 → v + v / 16 + 16 * k < 256 ∧ ((v + v / 16 + 16 * k) &&& 0x0f) = v % 16 + v / 16 := by decide +kernel
theorem sw_tA : ∀ v, v < 256 → (v / 2 &&& 0x55) ≤ v ∧ v - (v / 2 &&& 0x55) < 256 ∧ (v - (v / 2 &&& 0x55) &&& 0x33) + ((v - (v / 2 &&& 0x55)) / 4 &&& 0x33) < 256 ∧ ((v - (v / 2 &&& 0x55) &&& 0x33) + ((v - (v / 2 &&& 0x55)) / 4 &&& 0x33)) % 16 ≤ 4 ∧ ((v - (v / 2 &&& 0x55) &&& 0x33) + ((v - (v / 2 &&& 0x55)) / 4 &&& 0x33)) / 16 ≤ 4 ∧ ((v - (v / 2 &&& 0x55) &&& 0x33) + ((v - (v / 2 &&& 0x55)) / 4 &&& 0x33)) % 16 + ((v - (v / 2 &&& 0x55) &&& 0x33) + ((v - (v / 2 &&& 0x55)) / 4 &&& 0x33)) / 16 = popN 8 v := by decide +kernel
theorem sw_and (c n v y : Nat) (hc : c < 256) (hv : v < 256) : ((v + 256 * y) &&& mk8 c (n + 1)) = (v &&& c) + 256 * (y &&& mk8 c n) := by
  have e : mk8 c (n + 1) = c + 256 * mk8 c n := rfl
  rw [land_by, e, show (v + 256 * y) % 256 = v by omega, show (v + 256 * y) / 256 = y by omega, show (c + 256 * mk8 c n) % 256 = c by omega, show (c + 256 * mk8 c n) / 256 = mk8 c n by omega]
theorem swA_s (n v y : Nat) (hv : v < 256) : swA (n + 1) (v + 256 * y) = (v - (v / 2 &&& 0x55)) + 256 * swA n y := by
  unfold swA
  have h1 := (sw_tA v hv).1
  have h2 : (y / 2 &&& mk8 0x55 n) ≤ y := Nat.le_trans Nat.and_le_left (Nat.div_le_self _ _)
  rw [show (v + 256 * y) / 2 = (v / 2 + 128 * (y % 2)) + 256 * (y / 2) by omega, sw_and _ _ _ _ (by decide) (by omega), sw_t1 v hv _ (Nat.mod_lt _ (by decide))]
  omega
theorem swB_s (n v y : Nat) (hv : v < 256) : swB (n + 1) (v + 256 * y) = ((v &&& 0x33) + (v / 4 &&& 0x33)) + 256 * swB n y := by
  unfold swB
  rw [show (v + 256 * y) / 4 = (v / 4 + 64 * (y % 4)) + 256 * (y / 4) by omega, sw_and 0x33 n v y (by decide) hv, sw_and 0x33 n (v / 4 + 64 * (y % 4)) (y / 4) (by decide) (by omega), sw_t2 v hv _ (Nat.mod_lt _ (by decide))]
  omega
theorem swC_s (n v y : Nat) (hv : v < 256) (h1 : v % 16 ≤ 4) (h2 : v / 16 ≤ 4) (h3 : y % 16 ≤ 4) : swC (n + 1) (v + 256 * y) = (v % 16 + v / 16) + 256 * swC n y := by
  unfold swC
  have h4 := sw_t3 v hv h1 h2 (y % 16) h3
  rw [show v + 256 * y + (v + 256 * y) / 16 = (v + v / 16 + 16 * (y % 16)) + 256 * (y + y / 16) by omega, sw_and _ _ _ _ (by decide) h4.1, h4.2]
theorem swB_0 (y : Nat) : swB 0 y = 0 := by unfold swB mk8; rw [Nat.and_zero, Nat.and_zero]
theorem sw_n4 (n y : Nat) : swB n (swA n y) % 16 ≤ 4 := by
  cases n with
  | zero => rw [swB_0]; decide
  | succ n =>
    have h := sw_tA (y % 256) (Nat.mod_lt _ (by decide))
    rw [show y = y % 256 + 256 * (y / 256) by omega, swA_s n _ _ (Nat.mod_lt _ (by decide)), swB_s n _ _ h.2.1]
    omega
theorem swT_s (n v y : Nat) (hv : v < 256) : swT (n + 1) (v + 256 * y) = popN 8 v + 256 * swT n y := by
  have h := sw_tA v hv
  unfold swT
  rw [swA_s n v y hv, swB_s n _ _ h.2.1, swC_s n _ _ h.2.2.1 h.2.2.2.1 h.2.2.2.2.1 (sw_n4 n y), h.2.2.2.2.2]
theorem swT_0 (y : Nat) : swT 0 y = 0 := by unfold swT swC mk8; rw [Nat.and_zero]
theorem popN_le : ∀ n x, popN n x ≤ n
  | 0, _ => Nat.le_refl _
  | n + 1, x => by
    show x % 2 + popN n (x / 2) ≤ n + 1
    have := popN_le n (x / 2)
    omega
theorem sw_pop (n x : Nat) : ∃ p y, p ≤ 8 ∧ swT (n + 1) x = p + 256 * swT n y ∧ (∀ m, popN (8 + m) x = p + popN m y) := by
  refine ⟨popN 8 (x % 256), x / 256, popN_le 8 _, ?_, fun m => popN_split 8 m x⟩
  have h := swT_s n (x % 256) (x / 256) (Nat.mod_lt _ (by decide))
  rw [show x % 256 + 256 * (x / 256) = x by omega] at h
  exact h
def sw4 (x : Nat) : Nat := x + x / 256
def sw5 (x : Nat) : Nat := x + x / 65536
def sw6 (x : Nat) : Nat := x + x / 4294967296
theorem sw_all (x : Nat) : sw6 (sw5 (sw4 (swT 8 x))) % 128 = popN 64 x ∧ swT 8 x < 2 ^ 60 := by
  obtain ⟨p0, y0, h0, a0, b0⟩ := sw_pop 7 x
  obtain ⟨p1, y1, h1, a1, b1⟩ := sw_pop 6 y0
  obtain ⟨p2, y2, h2, a2, b2⟩ := sw_pop 5 y1
  obtain ⟨p3, y3, h3, a3, b3⟩ := sw_pop 4 y2
  obtain ⟨p4, y4, h4, a4, b4⟩ := sw_pop 3 y3
  obtain ⟨p5, y5, h5, a5, b5⟩ := sw_pop 2 y4
  obtain ⟨p6, y6, h6, a6, b6⟩ := sw_pop 1 y5
  obtain ⟨p7, y7, h7, a7, b7⟩ := sw_pop 0 y6
  rw [swT_0] at a7
  have e : popN 64 x = p0 + (p1 + (p2 + (p3 + (p4 + (p5 + (p6 + p7)))))) := by
    rw [show 64 = 8 + 56 from rfl, b0, show 56 = 8 + 48 from rfl, b1, show 48 = 8 + 40 from rfl, b2, show 40 = 8 + 32 from rfl, b3, show 32 = 8 + 24 from rfl, b4, show 24 = 8 + 16 from rfl, b5, show 16 = 8 + 8 from rfl, b6, show 8 = 8 + 0 from rfl, b7]
    rfl
  rw [e]
  have ex : swT 8 x = p0 + 256 * (p1 + 256 * (p2 + 256 * (p3 + 256 * (p4 + 256 * (p5 + 256 * (p6 + 256 * p7)))))) := by
    rw [a0, a1, a2, a3, a4, a5, a6, a7]
    omega
  rw [ex]
  constructor
  · have e4 : sw4 (p0 + 256 * (p1 + 256 * (p2 + 256 * (p3 + 256 * (p4 + 256 * (p5 + 256 * (p6 + 256 * p7))))))) = (p0 + p1) + 256 * ((p1 + p2) + 256 * ((p2 + p3) + 256 * ((p3 + p4) + 256 * ((p4 + p5) + 256 * ((p5 + p6) + 256 * ((p6 + p7) + 256 * p7)))))) := by
      unfold sw4; omega
    rw [e4]
    have e5 : sw5 ((p0 + p1) + 256 * ((p1 + p2) + 256 * ((p2 + p3) + 256 * ((p3 + p4) + 256 * ((p4 + p5) + 256 * ((p5 + p6) + 256 * ((p6 + p7) + 256 * p7))))))) = ((p0 + p1) + (p2 + p3)) + 256 * (((p1 + p2) + (p3 + p4)) + 256 * (((p2 + p3) + (p4 + p5)) + 256 * (((p3 + p4) + (p5 + p6)) + 256 * (((p4 + p5) + (p6 + p7)) + 256 * (((p5 + p6) + p7) + 256 * ((p6 + p7) + 256 * p7)))))) := by
      unfold sw5; omega
    rw [e5]
    unfold sw6
    have e6 : ((p0 + p1) + (p2 + p3) + 256 * (((p1 + p2) + (p3 + p4)) + 256 * (((p2 + p3) + (p4 + p5)) + 256 * (((p3 + p4) + (p5 + p6)) + 256 * (((p4 + p5) + (p6 + p7)) + 256 * (((p5 + p6) + p7) + 256 * ((p6 + p7) + 256 * p7))))))) / 4294967296 = ((p4 + p5) + (p6 + p7)) + 256 * (((p5 + p6) + p7) + 256 * ((p6 + p7) + 256 * p7)) := by omega
    rw [e6]
    omega
  · omega
def swar (x : BitVec 64) : BitVec 64 :=
  let a := x - ((x >>> 1) &&& 6148914691236517205#64)
  let b := (a &&& 3689348814741910323#64) + ((a >>> 2) &&& 3689348814741910323#64)
  (b + (b >>> 4)) &&& 1085102592571150095#64
theorem swar_n (x : BitVec 64) : (swar x).toNat = swT 8 x.toNat := by
  have hx := x.isLt
  unfold swar
  dsimp only
  have a1 : (x - ((x >>> 1) &&& 6148914691236517205#64)).toNat = swA 8 x.toNat := by
    have h2 : (x.toNat / 2 &&& mk8 0x55 8) ≤ x.toNat := Nat.le_trans Nat.and_le_left (Nat.div_le_self _ _)
    have h3 : ((x >>> 1) &&& 6148914691236517205#64).toNat = (x.toNat / 2 &&& mk8 0x55 8) := by
      rw [BitVec.toNat_and, BitVec.toNat_ushiftRight, Nat.shiftRight_eq_div_pow]; rfl
    rw [BitVec.toNat_sub_of_le (by show _ ≤ _; rw [BitVec.le_def, h3]; exact h2), h3]
    rfl
  have hA : swA 8 x.toNat < 2 ^ 64 := a1 ▸ BitVec.isLt _
  generalize (x - ((x >>> 1) &&& 6148914691236517205#64)) = a at a1 ⊢
  have b1 : ((a &&& 3689348814741910323#64) + ((a >>> 2) &&& 3689348814741910323#64)).toNat = swB 8 (swA 8 x.toNat) := by
    have m1 : mk8 0x33 8 = 3689348814741910323 := rfl
    have l1 : (swA 8 x.toNat &&& mk8 0x33 8) ≤ mk8 0x33 8 := Nat.and_le_right
    have l2 : (swA 8 x.toNat / 4 &&& mk8 0x33 8) ≤ mk8 0x33 8 := Nat.and_le_right
    have e1 : (a &&& 3689348814741910323#64).toNat = (swA 8 x.toNat &&& mk8 0x33 8) := by rw [BitVec.toNat_and, a1]; rfl
    have e2 : ((a >>> 2) &&& 3689348814741910323#64).toNat = (swA 8 x.toNat / 4 &&& mk8 0x33 8) := by rw [BitVec.toNat_and, BitVec.toNat_ushiftRight, Nat.shiftRight_eq_div_pow, a1]; rfl
    rw [BitVec.toNat_add, e1, e2, Nat.mod_eq_of_lt (by rw [m1] at *; omega)]
    rfl
  have hB : swB 8 (swA 8 x.toNat) ≤ 2 * 3689348814741910323 := by
    have m1 : mk8 0x33 8 = 3689348814741910323 := rfl
    have l1 : (swA 8 x.toNat &&& mk8 0x33 8) ≤ mk8 0x33 8 := Nat.and_le_right
    have l2 : (swA 8 x.toNat / 4 &&& mk8 0x33 8) ≤ mk8 0x33 8 := Nat.and_le_right
    unfold swB
    rw [m1] at *; omega
  generalize ((a &&& 3689348814741910323#64) + ((a >>> 2) &&& 3689348814741910323#64)) = b at b1 ⊢
  show ((b + (b >>> 4)) &&& 1085102592571150095#64).toNat = _
  rw [BitVec.toNat_and, BitVec.toNat_add, BitVec.toNat_ushiftRight, Nat.shiftRight_eq_div_pow, b1, Nat.mod_eq_of_lt (by omega)]
  rfl
def swar6 (s : BitVec 64) : BitVec 64 :=
  let a := s + (s >>> 8)
  let b := a + (a >>> 16)
  b + (b >>> 32)
theorem swar_pc (x : BitVec 64) : (swar6 (swar x)).toNat % 128 = pcnt x := by
  obtain ⟨h1, h2⟩ := sw_all x.toNat
  rw [pcnt_pop, ← h1]
  have hs := swar_n x
  generalize swar x = s at hs
  congr 1
  unfold swar6 sw6 sw5 sw4
  have q1 : (s + s >>> 8).toNat = s.toNat + s.toNat / 256 := by
    rw [BitVec.toNat_add, BitVec.toNat_ushiftRight, Nat.shiftRight_eq_div_pow, Nat.mod_eq_of_lt (by omega)]
  show ((s + s >>> 8) + (s + s >>> 8) >>> 16 + ((s + s >>> 8) + (s + s >>> 8) >>> 16) >>> 32).toNat = _
  generalize s + s >>> 8 = a at q1
  have q2 : (a + a >>> 16).toNat = a.toNat + a.toNat / 65536 := by
    rw [BitVec.toNat_add, BitVec.toNat_ushiftRight, Nat.shiftRight_eq_div_pow, Nat.mod_eq_of_lt (by omega)]
  generalize a + a >>> 16 = b at q2
  rw [BitVec.toNat_add, BitVec.toNat_ushiftRight, Nat.shiftRight_eq_div_pow, Nat.mod_eq_of_lt (by omega), q2, q1, hs]
theorem pcnt_le (x : BitVec 64) : pcnt x ≤ 64 := by rw [pcnt_pop]; exact popN_le _ _
theorem bL_lN (x : BitVec 64) : bL x = lN x.toNat := by
  apply Int64.toBitVec_inj.1
  show x = BitVec.ofNat 64 x.toNat
  rw [BitVec.ofNat_toNat]; simp
theorem pcnt_fin (x : BitVec 64) : (bL (swar6 (swar x))).toInt32 &&& nI 127 = nI (pcnt x) := by
  rw [bL_lN, lN_i, pk_and _ 7 (by decide), ← swar_pc]
  congr 1
  show (BitVec.ofNat 32 (swar6 (swar x)).toNat).toNat % 128 = _
  rw [BitVec.toNat_ofNat]
  omega
/-! ===== strengths ===== -/
def mWt (f : Nat → Int32) (j : Nat) : UInt32 :=
  if mKindN f j = 2 then 1092091904 else if mKindN f j = 3 then 1084227584 else if mKindN f j = 4 then 1079194419 else if mKindN f j = 5 then (if f (64 + j) = -1 then 1078774989 else 1080872141) else if mKindN f j = 6 then FP.fconst1 else FP.fconst0
def mStP (f : Nat → Int32) (sd : Nat) : Nat → UInt32
  | 0 => FP.fconst0
  | i + 1 => if mIsOf f i sd then FP.fadd (mStP f sd i) (mWt f i) else mStP f sd i
def mStM (f : Nat → Int32) (sd : Nat) : UInt32 := FP.fmul 1036831949 (FP.i2f (nI (pcnt (mAttSet f sd))))
def mSth (f : Nat → Int32) (sd : Nat) : UInt32 := FP.fadd (mStP f sd 64) (mStM f sd)
def StOk (f : Nat → Int32) (sd : Nat) : Prop := (∀ i, i < 64 → mIsOf f i sd = true → vf_n32 (FP.fadd (mStP f sd i) (mWt f i))) ∧ vf_n32 (mStM f sd) ∧ vf_n32 (mSth f sd)
theorem mStP_t {f : Nat → Int32} {sd i : Nat} (h : mIsOf f i sd = true) : FP.fadd (mStP f sd i) (mWt f i) = mStP f sd (i + 1) := by
  show _ = if mIsOf f i sd then FP.fadd (mStP f sd i) (mWt f i) else mStP f sd i
  rw [h, if_pos rfl]
theorem mStP_f {f : Nat → Int32} {sd i : Nat} (h : mIsOf f i sd = false) : mStP f sd i = mStP f sd (i + 1) := by
  show _ = if mIsOf f i sd then FP.fadd (mStP f sd i) (mWt f i) else mStP f sd i
  rw [h, if_neg (by decide)]
theorem vf_iff (r : UInt32) : vf_n32 r ↔ r.toNat % 2 ^ 31 ≤ 2139095040 := by
  unfold vf_n32
  rw [UInt32.le_iff_toNat_le, UInt32.toNat_and]
  show (r.toNat &&& (2 ^ 31 - 1)) ≤ 2139095040 ↔ _
  rw [Nat.and_two_pow_sub_one_eq_mod]
theorem vf_nn {r : UInt32} (h : vf_n32 r) : FP.Core.val32 r ≠ .nan := (FP.Core.ne_nan32 r).mpr ((vf_iff r).mp h)
theorem fcmp_sf {x : UInt32} (h : vf_n32 x) : Op.cmpValue (FP.fcmp x x) .l = nI 0 := by
  have h2 : FP.fcmp x x = some .eq := FP.Core.fcmp_self (vf_nn h)
  rw [h2]; rfl
theorem Met.ofWF {l : Launch} {y : MethodName} {ws ws' : List Cond} {rm : Room} {Pc : Array Value → State → Prop} {Qc : Array Value → State → Outcome → State → Prop} {mc ms : Nat} {free : Addr → Prop} {cc : ByteArray} {maxL : Nat} {ret : Option FieldType}
    (hy : plainFor y = true) (hw : ws = Cond.code y cc maxL ret :: ws')
    (body : ∀ p e s m args below meth c s₁, BodyLoose p l y (headSpec ws rm) cc maxL ret e s m args below meth c s₁ → c.maxLocals = maxL → Pc args s →
      W p l e (headSpec ws rm).room s m args below meth c s.heap [] 0 0 (MQ below Qc args s mc ms free) (entryFrame m args maxL)) : Met l y ws rm Pc Qc mc ms free := by
  refine MetFree.of_bodySF (code := cc) (maxLocals := maxL) (ret := ret) hy ?_ ?_
  · intro args s m h hn
    obtain ⟨meth, c, h1, h2, h3, h4, h5, h6, -, -⟩ := Cond.code_spec hn (atoms_spec (ws := ws) h _ (by rw [hw]; exact List.mem_cons_self))
    exact ⟨meth, c, h1, h2, h3, h4, h5, h6⟩
  · intro p e s m args below meth c s₁ B hml hP _
    have hh0 : s₁.heap = s.heap := by rw [B.state]; rfl
    obtain ⟨t, a1, o, b1, b2, b3⟩ := body p e s m args below meth c s₁ B hml hP s₁ hh0 (Stand.of_body B)
    exact ⟨t, o, a1, b1, b2, ⟨b3.1, b3.2⟩⟩
theorem rd_startF {l : Launch} {y : MethodName} {cc : ByteArray} {n d : Nat} {ret : Option FieldType} {D : va_G} {cI cJ : ClassId} {av : List Value} {M : MP} {Qc : Array Value → State → Outcome → State → Prop} (hy : plainFor y = true) (hn : (lg_sl av).length ≤ n)
    (body : ∀ (p : Program) (e : Env) (s : State) (m : MethodId) (args : Array Value) (below : List Frame) (meth : Method) (c : Code), p.tables.exec = Jvm.exec → c.code = cc → meth.sig.returnType = ret → c.maxLocals = n → s.vm.findClass y.cls = some m.cls → (∀ w ∈ AW, w.before args s = true) → meth.locks = false → KF D cI cJ s → HM D M s.heap →
      ∀ ls : Array Slot, lv_has ls n (lv_args 0 av) → W p l e (rmD d 0 0) s m args below meth c s.heap [] 0 0 (MQ below Qc args s 0 0 (fun _ => False)) (F0 m 0 ls [])) :
    Met l y (wsA y cc n ret) (rmD d 0 0) (PcR D cI cJ av M) Qc 0 0 (fun _ => False) := by
  refine Met.ofWF (cc := cc) (maxL := n) (ret := ret) hy rfl ?_
  intro p e s m args below meth c s₁ B hml hv
  obtain ⟨rfl, hK, hM⟩ := hv
  have hts := atoms_spec (ws := wsA y cc n ret) B.pre
  rw [lg_entry_eq]
  exact body p e s m _ below meth c B.exec B.bytes B.returns hml (findClass_of_methodNamed B.named) (fun w h => hts w (List.mem_cons_of_mem _ h)) B.notSynchronized hK hM _ (lv_entry av hn)
/-- the bits of a float that is a number -/
def flB (x : UInt32) : Int32 := x.toInt32
def DbOk (f : Nat → Int32) (sd : Nat) : Prop := vf_n64 (FP.f2d (mSth f sd))
def mBal (f : Nat → Int32) : UInt64 := FP.dsub (FP.f2d (mSth f 8)) (FP.f2d (mSth f 0))
