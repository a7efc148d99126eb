/-! ===== PURE 5: bonds, counts, set-up, strengths ===== -/
theorem cnt_ins {p : Nat → Bool} {j : Nat} (hp : p j = false) : ∀ n i r, mCntL (fun k => p k || decide (j = k)) n i r = mCntL p n i r + (if i ≤ j ∧ j < i + n then 1 else 0)
  | 0, i, r => by
    rw [if_neg (by omega)]; rfl
  | n + 1, i, r => by
    show mCntL (fun k => p k || decide (j = k)) n (i + 1) (if p i || decide (j = i) then r + 1 else r) = mCntL p n (i + 1) (if p i then r + 1 else r) + (if i ≤ j ∧ j < i + (n + 1) then 1 else 0)
    by_cases e : j = i
    · subst e
      rw [cnt_ins hp n, hp, decide_eq_true (rfl : j = j), Bool.or_true, if_pos (rfl : true = true), if_neg (show ¬ (j + 1 ≤ j ∧ j < j + 1 + n) by omega), if_pos (show j ≤ j ∧ j < j + (n + 1) by omega), if_neg (by decide), mCntL_acc p n _ (r + 1), mCntL_acc p n _ r]
      omega
    · rw [cnt_ins hp n, decide_eq_false e, Bool.or_false]
      by_cases h2 : i + 1 ≤ j ∧ j < i + 1 + n
      · rw [if_pos h2, if_pos (show i ≤ j ∧ j < i + (n + 1) by omega)]
      · rw [if_neg h2, if_neg (show ¬ (i ≤ j ∧ j < i + (n + 1)) by omega)]
theorem pc_ins {x : BitVec 64} {j : Nat} (hj : j < 64) (h : x.getLsbD j = false) : pcnt (x ||| kB j) = pcnt x + 1 := by
  have h1 := cnt_ins (p := fun k => x.getLsbD k) h 64 0 0
  rw [if_pos ⟨Nat.zero_le _, by omega⟩] at h1
  unfold pcnt
  rw [← h1]
  refine mCntL_cg 64 0 0 (fun k _ _ => ?_)
  rw [BitVec.getLsbD_or, kB_get hj]
theorem cnt_mono {p q : Nat → Bool} (h : ∀ k, p k = true → q k = true) : ∀ n i r, mCntL p n i r ≤ mCntL q n i r
  | 0, i, r => Nat.le_refl _
  | n + 1, i, r => by
    show mCntL p n (i + 1) _ ≤ mCntL q n (i + 1) _
    have h1 := cnt_mono h n (i + 1) (if p i then r + 1 else r)
    rw [mCntL_acc q n (i + 1) (if p i then r + 1 else r)] at h1
    rw [mCntL_acc q n (i + 1) (if q i then r + 1 else r)]
    have h2 : (if p i then r + 1 else r) ≤ (if q i then r + 1 else r) := by
      cases hp : p i
      · rw [if_neg (by decide)]; split <;> omega
      · rw [if_pos rfl, if_pos (h i hp)]; exact Nat.le_refl _
    omega
theorem pc_mono {x y : BitVec 64} (h : ∀ i, x.getLsbD i = true → y.getLsbD i = true) : pcnt x ≤ pcnt y := cnt_mono h 64 0 0
/-- sums over squares, and their turning -/
def sumN (g : Nat → Nat) : Nat → Nat
  | 0 => 0
  | n + 1 => sumN g n + g n
theorem sumN_cg {g g2 : Nat → Nat} : ∀ n, (∀ k, k < n → g k = g2 k) → sumN g n = sumN g2 n
  | 0, _ => rfl
  | n + 1, h => by unfold sumN; rw [sumN_cg n (fun k hk => h k (by omega)), h n (by omega)]
theorem sumN_add (g g2 : Nat → Nat) : ∀ n, sumN (fun k => g k + g2 k) n = sumN g n + sumN g2 n
  | 0 => rfl
  | n + 1 => by
    show sumN (fun k => g k + g2 k) n + (g n + g2 n) = (sumN g n + g n) + (sumN g2 n + g2 n)
    rw [sumN_add g g2 n]; omega
theorem sumN_0 : ∀ n, sumN (fun _ => 0) n = 0
  | 0 => rfl
  | n + 1 => by show sumN (fun _ => 0) n + 0 = 0; rw [sumN_0 n]
theorem sumN_sw (F : Nat → Nat → Nat) (m : Nat) : ∀ n, sumN (fun i => sumN (F i) m) n = sumN (fun j => sumN (fun i => F i j) n) m
  | 0 => (sumN_0 m).symm
  | n + 1 => by
    show sumN (fun i => sumN (F i) m) n + sumN (F n) m = sumN (fun j => sumN (fun i => F i j) n + F n j) m
    rw [sumN_add, sumN_sw F m n]
theorem sumN_one {q : Nat → Bool} {o : Nat} : ∀ n, o < n → (∀ k, k < n → (q k = true ↔ k = o)) → sumN (fun k => if q k then 1 else 0) n = 1
  | 0, h, _ => by omega
  | n + 1, h, hq => by
    show sumN (fun k => if q k then 1 else 0) n + (if q n then 1 else 0) = 1
    by_cases e : o = n
    · have hz : sumN (fun k => if q k then 1 else 0) n = 0 := by
        rw [sumN_cg (g2 := fun _ => 0) n (fun k hk => ?_), sumN_0]
        rw [if_neg (fun z => by have := (hq k (by omega)).mp z; omega)]
      rw [hz, if_pos ((hq n (by omega)).mpr e.symm)]
    · rw [sumN_one n (by omega) (fun k hk => hq k (by omega)), if_neg (fun z => e ((hq n (by omega)).mp z).symm)]
theorem cnt_sum (p : Nat → Bool) : ∀ n, mCntL p n 0 0 = sumN (fun k => if p k then 1 else 0) n
  | 0 => rfl
  | n + 1 => by
    rw [mCntL_add p n 1 0 0, cnt_sum p n, Nat.zero_add]
    show (if p n then sumN _ n + 1 else sumN _ n) = sumN _ n + (if p n then 1 else 0)
    split <;> rfl
/-- a pairing without fixed points: as many go up as go down -/
theorem inv_cnt {s : Nat → Bool} {o : Nat → Nat} {n : Nat} (h : ∀ j, j < n → s j = true → o j < n ∧ s (o j) = true ∧ o (o j) = j ∧ o j ≠ j) : mCntL s n 0 0 = 2 * mCntL (fun j => s j && decide (j < o j)) n 0 0 := by
  have h1 : mCntL s n 0 0 = mCntL (fun j => s j && decide (j < o j)) n 0 0 + mCntL (fun j => s j && decide (o j < j)) n 0 0 := by
    rw [cnt_sum, cnt_sum, cnt_sum, ← sumN_add]
    refine sumN_cg n (fun k hk => ?_)
    cases hs : s k
    · rfl
    · have h4 := (h k hk hs).2.2.2
      rcases Nat.lt_or_ge k (o k) with z | z
      · rw [decide_eq_true z, decide_eq_false (show ¬ o k < k by omega)]; rfl
      · rw [decide_eq_false (show ¬ k < o k by omega), decide_eq_true (show o k < k by omega)]; rfl
  have h2 : mCntL (fun j => s j && decide (j < o j)) n 0 0 = mCntL (fun j => s j && decide (o j < j)) n 0 0 := by
    rw [cnt_sum, cnt_sum]
    have e1 : sumN (fun k => if (s k && decide (k < o k)) then 1 else 0) n = sumN (fun k => sumN (fun j => if (s k && decide (k < o k)) && decide (j = o k) then 1 else 0) n) n := by
      refine sumN_cg n (fun k hk => ?_)
      cases hz : (s k && decide (k < o k))
      · rw [if_neg (by decide)]
        exact (sumN_0 n).symm
      · rw [if_pos rfl]
        rw [Bool.and_eq_true] at hz
        refine (sumN_one (o := o k) n (h k hk hz.1).1 (fun j _ => ?_)).symm
        rw [Bool.true_and, decide_eq_true_eq]
    have e2 : sumN (fun k => if (s k && decide (o k < k)) then 1 else 0) n = sumN (fun j => sumN (fun k => if (s k && decide (k < o k)) && decide (j = o k) then 1 else 0) n) n := by
      refine sumN_cg n (fun j hj => ?_)
      cases hz : (s j && decide (o j < j))
      · rw [if_neg (by decide)]
        rw [sumN_cg (g2 := fun _ => 0) n (fun k hk => ?_), sumN_0]
        refine if_neg (fun z => ?_)
        rw [Bool.and_eq_true, Bool.and_eq_true, decide_eq_true_eq, decide_eq_true_eq] at z
        obtain ⟨⟨z1, z2⟩, z3⟩ := z
        obtain ⟨q1, q2, q3, q4⟩ := h k hk z1
        rw [← z3] at q1 q2 q3 q4 z2
        rw [q2, q3, decide_eq_true z2] at hz
        cases hz
      · rw [if_pos rfl]
        rw [Bool.and_eq_true, decide_eq_true_eq] at hz
        obtain ⟨q1, q2, q3, q4⟩ := h j hj hz.1
        refine (sumN_one (o := o j) n q1 (fun k hk => ?_)).symm
        rw [Bool.and_eq_true, Bool.and_eq_true, decide_eq_true_eq, decide_eq_true_eq]
        constructor
        · rintro ⟨⟨z1, z2⟩, z3⟩
          have := (h k hk z1).2.2.1
          rw [← z3] at this
          exact this.symm
        · intro e
          subst e
          exact ⟨⟨q2, by rw [q3]; exact hz.2⟩, q3.symm⟩
    rw [e1, e2, sumN_sw]
  omega
section REST
variable {f : Nat → Int32} {K : Nat → BitVec 64} {pp : Nat → Int32} {w bk : BitVec 64} {wa : Bool} {a b : Nat}
theorem r_pieces (h : Rel f K pp w bk wa) : mPieces f = pcnt (w ||| bk) := by
  unfold mPieces pcnt
  refine mCntL_cg 64 0 0 (fun k _ hk => ?_)
  have hk6 : k < 64 := by omega
  rw [r_occ h hk6]
  congr 1
  exact decide_eq_decide.mpr (r_zero h hk6)
/-- both sides have their king -/
def Ki2 (g : Nat → Int32) : Prop := ∀ d, (mKing g (sdN d)).isSome = true
theorem r_king2 (h : Rel f K pp w bk wa) (hu : KU f) (hk : Ki2 f) (d : Bool) : ∃ k, k < 64 ∧ mKing f (sdN d) = some k ∧ K 1 &&& kSide w bk d = kB k := by
  rcases r_king h hu d with ⟨h1, _⟩ | z
  · have := hk d; rw [h1] at this; cases this
  · exact z
theorem r_bare (h : Rel f K pp w bk wa) (hu : KU f) (hk : Ki2 f) : (w ||| bk = K 1) ↔ mPieces f = 2 := by
  obtain ⟨k1, l1, _, e1⟩ := r_king2 h hu hk true
  obtain ⟨k2, l2, _, e2⟩ := r_king2 h hu hk false
  have hK : ∀ j, j < 64 → (K 1).getLsbD j = (kB k1 ||| kB k2).getLsbD j := by
    intro j hj
    rw [← e1, ← e2, BitVec.getLsbD_or, BitVec.getLsbD_and, BitVec.getLsbD_and]
    have h3 : (K 1).getLsbD j = true → (w ||| bk).getLsbD j = true := by
      intro z
      rw [h.2.2.2.1 j hj 1 (Nat.le_refl 1) (by decide), decide_eq_true_eq] at z
      rw [r_occ h hj, decide_eq_false (fun y => by rw [y] at z; cases z)]; rfl
    rw [BitVec.getLsbD_or] at h3
    show _ = ((K 1).getLsbD j && w.getLsbD j || (K 1).getLsbD j && bk.getLsbD j)
    revert h3
    cases (K 1).getLsbD j <;> cases w.getLsbD j <;> cases bk.getLsbD j <;> simp
  have hKe : K 1 = kB k1 ||| kB k2 := bv_ext hK
  have hne : k1 ≠ k2 := fun e => by
    subst e
    have z1 : (kSide w bk true).getLsbD k1 = true := by
      have := congrArg (fun x => x.getLsbD k1) e1
      rw [BitVec.getLsbD_and, kB_get l1, decide_eq_true rfl, Bool.and_eq_true] at this
      exact this.2
    have z2 : (kSide w bk false).getLsbD k1 = true := by
      have := congrArg (fun x => x.getLsbD k1) e2
      rw [BitVec.getLsbD_and, kB_get l1, decide_eq_true rfl, Bool.and_eq_true] at this
      exact this.2
    have := r_one h l1 z1
    rw [show (!true) = false from rfl, z2] at this
    cases this
  have hp0 : pcnt 0#64 = 0 := by decide
  have hp1 : pcnt (kB k1) = 1 := by
    have := pc_ins (x := 0#64) l1 (z_get k1)
    rw [BitVec.zero_or, hp0] at this; exact this
  have hp2 : pcnt (K 1) = 2 := by
    rw [hKe, pc_ins l2 (by rw [kB_get l1, decide_eq_false hne]), hp1]
  rw [r_pieces h]
  constructor
  · intro e; rw [e]; exact hp2
  · intro e
    refine bv_ext fun j hj => ?_
    cases hq : (K 1).getLsbD j
    · cases hw : (w ||| bk).getLsbD j
      · rfl
      · exfalso
        have h4 : pcnt (K 1 ||| kB j) = 3 := by rw [pc_ins hj hq, hp2]
        have h5 : pcnt (K 1 ||| kB j) ≤ pcnt (w ||| bk) := pc_mono (fun i hi => by
          rw [BitVec.getLsbD_or, Bool.or_eq_true, kB_get hj, decide_eq_true_eq] at hi
          rcases hi with hi | hi
          · by_cases hi6 : i < 64
            · rw [h.2.2.2.1 i hi6 1 (Nat.le_refl 1) (by decide), decide_eq_true_eq] at hi
              rw [r_occ h hi6, decide_eq_false (fun y => by rw [y] at hi; cases hi)]; rfl
            · rw [BitVec.getLsbD_of_ge _ _ (by omega)] at hi; cases hi
          · rw [← hi]; exact hw)
        omega
    · rw [h.2.2.2.1 j hj 1 (Nat.le_refl 1) (by decide), decide_eq_true_eq] at hq
      rw [r_occ h hj, decide_eq_false (fun y => by rw [y] at hq; cases hq)]; rfl
theorem r_bnd (h : Rel f K pp w bk wa) (d : Bool) {j : Nat} (hj : j < 64) : (kBnd pp w bk d).getLsbD j = (!decide (f (64 + j) = -1) && (kSide w bk d).getLsbD j) := by
  unfold kBnd
  rw [BitVec.getLsbD_and, kFold_bit (q := fun k => !decide (f (64 + k) = -1)) (fun k hk r => ?_) hj]
  unfold kBd1
  rw [h.2.2.2.2.1 k hk]
  by_cases e : f (64 + k) = -1
  · rw [if_pos e, decide_eq_true e]; rfl
  · rw [if_neg e, decide_eq_false e]; rfl
theorem r_long (h : Rel f K pp w bk wa) (d : Bool) : kLong pp w bk d = mLong f (sdN d) := by
  unfold kLong mLong
  refine mFoldL_cg 64 0 0 (fun k _ hk r => ?_)
  have hk6 : k < 64 := by omega
  unfold kLng1 mLng1
  rw [r_bnd h d hk6, r_isOf h d hk6, h.2.2.2.2.1 k hk6]
  by_cases e : f (64 + k) = -1
  · rw [decide_eq_true e, if_pos e]; split <;> split <;> simp_all
  · rw [decide_eq_false e, if_neg e]; rfl
theorem r_bonds (h : Rel f K pp w bk wa) (hO : BondOk f) (d : Bool) : pcnt (kBnd pp w bk d) / 2 = mBonds f (sdN d) := by
  have h1 := inv_cnt (s := fun j => !decide (f (64 + j) = -1) && (kSide w bk d).getLsbD j) (o := fun j => (f (64 + j)).toNatClampNeg) (n := 64) (fun j hj hs => by
    rw [Bool.and_eq_true, Bool.not_eq_true', decide_eq_false_iff_not] at hs
    rcases hO j hj with e | ⟨q, hq, e, e2, e3, e4, e5⟩
    · exact absurd e hs.1
    · show (f (64 + j)).toNatClampNeg < 64 ∧ (!decide (f (64 + (f (64 + j)).toNatClampNeg) = -1) && _) = true ∧ (f (64 + (f (64 + j)).toNatClampNeg)).toNatClampNeg = j ∧ (f (64 + j)).toNatClampNeg ≠ j
      rw [e, nI_cl hq, e3, nI_cl hj, decide_eq_false (nI_m1 hj), r_side h d hq, e5, ← r_side h d hj, hs.2]
      exact ⟨hq, rfl, rfl, e2⟩)
  have h2 : pcnt (kBnd pp w bk d) = mCntL (fun j => !decide (f (64 + j) = -1) && (kSide w bk d).getLsbD j) 64 0 0 := mCntL_cg 64 0 0 (fun k _ hk => r_bnd h d (by omega))
  have h3 : mBonds f (sdN d) = mCntL (fun j => (!decide (f (64 + j) = -1) && (kSide w bk d).getLsbD j) && decide (j < (f (64 + j)).toNatClampNeg)) 64 0 0 := by
    unfold mBonds
    refine mCntL_cg 64 0 0 (fun k _ hk => ?_)
    have hk6 : k < 64 := by omega
    rw [r_isOf h d hk6]
    rcases hO k hk6 with e | ⟨q, hq, e, _⟩
    · have hle : (-1 : Int32) ≤ nI k := by
        rw [Int32.le_iff_toInt_le, nI_toInt (by omega)]
        have e0 : (-1 : Int32).toInt = -1 := by decide
        omega
      rw [e, decide_eq_true hle, decide_eq_true rfl]
      simp
    · rw [e, nI_cl hq, decide_eq_false (nI_m1 hq)]
      have hle : decide (nI q ≤ nI k) = !decide (k < q) := by
        rcases Nat.lt_or_ge k q with z | z
        · rw [decide_eq_true z, decide_eq_false (nI_ge z (by omega))]; rfl
        · rw [decide_eq_false (show ¬ k < q by omega), decide_eq_true (nI_le z (by omega))]; rfl
      rw [hle, Bool.not_not, Bool.not_false, Bool.true_and]
  rw [h2, h3, h1]
  omega
theorem r_bndR (h : Rel f K pp w bk wa) (hu : KU f) (ha : a < 64) (hb : b < 64) : kBndR K pp w bk wa a b = mBondR f a b := by
  unfold kBndR mBondR
  rw [r_mside h, r_isOwn h wa ha (show 1 ≤ 5 by decide) (by decide), r_isOwn h wa hb (show 1 ≤ 5 by decide) (by decide), h.2.2.2.2.1 a ha, h.2.2.2.2.1 b hb, r_chk h hu]
theorem r_disR (h : Rel f K pp w bk wa) (hu : KU f) (ha : a < 64) : kDisR K pp w bk wa a = mDissR f a := by
  unfold kDisR mDissR
  rw [r_mside h, r_isOwn h wa ha (show 1 ≤ 5 by decide) (by decide), h.2.2.2.2.1 a ha, r_chk h hu]
theorem own5 (h : Rel f K pp w bk wa) (ha : a < 64) : mIsOwn f a 5 (sdN wa) = true ↔ pcN f a % 8 = 5 ∧ (kSide w bk wa).getLsbD a = true := by
  rw [r_isOwn h wa ha (show 1 ≤ 5 by decide) (by decide), BitVec.getLsbD_and, Bool.and_eq_true, h.2.2.2.1 a ha 5 (by decide) (by decide), decide_eq_true_eq]
theorem disR0 (h : Rel f K pp w bk wa) (hu : KU f) (hO : BondOk f) (hc : mInCheck f (sdN wa) = false) (ha : a < 64) : mDissR f a = 0 ↔ ¬ f (64 + a) = -1 ∧ (kSide w bk wa).getLsbD a = true := by
  unfold mDissR
  rw [r_mside h, hc]
  constructor
  · intro z
    cases h5 : mIsOwn f a 5 (sdN wa)
    · rw [h5, if_neg (by decide)] at z; cases z
    · rw [h5, if_pos rfl] at z
      by_cases e : f (64 + a) = -1
      · rw [if_pos e] at z; cases z
      · exact ⟨e, ((own5 h ha).mp h5).2⟩
  · rintro ⟨z1, z2⟩
    rcases hO a ha with e | ⟨o, _, _, _, _, e5, _⟩
    · exact absurd e z1
    · rw [(own5 h ha).mpr ⟨e5, z2⟩, if_pos rfl, if_neg z1]; rfl
theorem bndR0 (h : Rel f K pp w bk wa) (hc : mInCheck f (sdN wa) = false) (ha : a < 64) (hb : b < 64) : mBondR f a b = 0 ↔ a ≠ b ∧ mIsOwn f a 5 (sdN wa) = true ∧ mIsOwn f b 5 (sdN wa) = true ∧ f (64 + a) = -1 ∧ f (64 + b) = -1 ∧ mHop a b ≤ 3 := by
  unfold mBondR
  rw [r_mside h, hc]
  constructor
  · intro z
    by_cases e : a = b
    · rw [if_pos e] at z; cases z
    · rw [if_neg e] at z
      cases h5 : mIsOwn f a 5 (sdN wa)
      · rw [h5, if_neg (by decide)] at z; cases z
      · rw [h5, if_pos rfl] at z
        cases h6 : mIsOwn f b 5 (sdN wa)
        · rw [h6, if_neg (by decide)] at z; cases z
        · rw [h6, if_pos rfl] at z
          by_cases e1 : f (64 + a) = -1
          · rw [if_pos e1] at z
            by_cases e2 : f (64 + b) = -1
            · rw [if_pos e2] at z
              by_cases e3 : 3 < mHop a b
              · rw [if_pos e3] at z; cases z
              · exact ⟨e, rfl, rfl, e1, e2, by omega⟩
            · rw [if_neg e2] at z; cases z
          · rw [if_neg e1] at z; cases z
  · rintro ⟨z1, z2, z3, z4, z5, z6⟩
    rw [if_neg z1, z2, if_pos rfl, z3, if_pos rfl, if_pos z4, if_pos z5, if_neg (by omega)]; rfl
theorem r_bAct (h : Rel f K pp w bk wa) (hu : KU f) (hO : BondOk f) (hc : mInCheck f (sdN wa) = false) : kBAct K pp w bk wa = mBondAct f := by
  have hm : mBondAct f = true ↔ (∃ j, j < 64 ∧ ¬ f (64 + j) = -1 ∧ (kSide w bk wa).getLsbD j = true) ∨ ∃ i j, i < 64 ∧ j < i ∧ mBondR f i j = 0 := by
    unfold mBondAct
    rw [mAnyL_iff]
    constructor
    · rintro ⟨j, _, hj, z⟩
      have hj6 : j < 64 := by omega
      rw [Bool.or_eq_true, decide_eq_true_eq, mAnyL_iff] at z
      rcases z with z | ⟨i, _, hi, z⟩
      · exact Or.inl ⟨j, hj6, (disR0 h hu hO hc hj6).mp z⟩
      · rw [decide_eq_true_eq] at z
        exact Or.inr ⟨j, i, hj6, by omega, z⟩
    · rintro (⟨j, hj, z⟩ | ⟨i, j, hi, hj, z⟩)
      · refine ⟨j, Nat.zero_le _, by omega, ?_⟩
        rw [(disR0 h hu hO hc hj).mpr z]; rfl
      · refine ⟨i, Nat.zero_le _, by omega, ?_⟩
        rw [Bool.or_eq_true, mAnyL_iff]
        exact Or.inr ⟨j, Nat.zero_le _, by omega, by rw [decide_eq_true_eq]; exact z⟩
  have hb0 : ¬ kBnd pp w bk wa = 0#64 ↔ ∃ j, j < 64 ∧ ¬ f (64 + j) = -1 ∧ (kSide w bk wa).getLsbD j = true := by
    rw [bv_ne0]
    constructor
    · rintro ⟨j, hj, z⟩
      rw [r_bnd h wa hj, Bool.and_eq_true, Bool.not_eq_true', decide_eq_false_iff_not] at z
      exact ⟨j, hj, z⟩
    · rintro ⟨j, hj, z⟩
      refine ⟨j, hj, ?_⟩
      rw [r_bnd h wa hj, Bool.and_eq_true, Bool.not_eq_true', decide_eq_false_iff_not]
      exact z
  refine bool_ext ?_
  rw [hm]
  unfold kBAct
  by_cases e : kBnd pp w bk wa = 0#64
  · rw [if_pos e, mAnyL_iff]
    have hnb : ∀ j, j < 64 → (kSide w bk wa).getLsbD j = true → f (64 + j) = -1 := fun j hj hs => Classical.byContradiction fun z => (hb0.mpr ⟨j, hj, z, hs⟩) e
    have hkn : ∀ j, j < 64 → ((K 5 &&& kSide w bk wa).getLsbD j = true ↔ mIsOwn f j 5 (sdN wa) = true) := fun j hj => by rw [r_isOwn h wa hj (show 1 ≤ 5 by decide) (by decide)]
    constructor
    · rintro ⟨j, _, hj, z⟩
      have hj6 : j < 64 := by omega
      rw [Bool.and_eq_true, Bool.not_eq_true', decide_eq_false_iff_not, bv_ne0] at z
      obtain ⟨z1, i, hi, z2⟩ := z
      rw [BitVec.getLsbD_and, BitVec.getLsbD_and, kNot_get _ hi, kB_get hj6, (hop_c hj6 hi).2, Bool.and_eq_true, Bool.and_eq_true, decide_eq_true_eq, Bool.not_eq_true', decide_eq_false_iff_not] at z2
      obtain ⟨z3, z4, z5⟩ := z2
      have o1 := (hkn j hj6).mp z1
      have o2 := (hkn i hi).mp z4
      have n1 := hnb j hj6 ((own5 h hj6).mp o1).2
      have n2 := hnb i hi ((own5 h hi).mp o2).2
      right
      rcases Nat.lt_or_ge i j with q | q
      · exact ⟨j, i, hj6, q, (bndR0 h hc hj6 hi).mpr ⟨z5, o1, o2, n1, n2, z3⟩⟩
      · exact ⟨i, j, hi, by omega, (bndR0 h hc hi hj6).mpr ⟨Ne.symm z5, o2, o1, n2, n1, by rw [← (hop_c hj6 hi).1]; exact z3⟩⟩
    · rintro (⟨j, hj, z1, z2⟩ | ⟨i, j, hi, hj, z⟩)
      · exact absurd (hnb j hj z2) z1
      · have hj6 : j < 64 := by omega
        obtain ⟨z1, z2, z3, _, _, z6⟩ := (bndR0 h hc hi hj6).mp z
        refine ⟨i, Nat.zero_le _, by omega, ?_⟩
        rw [Bool.and_eq_true, Bool.not_eq_true', decide_eq_false_iff_not, bv_ne0]
        refine ⟨(hkn i hi).mpr z2, j, hj6, ?_⟩
        rw [BitVec.getLsbD_and, BitVec.getLsbD_and, kNot_get _ hj6, kB_get hi, (hop_c hi hj6).2, (hkn j hj6).mpr z3, decide_eq_true z6, decide_eq_false z1]
        rfl
  · rw [if_neg e]
    exact ⟨fun _ => Or.inl (hb0.mp e), fun _ => rfl⟩
/-! set-up -/
theorem r_room (h : Rel f K pp w bk wa) (hu : KU f) {j k : Nat} (hj : j < 64) (d : Bool) : kRoom K w bk j k d = (decide (f j = 0) && (!mSec f k d && !mEdge j k)) := by
  unfold kRoom mSec mEdge
  by_cases e0 : f j = 0
  · rw [(r_emp h hj).mp e0, if_neg (by decide), decide_eq_true e0, Bool.true_and]
    by_cases e1 : k = 1
    · subst e1
      rw [if_pos rfl]
      rcases r_king h hu d with ⟨h1, h2⟩ | ⟨q, hq, h1, h2⟩
      · rw [h1, h2]; rfl
      · rw [h1, h2, decide_eq_false (kB_ne hq)]; rfl
    · rw [if_neg e1, decide_eq_false e1, Bool.false_and]
      by_cases e6 : k = 6
      · rw [decide_eq_true e6]
        by_cases q1 : j < 8
        · rw [decide_eq_true q1, decide_eq_true (show j / 8 = 0 by omega)]; rfl
        · rw [decide_eq_false q1, decide_eq_false (show ¬ j / 8 = 0 by omega)]
          by_cases q2 : 55 < j
          · rw [decide_eq_true q2, decide_eq_true (show j / 8 = 7 by omega)]; rfl
          · rw [decide_eq_false q2, decide_eq_false (show ¬ j / 8 = 7 by omega)]; rfl
      · rw [decide_eq_false e6]; rfl
  · have h5 : (w ||| bk).getLsbD j = true := by
      cases hq : (w ||| bk).getLsbD j
      · exact absurd ((r_emp h hj).mpr hq) e0
      · rfl
    rw [h5, if_pos rfl, decide_eq_false e0]; rfl
theorem r_beg (h : Rel f K pp w bk wa) (hu : KU f) (d : Bool) : kBeg K w bk d = (mKings f && !mInCheck f (sdN (!d))) := by
  unfold kBeg mKings
  rw [r_chk h hu]
  have hk : ∀ c, (!decide (K 1 &&& kSide w bk c = 0#64)) = (mKing f (sdN c)).isSome := fun c => by
    rcases r_king h hu c with ⟨h1, h2⟩ | ⟨q, hq, h1, h2⟩
    · rw [h1, h2]; rfl
    · rw [h1, h2, decide_eq_false (kB_ne hq)]; rfl
  rw [hk true, hk false]
  show ((mKing f 8).isSome && ((mKing f 0).isSome && _)) = (((mKing f 0).isSome && (mKing f 8).isSome) && _)
  cases (mKing f 8).isSome <;> cases (mKing f 0).isSome <;> rfl
theorem pc_put {g : Nat → Int32} {c j : Nat} (hc : c < 15) (i : Nat) : pcN (upd g j (nI c)) i = if i = j then c else pcN g i := by
  unfold pcN
  by_cases e : i = j
  · subst e; rw [upd_s, if_pos rfl, pc_nI hc]
  · rw [upd_n e, if_neg e]
theorem tb_put : ∀ d k, 1 ≤ k → k < 7 → sdN d + k < 15 ∧ sdN d + k ≠ 7 ∧ sdN d + k ≠ 8 ∧ decide (8 < sdN d + k) = d ∧ (decide (0 < sdN d + k) && decide (sdN d + k < 7)) = !d ∧ (sdN d + k) % 8 = k := by
  intro d k h1 h7
  rcases (show k = 1 ∨ k = 2 ∨ k = 3 ∨ k = 4 ∨ k = 5 ∨ k = 6 by omega) with rfl | rfl | rfl | rfl | rfl | rfl <;> cases d <;> decide
theorem r_plc (h : Rel f K pp w bk wa) {j k : Nat} (hj : j < 64) (k1 : 1 ≤ k) (k6 : k ≤ 6) (d : Bool) (h0 : f j = 0) : Rel (mPlc f j k d) (kPut K k j) pp (kPtW w j d) (kPtW bk j (!d)) wa := by
  obtain ⟨t1, t2, t3, t4, t5, t6⟩ := tb_put d k k1 (by omega)
  have hz := (r_zero h hj).mp h0
  have hp : ∀ i, pcN (mPlc f j k d) i = if i = j then sdN d + k else pcN f i := fun i => pc_put t1 i
  have hv : ∀ i, i < 64 → mPlc f j k d i = nI (if i = j then sdN d + k else pcN f i) := fun i hi => by
    unfold mPlc
    by_cases e : i = j
    · subst e; rw [upd_s, if_pos rfl]
    · rw [upd_n e, if_neg e]; exact (h.1 i hi).1
  refine ⟨fun i hi => ?_, fun i hi => ?_, fun i hi => ?_, fun i hi q q1 q6 => ?_, fun i hi => ?_, ?_⟩
  · rw [hp, hv i hi]
    refine ⟨rfl, ?_⟩
    by_cases e : i = j
    · rw [if_pos e]; exact ⟨t1, t2, t3⟩
    · rw [if_neg e]; exact (h.1 i hi).2
  · rw [hp, kPtW_bit _ _ hj, h.2.1 i hi]
    by_cases e : i = j
    · subst e; rw [if_pos rfl, t4, hz, decide_eq_true (rfl : i = i)]; simp
    · rw [if_neg e, decide_eq_false (Ne.symm e)]; simp
  · rw [hp, kPtW_bit _ _ hj, h.2.2.1 i hi]
    by_cases e : i = j
    · subst e; rw [if_pos rfl, t5, hz, decide_eq_true (rfl : i = i)]; simp
    · rw [if_neg e, decide_eq_false (Ne.symm e)]; simp
  · rw [hp, kPut_bit _ hj, h.2.2.2.1 i hi q q1 q6]
    by_cases e : i = j
    · subst e
      rw [if_pos rfl, t6, hz, decide_eq_true (rfl : i = i), decide_eq_false (show ¬ 0 % 8 = q by omega), Bool.false_or, Bool.and_true]
      exact decide_eq_decide.mpr ⟨Eq.symm, Eq.symm⟩
    · rw [if_neg e, decide_eq_false (Ne.symm e)]; simp
  · unfold mPlc; rw [upd_n (by omega)]; exact h.2.2.2.2.1 i hi
  · unfold mPlc; rw [upd_n (by omega)]; exact h.2.2.2.2.2
theorem r_rem (h : Rel f K pp w bk wa) {j : Nat} (hj : j < 64) : Rel (upd f j (nI 0)) (kLift K j) pp (w &&& kNot (kB j)) (bk &&& kNot (kB j)) wa := by
  have hp : ∀ i, pcN (upd f j (nI 0)) i = if i = j then 0 else pcN f i := fun i => pc_put (by decide) i
  refine ⟨fun i hi => ?_, fun i hi => ?_, fun i hi => ?_, fun i hi q q1 q6 => ?_, fun i hi => ?_, ?_⟩
  · rw [hp]
    by_cases e : i = j
    · subst e; rw [if_pos rfl, upd_s]; exact ⟨rfl, by decide, by decide, by decide⟩
    · rw [if_neg e, upd_n e]; exact h.1 i hi
  · rw [hp, BitVec.getLsbD_and, kNot_get _ hi, kB_get hj, h.2.1 i hi]
    by_cases e : i = j
    · subst e; rw [if_pos rfl, decide_eq_true (rfl : i = i)]; simp
    · rw [if_neg e, decide_eq_false (Ne.symm e)]; simp
  · rw [hp, BitVec.getLsbD_and, kNot_get _ hi, kB_get hj, h.2.2.1 i hi]
    by_cases e : i = j
    · subst e; rw [if_pos rfl, decide_eq_true (rfl : i = i)]; simp
    · rw [if_neg e, decide_eq_false (Ne.symm e)]; simp
  · rw [hp, kLift_bit _ q1 q6 hj hi, h.2.2.2.1 i hi q q1 q6]
    by_cases e : i = j
    · subst e; rw [if_pos rfl, decide_eq_true (rfl : i = i), decide_eq_false (show ¬ 0 % 8 = q by omega)]; simp
    · rw [if_neg e, decide_eq_false (Ne.symm e)]; simp
  · rw [upd_n (by omega)]; exact h.2.2.2.2.1 i hi
  · rw [upd_n (by omega)]; exact h.2.2.2.2.2
theorem pcN_beg {g : Nat → Int32} {j : Nat} (hj : j < 64) : mBeg g j = nI 0 ∧ pcN (mBeg g) j = 0 := by
  have e : mBeg g j = nI 0 := by
    unfold mBeg mClr mClrV
    rw [upd_n (by omega), if_pos (by omega), if_pos hj]
  exact ⟨e, by unfold pcN; rw [e]; decide⟩
theorem r_begin (g : Nat → Int32) : Rel (mBeg g) kZ pNo 0#64 0#64 true := by
  refine ⟨fun i hi => ?_, fun i hi => ?_, fun i hi => ?_, fun i hi q q1 q6 => ?_, fun i hi => ?_, ?_⟩
  · rw [(pcN_beg hi).1, (pcN_beg hi).2]; decide
  · rw [(pcN_beg hi).2, z_get]; decide
  · rw [(pcN_beg hi).2, z_get]; decide
  · rw [(pcN_beg hi).2]
    show (0#64).getLsbD i = _
    rw [z_get, decide_eq_false (by omega)]
  · unfold mBeg mClr mClrV pNo
    rw [upd_n (by omega), if_pos (by omega), if_neg (by omega), if_neg (by omega)]
  · unfold mBeg; rw [upd_s]; rfl
theorem r_es (h : Rel f K pp w bk wa) (d : Bool) : Rel (mEsN f d) K pp w bk d := by
  have hp : ∀ i, i < 64 → pcN (mEsN f d) i = pcN f i := fun i hi => by unfold pcN mEsN; rw [upd_n (by omega)]
  refine ⟨fun i hi => ?_, fun i hi => ?_, fun i hi => ?_, fun i hi q q1 q6 => ?_, fun i hi => ?_, ?_⟩
  · rw [hp i hi]; unfold mEsN; rw [upd_n (by omega)]; exact h.1 i hi
  · rw [hp i hi]; exact h.2.1 i hi
  · rw [hp i hi]; exact h.2.2.1 i hi
  · rw [hp i hi]; exact h.2.2.2.1 i hi q q1 q6
  · unfold mEsN; rw [upd_n (by omega)]; exact h.2.2.2.2.1 i hi
  · unfold mEsN; rw [upd_s]
/-- an action that is no move -/
theorem r_calm (h : Rel f K pp w bk wa) {g : Nat → Int32} {p2 : Nat → Int32} (hl : ∀ i, i < 64 → g i = f i) (hR : RB p2 g) (h8 : g 128 = f 128) : Rel (mEnd g) K p2 w bk (!wa) := by
  have hv : ∀ i, i < 64 → mEnd g i = f i := fun i hi => by unfold mEnd; rw [low_flip _ hi, upd_n (by omega), hl i hi]
  have hp : ∀ i, i < 64 → pcN (mEnd g) i = pcN f i := fun i hi => by unfold pcN; rw [hv i hi]
  refine ⟨fun i hi => ?_, fun i hi => ?_, fun i hi => ?_, fun i hi q q1 q6 => ?_, fun i hi => ?_, ?_⟩
  · rw [hp i hi, hv i hi]; exact h.1 i hi
  · rw [hp i hi]; exact h.2.1 i hi
  · rw [hp i hi]; exact h.2.2.1 i hi
  · rw [hp i hi]; exact h.2.2.2.1 i hi q q1 q6
  · unfold mEnd mFlip; rw [upd_n (by omega), upd_n (by omega)]; exact hR i hi
  · unfold mEnd mFlip; rw [upd_s, upd_n (by decide), h8, h.2.2.2.2.2]; cases wa <;> decide
theorem r_tie (h : Rel f K pp w bk wa) (ha : a < 64) (hb : b < 64) : Rel (mEnd (mTie f a b)) K (kJoin pp a b) w bk (!wa) := r_calm h (fun i hi => low_tie f a b hi) (RB_join h.2.2.2.2.1 a b) (tie_128 ha hb)
theorem r_untie (h : Rel f K pp w bk wa) (hB : WfB f) (ha : a < 64) : Rel (mEnd (mUntie f a)) K (kPart pp a) w bk (!wa) := r_calm h (fun i hi => low_untie f a hi) (RB_part h.2.2.2.2.1 ha) (untie_hi hB ha (Nat.le_refl _))
/-! strengths -/
theorem r_wt (h : Rel f K pp w bk wa) {j : Nat} (hj : j < 64) : kWt (kKind K j) (!decide (pp j = -1)) = mWt f j := by
  unfold kWt mWt
  rw [r_kKind h hj, r_kind h hj, h.2.2.2.2.1 j hj]
  by_cases e : f (64 + j) = -1
  · rw [decide_eq_true e, if_pos e]; rfl
  · rw [decide_eq_false e, if_neg e]; rfl
theorem r_stP (h : Rel f K pp w bk wa) (d : Bool) : ∀ n, n ≤ 64 → kStP K pp (kSide w bk d) n = mStP f (sdN d) n
  | 0, _ => rfl
  | n + 1, hn => by
    show (if (kSide w bk d).getLsbD n then FP.fadd (kStP K pp (kSide w bk d) n) (kWt (kKind K n) (!decide (pp n = -1))) else kStP K pp (kSide w bk d) n) = (if mIsOf f n (sdN d) then FP.fadd (mStP f (sdN d) n) (mWt f n) else mStP f (sdN d) n)
    rw [r_stP h d n (by omega), r_wt h (show n < 64 by omega), r_isOf h d (show n < 64 by omega)]
theorem r_stM (h : Rel f K pp w bk wa) (d : Bool) : kStM K w bk d = mStM f (sdN d) := by unfold kStM mStM; rw [r_atd h d]
theorem r_sth (h : Rel f K pp w bk wa) (d : Bool) : kSth K pp w bk d = mSth f (sdN d) := by unfold kSth mSth; rw [r_stP h d 64 (Nat.le_refl _), r_stM h d]
theorem r_stOk (h : Rel f K pp w bk wa) (d : Bool) (hst : StOk f (sdN d)) : KStOk K pp w bk d := by
  refine ⟨fun i hi hs => ?_, by rw [r_stM h d]; exact hst.2.1, by rw [r_sth h d]; exact hst.2.2⟩
  rw [r_stP h d i (by omega), r_wt h hi]
  exact hst.1 i hi (by rw [r_isOf h d hi]; exact hs)
end REST
