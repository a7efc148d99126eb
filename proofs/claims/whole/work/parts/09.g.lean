/-! ===== linear maps of sets of squares ===== -/
def Lin (L : BitVec 64 → BitVec 64) : Prop := L 0#64 = 0#64 ∧ ∀ x y, L (x ||| y) = L x ||| L y
theorem Lin.id' : Lin (fun x => x) := ⟨rfl, fun _ _ => rfl⟩
theorem Lin.and_c {L : BitVec 64 → BitVec 64} (h : Lin L) (m : BitVec 64) : Lin (fun x => L x &&& m) := ⟨by show L 0#64 &&& m = 0#64; rw [h.1]; exact BitVec.zero_and, fun x y => by
  show L (x ||| y) &&& m = (L x &&& m) ||| (L y &&& m)
  rw [h.2]
  apply BitVec.eq_of_getLsbD_eq
  intro i _
  simp only [BitVec.getLsbD_and, BitVec.getLsbD_or]
  cases (L x).getLsbD i <;> cases (L y).getLsbD i <;> cases m.getLsbD i <;> rfl⟩
theorem Lin.shl {L : BitVec 64 → BitVec 64} (h : Lin L) (k : Nat) : Lin (fun x => L x <<< k) := ⟨by show L 0#64 <<< k = 0#64; rw [h.1]; exact BitVec.zero_shiftLeft k, fun x y => by
  show L (x ||| y) <<< k = (L x <<< k) ||| (L y <<< k)
  rw [h.2]
  apply BitVec.eq_of_getLsbD_eq
  intro i hi
  simp only [BitVec.getLsbD_shiftLeft, BitVec.getLsbD_or]
  cases (L x).getLsbD (i - k) <;> cases (L y).getLsbD (i - k) <;> cases decide (i < 64) <;> cases decide (i < k) <;> rfl⟩
theorem Lin.shr {L : BitVec 64 → BitVec 64} (h : Lin L) (k : Nat) : Lin (fun x => L x >>> k) := ⟨by show L 0#64 >>> k = 0#64; rw [h.1]; exact BitVec.zero_ushiftRight, fun x y => by
  show L (x ||| y) >>> k = (L x >>> k) ||| (L y >>> k)
  rw [h.2]
  apply BitVec.eq_of_getLsbD_eq
  intro i hi
  simp only [BitVec.getLsbD_ushiftRight, BitVec.getLsbD_or]⟩
theorem Lin.or {L K : BitVec 64 → BitVec 64} (h : Lin L) (k : Lin K) : Lin (fun x => L x ||| K x) := ⟨by show L 0#64 ||| K 0#64 = 0#64; rw [h.1, k.1]; rfl, fun x y => by
  show L (x ||| y) ||| K (x ||| y) = (L x ||| K x) ||| (L y ||| K y)
  rw [h.2, k.2]
  apply BitVec.eq_of_getLsbD_eq
  intro i _
  simp only [BitVec.getLsbD_or]
  cases (L x).getLsbD i <;> cases (L y).getLsbD i <;> cases (K x).getLsbD i <;> cases (K y).getLsbD i <;> rfl⟩
theorem getT (a i : Nat) (ha : a < 64) : (BitVec.twoPow 64 a).getLsbD i = decide (a = i) := by
  rw [BitVec.getLsbD_twoPow, decide_eq_true ha, Bool.true_and]
theorem Lin.bit {L : BitVec 64 → BitVec 64} (h : Lin L) (x : BitVec 64) (j : Nat) : (L x).getLsbD j = true ↔ ∃ v, v < 64 ∧ x.getLsbD v = true ∧ (L (BitVec.twoPow 64 v)).getLsbD j = true := by
  have key : ∀ n, n ≤ 64 → ∀ x : BitVec 64, (∀ i, n ≤ i → x.getLsbD i = false) → ((L x).getLsbD j = true ↔ ∃ v, v < n ∧ x.getLsbD v = true ∧ (L (BitVec.twoPow 64 v)).getLsbD j = true) := by
    intro n
    induction n with
    | zero =>
      intro _ x hx
      have h0 : x = 0#64 := BitVec.eq_of_getLsbD_eq (fun i _ => by rw [hx i (Nat.zero_le _)]; simp)
      subst h0
      rw [h.1]
      constructor
      · intro z; simp at z
      · rintro ⟨v, hv, _⟩; exact absurd hv (Nat.not_lt_zero _)
    | succ n ih =>
      intro hn x hx
      have hx1 := ih (by omega) (x &&& ~~~(BitVec.twoPow 64 n)) (fun i hi => by
        rw [BitVec.getLsbD_and, BitVec.getLsbD_not, getT n i (by omega)]
        by_cases hin : n = i
        · simp [hin]
        · rw [hx i (by omega), Bool.false_and])
      have hdec : x = (x &&& ~~~(BitVec.twoPow 64 n)) ||| (if x.getLsbD n then BitVec.twoPow 64 n else 0#64) := by
        apply BitVec.eq_of_getLsbD_eq
        intro i hi
        rw [BitVec.getLsbD_or, BitVec.getLsbD_and, BitVec.getLsbD_not, getT n i (by omega)]
        by_cases hin : n = i
        · subst hin
          cases hb : x.getLsbD n
          · simp
          · simp [getT n n (by omega)]
        · cases hb : x.getLsbD n
          · simp [hin, hi]
          · simp [hin, hi, getT n i (by omega)]
            intro z; exact absurd z.symm hin
      constructor
      · intro z
        rw [hdec, h.2, BitVec.getLsbD_or, Bool.or_eq_true] at z
        rcases z with z | z
        · obtain ⟨v, hv, h1, h2⟩ := hx1.mp z
          rw [BitVec.getLsbD_and, Bool.and_eq_true] at h1
          exact ⟨v, by omega, h1.1, h2⟩
        · cases hb : x.getLsbD n
          · rw [hb, if_neg (by decide), h.1] at z; simp at z
          · rw [hb, if_pos rfl] at z
            exact ⟨n, by omega, hb, z⟩
      · rintro ⟨v, hv, h1, h2⟩
        rw [hdec, h.2, BitVec.getLsbD_or, Bool.or_eq_true]
        by_cases hvn : v = n
        · subst hvn
          right
          rw [h1, if_pos rfl]; exact h2
        · left
          refine hx1.mpr ⟨v, by omega, ?_, h2⟩
          rw [BitVec.getLsbD_and, BitVec.getLsbD_not, getT n v (by omega), h1]
          simp [Ne.symm hvn]
          omega
  exact key 64 (Nat.le_refl _) x (fun i hi => BitVec.getLsbD_of_ge _ _ hi)
theorem Lin_kN : Lin kN := by
  have n1 := (Lin.id'.and_c 18374403900871474942#64).shr 1
  have n2 := (Lin.id'.and_c 9187201950435737471#64).shl 1
  have f1 := (Lin.id'.and_c 18229723555195321596#64).shr 2
  have f2 := (Lin.id'.and_c 4557430888798830399#64).shl 2
  exact ((((n1.or n2).shl 16).or ((n1.or n2).shr 16)).or ((f1.or f2).shl 8)).or ((f1.or f2).shr 8)
theorem kN_all : (List.range 64).all (fun a => (List.range 64).all (fun b => (kN (BitVec.twoPow 64 a)).getLsbD b == mLeap a b)) = true := by decide +kernel
theorem kN_tab {a b : Nat} (ha : a < 64) (hb : b < 64) : (kN (BitVec.twoPow 64 a)).getLsbD b = mLeap a b := by
  have h1 := List.all_eq_true.mp (List.all_eq_true.mp kN_all a (List.mem_range.mpr ha)) b (List.mem_range.mpr hb)
  exact beq_iff_eq.mp h1
theorem kN_bit (x : BitVec 64) {b : Nat} (hb : b < 64) : (kN x).getLsbD b = true ↔ ∃ v, v < 64 ∧ x.getLsbD v = true ∧ mLeap v b = true := by
  rw [Lin_kN.bit]
  constructor
  · rintro ⟨v, h1, h2, h3⟩; exact ⟨v, h1, h2, by rw [← kN_tab h1 hb]; exact h3⟩
  · rintro ⟨v, h1, h2, h3⟩; exact ⟨v, h1, h2, by rw [kN_tab h1 hb]; exact h3⟩
theorem mAnyL_iff {p : Nat → Bool} : ∀ {n i : Nat}, mAnyL p n i = true ↔ ∃ k, i ≤ k ∧ k < i + n ∧ p k = true
  | 0, i => by
    constructor
    · intro h; exact Bool.noConfusion (show false = true from h)
    · rintro ⟨k, h1, h2, _⟩; omega
  | n + 1, i => by
    unfold mAnyL
    cases hp : p i
    · rw [if_neg (by decide), mAnyL_iff]
      constructor
      · rintro ⟨k, h1, h2, h3⟩; exact ⟨k, by omega, by omega, h3⟩
      · rintro ⟨k, h1, h2, h3⟩
        refine ⟨k, ?_, by omega, h3⟩
        by_cases hk : k = i
        · subst hk; rw [hp] at h3; cases h3
        · omega
    · rw [if_pos rfl]
      exact ⟨fun _ => ⟨i, Nat.le_refl _, by omega, hp⟩, fun _ => rfl⟩
/-! ===== the distances of knights, found round by round ===== -/
def hopS (a : Nat) : Nat → BitVec 64
  | 0 => BitVec.twoPow 64 a
  | n + 1 => hopS a n ||| kN (hopS a n)
def lv0 (k : Nat) : Nat := if k / 64 = k % 64 then 0 else 9
def lvS (g : Nat → Nat) (n k : Nat) : Nat := if g k = 9 then (if mAnyL (fun v => mLeap v (k % 64) && decide (g (k / 64 * 64 + v) = n)) 64 0 then n + 1 else 9) else g k
def lvN : Nat → Nat → Nat
  | 0 => lv0
  | n + 1 => lvS (lvN n) n
theorem lvN_s (n k : Nat) : lvN (n + 1) k = lvS (lvN n) n k := rfl
theorem hopS_mono {a n m b : Nat} (h : n ≤ m) (hb : (hopS a n).getLsbD b = true) : (hopS a m).getLsbD b = true := by
  induction m with
  | zero => rw [show n = 0 by omega] at hb; exact hb
  | succ m ih =>
    by_cases hn : n = m + 1
    · rw [← hn]; exact hb
    · unfold hopS; rw [BitVec.getLsbD_or, ih (by omega), Bool.true_or]
theorem lvN_hop {a : Nat} (ha : a < 64) : ∀ n, n ≤ 6 → ∀ b, b < 64 → ((hopS a n).getLsbD b = true → ∃ h, h ≤ n ∧ lvN n (64 * a + b) = h ∧ (hopS a h).getLsbD b = true ∧ ∀ h', h' < h → (hopS a h').getLsbD b = false) ∧ ((hopS a n).getLsbD b = false → lvN n (64 * a + b) = 9) := by
  intro n
  induction n with
  | zero =>
    intro _ b hb
    have e1 : (64 * a + b) / 64 = a := by omega
    have e2 : (64 * a + b) % 64 = b := by omega
    have e3 : (hopS a 0).getLsbD b = decide (a = b) := getT a b ha
    constructor
    · intro h
      rw [e3, decide_eq_true_eq] at h
      refine ⟨0, Nat.le_refl _, ?_, by rw [e3, decide_eq_true h], fun h' z => absurd z (Nat.not_lt_zero _)⟩
      show lv0 _ = 0
      unfold lv0
      rw [e1, e2, if_pos h]
    · intro h
      rw [e3, decide_eq_false_iff_not] at h
      show lv0 _ = 9
      unfold lv0
      rw [e1, e2, if_neg h]
  | succ n ih =>
    intro hn b hb
    have e1 : (64 * a + b) / 64 = a := by omega
    have e2 : (64 * a + b) % 64 = b := by omega
    have ihb := ih (by omega) b hb
    cases hsn : (hopS a n).getLsbD b
    · have h9 := ihb.2 hsn
      have hS : lvN (n + 1) (64 * a + b) = if mAnyL (fun v => mLeap v b && decide (lvN n (a * 64 + v) = n)) 64 0 then n + 1 else 9 := by
        rw [lvN_s]; unfold lvS; rw [if_pos h9, e1, e2]
      have hany : mAnyL (fun v => mLeap v b && decide (lvN n (a * 64 + v) = n)) 64 0 = true ↔ (kN (hopS a n)).getLsbD b = true := by
        rw [mAnyL_iff, kN_bit _ hb]
        constructor
        · rintro ⟨v, _, hv, h3⟩
          rw [Bool.and_eq_true, decide_eq_true_eq] at h3
          refine ⟨v, by omega, ?_, h3.1⟩
          cases hvn : (hopS a n).getLsbD v
          · have := (ih (by omega) v (by omega)).2 hvn
            rw [Nat.mul_comm a 64] at h3
            omega
          · rfl
        · rintro ⟨v, hv, h3, h4⟩
          refine ⟨v, Nat.zero_le _, by omega, ?_⟩
          obtain ⟨h, k1, k2, k3, k4⟩ := (ih (by omega) v hv).1 h3
          have hhn : h = n := by
            by_cases hlt : h < n
            · exfalso
              have z : (hopS a (h + 1)).getLsbD b = true := by
                unfold hopS
                rw [BitVec.getLsbD_or, Bool.or_eq_true]
                exact Or.inr ((kN_bit _ hb).mpr ⟨v, hv, k3, h4⟩)
              have z2 := hopS_mono (show h + 1 ≤ n by omega) z
              rw [hsn] at z2; cases z2
            · omega
          rw [Bool.and_eq_true, decide_eq_true_eq, Nat.mul_comm a 64]
          exact ⟨h4, by rw [k2, hhn]⟩
      have hor : (hopS a (n + 1)).getLsbD b = (kN (hopS a n)).getLsbD b := by
        show (hopS a n ||| kN (hopS a n)).getLsbD b = _
        rw [BitVec.getLsbD_or, hsn, Bool.false_or]
      constructor
      · intro h
        refine ⟨n + 1, Nat.le_refl _, ?_, h, fun h' hlt => ?_⟩
        · rw [hS, if_pos (hany.mpr (hor ▸ h))]
        · cases hz : (hopS a h').getLsbD b
          · rfl
          · rw [hopS_mono (show h' ≤ n by omega) hz] at hsn; cases hsn
      · intro h
        rw [hS, if_neg (fun z => by have := hany.mp z; rw [← hor, h] at this; cases this)]
    · obtain ⟨h, k1, k2, k3, k4⟩ := ihb.1 hsn
      have hS : lvN (n + 1) (64 * a + b) = h := by
        rw [lvN_s]; unfold lvS; rw [if_neg (by rw [k2]; omega), k2]
      constructor
      · intro _; exact ⟨h, by omega, hS, k3, k4⟩
      · intro z; rw [hopS_mono (Nat.le_succ n) hsn] at z; cases z
theorem hopL_S (a b : Nat) : ∀ n i h, i ≤ h → h ≤ i + n → (hopS a h).getLsbD b = true → (∀ h', h' < h → (hopS a h').getLsbD b = false) → hopL b n (hopS a i) i = h
  | 0, i, h, h1, h2, _, _ => by unfold hopL; omega
  | n + 1, i, h, h1, h2, h3, h4 => by
    unfold hopL
    by_cases hi : i = h
    · subst hi; rw [h3, if_pos rfl]
    · rw [h4 i (by omega), if_neg (by decide)]
      exact hopL_S a b n (i + 1) h (by omega) (by omega) h3 h4
theorem hop_all : (List.range 64).all (fun a => (List.range 64).all (fun b => (hopS a 6).getLsbD b)) = true := by decide +kernel
theorem lvN_6 {a b : Nat} (ha : a < 64) (hb : b < 64) : lvN 6 (64 * a + b) = mHop a b := by
  have h1 := List.all_eq_true.mp (List.all_eq_true.mp hop_all a (List.mem_range.mpr ha)) b (List.mem_range.mpr hb)
  obtain ⟨h, k1, k2, k3, k4⟩ := (lvN_hop ha 6 (Nat.le_refl _) b hb).1 h1
  rw [k2]
  exact (hopL_S a b 6 0 h (Nat.zero_le _) (by omega) k3 k4).symm
theorem lvN_wf {g : Nat → Int32} (h : ∀ k, k < 4096 → g k = nI (lvN 6 k)) : WfL g := fun a b ha hb => by
  rw [h _ (by omega), lvN_6 ha hb]
theorem lvN_le : ∀ n k, n ≤ 6 → lvN n k ≤ 9
  | 0, k, _ => by show lv0 k ≤ 9; unfold lv0; split <;> omega
  | n + 1, k, hn => by
    rw [lvN_s]; unfold lvS
    split
    · split <;> omega
    · exact lvN_le n k (by omega)
theorem lvN_keep {n k : Nat} (h : lvN n k ≠ 9) : lvN (n + 1) k = lvN n k := by rw [lvN_s]; unfold lvS; rw [if_neg h]
theorem lvN_back {n k : Nat} (hn : n ≤ 5) (h : lvN (n + 1) k = n) : lvN n k = n := by
  rw [lvN_s] at h; unfold lvS at h
  split at h
  · split at h <;> omega
  · exact h
theorem nI_sm {a b : Nat} (ha : a ≤ 9) (hb : b ≤ 9) (h : nI a = nI b) : a = b := by
  have h2 := congrArg Int32.toInt h
  rw [nI_toInt (by omega), nI_toInt (by omega)] at h2
  omega
def LvI (m k v : Nat) (g : Nat → Int32) : Prop := (∀ q, q < 4096 → q ≠ k → g q = nI (if q < k then lvN (m + 1) q else lvN m q)) ∧ ((lvN m k = 9 ∧ g k = nI 9 ∧ ∀ w, w < v → ¬ (mLeap w (k % 64) = true ∧ lvN m (k / 64 * 64 + w) = m)) ∨ (g k = nI (lvN (m + 1) k) ∧ lvN (m + 1) k ≠ 9))
theorem LvI_0 {m k : Nat} {g : Nat → Int32} (hm : m ≤ 5) (hk : k < 4096) (h : ∀ q, q < 4096 → g q = nI (if q < k then lvN (m + 1) q else lvN m q)) : LvI m k 0 g := by
  refine ⟨fun q hq _ => h q hq, ?_⟩
  have h1 := h k hk
  rw [if_neg (Nat.lt_irrefl _)] at h1
  by_cases h9 : lvN m k = 9
  · exact Or.inl ⟨h9, by rw [h1, h9], fun w hw => absurd hw (Nat.not_lt_zero _)⟩
  · exact Or.inr ⟨by rw [h1, lvN_keep h9], by rw [lvN_keep h9]; exact h9⟩
theorem LvI_c {m k v : Nat} {g : Nat → Int32} (hm : m ≤ 5) (h : LvI m k v g) (h9 : g k = nI 9) : lvN m k = 9 ∧ ∀ w, w < v → ¬ (mLeap w (k % 64) = true ∧ lvN m (k / 64 * 64 + w) = m) := by
  rcases h.2 with h2 | h2
  · exact ⟨h2.1, h2.2.2⟩
  · exact absurd (nI_sm (lvN_le _ _ (by omega)) (by omega) (h2.1.symm.trans h9)) h2.2
theorem LvI_q {m k v : Nat} {g : Nat → Int32} (hm : m ≤ 5) (hk : k < 4096) (hv : v < 64) (h : LvI m k v g) (h9 : g k = nI 9) : g (k / 64 * 64 + v) = nI m ↔ lvN m (k / 64 * 64 + v) = m := by
  have hc := (LvI_c hm h h9).1
  by_cases hq : k / 64 * 64 + v = k
  · rw [hq, h9, hc]
    constructor
    · intro z; have := nI_sm (by omega) (by omega) z; omega
    · intro z; omega
  · have h1 := h.1 _ (by omega) hq
    rw [h1]
    split
    · constructor
      · intro z
        exact lvN_back hm (nI_sm (lvN_le _ _ (by omega)) (by omega) z)
      · intro z; rw [lvN_keep (by omega), z]
    · constructor
      · intro z; exact nI_sm (lvN_le _ _ (by omega)) (by omega) z
      · intro z; rw [z]
theorem LvI_hit {m k v : Nat} {g : Nat → Int32} (hm : m ≤ 5) (hk : k < 4096) (hv : v < 64) (h : LvI m k v g) (h9 : g k = nI 9) (hl : mLeap v (k % 64) = true) (hq : g (k / 64 * 64 + v) = nI (m + 1 - 1)) : LvI m k (v + 1) (upd g k (nI (m + 1))) := by
  have hc := (LvI_c hm h h9).1
  have h2 : lvN m (k / 64 * 64 + v) = m := (LvI_q hm hk hv h h9).mp hq
  have h3 : lvN (m + 1) k = m + 1 := by
    rw [lvN_s]; unfold lvS
    rw [if_pos hc, if_pos (mAnyL_iff.mpr ⟨v, Nat.zero_le _, by omega, by rw [hl, decide_eq_true h2]; rfl⟩)]
  exact ⟨fun q h4 h5 => by rw [upd_n h5]; exact h.1 q h4 h5, Or.inr ⟨by rw [upd_s, h3], by omega⟩⟩
theorem LvI_no {m k v : Nat} {g : Nat → Int32} (hm : m ≤ 5) (hk : k < 4096) (hv : v < 64) (h : LvI m k v g) (h9 : g k = nI 9) (hl : mLeap v (k % 64) = false ∨ ¬ g (k / 64 * 64 + v) = nI (m + 1 - 1)) : LvI m k (v + 1) (upd g k (g k)) := by
  have hc := LvI_c hm h h9
  refine ⟨fun q h4 h5 => by rw [upd_n h5]; exact h.1 q h4 h5, Or.inl ⟨hc.1, by rw [upd_s]; exact h9, fun w hw => ?_⟩⟩
  by_cases hwv : w = v
  · subst hwv
    rintro ⟨z1, z2⟩
    rcases hl with hl | hl
    · rw [hl] at z1; cases z1
    · exact hl ((LvI_q hm hk hv h h9).mpr z2)
  · exact hc.2 w (by omega)
theorem LvI_ne {m k v : Nat} {g : Nat → Int32} (h : LvI m k v g) (h9 : ¬ g k = nI 9) : ∀ q, q < 4096 → g q = nI (if q < k + 1 then lvN (m + 1) q else lvN m q) := fun q hq => by
  by_cases hk : q = k
  · subst hk
    rw [if_pos (Nat.lt_succ_self _)]
    rcases h.2 with h2 | h2
    · exact absurd h2.2.1 h9
    · exact h2.1
  · rw [h.1 q hq hk]
    by_cases hl : q < k
    · rw [if_pos hl, if_pos (by omega)]
    · rw [if_neg hl, if_neg (by omega)]
theorem LvI_64 {m k v : Nat} {g : Nat → Int32} (hm : m ≤ 5) (h : LvI m k v g) (hv : v = 64) : ∀ q, q < 4096 → g q = nI (if q < k + 1 then lvN (m + 1) q else lvN m q) := fun q hq => by
  by_cases h9 : g k = nI 9
  · by_cases hk : q = k
    · subst hk
      have hc := LvI_c hm h h9
      have h3 : lvN (m + 1) q = 9 := by
        rw [lvN_s]; unfold lvS
        rw [if_pos hc.1, if_neg]
        intro z
        obtain ⟨w, _, hw, hp⟩ := mAnyL_iff.mp z
        rw [Bool.and_eq_true, decide_eq_true_eq] at hp
        exact hc.2 w (by omega) hp
      rw [if_pos (Nat.lt_succ_self _), h9, h3]
    · rw [h.1 q hq hk]
      by_cases hl : q < k
      · rw [if_pos hl, if_pos (by omega)]
      · rw [if_neg hl, if_neg (by omega)]
  · exact LvI_ne h h9 q hq
