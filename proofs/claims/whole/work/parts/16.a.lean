/-! ===== PURE 1: reaching squares, step by step ===== -/
theorem kB_two (j : Nat) : kB j = BitVec.twoPow 64 j := rfl
theorem kB_get {a : Nat} (ha : a < 64) (i : Nat) : (kB a).getLsbD i = decide (a = i) := getT a i ha
theorem kB_64 : kB 64 = 0#64 := by decide
theorem z_get (i : Nat) : (0#64).getLsbD i = false := by simp
theorem kNot_get (x : BitVec 64) {i : Nat} (hi : i < 64) : (kNot x).getLsbD i = !x.getLsbD i := by
  unfold kNot
  rw [BitVec.getLsbD_xor]
  have h1 : (18446744073709551615#64) = BitVec.allOnes 64 := by decide
  rw [h1, BitVec.getLsbD_allOnes, decide_eq_true hi, Bool.xor_true]
theorem orz {x y : BitVec 64} (h : x ||| y = 0#64) : x = 0#64 ∧ y = 0#64 := by
  have hb : ∀ i, x.getLsbD i = false ∧ y.getLsbD i = false := fun i => by
    have h2 : (x ||| y).getLsbD i = false := by rw [h]; exact z_get i
    rw [BitVec.getLsbD_or, Bool.or_eq_false_iff] at h2
    exact h2
  exact ⟨BitVec.eq_of_getLsbD_eq (fun i _ => by rw [(hb i).1, z_get]), BitVec.eq_of_getLsbD_eq (fun i _ => by rw [(hb i).2, z_get])⟩
theorem bv_ext {x y : BitVec 64} (h : ∀ i, i < 64 → x.getLsbD i = y.getLsbD i) : x = y := BitVec.eq_of_getLsbD_eq h
theorem bool_ext {a b : Bool} (h : a = true ↔ b = true) : a = b := by
  cases a <;> cases b <;> simp_all
theorem bv_ne0 {x : BitVec 64} : ¬ x = 0#64 ↔ ∃ i, i < 64 ∧ x.getLsbD i = true := by
  constructor
  · intro h
    refine Classical.byContradiction fun h2 => h (bv_ext fun i hi => ?_)
    rw [z_get]
    cases hb : x.getLsbD i
    · rfl
    · exact absurd ⟨i, hi, hb⟩ h2
  · rintro ⟨i, _, h⟩ e
    rw [e, z_get] at h
    cases h
def filD (f : BitVec 64 → BitVec 64) (fr : BitVec 64) : Nat → BitVec 64 → BitVec 64
  | 0, _ => 0#64
  | n + 1, u => f u ||| filD f fr n (f u &&& fr)
theorem filD_0 {f : BitVec 64 → BitVec 64} (hf : f 0#64 = 0#64) (fr : BitVec 64) : ∀ n, filD f fr n 0#64 = 0#64
  | 0 => rfl
  | n + 1 => by
    show f 0#64 ||| filD f fr n (f 0#64 &&& fr) = 0#64
    rw [hf, BitVec.zero_and, filD_0 hf fr n]
    rfl
theorem kRay_fil {f1 f2 f3 f4 : BitVec 64 → BitVec 64} (z1 : f1 0#64 = 0#64) (z2 : f2 0#64 = 0#64) (z3 : f3 0#64 = 0#64) (z4 : f4 0#64 = 0#64) (fr : BitVec 64) : ∀ n u d l r a, kRay f1 f2 f3 f4 fr n u d l r a = a ||| (((filD f1 fr n u ||| filD f2 fr n d) ||| filD f3 fr n l) ||| filD f4 fr n r)
  | 0, u, d, l, r, a => by
    show a = a ||| (((0#64 ||| 0#64) ||| 0#64) ||| 0#64)
    simp
  | n + 1, u, d, l, r, a => by
    by_cases h : ((u ||| d) ||| l) ||| r = 0#64
    · rw [kRay_z h]
      obtain ⟨h1, hr⟩ := orz h
      obtain ⟨h2, hl⟩ := orz h1
      obtain ⟨hu, hd⟩ := orz h2
      rw [hu, hd, hl, hr, filD_0 z1, filD_0 z2, filD_0 z3, filD_0 z4]
      simp
    · rw [kRay_n h, kRay_fil z1 z2 z3 z4 fr n]
      refine bv_ext fun i _ => ?_
      simp only [filD, BitVec.getLsbD_or]
      ac_rfl
theorem Lin.comp {L K : BitVec 64 → BitVec 64} (h : Lin L) (k : Lin K) : Lin (fun x => L (K x)) := ⟨by show L (K 0#64) = 0#64; rw [k.1, h.1], fun x y => by show L (K (x ||| y)) = L (K x) ||| L (K y); rw [k.2, h.2]⟩
theorem Lin_filD {f : BitVec 64 → BitVec 64} (h : Lin f) (fr : BitVec 64) : ∀ n, Lin (filD f fr n)
  | 0 => ⟨rfl, fun _ _ => (BitVec.or_zero (x := 0#64)).symm⟩
  | n + 1 => h.or ((Lin_filD h fr n).comp (h.and_c fr))
theorem Lin_sW : Lin sW := (Lin.id'.and_c 18374403900871474942#64).shr 1
theorem Lin_sE : Lin sE := (Lin.id'.and_c 9187201950435737471#64).shl 1
theorem Lin_sU : Lin sU := Lin.id'.shl 8
theorem Lin_sD : Lin sD := Lin.id'.shr 8
theorem Lin_sUW : Lin sUW := (Lin.id'.and_c 18374403900871474942#64).shl 7
theorem Lin_sUE : Lin sUE := (Lin.id'.and_c 9187201950435737471#64).shl 9
theorem Lin_sDW : Lin sDW := (Lin.id'.and_c 18374403900871474942#64).shr 9
theorem Lin_sDE : Lin sDE := (Lin.id'.and_c 9187201950435737471#64).shr 7
theorem kRk_fil (x o : BitVec 64) : kRk x o = ((filD sU (kNot o) 7 x ||| filD sD (kNot o) 7 x) ||| filD sW (kNot o) 7 x) ||| filD sE (kNot o) 7 x := by
  unfold kRk
  rw [kRay_fil Lin_sU.1 Lin_sD.1 Lin_sW.1 Lin_sE.1, BitVec.zero_or]
theorem kBi_fil (x o : BitVec 64) : kBi x o = ((filD sUW (kNot o) 7 x ||| filD sUE (kNot o) 7 x) ||| filD sDW (kNot o) 7 x) ||| filD sDE (kNot o) 7 x := by
  unfold kBi
  rw [kRay_fil Lin_sUW.1 Lin_sUE.1 Lin_sDW.1 Lin_sDE.1, BitVec.zero_or]
theorem Lin_kRk (o : BitVec 64) : Lin (fun x => kRk x o) := by
  have e : (fun x => kRk x o) = fun x => ((filD sU (kNot o) 7 x ||| filD sD (kNot o) 7 x) ||| filD sW (kNot o) 7 x) ||| filD sE (kNot o) 7 x := funext fun x => kRk_fil x o
  rw [e]
  exact (((Lin_filD Lin_sU _ 7).or (Lin_filD Lin_sD _ 7)).or (Lin_filD Lin_sW _ 7)).or (Lin_filD Lin_sE _ 7)
theorem Lin_kBi (o : BitVec 64) : Lin (fun x => kBi x o) := by
  have e : (fun x => kBi x o) = fun x => ((filD sUW (kNot o) 7 x ||| filD sUE (kNot o) 7 x) ||| filD sDW (kNot o) 7 x) ||| filD sDE (kNot o) 7 x := funext fun x => kBi_fil x o
  rw [e]
  exact (((Lin_filD Lin_sUW _ 7).or (Lin_filD Lin_sUE _ 7)).or (Lin_filD Lin_sDW _ 7)).or (Lin_filD Lin_sDE _ 7)
theorem Lin_kW : Lin kW := Lin_sW.or Lin_sE
theorem Lin_kKi : Lin kKi := (Lin_kW.or ((Lin.id'.or Lin_kW).shl 8)).or ((Lin.id'.or Lin_kW).shr 8)
theorem Lin_kPa (c : Bool) : Lin (fun x => kPa x c) := by
  cases c
  · exact Lin_kW.comp Lin_sD
  · exact Lin_kW.comp Lin_sU
/-! ===== single squares ===== -/
def stW (a : Nat) : Nat := if a < 64 then (if a % 8 = 0 then 64 else a - 1) else 64
def stE (a : Nat) : Nat := if a < 64 then (if a % 8 = 7 then 64 else a + 1) else 64
def stU (a : Nat) : Nat := if a < 56 then a + 8 else 64
def stD (a : Nat) : Nat := if a < 64 then (if a < 8 then 64 else a - 8) else 64
def stUW (a : Nat) : Nat := if a < 56 then (if a % 8 = 0 then 64 else a + 7) else 64
def stUE (a : Nat) : Nat := if a < 56 then (if a % 8 = 7 then 64 else a + 9) else 64
def stDW (a : Nat) : Nat := if a < 64 then (if a < 8 then 64 else if a % 8 = 0 then 64 else a - 9) else 64
def stDE (a : Nat) : Nat := if a < 64 then (if a < 8 then 64 else if a % 8 = 7 then 64 else a - 7) else 64
def StOf (f : BitVec 64 → BitVec 64) (st : Nat → Nat) : Prop := ∀ a, a < 65 → f (kB a) = kB (st a) ∧ st a < 65
theorem so_W : StOf sW stW := by unfold StOf; decide +kernel
theorem so_E : StOf sE stE := by unfold StOf; decide +kernel
theorem so_U : StOf sU stU := by unfold StOf; decide +kernel
theorem so_D : StOf sD stD := by unfold StOf; decide +kernel
theorem so_UW : StOf sUW stUW := by unfold StOf; decide +kernel
theorem so_UE : StOf sUE stUE := by unfold StOf; decide +kernel
theorem so_DW : StOf sDW stDW := by unfold StOf; decide +kernel
theorem so_DE : StOf sDE stDE := by unfold StOf; decide +kernel
def itS (st : Nat → Nat) (a : Nat) : Nat → Nat
  | 0 => a
  | n + 1 => st (itS st a n)
theorem itS_f (st : Nat → Nat) (a : Nat) : ∀ k, itS st (st a) k = itS st a (k + 1)
  | 0 => rfl
  | k + 1 => by
    show st (itS st (st a) k) = st (itS st a (k + 1))
    rw [itS_f st a k]
theorem kB_bit {a b : Nat} (ha : a < 65) (hb : b < 64) : (kB a).getLsbD b = true ↔ a = b := by
  by_cases h : a < 64
  · rw [kB_get h, decide_eq_true_eq]
  · have e : a = 64 := by omega
    subst e
    rw [kB_64, z_get]
    constructor
    · intro z; cases z
    · intro z; omega
theorem kB_and (fr : BitVec 64) {a : Nat} (ha : a < 65) : kB a &&& fr = if fr.getLsbD a then kB a else 0#64 := by
  refine bv_ext fun i hi => ?_
  rw [BitVec.getLsbD_and]
  by_cases h : a = i
  · subst h
    cases hf : fr.getLsbD a
    · rw [Bool.and_false, if_neg (by decide), z_get]
    · rw [Bool.and_true, if_pos rfl]
  · have h1 : (kB a).getLsbD i = false := by
      cases hc : (kB a).getLsbD i
      · rfl
      · exact absurd ((kB_bit ha hi).mp hc) h
    rw [h1, Bool.false_and]
    split
    · rw [h1]
    · rw [z_get]
theorem filD_bit {f : BitVec 64 → BitVec 64} {st : Nat → Nat} {fr : BitVec 64} (hz : f 0#64 = 0#64) (hst : StOf f st) : ∀ n a, a < 65 → ∀ b, b < 64 → ((filD f fr n (kB a)).getLsbD b = true ↔ ∃ i, 1 ≤ i ∧ i ≤ n ∧ itS st a i = b ∧ ∀ k, 1 ≤ k → k < i → fr.getLsbD (itS st a k) = true)
  | 0, a, ha, b, hb => by
    constructor
    · intro h
      have h2 : (0#64).getLsbD b = true := h
      rw [z_get] at h2; cases h2
    · rintro ⟨i, h1, h2, _⟩; omega
  | n + 1, a, ha, b, hb => by
    have h0 := hst a ha
    have ih := filD_bit (fr := fr) hz hst n (st a) h0.2 b hb
    show ((f (kB a) ||| filD f fr n (f (kB a) &&& fr)).getLsbD b = true) ↔ _
    rw [h0.1, BitVec.getLsbD_or, Bool.or_eq_true, kB_bit h0.2 hb, kB_and fr h0.2]
    constructor
    · rintro (h | h)
      · exact ⟨1, Nat.le_refl _, by omega, h, fun k k1 k2 => by omega⟩
      · cases hf : fr.getLsbD (st a)
        · rw [hf, if_neg (by decide), filD_0 hz, z_get] at h; cases h
        · rw [hf, if_pos rfl] at h
          obtain ⟨i, i1, i2, i3, i4⟩ := ih.mp h
          refine ⟨i + 1, by omega, by omega, (itS_f st a i).symm.trans i3, fun k k1 k2 => ?_⟩
          by_cases hk : k = 1
          · subst hk; exact hf
          · have h5 := i4 (k - 1) (by omega) (by omega)
            rw [itS_f, show k - 1 + 1 = k by omega] at h5
            exact h5
    · rintro ⟨i, i1, i2, i3, i4⟩
      by_cases hi : i = 1
      · subst hi; exact Or.inl i3
      · right
        have hf : fr.getLsbD (st a) = true := i4 1 (Nat.le_refl _) (by omega)
        rw [hf, if_pos rfl]
        refine ih.mpr ⟨i - 1, by omega, by omega, ?_, fun k k1 k2 => ?_⟩
        · rw [itS_f, show i - 1 + 1 = i by omega]; exact i3
        · rw [itS_f]; exact i4 (k + 1) (by omega) (by omega)
/-! ===== the eight ways and the reference's lines ===== -/
def wayOk (st : Nat → Nat) (al : Nat → Nat → Bool) (a i : Nat) : Bool := !decide (itS st a i < 64) || (al a (itS st a i) && (decide (mDist a (itS st a i) = i) && (List.range i).all (fun k => decide (itS st a k = mPth a (itS st a i) k))))
def wayAll (st : Nat → Nat) (al : Nat → Nat → Bool) : Bool := (List.range 64).all (fun a => (List.range 7).all (fun i => wayOk st al a (i + 1)))
theorem wa_U : wayAll stU mStr = true := by decide +kernel
theorem wa_D : wayAll stD mStr = true := by decide +kernel
theorem wa_W : wayAll stW mStr = true := by decide +kernel
theorem wa_E : wayAll stE mStr = true := by decide +kernel
theorem wa_UW : wayAll stUW mDia = true := by decide +kernel
theorem wa_UE : wayAll stUE mDia = true := by decide +kernel
theorem wa_DW : wayAll stDW mDia = true := by decide +kernel
theorem wa_DE : wayAll stDE mDia = true := by decide +kernel
theorem way_at {st : Nat → Nat} {al : Nat → Nat → Bool} (h : wayAll st al = true) {a i b : Nat} (ha : a < 64) (h1 : 1 ≤ i) (h7 : i ≤ 7) (hb : b < 64) (e : itS st a i = b) : al a b = true ∧ mDist a b = i ∧ ∀ k, k < i → itS st a k = mPth a b k := by
  have h2 := List.all_eq_true.mp (List.all_eq_true.mp h a (List.mem_range.mpr ha)) (i - 1) (List.mem_range.mpr (by omega))
  rw [show i - 1 + 1 = i by omega] at h2
  unfold wayOk at h2
  rw [e, decide_eq_true hb] at h2
  simp only [Bool.not_true, Bool.false_or, Bool.and_eq_true, decide_eq_true_eq, List.all_eq_true, List.mem_range] at h2
  exact h2
def wayRk (a b : Nat) : Bool := !mStr a b || (decide (itS stU a (mDist a b) = b) || (decide (itS stD a (mDist a b) = b) || (decide (itS stW a (mDist a b) = b) || decide (itS stE a (mDist a b) = b))))
def wayBi (a b : Nat) : Bool := !mDia a b || (decide (itS stUW a (mDist a b) = b) || (decide (itS stUE a (mDist a b) = b) || (decide (itS stDW a (mDist a b) = b) || decide (itS stDE a (mDist a b) = b))))
theorem wr_all : (List.range 64).all (fun a => (List.range 64).all (fun b => wayRk a b)) = true := by decide +kernel
theorem wb_all : (List.range 64).all (fun a => (List.range 64).all (fun b => wayBi a b)) = true := by decide +kernel
def Clr (o : BitVec 64) (a b : Nat) : Prop := ∀ k, 1 ≤ k → k < mDist a b → o.getLsbD (mPth a b k) = false
theorem dirB {f : BitVec 64 → BitVec 64} {st : Nat → Nat} {al : Nat → Nat → Bool} (hf : Lin f) (hs : StOf f st) (hw : wayAll st al = true) (hal : ∀ a b, al a b = true → mAl a b = true) (o : BitVec 64) {a b : Nat} (ha : a < 64) (hb : b < 64) :
    (filD f (kNot o) 7 (kB a)).getLsbD b = true ↔ (al a b = true ∧ Clr o a b) ∧ itS st a (mDist a b) = b := by
  rw [filD_bit hf.1 hs 7 a (by omega) b hb]
  constructor
  · rintro ⟨i, i1, i2, i3, i4⟩
    obtain ⟨w1, w2, w3⟩ := way_at hw ha i1 i2 hb i3
    have hp := pth_tab a ha b hb (hal a b w1)
    refine ⟨⟨w1, fun k k1 k2 => ?_⟩, by rw [w2]; exact i3⟩
    have h5 := i4 k k1 (by omega)
    have hq := (hp.2.2.2.2 k k2).1
    rw [w3 k (by omega), kNot_get o hq] at h5
    cases hx : o.getLsbD (mPth a b k)
    · rfl
    · rw [hx] at h5; cases h5
  · rintro ⟨⟨w1, hc⟩, i3⟩
    have hp := pth_tab a ha b hb (hal a b w1)
    obtain ⟨_, w2, w3⟩ := way_at hw ha (show 1 ≤ mDist a b from hp.2.1) hp.2.2.1 hb i3
    refine ⟨mDist a b, hp.2.1, hp.2.2.1, i3, fun k k1 k2 => ?_⟩
    have hq := (hp.2.2.2.2 k k2).1
    rw [w3 k k2, kNot_get o hq, hc k k1 k2]
    rfl
theorem al_str (a b : Nat) (h : mStr a b = true) : mAl a b = true := by unfold mAl; rw [h]; rfl
theorem al_dia (a b : Nat) (h : mDia a b = true) : mAl a b = true := by unfold mAl; rw [h]; exact Bool.or_true _
theorem kRk_bit (o : BitVec 64) {a b : Nat} (ha : a < 64) (hb : b < 64) : (kRk (kB a) o).getLsbD b = true ↔ mStr a b = true ∧ Clr o a b := by
  rw [kRk_fil]
  simp only [BitVec.getLsbD_or, Bool.or_eq_true]
  rw [dirB Lin_sU so_U wa_U al_str o ha hb, dirB Lin_sD so_D wa_D al_str o ha hb, dirB Lin_sW so_W wa_W al_str o ha hb, dirB Lin_sE so_E wa_E al_str o ha hb]
  constructor
  · rintro (((h | h) | h) | h) <;> exact h.1
  · intro h
    have h1 := List.all_eq_true.mp (List.all_eq_true.mp wr_all a (List.mem_range.mpr ha)) b (List.mem_range.mpr hb)
    unfold wayRk at h1
    rw [h.1] at h1
    simp only [Bool.not_true, Bool.false_or, Bool.or_eq_true, decide_eq_true_eq] at h1
    rcases h1 with h1 | h1 | h1 | h1
    · exact Or.inl (Or.inl (Or.inl ⟨h, h1⟩))
    · exact Or.inl (Or.inl (Or.inr ⟨h, h1⟩))
    · exact Or.inl (Or.inr ⟨h, h1⟩)
    · exact Or.inr ⟨h, h1⟩
theorem kBi_bit (o : BitVec 64) {a b : Nat} (ha : a < 64) (hb : b < 64) : (kBi (kB a) o).getLsbD b = true ↔ mDia a b = true ∧ Clr o a b := by
  rw [kBi_fil]
  simp only [BitVec.getLsbD_or, Bool.or_eq_true]
  rw [dirB Lin_sUW so_UW wa_UW al_dia o ha hb, dirB Lin_sUE so_UE wa_UE al_dia o ha hb, dirB Lin_sDW so_DW wa_DW al_dia o ha hb, dirB Lin_sDE so_DE wa_DE al_dia o ha hb]
  constructor
  · rintro (((h | h) | h) | h) <;> exact h.1
  · intro h
    have h1 := List.all_eq_true.mp (List.all_eq_true.mp wb_all a (List.mem_range.mpr ha)) b (List.mem_range.mpr hb)
    unfold wayBi at h1
    rw [h.1] at h1
    simp only [Bool.not_true, Bool.false_or, Bool.or_eq_true, decide_eq_true_eq] at h1
    rcases h1 with h1 | h1 | h1 | h1
    · exact Or.inl (Or.inl (Or.inl ⟨h, h1⟩))
    · exact Or.inl (Or.inl (Or.inr ⟨h, h1⟩))
    · exact Or.inl (Or.inr ⟨h, h1⟩)
    · exact Or.inr ⟨h, h1⟩
/-! ===== the kinds of pieces on single squares; both ways round ===== -/
def gKi (a b : Nat) : Bool := decide (mAway (a % 8) (b % 8) ≤ 1) && (decide (mAway (a / 8) (b / 8) ≤ 1) && decide (0 < mAway (a % 8) (b % 8) + mAway (a / 8) (b / 8)))
def gPa (c : Bool) (a b : Nat) : Bool := decide (mAway (a % 8) (b % 8) = 1) && (if c then decide (b / 8 = a / 8 + 1) else decide (a / 8 = b / 8 + 1))
def gFw (c : Bool) (a b : Nat) : Bool := decide (a % 8 = b % 8) && (if c then decide (b / 8 = a / 8 + 1) else decide (a / 8 = b / 8 + 1))
theorem ki_all : (List.range 64).all (fun a => (List.range 64).all (fun b => (kKi (kB a)).getLsbD b == gKi a b)) = true := by decide +kernel
theorem pt_all : (List.range 64).all (fun a => (List.range 64).all (fun b => (kPa (kB a) true).getLsbD b == gPa true a b)) = true := by decide +kernel
theorem pf_all : (List.range 64).all (fun a => (List.range 64).all (fun b => (kPa (kB a) false).getLsbD b == gPa false a b)) = true := by decide +kernel
theorem at_all : (List.range 64).all (fun a => (List.range 64).all (fun b => (kAhd true a).getLsbD b == gFw true a b)) = true := by decide +kernel
theorem af_all : (List.range 64).all (fun a => (List.range 64).all (fun b => (kAhd false a).getLsbD b == gFw false a b)) = true := by decide +kernel
theorem tab_of {p q : Nat → Nat → Bool} (h : (List.range 64).all (fun a => (List.range 64).all (fun b => p a b == q a b)) = true) {a b : Nat} (ha : a < 64) (hb : b < 64) : p a b = q a b :=
  beq_iff_eq.mp (List.all_eq_true.mp (List.all_eq_true.mp h a (List.mem_range.mpr ha)) b (List.mem_range.mpr hb))
theorem kKi_bit {a b : Nat} (ha : a < 64) (hb : b < 64) : (kKi (kB a)).getLsbD b = gKi a b := tab_of ki_all ha hb
theorem kPa_bit (c : Bool) {a b : Nat} (ha : a < 64) (hb : b < 64) : (kPa (kB a) c).getLsbD b = gPa c a b := by
  cases c
  · exact tab_of pf_all ha hb
  · exact tab_of pt_all ha hb
theorem kAhd_bit (c : Bool) {a b : Nat} (ha : a < 64) (hb : b < 64) : (kAhd c a).getLsbD b = gFw c a b := by
  cases c
  · exact tab_of af_all ha hb
  · exact tab_of at_all ha hb
theorem mAway_c (a b : Nat) : mAway a b = mAway b a := by unfold mAway; split <;> split <;> omega
theorem gKi_c (a b : Nat) : gKi a b = gKi b a := by unfold gKi; rw [mAway_c (a % 8), mAway_c (a / 8)]
theorem mLeap_c (a b : Nat) : mLeap a b = mLeap b a := by unfold mLeap; rw [mAway_c (a % 8), mAway_c (a / 8)]
theorem mStr_c (a b : Nat) : mStr a b = mStr b a := by unfold mStr; rw [mAway_c (a % 8), mAway_c (a / 8)]
theorem mDia_c (a b : Nat) : mDia a b = mDia b a := by unfold mDia; rw [mAway_c (a % 8), mAway_c (a / 8)]
theorem mDist_c (a b : Nat) : mDist a b = mDist b a := by unfold mDist; rw [mAway_c (a % 8), mAway_c (a / 8)]
theorem mAl_c (a b : Nat) : mAl a b = mAl b a := by unfold mAl; rw [mStr_c, mDia_c]
theorem gPa_c (c : Bool) (a b : Nat) : gPa (!c) a b = gPa c b a := by
  unfold gPa
  rw [mAway_c (a % 8)]
  cases c <;> rfl
def pthSy (a b : Nat) : Bool := !mAl a b || (List.range (mDist a b + 1)).all (fun k => decide (mPth b a k = mPth a b (mDist a b - k)))
theorem ps_all : (List.range 64).all (fun a => (List.range 64).all (fun b => pthSy a b)) = true := by decide +kernel
theorem pth_sy {a b k : Nat} (ha : a < 64) (hb : b < 64) (h : mAl a b = true) (hk : k ≤ mDist a b) : mPth b a k = mPth a b (mDist a b - k) := by
  have h1 := List.all_eq_true.mp (List.all_eq_true.mp ps_all a (List.mem_range.mpr ha)) b (List.mem_range.mpr hb)
  unfold pthSy at h1
  rw [h] at h1
  simp only [Bool.not_true, Bool.false_or, List.all_eq_true, List.mem_range, decide_eq_true_eq] at h1
  exact h1 k (by omega)
theorem Clr_c {o : BitVec 64} {a b : Nat} (ha : a < 64) (hb : b < 64) (h : mAl a b = true) (hc : Clr o a b) : Clr o b a := fun k k1 k2 => by
  rw [mDist_c] at k2
  rw [pth_sy ha hb h (by omega)]
  exact hc _ (by omega) (by omega)
/-- an attack of a piece of kind k and colour c, over the occupied squares o -/
def GAt (k : Nat) (c : Bool) (o : BitVec 64) (a b : Nat) : Prop :=
  (k = 1 ∧ gKi a b = true) ∨ (k = 2 ∧ (mStr a b = true ∨ mDia a b = true) ∧ Clr o a b) ∨ (k = 3 ∧ mStr a b = true ∧ Clr o a b) ∨ (k = 4 ∧ mDia a b = true ∧ Clr o a b) ∨ (k = 5 ∧ mLeap a b = true) ∨ (k = 6 ∧ gPa c a b = true)
theorem kOf_bit {k : Nat} (c : Bool) (o : BitVec 64) {a b : Nat} (ha : a < 64) (hb : b < 64) : (kOf k c (kB a) o).getLsbD b = true ↔ GAt k c o a b := by
  by_cases h1 : k = 1
  · subst h1
    rw [show kOf 1 c (kB a) o = kKi (kB a) from rfl, kKi_bit ha hb]
    unfold GAt; simp
  by_cases h2 : k = 2
  · subst h2
    rw [show kOf 2 c (kB a) o = kRk (kB a) o ||| kBi (kB a) o from rfl, BitVec.getLsbD_or, Bool.or_eq_true, kRk_bit o ha hb, kBi_bit o ha hb]
    unfold GAt
    constructor
    · rintro (h | h)
      · exact Or.inr (Or.inl ⟨rfl, Or.inl h.1, h.2⟩)
      · exact Or.inr (Or.inl ⟨rfl, Or.inr h.1, h.2⟩)
    · rintro (⟨h, _⟩ | ⟨_, h | h, h3⟩ | ⟨h, _⟩ | ⟨h, _⟩ | ⟨h, _⟩ | ⟨h, _⟩)
      · exact absurd h (by decide)
      · exact Or.inl ⟨h, h3⟩
      · exact Or.inr ⟨h, h3⟩
      all_goals exact absurd h (by decide)
  by_cases h3 : k = 3
  · subst h3
    rw [show kOf 3 c (kB a) o = kRk (kB a) o from rfl, kRk_bit o ha hb]
    unfold GAt; simp
  by_cases h4 : k = 4
  · subst h4
    rw [show kOf 4 c (kB a) o = kBi (kB a) o from rfl, kBi_bit o ha hb]
    unfold GAt; simp
  by_cases h5 : k = 5
  · subst h5
    rw [show kOf 5 c (kB a) o = kN (BitVec.twoPow 64 a) from rfl, kN_tab ha hb]
    unfold GAt; simp
  by_cases h6 : k = 6
  · subst h6
    rw [show kOf 6 c (kB a) o = kPa (kB a) c from rfl, kPa_bit c ha hb]
    unfold GAt; simp
  have e : kOf k c (kB a) o = 0#64 := by unfold kOf; rw [if_neg h1, if_neg h2, if_neg h3, if_neg h4, if_neg h5, if_neg h6]
  rw [e, z_get]
  unfold GAt
  constructor
  · intro z; cases z
  · rintro (⟨h, _⟩ | ⟨h, _⟩ | ⟨h, _⟩ | ⟨h, _⟩ | ⟨h, _⟩ | ⟨h, _⟩)
    · exact absurd h h1
    · exact absurd h h2
    · exact absurd h h3
    · exact absurd h h4
    · exact absurd h h5
    · exact absurd h h6
theorem Lin_kOf (k : Nat) (c : Bool) (o : BitVec 64) : Lin (fun x => kOf k c x o) := by
  by_cases h1 : k = 1
  · subst h1; exact Lin_kKi
  by_cases h2 : k = 2
  · subst h2; exact (Lin_kRk o).or (Lin_kBi o)
  by_cases h3 : k = 3
  · subst h3; exact Lin_kRk o
  by_cases h4 : k = 4
  · subst h4; exact Lin_kBi o
  by_cases h5 : k = 5
  · subst h5; exact Lin_kN
  by_cases h6 : k = 6
  · subst h6; exact Lin_kPa c
  have e : (fun x => kOf k c x o) = fun _ => 0#64 := funext fun x => by unfold kOf; rw [if_neg h1, if_neg h2, if_neg h3, if_neg h4, if_neg h5, if_neg h6]
  rw [e]
  exact ⟨rfl, fun _ _ => (BitVec.or_zero (x := 0#64)).symm⟩
theorem kOf_set {k : Nat} (c : Bool) (o x : BitVec 64) {b : Nat} (hb : b < 64) : (kOf k c x o).getLsbD b = true ↔ ∃ a, a < 64 ∧ x.getLsbD a = true ∧ GAt k c o a b := by
  rw [(Lin_kOf k c o).bit x b]
  constructor
  · rintro ⟨v, h1, h2, h3⟩; exact ⟨v, h1, h2, (kOf_bit c o h1 hb).mp h3⟩
  · rintro ⟨v, h1, h2, h3⟩; exact ⟨v, h1, h2, (kOf_bit c o h1 hb).mpr h3⟩
/-- the attackers of one square -/
theorem kAtt_bit (K : Nat → BitVec 64) (w bk : BitVec 64) {t a : Nat} (c : Bool) (o : BitVec 64) (ht : t < 64) (ha : a < 64) : (kAtt K w bk (kB t) c o).getLsbD a = true ↔ (kSide w bk c).getLsbD a = true ∧ ∃ k, 1 ≤ k ∧ k ≤ 6 ∧ (K k).getLsbD a = true ∧ GAt k c o a t := by
  unfold kAtt
  simp only [BitVec.getLsbD_and, BitVec.getLsbD_or, Bool.and_eq_true, Bool.or_eq_true]
  rw [kKi_bit ht ha, kB_two, kN_tab ht ha, ← kB_two, kPa_bit _ ht ha, kRk_bit o ht ha, kBi_bit o ht ha, gKi_c, mLeap_c, gPa_c, mStr_c, mDia_c]
  constructor
  · rintro ⟨h, hs⟩
    refine ⟨hs, ?_⟩
    rcases h with (((h | h) | h) | h) | h
    · exact ⟨1, by decide, by decide, h.2, Or.inl ⟨rfl, h.1⟩⟩
    · exact ⟨5, by decide, by decide, h.2, Or.inr (Or.inr (Or.inr (Or.inr (Or.inl ⟨rfl, h.1⟩))))⟩
    · exact ⟨6, by decide, by decide, h.2, Or.inr (Or.inr (Or.inr (Or.inr (Or.inr ⟨rfl, h.1⟩))))⟩
    · have hc : Clr o a t := Clr_c ht ha (al_str _ _ (by rw [mStr_c]; exact h.1.1)) h.1.2
      rcases h.2 with h2 | h2
      · exact ⟨2, by decide, by decide, h2, Or.inr (Or.inl ⟨rfl, Or.inl h.1.1, hc⟩)⟩
      · exact ⟨3, by decide, by decide, h2, Or.inr (Or.inr (Or.inl ⟨rfl, h.1.1, hc⟩))⟩
    · have hc : Clr o a t := Clr_c ht ha (al_dia _ _ (by rw [mDia_c]; exact h.1.1)) h.1.2
      rcases h.2 with h2 | h2
      · exact ⟨2, by decide, by decide, h2, Or.inr (Or.inl ⟨rfl, Or.inr h.1.1, hc⟩)⟩
      · exact ⟨4, by decide, by decide, h2, Or.inr (Or.inr (Or.inr (Or.inl ⟨rfl, h.1.1, hc⟩)))⟩
  · rintro ⟨hs, k, k1, k6, hk, h⟩
    refine ⟨?_, hs⟩
    rcases h with ⟨rfl, h⟩ | ⟨rfl, h, hc⟩ | ⟨rfl, h, hc⟩ | ⟨rfl, h, hc⟩ | ⟨rfl, h⟩ | ⟨rfl, h⟩
    · exact Or.inl (Or.inl (Or.inl (Or.inl ⟨h, hk⟩)))
    · rcases h with h | h
      · exact Or.inl (Or.inr ⟨⟨h, Clr_c ha ht (al_str _ _ h) hc⟩, Or.inl hk⟩)
      · exact Or.inr ⟨⟨h, Clr_c ha ht (al_dia _ _ h) hc⟩, Or.inl hk⟩
    · exact Or.inl (Or.inr ⟨⟨h, Clr_c ha ht (al_str _ _ h) hc⟩, Or.inr hk⟩)
    · exact Or.inr ⟨⟨h, Clr_c ha ht (al_dia _ _ h) hc⟩, Or.inr hk⟩
    · exact Or.inl (Or.inl (Or.inl (Or.inr ⟨h, hk⟩)))
    · exact Or.inl (Or.inl (Or.inr ⟨h, hk⟩))
theorem kAtt_0 (K : Nat → BitVec 64) (w bk : BitVec 64) (c : Bool) (o : BitVec 64) : kAtt K w bk 0#64 c o = 0#64 := by
  unfold kAtt
  have e1 : kKi 0#64 = 0#64 := Lin_kKi.1
  have e2 : kN 0#64 = 0#64 := Lin_kN.1
  have e3 : kPa 0#64 (!c) = 0#64 := (Lin_kPa (!c)).1
  have e4 : kRk 0#64 o = 0#64 := (Lin_kRk o).1
  have e5 : kBi 0#64 o = 0#64 := (Lin_kBi o).1
  rw [e1, e2, e3, e4, e5]
  simp
