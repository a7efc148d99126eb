def kWt (k : Nat) (b : Bool) : UInt32 :=
  if k = 2 then 1092091904 else if k = 3 then 1084227584 else if k = 4 then 1079194419 else if k = 5 then (if b then 1080872141 else 1078774989) else if k = 6 then FP.fconst1 else FP.fconst0
def kStP (K : Nat → BitVec 64) (pp : Nat → Int32) (s : BitVec 64) : Nat → UInt32
  | 0 => FP.fconst0
  | i + 1 => if s.getLsbD i then FP.fadd (kStP K pp s i) (kWt (kKind K i) (!decide (pp i = -1))) else kStP K pp s i
def kStM (K : Nat → BitVec 64) (w bk : BitVec 64) (b : Bool) : UInt32 := FP.fmul 1036831949 (FP.i2f (nI (pcnt (kAtd K w bk b))))
def kSth (K : Nat → BitVec 64) (pp : Nat → Int32) (w bk : BitVec 64) (b : Bool) : UInt32 := FP.fadd (kStP K pp (kSide w bk b) 64) (kStM K w bk b)
def KStOk (K : Nat → BitVec 64) (pp : Nat → Int32) (w bk : BitVec 64) (b : Bool) : Prop := (∀ i, i < 64 → (kSide w bk b).getLsbD i = true → vf_n32 (FP.fadd (kStP K pp (kSide w bk b) i) (kWt (kKind K i) (!decide (pp i = -1))))) ∧ vf_n32 (kStM K w bk b) ∧ vf_n32 (kSth K pp w bk b)
theorem kStP_t {K : Nat → BitVec 64} {pp : Nat → Int32} {s : BitVec 64} {i : Nat} (h : s.getLsbD i = true) : FP.fadd (kStP K pp s i) (kWt (kKind K i) (!decide (pp i = -1))) = kStP K pp s (i + 1) := by
  show _ = if s.getLsbD i then FP.fadd (kStP K pp s i) (kWt (kKind K i) (!decide (pp i = -1))) else kStP K pp s i
  rw [h, if_pos rfl]
theorem kStP_f {K : Nat → BitVec 64} {pp : Nat → Int32} {s : BitVec 64} {i : Nat} (h : s.getLsbD i = false) : kStP K pp s i = kStP K pp s (i + 1) := by
  show _ = if s.getLsbD i then FP.fadd (kStP K pp s i) (kWt (kKind K i) (!decide (pp i = -1))) else kStP K pp s i
  rw [h, if_neg (by decide)]
/-- every piece has a kind -/
def WfK (K : Nat → BitVec 64) (w bk : BitVec 64) : Prop := ∀ j, j < 64 → (w ||| bk).getLsbD j = true → 1 ≤ kKind K j
theorem kSide_or {w bk : BitVec 64} {b : Bool} {j : Nat} (h : (kSide w bk b).getLsbD j = true) : (w ||| bk).getLsbD j = true := by
  rw [BitVec.getLsbD_or, Bool.or_eq_true]
  cases b
  · exact Or.inr h
  · exact Or.inl h
/-- the lawful targets of a square, none where no own piece stands -/
def kTg1 (K : Nat → BitVec 64) (pp : Nat → Int32) (w bk : BitVec 64) (wa : Bool) (i : Nat) : BitVec 64 := if (kSide w bk wa).getLsbD i then kLaw K pp w bk wa i (kDel K w bk wa) else 0#64
theorem kTg1_k {K : Nat → BitVec 64} {pp : Nat → Int32} {w bk : BitVec 64} {wa : Bool} {i t : Nat} (hk : WfK K w bk) (hi : i < 64) (h : (kTg1 K pp w bk wa i).getLsbD t = true) : 1 ≤ kKind K i := by
  unfold kTg1 at h
  split at h
  · rename_i h2; exact hk i hi (kSide_or h2)
  · simp at h
def kPrF (K : Nat → BitVec 64) (pp : Nat → Int32) (w bk : BitVec 64) (wa : Bool) (k r : Nat) : Nat :=
  if (kTg1 K pp w bk wa (k / 64)).getLsbD (k % 64) then r + kCnt (kShK K (k / 64) (k % 64)) (kShP pp (k / 64) (k % 64)) (kShW w (k / 64) (k % 64) (w.getLsbD (k / 64))) (kShW bk (k / 64) (k % 64) (!w.getLsbD (k / 64))) (!wa) else r
def kPairs (K : Nat → BitVec 64) (pp : Nat → Int32) (w bk : BitVec 64) (wa : Bool) : Nat := mFoldL (kPrF K pp w bk wa) 4096 0 0
def kMaF (K : Nat → BitVec 64) (pp : Nat → Int32) (w bk : BitVec 64) (wa : Bool) (k : Nat) : Bool :=
  (kTg1 K pp w bk wa (k / 64)).getLsbD (k % 64) && kMated (kShK K (k / 64) (k % 64)) (kShP pp (k / 64) (k % 64)) (kShW w (k / 64) (k % 64) (w.getLsbD (k / 64))) (kShW bk (k / 64) (k % 64) (!w.getLsbD (k / 64))) (!wa)
def kMating (K : Nat → BitVec 64) (pp : Nat → Int32) (w bk : BitVec 64) (wa : Bool) : Option Nat := mFirst (kMaF K pp w bk wa) 4096 0
theorem mFoldL_s (g : Nat → Nat → Nat) (n x i r : Nat) : mFoldL g (n + 1 + x) i r = mFoldL g (n + x) (i + 1) (g i r) := by
  rw [show n + 1 + x = (n + x) + 1 by omega]; rfl
theorem mFirst_s (p : Nat → Bool) (n x i : Nat) : mFirst p (n + 1 + x) i = if p i then some i else mFirst p (n + x) (i + 1) := by
  rw [show n + 1 + x = (n + x) + 1 by omega]; rfl
theorem mFoldL_skip {g : Nat → Nat → Nat} : ∀ n x i r, (∀ k, i ≤ k → k < i + n → ∀ r, g k r = r) → mFoldL g (n + x) i r = mFoldL g x (i + n) r
  | 0, x, i, r, _ => by rw [Nat.zero_add, Nat.add_zero]
  | n + 1, x, i, r, h => by
    rw [mFoldL_s, h i (Nat.le_refl _) (by omega), mFoldL_skip n x (i + 1) r (fun k h1 h2 => h k (by omega) (by omega)), show i + 1 + n = i + (n + 1) by omega]
theorem mFirst_skip {p : Nat → Bool} : ∀ n x i, (∀ k, i ≤ k → k < i + n → p k = false) → mFirst p (n + x) i = mFirst p x (i + n)
  | 0, x, i, _ => by rw [Nat.zero_add, Nat.add_zero]
  | n + 1, x, i, h => by
    rw [mFirst_s, h i (Nat.le_refl _) (by omega), if_neg (by decide), mFirst_skip n x (i + 1) (fun k h1 h2 => h k (by omega) (by omega)), show i + 1 + n = i + (n + 1) by omega]
theorem ne_oo {M : MP} {a b c d : Nat} {x y : List Value} (ha : M a = some (.inr (c, x))) (hb : M b = some (.inr (d, y))) (h : c ≠ d) : a ≠ b := ne_of ha hb (fun z => by cases z; exact h rfl)
theorem ne_ii {M : MP} {a b n k : Nat} {cI : ClassId} {f g : Nat → Int32} (ha : M a = some (eI cI n f)) (hb : M b = some (eI cI k g)) (h : n ≠ k) : a ≠ b := ne_of ha hb (fun z => by cases z; exact h rfl)
section LDCWF
variable {p : Program} {l : Launch} {e : Env} {R : Room} {s : State} {m : MethodId} {args : Array Value} {below : List Frame} {meth : Method} {c : Code} {H : Heap} {locs : List Loc} {cells slots : Nat} {Q : State → Prop}
variable {cc : ByteArray} {pc : Nat} {ls : Array Slot} {rest : List Value}
theorem w_ldcwf (hexec : p.tables.exec = Jvm.exec) (hb : c.code = cc) {own : String} {index : Nat} {v : UInt32} (hown : s.vm.findClass own = some m.cls) (hconst : (Jvm.Cond.constantFloat own index v).before args s = true) (hdg : decode cc pc = .ok (.ldc_w index, 3)) (k : W p l e R s m args below meth c H locs cells slots Q (F0 m (pc + 3) ls (.float v :: rest))) : W p l e R s m args below meth c H locs cells slots Q (F0 m pc ls rest) := by
  intro T hT X
  obtain ⟨t, a, b⟩ := k T hT X
  refine ⟨t, ?_, b⟩
  subst hb
  obtain ⟨k1, cf, hk, hcf, hcp⟩ := Cond.constantFloat_spec hown hconst
  obtain ⟨k', hk', he⟩ := X.warmed.alike.2.2 _ _ hk
  jvm_step X.here [hexec, hdg, ldc_w.wp_float (s := T) (f := F0 m pc ls rest) X.here.top hk' (by rw [he]; exact hcf) hcp]
  exact a
end LDCWF
