theorem HM.cgJ {D : va_G} {M : MP} {H : Heap} {cJ : ClassId} {a n : Nat} {f g : Nat → Int64} (hM : HM D (mu M a (eJ cJ n f)) H) (h : ∀ k, k < n → f k = g k) : HM D (mu M a (eJ cJ n g)) H := by
  intro b x hx
  by_cases hb : b = a
  · subst hb
    rw [mu_s] at hx
    cases hx
    have h1 : H[b]? = some (vp_cell cJ (n, .inr (.inl f))) := hM b _ mu_s
    show H[b]? = some (vp_cell cJ (n, .inr (.inl g)))
    rw [h1]
    have e : (fun k : Fin n => Value.long (f k.val)) = (fun k : Fin n => Value.long (g k.val)) := funext fun k => by rw [h k.val k.isLt]
    rw [vp_cell_l, vp_cell_l]
    unfold arrV
    rw [e]
  · rw [mu_n hb] at hx
    exact hM b x ((mu_n hb).trans hx)
section COPYROW
variable {p : Program} {l : Launch} {e : Env} {R : Room} {s : State} {m : MethodId} {args : Array Value} {below : List Frame} {meth : Method} {c : Code} {H : Heap} {locs : List Loc} {cells slots : Nat} {Q : State → Prop}
variable {cc : ByteArray} {pc : Nat} {ls : Array Slot} {rest : List Value} {D : va_G} {cI cJ : ClassId} {M : MP} {A : Nat → Prop} {H0 : Heap}
/-- System.arraycopy of a whole array of ints into another of the same length -/
theorem w_copyI {own : String} {idx nL : Nat} (hx : p.tables.exec = Jvm.exec) (hb : c.code = cc) (hml : c.maxLocals = nL) (hsz : ls.size = nL) (hown : s.vm.findClass own = some m.cls) (hts : ∀ w ∈ AW, w.before args s = true) (hlink : Cond.methodLink own idx arraycopyName ∈ AW) (hK : KF D cI cJ s) (hM : HM D M H) (hS : va_S A H0 H locs) {a0 a1 n : Nat} {f g : Nat → Int32} (he0 : M a0 = some (eI cI n f)) (he1 : M a1 = some (eI cI n g)) (hA : A a1) (hn : n < 2 ^ 31)
    (hfr : 1 ≤ R.frames) (hlo : (rest.map fun v => v.category).sum + (nativeFrameWords "java/lang/System" "arraycopy" 5 + 11) ≤ R.locals) (hdg : decode cc pc = .ok (.invokestatic idx, 3))
    (kk : ∀ (H : Heap) (locs : List Loc), HM D (mu M a1 (eI cI n f)) H → va_S A H0 H locs → W p l e R s m args below meth c H locs cells slots Q (F0 m (pc + 3) ls rest)) : W p l e R s m args below meth c H locs cells slots Q (F0 m pc ls (.int (nI n) :: .int (nI 0) :: .ref a1 :: .int (nI 0) :: .ref a0 :: rest)) := by
  have cn : (nI n).toNatClampNeg = n := nI_clamp hn
  have c0' : (nI 0).toNatClampNeg = 0 := nI_clamp (by decide)
  have i0 : (nI 0).toInt = 0 := nI_toInt (by decide)
  have i1 : (nI n).toInt = n := nI_toInt hn
  intro T hT X
  have hc0 : H[a0]? = some (vp_cell cI (n, .inl f)) := hM a0 _ he0
  have hc1 : H[a1]? = some (vp_cell cI (n, .inl g)) := hM a1 _ he1
  obtain ⟨-, k0, hk0, cm0, hkk0⟩ := (hK.1.2 0 _ rfl).1 n (fun j => .int (f j))
  obtain ⟨-, k1, hk1, cm1, hkk1⟩ := (hK.1.2 0 _ rfl).1 n (fun j => .int (g j))
  obtain ⟨vm', X', step⟩ := X.arraycopy hx hown (hts _ hlink) (hts _ qw_2_65) (hts _ qw_2_64) (hts _ qw_1_18) (src := a0) (dst := a1) (cs := vp_cell cI (n, .inl f)) (cd := vp_cell cI (n, .inl g)) (srcPos := nI 0) (destPos := nI 0) (n := nI n) (by rw [hT]; exact hc0) (by rw [hT]; exact hc1)
    (fun _ h => by cases h) (fun _ h => by cases h) (fun h => by cases h) (fun h => by cases h) hk0 hk1 hkk0 hkk1 (by simp) (nI_pos (by decide)) (nI_pos (by decide)) (nI_pos hn)
    (by rw [i0, i1]; show ¬ _ > ((arrV cI n (fun j => .int (f j))).slots.size : Int); rw [arrV_size]; omega)
    (by rw [i0, i1]; show ¬ _ > ((arrV cI n (fun j => .int (g j))).slots.size : Int); rw [arrV_size]; omega)
    (fun vm₁ _ i hi => by
      rw [cn] at hi
      have e : (vp_cell cI (n, .inl f)).slots.getD ((nI 0).toNatClampNeg + i) .null = .int (f ((nI 0).toNatClampNeg + i)) := by
        show (arrV cI n (fun j => .int (f j))).slots.getD _ _ = _
        rw [Array.getD_eq_getD_getElem?, arrV_read _ _ (by omega)]
        rfl
      refine ⟨?_, ?_⟩
      · rw [e]; rfl
      · rw [e]; exact trivial)
    (g := F0 m pc ls (.int (nI n) :: .int (nI 0) :: .ref a1 :: .int (nI 0) :: .ref a0 :: rest)) rfl (by rw [hml]; exact hsz) (rest := rest) rfl (by rw [hb]; exact hdg) hfr (by show 2 * 0 + _ + _ ≤ _; omega)
  have e1 : copied (vp_cell cI (n, .inl f)) (vp_cell cI (n, .inl g)) (nI 0) (nI 0) (nI n) = vp_cell cI (n, .inl (va_cpy f g (nI 0).toNatClampNeg (nI 0).toNatClampNeg (nI n).toNatClampNeg)) := va_copied (fun z => .int z) cI cI f g (by rw [c0', cn]; omega)
  rw [e1, c0', cn] at X' step
  have hl : a1 < H.size := (Array.getElem?_eq_some_iff.mp hc1).1
  have hheap : ((T.setVm vm').setCell a1 (vp_cell cI (n, .inl (va_cpy f g 0 0 n)))).heap = H.setIfInBounds a1 (vp_cell cI (n, .inl (va_cpy f g 0 0 n))) := by rw [← hT]; rfl
  have oq : ∀ q : Nat, q ≠ a1 → (H.setIfInBounds a1 (vp_cell cI (n, .inl (va_cpy f g 0 0 n))))[q]? = H[q]? := fun q hq => by simp [Array.getElem?_setIfInBounds, Ne.symm hq]
  have hM1 : HM D (mu M a1 (eI cI n (va_cpy f g 0 0 n))) (H.setIfInBounds a1 (vp_cell cI (n, .inl (va_cpy f g 0 0 n)))) := hM.up (show (H.setIfInBounds a1 _)[a1]? = some _ by simp [Array.getElem?_setIfInBounds, hl]) oq
  obtain ⟨t, a1', b1⟩ := kk _ _ (HM.cg hM1 (fun k hk => cpy0 hk)) ⟨by simp; exact hS.1, fun q g1 g2 => by
      rw [oq q (fun e => g2 (by rw [e]; exact hA))]
      exact hS.2.1 q g1 g2, fun q hq => by
      rcases List.mem_append.mp hq with h | h
      · exact hS.2.2 q h
      · obtain ⟨z, -, hz⟩ := List.mem_map.mp h
        rw [← hz]
        exact hA⟩ _ hheap X'
  exact ⟨t, step t a1', b1⟩
/-- System.arraycopy of a whole array of sets into another of the same length -/
theorem w_copyJ {own : String} {idx nL : Nat} (hx : p.tables.exec = Jvm.exec) (hb : c.code = cc) (hml : c.maxLocals = nL) (hsz : ls.size = nL) (hown : s.vm.findClass own = some m.cls) (hts : ∀ w ∈ AW, w.before args s = true) (hlink : Cond.methodLink own idx arraycopyName ∈ AW) (hK : KF D cI cJ s) (hM : HM D M H) (hS : va_S A H0 H locs) {a0 a1 n : Nat} {f g : Nat → BitVec 64} (he0 : M a0 = some (eJ cJ n (fun k => bL (f k)))) (he1 : M a1 = some (eJ cJ n (fun k => bL (g k)))) (hA : A a1) (hn : n < 2 ^ 31)
    (hfr : 1 ≤ R.frames) (hlo : (rest.map fun v => v.category).sum + (nativeFrameWords "java/lang/System" "arraycopy" 5 + 11) ≤ R.locals) (hdg : decode cc pc = .ok (.invokestatic idx, 3))
    (kk : ∀ (H : Heap) (locs : List Loc), HM D (mu M a1 (eJ cJ n (fun k => bL (f k)))) H → va_S A H0 H locs → W p l e R s m args below meth c H locs cells slots Q (F0 m (pc + 3) ls rest)) : W p l e R s m args below meth c H locs cells slots Q (F0 m pc ls (.int (nI n) :: .int (nI 0) :: .ref a1 :: .int (nI 0) :: .ref a0 :: rest)) := by
  have cn : (nI n).toNatClampNeg = n := nI_clamp hn
  have c0' : (nI 0).toNatClampNeg = 0 := nI_clamp (by decide)
  have i0 : (nI 0).toInt = 0 := nI_toInt (by decide)
  have i1 : (nI n).toInt = n := nI_toInt hn
  intro T hT X
  have hc0 : H[a0]? = some (vp_cell cJ (n, .inr (.inl (fun k => bL (f k))))) := hM a0 _ he0
  have hc1 : H[a1]? = some (vp_cell cJ (n, .inr (.inl (fun k => bL (g k))))) := hM a1 _ he1
  obtain ⟨-, k0, hk0, cm0, hkk0⟩ := (hK.1.2 1 _ rfl).1 n (fun j => .long (bL (f j)))
  obtain ⟨-, k1, hk1, cm1, hkk1⟩ := (hK.1.2 1 _ rfl).1 n (fun j => .long (bL (g j)))
  obtain ⟨vm', X', step⟩ := X.arraycopy hx hown (hts _ hlink) (hts _ qw_2_65) (hts _ qw_2_64) (hts _ qw_1_18) (src := a0) (dst := a1) (cs := vp_cell cJ (n, .inr (.inl (fun k => bL (f k))))) (cd := vp_cell cJ (n, .inr (.inl (fun k => bL (g k))))) (srcPos := nI 0) (destPos := nI 0) (n := nI n) (by rw [hT]; exact hc0) (by rw [hT]; exact hc1)
    (fun _ h => by cases h) (fun _ h => by cases h) (fun h => by cases h) (fun h => by cases h) hk0 hk1 hkk0 hkk1 (by simp) (nI_pos (by decide)) (nI_pos (by decide)) (nI_pos hn)
    (by rw [i0, i1]; show ¬ _ > ((arrV cJ n (fun j => .long (bL (f j)))).slots.size : Int); rw [arrV_size]; omega)
    (by rw [i0, i1]; show ¬ _ > ((arrV cJ n (fun j => .long (bL (g j)))).slots.size : Int); rw [arrV_size]; omega)
    (fun vm₁ _ i hi => by
      rw [cn] at hi
      have e : (vp_cell cJ (n, .inr (.inl (fun k => bL (f k))))).slots.getD ((nI 0).toNatClampNeg + i) .null = .long (bL (f ((nI 0).toNatClampNeg + i))) := by
        show (arrV cJ n (fun j => .long (bL (f j)))).slots.getD _ _ = _
        rw [Array.getD_eq_getD_getElem?, arrV_read _ _ (by omega)]
        rfl
      refine ⟨?_, ?_⟩
      · rw [e]; rfl
      · rw [e]; exact trivial)
    (g := F0 m pc ls (.int (nI n) :: .int (nI 0) :: .ref a1 :: .int (nI 0) :: .ref a0 :: rest)) rfl (by rw [hml]; exact hsz) (rest := rest) rfl (by rw [hb]; exact hdg) hfr (by show 2 * 0 + _ + _ ≤ _; omega)
  have e1 : copied (vp_cell cJ (n, .inr (.inl (fun k => bL (f k))))) (vp_cell cJ (n, .inr (.inl (fun k => bL (g k))))) (nI 0) (nI 0) (nI n) = vp_cell cJ (n, .inr (.inl (va_cpy (fun k => bL (f k)) (fun k => bL (g k)) (nI 0).toNatClampNeg (nI 0).toNatClampNeg (nI n).toNatClampNeg))) := va_copied (fun z => .long z) cJ cJ (fun k => bL (f k)) (fun k => bL (g k)) (by rw [c0', cn]; omega)
  rw [e1, c0', cn] at X' step
  have hl : a1 < H.size := (Array.getElem?_eq_some_iff.mp hc1).1
  have hheap : ((T.setVm vm').setCell a1 (vp_cell cJ (n, .inr (.inl (va_cpy (fun k => bL (f k)) (fun k => bL (g k)) 0 0 n))))).heap = H.setIfInBounds a1 (vp_cell cJ (n, .inr (.inl (va_cpy (fun k => bL (f k)) (fun k => bL (g k)) 0 0 n)))) := by rw [← hT]; rfl
  have oq : ∀ q : Nat, q ≠ a1 → (H.setIfInBounds a1 (vp_cell cJ (n, .inr (.inl (va_cpy (fun k => bL (f k)) (fun k => bL (g k)) 0 0 n)))))[q]? = H[q]? := fun q hq => by simp [Array.getElem?_setIfInBounds, Ne.symm hq]
  have hM1 : HM D (mu M a1 (eJ cJ n (va_cpy (fun k => bL (f k)) (fun k => bL (g k)) 0 0 n))) (H.setIfInBounds a1 (vp_cell cJ (n, .inr (.inl (va_cpy (fun k => bL (f k)) (fun k => bL (g k)) 0 0 n))))) := hM.up (show (H.setIfInBounds a1 _)[a1]? = some _ by simp [Array.getElem?_setIfInBounds, hl]) oq
  obtain ⟨t, a1', b1⟩ := kk _ _ (HM.cgJ hM1 (fun k hk => by unfold va_cpy; rw [if_pos ⟨Nat.zero_le _, by omega⟩]; congr 2; omega)) ⟨by simp; exact hS.1, fun q g1 g2 => by
      rw [oq q (fun e => g2 (by rw [e]; exact hA))]
      exact hS.2.1 q g1 g2, fun q hq => by
      rcases List.mem_append.mp hq with h | h
      · exact hS.2.2 q h
      · obtain ⟨z, -, hz⟩ := List.mem_map.mp h
        rw [← hz]
        exact hA⟩ _ hheap X'
  exact ⟨t, step t a1', b1⟩
end COPYROW
section ALENJ
variable {p : Program} {l : Launch} {e : Env} {R : Room} {s : State} {m : MethodId} {args : Array Value} {below : List Frame} {meth : Method} {c : Code} {H : Heap} {locs : List Loc} {cells slots : Nat} {Q : State → Prop}
variable {cc : ByteArray} {pc : Nat} {ls : Array Slot} {rest : List Value} {D : va_G} {cI cJ : ClassId} {M : MP} {A : Nat → Prop} {H0 : Heap}
theorem w_alenJ (hx : p.tables.exec = Jvm.exec) (hb : c.code = cc) (hK : KF D cI cJ s) (hM : HM D M H) {a n : Nat} {f : Nat → Int64} (he : M a = some (eJ cJ n f)) (hdg : decode cc pc = .ok (.arraylength, 1)) (kk : W p l e R s m args below meth c H locs cells slots Q (F0 m (pc + 1) ls (.int (nI n) :: rest))) : W p l e R s m args below meth c H locs cells slots Q (F0 m pc ls (.ref a :: rest)) :=
  va_alen hx hb hK.1 (hM.one he) 0 1 rfl rfl (v := nI n) rfl hdg kk
end ALENJ
def kZ : Nat → BitVec 64 := fun _ => 0#64
def pNo : Nat → Int32 := fun _ => -1
theorem kNk_in {K : Nat → BitVec 64} {a b : Nat} (h : 1 ≤ kKind K a) : 1 ≤ kNk K a b ∧ kNk K a b < 7 := by
  have := kKind_lt K a
  unfold kNk; split <;> omega
def PosAt (cI cJ : ClassId) (M : MP) (po okk pt : Nat) (K : Nat → BitVec 64) (pp : Nat → Int32) (w bk : BitVec 64) (wa : Bool) : Prop :=
  M po = some (.inr (1, [.ref okk, .ref pt, .long (bL w), .long (bL bk), .int (bI wa)])) ∧ M okk = some (eJ cJ 7 (fun k => bL (K k))) ∧ M pt = some (eI cI 64 pp)
def PosMade (cI cJ : ClassId) (M M' : MP) (A : Nat → Prop) (po : Nat) : Prop :=
  ∃ okk pt : Nat, PosAt cI cJ M' po okk pt kZ pNo 0#64 0#64 true ∧ (M okk = none ∧ A okk) ∧ (M pt = none ∧ A pt) ∧ Keep M M' (fun b => b = po)
theorem bI_fit (b : Bool) : fits .boolean (.int (bI b)) = true := by cases b <;> rfl
