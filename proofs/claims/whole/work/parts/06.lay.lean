/-! ===== values: truth values, sets of squares, numbers ===== -/
def bI (b : Bool) : Int32 := if b then nI 1 else nI 0
theorem bI_t : bI true = nI 1 := rfl
theorem bI_f : bI false = nI 0 := rfl
theorem bI_nar (b : Bool) : narrow .boolean (.int (bI b)) = .int (bI b) := by cases b <;> rfl
theorem bI_0 (b : Bool) : bI b = 0 ↔ b = false := by cases b <;> decide
theorem bI_inj (a b : Bool) : bI a = bI b ↔ a = b := by cases a <;> cases b <;> decide
def bL (x : BitVec 64) : Int64 := Int64.ofBitVec x
theorem bL_inj {a b : BitVec 64} : bL a = bL b ↔ a = b := ⟨fun h => congrArg Int64.toBitVec h, fun h => h ▸ rfl⟩
theorem bL_of (x : Int64) : bL x.toBitVec = x := rfl
theorem bL_smod : ∀ k, k < 64 → (((nI k).toInt64 &&& 63).toBitVec.smod 64).toNat = k := by decide +kernel
theorem bL_umod : ∀ k, k < 64 → (((nI k).toInt64.toUInt64 &&& Int64.toUInt64 63).toBitVec % 64).toNat = k := by decide +kernel
theorem bL_shl (a : BitVec 64) {k : Nat} (hk : k < 64) : bL a <<< ((nI k).toInt64 &&& 63) = bL (a <<< k) := by
  apply Int64.toBitVec_inj.1
  show a <<< (((nI k).toInt64 &&& 63).toBitVec.smod 64).toNat = a <<< k
  rw [bL_smod k hk]
theorem bL_ushr (a : BitVec 64) {k : Nat} (hk : k < 64) : ((bL a).toUInt64 >>> ((nI k).toInt64.toUInt64 &&& Int64.toUInt64 63)).toInt64 = bL (a >>> k) := by
  apply Int64.toBitVec_inj.1
  show a >>> (((nI k).toInt64.toUInt64 &&& Int64.toUInt64 63).toBitVec % 64).toNat = a >>> k
  rw [bL_umod k hk]
theorem lg_cmp_0 (x y : Int64) : lg_cmp x y = 0 ↔ x = y := by
  unfold lg_cmp
  by_cases h : x > y
  · rw [if_pos h]
    refine ⟨fun e => absurd e (by decide), fun e => ?_⟩
    subst e
    exact absurd h (Int64.lt_irrefl)
  · rw [if_neg h]
    by_cases h2 : x = y
    · simp [h2]
    · rw [if_neg h2]
      exact ⟨fun e => absurd e (by decide), fun e => absurd e h2⟩
/-! ===== a world: what lies at the known addresses ===== -/
abbrev MP : Type := Nat → Option va_E
def HM (D : va_G) (M : MP) (H : Heap) : Prop := ∀ (a : Nat) (e : va_E), M a = some e → va_at D vwCl (a, e) H
def mu (M : MP) (a : Nat) (e : va_E) : MP := fun q => if q = a then some e else M q
theorem mu_s {M : MP} {a : Nat} {e : va_E} : mu M a e a = some e := if_pos rfl
theorem mu_n {M : MP} {a b : Nat} {e : va_E} (h : b ≠ a) : mu M a e b = M b := if_neg h
theorem mu_g {M : MP} {a b : Nat} {e : va_E} {r : Option va_E} (h : b ≠ a) (hr : M b = r) : mu M a e b = r := (mu_n h).trans hr
theorem mu_mu {M : MP} {a : Nat} {e e' : va_E} : mu (mu M a e) a e' = mu M a e' := by
  funext q; unfold mu; by_cases h : q = a <;> simp [h]
theorem mu_id {M : MP} {a : Nat} {e : va_E} (h : M a = some e) : mu M a e = M := by
  funext q; unfold mu; by_cases hq : q = a
  · rw [if_pos hq, hq, h]
  · rw [if_neg hq]
theorem mu_comm {M : MP} {a b : Nat} {e e' : va_E} (h : a ≠ b) : mu (mu M a e) b e' = mu (mu M b e') a e := by
  funext q; unfold mu; by_cases h1 : q = a <;> by_cases h2 : q = b <;> simp_all
theorem HM.one {D : va_G} {M : MP} {H : Heap} (h : HM D M H) {a : Nat} {e : va_E} (he : M a = some e) : va_P D vwCl [(a, e)] H := by
  intro k q hk
  have hz : k < 1 := (List.getElem?_eq_some_iff.mp hk).1
  rw [show k = 0 by omega] at hk
  cases hk
  exact h a e he
theorem HM.lt {D : va_G} {M : MP} {H : Heap} (h : HM D M H) {a : Nat} {e : va_E} (he : M a = some e) : a < H.size := va_at.lt (h a e he)
theorem HM.up {D : va_G} {M : MP} {H H1 : Heap} {a : Nat} {e : va_E} (h : HM D M H) (he : va_at D vwCl (a, e) H1) (oq : ∀ q : Nat, q ≠ a → H1[q]? = H[q]?) : HM D (mu M a e) H1 := by
  intro b x hx
  by_cases hb : b = a
  · subst hb; rw [mu_s] at hx; cases hx; exact he
  · rw [mu_n hb] at hx; exact (h b x hx).kept (oq b hb)
theorem HM.push {D : va_G} {M : MP} {H H1 : Heap} {e : va_E} (h : HM D M H) (he : va_at D vwCl (H.size, e) H1) (oq : ∀ q : Nat, q < H.size → H1[q]? = H[q]?) : HM D (mu M H.size e) H1 := by
  intro b x hx
  by_cases hb : b = H.size
  · subst hb; rw [mu_s] at hx; cases hx; exact he
  · rw [mu_n hb] at hx; exact (h b x hx).kept (oq b (h.lt hx))
theorem ne_of {M : MP} {a b : Nat} {x y : va_E} (ha : M a = some x) (hb : M b = some y) (h : x ≠ y) : a ≠ b := fun e => h (Option.some.inj (ha.symm.trans (e ▸ hb)))
theorem ne_io {M : MP} {a b : Nat} {x : ClassId × vp_A} {y : Nat × List Value} (ha : M a = some (.inl x)) (hb : M b = some (.inr y)) : a ≠ b := ne_of ha hb (fun h => by cases h)
theorem ne_oi {M : MP} {a b : Nat} {x : ClassId × vp_A} {y : Nat × List Value} (ha : M a = some (.inr y)) (hb : M b = some (.inl x)) : a ≠ b := ne_of ha hb (fun h => by cases h)
abbrev eI (cI : ClassId) (n : Nat) (f : Nat → Int32) : va_E := .inl (cI, n, .inl f)
abbrev eJ (cJ : ClassId) (n : Nat) (f : Nat → Int64) : va_E := .inl (cJ, n, .inr (.inl f))
theorem ne_ij {M : MP} {a b : Nat} {cI cJ : ClassId} {n k : Nat} {f : Nat → Int32} {g : Nat → Int64} (ha : M a = some (eI cI n f)) (hb : M b = some (eJ cJ k g)) : a ≠ b := ne_of ha hb (fun h => by cases h)
theorem ne_ji {M : MP} {a b : Nat} {cI cJ : ClassId} {n k : Nat} {f : Nat → Int32} {g : Nat → Int64} (ha : M a = some (eJ cJ k g)) (hb : M b = some (eI cI n f)) : a ≠ b := ne_of ha hb (fun h => by cases h)
/-! ===== what every method may take as given ===== -/
def KF (D : va_G) (cI cJ : ClassId) (U : State) : Prop := va_K D vwCl [(cI, .int), (cJ, .long)] U ∧ va_Nw (.methodLinkNest RX1 53 yX3_bit RX3) U ∧ va_Nw (.methodLinkNest RX2 39 yX3_bit RX3) U ∧ va_Nw (.methodLinkNest RX2 43 yX3_has RX3) U ∧ va_Nw (.methodLinkNest RX1 49 yX3_has RX3) U
theorem KF.same {D : va_G} {cI cJ : ClassId} {u U : State} (h : u.vm = U.vm) (k : KF D cI cJ u) : KF D cI cJ U :=
  ⟨va_K.moved (h ▸ Vm.Alike.refl _) k.1, va_Nw.same rfl h k.2.1, va_Nw.same rfl h k.2.2.1, va_Nw.same rfl h k.2.2.2.1, va_Nw.same rfl h k.2.2.2.2⟩
theorem KF.warm {D : va_G} {cI cJ : ClassId} {s U : State} (h : s.WarmedH U.vm) (k : KF D cI cJ s) : KF D cI cJ U :=
  ⟨va_K.moved h.alike k.1, va_Nw.warmM h k.2.1, va_Nw.warmM h k.2.2.1, va_Nw.warmM h k.2.2.2.1, va_Nw.warmM h k.2.2.2.2⟩
abbrev wsA (y : MethodName) (cc : ByteArray) (n : Nat) (ret : Option FieldType) : List Cond := .code y cc n ret :: AW
abbrev rmD (d mc ms : Nat) : Room := { frames := d, cells := mc, slots := ms, locals := 40 * d }
def PcR (D : va_G) (cI cJ : ClassId) (av : List Value) (M : MP) : Array Value → State → Prop := va_Pc av (fun U => KF D cI cJ U ∧ HM D M U.heap)
theorem PcR.blind {D : va_G} {cI cJ : ClassId} {av : List Value} {M : MP} : FrameBlind (PcR D cI cJ av M) := fun a U g mk h => ⟨h.1, h.2.1.same rfl, h.2.2⟩
/-- a method that only reads, and answers an int, a long, a float -/
def RdI (l : Launch) (y : MethodName) (cc : ByteArray) (n : Nat) (ret : Option FieldType) (d : Nat) (D : va_G) (cI cJ : ClassId) (av : List Value) (M : MP) (v : Int32) : Prop :=
  Met l y (wsA y cc n ret) (rmD d 0 0) (PcR D cI cJ av M) (vp_Si (fun r => r = v)) 0 0 (fun _ => False)
def RdL (l : Launch) (y : MethodName) (cc : ByteArray) (n : Nat) (ret : Option FieldType) (d : Nat) (D : va_G) (cI cJ : ClassId) (av : List Value) (M : MP) (v : Int64) : Prop :=
  Met l y (wsA y cc n ret) (rmD d 0 0) (PcR D cI cJ av M) (vp_Sl (fun r => r = v)) 0 0 (fun _ => False)
def RdF (l : Launch) (y : MethodName) (cc : ByteArray) (n : Nat) (ret : Option FieldType) (d : Nat) (D : va_G) (cI cJ : ClassId) (av : List Value) (M : MP) (v : UInt32) : Prop :=
  Met l y (wsA y cc n ret) (rmD d 0 0) (PcR D cI cJ av M) (vp_Sf (fun r => r = v)) 0 0 (fun _ => False)
/-- the start of such a method's walk -/
theorem rd_start {l : Launch} {y : MethodName} {cc : ByteArray} {n d : Nat} {ret : Option FieldType} {D : va_G} {cI cJ : ClassId} {av : List Value} {M : MP} {Qc : Array Value → State → Outcome → State → Prop} (hy : plainName y.cls = true) (hn : (lg_sl av).length ≤ n)
    (body : ∀ (p : Program) (e : Env) (s : State) (m : MethodId) (args : Array Value) (below : List Frame) (meth : Method) (c : Code), p.tables.exec = Jvm.exec → c.code = cc → meth.sig.returnType = ret → c.maxLocals = n → s.vm.findClass y.cls = some m.cls → (∀ w ∈ AW, w.before args s = true) → meth.locks = false → KF D cI cJ s → HM D M s.heap →
      ∀ ls : Array Slot, lv_has ls n (lv_args 0 av) → W p l e (rmD d 0 0) s m args below meth c s.heap [] 0 0 (MQ below Qc args s 0 0 (fun _ => False)) (F0 m 0 ls [])) :
    Met l y (wsA y cc n ret) (rmD d 0 0) (PcR D cI cJ av M) Qc 0 0 (fun _ => False) := by
  refine Met.ofW (cc := cc) (maxL := n) (ret := ret) hy rfl ?_
  intro p e s m args below meth c s₁ B hml hv
  obtain ⟨rfl, hK, hM⟩ := hv
  have hts := atoms_spec (ws := wsA y cc n ret) B.pre
  rw [lg_entry_eq]
  exact body p e s m _ below meth c B.exec B.bytes B.returns hml (findClass_of_methodNamed B.named) (fun w h => hts w (List.mem_cons_of_mem _ h)) B.notSynchronized hK hM _ (lv_entry av hn)
/-- static data of a call -/
def okS (own : String) (idx : Nat) (y : MethodName) (cc : ByteArray) (n : Nat) (ret : Option FieldType) (k : Nat) : Prop := GoodIn AW (va_wsS own idx y (wsA y cc n ret)) ∧ (y.cls ≠ "java/lang/invoke/MethodHandle" ∧ y.cls ≠ "java/lang/invoke/VarHandle" ∧ (parseMethodDescriptor y.desc).map (fun d => d.parameters.length) = some k)
def okV (own : String) (idx : Nat) (y : MethodName) (cc : ByteArray) (n : Nat) (ret : Option FieldType) (k : Nat) : Prop := GoodIn AW (wsV own idx y.cls y (wsA y cc n ret)) ∧ (y.cls ≠ "java/lang/invoke/MethodHandle" ∧ y.cls ≠ "java/lang/invoke/VarHandle" ∧ (parseMethodDescriptor y.desc).map (fun d => d.parameters.length) = some k)
def okN (y : MethodName) (cc : ByteArray) (n : Nat) (ret : Option FieldType) (k : Nat) : Prop := GoodIn AW (wsA y cc n ret) ∧ Cond.initialized y.cls ∈ AW ∧ Cond.static y ∈ AW ∧ (y.cls ≠ "java/lang/invoke/MethodHandle" ∧ y.cls ≠ "java/lang/invoke/VarHandle" ∧ (parseMethodDescriptor y.desc).map (fun d => d.parameters.length) = some k)
theorem aw_in {w : Cond} (h : w ∈ AW) : w ∈ AW ∧ ((w.onTables && w.keeps) = true ∨ ∃ ty, w = .arrayClass ty) := ⟨h, aw_ok h⟩
theorem wsA_in {y : MethodName} {cc : ByteArray} {n : Nat} {ret : Option FieldType} (h : Cond.code y cc n ret ∈ AW) : GoodIn AW (wsA y cc n ret) := fun w hw => by
  rcases List.mem_cons.mp hw with rfl | hw
  · exact aw_in h
  · exact aw_in hw
theorem okS_of {own : String} {idx : Nat} {y : MethodName} {cc : ByteArray} {n : Nat} {ret : Option FieldType} {k : Nat} (h1 : Cond.methodLink own idx y ∈ AW) (h2 : Cond.static y ∈ AW) (h3 : Cond.initialized y.cls ∈ AW) (h4 : Cond.code y cc n ret ∈ AW) (hd : y.cls ≠ "java/lang/invoke/MethodHandle" ∧ y.cls ≠ "java/lang/invoke/VarHandle" ∧ (parseMethodDescriptor y.desc).map (fun d => d.parameters.length) = some k) : okS own idx y cc n ret k :=
  ⟨fun w hw => by
    rcases List.mem_append.mp hw with hw | hw
    · simp only [List.mem_cons, List.not_mem_nil, or_false] at hw
      rcases hw with rfl | rfl | rfl
      · exact aw_in h1
      · exact aw_in h2
      · exact aw_in h3
    · exact wsA_in h4 w hw, hd⟩
theorem okV_of {own : String} {idx : Nat} {y : MethodName} {cc : ByteArray} {n : Nat} {ret : Option FieldType} {k : Nat} (h1 : Cond.methodLink own idx y ∈ AW) (h2 : Cond.instanceMethod y ∈ AW) (h3 : Cond.selects y.cls y y ∈ AW) (h5 : Cond.initialized y.cls ∈ AW) (h4 : Cond.code y cc n ret ∈ AW) (hd : y.cls ≠ "java/lang/invoke/MethodHandle" ∧ y.cls ≠ "java/lang/invoke/VarHandle" ∧ (parseMethodDescriptor y.desc).map (fun d => d.parameters.length) = some k) : okV own idx y cc n ret k :=
  ⟨fun w hw => by
    rcases List.mem_append.mp hw with hw | hw
    · simp only [List.mem_cons, List.not_mem_nil, or_false] at hw
      rcases hw with rfl | rfl | rfl | rfl
      · exact aw_in h1
      · exact aw_in h2
      · exact aw_in h3
      · exact aw_in h5
    · exact wsA_in h4 w hw, hd⟩
theorem okN_of {y : MethodName} {cc : ByteArray} {n : Nat} {ret : Option FieldType} {k : Nat} (h2 : Cond.static y ∈ AW) (h3 : Cond.initialized y.cls ∈ AW) (h4 : Cond.code y cc n ret ∈ AW) (hd : y.cls ≠ "java/lang/invoke/MethodHandle" ∧ y.cls ≠ "java/lang/invoke/VarHandle" ∧ (parseMethodDescriptor y.desc).map (fun d => d.parameters.length) = some k) : okN y cc n ret k := ⟨wsA_in h4, h3, h2, hd⟩
section LAY
variable {p : Program} {l : Launch} {e : Env} {R : Room} {s : State} {m : MethodId} {args : Array Value} {below : List Frame} {meth : Method} {c : Code} {H : Heap} {locs : List Loc} {cells slots : Nat} {Q : State → Prop}
variable {cc : ByteArray} {pc : Nat} {ls : Array Slot} {rest : List Value} {D : va_G} {cI cJ : ClassId} {M : MP} {A : Nat → Prop} {H0 : Heap}
/-! ===== numbers on the stack ===== -/
theorem ni_add (hx : p.tables.exec = Jvm.exec) (hb : c.code = cc) (a b : Nat) (hdg : decode cc pc = .ok (.iadd, 1)) (k : W p l e R s m args below meth c H locs cells slots Q (F0 m (pc + 1) ls (.int (nI (a + b)) :: rest))) : W p l e R s m args below meth c H locs cells slots Q (F0 m pc ls (.int (nI b) :: .int (nI a) :: rest)) := lv_iadd hx hb hdg (by rw [nI_add]; exact k)
theorem ni_sub (hx : p.tables.exec = Jvm.exec) (hb : c.code = cc) (a b : Nat) (h : b ≤ a) (hdg : decode cc pc = .ok (.isub, 1)) (k : W p l e R s m args below meth c H locs cells slots Q (F0 m (pc + 1) ls (.int (nI (a - b)) :: rest))) : W p l e R s m args below meth c H locs cells slots Q (F0 m pc ls (.int (nI b) :: .int (nI a) :: rest)) := lv_isub hx hb hdg (by rw [pk_sub h]; exact k)
theorem ni_mul (hx : p.tables.exec = Jvm.exec) (hb : c.code = cc) (a b : Nat) (hdg : decode cc pc = .ok (.imul, 1)) (k : W p l e R s m args below meth c H locs cells slots Q (F0 m (pc + 1) ls (.int (nI (a * b)) :: rest))) : W p l e R s m args below meth c H locs cells slots Q (F0 m pc ls (.int (nI b) :: .int (nI a) :: rest)) := lv_imul hx hb hdg (by rw [pk_mul]; exact k)
theorem ni_div (hx : p.tables.exec = Jvm.exec) (hb : c.code = cc) (a b : Nat) (ha : a < 2 ^ 31) (h0 : 0 < b) (hb2 : b < 2 ^ 31) (hdg : decode cc pc = .ok (.idiv, 1)) (k : W p l e R s m args below meth c H locs cells slots Q (F0 m (pc + 1) ls (.int (nI (a / b)) :: rest))) : W p l e R s m args below meth c H locs cells slots Q (F0 m pc ls (.int (nI b) :: .int (nI a) :: rest)) := lv_idiv hx hb hdg (nI_ne0 h0 hb2) (by rw [pk_div ha h0 hb2]; exact k)
theorem ni_rem (hx : p.tables.exec = Jvm.exec) (hb : c.code = cc) (a b : Nat) (ha : a < 2 ^ 31) (h0 : 0 < b) (hb2 : b < 2 ^ 31) (hdg : decode cc pc = .ok (.irem, 1)) (k : W p l e R s m args below meth c H locs cells slots Q (F0 m (pc + 1) ls (.int (nI (a % b)) :: rest))) : W p l e R s m args below meth c H locs cells slots Q (F0 m pc ls (.int (nI b) :: .int (nI a) :: rest)) := lv_irem hx hb hdg (nI_ne0 h0 hb2) (by rw [pk_rem ha h0 hb2]; exact k)
theorem ni_iinc (hx : p.tables.exec = Jvm.exec) (hb : c.code = cc) {i nL k : Nat} (a n : Nat) {z : Int} {lv lv' : List (Nat × Value)} (hdg : decode cc pc = .ok (.iinc i z, 3)) (h : lv_has ls nL lv) (hk : lv[k]? = some (i, .int (nI a))) (hz : Int32.ofInt z = nI n) (hn : i < nL) (hl : (i, Value.int (nI (a + n))) :: lv.filter (fun q => !(q.1 == i) && !(q.1 + 1 == i && q.2.category == 2)) = lv')
    (kk : ∀ ls' : Array Slot, lv_has ls' nL lv' → W p l e R s m args below meth c H locs cells slots Q (F0 m (pc + 3) ls' rest)) : W p l e R s m args below meth c H locs cells slots Q (F0 m pc ls rest) :=
  lv_iinc hx hb hdg h hk (by rw [hz, nI_add]) hn hl kk
theorem ni_lt (hx : p.tables.exec = Jvm.exec) (hb : c.code = cc) (a b : Nat) (ha : a < 2 ^ 31) (hb2 : b < 2 ^ 31) {off : Int} {tgt : Nat} (hdg : decode cc pc = .ok (.if_icmp .lt off, 3)) (ht : (pc : Int) + off = (tgt : Int)) (kt : a < b → W p l e R s m args below meth c H locs cells slots Q (F0 m tgt ls rest)) (kf : b ≤ a → W p l e R s m args below meth c H locs cells slots Q (F0 m (pc + 3) ls rest)) : W p l e R s m args below meth c H locs cells slots Q (F0 m pc ls (.int (nI b) :: .int (nI a) :: rest)) :=
  lv_icmp_lt hx hb hdg ht (fun h => kt ((nI_ltI ha hb2).mp h)) (fun h => kf (Nat.not_lt.mp (fun q => h ((nI_ltI ha hb2).mpr q))))
theorem ni_ge (hx : p.tables.exec = Jvm.exec) (hb : c.code = cc) (a b : Nat) (ha : a < 2 ^ 31) (hb2 : b < 2 ^ 31) {off : Int} {tgt : Nat} (hdg : decode cc pc = .ok (.if_icmp .ge off, 3)) (ht : (pc : Int) + off = (tgt : Int)) (kt : b ≤ a → W p l e R s m args below meth c H locs cells slots Q (F0 m tgt ls rest)) (kf : a < b → W p l e R s m args below meth c H locs cells slots Q (F0 m (pc + 3) ls rest)) : W p l e R s m args below meth c H locs cells slots Q (F0 m pc ls (.int (nI b) :: .int (nI a) :: rest)) :=
  lv_icmp_ge hx hb hdg ht (fun h => kt ((nI_leI hb2 ha).mp h)) (fun h => kf (Nat.not_le.mp (fun q => h ((nI_leI hb2 ha).mpr q))))
theorem ni_gt (hx : p.tables.exec = Jvm.exec) (hb : c.code = cc) (a b : Nat) (ha : a < 2 ^ 31) (hb2 : b < 2 ^ 31) {off : Int} {tgt : Nat} (hdg : decode cc pc = .ok (.if_icmp .gt off, 3)) (ht : (pc : Int) + off = (tgt : Int)) (kt : b < a → W p l e R s m args below meth c H locs cells slots Q (F0 m tgt ls rest)) (kf : a ≤ b → W p l e R s m args below meth c H locs cells slots Q (F0 m (pc + 3) ls rest)) : W p l e R s m args below meth c H locs cells slots Q (F0 m pc ls (.int (nI b) :: .int (nI a) :: rest)) :=
  lv_icmp_gt hx hb hdg ht (fun h => kt ((nI_ltI hb2 ha).mp h)) (fun h => kf (Nat.not_lt.mp (fun q => h ((nI_ltI hb2 ha).mpr q))))
theorem ni_le (hx : p.tables.exec = Jvm.exec) (hb : c.code = cc) (a b : Nat) (ha : a < 2 ^ 31) (hb2 : b < 2 ^ 31) {off : Int} {tgt : Nat} (hdg : decode cc pc = .ok (.if_icmp .le off, 3)) (ht : (pc : Int) + off = (tgt : Int)) (kt : a ≤ b → W p l e R s m args below meth c H locs cells slots Q (F0 m tgt ls rest)) (kf : b < a → W p l e R s m args below meth c H locs cells slots Q (F0 m (pc + 3) ls rest)) : W p l e R s m args below meth c H locs cells slots Q (F0 m pc ls (.int (nI b) :: .int (nI a) :: rest)) :=
  lv_icmp_le hx hb hdg ht (fun h => kt ((nI_leI ha hb2).mp h)) (fun h => kf (Nat.not_le.mp (fun q => h ((nI_leI ha hb2).mpr q))))
theorem ni_eq (hx : p.tables.exec = Jvm.exec) (hb : c.code = cc) (a b : Nat) (ha : a < 2 ^ 31) (hb2 : b < 2 ^ 31) {off : Int} {tgt : Nat} (hdg : decode cc pc = .ok (.if_icmp .eq off, 3)) (ht : (pc : Int) + off = (tgt : Int)) (kt : a = b → W p l e R s m args below meth c H locs cells slots Q (F0 m tgt ls rest)) (kf : ¬ a = b → W p l e R s m args below meth c H locs cells slots Q (F0 m (pc + 3) ls rest)) : W p l e R s m args below meth c H locs cells slots Q (F0 m pc ls (.int (nI b) :: .int (nI a) :: rest)) :=
  lv_icmp_eq hx hb hdg ht (fun h => kt ((nI_eq ha hb2).mp h)) (fun h => kf (fun q => h ((nI_eq ha hb2).mpr q)))
theorem ni_ne (hx : p.tables.exec = Jvm.exec) (hb : c.code = cc) (a b : Nat) (ha : a < 2 ^ 31) (hb2 : b < 2 ^ 31) {off : Int} {tgt : Nat} (hdg : decode cc pc = .ok (.if_icmp .ne off, 3)) (ht : (pc : Int) + off = (tgt : Int)) (kt : ¬ a = b → W p l e R s m args below meth c H locs cells slots Q (F0 m tgt ls rest)) (kf : a = b → W p l e R s m args below meth c H locs cells slots Q (F0 m (pc + 3) ls rest)) : W p l e R s m args below meth c H locs cells slots Q (F0 m pc ls (.int (nI b) :: .int (nI a) :: rest)) :=
  lv_icmp_ne hx hb hdg ht (fun h => kt (fun q => h ((nI_eq ha hb2).mpr q))) (fun h => kf ((nI_eq ha hb2).mp h))
theorem n0_eq (hx : p.tables.exec = Jvm.exec) (hb : c.code = cc) (a : Nat) (ha : a < 2 ^ 31) {off : Int} {tgt : Nat} (hdg : decode cc pc = .ok (.ifCond .eq off, 3)) (ht : (pc : Int) + off = (tgt : Int)) (kt : a = 0 → W p l e R s m args below meth c H locs cells slots Q (F0 m tgt ls rest)) (kf : ¬ a = 0 → W p l e R s m args below meth c H locs cells slots Q (F0 m (pc + 3) ls rest)) : W p l e R s m args below meth c H locs cells slots Q (F0 m pc ls (.int (nI a) :: rest)) :=
  lv_if_eq hx hb hdg ht (fun h => kt ((nI_eq ha (by decide : 0 < 2 ^ 31)).mp h)) (fun h => kf (fun q => h ((nI_eq ha (by decide : 0 < 2 ^ 31)).mpr q)))
theorem n0_ne (hx : p.tables.exec = Jvm.exec) (hb : c.code = cc) (a : Nat) (ha : a < 2 ^ 31) {off : Int} {tgt : Nat} (hdg : decode cc pc = .ok (.ifCond .ne off, 3)) (ht : (pc : Int) + off = (tgt : Int)) (kt : ¬ a = 0 → W p l e R s m args below meth c H locs cells slots Q (F0 m tgt ls rest)) (kf : a = 0 → W p l e R s m args below meth c H locs cells slots Q (F0 m (pc + 3) ls rest)) : W p l e R s m args below meth c H locs cells slots Q (F0 m pc ls (.int (nI a) :: rest)) :=
  lv_if_ne hx hb hdg ht (fun h => kt (fun q => h ((nI_eq ha (by decide : 0 < 2 ^ 31)).mpr q))) (fun h => kf ((nI_eq ha (by decide : 0 < 2 ^ 31)).mp h))
theorem n0_le (hx : p.tables.exec = Jvm.exec) (hb : c.code = cc) (a : Nat) (ha : a < 2 ^ 31) {off : Int} {tgt : Nat} (hdg : decode cc pc = .ok (.ifCond .le off, 3)) (ht : (pc : Int) + off = (tgt : Int)) (kt : a = 0 → W p l e R s m args below meth c H locs cells slots Q (F0 m tgt ls rest)) (kf : 0 < a → W p l e R s m args below meth c H locs cells slots Q (F0 m (pc + 3) ls rest)) : W p l e R s m args below meth c H locs cells slots Q (F0 m pc ls (.int (nI a) :: rest)) :=
  lv_if_le hx hb hdg ht (fun h => kt (Nat.le_zero.mp ((nI_leI ha (by decide : 0 < 2 ^ 31)).mp h))) (fun h => kf (Nat.pos_of_ne_zero (fun q => h ((nI_leI ha (by decide : 0 < 2 ^ 31)).mpr (Nat.le_zero.mpr q)))))
theorem n0_lt (hx : p.tables.exec = Jvm.exec) (hb : c.code = cc) (a : Nat) (ha : a < 2 ^ 31) {off : Int} (hdg : decode cc pc = .ok (.ifCond .lt off, 3)) {tgt : Nat} (ht : (pc : Int) + off = (tgt : Int)) (kf : W p l e R s m args below meth c H locs cells slots Q (F0 m (pc + 3) ls rest)) : W p l e R s m args below meth c H locs cells slots Q (F0 m pc ls (.int (nI a) :: rest)) :=
  lv_if_lt hx hb hdg ht (fun h => absurd h (nI_pos ha)) (fun _ => kf)
theorem n0_ge (hx : p.tables.exec = Jvm.exec) (hb : c.code = cc) (a : Nat) (ha : a < 2 ^ 31) {off : Int} {tgt : Nat} (hdg : decode cc pc = .ok (.ifCond .ge off, 3)) (ht : (pc : Int) + off = (tgt : Int)) (kt : W p l e R s m args below meth c H locs cells slots Q (F0 m tgt ls rest)) : W p l e R s m args below meth c H locs cells slots Q (F0 m pc ls (.int (nI a) :: rest)) :=
  lv_if_ge hx hb hdg ht (fun _ => kt) (fun h => absurd (nI_pos' ha) h)
/-! ===== truth values ===== -/
theorem zb_eq (hx : p.tables.exec = Jvm.exec) (hb : c.code = cc) (a : Bool) {off : Int} {tgt : Nat} (hdg : decode cc pc = .ok (.ifCond .eq off, 3)) (ht : (pc : Int) + off = (tgt : Int)) (kt : a = false → W p l e R s m args below meth c H locs cells slots Q (F0 m tgt ls rest)) (kf : a = true → W p l e R s m args below meth c H locs cells slots Q (F0 m (pc + 3) ls rest)) : W p l e R s m args below meth c H locs cells slots Q (F0 m pc ls (.int (bI a) :: rest)) :=
  lv_if_eq hx hb hdg ht (fun h => kt ((bI_0 a).mp h)) (fun h => kf (by cases a; exact absurd rfl h; rfl))
theorem zb_ne (hx : p.tables.exec = Jvm.exec) (hb : c.code = cc) (a : Bool) {off : Int} {tgt : Nat} (hdg : decode cc pc = .ok (.ifCond .ne off, 3)) (ht : (pc : Int) + off = (tgt : Int)) (kt : a = true → W p l e R s m args below meth c H locs cells slots Q (F0 m tgt ls rest)) (kf : a = false → W p l e R s m args below meth c H locs cells slots Q (F0 m (pc + 3) ls rest)) : W p l e R s m args below meth c H locs cells slots Q (F0 m pc ls (.int (bI a) :: rest)) :=
  lv_if_ne hx hb hdg ht (fun h => kt (by cases a; exact absurd rfl h; rfl)) (fun h => kf ((bI_0 a).mp h))
theorem zz_eq (hx : p.tables.exec = Jvm.exec) (hb : c.code = cc) (a b : Bool) {off : Int} {tgt : Nat} (hdg : decode cc pc = .ok (.if_icmp .eq off, 3)) (ht : (pc : Int) + off = (tgt : Int)) (kt : a = b → W p l e R s m args below meth c H locs cells slots Q (F0 m tgt ls rest)) (kf : ¬ a = b → W p l e R s m args below meth c H locs cells slots Q (F0 m (pc + 3) ls rest)) : W p l e R s m args below meth c H locs cells slots Q (F0 m pc ls (.int (bI b) :: .int (bI a) :: rest)) :=
  lv_icmp_eq hx hb hdg ht (fun h => kt ((bI_inj a b).mp h)) (fun h => kf (fun q => h ((bI_inj a b).mpr q)))
theorem zz_ne (hx : p.tables.exec = Jvm.exec) (hb : c.code = cc) (a b : Bool) {off : Int} {tgt : Nat} (hdg : decode cc pc = .ok (.if_icmp .ne off, 3)) (ht : (pc : Int) + off = (tgt : Int)) (kt : ¬ a = b → W p l e R s m args below meth c H locs cells slots Q (F0 m tgt ls rest)) (kf : a = b → W p l e R s m args below meth c H locs cells slots Q (F0 m (pc + 3) ls rest)) : W p l e R s m args below meth c H locs cells slots Q (F0 m pc ls (.int (bI b) :: .int (bI a) :: rest)) :=
  lv_icmp_ne hx hb hdg ht (fun h => kt (fun q => h ((bI_inj a b).mpr q))) (fun h => kf ((bI_inj a b).mp h))
/-! ===== sets of squares ===== -/
theorem lb_const (hx : p.tables.exec = Jvm.exec) (hb : c.code = cc) {n : Fin 2} (v : BitVec 64) (hdg : decode cc pc = .ok (.lconst n, 1)) (hv : Int64.ofNat (n : Nat) = bL v) (k : W p l e R s m args below meth c H locs cells slots Q (F0 m (pc + 1) ls (.long (bL v) :: rest))) : W p l e R s m args below meth c H locs cells slots Q (F0 m pc ls rest) := lv_lconst hx hb hdg hv k
theorem lb_and (hx : p.tables.exec = Jvm.exec) (hb : c.code = cc) {a b : BitVec 64} (hdg : decode cc pc = .ok (.land, 1)) (k : W p l e R s m args below meth c H locs cells slots Q (F0 m (pc + 1) ls (.long (bL (a &&& b)) :: rest))) : W p l e R s m args below meth c H locs cells slots Q (F0 m pc ls (.long (bL b) :: .long (bL a) :: rest)) := lv_land hx hb hdg k
theorem lb_or (hx : p.tables.exec = Jvm.exec) (hb : c.code = cc) {a b : BitVec 64} (hdg : decode cc pc = .ok (.lor, 1)) (k : W p l e R s m args below meth c H locs cells slots Q (F0 m (pc + 1) ls (.long (bL (a ||| b)) :: rest))) : W p l e R s m args below meth c H locs cells slots Q (F0 m pc ls (.long (bL b) :: .long (bL a) :: rest)) := lv_lor hx hb hdg k
theorem lb_xor (hx : p.tables.exec = Jvm.exec) (hb : c.code = cc) {a b : BitVec 64} (hdg : decode cc pc = .ok (.lxor, 1)) (k : W p l e R s m args below meth c H locs cells slots Q (F0 m (pc + 1) ls (.long (bL (a ^^^ b)) :: rest))) : W p l e R s m args below meth c H locs cells slots Q (F0 m pc ls (.long (bL b) :: .long (bL a) :: rest)) := lv_lxor hx hb hdg k
theorem lb_sub (hx : p.tables.exec = Jvm.exec) (hb : c.code = cc) {a b : BitVec 64} (hdg : decode cc pc = .ok (.lsub, 1)) (k : W p l e R s m args below meth c H locs cells slots Q (F0 m (pc + 1) ls (.long (bL (a - b)) :: rest))) : W p l e R s m args below meth c H locs cells slots Q (F0 m pc ls (.long (bL b) :: .long (bL a) :: rest)) := lv_lsub hx hb hdg k
theorem lb_add (hx : p.tables.exec = Jvm.exec) (hb : c.code = cc) {a b : BitVec 64} (hdg : decode cc pc = .ok (.ladd, 1)) (k : W p l e R s m args below meth c H locs cells slots Q (F0 m (pc + 1) ls (.long (bL (a + b)) :: rest))) : W p l e R s m args below meth c H locs cells slots Q (F0 m pc ls (.long (bL b) :: .long (bL a) :: rest)) := lv_ladd hx hb hdg k
theorem lb_neg (hx : p.tables.exec = Jvm.exec) (hb : c.code = cc) {a : BitVec 64} (hdg : decode cc pc = .ok (.lneg, 1)) (k : W p l e R s m args below meth c H locs cells slots Q (F0 m (pc + 1) ls (.long (bL (-a)) :: rest))) : W p l e R s m args below meth c H locs cells slots Q (F0 m pc ls (.long (bL a) :: rest)) := lv_lneg hx hb hdg k
theorem lb_shl (hx : p.tables.exec = Jvm.exec) (hb : c.code = cc) {a : BitVec 64} (j : Nat) (hj : j < 64) (hdg : decode cc pc = .ok (.lshl, 1)) (k : W p l e R s m args below meth c H locs cells slots Q (F0 m (pc + 1) ls (.long (bL (a <<< j)) :: rest))) : W p l e R s m args below meth c H locs cells slots Q (F0 m pc ls (.int (nI j) :: .long (bL a) :: rest)) := lv_lshl hx hb hdg (bL_shl a hj) k
theorem lb_ushr (hx : p.tables.exec = Jvm.exec) (hb : c.code = cc) {a : BitVec 64} (j : Nat) (hj : j < 64) (hdg : decode cc pc = .ok (.lushr, 1)) (k : W p l e R s m args below meth c H locs cells slots Q (F0 m (pc + 1) ls (.long (bL (a >>> j)) :: rest))) : W p l e R s m args below meth c H locs cells slots Q (F0 m pc ls (.int (nI j) :: .long (bL a) :: rest)) := lv_lushr hx hb hdg (bL_ushr a hj) k
theorem lb_ceq (hx : p.tables.exec = Jvm.exec) (hb : c.code = cc) {a b : BitVec 64} (hdg : decode cc pc = .ok (.lcmp, 1)) {off : Int} {tgt : Nat} (hdg2 : decode cc (pc + 1) = .ok (.ifCond .eq off, 3)) (ht : ((pc + 1 : Nat) : Int) + off = (tgt : Int)) (kt : a = b → W p l e R s m args below meth c H locs cells slots Q (F0 m tgt ls rest)) (kf : ¬ a = b → W p l e R s m args below meth c H locs cells slots Q (F0 m (pc + 4) ls rest)) : W p l e R s m args below meth c H locs cells slots Q (F0 m pc ls (.long (bL b) :: .long (bL a) :: rest)) :=
  W.lcmp hx hb hdg (lv_if_eq hx hb hdg2 ht (fun h => kt (bL_inj.mp ((lg_cmp_0 _ _).mp h))) (fun h => kf (fun q => h ((lg_cmp_0 _ _).mpr (bL_inj.mpr q)))))
theorem lb_cne (hx : p.tables.exec = Jvm.exec) (hb : c.code = cc) {a b : BitVec 64} (hdg : decode cc pc = .ok (.lcmp, 1)) {off : Int} {tgt : Nat} (hdg2 : decode cc (pc + 1) = .ok (.ifCond .ne off, 3)) (ht : ((pc + 1 : Nat) : Int) + off = (tgt : Int)) (kt : ¬ a = b → W p l e R s m args below meth c H locs cells slots Q (F0 m tgt ls rest)) (kf : a = b → W p l e R s m args below meth c H locs cells slots Q (F0 m (pc + 4) ls rest)) : W p l e R s m args below meth c H locs cells slots Q (F0 m pc ls (.long (bL b) :: .long (bL a) :: rest)) :=
  W.lcmp hx hb hdg (lv_if_ne hx hb hdg2 ht (fun h => kt (fun q => h ((lg_cmp_0 _ _).mpr (bL_inj.mpr q)))) (fun h => kf (bL_inj.mp ((lg_cmp_0 _ _).mp h))))
/-- the value on top by another name -/
theorem topi {x : Int32} (y : Int32) (h : x = y) (k : W p l e R s m args below meth c H locs cells slots Q (F0 m pc ls (.int y :: rest))) : W p l e R s m args below meth c H locs cells slots Q (F0 m pc ls (.int x :: rest)) := h ▸ k
theorem topl {x : Int64} (y : Int64) (h : x = y) (k : W p l e R s m args below meth c H locs cells slots Q (F0 m pc ls (.long y :: rest))) : W p l e R s m args below meth c H locs cells slots Q (F0 m pc ls (.long x :: rest)) := h ▸ k
/-- roads that meet again -/
theorem meet {pcJ : Nat} {st : List Value} {g : JFrame} (hJ : W p l e R s m args below meth c H locs cells slots Q (F0 m pcJ ls st)) (k : W p l e R s m args below meth c H locs cells slots Q (F0 m pcJ ls st) → W p l e R s m args below meth c H locs cells slots Q g) : W p l e R s m args below meth c H locs cells slots Q g := k hJ
theorem meetL {pcJ nL : Nat} {st : List Value} {g : JFrame} (lv : List (Nat × Value)) (hJ : ∀ ls : Array Slot, lv_has ls nL lv → W p l e R s m args below meth c H locs cells slots Q (F0 m pcJ ls st)) (k : (∀ ls : Array Slot, lv_has ls nL lv → W p l e R s m args below meth c H locs cells slots Q (F0 m pcJ ls st)) → W p l e R s m args below meth c H locs cells slots Q g) : W p l e R s m args below meth c H locs cells slots Q g := k hJ
/-! ===== the ends of a reader ===== -/
theorem rd_ireturn {r v : Int32} (hx : p.tables.exec = Jvm.exec) (hb : c.code = cc) (hr : meth.sig.returnType = some .int) (hlk : meth.locks = false) (hv : r = v) (hdg : decode cc pc = .ok (.ireturn, 1)) : W p l e R s m args below meth c s.heap [] 0 0 (MQ below (vp_Si (fun r => r = v)) args s 0 0 (fun _ => False)) (F0 m pc ls [.int r]) :=
  W.iret hx hb hr (fun t ht _ => ⟨r, rfl, hv, ht⟩) (fun q h => by cases h) hdg hlk
theorem rd_zreturn {r : Int32} {v : Bool} (hx : p.tables.exec = Jvm.exec) (hb : c.code = cc) (hr : meth.sig.returnType = some .boolean) (hlk : meth.locks = false) (hv : r = bI v) (hdg : decode cc pc = .ok (.ireturn, 1)) : W p l e R s m args below meth c s.heap [] 0 0 (MQ below (vp_Si (fun r => r = bI v)) args s 0 0 (fun _ => False)) (F0 m pc ls [.int r]) :=
  W.zret hx hb hr (by rw [hv]; exact bI_nar v) (fun t ht _ => ⟨r, rfl, hv, ht⟩) (fun q h => by cases h) hdg hlk
theorem rd_lreturn {r v : Int64} (hx : p.tables.exec = Jvm.exec) (hb : c.code = cc) (hr : meth.sig.returnType = some .long) (hlk : meth.locks = false) (hv : r = v) (hdg : decode cc pc = .ok (.lreturn, 1)) : W p l e R s m args below meth c s.heap [] 0 0 (MQ below (vp_Sl (fun r => r = v)) args s 0 0 (fun _ => False)) (F0 m pc ls [.long r]) :=
  W.lret hx hb hr (fun t ht _ => ⟨r, rfl, hv, ht⟩) (fun q h => by cases h) hdg hlk
theorem rd_freturn {r v : UInt32} (hx : p.tables.exec = Jvm.exec) (hb : c.code = cc) (hr : meth.sig.returnType = some .float) (hlk : meth.locks = false) (hv : r = v) (hdg : decode cc pc = .ok (.freturn, 1)) : W p l e R s m args below meth c s.heap [] 0 0 (MQ below (vp_Sf (fun r => r = v)) args s 0 0 (fun _ => False)) (F0 m pc ls [.float r]) :=
  W.fret hx hb hr (fun t ht _ => ⟨r, rfl, hv, ht⟩) (fun q h => by cases h) hdg hlk
/-! ===== reading fields and arrays ===== -/
theorem w_get {own C : String} {T : u_T} {N ci index : Nat} (hx : p.tables.exec = Jvm.exec) (hb : c.code = cc) (hts : ∀ w ∈ AW, w.before args s = true) (hown : s.vm.findClass own = some m.cls) (hK : KF D cI cJ s) (hM : HM D M H) (hin : ∀ w ∈ u_ws C T N, w ∈ AW) (hc : vwCl[ci]? = some (C, T, N)) (k : Nat) (hk : k < N) (hlink : Cond.fieldLink own index C (T k).2.1 (T k).2.2.1 ∈ AW) (hnm : (T k).1 = C) {a : Nat} {fs : List Value} (he : M a = some (.inr (ci, fs))) {v : Value} (hv : fs[k]? = some v) (hdg : decode cc pc = .ok (.getfield index, 3))
    (kk : W p l e R s m args below meth c H locs cells slots Q (F0 m (pc + 3) ls (v :: rest))) : W p l e R s m args below meth c H locs cells slots Q (F0 m pc ls (.ref a :: rest)) :=
  va_get (ref := C) hx hb hts hin hown hK.1 (hM.one he) 0 rfl hc k hk (hts _ hlink) (fun x h => by rw [hnm] at h; exact h) hv hdg kk
theorem w_iald (hx : p.tables.exec = Jvm.exec) (hb : c.code = cc) (hK : KF D cI cJ s) (hM : HM D M H) {a n : Nat} {f : Nat → Int32} (he : M a = some (eI cI n f)) (j : Nat) (hj : j < n) (hn : n < 2 ^ 31) (hdg : decode cc pc = .ok (.iaload, 1)) (kk : W p l e R s m args below meth c H locs cells slots Q (F0 m (pc + 1) ls (.int (f j) :: rest))) : W p l e R s m args below meth c H locs cells slots Q (F0 m pc ls (.int (nI j) :: .ref a :: rest)) :=
  va_iald hx hb hK.1 (hM.one he) 0 0 rfl rfl (vp_in_nI hj hn) hdg (by rw [nI_clamp (Nat.lt_trans hj hn)]; exact kk)
theorem w_lald (hx : p.tables.exec = Jvm.exec) (hb : c.code = cc) (hK : KF D cI cJ s) (hM : HM D M H) {a n : Nat} {f : Nat → Int64} (he : M a = some (eJ cJ n f)) (j : Nat) (hj : j < n) (hn : n < 2 ^ 31) (hdg : decode cc pc = .ok (.laload, 1)) (kk : W p l e R s m args below meth c H locs cells slots Q (F0 m (pc + 1) ls (.long (f j) :: rest))) : W p l e R s m args below meth c H locs cells slots Q (F0 m pc ls (.int (nI j) :: .ref a :: rest)) :=
  va_lald hx hb hK.1 (hM.one he) 0 1 rfl rfl (vp_in_nI hj hn) hdg (by rw [nI_clamp (Nat.lt_trans hj hn)]; exact kk)
/-! ===== calling a reader ===== -/
theorem run_pure {mc ms : Nat} {g : JFrame} {Qa : State → Outcome → State → Prop} {free : Addr → Prop} (h : va_Run p l e R s m args below meth c H locs cells slots mc ms g rest Qa free) : CallRun p l e R s m args below meth c H locs cells slots mc ms g rest Qa free := fun T hT X => by
  obtain ⟨v, st₀, t, T', L, h0, X', hL, e1, _, hq, st⟩ := h T hT X
  exact ⟨v, st₀, t, T', L, h0, X', hL, e1, hq, st⟩
theorem rd_runS {own : String} {idx n' d' k nL : Nat} {y : MethodName} {cc' : ByteArray} {ret' : Option FieldType} {As st0 : List Value} {Qc : Array Value → State → Outcome → State → Prop} (hx : p.tables.exec = Jvm.exec) (hb : c.code = cc) (hml : c.maxLocals = nL) (hown : s.vm.findClass own = some m.cls) (hts : ∀ w ∈ AW, w.before args s = true) (hK : KF D cI cJ s) (hM : HM D M H) (ok : okS own idx y cc' n' ret' k) (hC : Met l y (wsA y cc' n' ret') (rmD d' 0 0) (PcR D cI cJ As M) Qc 0 0 (fun _ => False))
    (hk : As.length = k) (hR : d' + 1 ≤ R.frames ∧ 8 + (n' + 11) + 40 * d' ≤ R.locals) (hsz : ls.size = nL) (hst : st0 = As.reverse ++ rest) (hrm : (rest.map fun v => v.category).sum ≤ 8) (hdg : decode cc pc = .ok (.invokestatic idx, 3)) (hf : cells ≤ R.cells ∧ slots ≤ R.slots) : CallRun p l e R s m args below meth c H locs cells slots 0 0 (F0 m pc ls st0) rest (Qc As.toArray) (fun _ => False) :=
  W.runS (As := As) (rest := rest) ⟨hx, hb, hml, hown, hts⟩ hC (va_cwS k hts ok.1 rfl rfl rfl ok.2 hR) ⟨PcR.blind, fun U hU hW => ⟨rfl, hK.warm hW, by rw [hU]; exact hM⟩⟩ rfl hk hsz hst (lv_room hrm) hdg hf
theorem rd_runV {own : String} {idx n' d' k nL b ci : Nat} {y : MethodName} {cc' : ByteArray} {ret' : Option FieldType} {As st0 fs : List Value} {q : vw_C} {Qc : Array Value → State → Outcome → State → Prop} (hx : p.tables.exec = Jvm.exec) (hb : c.code = cc) (hml : c.maxLocals = nL) (hown : s.vm.findClass own = some m.cls) (hts : ∀ w ∈ AW, w.before args s = true) (hK : KF D cI cJ s) (hM : HM D M H) (ok : okV own idx y cc' n' ret' k) (hC : Met l y (wsA y cc' n' ret') (rmD d' 0 0) (PcR D cI cJ (.ref b :: As) M) Qc 0 0 (fun _ => False)) (he : M b = some (.inr (ci, fs))) (hq : vwCl[ci]? = some q) (hqy : q.1 = y.cls)
    (hk : As.length = k) (hR : d' + 1 ≤ R.frames ∧ 8 + (n' + 11) + 40 * d' ≤ R.locals) (hsz : ls.size = nL) (hst : st0 = As.reverse ++ .ref b :: rest) (hrm : (rest.map fun v => v.category).sum ≤ 8) (hdg : decode cc pc = .ok (.invokevirtual idx, 3)) (hf : cells ≤ R.cells ∧ slots ≤ R.slots) : CallRun p l e R s m args below meth c H locs cells slots 0 0 (F0 m pc ls st0) rest (Qc (Value.ref b :: As).toArray) (fun _ => False) := by
  have hrv := va_recv hK.1 (hM.one he) (q0 := 0) hq rfl
  rw [hqy] at hrv
  exact W.runV (As := As) (rest := rest) ⟨hx, hb, hml, hown, hts⟩ hC (cwV k hts ok.1 rfl rfl rfl ⟨rfl, ok.2⟩ hR) ⟨PcR.blind, hrv, fun U hU hW => ⟨rfl, hK.warm hW, by rw [hU]; exact hM⟩⟩ rfl hk hsz hst (lv_room hrm) hdg hf
theorem rd_runN {own host : String} {idx n' d' k nL : Nat} {y : MethodName} {cc' : ByteArray} {ret' : Option FieldType} {As st0 : List Value} {Qc : Array Value → State → Outcome → State → Prop} (hx : p.tables.exec = Jvm.exec) (hb : c.code = cc) (hml : c.maxLocals = nL) (hown : s.vm.findClass own = some m.cls) (hts : ∀ w ∈ AW, w.before args s = true) (hK : KF D cI cJ s) (hM : HM D M H) (hl : va_Nw (.methodLinkNest own idx y host) s) (ok : okN y cc' n' ret' k) (hC : Met l y (wsA y cc' n' ret') (rmD d' 0 0) (PcR D cI cJ As M) Qc 0 0 (fun _ => False))
    (hk : As.length = k) (hR : d' + 1 ≤ R.frames ∧ 8 + (n' + 11) + 40 * d' ≤ R.locals) (hsz : ls.size = nL) (hst : st0 = As.reverse ++ rest) (hrm : (rest.map fun v => v.category).sum ≤ 8) (hdg : decode cc pc = .ok (.invokestatic idx, 3)) (hf : cells ≤ R.cells ∧ slots ≤ R.slots) : CallRun p l e R s m args below meth c H locs cells slots 0 0 (F0 m pc ls st0) rest (Qc As.toArray) (fun _ => False) :=
  run_pure (va_runSN (As := As) (rest := rest) ⟨hx, hb, hml, hown, hts⟩ hC ⟨va_cnB k hts ok.1 rfl rfl rfl hl (hts _ ok.2.1) ok.2.2.2 hR, hts _ ok.2.2.1, trivial⟩ ⟨PcR.blind, fun U hU hW => ⟨rfl, hK.warm hW, by rw [hU]; exact hM⟩⟩ rfl hk hsz hst (lv_room hrm) hdg hf)
theorem rd_goI {v : Int32} {a : Array Value} {st0 : List Value} (hr : CallRun p l e R s m args below meth c H locs cells slots 0 0 (F0 m pc ls st0) rest (vp_Si (fun r => r = v) a) (fun _ => False)) (kk : W p l e R s m args below meth c H locs cells slots Q (F0 m (pc + 3) ls (.int v :: rest))) : W p l e R s m args below meth c H locs cells slots Q (F0 m pc ls st0) := vp_callSi hr (fun r h => h ▸ kk)
theorem rd_goL {v : Int64} {a : Array Value} {st0 : List Value} (hr : CallRun p l e R s m args below meth c H locs cells slots 0 0 (F0 m pc ls st0) rest (vp_Sl (fun r => r = v) a) (fun _ => False)) (kk : W p l e R s m args below meth c H locs cells slots Q (F0 m (pc + 3) ls (.long v :: rest))) : W p l e R s m args below meth c H locs cells slots Q (F0 m pc ls st0) := vp_callSl hr (fun r h => h ▸ kk)
theorem rd_goF {v : UInt32} {a : Array Value} {st0 : List Value} (hr : CallRun p l e R s m args below meth c H locs cells slots 0 0 (F0 m pc ls st0) rest (vp_Sf (fun r => r = v) a) (fun _ => False)) (kk : W p l e R s m args below meth c H locs cells slots Q (F0 m (pc + 3) ls (.float v :: rest))) : W p l e R s m args below meth c H locs cells slots Q (F0 m pc ls st0) := vp_callSf hr (fun r h => h ▸ kk)
/-- a loop: the locals at its head, and what holds there, by what is left to do -/
theorem loopR {ι : Type} {pcH nL : Nat} {st : List Value} (lv : ι → List (Nat × Value)) (I : Nat → ι → Prop)
    (h0 : ∀ x, I 0 x → ∀ ls : Array Slot, lv_has ls nL (lv x) → W p l e R s m args below meth c H locs cells slots Q (F0 m pcH ls st))
    (hs : ∀ n, (∀ y, I n y → ∀ ls : Array Slot, lv_has ls nL (lv y) → W p l e R s m args below meth c H locs cells slots Q (F0 m pcH ls st)) → ∀ x, I (n + 1) x → ∀ ls : Array Slot, lv_has ls nL (lv x) → W p l e R s m args below meth c H locs cells slots Q (F0 m pcH ls st))
    (N : Nat) (x : ι) (hI : I N x) (ls : Array Slot) (hl : lv_has ls nL (lv x)) : W p l e R s m args below meth c H locs cells slots Q (F0 m pcH ls st) := by
  have key : ∀ n x, I n x → ∀ ls : Array Slot, lv_has ls nL (lv x) → W p l e R s m args below meth c H locs cells slots Q (F0 m pcH ls st) := by
    intro n
    induction n with
    | zero => exact h0
    | succ n ih => exact hs n ih
  exact key N x hI ls hl
/-! ===== switches; comparisons with -1 ===== -/
theorem sw_at {a k : Nat} (h : a = k) (kk : W p l e R s m args below meth c H locs cells slots Q (F0 m pc ls (.int (nI k) :: rest))) : W p l e R s m args below meth c H locs cells slots Q (F0 m pc ls (.int (nI a) :: rest)) := h ▸ kk
theorem nm_eq (hx : p.tables.exec = Jvm.exec) (hb : c.code = cc) (a : Nat) (ha : a < 2 ^ 31) {off : Int} {tgt : Nat} (hdg : decode cc pc = .ok (.if_icmp .eq off, 3)) (ht : (pc : Int) + off = (tgt : Int)) (kf : W p l e R s m args below meth c H locs cells slots Q (F0 m (pc + 3) ls rest)) : W p l e R s m args below meth c H locs cells slots Q (F0 m pc ls (.int (-1) :: .int (nI a) :: rest)) :=
  lv_icmp_eq hx hb hdg ht (fun h => absurd (congrArg Int32.toInt h) (by rw [nI_toInt ha]; show ¬ ((a : Int) = -1); omega)) (fun _ => kf)
theorem nm_ne (hx : p.tables.exec = Jvm.exec) (hb : c.code = cc) (a : Nat) (ha : a < 2 ^ 31) {off : Int} {tgt : Nat} (hdg : decode cc pc = .ok (.if_icmp .ne off, 3)) (ht : (pc : Int) + off = (tgt : Int)) (kt : W p l e R s m args below meth c H locs cells slots Q (F0 m tgt ls rest)) : W p l e R s m args below meth c H locs cells slots Q (F0 m pc ls (.int (-1) :: .int (nI a) :: rest)) :=
  lv_icmp_ne hx hb hdg ht (fun _ => kt) (fun h => absurd (congrArg Int32.toInt h) (by rw [nI_toInt ha]; show ¬ ((a : Int) = -1); omega))
theorem mm_eq (hx : p.tables.exec = Jvm.exec) (hb : c.code = cc) (x : Int32) {off : Int} {tgt : Nat} (hdg : decode cc pc = .ok (.if_icmp .eq off, 3)) (ht : (pc : Int) + off = (tgt : Int)) (kt : W p l e R s m args below meth c H locs cells slots Q (F0 m tgt ls rest)) : W p l e R s m args below meth c H locs cells slots Q (F0 m pc ls (.int x :: .int x :: rest)) :=
  lv_icmp_eq hx hb hdg ht (fun _ => kt) (fun h => absurd rfl h)
theorem mm_ne (hx : p.tables.exec = Jvm.exec) (hb : c.code = cc) (x : Int32) {off : Int} {tgt : Nat} (hdg : decode cc pc = .ok (.if_icmp .ne off, 3)) (ht : (pc : Int) + off = (tgt : Int)) (kf : W p l e R s m args below meth c H locs cells slots Q (F0 m (pc + 3) ls rest)) : W p l e R s m args below meth c H locs cells slots Q (F0 m pc ls (.int x :: .int x :: rest)) :=
  lv_icmp_ne hx hb hdg ht (fun h => absurd rfl h) (fun _ => kf)
end LAY
theorem bI_1 {b : Bool} (h : b = true) : nI 1 = bI b := by rw [h]; rfl
theorem bI_f0 {b : Bool} (h : b = false) : nI 0 = bI b := by rw [h]; rfl
theorem sw_out {a lo hi : Nat} (ha : a < 2 ^ 31) (h : a < lo ∨ hi < a) : (nI a).toInt < (lo : Int) ∨ (hi : Int) < (nI a).toInt := by
  rw [nI_toInt ha]; omega
