/-! ===== the class's constructor: what it may take as given of FIRST_RANK, and what it makes ===== -/
def PcZ (D : va_G) (cI cJ : ClassId) (av : List Value) (M : MP) (sz : Nat) (A : Nat → Prop) : Array Value → State → Prop := va_Pc av (fun U => (U.heap.size = sz ∧ KF D cI cJ U ∧ HM D M U.heap) ∧ ∃ fr : Nat, va_Z RX3 "FIRST_RANK" "[I" (.ref fr) A U U.heap ∧ va_T .int fr 8 (fun j => .int (mOrd j)) A U U.heap)
theorem PcZ.blind {D : va_G} {cI cJ : ClassId} {av : List Value} {M : MP} {sz : Nat} {A : Nat → Prop} : FrameBlind (PcZ D cI cJ av M sz A) := fun a U g mk h => by
  obtain ⟨h1, ⟨h2, h3, h4⟩, fr, h5, h6⟩ := h
  exact ⟨h1, ⟨h2, h3.same rfl, h4⟩, fr, va_Z.moved (u := U) (U := U.calling g mk a) (Vm.Alike.refl U.vm) h5, va_T.moved (u := U) (U := U.calling g mk a) (Vm.Alike.refl U.vm) h6⟩
def WrZ (l : Launch) (y : MethodName) (cc : ByteArray) (n : Nat) (ret : Option FieldType) (d mc ms : Nat) (D : va_G) (cI cJ : ClassId) (av : List Value) (M : MP) (sz : Nat) (A : Nat → Prop) (v : Option Value) (Rm : MP → Prop) : Prop :=
  Met l y (wsA y cc n ret) (rmD d mc ms) (PcZ D cI cJ av M sz A) (wQ D v Rm A) mc ms A
theorem wrz_start {l : Launch} {y : MethodName} {cc : ByteArray} {n d mc ms sz : Nat} {ret : Option FieldType} {D : va_G} {cI cJ : ClassId} {av : List Value} {M : MP} {A : Nat → Prop} {v : Option Value} {Rm : MP → Prop} (hy : plainName y.cls = true) (hn : (lg_sl av).length ≤ n)
    (body : ∀ (p : Program) (e : Env) (s : State) (m : MethodId) (args : Array Value) (below : List Frame) (meth : Method) (c : Code), p.tables.exec = Jvm.exec → c.code = cc → meth.sig.returnType = ret → c.maxLocals = n → s.vm.findClass y.cls = some m.cls → (∀ w ∈ AW, w.before args s = true) → meth.locks = false → (y.name = "<init>" → meth.name = "<init>") → KF D cI cJ s → s.heap.size = sz → ∀ fr : Nat, va_Z RX3 "FIRST_RANK" "[I" (.ref fr) A s s.heap → va_T .int fr 8 (fun j => .int (mOrd j)) A s s.heap → ∀ H : Heap, s.heap = H → HM D M H → va_S A s.heap H [] →
      ∀ ls : Array Slot, lv_has ls n (lv_args 0 av) → W p l e (rmD d mc ms) s m args below meth c H [] 0 0 (MQ below (wQ D v Rm A) args s mc ms A) (F0 m 0 ls [])) :
    WrZ l y cc n ret d mc ms D cI cJ av M sz A v Rm := by
  refine Met.ofW (cc := cc) (maxL := n) (ret := ret) hy rfl ?_
  intro p e s m args below meth c s₁ B hml hv
  obtain ⟨rfl, ⟨hsz, hK, hM⟩, fr, hZ, hT⟩ := hv
  have hts := atoms_spec (ws := wsA y cc n ret) B.pre
  rw [lg_entry_eq]
  exact body p e s m _ below meth c B.exec B.bytes B.returns hml (findClass_of_methodNamed B.named) (fun w h => hts w (List.mem_cons_of_mem _ h)) B.notSynchronized (fun h => (name_of_methodNamed B.named B.method).1.trans h) hK hsz fr hZ hT _ rfl hM va_S.rf _ (lv_entry av hn)
def ordN (i : Nat) : Nat := if i = 0 then 3 else if i = 1 then 5 else if i = 2 then 4 else if i = 3 then 2 else if i = 4 then 1 else if i = 5 then 4 else if i = 6 then 5 else 3
theorem ordN_in (i : Nat) : 1 ≤ ordN i ∧ ordN i < 7 := by unfold ordN; (repeat' split) <;> decide
theorem ordN_at : ∀ i, i < 8 → mOrd i = nI (ordN i) := by decide +kernel
theorem ord_val {i : Nat} (hi : i < 8) : (fun j => Value.int (mOrd j)) (nI i).toNatClampNeg = .int (nI (ordN i)) := by
  show Value.int (mOrd (nI i).toNatClampNeg) = _
  rw [nI_clamp (by omega), ordN_at i hi]
def iniK : Nat → Nat → BitVec 64
  | 0 => kZ
  | i + 1 => kPut (kPut (kPut (kPut (iniK i) (ordN i) i) 6 (8 + i)) 6 (48 + i)) (ordN i) (56 + i)
def iniW : Nat → BitVec 64
  | 0 => 0#64
  | i + 1 => kPtW (kPtW (kPtW (kPtW (iniW i) i true) (8 + i) true) (48 + i) false) (56 + i) false
def iniB : Nat → BitVec 64
  | 0 => 0#64
  | i + 1 => kPtW (kPtW (kPtW (kPtW (iniB i) i (!true)) (8 + i) (!true)) (48 + i) (!false)) (56 + i) (!false)
def iniP : Nat → Int32 := kJoin (kJoin pNo 1 6) 57 62
def GameMade (cI cJ : ClassId) (M M' : MP) (A : Nat → Prop) (xo : Nat) : Prop :=
  ∃ fp po okk pt tr tok tpt : Nat, M' xo = some (.inr (2, [.ref fp, .ref tr, .ref fp, .int (bI false)])) ∧ M' fp = some (.inr (0, [.ref po, .null, .int (nI 0), .null, .int (nI 0), .int (nI 0), .int (nI 0)])) ∧ PosAt cI cJ M' po okk pt (iniK 8) iniP (iniW 8) (iniB 8) true ∧ PosAt cI cJ M' tr tok tpt kZ pNo 0#64 0#64 true ∧ ((M fp = none ∧ A fp) ∧ (M po = none ∧ A po) ∧ (M okk = none ∧ A okk) ∧ (M pt = none ∧ A pt) ∧ (M tr = none ∧ A tr) ∧ (M tok = none ∧ A tok) ∧ (M tpt = none ∧ A tpt)) ∧ (po ≠ tr ∧ okk ≠ tok ∧ pt ≠ tpt) ∧ Keep M M' (fun b => b = xo)
