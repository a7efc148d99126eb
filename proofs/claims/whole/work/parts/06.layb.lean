/-! ===== methods that write ===== -/
def PcW (D : va_G) (cI cJ : ClassId) (av : List Value) (M : MP) (sz : Nat) : Array Value → State → Prop := va_Pc av (fun U => U.heap.size = sz ∧ KF D cI cJ U ∧ HM D M U.heap)
theorem PcW.blind {D : va_G} {cI cJ : ClassId} {av : List Value} {M : MP} {sz : Nat} : FrameBlind (PcW D cI cJ av M sz) := fun a U g mk h => ⟨h.1, h.2.1, h.2.2.1.same rfl, h.2.2.2⟩
def wQ (D : va_G) (v : Option Value) (Rm : MP → Prop) (A : Nat → Prop) : Array Value → State → Outcome → State → Prop := fun _ st o t => (o = .returned v ∧ ∃ M' : MP, Rm M' ∧ HM D M' t.heap) ∧ va_F A st t
/-- a method that may write at A, and answers v, with the world behind it as Rm says -/
def Wr (l : Launch) (y : MethodName) (cc : ByteArray) (n : Nat) (ret : Option FieldType) (d mc ms : Nat) (D : va_G) (cI cJ : ClassId) (av : List Value) (M : MP) (sz : Nat) (A : Nat → Prop) (v : Option Value) (Rm : MP → Prop) : Prop :=
  Met l y (wsA y cc n ret) (rmD d mc ms) (PcW D cI cJ av M sz) (wQ D v Rm A) mc ms A
theorem wr_start {l : Launch} {y : MethodName} {cc : ByteArray} {n d mc ms sz : Nat} {ret : Option FieldType} {D : va_G} {cI cJ : ClassId} {av : List Value} {M : MP} {A : Nat → Prop} {v : Option Value} {Rm : MP → Prop} (hy : plainName y.cls = true) (hn : (lg_sl av).length ≤ n)
    (body : ∀ (p : Program) (e : Env) (s : State) (m : MethodId) (args : Array Value) (below : List Frame) (meth : Method) (c : Code), p.tables.exec = Jvm.exec → c.code = cc → meth.sig.returnType = ret → c.maxLocals = n → s.vm.findClass y.cls = some m.cls → (∀ w ∈ AW, w.before args s = true) → meth.locks = false → (y.name = "<init>" → meth.name = "<init>") → KF D cI cJ s → s.heap.size = sz → ∀ H : Heap, s.heap = H → HM D M H → va_S A s.heap H [] →
      ∀ ls : Array Slot, lv_has ls n (lv_args 0 av) → W p l e (rmD d mc ms) s m args below meth c H [] 0 0 (MQ below (wQ D v Rm A) args s mc ms A) (F0 m 0 ls [])) :
    Wr l y cc n ret d mc ms D cI cJ av M sz A v Rm := by
  refine Met.ofW (cc := cc) (maxL := n) (ret := ret) hy rfl ?_
  intro p e s m args below meth c s₁ B hml hv
  obtain ⟨rfl, hsz, hK, hM⟩ := hv
  have hts := atoms_spec (ws := wsA y cc n ret) B.pre
  rw [lg_entry_eq]
  exact body p e s m _ below meth c B.exec B.bytes B.returns hml (findClass_of_methodNamed B.named) (fun w h => hts w (List.mem_cons_of_mem _ h)) B.notSynchronized (fun h => (name_of_methodNamed B.named B.method).1.trans h) hK hsz _ rfl hM va_S.rf _ (lv_entry av hn)
section LAYB
variable {p : Program} {l : Launch} {e : Env} {R : Room} {s : State} {m : MethodId} {args : Array Value} {below : List Frame} {meth : Method} {c : Code} {H : Heap} {locs : List Loc} {cells slots : Nat} {Q : State → Prop}
variable {cc : ByteArray} {pc : Nat} {ls : Array Slot} {rest : List Value} {D : va_G} {cI cJ : ClassId} {M : MP} {A : Nat → Prop} {H0 : Heap}
theorem wr_end {v : Option Value} {Rm : MP → Prop} (hS : va_S A s.heap H locs) (hM : HM D M H) (hR : Rm M) : ∀ t : State, t.heap = H → s.WarmedH t.vm → wQ D v Rm A args s (.returned v) t := fun t ht _ => ⟨⟨rfl, M, hR, by rw [ht]; exact hM⟩, hS.F ht⟩
theorem wr_ireturn {v : Int32} {mc ms : Nat} {Rm : MP → Prop} {r : Int32} (hx : p.tables.exec = Jvm.exec) (hb : c.code = cc) (hr : meth.sig.returnType = some .int) (hlk : meth.locks = false) (hM : HM D M H) (hS : va_S A s.heap H locs) (hc : cells ≤ mc) (hs : slots ≤ ms) (hv : r = v) (hR : Rm M) (hdg : decode cc pc = .ok (.ireturn, 1)) : W p l e R s m args below meth c H locs cells slots (MQ below (wQ D (some (.int v)) Rm A) args s mc ms A) (F0 m pc ls [.int r]) :=
  W.widen hc hs (by subst hv; exact W.iret hx hb hr (wr_end hS hM hR) hS.2.2 hdg hlk)
theorem wr_zreturn {v : Bool} {mc ms : Nat} {Rm : MP → Prop} {r : Int32} (hx : p.tables.exec = Jvm.exec) (hb : c.code = cc) (hr : meth.sig.returnType = some .boolean) (hlk : meth.locks = false) (hM : HM D M H) (hS : va_S A s.heap H locs) (hc : cells ≤ mc) (hs : slots ≤ ms) (hv : r = bI v) (hR : Rm M) (hdg : decode cc pc = .ok (.ireturn, 1)) : W p l e R s m args below meth c H locs cells slots (MQ below (wQ D (some (.int (bI v))) Rm A) args s mc ms A) (F0 m pc ls [.int r]) :=
  W.widen hc hs (by subst hv; exact W.zret hx hb hr (bI_nar v) (wr_end hS hM hR) hS.2.2 hdg hlk)
theorem wr_lreturn {v : Int64} {mc ms : Nat} {Rm : MP → Prop} {r : Int64} (hx : p.tables.exec = Jvm.exec) (hb : c.code = cc) (hr : meth.sig.returnType = some .long) (hlk : meth.locks = false) (hM : HM D M H) (hS : va_S A s.heap H locs) (hc : cells ≤ mc) (hs : slots ≤ ms) (hv : r = v) (hR : Rm M) (hdg : decode cc pc = .ok (.lreturn, 1)) : W p l e R s m args below meth c H locs cells slots (MQ below (wQ D (some (.long v)) Rm A) args s mc ms A) (F0 m pc ls [.long r]) :=
  W.widen hc hs (by subst hv; exact W.lret hx hb hr (wr_end hS hM hR) hS.2.2 hdg hlk)
theorem wr_freturn {v : UInt32} {mc ms : Nat} {Rm : MP → Prop} {r : UInt32} (hx : p.tables.exec = Jvm.exec) (hb : c.code = cc) (hr : meth.sig.returnType = some .float) (hlk : meth.locks = false) (hM : HM D M H) (hS : va_S A s.heap H locs) (hc : cells ≤ mc) (hs : slots ≤ ms) (hv : r = v) (hR : Rm M) (hdg : decode cc pc = .ok (.freturn, 1)) : W p l e R s m args below meth c H locs cells slots (MQ below (wQ D (some (.float v)) Rm A) args s mc ms A) (F0 m pc ls [.float r]) :=
  W.widen hc hs (by subst hv; exact W.fret hx hb hr (wr_end hS hM hR) hS.2.2 hdg hlk)
theorem wr_dreturn {v : UInt64} {mc ms : Nat} {Rm : MP → Prop} {r : UInt64} (hx : p.tables.exec = Jvm.exec) (hb : c.code = cc) (hr : meth.sig.returnType = some .double) (hlk : meth.locks = false) (hM : HM D M H) (hS : va_S A s.heap H locs) (hc : cells ≤ mc) (hs : slots ≤ ms) (hv : r = v) (hR : Rm M) (hdg : decode cc pc = .ok (.dreturn, 1)) : W p l e R s m args below meth c H locs cells slots (MQ below (wQ D (some (.double v)) Rm A) args s mc ms A) (F0 m pc ls [.double r]) :=
  W.widen hc hs (by subst hv; exact W.dret hx hb hr (wr_end hS hM hR) hS.2.2 hdg hlk)
theorem wr_return {mc ms : Nat} {Rm : MP → Prop} (hx : p.tables.exec = Jvm.exec) (hb : c.code = cc) (hr : meth.sig.returnType = none) (hlk : meth.locks = false) (hM : HM D M H) (hS : va_S A s.heap H locs) (hc : cells ≤ mc) (hs : slots ≤ ms) (hR : Rm M) (hdg : decode cc pc = .ok (.return_, 1)) : W p l e R s m args below meth c H locs cells slots (MQ below (wQ D none Rm A) args s mc ms A) (F0 m pc ls []) :=
  W.widen hc hs (W.vret hx hb hr (wr_end hS hM hR) hS.2.2 hdg hlk)
/-! ===== writing ===== -/
theorem w_iast (hx : p.tables.exec = Jvm.exec) (hb : c.code = cc) (hK : KF D cI cJ s) (hM : HM D M H) (hS : va_S A H0 H locs) {a n : Nat} {f : Nat → Int32} (he : M a = some (eI cI n f)) (hA : A a) (j : Nat) (hj : j < n) (hn : n < 2 ^ 31) {x : Int32} (hdg : decode cc pc = .ok (.iastore, 1))
    (kk : ∀ (H : Heap) (locs : List Loc), HM D (mu M a (eI cI n (upd f j x))) H → va_S A H0 H locs → W p l e R s m args below meth c H locs cells slots Q (F0 m (pc + 1) ls rest)) : W p l e R s m args below meth c H locs cells slots Q (F0 m pc ls (.int x :: .int (nI j) :: .ref a :: rest)) := by
  have hjc : (nI j).toNatClampNeg = j := nI_clamp (Nat.lt_trans hj hn)
  refine W.iast hx hb (hM a _ he) ((hK.1.2 0 _ rfl).1 n (fun j => .int (f j))) (fun q => by cases q) (by show ¬ (nI j < 0 ∨ (arrV _ _ _).slots.size ≤ _); rw [arrV_size]; exact vp_in_nI hj hn) rfl rfl hdg fun H1 e z oq => ?_
  refine kk H1 _ (hM.up ?_ oq) (hS.put z oq hA)
  show H1[a]? = some (vp_cell _ _)
  rw [e, vp_cell_i, vp_cell_i, arrV_store, hjc]
  congr 2
  funext q
  by_cases hq : q = j
  · subst hq; simp [updV, upd]
  · simp [updV, upd, hq]
theorem w_last (hx : p.tables.exec = Jvm.exec) (hb : c.code = cc) (hK : KF D cI cJ s) (hM : HM D M H) (hS : va_S A H0 H locs) {a n : Nat} {f : Nat → BitVec 64} (he : M a = some (eJ cJ n (fun k => bL (f k)))) (hA : A a) (j : Nat) (hj : j < n) (hn : n < 2 ^ 31) {x : BitVec 64} (hdg : decode cc pc = .ok (.lastore, 1))
    (kk : ∀ (H : Heap) (locs : List Loc), HM D (mu M a (eJ cJ n (fun k => bL (va_up f j x k)))) H → va_S A H0 H locs → W p l e R s m args below meth c H locs cells slots Q (F0 m (pc + 1) ls rest)) : W p l e R s m args below meth c H locs cells slots Q (F0 m pc ls (.long (bL x) :: .int (nI j) :: .ref a :: rest)) := by
  have hjc : (nI j).toNatClampNeg = j := nI_clamp (Nat.lt_trans hj hn)
  refine W.last hx hb (hM a _ he) ((hK.1.2 1 _ rfl).1 n (fun j => .long (bL (f j)))) (fun q => by cases q) (by show ¬ (nI j < 0 ∨ (arrV _ _ _).slots.size ≤ _); rw [arrV_size]; exact vp_in_nI hj hn) rfl rfl hdg fun H1 e z oq => ?_
  refine kk H1 _ (hM.up ?_ oq) (hS.put z oq hA)
  show H1[a]? = some (vp_cell _ _)
  rw [e, vp_cell_l, vp_cell_l, arrV_store, hjc]
  congr 2
  funext q
  by_cases hq : q = j
  · subst hq; simp [updV, va_up]
  · simp [updV, va_up, hq]
theorem w_put {own C : String} {T : u_T} {N ci index : Nat} (hx : p.tables.exec = Jvm.exec) (hb : c.code = cc) (hts : ∀ w ∈ AW, w.before args s = true) (hown : s.vm.findClass own = some m.cls) (hK : KF D cI cJ s) (hM : HM D M H) (hS : va_S A H0 H locs) (hin : ∀ w ∈ u_ws C T N, w ∈ AW) (hc : vwCl[ci]? = some (C, T, N)) (ty : Nat → FieldType) (hty : ∀ k, k < N → parseFieldDescriptor (T k).2.2.1 = some (ty k)) (hnm : ∀ a, a < N → ∀ b, b < N → a ≠ b → (T a).2.1 ≠ (T b).2.1) (k : Nat) (hk : k < N) (hlink : Cond.fieldLink own index C (T k).2.1 (T k).2.2.1 ∈ AW) (hnm2 : (T k).1 = C) (hfin : (T k).2.2.2 = false) {a : Nat} {fs : List Value} (he : M a = some (.inr (ci, fs))) (hA : A a) {v : Value} (hn : narrow (ty k) v = v) (hfit : fits (ty k) v = true) (hl : k < fs.length) (hdg : decode cc pc = .ok (.putfield index, 3))
    (kk : ∀ (H : Heap) (locs : List Loc), HM D (mu M a (.inr (ci, fs.set k v))) H → va_S A H0 H locs → W p l e R s m args below meth c H locs cells slots Q (F0 m (pc + 3) ls rest)) : W p l e R s m args below meth c H locs cells slots Q (F0 m pc ls (v :: .ref a :: rest)) := by
  have hap := va_apart (own := own) hts hin ty hty hnm hK.1 hc
  obtain ⟨r, h1, cell, q1, q2, q3, q4⟩ := hM a _ he
  have hr : r = (C, T, N) := Option.some.inj (h1.symm.trans hc)
  subst hr
  obtain ⟨hS1, hfc, kC, hkC, hkind⟩ := hK.1.1 ci _ hc
  obtain ⟨cf, kf, fi, f, hi, hsl⟩ := hS1 k hk
  have hlay := hts _ (hin _ (u_in_lay hk))
  unfold u_lay at hlay
  rw [if_neg (by rw [hfin]; decide)] at hlay
  have hst := (u_facts hfc hkC (u_lays hts hin hk) hi).1
  have h6 := u_store hfc hkC hkind hlay hi (hty k hk) hn hfit
  have hi2 := hi
  rw [hnm2] at hi2
  refine W.putK hx hb (f := f) ⟨hown, hts _ hlink, ⟨_, _, _, hi2⟩, hst⟩ (by rw [q2]; exact h6) q1 q3 (by rw [hsl]; exact k2_hasslot (q4 k hk)) rfl rfl hdg fun H' e1 e2 e3 => ?_
  rw [hsl] at e1 ⊢
  exact kk H' _ (hM.up ⟨_, hc, t_OB.to (V := updV (vp_V fs) k v) ⟨_, e1, q2, q3, t_set q4 hap hk v⟩ (fun j _ => vp_updV_set hl v j)⟩ e3) (hS.put e2 e3 hA)
theorem w_putF {C : String} {T : u_T} {N ci index : Nat} (hx : p.tables.exec = Jvm.exec) (hb : c.code = cc) (hts : ∀ w ∈ AW, w.before args s = true) (hown : s.vm.findClass C = some m.cls) (hK : KF D cI cJ s) (hM : HM D M H) (hS : va_S A H0 H locs) (hin : ∀ w ∈ u_ws C T N, w ∈ AW) (hc : vwCl[ci]? = some (C, T, N)) (ty : Nat → FieldType) (hty : ∀ k, k < N → parseFieldDescriptor (T k).2.2.1 = some (ty k)) (hnm : ∀ a, a < N → ∀ b, b < N → a ≠ b → (T a).2.1 ≠ (T b).2.1) (hini : meth.name = "<init>") (k : Nat) (hk : k < N) (hlink : Cond.fieldLink C index C (T k).2.1 (T k).2.2.1 ∈ AW) (hnm2 : (T k).1 = C) (hfin : (T k).2.2.2 = true) {a : Nat} {fs : List Value} (he : M a = some (.inr (ci, fs))) (hA : A a) {v : Value} (hn : narrow (ty k) v = v) (hfit : fits (ty k) v = true) (hl : k < fs.length) (hdg : decode cc pc = .ok (.putfield index, 3))
    (kk : ∀ (H : Heap) (locs : List Loc), HM D (mu M a (.inr (ci, fs.set k v))) H → va_S A H0 H locs → W p l e R s m args below meth c H locs cells slots Q (F0 m (pc + 3) ls rest)) : W p l e R s m args below meth c H locs cells slots Q (F0 m pc ls (v :: .ref a :: rest)) := by
  have hap := va_apart (own := C) hts hin ty hty hnm hK.1 hc
  obtain ⟨r, h1, cell, q1, q2, q3, q4⟩ := hM a _ he
  have hr : r = (C, T, N) := Option.some.inj (h1.symm.trans hc)
  subst hr
  obtain ⟨hS1, hfc, kC, hkC, hkind⟩ := hK.1.1 ci _ hc
  obtain ⟨cf, kf, fi, f, hi, hsl⟩ := hS1 k hk
  have hlay := hts _ (hin _ (u_in_lay hk))
  unfold u_lay at hlay
  rw [if_pos hfin] at hlay
  have hst := (u_facts hfc hkC (u_lays hts hin hk) hi).1
  have hcf : m.cls = cf := by
    obtain ⟨_, _, c', _, _, _, -, -, hf', -, -, -, hown2, -⟩ := Cond.laysFinal_spec hlay
    have e1 : c' = cf := by have := hi.symm.trans hf'; simp at this; exact this.1.symm
    rw [hnm2] at hown2
    rw [← e1]; exact Option.some.inj (hown.symm.trans hown2)
  have h6 := u_fits hfc hkC hkind (Or.inr hlay) hi (hty k hk) hn hfit
  have hi2 := hi
  rw [hnm2] at hi2
  refine W.putFinK hx hb hown (hts _ hlink) hi2 hst hcf hini (by rw [q2]; exact h6) q1 q3 (by rw [hsl]; exact k2_hasslot (q4 k hk)) rfl rfl hdg fun H' e1 e2 e3 => ?_
  rw [hsl] at e1 ⊢
  exact kk H' _ (hM.up ⟨_, hc, t_OB.to (V := updV (vp_V fs) k v) ⟨_, e1, q2, q3, t_set q4 hap hk v⟩ (fun j _ => vp_updV_set hl v j)⟩ e3) (hS.put e2 e3 hA)
/-! ===== making ===== -/
theorem w_new {own C : String} {T : u_T} {N ci index : Nat} (hx : p.tables.exec = Jvm.exec) (hb : c.code = cc) (hts : ∀ w ∈ AW, w.before args s = true) (hown : s.vm.findClass own = some m.cls) (hK : KF D cI cJ s) (hM : HM D M H) (hS : va_S A H0 H locs) (hAn : ∀ q, H0.size ≤ q → A q) (hin : ∀ w ∈ u_ws C T N, w ∈ AW) (hc : vwCl[ci]? = some (C, T, N)) (ty : Nat → FieldType) (hty : ∀ k, k < N → parseFieldDescriptor (T k).2.2.1 = some (ty k)) (hcl : Cond.classLink own index C ∈ AW) (hinst : Cond.instantiable C N ∈ AW) (hini : Cond.initialized C ∈ AW) {fs : List Value} (hfs : ∀ j, j < N → defaultValue (ty j) = vp_V fs j) (hcells : cells + 1 ≤ R.cells) (hslots : slots + N ≤ R.slots) (hdg : decode cc pc = .ok (.new index, 3))
    (kk : ∀ (q : Nat) (H1 : Heap), q = H.size → M q = none → A q → (∀ b, b < H.size → b ≠ q) → HM D (mu M q (.inr (ci, fs))) H1 → va_S A H0 H1 locs → W p l e R s m args below meth c H1 locs (cells + 1) (slots + N) Q (F0 m (pc + 3) ls (.ref q :: rest))) : W p l e R s m args below meth c H locs cells slots Q (F0 m pc ls rest) := by
  have hKn := hK.1.1 ci _ hc
  refine W.newcK hx hb hown (hts _ hcl) (hts _ hinst) (hts _ hini) rfl hdg hcells hslots hKn.2.1 rfl fun H1 kC hkC e1 z1 o1 => ?_
  refine kk H.size H1 rfl ?_ (hAn _ hS.1) (fun b hb2 => Nat.ne_of_lt hb2) (hM.push ⟨_, hc, (u_born ty hts hin hKn hkC e1 hty).to hfs⟩ o1) ⟨Nat.le_trans hS.1 (by omega), fun x h1 h2 => (o1 x (Nat.lt_of_lt_of_le h1 hS.1)).trans (hS.2.1 x h1 h2), hS.2.2⟩
  cases hq : M H.size with
  | none => rfl
  | some x => exact absurd (hM.lt hq) (Nat.lt_irrefl _)
theorem w_newI (hx : p.tables.exec = Jvm.exec) (hb : c.code = cc) (hts : ∀ w ∈ AW, w.before args s = true) (hK : KF D cI cJ s) (hM : HM D M H) (hS : va_S A H0 H locs) (hAn : ∀ q, H0.size ≤ q → A q) (harr : Cond.arrayClass .int ∈ AW) (k : Nat) (hk : k < 2 ^ 27) (hcells : cells + 1 ≤ R.cells) (hslots : slots + k ≤ R.slots) (hdg : decode cc pc = .ok (.newarray .int, 2))
    (kk : ∀ (q : Nat) (H1 : Heap), q = H.size → M q = none → A q → (∀ b, b < H.size → b ≠ q) → HM D (mu M q (eI cI k (fun _ => 0))) H1 → va_S A H0 H1 locs → W p l e R s m args below meth c H1 locs (cells + 1) (slots + k) Q (F0 m (pc + 2) ls (.ref q :: rest))) : W p l e R s m args below meth c H locs cells slots Q (F0 m pc ls (.int (nI k) :: rest)) := by
  refine va_newaK hx hb (atype := .int) (hts _ harr) rfl hdg rfl (nI_pos (by omega)) (nI_clamp (by omega)) (by show k * 4 ≤ 536870912; omega) hcells hslots rfl fun H1 cA e1 z1 o1 hAr hNm => ?_
  have hcA : cA = cI := by
    have h2 : s.vm.findClass ("[" ++ (FieldType.int).toString) = some cI := (hK.1.2 0 _ rfl).2
    exact Option.some.inj (hNm.symm.trans h2)
  subst hcA
  refine kk H.size H1 rfl ?_ (hAn _ hS.1) (fun b hb2 => Nat.ne_of_lt hb2) (hM.push (show H1[H.size]? = some (vp_cell _ _) from e1) o1) ⟨Nat.le_trans hS.1 (by omega), fun x h1 h2 => (o1 x (Nat.lt_of_lt_of_le h1 hS.1)).trans (hS.2.1 x h1 h2), hS.2.2⟩
  cases hq : M H.size with
  | none => rfl
  | some x => exact absurd (hM.lt hq) (Nat.lt_irrefl _)
theorem w_newJ (hx : p.tables.exec = Jvm.exec) (hb : c.code = cc) (hts : ∀ w ∈ AW, w.before args s = true) (hK : KF D cI cJ s) (hM : HM D M H) (hS : va_S A H0 H locs) (hAn : ∀ q, H0.size ≤ q → A q) (harr : Cond.arrayClass .long ∈ AW) (k : Nat) (hk : k < 2 ^ 26) (hcells : cells + 1 ≤ R.cells) (hslots : slots + k ≤ R.slots) (hdg : decode cc pc = .ok (.newarray .long, 2))
    (kk : ∀ (q : Nat) (H1 : Heap), q = H.size → M q = none → A q → (∀ b, b < H.size → b ≠ q) → HM D (mu M q (eJ cJ k (fun _ => bL 0#64))) H1 → va_S A H0 H1 locs → W p l e R s m args below meth c H1 locs (cells + 1) (slots + k) Q (F0 m (pc + 2) ls (.ref q :: rest))) : W p l e R s m args below meth c H locs cells slots Q (F0 m pc ls (.int (nI k) :: rest)) := by
  refine va_newaK hx hb (atype := .long) (hts _ harr) rfl hdg rfl (nI_pos (by omega)) (nI_clamp (by omega)) (by show k * 8 ≤ 536870912; omega) hcells hslots rfl fun H1 cA e1 z1 o1 hAr hNm => ?_
  have hcA : cA = cJ := by
    have h2 : s.vm.findClass ("[" ++ (FieldType.long).toString) = some cJ := (hK.1.2 1 _ rfl).2
    exact Option.some.inj (hNm.symm.trans h2)
  subst hcA
  refine kk H.size H1 rfl ?_ (hAn _ hS.1) (fun b hb2 => Nat.ne_of_lt hb2) (hM.push (show H1[H.size]? = some (vp_cell _ _) from e1) o1) ⟨Nat.le_trans hS.1 (by omega), fun x h1 h2 => (o1 x (Nat.lt_of_lt_of_le h1 hS.1)).trans (hS.2.1 x h1 h2), hS.2.2⟩
  cases hq : M H.size with
  | none => rfl
  | some x => exact absurd (hM.lt hq) (Nat.lt_irrefl _)
/-! ===== calling a writer ===== -/
theorem wr_runS {own : String} {idx n' d' k nL mc ms : Nat} {y : MethodName} {cc' : ByteArray} {ret' : Option FieldType} {As st0 : List Value} {v : Option Value} {Rm : MP → Prop} (hx : p.tables.exec = Jvm.exec) (hb : c.code = cc) (hml : c.maxLocals = nL) (hown : s.vm.findClass own = some m.cls) (hts : ∀ w ∈ AW, w.before args s = true) (hK : KF D cI cJ s) (hM : HM D M H) (ok : okS own idx y cc' n' ret' k) (hC : Wr l y cc' n' ret' d' mc ms D cI cJ As M H.size A v Rm)
    (hk : As.length = k) (hR : d' + 1 ≤ R.frames ∧ 8 + (n' + 11) + 40 * d' ≤ R.locals) (hsz : ls.size = nL) (hst : st0 = As.reverse ++ rest) (hrm : (rest.map fun v => v.category).sum ≤ 8) (hdg : decode cc pc = .ok (.invokestatic idx, 3)) (hf : cells + mc ≤ R.cells ∧ slots + ms ≤ R.slots) : va_Run p l e R s m args below meth c H locs cells slots mc ms (F0 m pc ls st0) rest (wQ D v Rm A As.toArray) A :=
  va_runS (As := As) (rest := rest) ⟨hx, hb, hml, hown, hts⟩ hC (va_cwS k hts ok.1 rfl rfl rfl ok.2 hR) ⟨PcW.blind, fun U hU hW => ⟨rfl, by rw [hU], hK.warm hW, by rw [hU]; exact hM⟩⟩ rfl hk hsz hst (lv_room hrm) hdg hf
theorem wr_runV {own : String} {idx n' d' k nL b ci mc ms : Nat} {y : MethodName} {cc' : ByteArray} {ret' : Option FieldType} {As st0 fs : List Value} {q : vw_C} {v : Option Value} {Rm : MP → Prop} (hx : p.tables.exec = Jvm.exec) (hb : c.code = cc) (hml : c.maxLocals = nL) (hown : s.vm.findClass own = some m.cls) (hts : ∀ w ∈ AW, w.before args s = true) (hK : KF D cI cJ s) (hM : HM D M H) (ok : okV own idx y cc' n' ret' k) (hC : Wr l y cc' n' ret' d' mc ms D cI cJ (.ref b :: As) M H.size A v Rm) (he : M b = some (.inr (ci, fs))) (hq : vwCl[ci]? = some q) (hqy : q.1 = y.cls)
    (hk : As.length = k) (hR : d' + 1 ≤ R.frames ∧ 8 + (n' + 11) + 40 * d' ≤ R.locals) (hsz : ls.size = nL) (hst : st0 = As.reverse ++ .ref b :: rest) (hrm : (rest.map fun v => v.category).sum ≤ 8) (hdg : decode cc pc = .ok (.invokevirtual idx, 3)) (hf : cells + mc ≤ R.cells ∧ slots + ms ≤ R.slots) : va_Run p l e R s m args below meth c H locs cells slots mc ms (F0 m pc ls st0) rest (wQ D v Rm A (Value.ref b :: As).toArray) A := by
  have hrv := va_recv hK.1 (hM.one he) (q0 := 0) hq rfl
  rw [hqy] at hrv
  exact va_runV (As := As) (rest := rest) ⟨hx, hb, hml, hown, hts⟩ hC (cwV k hts ok.1 rfl rfl rfl ⟨rfl, ok.2⟩ hR) ⟨PcW.blind, hrv, fun U hU hW => ⟨rfl, by rw [hU], hK.warm hW, by rw [hU]; exact hM⟩⟩ rfl hk hsz hst (lv_room hrm) hdg hf
theorem wr_go {mc ms : Nat} {v : Option Value} {Rm : MP → Prop} {a : Array Value} {st0 : List Value} (hr : va_Run p l e R s m args below meth c H locs cells slots mc ms (F0 m pc ls st0) rest (wQ D v Rm A a) A) (hS : va_S A H0 H locs)
    (kk : ∀ (M1 : MP) (H1 : Heap) (locs1 : List Loc), Rm M1 → H.size ≤ H1.size → HM D M1 H1 → va_S A H0 H1 locs1 → W p l e R s m args below meth c H1 locs1 (cells + mc) (slots + ms) Q (F0 m (pc + 3) ls (v.toList ++ rest))) : W p l e R s m args below meth c H locs cells slots Q (F0 m pc ls st0) := by
  intro T hT X
  obtain ⟨v', st₀, t, T', L, h0, X', hL, e1, e2, ⟨⟨hv, M1, hR, hM1⟩, hz, hk⟩, st⟩ := hr T hT X
  cases hv
  rw [h0] at hz hk
  obtain ⟨t2, a1, b1⟩ := kk M1 T'.heap (locs ++ L) hR (by rw [e1]; exact hz) (by rw [e1]; exact hM1)
    ⟨Nat.le_trans hS.1 (by rw [e1]; exact hz), fun q h1 h2 => by rw [e1, hk q (Nat.lt_of_lt_of_le h1 hS.1) h2]; exact hS.2.1 q h1 h2, fun q hq => by
      rcases List.mem_append.mp hq with h | h
      · exact hS.2.2 q h
      · exact hL q h⟩ T' rfl X'
  exact ⟨t2, st t2 a1, b1⟩
/-- a loop that writes: the world, too, by what is left to do -/
theorem loopW {ι : Type} {pcH nL : Nat} {st : List Value} (Mf : ι → MP) (lv : ι → List (Nat × Value)) (I : Nat → ι → Prop)
    (h0 : ∀ x, I 0 x → ∀ (H : Heap) (locs : List Loc), HM D (Mf x) H → va_S A H0 H locs → ∀ ls : Array Slot, lv_has ls nL (lv x) → W p l e R s m args below meth c H locs cells slots Q (F0 m pcH ls st))
    (hs : ∀ n, (∀ y, I n y → ∀ (H : Heap) (locs : List Loc), HM D (Mf y) H → va_S A H0 H locs → ∀ ls : Array Slot, lv_has ls nL (lv y) → W p l e R s m args below meth c H locs cells slots Q (F0 m pcH ls st)) → ∀ x, I (n + 1) x → ∀ (H : Heap) (locs : List Loc), HM D (Mf x) H → va_S A H0 H locs → ∀ ls : Array Slot, lv_has ls nL (lv x) → W p l e R s m args below meth c H locs cells slots Q (F0 m pcH ls st))
    (N : Nat) (x : ι) (hI : I N x) {H : Heap} {locs : List Loc} (hM : HM D (Mf x) H) (hS : va_S A H0 H locs) (ls : Array Slot) (hl : lv_has ls nL (lv x)) : W p l e R s m args below meth c H locs cells slots Q (F0 m pcH ls st) := by
  have key : ∀ n x, I n x → ∀ (H : Heap) (locs : List Loc), HM D (Mf x) H → va_S A H0 H locs → ∀ ls : Array Slot, lv_has ls nL (lv x) → W p l e R s m args below meth c H locs cells slots Q (F0 m pcH ls st) := by
    intro n
    induction n with
    | zero => exact h0
    | succ n ih => exact hs n ih
  exact key N x hI H locs hM hS ls hl
theorem wr_go0 {v : Option Value} {Rm : MP → Prop} {a : Array Value} {st0 : List Value} (hr : va_Run p l e R s m args below meth c H locs cells slots 0 0 (F0 m pc ls st0) rest (wQ D v Rm A a) A) (hS : va_S A H0 H locs)
    (kk : ∀ (M1 : MP) (H1 : Heap) (locs1 : List Loc), Rm M1 → HM D M1 H1 → va_S A H0 H1 locs1 → W p l e R s m args below meth c H1 locs1 cells slots Q (F0 m (pc + 3) ls (v.toList ++ rest))) : W p l e R s m args below meth c H locs cells slots Q (F0 m pc ls st0) := wr_go hr hS (fun M1 H1 L1 h1 _ h3 h4 => kk M1 H1 L1 h1 h3 h4)
/-- roads that meet again behind writes -/
theorem meetM {pcJ nL : Nat} {st : List Value} {g : JFrame} (Mj : MP) (lv : List (Nat × Value)) (hJ : ∀ (H : Heap) (locs : List Loc), HM D Mj H → va_S A H0 H locs → ∀ ls : Array Slot, lv_has ls nL lv → W p l e R s m args below meth c H locs cells slots Q (F0 m pcJ ls st)) (k : (∀ (H : Heap) (locs : List Loc), HM D Mj H → va_S A H0 H locs → ∀ ls : Array Slot, lv_has ls nL lv → W p l e R s m args below meth c H locs cells slots Q (F0 m pcJ ls st)) → W p l e R s m args below meth c H locs cells slots Q g) : W p l e R s m args below meth c H locs cells slots Q g := k hJ
theorem w_alen (hx : p.tables.exec = Jvm.exec) (hb : c.code = cc) (hK : KF D cI cJ s) (hM : HM D M H) {a n : Nat} {f : Nat → Int32} (he : M a = some (eI cI n f)) (hdg : decode cc pc = .ok (.arraylength, 1)) (kk : W p l e R s m args below meth c H locs cells slots Q (F0 m (pc + 1) ls (.int (nI n) :: rest))) : W p l e R s m args below meth c H locs cells slots Q (F0 m pc ls (.ref a :: rest)) :=
  va_alen hx hb hK.1 (hM.one he) 0 0 rfl rfl (v := nI n) rfl hdg kk
end LAYB
theorem mu_none {M : MP} {a q : Nat} {e : va_E} (h : mu M a e q = none) : M q = none := by
  unfold mu at h
  by_cases hq : q = a
  · rw [if_pos hq] at h; cases h
  · rw [if_neg hq] at h; exact h

/-- an array's values beyond its end say nothing -/
theorem HM.cg {D : va_G} {M : MP} {H : Heap} {cI : ClassId} {a n : Nat} {f g : Nat → Int32} (hM : HM D (mu M a (eI cI n f)) H) (h : ∀ k, k < n → f k = g k) : HM D (mu M a (eI cI n g)) H := by
  intro b x hx
  by_cases hb : b = a
  · subst hb
    rw [mu_s] at hx
    cases hx
    have h1 : H[b]? = some (vp_cell cI (n, .inl f)) := hM b _ mu_s
    show H[b]? = some (vp_cell cI (n, .inl g))
    rw [h1]
    have e : (fun k : Fin n => Value.int (f k.val)) = (fun k : Fin n => Value.int (g k.val)) := funext fun k => by rw [h k.val k.isLt]
    rw [vp_cell_i, vp_cell_i]
    unfold arrV
    rw [e]
  · rw [mu_n hb] at hx
    exact hM b x ((mu_n hb).trans hx)
theorem nI_m1 {o : Nat} (h : o < 64) : ¬ nI o = -1 := fun e => by
  have h2 := congrArg Int32.toInt e
  rw [nI_toInt (by omega)] at h2
  have h3 : (-1 : Int32).toInt = -1 := by decide
  omega
theorem nI_cl {o : Nat} (h : o < 64) : (nI o).toNatClampNeg = o := nI_clamp (by omega)
