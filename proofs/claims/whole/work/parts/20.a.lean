/-! ===== the law's helpers: they call, and catch ===== -/
def PcWX (D : va_G) (cI cJ : ClassId) (av : List Value) (M : MP) (sz : Nat) : Array Value → State → Prop := va_Pc av (fun U => U.heap.size = sz ∧ (KF D cI cJ U ∧ HM D M U.heap) ∧ KXA (fun _ => False) U U.heap)
theorem PcWX.blind {D : va_G} {cI cJ : ClassId} {av : List Value} {M : MP} {sz : Nat} : FrameBlind (PcWX D cI cJ av M sz) := fun a U g mk h => ⟨h.1, h.2.1, ⟨h.2.2.1.1.same rfl, h.2.2.1.2⟩, KXA.same (u := U) (U := U.calling g mk a) rfl h.2.2.2⟩
/-- a helper: no throw leaves it -/
def Hc (l : Launch) (y : MethodName) (cc : ByteArray) (n : Nat) (ret : Option FieldType) (hh : List (Nat × Nat × Nat × Nat)) (d mc ms : Nat) (D : va_G) (cI cJ : ClassId) (av : List Value) (M : MP) (sz : Nat) (A : Nat → Prop) (v : Option Value) (Rm : MP → Prop) : Prop :=
  vx_Met l y (Cond.codeWith y cc n ret hh :: AW) (rmD d mc ms) (PcWX D cI cJ av M sz) (wQ D v Rm A) (fun _ _ _ => False) mc ms A
theorem hc_start {l : Launch} {y : MethodName} {cc : ByteArray} {n d mc ms sz : Nat} {ret : Option FieldType} {hh : List (Nat × Nat × Nat × Nat)} {D : va_G} {cI cJ : ClassId} {av : List Value} {M : MP} {A : Nat → Prop} {v : Option Value} {Rm : MP → Prop} (hy : plainName y.cls = true) (hn : (lg_sl av).length ≤ n)
    (body : ∀ (p : Program) (e : Env) (s : State) (m : MethodId) (args : Array Value) (below : List Frame) (meth : Method) (c : Code), p.tables.exec = Jvm.exec → c.code = cc → meth.sig.returnType = ret → c.maxLocals = n → s.vm.findClass y.cls = some m.cls → (∀ w ∈ AW, w.before args s = true) → meth.locks = false → c.exceptionTable.toList = tableOf hh → KF D cI cJ s → KXA (fun _ => False) s s.heap → s.heap.size = sz → HM D M s.heap →
      ∀ ls : Array Slot, lv_has ls n (lv_args 0 av) → W p l e (rmD d mc ms) s m args below meth c s.heap [] 0 0 (vx_MQ below (wQ D v Rm A) (fun _ _ _ => False) args s mc ms A) (F0 m 0 ls [])) :
    Hc l y cc n ret hh d mc ms D cI cJ av M sz A v Rm := by
  refine vx_ofWH (cc := cc) (maxL := n) (ret := ret) (hh := hh) hy rfl ?_
  intro p e s m args below meth c s₁ B hml hv
  obtain ⟨rfl, hsz, ⟨hK, hM⟩, hX⟩ := hv
  have hts := atoms_spec (ws := Cond.codeWith y cc n ret hh :: AW) B.pre
  have htb := vx_table (x := y) B (hts _ List.mem_cons_self)
  rw [lg_entry_eq]
  exact body p e s m _ below meth c B.exec B.bytes B.returns hml (findClass_of_methodNamed B.named) (fun w h => hts w (List.mem_cons_of_mem _ h)) B.notSynchronized htb hK hX hsz hM _ (lv_entry av hn)
section HROWS
variable {p : Program} {l : Launch} {e : Env} {R : Room} {s : State} {m : MethodId} {args : Array Value} {below : List Frame} {meth : Method} {c : Code} {H : Heap} {locs : List Loc} {cells slots : Nat} {Q : State → Prop}
variable {cc : ByteArray} {pc : Nat} {ls : Array Slot} {rest : List Value} {D : va_G} {cI cJ : ClassId} {M : MP} {A : Nat → Prop} {H0 : Heap}
theorem w_i2l (hx : p.tables.exec = Jvm.exec) (hb : c.code = cc) {x : Int32} (hdg : decode cc pc = .ok (.i2l, 1)) (kk : W p l e R s m args below meth c H locs cells slots Q (F0 m (pc + 1) ls (.long x.toInt64 :: rest))) : W p l e R s m args below meth c H locs cells slots Q (F0 m pc ls (.int x :: rest)) := by
  intro T hT X
  obtain ⟨t, st, hq⟩ := kk T hT X
  have d : decode c.code pc = .ok (.i2l, 1) := by rw [hb]; exact hdg
  refine ⟨t, ?_, hq⟩
  jvm_step X.here [X.here.top, hx, d]
  exact st
/-- the answer into 'out' -/
theorem hc_out (hx : p.tables.exec = Jvm.exec) (hb : c.code = cc) (hr : meth.sig.returnType = some .int) (hlk : meth.locks = false) (hK : KF D cI cJ s) (hM : HM D M H) (hS : va_S A s.heap H locs) {out : Nat} {ob : Nat → BitVec 64} (ho : M out = some (eJ cJ 1 (fun k => bL (ob k)))) (hA : A out) {x : BitVec 64} {mc ms pc2 : Nat} {off : Int} {Rm : MP → Prop} (hR : ∀ ob1 : Nat → BitVec 64, ob1 0 = x → Rm (mu M out (eJ cJ 1 (fun k => bL (ob1 k))))) (hc : cells ≤ mc) (hs : slots ≤ ms)
    (d0 : decode cc pc = .ok (.lastore, 1)) (d1 : decode cc (pc + 1) = .ok (.goto off, 3)) (ht : ((pc + 1 : Nat) : Int) + off = (pc2 : Int)) (d2 : decode cc pc2 = .ok (.iconst 0, 1)) (d3 : decode cc (pc2 + 1) = .ok (.ireturn, 1)) : W p l e R s m args below meth c H locs cells slots (vx_MQ below (wQ D (some (.int (nI 0))) Rm A) (fun _ _ _ => False) args s mc ms A) (F0 m pc ls [.long (bL x), .int (nI 0), .ref out]) := by
  refine w_last (f := ob) hx hb hK hM hS ho hA 0 (by decide) (by decide) d0 (fun H locs hM hS => ?_)
  refine lv_goto (tgt := pc2) hx hb d1 ht ?_
  refine lv_iconst (v := nI 0) hx hb d2 (by decide) ?_
  exact vx_ret (wr_ireturn hx hb hr hlk hM hS hc hs rfl (hR _ (by unfold va_up; exact if_pos rfl)) d3)
/-- caught: the number k -/
theorem hc_num (hx : p.tables.exec = Jvm.exec) (hb : c.code = cc) (hr : meth.sig.returnType = some .int) (hlk : meth.locks = false) (hM : HM D M H) (hS : va_S A s.heap H locs) {mc ms : Nat} {k : Nat} {kz : Int} {Rm : MP → Prop} (hR : Rm M) (hc : cells ≤ mc) (hs : slots ≤ ms)
    (d0 : decode cc pc = .ok (.iconst kz, 1)) (hk : Int32.ofInt kz = nI k) (d1 : decode cc (pc + 1) = .ok (.ireturn, 1)) : W p l e R s m args below meth c H locs cells slots (vx_MQ below (wQ D (some (.int (nI k))) Rm A) (fun _ _ _ => False) args s mc ms A) (F0 m pc ls []) := by
  refine lv_iconst (v := nI k) hx hb d0 hk ?_
  exact vx_ret (wr_ireturn hx hb hr hlk hM hS hc hs rfl hR d1)
/-- calling a helper -/
theorem hc_runS {own : String} {idx n' d' k nL mc ms : Nat} {y : MethodName} {cc' : ByteArray} {ret' : Option FieldType} {hh : List (Nat × Nat × Nat × Nat)} {As st0 : List Value} {v : Option Value} {Rm : MP → Prop} (hx : p.tables.exec = Jvm.exec) (hb : c.code = cc) (hml : c.maxLocals = nL) (hown : s.vm.findClass own = some m.cls) (hts : ∀ w ∈ AW, w.before args s = true) (hK : KF D cI cJ s) (hX : KXA A s s.heap) (hM : HM D M H) (hS : va_S A s.heap H locs)
    (ok : GoodIn AW (va_wsS own idx y (Cond.codeWith y cc' n' ret' hh :: AW)) ∧ (y.cls ≠ "java/lang/invoke/MethodHandle" ∧ y.cls ≠ "java/lang/invoke/VarHandle" ∧ (parseMethodDescriptor y.desc).map (fun d => d.parameters.length) = some k)) (hC : Hc l y cc' n' ret' hh d' mc ms D cI cJ As M H.size A v Rm)
    (hk : As.length = k) (hR : d' + 1 ≤ R.frames ∧ 8 + (n' + 11) + 40 * d' ≤ R.locals) (hsz : ls.size = nL) (hst : st0 = As.reverse ++ rest) (hrm : (rest.map fun v => v.category).sum ≤ 8) (hdg : decode cc pc = .ok (.invokestatic idx, 3)) (hf : cells + mc ≤ R.cells ∧ slots + ms ≤ R.slots) : vx_Run p l e R s m args below meth c H locs cells slots mc ms (F0 m pc ls st0) rest (wQ D v Rm A As.toArray) (fun _ _ _ => False) A :=
  vx_runSX (As := As) (rest := rest) ⟨hx, hb, hml, hown, hts⟩ hC (vx_cwSW k hts ok.1 rfl rfl rfl ok.2 hR) ⟨PcWX.blind, fun U hU hW => ⟨rfl, by rw [hU], ⟨hK.warm hW, by rw [hU]; exact hM⟩, by rw [hU]; exact hX.go hS hW⟩⟩ rfl hk hsz hst (lv_room hrm) hdg hf
theorem hc_go {mc ms : Nat} {v : Option Value} {Rm : MP → Prop} {a : Array Value} {st0 : List Value} (hr : vx_Run p l e R s m args below meth c H locs cells slots mc ms (F0 m pc ls st0) rest (wQ D v Rm A a) (fun _ _ _ => False) A) (hS : va_S A H0 H locs)
    (kk : ∀ (M1 : MP) (H1 : Heap) (locs1 : List Loc), Rm M1 → H.size ≤ H1.size → HM D M1 H1 → va_S A H0 H1 locs1 → W p l e R s m args below meth c H1 locs1 (cells + mc) (slots + ms) Q (F0 m (pc + 3) ls (v.toList ++ rest))) : W p l e R s m args below meth c H locs cells slots Q (F0 m pc ls st0) := by
  intro T hT X
  rcases hr T hT X with ⟨v', st₀, t, T', L, h0, X', hL, e1, e2, ⟨⟨hv, M1, hR, hM1⟩, hF⟩, st⟩ | ⟨q, st₀, t, T', L, E', ce, h0, X', hL, e1, e2, hx, hce, hcv, hcl, st⟩
  · cases hv
    obtain ⟨k1, k2, k3⟩ := vx_keep h0 e1 hS (A1 := A) (free := A) (fun _ _ z => z) (fun _ z => z) hL hF
    obtain ⟨t2, a1, b1⟩ := kk M1 T'.heap (locs ++ L) hR k1 (by rw [e1]; exact hM1) k3 T' rfl X'
    exact ⟨t2, st t2 a1, b1⟩
  · exact hx.elim
end HROWS
theorem okH_of {own : String} {idx : Nat} {y : MethodName} {cc : ByteArray} {n : Nat} {ret : Option FieldType} {hh : List (Nat × Nat × Nat × Nat)} {k : Nat} (h1 : Cond.methodLink own idx y ∈ AW) (h2 : Cond.static y ∈ AW) (h3 : Cond.initialized y.cls ∈ AW) (h4 : Cond.codeWith y cc n ret hh ∈ AW) (hd : y.cls ≠ "java/lang/invoke/MethodHandle" ∧ y.cls ≠ "java/lang/invoke/VarHandle" ∧ (parseMethodDescriptor y.desc).map (fun d => d.parameters.length) = some k) : GoodIn AW (va_wsS own idx y (Cond.codeWith y cc n ret hh :: AW)) ∧ (y.cls ≠ "java/lang/invoke/MethodHandle" ∧ y.cls ≠ "java/lang/invoke/VarHandle" ∧ (parseMethodDescriptor y.desc).map (fun d => d.parameters.length) = some k) :=
  ⟨fun w hw => by
    rcases List.mem_append.mp hw with hw | hw
    · simp only [List.mem_cons, List.not_mem_nil, or_false] at hw
      rcases hw with rfl | rfl | rfl
      · exact aw_in h1
      · exact aw_in h2
      · exact aw_in h3
    · rcases List.mem_cons.mp hw with rfl | hw
      · exact aw_in h4
      · exact aw_in hw, hd⟩
