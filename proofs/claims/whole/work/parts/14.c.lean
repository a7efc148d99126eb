/-! ===== calling constructors ===== -/
def okI (own : String) (idx : Nat) (y : MethodName) (cc : ByteArray) (n : Nat) (k : Nat) : Prop := GoodIn AW (wsA y cc n none) ∧ Cond.initialized y.cls ∈ AW ∧ Cond.methodLink own idx y ∈ AW ∧ Cond.instanceMethod y ∈ AW ∧ y.name = "<init>" ∧ (y.cls ≠ "java/lang/invoke/MethodHandle" ∧ y.cls ≠ "java/lang/invoke/VarHandle" ∧ (parseMethodDescriptor y.desc).map (fun d => d.parameters.length) = some k)
theorem okI_of {own : String} {idx : Nat} {y : MethodName} {cc : ByteArray} {n : Nat} {k : Nat} (h1 : Cond.methodLink own idx y ∈ AW) (h2 : Cond.instanceMethod y ∈ AW) (h3 : Cond.initialized y.cls ∈ AW) (h4 : Cond.code y cc n none ∈ AW) (hn : y.name = "<init>") (hd : y.cls ≠ "java/lang/invoke/MethodHandle" ∧ y.cls ≠ "java/lang/invoke/VarHandle" ∧ (parseMethodDescriptor y.desc).map (fun d => d.parameters.length) = some k) : okI own idx y cc n k := ⟨wsA_in h4, h3, h1, h2, hn, hd⟩
section RUNI
variable {p : Program} {l : Launch} {e : Env} {R : Room} {s : State} {m : MethodId} {args : Array Value} {below : List Frame} {meth : Method} {c : Code} {H : Heap} {locs : List Loc} {cells slots : Nat} {Q : State → Prop}
variable {cc : ByteArray} {pc : Nat} {ls : Array Slot} {rest : List Value} {D : va_G} {cI cJ : ClassId} {M : MP} {A : Nat → Prop} {H0 : Heap}
theorem wr_runI {own : String} {idx n' d' k nL b mc ms : Nat} {y : MethodName} {cc' : ByteArray} {As st0 : List Value} {v : Option Value} {Rm : MP → Prop} (hx : p.tables.exec = Jvm.exec) (hb : c.code = cc) (hml : c.maxLocals = nL) (hown : s.vm.findClass own = some m.cls) (hts : ∀ w ∈ AW, w.before args s = true) (hK : KF D cI cJ s) (hM : HM D M H) (ok : okI own idx y cc' n' k) (hC : Wr l y cc' n' none d' mc ms D cI cJ (.ref b :: As) M H.size A v Rm)
    (hk : As.length = k) (hR : d' + 1 ≤ R.frames ∧ 8 + (n' + 11) + 40 * d' ≤ R.locals) (hsz : ls.size = nL) (hst : st0 = As.reverse ++ .ref b :: rest) (hrm : (rest.map fun v => v.category).sum ≤ 8) (hdg : decode cc pc = .ok (.invokespecial idx, 3)) (hf : cells + mc ≤ R.cells ∧ slots + ms ≤ R.slots) : va_Run p l e R s m args below meth c H locs cells slots mc ms (F0 m pc ls st0) rest (wQ D v Rm A (Value.ref b :: As).toArray) A :=
  va_runI (As := As) (rest := rest) ⟨hx, hb, hml, hown, hts⟩ hC (cwI k hts ok.1 rfl rfl rfl (hts _ ok.2.1) (hts _ ok.2.2.1) (hts _ ok.2.2.2.1) ok.2.2.2.2.1 ok.2.2.2.2.2 hR) ⟨PcW.blind, fun U hU hW => ⟨rfl, by rw [hU], hK.warm hW, by rw [hU]; exact hM⟩⟩ rfl hk hsz hst (lv_room hrm) hdg hf
end RUNI
/-- a made page: its fields, and its position -/
def PageMade (cI cJ : ClassId) (M M' : MP) (A : Nat → Prop) (pg : Nat) (bf : Value) (nu : Nat) : Prop :=
  ∃ po okk pt : Nat, M' pg = some (.inr (0, [.ref po, bf, .int (nI nu), .null, .int (nI 0), .int (nI 0), .int (nI 0)])) ∧ PosAt cI cJ M' po okk pt kZ pNo 0#64 0#64 true ∧ (M po = none ∧ A po) ∧ (M okk = none ∧ A okk) ∧ (M pt = none ∧ A pt) ∧ Keep M M' (fun b => b = pg)
theorem Keep.call {M Mx M1 : MP} {P : Nat → Prop} {q : Nat} (h : Keep M Mx P) (hc : Keep Mx M1 (fun b => b = q)) (hq : P q ∨ M q = none) : Keep M M1 P := fun b e hb hn => hc b e (h b e hb hn) (fun z => by
  have z2 : b = q := z
  rw [z2] at hb hn
  rcases hq with hq | hq
  · exact hn hq
  · rw [hq] at hb; cases hb)
theorem Keep.no {M M1 : MP} {P : Nat → Prop} {q : Nat} (h : Keep M M1 P) (hq : M1 q = none) (hn : ¬ P q) : M q = none := by
  cases hM : M q with
  | none => rfl
  | some e => have := h q _ hM hn; rw [hq] at this; cases this
