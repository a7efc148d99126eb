/-! ===== methods that throw: what they may take as given, and how it is kept ===== -/
abbrev xIO : String := "java/lang/IndexOutOfBoundsException"
abbrev xIA : String := "java/lang/IllegalArgumentException"
abbrev xIS : String := "java/lang/IllegalStateException"
abbrev xNS : String := "java/util/NoSuchElementException"
abbrev xNM : List String := ["java/lang/RuntimeException", "java/lang/Exception"]
def XW : List Cond := [.castable xIO xIO, .castable xIA xIA, .castable xIS xIS, .castable xNS xNS, .declares (Bundle.initS "java/lang/RuntimeException"), .declares (Bundle.initS "java/lang/Exception"), .declares (Bundle.initS "java/lang/Throwable")]
def XN : List (String × String) := [(xIA, xIO), (xIS, xIO), (xIS, xIA), (xNS, xIO)]
def XS : List (Nat × String) := [(278, "a square is a number from 0 to 63"), (281, "a kind is a number from KING to PAWN"), (67, "the piece cannot be placed there"), (86, "there is nothing to remove"), (95, "the game cannot begin so"), (110, "the square is empty"), (190, "sequences of 1 or 2 moves are counted"), (202, "the move is not legal"), (222, "the bonding is not legal"), (227, "the dissolving is not legal"), (235, "there is no action to take back")]
def KXA (A : Nat → Prop) (U : State) (H : Heap) : Prop := (∀ w ∈ XW, va_Nw w U) ∧ (∀ q ∈ XN, va_Nc q.1 q.2 U) ∧ (∀ q ∈ XS, ∃ sa, vk_R RX3 q.1 q.2 sa U) ∧ vx_Zq Bundle.tN "UNASSIGNED_STACK" Bundle.steD A U H ∧ vx_Zq Bundle.tN "SUPPRESSED_SENTINEL" Bundle.listD A U H
theorem XW_warm {w : Cond} (h : w ∈ XW) {s U : State} (hW : s.WarmedH U.vm) (hz : va_Nw w s) : va_Nw w U := by
  unfold XW at h
  simp only [List.mem_cons, List.not_mem_nil, or_false] at h
  rcases h with rfl | rfl | rfl | rfl | rfl | rfl | rfl
  · exact va_Nw.warmC hW hz
  · exact va_Nw.warmC hW hz
  · exact va_Nw.warmC hW hz
  · exact va_Nw.warmC hW hz
  · exact va_Nw.warmD hW hz
  · exact va_Nw.warmD hW hz
  · exact va_Nw.warmD hW hz
theorem KXA.go {A : Nat → Prop} {locs : List Loc} {s U : State} {H : Heap} (h : KXA A s s.heap) (hS : va_S A s.heap H locs) (hW : s.WarmedH U.vm) : KXA (fun _ => False) U H :=
  ⟨fun w hw => XW_warm hw hW (h.1 w hw), fun q hq => va_Nc.moved hW.alike (h.2.1 q hq), fun q hq => by
    obtain ⟨sa, hz⟩ := h.2.2.1 q hq
    exact ⟨sa, vk_R.warm hW hz⟩, ((h.2.2.2.1.kept hS.2.1).narrow (fun _ z => z.elim)).moved hW.alike, ((h.2.2.2.2.kept hS.2.1).narrow (fun _ z => z.elim)).moved hW.alike⟩
theorem KXA.same {A : Nat → Prop} {u U : State} {H : Heap} (hv : U.vm = u.vm) (h : KXA A u H) : KXA A U H :=
  ⟨fun w hw => va_Nw.same (by
      unfold XW at hw
      simp only [List.mem_cons, List.not_mem_nil, or_false] at hw
      rcases hw with rfl | rfl | rfl | rfl | rfl | rfl | rfl <;> rfl) hv.symm (h.1 w hw), fun q hq => va_Nc.moved (hv ▸ Vm.Alike.refl _) (h.2.1 q hq), fun q hq => by
    obtain ⟨sa, hz⟩ := h.2.2.1 q hq
    exact ⟨sa, vk_R.same hv hz⟩, h.2.2.2.1.moved (hv ▸ Vm.Alike.refl _), h.2.2.2.2.moved (hv ▸ Vm.Alike.refl _)⟩
def PcX (D : va_G) (cI cJ : ClassId) (av : List Value) (M : MP) : Array Value → State → Prop := va_Pc av (fun U => (KF D cI cJ U ∧ HM D M U.heap) ∧ KXA (fun _ => False) U U.heap)
theorem PcX.blind {D : va_G} {cI cJ : ClassId} {av : List Value} {M : MP} : FrameBlind (PcX D cI cJ av M) := fun a U g mk h => ⟨h.1, ⟨h.2.1.1.same rfl, h.2.1.2⟩, KXA.same (u := U) (U := U.calling g mk a) rfl h.2.2⟩
def XCf (D : va_G) (M : MP) (E : String) : String → State → State → Prop := vx_X (S := Unit) (fun _ => True) (fun E' _ t => E' = E ∧ HM D M t.heap) (fun _ => False)
/-- a method that throws an E here, and writes nothing old -/
def Xt (l : Launch) (y : MethodName) (cc : ByteArray) (n : Nat) (ret : Option FieldType) (d : Nat) (D : va_G) (cI cJ : ClassId) (av : List Value) (M : MP) (E : String) : Prop :=
  vx_Met l y (wsA y cc n ret) (rmD d 1 6) (PcX D cI cJ av M) (fun _ _ _ _ => False) (XCf D M E) 1 6 (fun _ => False)
theorem xt_start {l : Launch} {y : MethodName} {cc : ByteArray} {n d : Nat} {ret : Option FieldType} {D : va_G} {cI cJ : ClassId} {av : List Value} {M : MP} {E : String} (hy : plainName y.cls = true) (hn : (lg_sl av).length ≤ n)
    (body : ∀ (p : Program) (e : Env) (s : State) (m : MethodId) (args : Array Value) (below : List Frame) (meth : Method) (c : Code), p.tables.exec = Jvm.exec → c.code = cc → c.maxLocals = n → s.vm.findClass y.cls = some m.cls → (∀ w ∈ AW, w.before args s = true) → meth.locks = false → (∀ x ∈ c.exceptionTable.toList, False) → KF D cI cJ s → KXA (fun _ => False) s s.heap → ∀ H : Heap, s.heap = H → HM D M H → va_S (fun _ => False) s.heap H [] →
      ∀ ls : Array Slot, lv_has ls n (lv_args 0 av) → W p l e (rmD d 1 6) s m args below meth c H [] 0 0 (vx_MQ below (fun _ _ _ _ => False) (XCf D M E) args s 1 6 (fun _ => False)) (F0 m 0 ls [])) :
    Xt l y cc n ret d D cI cJ av M E := by
  refine vx_ofW (cc := cc) (maxL := n) (ret := ret) hy rfl ?_
  intro p e s m args below meth c s₁ B hml ht hv
  obtain ⟨rfl, ⟨hK, hM⟩, hX⟩ := hv
  have hts := atoms_spec (ws := wsA y cc n ret) B.pre
  rw [lg_entry_eq]
  exact body p e s m _ below meth c B.exec B.bytes hml (findClass_of_methodNamed B.named) (fun w h => hts w (List.mem_cons_of_mem _ h)) B.notSynchronized ht hK hX _ rfl hM va_S.rf _ (lv_entry av hn)
theorem HM.ext {D : va_G} {M : MP} {H H1 : Heap} (h : HM D M H) (hq : ∀ q : Nat, q < H.size → H1[q]? = H[q]?) : HM D M H1 := fun a e ha => (h a e ha).kept (hq a (h.lt ha))
section XROWS
variable {p : Program} {l : Launch} {e : Env} {R : Room} {s : State} {m : MethodId} {args : Array Value} {below : List Frame} {meth : Method} {c : Code} {H : Heap} {locs : List Loc} {cells slots : Nat} {Q : State → Prop}
variable {cc : ByteArray} {pc : Nat} {ls : Array Slot} {rest : List Value} {D : va_G} {cI cJ : ClassId} {M : MP} {A : Nat → Prop} {H0 : Heap}
theorem xt_hx {E : String} (hM : HM D M H) (hS : va_S (fun _ => False) s.heap H locs) : ∀ t : State, s.vm.Alike t.vm → H.size ≤ t.heap.size → (∀ q : Nat, q < H.size → t.heap[q]? = H[q]?) → XCf D M E E s t := fun t _ h1 h2 =>
  ⟨(), trivial, ⟨rfl, hM.ext h2⟩, Nat.le_trans hS.1 h1, fun q q1 q2 => (h2 q (Nat.lt_of_lt_of_le q1 hS.1)).trans (hS.2.1 q q1 q2)⟩
/-- 'throw new E("text")' -/
theorem xt_throw {d n9 : Nat} {E text : String} {ik is ic : Nat} (hx : p.tables.exec = Jvm.exec) (hb : c.code = cc) (hml : c.maxLocals = n9) (hl : l.stackTraces = false) (hown : s.vm.findClass RX3 = some m.cls) (hE : Bundle.fit E = true) (hk : (Cond.classLink RX3 ik E).before args s = true) (hini : (Cond.initialized E).before args s = true) (hat : ∀ w ∈ vx_atS RX3 ic E xNM, w.before args s = true) (hgood : ∀ w ∈ Cond.classLink RX3 ik E :: Cond.initialized E :: vx_atS RX3 ic E xNM, vx_ot w = true) (hX : KXA (fun _ => False) s s.heap) (hstr : (is, text) ∈ XS) (hM : HM D M H) (hS : va_S (fun _ => False) s.heap H locs) (hlk : meth.locks = false) (ht : ∀ x ∈ c.exceptionTable.toList, False) (hsz : ls.size = n9) (hd : 6 ≤ d)
    (d0 : decode cc pc = .ok (.new ik, 3)) (d3 : decode cc (pc + 3) = .ok (.dup, 1)) (d4 : decode cc (pc + 4) = .ok (.ldc is, 2)) (d6 : decode cc (pc + 6) = .ok (.invokespecial ic, 3)) (d9 : decode cc (pc + 9) = .ok (.athrow, 1)) : W p l e (rmD d 1 6) s m args below meth c H locs 0 0 (vx_MQ below (fun _ _ _ _ => False) (XCf D M E) args s 1 6 (fun _ => False)) (F0 m pc ls []) := by
  obtain ⟨sa, hz⟩ := hX.2.2.1 _ hstr
  exact vx_throwS (names := xNM) (sa := sa) hx hb hl hown hE (by decide +kernel) hk hini hz hat hgood hX.2.2.2.1 hX.2.2.2.2 hS (hsz.trans hml.symm) d0 d3 d4 d6 d9 (fun x h => (ht x h).elim) (by show 2 + 3 < d; omega) (by show 0 + (13 * (2 + 1) + 43) ≤ 40 * d; omega) (Nat.le_refl _) (Nat.le_refl _) hlk (xt_hx hM hS) hS.2.2 (Nat.le_refl _) (Nat.le_refl _)
theorem xt_throwW {d n9 : Nat} {E text : String} {ik is ic : Nat} (hx : p.tables.exec = Jvm.exec) (hb : c.code = cc) (hml : c.maxLocals = n9) (hl : l.stackTraces = false) (hown : s.vm.findClass RX3 = some m.cls) (hE : Bundle.fit E = true) (hk : (Cond.classLink RX3 ik E).before args s = true) (hini : (Cond.initialized E).before args s = true) (hat : ∀ w ∈ vx_atS RX3 ic E xNM, w.before args s = true) (hgood : ∀ w ∈ Cond.classLink RX3 ik E :: Cond.initialized E :: vx_atS RX3 ic E xNM, vx_ot w = true) (hX : KXA (fun _ => False) s s.heap) (hstr : (is, text) ∈ XS) (hM : HM D M H) (hS : va_S (fun _ => False) s.heap H locs) (hlk : meth.locks = false) (ht : ∀ x ∈ c.exceptionTable.toList, False) (hsz : ls.size = n9) (hd : 6 ≤ d)
    (d0 : decode cc pc = .ok (.new ik, 3)) (d3 : decode cc (pc + 3) = .ok (.dup, 1)) (d4 : decode cc (pc + 4) = .ok (.ldc_w is, 3)) (d6 : decode cc (pc + 7) = .ok (.invokespecial ic, 3)) (d9 : decode cc (pc + 10) = .ok (.athrow, 1)) : W p l e (rmD d 1 6) s m args below meth c H locs 0 0 (vx_MQ below (fun _ _ _ _ => False) (XCf D M E) args s 1 6 (fun _ => False)) (F0 m pc ls []) := by
  obtain ⟨sa, hz⟩ := hX.2.2.1 _ hstr
  exact vx_throwSW (names := xNM) (sa := sa) hx hb hl hown hE (by decide +kernel) hk hini hz hat hgood hX.2.2.2.1 hX.2.2.2.2 hS (hsz.trans hml.symm) d0 d3 d4 d6 d9 (fun x h => (ht x h).elim) (by show 2 + 3 < d; omega) (by show 0 + (13 * (2 + 1) + 43) ≤ 40 * d; omega) (Nat.le_refl _) (Nat.le_refl _) hlk (xt_hx hM hS) hS.2.2 (Nat.le_refl _) (Nat.le_refl _)
/-- a call that throws -/
theorem xt_go {E : String} {st0 : List Value} (hr : vx_Run p l e R s m args below meth c H locs cells slots 1 6 (F0 m pc ls st0) rest (fun _ _ _ => False) (XCf D M E) (fun _ => False)) (hS : va_S A H0 H locs)
    (kx : ∀ (ce : Cell) (q9 : Addr) (H1 : Heap) (locs1 : List Loc), HM D M H1 → va_S A H0 H1 locs1 → H.size ≤ H1.size → H1[q9]? = some ce → ce.vm = .none → s.vm.findClass E = some ce.cls → vx_W p l e R s m args below meth c H1 locs1 (cells + 1) (slots + 6) Q (F0 m pc ls rest) q9) : W p l e R s m args below meth c H locs cells slots Q (F0 m pc ls st0) := by
  intro T hT X
  rcases hr T hT X with ⟨v, st₀, t, T', L, h0, X', hL, e1, e2, hq, st⟩ | ⟨q, st₀, t, T', L, E', ce, h0, X', hL, e1, e2, ⟨u, hp, ⟨hE, hM⟩, hF⟩, hce, hcv, hcl, st⟩
  · exact hq.elim
  · subst hE
    obtain ⟨k1, k2, k3⟩ := vx_keep h0 e1 hS (A1 := fun _ => False) (free := fun _ => False) (fun _ _ z => z.elim) (fun _ z => z.elim) hL hF
    obtain ⟨t2, a1, b1⟩ := kx ce q T'.heap (locs ++ L) (by rw [e1]; exact hM) k3 k1 (by rw [e1]; exact hce) hcv hcl T' rfl X'
    exact ⟨t2, st.trans a1, b1⟩
/-- it is not caught here -/
theorem xt_pass {d : Nat} {E : String} {ce : Cell} {q9 : Addr} (ht : ∀ x ∈ c.exceptionTable.toList, False) (hlk : meth.locks = false) (hM : HM D M H) (hS : va_S (fun _ => False) s.heap H locs) (hce : H[q9]? = some ce) (hcv : ce.vm = .none) (hcl : s.vm.findClass E = some ce.cls) (hc : cells ≤ 1) (hs : slots ≤ 6) : vx_W p l e (rmD d 1 6) s m args below meth c H locs cells slots (vx_MQ below (fun _ _ _ _ => False) (XCf D M E) args s 1 6 (fun _ => False)) (F0 m pc ls rest) q9 :=
  vx_out (fun x h => (ht x h).elim) hlk hce hcv hcl (fun t h1 h2 => ⟨(), trivial, ⟨rfl, by rw [h1]; exact hM⟩, by rw [h1]; exact hS.1, fun q q1 q2 => by rw [h1]; exact hS.2.1 q q1 q2⟩) hS.2.2 hc hs
theorem xt_runS {own : String} {idx n' d' k nL : Nat} {y : MethodName} {cc' : ByteArray} {ret' : Option FieldType} {As st0 : List Value} {E : String} (hx : p.tables.exec = Jvm.exec) (hb : c.code = cc) (hml : c.maxLocals = nL) (hown : s.vm.findClass own = some m.cls) (hts : ∀ w ∈ AW, w.before args s = true) (hK : KF D cI cJ s) (hX : KXA A s s.heap) (hM : HM D M H) (hS : va_S A s.heap H locs) (ok : okS own idx y cc' n' ret' k) (hC : Xt l y cc' n' ret' d' D cI cJ As M E)
    (hk : As.length = k) (hR : d' + 1 ≤ R.frames ∧ 8 + (n' + 11) + 40 * d' ≤ R.locals) (hsz : ls.size = nL) (hst : st0 = As.reverse ++ rest) (hrm : (rest.map fun v => v.category).sum ≤ 8) (hdg : decode cc pc = .ok (.invokestatic idx, 3)) (hf : cells + 1 ≤ R.cells ∧ slots + 6 ≤ R.slots) : vx_Run p l e R s m args below meth c H locs cells slots 1 6 (F0 m pc ls st0) rest (fun _ _ _ => False) (XCf D M E) (fun _ => False) :=
  vx_runS (As := As) (rest := rest) ⟨hx, hb, hml, hown, hts⟩ hC (va_cwS k hts ok.1 rfl rfl rfl ok.2 hR) ⟨PcX.blind, fun U hU hW => ⟨rfl, ⟨hK.warm hW, by rw [hU]; exact hM⟩, by rw [hU]; exact hX.go hS hW⟩⟩ rfl hk hsz hst (lv_room hrm) hdg hf
theorem xt_runV {own : String} {idx n' d' k nL b ci : Nat} {y : MethodName} {cc' : ByteArray} {ret' : Option FieldType} {As st0 fs : List Value} {q : vw_C} {E : String} (hx : p.tables.exec = Jvm.exec) (hb : c.code = cc) (hml : c.maxLocals = nL) (hown : s.vm.findClass own = some m.cls) (hts : ∀ w ∈ AW, w.before args s = true) (hK : KF D cI cJ s) (hX : KXA A s s.heap) (hM : HM D M H) (hS : va_S A s.heap H locs) (ok : okV own idx y cc' n' ret' k) (hC : Xt l y cc' n' ret' d' D cI cJ (.ref b :: As) M E) (he : M b = some (.inr (ci, fs))) (hq : vwCl[ci]? = some q) (hqy : q.1 = y.cls)
    (hk : As.length = k) (hR : d' + 1 ≤ R.frames ∧ 8 + (n' + 11) + 40 * d' ≤ R.locals) (hsz : ls.size = nL) (hst : st0 = As.reverse ++ .ref b :: rest) (hrm : (rest.map fun v => v.category).sum ≤ 8) (hdg : decode cc pc = .ok (.invokevirtual idx, 3)) (hf : cells + 1 ≤ R.cells ∧ slots + 6 ≤ R.slots) : vx_Run p l e R s m args below meth c H locs cells slots 1 6 (F0 m pc ls st0) rest (fun _ _ _ => False) (XCf D M E) (fun _ => False) := by
  have hrv := va_recv hK.1 (hM.one he) (q0 := 0) hq rfl
  rw [hqy] at hrv
  exact vx_runV (As := As) (rest := rest) ⟨hx, hb, hml, hown, hts⟩ hC (cwV k hts ok.1 rfl rfl rfl ⟨rfl, ok.2⟩ hR) ⟨PcX.blind, hrv, fun U hU hW => ⟨rfl, ⟨hK.warm hW, by rw [hU]; exact hM⟩, by rw [hU]; exact hX.go hS hW⟩⟩ rfl hk hsz hst (lv_room hrm) hdg hf
end XROWS
