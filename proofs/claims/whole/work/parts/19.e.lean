theorem nsw_A {A : Nat → Prop} {s : State} {args : Array Value} {H : Heap} (hts : ∀ w ∈ AW, w.before args s = true) (hX : KXA A s H) : ∀ w ∈ Bundle.throwableAtoms.filter vx_no, w.before args s = true := by
  intro w hw
  obtain ⟨hw, hz⟩ := List.mem_filter.mp hw
  simp only [Bundle.throwableAtoms, List.mem_append, List.mem_cons, List.not_mem_nil, or_false, or_assoc] at hw
  rcases hw with rfl | rfl | rfl | rfl | rfl | rfl | rfl | rfl | rfl | rfl | rfl | rfl | rfl | rfl | rfl | rfl | rfl | rfl | rfl | rfl | rfl | rfl | rfl | rfl
  · exact hts _ qw_1_8
  · exact hts _ qw_2_178
  · exact hts _ qw_2_187
  · exact hts _ qw_2_192
  · exact hts _ qw_2_195
  · exact hts _ qw_2_197
  · exact hts _ qw_2_179
  · exact hts _ qw_2_180
  · exact hts _ qw_1_26
  · exact hts _ qw_1_27
  · exact hts _ qw_2_181
  · exact hts _ qw_2_186
  · exact hts _ qw_2_193
  · exact hts _ qw_2_213
  · exact hts _ qw_2_168
  · exact hts _ qw_2_214
  · exact hts _ qw_2_170
  · exact hts _ qw_2_215
  · exact hts _ qw_2_172
  · exact hts _ qw_2_182
  · exact absurd hz (by decide)
  · exact hts _ qw_2_184
  · exact absurd hz (by decide)
  · exact hts _ qw_2_174
theorem nsw_A_g : ∀ w ∈ Bundle.throwableAtoms.filter vx_no, vx_ot w = true := by
  intro w hw
  obtain ⟨hw, hz⟩ := List.mem_filter.mp hw
  simp only [Bundle.throwableAtoms, List.mem_append, List.mem_cons, List.not_mem_nil, or_false, or_assoc] at hw
  rcases hw with rfl | rfl | rfl | rfl | rfl | rfl | rfl | rfl | rfl | rfl | rfl | rfl | rfl | rfl | rfl | rfl | rfl | rfl | rfl | rfl | rfl | rfl | rfl | rfl
  · rfl
  · rfl
  · rfl
  · rfl
  · rfl
  · rfl
  · rfl
  · rfl
  · rfl
  · rfl
  · rfl
  · rfl
  · rfl
  · rfl
  · rfl
  · rfl
  · rfl
  · rfl
  · rfl
  · rfl
  · exact absurd hz (by decide)
  · rfl
  · exact absurd hz (by decide)
  · rfl
theorem nsw_B {A : Nat → Prop} {s : State} {args : Array Value} {H : Heap} (hts : ∀ w ∈ AW, w.before args s = true) (hX : KXA A s H) : ∀ w ∈ Bundle.throwableSAtoms, w.before args s = true := by
  intro w hw
  simp only [Bundle.throwableSAtoms, List.mem_append, List.mem_cons, List.not_mem_nil, or_false, or_assoc] at hw
  rcases hw with rfl | rfl | rfl | rfl
  · exact hts _ qw_2_209
  · exact hts _ qw_2_210
  · exact hts _ qw_2_212
  · exact hts _ qw_2_174
theorem nsw_B_g : ∀ w ∈ Bundle.throwableSAtoms, vx_ot w = true := by
  intro w hw
  simp only [Bundle.throwableSAtoms, List.mem_append, List.mem_cons, List.not_mem_nil, or_false, or_assoc] at hw
  rcases hw with rfl | rfl | rfl | rfl
  · rfl
  · rfl
  · rfl
  · rfl
theorem nsw_C {A : Nat → Prop} {s : State} {args : Array Value} {H : Heap} (hts : ∀ w ∈ AW, w.before args s = true) (hX : KXA A s H) : ∀ w ∈ (Bundle.passSAtoms xNS nsR 13 prog_25_method_4_code), w.before args s = true := by
  intro w hw
  simp only [Bundle.passSAtoms, List.mem_append, List.mem_cons, List.not_mem_nil, or_false, or_assoc] at hw
  rcases hw with rfl | rfl | rfl | rfl | rfl
  · exact hts _ qw_3_86
  · exact hts _ qw_3_87
  · exact hts _ qw_3_88
  · exact hts _ qw_2_203
  · exact va_Nw.use rfl (hX.1 _ (List.mem_of_getElem? (i := 4) rfl))
theorem nsw_C_g : ∀ w ∈ (Bundle.passSAtoms xNS nsR 13 prog_25_method_4_code), vx_ot w = true := by
  intro w hw
  simp only [Bundle.passSAtoms, List.mem_append, List.mem_cons, List.not_mem_nil, or_false, or_assoc] at hw
  rcases hw with rfl | rfl | rfl | rfl | rfl
  · rfl
  · rfl
  · rfl
  · rfl
  · rfl
theorem nsw_D {A : Nat → Prop} {s : State} {args : Array Value} {H : Heap} (hts : ∀ w ∈ AW, w.before args s = true) (hX : KXA A s H) : ∀ w ∈ (Bundle.chainSAtoms nsR [nsE]), w.before args s = true := by
  intro w hw
  simp only [Bundle.chainSAtoms, Bundle.passSAtoms, List.mem_append, List.mem_cons, List.not_mem_nil, or_false, or_assoc] at hw
  rcases hw with rfl | rfl | rfl | rfl | rfl | rfl | rfl | rfl | rfl | rfl
  · exact hts _ qw_2_203
  · exact hts _ qw_2_204
  · exact hts _ qw_2_205
  · exact hts _ qw_2_206
  · exact va_Nw.use rfl (hX.1 _ (List.mem_of_getElem? (i := 5) rfl))
  · exact hts _ qw_2_206
  · exact hts _ qw_2_207
  · exact hts _ qw_2_208
  · exact hts _ qw_2_209
  · exact va_Nw.use rfl (hX.1 _ (List.mem_of_getElem? (i := 6) rfl))
theorem nsw_D_g : ∀ w ∈ (Bundle.chainSAtoms nsR [nsE]), vx_ot w = true := by
  intro w hw
  simp only [Bundle.chainSAtoms, Bundle.passSAtoms, List.mem_append, List.mem_cons, List.not_mem_nil, or_false, or_assoc] at hw
  rcases hw with rfl | rfl | rfl | rfl | rfl | rfl | rfl | rfl | rfl | rfl
  · rfl
  · rfl
  · rfl
  · rfl
  · rfl
  · rfl
  · rfl
  · rfl
  · rfl
  · rfl
section NSROW
variable {p : Program} {l : Launch} {e : Env} {R : Room} {s : State} {m : MethodId} {args : Array Value} {below : List Frame} {meth : Method} {c : Code} {H : Heap} {locs : List Loc}
variable {cc : ByteArray} {pc : Nat} {ls : Array Slot} {D : va_G} {cI cJ : ClassId} {M : MP}
/-- 'throw new NoSuchElementException("text")' -/
theorem xt_throwN {d n9 : Nat} {text : String} {is : Nat} (hx : p.tables.exec = Jvm.exec) (hb : c.code = cc) (hml : c.maxLocals = n9) (hl : l.stackTraces = false) (hown : s.vm.findClass RX3 = some m.cls) (hts : ∀ w ∈ AW, w.before args s = true) (hX : KXA (fun _ => False) s s.heap) (hstr : (is, text) ∈ XS) (hM : HM D M H) (hS : va_S (fun _ => False) s.heap H locs) (hlk : meth.locks = false) (ht : ∀ x ∈ c.exceptionTable.toList, False) (hsz : ls.size = n9) (hd : 6 ≤ d)
    (d0 : decode cc pc = .ok (.new 108, 3)) (d3 : decode cc (pc + 3) = .ok (.dup, 1)) (d4 : decode cc (pc + 4) = .ok (.ldc is, 2)) (d6 : decode cc (pc + 6) = .ok (.invokespecial 112, 3)) (d9 : decode cc (pc + 9) = .ok (.athrow, 1)) : W p l e (rmD d 1 6) s m args below meth c H locs 0 0 (vx_MQ below (fun _ _ _ _ => False) (XCf D M xNS) args s 1 6 (fun _ => False)) (F0 m pc ls []) := by
  obtain ⟨sa, hz⟩ := hX.2.2.1 _ hstr
  intro T hT X
  have htr : e.platform.stackTraces = false := (show e.platform.stackTraces = l.stackTraces by rw [X.admits.platform]).trans hl
  have Y := vx_rebase X (R' := { frames := d, locals := 40 * d, cells := 1, slots := 6 }) (Nat.le_refl _) (Nat.le_refl _) (Nat.le_refl _) (Nat.le_refl _)
  obtain ⟨u, hA⟩ : ∃ z, z = (T.setVm s.vm).setFrames (.invoking m args :: below) := ⟨_, rfl⟩
  rw [← hA] at Y
  have hvm : u.vm = s.vm := by rw [hA]; rfl
  have hhp : u.heap = H := by rw [hA]; exact hT
  have hW0 : s.WarmedH u.vm := by rw [hvm]; exact State.WarmedH.refl s
  have hU : vx_Zq Bundle.tN "UNASSIGNED_STACK" Bundle.steD (fun _ => False) u u.heap := by rw [hhp]; exact vx_Zq.moved hW0.alike (hX.2.2.2.1.kept hS.2.1)
  have hN : vx_Zq Bundle.tN "SUPPRESSED_SENTINEL" Bundle.listD (fun _ => False) u u.heap := by rw [hhp]; exact vx_Zq.moved hW0.alike (hX.2.2.2.2.kept hS.2.1)
  have aw : ∀ {w : Cond}, w ∈ AW → vx_ot w = true → w.before args u = true := fun hw hg => vx_ot_at hW0 hvm.symm hg (hts _ hw)
  have kU := vx_isRefq (args := args) hU.1
  have kN := vx_isRefq (args := args) hN.1
  have hA1 : ∀ w ∈ Bundle.throwableAtoms, w.before args u = true := vx_own (fun w hw => vx_ot_at hW0 hvm.symm (nsw_A_g w hw) (nsw_A hts hX w hw)) kU kN hU.2.word hN.2.word
  have hB1 : ∀ w ∈ Bundle.throwableSAtoms, w.before args u = true := fun w hw => vx_ot_at hW0 hvm.symm (nsw_B_g w hw) (nsw_B hts hX w hw)
  have hC1 : ∀ w ∈ Bundle.passSAtoms xNS nsR 13 prog_25_method_4_code, w.before args u = true := fun w hw => vx_ot_at hW0 hvm.symm (nsw_C_g w hw) (nsw_C hts hX w hw)
  have hD1 : ∀ w ∈ Bundle.chainSAtoms nsR [nsE], w.before args u = true := fun w hw => vx_ot_at hW0 hvm.symm (nsw_D_g w hw) (nsw_D hts hX w hw)
  have hown2 : u.vm.findClass RX3 = some m.cls := by rw [hvm]; exact hown
  obtain ⟨vm1, cX, kX, hfX, hkX, -, -, X1, st1⟩ := Y.newCold hx (own := RX3) (C := xNS) (index := 108) (n := 6) hown2 (aw qw_3_75 rfl) (aw qw_3_76 rfl) (aw qw_1_16 rfl)
    (g := F0 m pc ls []) rfl (by rw [hb]; exact d0) (Nat.le_refl _) (Nat.le_refl _)
  generalize hT1 : (T.setVm vm1).pushCell { cls := cX, slots := kX.instanceTypes.map defaultValue, vm := .none } = T1 at X1 st1
  have hcellA : T1.heap[T.heap.size]? = some (freshCell cX kX) := by rw [← hT1]; exact State.heap_pushCell_size _ _
  have d3b : decode c.code (pc + 3) = .ok (.dup, 1) := by rw [hb]; exact d3
  have d4b : decode c.code (pc + 4) = .ok (.ldc is, 2) := by rw [hb]; exact d4
  have hstr2 : vk_R RX3 is text sa u := vk_R.warm hW0 hz
  obtain ⟨U, hsteps, hrun, hend, hW, hsame, ce, hce, hcc, hcv⟩ := ns_ctor X1 hx htr (ic := 112) hown2 hA1 hB1 hC1 hD1 (aw qw_3_85 rfl) (aw qw_3_76 rfl) (aw qw_3_78 rfl) (aw qw_2_191 rfl) (aw qw_3_79 rfl) (aw qw_3_80 rfl) (aw qw_3_81 rfl) (aw qw_3_82 rfl) kU kN (aw qw_2_177 rfl) (aw qw_2_176 rfl) (aw qw_3_83 rfl)
    hfX hkX hcellA (by rw [hhp, hT]; exact Nat.le_refl _) (msg := .ref sa) rfl
    (g := { method := m, pc := pc + 6, locals := ls, stack := [.ref sa, .ref T.heap.size, .ref T.heap.size], locked := none }) rfl (hsz.trans hml.symm) rfl rfl rfl
    (by rw [hb]; exact d6) (by rw [hb]; exact d9) (fun x h => (ht x h).elim) (by show 5 < d; omega) (by show 2 * 0 + 82 ≤ 40 * d; omega) hlk
  obtain ⟨f1, f2⟩ := vx_frame hsame
  rw [hhp] at f1 f2
  have hWs : s.WarmedH U.vm := State.WarmedH.trans hW0 hW
  have hcl : s.vm.findClass xNS = some ce.cls := by
    rw [hvm] at hfX
    rw [hcc]; exact hfX
  have hall : s.sameButNew ({ U with vm := s.vm } : State) locs 1 6 := by
    subst hA
    obtain ⟨e1, e2⟩ := hsame
    rw [State.setFrames_setFrames] at e1
    have h2 : (T.setVm s.vm).sameButNew ({ U with vm := s.vm } : State) [] (0 + 1) (0 + 6) := ⟨e1, e2⟩
    have h3 := X.same.trans h2
    rw [List.append_nil] at h3
    exact h3.mono (Nat.le_refl _) (Nat.le_refl _)
  refine ⟨U, ?_, .threw T.heap.size, hrun, hend, Or.inr ⟨T.heap.size, rfl, xNS, ce, locs, xt_hx hM hS U hWs.alike f1 (fun q hq => f2 q hq (fun z hz => nomatch hz)), hce, hcv, hcl, hWs, hall, hS.2.2⟩⟩
  refine st1 _ ?_
  show Steps p.tables e below (T1.setTop { method := m, pc := pc + 3, locals := ls, stack := [.ref T.heap.size], locked := none }) _
  jvm_step X1.here [X1.here.top, hx, d3b, Value.category]
  exact X1.ldcString hx (own := RX3) (text := text) (index := is) (a := sa) hown2 hstr2.1 hstr2.2
    (g := { method := m, pc := pc + 4, locals := ls, stack := [.ref T.heap.size, .ref T.heap.size], locked := none }) rfl d4b _ hsteps
end NSROW
