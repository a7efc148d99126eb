/-! ===== the law's start ===== -/
theorem lk_arrI {args : Array Value} {s : State} (h : (Cond.arrayClass .int).before args s = true) : ∃ cI : ClassId, ArrOfT s cI .int ∧ va_RA s cI .int := by
  obtain ⟨cA, kA, comp, h1, h2, h3⟩ := Cond.arrayClass_spec h
  exact ⟨cA, fun n z => ⟨fun k h => (by cases h), kA, h2, comp, h3⟩, h1⟩
theorem lk_arrJ {args : Array Value} {s : State} (h : (Cond.arrayClass .long).before args s = true) : ∃ cI : ClassId, ArrOfT s cI .long ∧ va_RA s cI .long := by
  obtain ⟨cA, kA, comp, h1, h2, h3⟩ := Cond.arrayClass_spec h
  exact ⟨cA, fun n z => ⟨fun k h => (by cases h), kA, h2, comp, h3⟩, h1⟩
theorem lk_nest1 : Cond.methodLinkNest RX1 53 yX3_bit RX3 ∈ lw_tbl := by decide +kernel
theorem lk_nest2 : Cond.methodLinkNest RX2 39 yX3_bit RX3 ∈ lw_tbl := by decide +kernel
theorem lk_nest3 : Cond.methodLinkNest RX2 43 yX3_has RX3 ∈ lw_tbl := by decide +kernel
theorem lk_nest4 : Cond.methodLinkNest RX1 49 yX3_has RX3 ∈ lw_tbl := by decide +kernel
theorem lk_KF {b : Nat} {s : State} (hts0 : ∀ w ∈ lw_tbl, w.before #[Value.ref b] s = true) : ∃ (D : va_G) (cI cJ : ClassId), KF D cI cJ s := by
  have hts : ∀ w ∈ AW, w.before #[Value.ref b] s = true := fun w h => hts0 w (List.mem_filter.mp h).1
  obtain ⟨c0, i0, k0⟩ := u_known (C := RX0) (T := TX0) (N := 7) (n := 7) hts inX0 (hts _ qw_1_29)
  obtain ⟨c1, i1, k1⟩ := u_known (C := RX1) (T := TX1) (N := 5) (n := 5) hts inX1 (hts _ qw_1_35)
  obtain ⟨c2, i2, k2⟩ := u_known (C := RX3) (T := TX3) (N := 4) (n := 4) hts inX3 (hts _ qw_1_21)
  obtain ⟨c3, i3, k3⟩ := u_known (C := RX4) (T := TX4) (N := 11) (n := 11) hts inX4 (hts _ qw_3_209)
  obtain ⟨cI, aI, rI⟩ := lk_arrI (hts _ qw_1_61)
  obtain ⟨cJ, aJ, rJ⟩ := lk_arrJ (hts _ qw_1_60)
  refine ⟨(fun k => if k = 0 then c0 else if k = 1 then c1 else if k = 2 then c2 else c3, fun k => if k = 0 then i0 else if k = 1 then i1 else if k = 2 then i2 else i3), cI, cJ, ⟨fun k q hq => ?_, fun k q hq => ?_⟩, va_Nw.of rfl (hts0 _ lk_nest1), va_Nw.of rfl (hts0 _ lk_nest2), va_Nw.of rfl (hts0 _ lk_nest3), va_Nw.of rfl (hts0 _ lk_nest4)⟩
  · match k, hq with
    | 0, hq => cases hq; exact k0
    | 1, hq => cases hq; exact k1
    | 2, hq => cases hq; exact k2
    | 3, hq => cases hq; exact k3
    | k + 4, hq => simp [vwCl] at hq
  · match k, hq with
    | 0, hq => cases hq; exact ⟨aI, rI⟩
    | 1, hq => cases hq; exact ⟨aJ, rJ⟩
    | k + 2, hq => simp at hq
theorem lk_w1 : ∀ w ∈ XW, w ∈ lw_tbl := by
  intro w h
  unfold XW at h
  simp only [List.mem_cons, List.not_mem_nil, or_false] at h
  rcases h with rfl | rfl | rfl | rfl | rfl | rfl | rfl <;> decide +kernel
theorem lk_w2 : ∀ q ∈ XS, Cond.stringRef RX3 q.1 q.2 ∈ lw_tbl := by
  intro w h
  unfold XS at h
  simp only [List.mem_cons, List.not_mem_nil, or_false] at h
  rcases h with rfl | rfl | rfl | rfl | rfl | rfl | rfl | rfl | rfl | rfl | rfl <;> decide +kernel
theorem lk_w3 : Cond.laysStatic Bundle.tN "UNASSIGNED_STACK" Bundle.steD ∈ lw_tbl := by decide +kernel
theorem lk_w4 : Cond.laysStatic Bundle.tN "SUPPRESSED_SENTINEL" Bundle.listD ∈ lw_tbl := by decide +kernel
theorem lk_w5 : Cond.laysStatic RX3 "FIRST_RANK" "[I" ∈ lw_tbl := by decide +kernel
theorem lk_KXA {b : Nat} {s : State} {A : Nat → Prop} (hts0 : ∀ w ∈ lw_tbl, w.before #[Value.ref b] s = true) (hgv : (Jvm.Cond.and given_1 narrow_1).before #[Value.ref b] s = true) (hA : ∀ a : Nat, a < s.heap.size → ¬ A a) : KXA A s s.heap := by
  have hq := flat_of_before _ hgv
  have hts : ∀ w ∈ AW, w.before #[Value.ref b] s = true := fun w h => hts0 w (List.mem_filter.mp h).1
  refine ⟨fun w hw => ?_, fun q hw => ?_, fun q hw => ?_, ?_, ?_⟩
  · have h := hts0 w (lk_w1 w hw)
    unfold XW at hw
    simp only [List.mem_cons, List.not_mem_nil, or_false] at hw
    rcases hw with rfl | rfl | rfl | rfl | rfl | rfl | rfl <;> exact va_Nw.of rfl h
  · unfold XN at hw
    simp only [List.mem_cons, List.not_mem_nil, or_false] at hw
    rcases hw with rfl | rfl | rfl | rfl
    · exact va_Nc.of (hq (Cond.not (Cond.castable xIA xIO)) (by decide +kernel))
    · exact va_Nc.of (hq (Cond.not (Cond.castable xIS xIO)) (by decide +kernel))
    · exact va_Nc.of (hq (Cond.not (Cond.castable xIS xIA)) (by decide +kernel))
    · exact va_Nc.of (hq (Cond.not (Cond.castable xNS xIO)) (by decide +kernel))
  · have h1 := hts0 _ (lk_w2 q hw)
    have h2 : (Cond.exactly (Term.string RX3 q.1) "java/lang/String").before #[Value.ref b] s = true := by
      unfold XS at hw
      simp only [List.mem_cons, List.not_mem_nil, or_false] at hw
      rcases hw with rfl | rfl | rfl | rfl | rfl | rfl | rfl | rfl | rfl | rfl | rfl <;> exact hq _ (by decide +kernel)
    obtain ⟨a, -, -, -, ha, -⟩ := Cond.exactly_spec h2
    exact ⟨a, vk_R.of h1 ha⟩
  · exact vx_Zqof (hts0 _ lk_w3) (hts _ qw_1_8) (hq _ (by decide +kernel)) hA
  · exact vx_Zqof (hts0 _ lk_w4) (hts _ qw_1_8) (hq _ (by decide +kernel)) hA
theorem lk_FR {b : Nat} {s : State} {A : Nat → Prop} (hts0 : ∀ w ∈ lw_tbl, w.before #[Value.ref b] s = true) (hgv : (Jvm.Cond.and given_1 narrow_1).before #[Value.ref b] s = true) (hA : ∀ a : Nat, a < s.heap.size → ¬ A a) : ∃ fr : Nat, va_Z RX3 "FIRST_RANK" "[I" (.ref fr) A s s.heap ∧ va_T .int fr 8 (fun j => .int (mOrd j)) A s s.heap := by
  have hq := flat_of_before _ hgv
  have hts : ∀ w ∈ AW, w.before #[Value.ref b] s = true := fun w h => hts0 w (List.mem_filter.mp h).1
  have hel : ∀ j : Nat, j < 8 → (Term.elem (Term.static RX3 "FIRST_RANK" "[I") (.int (Int32.ofNat j))).eval #[Value.ref b] s none [] s = some (.int (mOrd j)) := by
    intro j hj
    rcases (show j = 0 ∨ j = 1 ∨ j = 2 ∨ j = 3 ∨ j = 4 ∨ j = 5 ∨ j = 6 ∨ j = 7 by omega) with rfl | rfl | rfl | rfl | rfl | rfl | rfl | rfl <;> exact va_eqt (hq _ (by decide +kernel))
  obtain ⟨t, h1, h2⟩ := va_Tof (tm := Term.static RX3 "FIRST_RANK" "[I") (ty := .int) (N := 8) (f := fun j => .int (mOrd j)) (by decide) (hq (Cond.arrayOf (Term.static RX3 "FIRST_RANK" "[I") .int) (by decide +kernel)) (va_eqt (hq (Cond.eq (Term.length (Term.static RX3 "FIRST_RANK" "[I")) (Term.int 8)) (by decide +kernel))) hel hA
  exact ⟨t, va_Zref (hts0 _ lk_w5) (hts _ qw_1_1) h1 hA, h2⟩
section LKI
variable {p : Program} {l : Launch} {e : Env} {R : Room} {s : State} {m : MethodId} {args : Array Value} {below : List Frame} {meth : Method} {c : Code} {H : Heap} {locs : List Loc} {cells slots : Nat}
variable {cc : ByteArray} {pc : Nat} {ls : Array Slot} {rest : List Value} {D : va_G} {cI cJ : ClassId} {M : MP} {A : Nat → Prop}
theorem wrz_runI {own : String} {idx n' d' k nL b mc ms : Nat} {y : MethodName} {cc' : ByteArray} {As st0 : List Value} {v : Option Value} {Rm : MP → Prop} (hx : p.tables.exec = Jvm.exec) (hb : c.code = cc) (hml : c.maxLocals = nL) (hown : s.vm.findClass own = some m.cls) (hts : ∀ w ∈ AW, w.before args s = true) (hK : KF D cI cJ s) (hM : HM D M H) {fr : Nat} (hZ : va_Z RX3 "FIRST_RANK" "[I" (.ref fr) A s H) (hT : va_T .int fr 8 (fun j => .int (mOrd j)) A s H) (ok : okI own idx y cc' n' k) (hC : WrZ l y cc' n' none d' mc ms D cI cJ (.ref b :: As) M H.size A v Rm)
    (hk : As.length = k) (hR : d' + 1 ≤ R.frames ∧ 8 + (n' + 11) + 40 * d' ≤ R.locals) (hsz : ls.size = nL) (hst : st0 = As.reverse ++ .ref b :: rest) (hrm : (rest.map fun v => v.category).sum ≤ 8) (hdg : decode cc pc = .ok (.invokespecial idx, 3)) (hf : cells + mc ≤ R.cells ∧ slots + ms ≤ R.slots) : va_Run p l e R s m args below meth c H locs cells slots mc ms (F0 m pc ls st0) rest (wQ D v Rm A (Value.ref b :: As).toArray) A :=
  va_runI (As := As) (rest := rest) ⟨hx, hb, hml, hown, hts⟩ hC (cwI k hts ok.1 rfl rfl rfl (hts _ ok.2.1) (hts _ ok.2.2.1) (hts _ ok.2.2.2.1) ok.2.2.2.2.1 ok.2.2.2.2.2 hR) ⟨PcZ.blind, fun U hU hW => ⟨rfl, ⟨by rw [hU], hK.warm hW, by rw [hU]; exact hM⟩, fr, by rw [hU]; exact va_Z.moved hW.alike hZ, by rw [hU]; exact va_T.moved hW.alike hT⟩⟩ rfl hk hsz hst (lv_room hrm) hdg hf
end LKI
/-- both games as they are made -/
theorem gi_made {cI cJ : ClassId} {M1 M2 : MP} {A : Nat → Prop} {b L q1 q2 q3 : Nat} {xs : Nat → Int32} {Ma : MP} {x : va_E} (hG : GameMade cI cJ Ma M1 A q1) (hA1 : A q1) (h2 : M1 q2 = none) (hA2 : A q2) (hR : MoMade cI (mu M1 q2 x) M2 A q2) (h3 : M2 q3 = none) (hA3 : A q3) (hbA : ¬ A b) : GI cI cJ A b L xs q1 q2 q3 0 (mu M2 q3 (eJ cJ 1 (fun _ => bL 0#64))) (2 * 2336) := by
  obtain ⟨fp, po, okk, pt, tr, tok, tpt, g1, g2, ⟨g3, g4, g5⟩, ⟨g6, g7, g8⟩, ⟨a1, a2, a3, a4, a5, a6, a7⟩, ⟨n1, n2, n3⟩, -⟩ := hG
  obtain ⟨ro, no, fi, se, t3, le, od, rwv, f1, f2, f3, lf, hm, hL, hrow, hk, b1, b2, b3, b4, b5, -⟩ := hR
  have lift : ∀ a e, M1 a = some e → mu M2 q3 (eJ cJ 1 (fun _ => bL 0#64)) a = some e := fun a e h => by
    have z1 : a ≠ q2 := ne_none h h2
    have z2 : M2 a = some e := hk a e ((mu_n z1).trans h) z1
    exact (mu_n (ne_none z2 h3)).trans z2
  have lift2 : ∀ a e, M2 a = some e → mu M2 q3 (eJ cJ 1 (fun _ => bL 0#64)) a = some e := fun a e h => (mu_n (ne_none h h3)).trans h
  rw [ini_out mIni] at hm
  obtain ⟨m1, m2, m3, m4, m5, m6, m7, m8⟩ := hm
  refine ⟨tr, tok, tpt, 0, 1, false, fun _ => fp, fun _ => po, fun _ => okk, fun _ => pt, fun _ => iniK 8, fun _ => iniP, fun _ => iniW 8, fun _ => iniB 8, fun _ => true, fun _ => 0, fun _ => 0, fun _ => 0, ro, no, fi, se, t3, le, od, 0, 0, 2336, rwv, mIni, ⟨⟨lift _ _ g1, ⟨fun i hi => ?_, fun i hi => ⟨lift _ _ g3, lift _ _ g4, lift _ _ g5⟩, fun i j hi hj hij => absurd (show i = j by omega) hij⟩, ⟨_, _, _, _, _, lift _ _ g6, lift _ _ g7, lift _ _ g8⟩, fun i hi => ⟨n1.symm, n2.symm, n3.symm⟩, fun q hq => ?_⟩, ⟨⟨f1, f2, f3, lf, ⟨lift2 _ _ m1, lift2 _ _ m2, lift2 _ _ m3, lift2 _ _ m4, lift2 _ _ m5, lift2 _ _ m6, lift2 _ _ m7, m8⟩, hL⟩, fun q hq => ?_, by decide, by decide, by decide⟩, ⟨xs, by funext j; split <;> rfl⟩, hbA, ⟨fun _ => 0#64, mu_s⟩, hA3⟩, ps_init hrow, Nat.le_refl _, rfl⟩
  · have e : i = 0 := by omega
    subst e
    exact lift _ _ g2
  · rcases hq with (rfl | ⟨i, hi, rfl | rfl | rfl | rfl⟩) | rfl | rfl | rfl
    · exact hA1
    · exact a1.2
    · exact a2.2
    · exact a3.2
    · exact a4.2
    · exact a5.2
    · exact a6.2
    · exact a7.2
  · rcases hq with rfl | rfl | rfl | rfl | rfl | rfl
    · exact hA2
    · exact b1.2
    · exact b2.2
    · exact b3.2
    · exact b4.2
    · exact b5.2
theorem okI_RL_80_X3_init : okI RL 80 yX3_init cX3_init 3 0 := okI_of qw_1_22 qw_1_23 qw_1_1 qw_1_24 rfl (by decide +kernel)
theorem okI_RL_83_X4_init : okI RL 83 yX4_init cX4_init 2 0 := okI_of qw_3_210 qw_3_211 qw_1_5 qw_3_212 rfl (by decide +kernel)
set_option maxHeartbeats 4000000 in
set_option maxRecDepth 100000 in
/-- YOUR PART: from the entry, for every script of at most 2048 ints, the law comes to its end with true ('hflags': the launch's flags, for a law that throws: no stack traces) -/
theorem whole_start {p : Program} {e : Env} {s : State} {m : MethodId} {below : List Frame} {meth : Method} {c : Code} (l : Launch) (hflags : l.flags = flags0) {b L : Nat} {xs : Nat → Int32} (hL : L ≤ 2048) (C0 : lw_At p s m meth c b L xs) : W p l e room_1 s m #[Value.ref b] below meth c s.heap [] 0 0 (lw_Z below #[Value.ref b] s) (entryFrame m ([Value.ref b] : List Value).toArray 9) := by
  obtain ⟨hx, hb, hr, hml, hown, hts0, hXv, hbl, hlocks, hgv⟩ := id C0
  have hown : s.vm.findClass RL = some m.cls := hown
  have hb : c.code = cL_law := hb
  have hts : ∀ w ∈ AW, w.before #[Value.ref b] s = true := fun w h => hts0 w (List.mem_filter.mp h).1
  have hl9 : l.stackTraces = false := by unfold Launch.stackTraces; rw [hflags]; decide +kernel
  obtain ⟨D, cI, cJ, hK⟩ := lk_KF hts0
  have hA9 : ∀ a : Nat, a < s.heap.size → ¬ (fun q : Nat => s.heap.size ≤ q) a := fun a h => Nat.not_le.mpr h
  have hAn : ∀ q : Nat, s.heap.size ≤ q → (fun q : Nat => s.heap.size ≤ q) q := fun _ h => h
  have hbA : ¬ (fun q : Nat => s.heap.size ≤ q) b := Nat.not_le.mpr hbl
  have hX := lk_KXA (A := fun q : Nat => s.heap.size ≤ q) hts0 hgv hA9
  obtain ⟨fr, hZ, hT⟩ := lk_FR (A := fun q : Nat => s.heap.size ≤ q) hts0 hgv hA9
  have hd0 := Drawn.sameBut.refl s.drawn lw_cs
  have hS : va_S (fun q : Nat => s.heap.size ≤ q) s.heap s.heap [] := va_S.rf
  have hM : HM D (fun _ => none) s.heap := fun a x h => by cases h
  have hl := lv_entry ([.ref b]) (n := 9) (Nat.le_of_ble_eq_true rfl)
  rw [lg_entry_eq]
  generalize (lg_sl ([.ref b]) ++ List.replicate (9 - (lg_sl ([.ref b])).length) Slot.unset).toArray = ls at hl ⊢
  have hl : lv_has ls 9 [(0, .ref b)] := hl
  refine w_new (C := RX3) (T := TX3) (N := 4) (ci := 2) (fs := [.null, .null, .null, .int (bI false)]) hx hb hts hown hK hM hS hAn inX3 rfl tyX3 tyX3_ok qw_1_20 qw_1_21 qw_1_1 (fun j hj => by rcases (show j = 0 ∨ j = 1 ∨ j = 2 ∨ j = 3 by omega) with rfl | rfl | rfl | rfl <;> rfl) (by show 0 + 1 ≤ 601024; omega) (by show 0 + 4 ≤ 7293034; omega) dL_law_0 (fun q1 H1 hq1 hMq1 hAq1 hqa1 hM hS => ?_)
  refine lv_dup hx hb dL_law_3 rfl ?_
  have hk1 : ∀ a : Nat, a < s.heap.size → ¬ (fun q : Nat => s.heap.size ≤ q) a → H1[a]? = s.heap[a]? := hS.2.1
  refine wr_go (wrz_runI (As := []) (rest := [.ref q1]) hx hb hml hown hts hK hM (va_Z.kept hZ hk1) (va_T.kept hT hk1) okI_RL_80_X3_init (met_X3_init l q1 mu_s hAq1 (fun q hq => hAn q (Nat.le_trans hS.1 hq))) rfl ⟨by show 8 + 1 ≤ 13; omega, by show 8 + (3 + 11) + 40 * 8 ≤ 500; omega⟩ hl.1 rfl (Nat.le_of_ble_eq_true rfl) dL_law_4 ⟨by show 0 + 1 + 7 ≤ 601024; omega, by show 0 + 4 + 159 ≤ 7293034; omega⟩) hS (fun M1 H2 locs2 hR1 hHs1 hM hS => ?_)
  refine lv_astore_n (lv' := [(1, .ref q1), (0, .ref b)]) hx hb dL_law_7 rfl hl (by decide) rfl (fun ls hl => ?_)
  refine w_new (C := RX4) (T := TX4) (N := 11) (ci := 3) (fs := [.int (nI 0), .int (bI false), .null, .int (nI 0), .int (nI 0), .null, .null, .null, .null, .null, .null]) hx hb hts hown hK hM hS hAn inX4 rfl tyX4 tyX4_ok qw_3_208 qw_3_209 qw_1_5 (fun j hj => by rcases (show j = 0 ∨ j = 1 ∨ j = 2 ∨ j = 3 ∨ j = 4 ∨ j = 5 ∨ j = 6 ∨ j = 7 ∨ j = 8 ∨ j = 9 ∨ j = 10 by omega) with rfl | rfl | rfl | rfl | rfl | rfl | rfl | rfl | rfl | rfl | rfl <;> rfl) (by show 0 + 1 + 7 + 1 ≤ 601024; omega) (by show 0 + 4 + 159 + 11 ≤ 7293034; omega) dL_law_8 (fun q2 H3 hq2 hMq2 hAq2 hqa2 hM hS => ?_)
  refine lv_dup hx hb dL_law_11 rfl ?_
  refine wr_go (wr_runI (As := []) (rest := [.ref q2]) hx hb hml hown hts hK hM okI_RL_83_X4_init (met_X4_init l q2 mu_s hAq2 (fun q hq => hAn q (Nat.le_trans hS.1 hq))) rfl ⟨by show 10 + 1 ≤ 13; omega, by show 8 + (2 + 11) + 40 * 10 ≤ 500; omega⟩ hl.1 rfl (Nat.le_of_ble_eq_true rfl) dL_law_12 ⟨by show 0 + 1 + 7 + 1 + 7 ≤ 601024; omega, by show 0 + 4 + 159 + 11 + 7024 ≤ 7293034; omega⟩) hS (fun M2 H4 locs4 hR2 hHs2 hM hS => ?_)
  refine lv_astore_n (lv' := [(2, .ref q2), (1, .ref q1), (0, .ref b)]) hx hb dL_law_15 rfl hl (by decide) rfl (fun ls hl => ?_)
  refine lv_iconst (v := nI 1) hx hb dL_law_16 (by decide) ?_
  refine w_newJ hx hb hts hK hM hS hAn qw_1_60 1 (by decide) (by show 0 + 1 + 7 + 1 + 7 + 1 ≤ 601024; omega) (by show 0 + 4 + 159 + 11 + 7024 + 1 ≤ 7293034; omega) dL_law_17 (fun q3 H5 hq3 hMq3 hAq3 hqa3 hM hS => ?_)
  refine lv_astore_n (lv' := [(3, .ref q3), (2, .ref q2), (1, .ref q1), (0, .ref b)]) hx hb dL_law_19 rfl hl (by decide) rfl (fun ls hl => ?_)
  refine lv_iconst (v := nI 0) hx hb dL_law_20 (by decide) ?_
  refine lv_istore (lv' := [(4, .int (nI 0)), (3, .ref q3), (2, .ref q2), (1, .ref q1), (0, .ref b)]) hx hb dL_law_21 hl (by decide) rfl (fun ls hl => ?_)
  have hGI := gi_made (b := b) (L := L) (xs := xs) hR1 hAq1 hMq2 hAq2 hR2 hMq3 hAq3 hbA
  refine W.widen (k := 20 + 6 * 0) (n := 8000 + 100 * 0 + 2 * 2336) (by omega) (by omega) ?_
  exact law_loop (xo := q1) (mo := q2) (out := q3) ⟨hx, hb, hml, hown, hts, hK, hX, hl9, hAn, hXv, hbl, hbA⟩ hL (fun cells slots H locs ls hc hs hS => by
    refine lv_iconst (v := 1) hx hb dL_law_1891 (by decide) ?_
    refine W.widen hc hs ?_
    refine va_forget (fun q hq => hS.2.2 q hq) ?_
    refine W.base ?_
    exact lw_ret hd0 hx hb hr hlocks dL_law_1892) 513 0 _ _ H5 _ ls rfl (by omega) hGI hM hS hl
