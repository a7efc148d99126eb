theorem okV_RX3_100_X3_verdictNow : okV RX3 100 yX3_verdictNow cX3_verdictNow 3 (some .int) 0 := okV_of qw_3_46 qw_3_48 qw_0_4 qw_1_1 qw_3_49 (by decide +kernel)
theorem okV_RX3_199_X3_isFull : okV RX3 199 yX3_isFull cX3_isFull 1 (some .boolean) 0 := okV_of qw_3_165 qw_3_167 qw_0_6 qw_1_1 qw_3_168 (by decide +kernel)
theorem okV_RX3_204_X3_turnPage : okV RX3 204 yX3_turnPage cX3_turnPage 3 none 0 := okV_of qw_3_170 qw_3_172 qw_0_7 qw_1_1 qw_3_173 (by decide +kernel)
theorem okV_RX3_219_X3_bondRefusal : okV RX3 219 yX3_bondRefusal cX3_bondRefusal 6 (some .int) 2 := okV_of qw_3_181 qw_3_135 qw_3_136 qw_1_1 qw_3_137 (by decide +kernel)
theorem okV_RX3_39_X1_join : okV RX3 39 yX1_join cX1_join 3 none 2 := okV_of qw_1_98 qw_1_99 qw_1_100 qw_1_3 qw_1_101 (by decide +kernel)
set_option maxHeartbeats 4000000 in
set_option maxRecDepth 100000 in
theorem met_X3_bond (l : Launch) {D : va_G} {cI cJ : ClassId} {M : MP} {A : Nat → Prop} {sz : Nat} (xo tr cn N : Nat) (su : Bool) (pa po okk pt : Nat → Nat) (K : Nat → Nat → BitVec 64) (pp : Nat → Nat → Int32) (w bk : Nat → BitVec 64) (wa : Nat → Bool) (ca qu ve : Nat → Nat) (a b : Nat) (hxo : M xo = some (.inr (2, [.ref (pa 0), .ref tr, .ref (pa cn), .int (bI su)]))) (hPs : Pages cI cJ M pa po okk pt K pp w bk wa ca qu ve N) (hcn : cn < N) (hN : N ≤ 514) (hqu : qu cn < 2 ^ 29) (hnu : cn < 512) (hAc : ∀ b, OwC xo pa po okk pt N b → A b) (hW : WfPt (pp cn)) (hN5 : N ≤ 513) (ha : a < 64) (hb2 : b < 64) (hve : ve cn < 2 ^ 31) (hpl : kPl su (ve cn) = true) (hr0 : kBndR (K cn) (pp cn) (w cn) (bk cn) (wa cn) a b = 0) (hA_xo : A xo) (hAn : ∀ q, sz ≤ q → A q) : Wr l yX3_bond cX3_bond 3 (some .int) 7 (tC N cn) (tS N cn) D cI cJ [.ref xo, .int (nI a), .int (nI b)] M sz A (some (.int (nI (mHop a b)))) (fun M' => Acted cI cJ M M' A xo tr cn su pa po okk pt K pp w bk wa ca qu ve N (K cn) (kJoin (pp cn) a b) (w cn) (bk cn) (0) (qu cn + 1)) := by
  refine wr_start (by decide) (Nat.le_of_ble_eq_true rfl) ?_
  intro p e s m args below meth c hx hb hr hml hown hts hlk hini hK hsz H hH0 hM hS ls hl
  rw [← hsz] at hAn
  clear hH0
  have hl : lv_has ls 3 [(0, .ref xo), (1, .int (nI a)), (2, .int (nI b))] := hl
  have hW9 := WfPt_join hW ha hb2
  refine lv_aload_n hx hb dX3_bond_0 rfl (lv_at hl 0 rfl) ?_
  refine lv_iload_n hx hb dX3_bond_1 rfl (lv_at hl 1 rfl) ?_
  refine lv_iload_n hx hb dX3_bond_2 rfl (lv_at hl 2 rfl) ?_
  refine wr_go0 (wr_runV (As := [.int (nI a), .int (nI b)]) (rest := []) hx hb hml hown hts hK hM okV_RX3_219_X3_bondRefusal (met_X3_bondRefusal l xo (pa 0) tr (pa cn) su (pgV pa cn) (afV pa N cn) cn (ca cn) (qu cn) (ve cn) (po cn) (okk cn) (pt cn) (K cn) (pp cn) (w cn) (bk cn) (wa cn) a b hxo (hPs.1 cn hcn) (hPs.2.1 cn hcn).1 (hPs.2.1 cn hcn).2.1 (hPs.2.1 cn hcn).2.2 (by omega) (by omega) (by omega)) hxo rfl rfl rfl ⟨Nat.le_of_ble_eq_true rfl, Nat.le_of_ble_eq_true rfl⟩ hl.1 rfl (Nat.le_of_ble_eq_true rfl) dX3_bond_3 ⟨by show 0 + 0 ≤ tC N cn; omega, by show 0 + 0 ≤ tS N cn; omega⟩) hS (fun M1 H locs hR hM hS => ?_)
  rw [show M1 = M from hR] at hM
  refine topi (nI 0) (by rw [hpl, if_pos rfl, hr0]) ?_
  refine n0_ne (tgt := 16) hx hb 0 (by omega) dX3_bond_6 (by decide) (fun c_6 => ?_) (fun c_6 => ?_)
  · skip
    exfalso; omega
  · skip
    refine lv_aload_n hx hb dX3_bond_9 rfl (lv_at hl 0 rfl) ?_
    refine rd_goI (rd_runV (As := []) (rest := []) hx hb hml hown hts hK hM okV_RX3_199_X3_isFull (met_X3_isFull l xo (pa 0) tr (pa cn) su (pgV pa cn) (afV pa N cn) cn (ca cn) (qu cn) (ve cn) (po cn) hxo (hPs.1 cn hcn) (by omega)) hxo rfl rfl rfl ⟨Nat.le_of_ble_eq_true rfl, Nat.le_of_ble_eq_true rfl⟩ hl.1 rfl (Nat.le_of_ble_eq_true rfl) dX3_bond_10 ⟨by show 0 ≤ tC N cn; omega, by show 0 ≤ tS N cn; omega⟩) ?_
    refine topi (bI false) rfl ?_
    refine zb_eq (tgt := 26) hx hb false dX3_bond_13 (by decide) (fun _ => ?_) (fun h => absurd (h.symm.trans (rfl : false = false)) (by decide))
    refine lv_aload_n hx hb dX3_bond_26 rfl (lv_at hl 0 rfl) ?_
    refine wr_go (wr_runV (As := []) (rest := []) hx hb hml hown hts hK hM okV_RX3_204_X3_turnPage (met_X3_turnPage l xo tr cn N su pa po okk pt K pp w bk wa ca qu ve hxo hPs hcn (by omega) (by omega) hAc (fun q hq => hAn q (Nat.le_trans hS.1 hq))) hxo rfl rfl rfl ⟨Nat.le_of_ble_eq_true rfl, Nat.le_of_ble_eq_true rfl⟩ hl.1 rfl (Nat.le_of_ble_eq_true rfl) dX3_bond_27 ⟨by show 0 + (tC N cn) ≤ tC N cn; omega, by show 0 + (tS N cn) ≤ tS N cn; omega⟩) hS (fun M1 H locs hR hHs hM hS => ?_)
    obtain ⟨pa2, po2, okk2, pt2, ve2, hPs2, hxo2, hve2, hsm2, hfr2, hkp2⟩ := hR
    have hNx := tN_lt hcn
    have hNy := tN_le (N := N) (cn := cn)
    obtain ⟨⟨hA_pa2, hO_pa2⟩, ⟨hA_po2, hO_po2⟩, ⟨hA_okk2, hO_okk2⟩, ⟨hA_pt2, hO_pt2⟩⟩ := turned_own hcn hAc hsm2 hfr2
    have hp2 := hPs2.2.1 (cn + 1) hNx
    rw [vup_s, vup_s, vup_s, vup_s, vup_s] at hp2
    have hg2 := hPs2.1 (cn + 1) hNx
    unfold PgAt at hg2
    rw [vup_s, vup_s] at hg2
    refine lv_aload_n hx hb dX3_bond_30 rfl (lv_at hl 0 rfl) ?_
    refine w_get (C := RX3) (T := TX3) (N := 4) (ci := 2) hx hb hts hown hK hM inX3 rfl 2 (by decide) qw_1_104 rfl hxo2 rfl dX3_bond_31 ?_
    refine w_get (C := RX0) (T := TX0) (N := 7) (ci := 0) hx hb hts hown hK hM inX0 rfl 0 (by decide) qw_1_63 rfl hg2 rfl dX3_bond_34 ?_
    refine lv_iload_n hx hb dX3_bond_37 rfl (lv_at hl 1 rfl) ?_
    refine lv_iload_n hx hb dX3_bond_38 rfl (lv_at hl 2 rfl) ?_
    refine wr_go0 (wr_runV (As := [.int (nI a), .int (nI b)]) (rest := []) hx hb hml hown hts hK hM okV_RX3_39_X1_join (met_X1_join l (po2 (cn + 1)) (okk2 (cn + 1)) (pt2 (cn + 1)) (pp cn) (w cn) (bk cn) (wa cn) a b hp2.1 hp2.2.2 (by omega) (by omega) hA_pt2) hp2.1 rfl rfl rfl ⟨Nat.le_of_ble_eq_true rfl, Nat.le_of_ble_eq_true rfl⟩ hl.1 rfl (Nat.le_of_ble_eq_true rfl) dX3_bond_39 ⟨by show 0 + (tC N cn) + 0 ≤ tC N cn; omega, by show 0 + (tS N cn) + 0 ≤ tS N cn; omega⟩) hS (fun M1 H locs hR hM hS => ?_)
    obtain rfl := hR
    refine lv_aload_n hx hb dX3_bond_42 rfl (lv_at hl 0 rfl) ?_
    refine w_get (C := RX3) (T := TX3) (N := 4) (ci := 2) hx hb hts hown hK hM inX3 rfl 2 (by decide) qw_1_104 rfl (mu_g (ne_oi hxo2 hp2.2.2) hxo2) rfl dX3_bond_43 ?_
    refine w_get (C := RX0) (T := TX0) (N := 7) (ci := 0) hx hb hts hown hK hM inX0 rfl 0 (by decide) qw_1_63 rfl (mu_g (ne_oi hg2 hp2.2.2) hg2) rfl dX3_bond_46 ?_
    refine wr_go0 (wr_runV (As := []) (rest := []) hx hb hml hown hts hK hM okV_RX3_216_X1_passTurn (met_X1_passTurn l (po2 (cn + 1)) (okk2 (cn + 1)) (pt2 (cn + 1)) (w cn) (bk cn) (wa cn) (mu_g (ne_oi hp2.1 hp2.2.2) hp2.1) hA_po2) (mu_g (ne_oi hp2.1 hp2.2.2) hp2.1) rfl rfl rfl ⟨Nat.le_of_ble_eq_true rfl, Nat.le_of_ble_eq_true rfl⟩ hl.1 rfl (Nat.le_of_ble_eq_true rfl) dX3_bond_49 ⟨by show 0 + (tC N cn) + 0 ≤ tC N cn; omega, by show 0 + (tS N cn) + 0 ≤ tS N cn; omega⟩) hS (fun M1 H locs hR hM hS => ?_)
    obtain rfl := hR
    refine lv_aload_n hx hb dX3_bond_52 rfl (lv_at hl 0 rfl) ?_
    refine w_get (C := RX3) (T := TX3) (N := 4) (ci := 2) hx hb hts hown hK hM inX3 rfl 2 (by decide) qw_1_104 rfl (mu_g (ne_oo hxo2 hp2.1 (by decide)) (mu_g (ne_oi hxo2 hp2.2.2) hxo2)) rfl dX3_bond_53 ?_
    refine lv_aload_n hx hb dX3_bond_56 rfl (lv_at hl 0 rfl) ?_
    refine rd_goI (rd_runV (As := []) (rest := [.ref (pa2 (cn + 1))]) hx hb hml hown hts hK hM okV_RX3_100_X3_verdictNow (met_X3_verdictNow l xo tr (cn + 1) (tN N cn) su pa2 po2 okk2 pt2 (va_up K (cn + 1) (K cn)) (va_up pp (cn + 1) (kJoin (pp cn) a b)) (va_up w (cn + 1) (w cn)) (va_up bk (cn + 1) (bk cn)) (va_up wa (cn + 1) (!(wa cn))) (va_up ca (cn + 1) 0) (va_up qu (cn + 1) (qu cn + 1)) ve2 (mu_g (ne_oo hxo2 hp2.1 (by decide)) (mu_g (ne_oi hxo2 hp2.2.2) hxo2)) (by have hz := ((hPs2.w3 hNx (p1 := kJoin (pp cn) a b)).w1 hNx (w1 := (w cn)) (b1 := (bk cn)) (a1 := !(wa cn))); simp only [vup_vup, vup_id] at hz; exact hz) hNx (by omega) (by rw [vup_s]; exact hW9) (by rw [vup_s]; omega)) (mu_g (ne_oo hxo2 hp2.1 (by decide)) (mu_g (ne_oi hxo2 hp2.2.2) hxo2)) rfl rfl rfl ⟨Nat.le_of_ble_eq_true rfl, Nat.le_of_ble_eq_true rfl⟩ hl.1 rfl (Nat.le_of_ble_eq_true rfl) dX3_bond_57 ⟨by show 0 + (tC N cn) ≤ tC N cn; omega, by show 0 + (tS N cn) ≤ tS N cn; omega⟩) ?_
    have hf57_0 := kVer_le (va_up K (cn + 1) (K cn)) (va_up pp (cn + 1) (kJoin (pp cn) a b)) (va_up w (cn + 1) (w cn)) (va_up bk (cn + 1) (bk cn)) (va_up wa (cn + 1) (!(wa cn))) (va_up qu (cn + 1) (qu cn + 1)) (cn + 1)
    refine w_put (C := RX0) (T := TX0) (N := 7) (ci := 0) hx hb hts hown hK hM hS inX0 rfl tyX0 tyX0_ok nmX0 6 (by decide) qw_1_71 rfl rfl (mu_g (ne_oo hg2 hp2.1 (by decide)) (mu_g (ne_oi hg2 hp2.2.2) hg2)) hA_pa2 rfl rfl (Nat.le_of_ble_eq_true rfl) dX3_bond_60 (fun H locs hM hS => ?_)
    replace hM : HM D (mu (mu (mu M1 (pt2 (cn + 1)) (eI cI 64 (kJoin (pp cn) a b))) (po2 (cn + 1)) (.inr (1, [.ref (okk2 (cn + 1)), .ref (pt2 (cn + 1)), .long (bL (w cn)), .long (bL (bk cn)), .int (bI (!(wa cn)))]))) (pa2 (cn + 1)) (.inr (0, [.ref (po2 (cn + 1)), pgV pa2 (cn + 1), .int (nI (cn + 1)), afV pa2 (tN N cn) (cn + 1), .int (nI 0), .int (nI (qu cn + 1)), .int (nI (kVer (va_up K (cn + 1) (K cn)) (va_up pp (cn + 1) (kJoin (pp cn) a b)) (va_up w (cn + 1) (w cn)) (va_up bk (cn + 1) (bk cn)) (va_up wa (cn + 1) (!(wa cn))) (va_up qu (cn + 1) (qu cn + 1)) (cn + 1)))]))) H := hM
    refine lv_iload_n hx hb dX3_bond_63 rfl (lv_at hl 1 rfl) ?_
    refine lv_iload_n hx hb dX3_bond_64 rfl (lv_at hl 2 rfl) ?_
    refine rd_goI (rd_runS (As := [.int (nI a), .int (nI b)]) (rest := []) hx hb hml hown hts hK hM okS_RX3_130_X2_hops (met_X2_hops l a b (by omega) (by omega)) rfl ⟨Nat.le_of_ble_eq_true rfl, Nat.le_of_ble_eq_true rfl⟩ hl.1 rfl (Nat.le_of_ble_eq_true rfl) dX3_bond_65 ⟨by show 0 + (tC N cn) ≤ tC N cn; omega, by show 0 + (tS N cn) ≤ tS N cn; omega⟩) ?_
    have hf65_0 := mHop_le a b
    exact wr_ireturn hx hb hr hlk hM hS (by omega) (by omega) rfl ⟨pa2, po2, okk2, pt2, va_up ve2 (cn + 1) (kVer (va_up K (cn + 1) (K cn)) (va_up pp (cn + 1) (kJoin (pp cn) a b)) (va_up w (cn + 1) (w cn)) (va_up bk (cn + 1) (bk cn)) (va_up wa (cn + 1) (!(wa cn))) (va_up qu (cn + 1) (qu cn + 1)) (cn + 1)), (by have hz := (((hPs2.w3 hNx (p1 := kJoin (pp cn) a b)).w1 hNx (w1 := (w cn)) (b1 := (bk cn)) (a1 := !(wa cn))).w4 hNx (c1 := 0) (q1 := qu cn + 1) (v1 := kVer (va_up K (cn + 1) (K cn)) (va_up pp (cn + 1) (kJoin (pp cn) a b)) (va_up w (cn + 1) (w cn)) (va_up bk (cn + 1) (bk cn)) (va_up wa (cn + 1) (!(wa cn))) (va_up qu (cn + 1) (qu cn + 1)) (cn + 1))); simp only [vup_vup, vup_id] at hz; exact hz), (mu_g (ne_oo hxo2 hg2 (by decide)) (mu_g (ne_oo hxo2 hp2.1 (by decide)) (mu_g (ne_oi hxo2 hp2.2.2) hxo2))), (fun i hi => (vup_n (by omega)).trans (hve2 i hi)), vup_s, hsm2, hfr2, (Keep.upq (Keep.upq (Keep.upq hkp2 hO_pt2) hO_po2) hO_pa2)⟩ dX3_bond_68
