theorem okV_RX3_196_X3_moveRefusal : okV RX3 196 yX3_moveRefusal cX3_moveRefusal 4 (some .int) 2 := okV_of qw_3_164 qw_3_125 qw_3_126 qw_1_1 qw_3_127 (by decide +kernel)
theorem okV_RX3_224_X3_dissolveRefusal : okV RX3 224 yX3_dissolveRefusal cX3_dissolveRefusal 3 (some .int) 1 := okV_of qw_3_190 qw_3_142 qw_3_143 qw_1_1 qw_3_144 (by decide +kernel)
theorem okV_RX3_229_X1_part : okV RX3 229 yX1_part cX1_part 3 (some .int) 1 := okV_of qw_3_192 qw_2_71 qw_2_72 qw_1_3 qw_2_73 (by decide +kernel)
theorem okV_RX3_91_X1_canBegin : okV RX3 91 yX1_canBegin cX1_canBegin 2 (some .boolean) 1 := okV_of qw_3_41 qw_3_42 qw_3_43 qw_1_3 qw_3_44 (by decide +kernel)
set_option maxHeartbeats 4000000 in
set_option maxRecDepth 100000 in
theorem met_X3_dissolve (l : Launch) {D : va_G} {cI cJ : ClassId} {M : MP} {A : Nat → Prop} {sz : Nat} (xo tr cn N : Nat) (su : Bool) (pa po okk pt : Nat → Nat) (K : Nat → Nat → BitVec 64) (pp : Nat → Nat → Int32) (w bk : Nat → BitVec 64) (wa : Nat → Bool) (ca qu ve : Nat → Nat) (a : Nat) (hxo : M xo = some (.inr (2, [.ref (pa 0), .ref tr, .ref (pa cn), .int (bI su)]))) (hPs : Pages cI cJ M pa po okk pt K pp w bk wa ca qu ve N) (hcn : cn < N) (hN : N ≤ 514) (hqu : qu cn < 2 ^ 29) (hnu : cn < 512) (hAc : ∀ b, OwC xo pa po okk pt N b → A b) (hW : WfPt (pp cn)) (hN5 : N ≤ 513) (ha : a < 64) (hve : ve cn < 2 ^ 31) (hpl : kPl su (ve cn) = true) (hr0 : kDisR (K cn) (pp cn) (w cn) (bk cn) (wa cn) a = 0) (hA_xo : A xo) (hAn : ∀ q, sz ≤ q → A q) : Wr l yX3_dissolve cX3_dissolve 3 (some .int) 7 (tC N cn) (tS N cn) D cI cJ [.ref xo, .int (nI a)] M sz A (some (.int (pp cn a))) (fun M' => Acted cI cJ M M' A xo tr cn su pa po okk pt K pp w bk wa ca qu ve N (K cn) (kPart (pp cn) a) (w cn) (bk cn) (0) (qu cn + 1)) := by
  refine wr_start (by decide) (Nat.le_of_ble_eq_true rfl) ?_
  intro p e s m args below meth c hx hb hr hml hown hts hlk hini hK hsz H hH0 hM hS ls hl
  rw [← hsz] at hAn
  clear hH0
  have hl : lv_has ls 3 [(0, .ref xo), (1, .int (nI a))] := hl
  have hW9 := WfPt_part (j := a) hW
  refine lv_aload_n hx hb dX3_dissolve_0 rfl (lv_at hl 0 rfl) ?_
  refine lv_iload_n hx hb dX3_dissolve_1 rfl (lv_at hl 1 rfl) ?_
  refine wr_go0 (wr_runV (As := [.int (nI a)]) (rest := []) hx hb hml hown hts hK hM okV_RX3_224_X3_dissolveRefusal (met_X3_dissolveRefusal l xo (pa 0) tr (pa cn) su (pgV pa cn) (afV pa N cn) cn (ca cn) (qu cn) (ve cn) (po cn) (okk cn) (pt cn) (K cn) (pp cn) (w cn) (bk cn) (wa cn) a hxo (hPs.1 cn hcn) (hPs.2.1 cn hcn).1 (hPs.2.1 cn hcn).2.1 (hPs.2.1 cn hcn).2.2 (by omega) (by omega)) hxo rfl rfl rfl ⟨Nat.le_of_ble_eq_true rfl, Nat.le_of_ble_eq_true rfl⟩ hl.1 rfl (Nat.le_of_ble_eq_true rfl) dX3_dissolve_2 ⟨by show 0 + 0 ≤ tC N cn; omega, by show 0 + 0 ≤ tS N cn; omega⟩) hS (fun M1 H locs hR hM hS => ?_)
  rw [show M1 = M from hR] at hM
  refine topi (nI 0) (by rw [hpl, if_pos rfl, hr0]) ?_
  refine n0_ne (tgt := 15) hx hb 0 (by omega) dX3_dissolve_5 (by decide) (fun c_5 => ?_) (fun c_5 => ?_)
  · skip
    exfalso; omega
  · skip
    refine lv_aload_n hx hb dX3_dissolve_8 rfl (lv_at hl 0 rfl) ?_
    refine rd_goI (rd_runV (As := []) (rest := []) hx hb hml hown hts hK hM okV_RX3_199_X3_isFull (met_X3_isFull l xo (pa 0) tr (pa cn) su (pgV pa cn) (afV pa N cn) cn (ca cn) (qu cn) (ve cn) (po cn) hxo (hPs.1 cn hcn) (by omega)) hxo rfl rfl rfl ⟨Nat.le_of_ble_eq_true rfl, Nat.le_of_ble_eq_true rfl⟩ hl.1 rfl (Nat.le_of_ble_eq_true rfl) dX3_dissolve_9 ⟨by show 0 ≤ tC N cn; omega, by show 0 ≤ tS N cn; omega⟩) ?_
    refine topi (bI false) rfl ?_
    refine zb_eq (tgt := 25) hx hb false dX3_dissolve_12 (by decide) (fun _ => ?_) (fun h => absurd (h.symm.trans (rfl : false = false)) (by decide))
    refine lv_aload_n hx hb dX3_dissolve_25 rfl (lv_at hl 0 rfl) ?_
    refine wr_go (wr_runV (As := []) (rest := []) hx hb hml hown hts hK hM okV_RX3_204_X3_turnPage (met_X3_turnPage l xo tr cn N su pa po okk pt K pp w bk wa ca qu ve hxo hPs hcn (by omega) (by omega) hAc (fun q hq => hAn q (Nat.le_trans hS.1 hq))) hxo rfl rfl rfl ⟨Nat.le_of_ble_eq_true rfl, Nat.le_of_ble_eq_true rfl⟩ hl.1 rfl (Nat.le_of_ble_eq_true rfl) dX3_dissolve_26 ⟨by show 0 + (tC N cn) ≤ tC N cn; omega, by show 0 + (tS N cn) ≤ tS N cn; omega⟩) hS (fun M1 H locs hR hHs hM hS => ?_)
    obtain ⟨pa2, po2, okk2, pt2, ve2, hPs2, hxo2, hve2, hsm2, hfr2, hkp2⟩ := hR
    have hNx := tN_lt hcn
    have hNy := tN_le (N := N) (cn := cn)
    obtain ⟨⟨hA_pa2, hO_pa2⟩, ⟨hA_po2, hO_po2⟩, ⟨hA_okk2, hO_okk2⟩, ⟨hA_pt2, hO_pt2⟩⟩ := turned_own hcn hAc hsm2 hfr2
    have hp2 := hPs2.2.1 (cn + 1) hNx
    rw [vup_s, vup_s, vup_s, vup_s, vup_s] at hp2
    have hg2 := hPs2.1 (cn + 1) hNx
    unfold PgAt at hg2
    rw [vup_s, vup_s] at hg2
    refine lv_aload_n hx hb dX3_dissolve_29 rfl (lv_at hl 0 rfl) ?_
    refine w_get (C := RX3) (T := TX3) (N := 4) (ci := 2) hx hb hts hown hK hM inX3 rfl 2 (by decide) qw_1_104 rfl hxo2 rfl dX3_dissolve_30 ?_
    refine w_get (C := RX0) (T := TX0) (N := 7) (ci := 0) hx hb hts hown hK hM inX0 rfl 0 (by decide) qw_1_63 rfl hg2 rfl dX3_dissolve_33 ?_
    refine lv_iload_n hx hb dX3_dissolve_36 rfl (lv_at hl 1 rfl) ?_
    refine wr_go0 (wr_runV (As := [.int (nI a)]) (rest := []) hx hb hml hown hts hK hM okV_RX3_229_X1_part (met_X1_part l (po2 (cn + 1)) (okk2 (cn + 1)) (pt2 (cn + 1)) (pp cn) (w cn) (bk cn) (wa cn) a hp2.1 hp2.2.2 (by omega) hW hA_pt2) hp2.1 rfl rfl rfl ⟨Nat.le_of_ble_eq_true rfl, Nat.le_of_ble_eq_true rfl⟩ hl.1 rfl (Nat.le_of_ble_eq_true rfl) dX3_dissolve_37 ⟨by show 0 + (tC N cn) + 0 ≤ tC N cn; omega, by show 0 + (tS N cn) + 0 ≤ tS N cn; omega⟩) hS (fun M1 H locs hR hM hS => ?_)
    obtain rfl := hR
    refine lv_istore_n (lv' := [(2, .int ((pp cn) a)), (0, .ref xo), (1, .int (nI a))]) hx hb dX3_dissolve_40 rfl hl (by decide) rfl (fun ls hl => ?_)
    refine lv_aload_n hx hb dX3_dissolve_41 rfl (lv_at hl 1 rfl) ?_
    refine w_get (C := RX3) (T := TX3) (N := 4) (ci := 2) hx hb hts hown hK hM inX3 rfl 2 (by decide) qw_1_104 rfl (mu_g (ne_oi hxo2 hp2.2.2) hxo2) rfl dX3_dissolve_42 ?_
    refine w_get (C := RX0) (T := TX0) (N := 7) (ci := 0) hx hb hts hown hK hM inX0 rfl 0 (by decide) qw_1_63 rfl (mu_g (ne_oi hg2 hp2.2.2) hg2) rfl dX3_dissolve_45 ?_
    refine wr_go0 (wr_runV (As := []) (rest := []) hx hb hml hown hts hK hM okV_RX3_216_X1_passTurn (met_X1_passTurn l (po2 (cn + 1)) (okk2 (cn + 1)) (pt2 (cn + 1)) (w cn) (bk cn) (wa cn) (mu_g (ne_oi hp2.1 hp2.2.2) hp2.1) hA_po2) (mu_g (ne_oi hp2.1 hp2.2.2) hp2.1) rfl rfl rfl ⟨Nat.le_of_ble_eq_true rfl, Nat.le_of_ble_eq_true rfl⟩ hl.1 rfl (Nat.le_of_ble_eq_true rfl) dX3_dissolve_48 ⟨by show 0 + (tC N cn) + 0 ≤ tC N cn; omega, by show 0 + (tS N cn) + 0 ≤ tS N cn; omega⟩) hS (fun M1 H locs hR hM hS => ?_)
    obtain rfl := hR
    refine lv_aload_n hx hb dX3_dissolve_51 rfl (lv_at hl 1 rfl) ?_
    refine w_get (C := RX3) (T := TX3) (N := 4) (ci := 2) hx hb hts hown hK hM inX3 rfl 2 (by decide) qw_1_104 rfl (mu_g (ne_oo hxo2 hp2.1 (by decide)) (mu_g (ne_oi hxo2 hp2.2.2) hxo2)) rfl dX3_dissolve_52 ?_
    refine lv_aload_n hx hb dX3_dissolve_55 rfl (lv_at hl 1 rfl) ?_
    refine rd_goI (rd_runV (As := []) (rest := [.ref (pa2 (cn + 1))]) hx hb hml hown hts hK hM okV_RX3_100_X3_verdictNow (met_X3_verdictNow l xo tr (cn + 1) (tN N cn) su pa2 po2 okk2 pt2 (va_up K (cn + 1) (K cn)) (va_up pp (cn + 1) (kPart (pp cn) a)) (va_up w (cn + 1) (w cn)) (va_up bk (cn + 1) (bk cn)) (va_up wa (cn + 1) (!(wa cn))) (va_up ca (cn + 1) 0) (va_up qu (cn + 1) (qu cn + 1)) ve2 (mu_g (ne_oo hxo2 hp2.1 (by decide)) (mu_g (ne_oi hxo2 hp2.2.2) hxo2)) (by have hz := ((hPs2.w3 hNx (p1 := kPart (pp cn) a)).w1 hNx (w1 := (w cn)) (b1 := (bk cn)) (a1 := !(wa cn))); simp only [vup_vup, vup_id] at hz; exact hz) hNx (by omega) (by rw [vup_s]; exact hW9) (by rw [vup_s]; omega)) (mu_g (ne_oo hxo2 hp2.1 (by decide)) (mu_g (ne_oi hxo2 hp2.2.2) hxo2)) rfl rfl rfl ⟨Nat.le_of_ble_eq_true rfl, Nat.le_of_ble_eq_true rfl⟩ hl.1 rfl (Nat.le_of_ble_eq_true rfl) dX3_dissolve_56 ⟨by show 0 + (tC N cn) ≤ tC N cn; omega, by show 0 + (tS N cn) ≤ tS N cn; omega⟩) ?_
    have hf56_0 := kVer_le (va_up K (cn + 1) (K cn)) (va_up pp (cn + 1) (kPart (pp cn) a)) (va_up w (cn + 1) (w cn)) (va_up bk (cn + 1) (bk cn)) (va_up wa (cn + 1) (!(wa cn))) (va_up qu (cn + 1) (qu cn + 1)) (cn + 1)
    refine w_put (C := RX0) (T := TX0) (N := 7) (ci := 0) hx hb hts hown hK hM hS inX0 rfl tyX0 tyX0_ok nmX0 6 (by decide) qw_1_71 rfl rfl (mu_g (ne_oo hg2 hp2.1 (by decide)) (mu_g (ne_oi hg2 hp2.2.2) hg2)) hA_pa2 rfl rfl (Nat.le_of_ble_eq_true rfl) dX3_dissolve_59 (fun H locs hM hS => ?_)
    replace hM : HM D (mu (mu (mu M1 (pt2 (cn + 1)) (eI cI 64 (kPart (pp cn) a))) (po2 (cn + 1)) (.inr (1, [.ref (okk2 (cn + 1)), .ref (pt2 (cn + 1)), .long (bL (w cn)), .long (bL (bk cn)), .int (bI (!(wa cn)))]))) (pa2 (cn + 1)) (.inr (0, [.ref (po2 (cn + 1)), pgV pa2 (cn + 1), .int (nI (cn + 1)), afV pa2 (tN N cn) (cn + 1), .int (nI 0), .int (nI (qu cn + 1)), .int (nI (kVer (va_up K (cn + 1) (K cn)) (va_up pp (cn + 1) (kPart (pp cn) a)) (va_up w (cn + 1) (w cn)) (va_up bk (cn + 1) (bk cn)) (va_up wa (cn + 1) (!(wa cn))) (va_up qu (cn + 1) (qu cn + 1)) (cn + 1)))]))) H := hM
    refine lv_iload_n hx hb dX3_dissolve_62 rfl (lv_at hl 0 rfl) ?_
    exact wr_ireturn hx hb hr hlk hM hS (by omega) (by omega) rfl ⟨pa2, po2, okk2, pt2, va_up ve2 (cn + 1) (kVer (va_up K (cn + 1) (K cn)) (va_up pp (cn + 1) (kPart (pp cn) a)) (va_up w (cn + 1) (w cn)) (va_up bk (cn + 1) (bk cn)) (va_up wa (cn + 1) (!(wa cn))) (va_up qu (cn + 1) (qu cn + 1)) (cn + 1)), (by have hz := (((hPs2.w3 hNx (p1 := kPart (pp cn) a)).w1 hNx (w1 := (w cn)) (b1 := (bk cn)) (a1 := !(wa cn))).w4 hNx (c1 := 0) (q1 := qu cn + 1) (v1 := kVer (va_up K (cn + 1) (K cn)) (va_up pp (cn + 1) (kPart (pp cn) a)) (va_up w (cn + 1) (w cn)) (va_up bk (cn + 1) (bk cn)) (va_up wa (cn + 1) (!(wa cn))) (va_up qu (cn + 1) (qu cn + 1)) (cn + 1))); simp only [vup_vup, vup_id] at hz; exact hz), (mu_g (ne_oo hxo2 hg2 (by decide)) (mu_g (ne_oo hxo2 hp2.1 (by decide)) (mu_g (ne_oi hxo2 hp2.2.2) hxo2))), (fun i hi => (vup_n (by omega)).trans (hve2 i hi)), vup_s, hsm2, hfr2, (Keep.upq (Keep.upq (Keep.upq hkp2 hO_pt2) hO_po2) hO_pa2)⟩ dX3_dissolve_63
set_option maxHeartbeats 4000000 in
set_option maxRecDepth 100000 in
theorem met_X3_move (l : Launch) {D : va_G} {cI cJ : ClassId} {M : MP} {A : Nat → Prop} {sz : Nat} (xo tr cn N : Nat) (su : Bool) (pa po okk pt : Nat → Nat) (K : Nat → Nat → BitVec 64) (pp : Nat → Nat → Int32) (w bk : Nat → BitVec 64) (wa : Nat → Bool) (ca qu ve : Nat → Nat) (a b : Nat) (hxo : M xo = some (.inr (2, [.ref (pa 0), .ref tr, .ref (pa cn), .int (bI su)]))) (hPs : Pages cI cJ M pa po okk pt K pp w bk wa ca qu ve N) (hcn : cn < N) (hN : N ≤ 514) (hqu : qu cn < 2 ^ 29) (hnu : cn < 512) (hAc : ∀ b, OwC xo pa po okk pt N b → A b) (hW : WfPt (pp cn)) (hN5 : N ≤ 513) (ha : a < 64) (hb2 : b < 64) (hve : ve cn < 2 ^ 31) (hpl : kPl su (ve cn) = true) (hka : 1 ≤ kKind (K cn) a) (hr0 : kMovR (K cn) (pp cn) (w cn) (bk cn) (wa cn) a b = 0) (hA_xo : A xo) (hAn : ∀ q, sz ≤ q → A q) : Wr l yX3_move cX3_move 5 (some .int) 7 (tC N cn) (tS N cn) D cI cJ [.ref xo, .int (nI a), .int (nI b)] M sz A (some (.int (nI (kKind (K cn) b)))) (fun M' => Acted cI cJ M M' A xo tr cn su pa po okk pt K pp w bk wa ca qu ve N (kShK (K cn) a b) (kShP (pp cn) a b) (kShW (w cn) a b ((w cn).getLsbD a)) (kShW (bk cn) a b (!(w cn).getLsbD a)) (kKind (K cn) b) (kQui (K cn) a b (qu cn))) := by
  refine wr_start (by decide) (Nat.le_of_ble_eq_true rfl) ?_
  intro p e s m args below meth c hx hb hr hml hown hts hlk hini hK hsz H hH0 hM hS ls hl
  rw [← hsz] at hAn
  clear hH0
  have hl : lv_has ls 5 [(0, .ref xo), (1, .int (nI a)), (2, .int (nI b))] := hl
  have hW9 := WfPt_sh hW ha hb2
  refine lv_aload_n hx hb dX3_move_0 rfl (lv_at hl 0 rfl) ?_
  refine lv_iload_n hx hb dX3_move_1 rfl (lv_at hl 1 rfl) ?_
  refine lv_iload_n hx hb dX3_move_2 rfl (lv_at hl 2 rfl) ?_
  refine wr_go0 (wr_runV (As := [.int (nI a), .int (nI b)]) (rest := []) hx hb hml hown hts hK hM okV_RX3_196_X3_moveRefusal (met_X3_moveRefusal l xo (pa 0) tr (pa cn) su (pgV pa cn) (afV pa N cn) cn (ca cn) (qu cn) (ve cn) (po cn) (okk cn) (pt cn) (K cn) (pp cn) (w cn) (bk cn) (wa cn) a b hxo (hPs.1 cn hcn) (hPs.2.1 cn hcn).1 (hPs.2.1 cn hcn).2.1 (hPs.2.1 cn hcn).2.2 (by omega) (by omega) (by omega) hW) hxo rfl rfl rfl ⟨Nat.le_of_ble_eq_true rfl, Nat.le_of_ble_eq_true rfl⟩ hl.1 rfl (Nat.le_of_ble_eq_true rfl) dX3_move_3 ⟨by show 0 + 0 ≤ tC N cn; omega, by show 0 + 0 ≤ tS N cn; omega⟩) hS (fun M1 H locs hR hM hS => ?_)
  rw [show M1 = M from hR] at hM
  refine topi (nI 0) (by rw [hpl, if_pos rfl, hr0]) ?_
  refine n0_ne (tgt := 16) hx hb 0 (by omega) dX3_move_6 (by decide) (fun c_6 => ?_) (fun c_6 => ?_)
  · skip
    exfalso; omega
  · skip
    refine lv_aload_n hx hb dX3_move_9 rfl (lv_at hl 0 rfl) ?_
    refine rd_goI (rd_runV (As := []) (rest := []) hx hb hml hown hts hK hM okV_RX3_199_X3_isFull (met_X3_isFull l xo (pa 0) tr (pa cn) su (pgV pa cn) (afV pa N cn) cn (ca cn) (qu cn) (ve cn) (po cn) hxo (hPs.1 cn hcn) (by omega)) hxo rfl rfl rfl ⟨Nat.le_of_ble_eq_true rfl, Nat.le_of_ble_eq_true rfl⟩ hl.1 rfl (Nat.le_of_ble_eq_true rfl) dX3_move_10 ⟨by show 0 ≤ tC N cn; omega, by show 0 ≤ tS N cn; omega⟩) ?_
    refine topi (bI false) rfl ?_
    refine zb_eq (tgt := 26) hx hb false dX3_move_13 (by decide) (fun _ => ?_) (fun h => absurd (h.symm.trans (rfl : false = false)) (by decide))
    refine lv_aload_n hx hb dX3_move_26 rfl (lv_at hl 0 rfl) ?_
    refine w_get (C := RX3) (T := TX3) (N := 4) (ci := 2) hx hb hts hown hK hM inX3 rfl 2 (by decide) qw_1_104 rfl hxo rfl dX3_move_27 ?_
    refine w_get (C := RX0) (T := TX0) (N := 7) (ci := 0) hx hb hts hown hK hM inX0 rfl 0 (by decide) qw_1_63 rfl (hPs.1 cn hcn) rfl dX3_move_30 ?_
    refine lv_iload_n hx hb dX3_move_33 rfl (lv_at hl 1 rfl) ?_
    refine rd_goI (rd_runV (As := [.int (nI a)]) (rest := []) hx hb hml hown hts hK hM okV_RX3_82_X1_kindOn (met_X1_kindOn l (po cn) (okk cn) (pt cn) (K cn) (w cn) (bk cn) (wa cn) a (hPs.2.1 cn hcn).1 (hPs.2.1 cn hcn).2.1 (by omega)) (hPs.2.1 cn hcn).1 rfl rfl rfl ⟨Nat.le_of_ble_eq_true rfl, Nat.le_of_ble_eq_true rfl⟩ hl.1 rfl (Nat.le_of_ble_eq_true rfl) dX3_move_34 ⟨by show 0 ≤ tC N cn; omega, by show 0 ≤ tS N cn; omega⟩) ?_
    have hf34_0 := kKind_lt (K cn) a
    refine lv_bipush (v := nI 6) hx hb dX3_move_37 (by decide) ?_
    refine meet (ls := ls) (pcJ := 47) (st := [.int (bI (decide (kKind (K cn) a = 6)))]) ?_ (fun hJ47 => ?_)
    · skip
      refine lv_istore_n (lv' := [(3, .int (bI (decide (kKind (K cn) a = 6)))), (0, .ref xo), (1, .int (nI a)), (2, .int (nI b))]) hx hb dX3_move_47 rfl hl (by decide) rfl (fun ls hl => ?_)
      refine lv_aload_n hx hb dX3_move_48 rfl (lv_at hl 1 rfl) ?_
      refine wr_go (wr_runV (As := []) (rest := []) hx hb hml hown hts hK hM okV_RX3_204_X3_turnPage (met_X3_turnPage l xo tr cn N su pa po okk pt K pp w bk wa ca qu ve hxo hPs hcn (by omega) (by omega) hAc (fun q hq => hAn q (Nat.le_trans hS.1 hq))) hxo rfl rfl rfl ⟨Nat.le_of_ble_eq_true rfl, Nat.le_of_ble_eq_true rfl⟩ hl.1 rfl (Nat.le_of_ble_eq_true rfl) dX3_move_49 ⟨by show 0 + (tC N cn) ≤ tC N cn; omega, by show 0 + (tS N cn) ≤ tS N cn; omega⟩) hS (fun M1 H locs hR hHs hM hS => ?_)
      obtain ⟨pa2, po2, okk2, pt2, ve2, hPs2, hxo2, hve2, hsm2, hfr2, hkp2⟩ := hR
      have hNx := tN_lt hcn
      have hNy := tN_le (N := N) (cn := cn)
      obtain ⟨⟨hA_pa2, hO_pa2⟩, ⟨hA_po2, hO_po2⟩, ⟨hA_okk2, hO_okk2⟩, ⟨hA_pt2, hO_pt2⟩⟩ := turned_own hcn hAc hsm2 hfr2
      have hp2 := hPs2.2.1 (cn + 1) hNx
      rw [vup_s, vup_s, vup_s, vup_s, vup_s] at hp2
      have hg2 := hPs2.1 (cn + 1) hNx
      unfold PgAt at hg2
      rw [vup_s, vup_s] at hg2
      refine lv_aload_n hx hb dX3_move_52 rfl (lv_at hl 1 rfl) ?_
      refine w_get (C := RX3) (T := TX3) (N := 4) (ci := 2) hx hb hts hown hK hM inX3 rfl 2 (by decide) qw_1_104 rfl hxo2 rfl dX3_move_53 ?_
      refine w_get (C := RX0) (T := TX0) (N := 7) (ci := 0) hx hb hts hown hK hM inX0 rfl 0 (by decide) qw_1_63 rfl hg2 rfl dX3_move_56 ?_
      refine lv_iload_n hx hb dX3_move_59 rfl (lv_at hl 2 rfl) ?_
      refine lv_iload_n hx hb dX3_move_60 rfl (lv_at hl 3 rfl) ?_
      refine wr_go0 (wr_runV (As := [.int (nI a), .int (nI b)]) (rest := []) hx hb hml hown hts hK hM okV_RX3_207_X1_shift (met_X1_shift l (po2 (cn + 1)) (okk2 (cn + 1)) (pt2 (cn + 1)) (K cn) (pp cn) (w cn) (bk cn) (wa cn) a b hp2.1 hp2.2.1 hp2.2.2 (by omega) (by omega) hka hW hA_po2 hA_okk2 hA_pt2) hp2.1 rfl rfl rfl ⟨Nat.le_of_ble_eq_true rfl, Nat.le_of_ble_eq_true rfl⟩ hl.1 rfl (Nat.le_of_ble_eq_true rfl) dX3_move_61 ⟨by show 0 + (tC N cn) + 0 ≤ tC N cn; omega, by show 0 + (tS N cn) + 0 ≤ tS N cn; omega⟩) hS (fun M1 H locs hR hM hS => ?_)
      obtain rfl := hR
      have hf61_0 := kKind_lt (K cn) b
      refine lv_istore (lv' := [(4, .int (nI (kKind (K cn) b))), (3, .int (bI (decide (kKind (K cn) a = 6)))), (0, .ref xo), (1, .int (nI a)), (2, .int (nI b))]) hx hb dX3_move_64 hl (by decide) rfl (fun ls hl => ?_)
      refine lv_aload_n hx hb dX3_move_66 rfl (lv_at hl 2 rfl) ?_
      refine w_get (C := RX3) (T := TX3) (N := 4) (ci := 2) hx hb hts hown hK hM inX3 rfl 2 (by decide) qw_1_104 rfl (mu_g (ne_oi hxo2 hp2.2.2) (mu_g (ne_oi hxo2 hp2.2.1) (mu_g (ne_oo hxo2 hp2.1 (by decide)) hxo2))) rfl dX3_move_67 ?_
      refine lv_iload hx hb dX3_move_70 (lv_at hl 0 rfl) ?_
      refine w_put (C := RX0) (T := TX0) (N := 7) (ci := 0) hx hb hts hown hK hM hS inX0 rfl tyX0 tyX0_ok nmX0 4 (by decide) qw_1_69 rfl rfl (mu_g (ne_oi hg2 hp2.2.2) (mu_g (ne_oi hg2 hp2.2.1) (mu_g (ne_oo hg2 hp2.1 (by decide)) hg2))) hA_pa2 rfl rfl (Nat.le_of_ble_eq_true rfl) dX3_move_72 (fun H locs hM hS => ?_)
      replace hM : HM D (mu (mu (mu (mu M1 (po2 (cn + 1)) (.inr (1, [.ref (okk2 (cn + 1)), .ref (pt2 (cn + 1)), .long (bL (kShW (w cn) a b ((w cn).getLsbD a))), .long (bL (kShW (bk cn) a b (!(w cn).getLsbD a))), .int (bI (wa cn))]))) (okk2 (cn + 1)) (eJ cJ 7 (fun ζ => bL ((kShK (K cn) a b) ζ)))) (pt2 (cn + 1)) (eI cI 64 (kShP (pp cn) a b))) (pa2 (cn + 1)) (.inr (0, [.ref (po2 (cn + 1)), pgV pa2 (cn + 1), .int (nI (cn + 1)), afV pa2 (tN N cn) (cn + 1), .int (nI (kKind (K cn) b)), .int (nI (qu cn + 1)), .int (nI (ve2 (cn + 1)))]))) H := hM
      refine lv_iload hx hb dX3_move_75 (lv_at hl 0 rfl) ?_
      refine n0_ne (tgt := 84) hx hb (kKind (K cn) b) (by omega) dX3_move_77 (by decide) (fun c_77 => ?_) (fun c_77 => ?_)
      · skip
        refine lv_aload_n hx hb dX3_move_84 rfl (lv_at hl 2 rfl) ?_
        refine w_get (C := RX3) (T := TX3) (N := 4) (ci := 2) hx hb hts hown hK hM inX3 rfl 2 (by decide) qw_1_104 rfl (mu_g (ne_oo hxo2 hg2 (by decide)) (mu_g (ne_oi hxo2 hp2.2.2) (mu_g (ne_oi hxo2 hp2.2.1) (mu_g (ne_oo hxo2 hp2.1 (by decide)) hxo2)))) rfl dX3_move_85 ?_
        refine lv_iconst (v := nI 0) hx hb dX3_move_88 (by decide) ?_
        refine w_put (C := RX0) (T := TX0) (N := 7) (ci := 0) hx hb hts hown hK hM hS inX0 rfl tyX0 tyX0_ok nmX0 5 (by decide) qw_1_70 rfl rfl mu_s hA_pa2 rfl rfl (Nat.le_of_ble_eq_true rfl) dX3_move_89 (fun H locs hM hS => ?_)
        rw [mu_mu] at hM
        replace hM : HM D (mu (mu (mu (mu M1 (po2 (cn + 1)) (.inr (1, [.ref (okk2 (cn + 1)), .ref (pt2 (cn + 1)), .long (bL (kShW (w cn) a b ((w cn).getLsbD a))), .long (bL (kShW (bk cn) a b (!(w cn).getLsbD a))), .int (bI (wa cn))]))) (okk2 (cn + 1)) (eJ cJ 7 (fun ζ => bL ((kShK (K cn) a b) ζ)))) (pt2 (cn + 1)) (eI cI 64 (kShP (pp cn) a b))) (pa2 (cn + 1)) (.inr (0, [.ref (po2 (cn + 1)), pgV pa2 (cn + 1), .int (nI (cn + 1)), afV pa2 (tN N cn) (cn + 1), .int (nI (kKind (K cn) b)), .int (nI 0), .int (nI (ve2 (cn + 1)))]))) H := hM
        refine lv_aload_n hx hb dX3_move_92 rfl (lv_at hl 2 rfl) ?_
        refine w_get (C := RX3) (T := TX3) (N := 4) (ci := 2) hx hb hts hown hK hM inX3 rfl 2 (by decide) qw_1_104 rfl (mu_g (ne_oo hxo2 hg2 (by decide)) (mu_g (ne_oi hxo2 hp2.2.2) (mu_g (ne_oi hxo2 hp2.2.1) (mu_g (ne_oo hxo2 hp2.1 (by decide)) hxo2)))) rfl dX3_move_93 ?_
        refine w_get (C := RX0) (T := TX0) (N := 7) (ci := 0) hx hb hts hown hK hM inX0 rfl 0 (by decide) qw_1_63 rfl mu_s rfl dX3_move_96 ?_
        refine wr_go0 (wr_runV (As := []) (rest := []) hx hb hml hown hts hK hM okV_RX3_216_X1_passTurn (met_X1_passTurn l (po2 (cn + 1)) (okk2 (cn + 1)) (pt2 (cn + 1)) (kShW (w cn) a b ((w cn).getLsbD a)) (kShW (bk cn) a b (!(w cn).getLsbD a)) (wa cn) (mu_g (ne_oo hp2.1 hg2 (by decide)) (mu_g (ne_oi hp2.1 hp2.2.2) (mu_g (ne_oi hp2.1 hp2.2.1) mu_s))) hA_po2) (mu_g (ne_oo hp2.1 hg2 (by decide)) (mu_g (ne_oi hp2.1 hp2.2.2) (mu_g (ne_oi hp2.1 hp2.2.1) mu_s))) rfl rfl rfl ⟨Nat.le_of_ble_eq_true rfl, Nat.le_of_ble_eq_true rfl⟩ hl.1 rfl (Nat.le_of_ble_eq_true rfl) dX3_move_99 ⟨by show 0 + (tC N cn) + 0 ≤ tC N cn; omega, by show 0 + (tS N cn) + 0 ≤ tS N cn; omega⟩) hS (fun M1 H locs hR hM hS => ?_)
        obtain rfl := hR
        rw [mu_comm (ne_oo hg2 hp2.1 (by decide)), mu_comm (ne_io hp2.2.2 hp2.1), mu_comm (ne_io hp2.2.1 hp2.1), mu_mu] at hM
        refine lv_aload_n hx hb dX3_move_102 rfl (lv_at hl 2 rfl) ?_
        refine w_get (C := RX3) (T := TX3) (N := 4) (ci := 2) hx hb hts hown hK hM inX3 rfl 2 (by decide) qw_1_104 rfl (mu_g (ne_oo hxo2 hg2 (by decide)) (mu_g (ne_oi hxo2 hp2.2.2) (mu_g (ne_oi hxo2 hp2.2.1) (mu_g (ne_oo hxo2 hp2.1 (by decide)) hxo2)))) rfl dX3_move_103 ?_
        refine lv_aload_n hx hb dX3_move_106 rfl (lv_at hl 2 rfl) ?_
        refine rd_goI (rd_runV (As := []) (rest := [.ref (pa2 (cn + 1))]) hx hb hml hown hts hK hM okV_RX3_100_X3_verdictNow (met_X3_verdictNow l xo tr (cn + 1) (tN N cn) su pa2 po2 okk2 pt2 (va_up K (cn + 1) (kShK (K cn) a b)) (va_up pp (cn + 1) (kShP (pp cn) a b)) (va_up w (cn + 1) (kShW (w cn) a b ((w cn).getLsbD a))) (va_up bk (cn + 1) (kShW (bk cn) a b (!(w cn).getLsbD a))) (va_up wa (cn + 1) (!(wa cn))) (va_up ca (cn + 1) (kKind (K cn) b)) (va_up qu (cn + 1) 0) ve2 (mu_g (ne_oo hxo2 hg2 (by decide)) (mu_g (ne_oi hxo2 hp2.2.2) (mu_g (ne_oi hxo2 hp2.2.1) (mu_g (ne_oo hxo2 hp2.1 (by decide)) hxo2)))) (by have hz := ((((hPs2.w1 hNx (w1 := (kShW (w cn) a b ((w cn).getLsbD a))) (b1 := (kShW (bk cn) a b (!(w cn).getLsbD a))) (a1 := !(wa cn))).w2 hNx (K1 := kShK (K cn) a b)).w3 hNx (p1 := kShP (pp cn) a b)).w4 hNx (c1 := kKind (K cn) b) (q1 := 0) (v1 := ve2 (cn + 1))); simp only [vup_vup, vup_id] at hz; exact hz) hNx (by omega) (by rw [vup_s]; exact hW9) (by rw [vup_s]; omega)) (mu_g (ne_oo hxo2 hg2 (by decide)) (mu_g (ne_oi hxo2 hp2.2.2) (mu_g (ne_oi hxo2 hp2.2.1) (mu_g (ne_oo hxo2 hp2.1 (by decide)) hxo2)))) rfl rfl rfl ⟨Nat.le_of_ble_eq_true rfl, Nat.le_of_ble_eq_true rfl⟩ hl.1 rfl (Nat.le_of_ble_eq_true rfl) dX3_move_107 ⟨by show 0 + (tC N cn) ≤ tC N cn; omega, by show 0 + (tS N cn) ≤ tS N cn; omega⟩) ?_
        have hf107_0 := kVer_le (va_up K (cn + 1) (kShK (K cn) a b)) (va_up pp (cn + 1) (kShP (pp cn) a b)) (va_up w (cn + 1) (kShW (w cn) a b ((w cn).getLsbD a))) (va_up bk (cn + 1) (kShW (bk cn) a b (!(w cn).getLsbD a))) (va_up wa (cn + 1) (!(wa cn))) (va_up qu (cn + 1) 0) (cn + 1)
        refine w_put (C := RX0) (T := TX0) (N := 7) (ci := 0) hx hb hts hown hK hM hS inX0 rfl tyX0 tyX0_ok nmX0 6 (by decide) qw_1_71 rfl rfl mu_s hA_pa2 rfl rfl (Nat.le_of_ble_eq_true rfl) dX3_move_110 (fun H locs hM hS => ?_)
        rw [mu_mu] at hM
        replace hM : HM D (mu (mu (mu (mu M1 (po2 (cn + 1)) (.inr (1, [.ref (okk2 (cn + 1)), .ref (pt2 (cn + 1)), .long (bL (kShW (w cn) a b ((w cn).getLsbD a))), .long (bL (kShW (bk cn) a b (!(w cn).getLsbD a))), .int (bI (!(wa cn)))]))) (okk2 (cn + 1)) (eJ cJ 7 (fun ζ => bL ((kShK (K cn) a b) ζ)))) (pt2 (cn + 1)) (eI cI 64 (kShP (pp cn) a b))) (pa2 (cn + 1)) (.inr (0, [.ref (po2 (cn + 1)), pgV pa2 (cn + 1), .int (nI (cn + 1)), afV pa2 (tN N cn) (cn + 1), .int (nI (kKind (K cn) b)), .int (nI 0), .int (nI (kVer (va_up K (cn + 1) (kShK (K cn) a b)) (va_up pp (cn + 1) (kShP (pp cn) a b)) (va_up w (cn + 1) (kShW (w cn) a b ((w cn).getLsbD a))) (va_up bk (cn + 1) (kShW (bk cn) a b (!(w cn).getLsbD a))) (va_up wa (cn + 1) (!(wa cn))) (va_up qu (cn + 1) 0) (cn + 1)))]))) H := hM
        refine lv_iload hx hb dX3_move_113 (lv_at hl 0 rfl) ?_
        exact wr_ireturn hx hb hr hlk hM hS (by omega) (by omega) rfl (by rw [show kQui (K cn) a b (qu cn) = 0 from by simp [kQui, c_77]]; exact ⟨pa2, po2, okk2, pt2, va_up ve2 (cn + 1) (kVer (va_up K (cn + 1) (kShK (K cn) a b)) (va_up pp (cn + 1) (kShP (pp cn) a b)) (va_up w (cn + 1) (kShW (w cn) a b ((w cn).getLsbD a))) (va_up bk (cn + 1) (kShW (bk cn) a b (!(w cn).getLsbD a))) (va_up wa (cn + 1) (!(wa cn))) (va_up qu (cn + 1) 0) (cn + 1)), (by have hz := ((((hPs2.w1 hNx (w1 := (kShW (w cn) a b ((w cn).getLsbD a))) (b1 := (kShW (bk cn) a b (!(w cn).getLsbD a))) (a1 := !(wa cn))).w2 hNx (K1 := kShK (K cn) a b)).w3 hNx (p1 := kShP (pp cn) a b)).w4 hNx (c1 := kKind (K cn) b) (q1 := 0) (v1 := kVer (va_up K (cn + 1) (kShK (K cn) a b)) (va_up pp (cn + 1) (kShP (pp cn) a b)) (va_up w (cn + 1) (kShW (w cn) a b ((w cn).getLsbD a))) (va_up bk (cn + 1) (kShW (bk cn) a b (!(w cn).getLsbD a))) (va_up wa (cn + 1) (!(wa cn))) (va_up qu (cn + 1) 0) (cn + 1))); simp only [vup_vup, vup_id] at hz; exact hz), (mu_g (ne_oo hxo2 hg2 (by decide)) (mu_g (ne_oi hxo2 hp2.2.2) (mu_g (ne_oi hxo2 hp2.2.1) (mu_g (ne_oo hxo2 hp2.1 (by decide)) hxo2)))), (fun i hi => (vup_n (by omega)).trans (hve2 i hi)), vup_s, hsm2, hfr2, (Keep.upq (Keep.upq (Keep.upq (Keep.upq hkp2 hO_po2) hO_okk2) hO_pt2) hO_pa2)⟩) dX3_move_115
      · skip
        refine lv_iload_n hx hb dX3_move_80 rfl (lv_at hl 1 rfl) ?_
        refine zb_eq (tgt := 92) hx hb (decide (kKind (K cn) a = 6)) dX3_move_81 (by decide) (fun c_81 => ?_) (fun c_81 => ?_)
        · skip
          refine lv_aload_n hx hb dX3_move_92 rfl (lv_at hl 2 rfl) ?_
          refine w_get (C := RX3) (T := TX3) (N := 4) (ci := 2) hx hb hts hown hK hM inX3 rfl 2 (by decide) qw_1_104 rfl (mu_g (ne_oo hxo2 hg2 (by decide)) (mu_g (ne_oi hxo2 hp2.2.2) (mu_g (ne_oi hxo2 hp2.2.1) (mu_g (ne_oo hxo2 hp2.1 (by decide)) hxo2)))) rfl dX3_move_93 ?_
          refine w_get (C := RX0) (T := TX0) (N := 7) (ci := 0) hx hb hts hown hK hM inX0 rfl 0 (by decide) qw_1_63 rfl mu_s rfl dX3_move_96 ?_
          refine wr_go0 (wr_runV (As := []) (rest := []) hx hb hml hown hts hK hM okV_RX3_216_X1_passTurn (met_X1_passTurn l (po2 (cn + 1)) (okk2 (cn + 1)) (pt2 (cn + 1)) (kShW (w cn) a b ((w cn).getLsbD a)) (kShW (bk cn) a b (!(w cn).getLsbD a)) (wa cn) (mu_g (ne_oo hp2.1 hg2 (by decide)) (mu_g (ne_oi hp2.1 hp2.2.2) (mu_g (ne_oi hp2.1 hp2.2.1) mu_s))) hA_po2) (mu_g (ne_oo hp2.1 hg2 (by decide)) (mu_g (ne_oi hp2.1 hp2.2.2) (mu_g (ne_oi hp2.1 hp2.2.1) mu_s))) rfl rfl rfl ⟨Nat.le_of_ble_eq_true rfl, Nat.le_of_ble_eq_true rfl⟩ hl.1 rfl (Nat.le_of_ble_eq_true rfl) dX3_move_99 ⟨by show 0 + (tC N cn) + 0 ≤ tC N cn; omega, by show 0 + (tS N cn) + 0 ≤ tS N cn; omega⟩) hS (fun M1 H locs hR hM hS => ?_)
          obtain rfl := hR
          rw [mu_comm (ne_oo hg2 hp2.1 (by decide)), mu_comm (ne_io hp2.2.2 hp2.1), mu_comm (ne_io hp2.2.1 hp2.1), mu_mu] at hM
          refine lv_aload_n hx hb dX3_move_102 rfl (lv_at hl 2 rfl) ?_
          refine w_get (C := RX3) (T := TX3) (N := 4) (ci := 2) hx hb hts hown hK hM inX3 rfl 2 (by decide) qw_1_104 rfl (mu_g (ne_oo hxo2 hg2 (by decide)) (mu_g (ne_oi hxo2 hp2.2.2) (mu_g (ne_oi hxo2 hp2.2.1) (mu_g (ne_oo hxo2 hp2.1 (by decide)) hxo2)))) rfl dX3_move_103 ?_
          refine lv_aload_n hx hb dX3_move_106 rfl (lv_at hl 2 rfl) ?_
          refine rd_goI (rd_runV (As := []) (rest := [.ref (pa2 (cn + 1))]) hx hb hml hown hts hK hM okV_RX3_100_X3_verdictNow (met_X3_verdictNow l xo tr (cn + 1) (tN N cn) su pa2 po2 okk2 pt2 (va_up K (cn + 1) (kShK (K cn) a b)) (va_up pp (cn + 1) (kShP (pp cn) a b)) (va_up w (cn + 1) (kShW (w cn) a b ((w cn).getLsbD a))) (va_up bk (cn + 1) (kShW (bk cn) a b (!(w cn).getLsbD a))) (va_up wa (cn + 1) (!(wa cn))) (va_up ca (cn + 1) (kKind (K cn) b)) (va_up qu (cn + 1) (qu cn + 1)) ve2 (mu_g (ne_oo hxo2 hg2 (by decide)) (mu_g (ne_oi hxo2 hp2.2.2) (mu_g (ne_oi hxo2 hp2.2.1) (mu_g (ne_oo hxo2 hp2.1 (by decide)) hxo2)))) (by have hz := ((((hPs2.w1 hNx (w1 := (kShW (w cn) a b ((w cn).getLsbD a))) (b1 := (kShW (bk cn) a b (!(w cn).getLsbD a))) (a1 := !(wa cn))).w2 hNx (K1 := kShK (K cn) a b)).w3 hNx (p1 := kShP (pp cn) a b)).w4 hNx (c1 := kKind (K cn) b) (q1 := qu cn + 1) (v1 := ve2 (cn + 1))); simp only [vup_vup, vup_id] at hz; exact hz) hNx (by omega) (by rw [vup_s]; exact hW9) (by rw [vup_s]; omega)) (mu_g (ne_oo hxo2 hg2 (by decide)) (mu_g (ne_oi hxo2 hp2.2.2) (mu_g (ne_oi hxo2 hp2.2.1) (mu_g (ne_oo hxo2 hp2.1 (by decide)) hxo2)))) rfl rfl rfl ⟨Nat.le_of_ble_eq_true rfl, Nat.le_of_ble_eq_true rfl⟩ hl.1 rfl (Nat.le_of_ble_eq_true rfl) dX3_move_107 ⟨by show 0 + (tC N cn) ≤ tC N cn; omega, by show 0 + (tS N cn) ≤ tS N cn; omega⟩) ?_
          have hf107_0 := kVer_le (va_up K (cn + 1) (kShK (K cn) a b)) (va_up pp (cn + 1) (kShP (pp cn) a b)) (va_up w (cn + 1) (kShW (w cn) a b ((w cn).getLsbD a))) (va_up bk (cn + 1) (kShW (bk cn) a b (!(w cn).getLsbD a))) (va_up wa (cn + 1) (!(wa cn))) (va_up qu (cn + 1) (qu cn + 1)) (cn + 1)
          refine w_put (C := RX0) (T := TX0) (N := 7) (ci := 0) hx hb hts hown hK hM hS inX0 rfl tyX0 tyX0_ok nmX0 6 (by decide) qw_1_71 rfl rfl mu_s hA_pa2 rfl rfl (Nat.le_of_ble_eq_true rfl) dX3_move_110 (fun H locs hM hS => ?_)
          rw [mu_mu] at hM
          replace hM : HM D (mu (mu (mu (mu M1 (po2 (cn + 1)) (.inr (1, [.ref (okk2 (cn + 1)), .ref (pt2 (cn + 1)), .long (bL (kShW (w cn) a b ((w cn).getLsbD a))), .long (bL (kShW (bk cn) a b (!(w cn).getLsbD a))), .int (bI (!(wa cn)))]))) (okk2 (cn + 1)) (eJ cJ 7 (fun ζ => bL ((kShK (K cn) a b) ζ)))) (pt2 (cn + 1)) (eI cI 64 (kShP (pp cn) a b))) (pa2 (cn + 1)) (.inr (0, [.ref (po2 (cn + 1)), pgV pa2 (cn + 1), .int (nI (cn + 1)), afV pa2 (tN N cn) (cn + 1), .int (nI (kKind (K cn) b)), .int (nI (qu cn + 1)), .int (nI (kVer (va_up K (cn + 1) (kShK (K cn) a b)) (va_up pp (cn + 1) (kShP (pp cn) a b)) (va_up w (cn + 1) (kShW (w cn) a b ((w cn).getLsbD a))) (va_up bk (cn + 1) (kShW (bk cn) a b (!(w cn).getLsbD a))) (va_up wa (cn + 1) (!(wa cn))) (va_up qu (cn + 1) (qu cn + 1)) (cn + 1)))]))) H := hM
          refine lv_iload hx hb dX3_move_113 (lv_at hl 0 rfl) ?_
          exact wr_ireturn hx hb hr hlk hM hS (by omega) (by omega) rfl (by rw [show kQui (K cn) a b (qu cn) = qu cn + 1 from by have z81 := c_81; simp at z81; simp [kQui, c_77, z81]]; exact ⟨pa2, po2, okk2, pt2, va_up ve2 (cn + 1) (kVer (va_up K (cn + 1) (kShK (K cn) a b)) (va_up pp (cn + 1) (kShP (pp cn) a b)) (va_up w (cn + 1) (kShW (w cn) a b ((w cn).getLsbD a))) (va_up bk (cn + 1) (kShW (bk cn) a b (!(w cn).getLsbD a))) (va_up wa (cn + 1) (!(wa cn))) (va_up qu (cn + 1) (qu cn + 1)) (cn + 1)), (by have hz := ((((hPs2.w1 hNx (w1 := (kShW (w cn) a b ((w cn).getLsbD a))) (b1 := (kShW (bk cn) a b (!(w cn).getLsbD a))) (a1 := !(wa cn))).w2 hNx (K1 := kShK (K cn) a b)).w3 hNx (p1 := kShP (pp cn) a b)).w4 hNx (c1 := kKind (K cn) b) (q1 := qu cn + 1) (v1 := kVer (va_up K (cn + 1) (kShK (K cn) a b)) (va_up pp (cn + 1) (kShP (pp cn) a b)) (va_up w (cn + 1) (kShW (w cn) a b ((w cn).getLsbD a))) (va_up bk (cn + 1) (kShW (bk cn) a b (!(w cn).getLsbD a))) (va_up wa (cn + 1) (!(wa cn))) (va_up qu (cn + 1) (qu cn + 1)) (cn + 1))); simp only [vup_vup, vup_id] at hz; exact hz), (mu_g (ne_oo hxo2 hg2 (by decide)) (mu_g (ne_oi hxo2 hp2.2.2) (mu_g (ne_oi hxo2 hp2.2.1) (mu_g (ne_oo hxo2 hp2.1 (by decide)) hxo2)))), (fun i hi => (vup_n (by omega)).trans (hve2 i hi)), vup_s, hsm2, hfr2, (Keep.upq (Keep.upq (Keep.upq (Keep.upq hkp2 hO_po2) hO_okk2) hO_pt2) hO_pa2)⟩) dX3_move_115
        · skip
          refine lv_aload_n hx hb dX3_move_84 rfl (lv_at hl 2 rfl) ?_
          refine w_get (C := RX3) (T := TX3) (N := 4) (ci := 2) hx hb hts hown hK hM inX3 rfl 2 (by decide) qw_1_104 rfl (mu_g (ne_oo hxo2 hg2 (by decide)) (mu_g (ne_oi hxo2 hp2.2.2) (mu_g (ne_oi hxo2 hp2.2.1) (mu_g (ne_oo hxo2 hp2.1 (by decide)) hxo2)))) rfl dX3_move_85 ?_
          refine lv_iconst (v := nI 0) hx hb dX3_move_88 (by decide) ?_
          refine w_put (C := RX0) (T := TX0) (N := 7) (ci := 0) hx hb hts hown hK hM hS inX0 rfl tyX0 tyX0_ok nmX0 5 (by decide) qw_1_70 rfl rfl mu_s hA_pa2 rfl rfl (Nat.le_of_ble_eq_true rfl) dX3_move_89 (fun H locs hM hS => ?_)
          rw [mu_mu] at hM
          replace hM : HM D (mu (mu (mu (mu M1 (po2 (cn + 1)) (.inr (1, [.ref (okk2 (cn + 1)), .ref (pt2 (cn + 1)), .long (bL (kShW (w cn) a b ((w cn).getLsbD a))), .long (bL (kShW (bk cn) a b (!(w cn).getLsbD a))), .int (bI (wa cn))]))) (okk2 (cn + 1)) (eJ cJ 7 (fun ζ => bL ((kShK (K cn) a b) ζ)))) (pt2 (cn + 1)) (eI cI 64 (kShP (pp cn) a b))) (pa2 (cn + 1)) (.inr (0, [.ref (po2 (cn + 1)), pgV pa2 (cn + 1), .int (nI (cn + 1)), afV pa2 (tN N cn) (cn + 1), .int (nI (kKind (K cn) b)), .int (nI 0), .int (nI (ve2 (cn + 1)))]))) H := hM
          refine lv_aload_n hx hb dX3_move_92 rfl (lv_at hl 2 rfl) ?_
          refine w_get (C := RX3) (T := TX3) (N := 4) (ci := 2) hx hb hts hown hK hM inX3 rfl 2 (by decide) qw_1_104 rfl (mu_g (ne_oo hxo2 hg2 (by decide)) (mu_g (ne_oi hxo2 hp2.2.2) (mu_g (ne_oi hxo2 hp2.2.1) (mu_g (ne_oo hxo2 hp2.1 (by decide)) hxo2)))) rfl dX3_move_93 ?_
          refine w_get (C := RX0) (T := TX0) (N := 7) (ci := 0) hx hb hts hown hK hM inX0 rfl 0 (by decide) qw_1_63 rfl mu_s rfl dX3_move_96 ?_
          refine wr_go0 (wr_runV (As := []) (rest := []) hx hb hml hown hts hK hM okV_RX3_216_X1_passTurn (met_X1_passTurn l (po2 (cn + 1)) (okk2 (cn + 1)) (pt2 (cn + 1)) (kShW (w cn) a b ((w cn).getLsbD a)) (kShW (bk cn) a b (!(w cn).getLsbD a)) (wa cn) (mu_g (ne_oo hp2.1 hg2 (by decide)) (mu_g (ne_oi hp2.1 hp2.2.2) (mu_g (ne_oi hp2.1 hp2.2.1) mu_s))) hA_po2) (mu_g (ne_oo hp2.1 hg2 (by decide)) (mu_g (ne_oi hp2.1 hp2.2.2) (mu_g (ne_oi hp2.1 hp2.2.1) mu_s))) rfl rfl rfl ⟨Nat.le_of_ble_eq_true rfl, Nat.le_of_ble_eq_true rfl⟩ hl.1 rfl (Nat.le_of_ble_eq_true rfl) dX3_move_99 ⟨by show 0 + (tC N cn) + 0 ≤ tC N cn; omega, by show 0 + (tS N cn) + 0 ≤ tS N cn; omega⟩) hS (fun M1 H locs hR hM hS => ?_)
          obtain rfl := hR
          rw [mu_comm (ne_oo hg2 hp2.1 (by decide)), mu_comm (ne_io hp2.2.2 hp2.1), mu_comm (ne_io hp2.2.1 hp2.1), mu_mu] at hM
          refine lv_aload_n hx hb dX3_move_102 rfl (lv_at hl 2 rfl) ?_
          refine w_get (C := RX3) (T := TX3) (N := 4) (ci := 2) hx hb hts hown hK hM inX3 rfl 2 (by decide) qw_1_104 rfl (mu_g (ne_oo hxo2 hg2 (by decide)) (mu_g (ne_oi hxo2 hp2.2.2) (mu_g (ne_oi hxo2 hp2.2.1) (mu_g (ne_oo hxo2 hp2.1 (by decide)) hxo2)))) rfl dX3_move_103 ?_
          refine lv_aload_n hx hb dX3_move_106 rfl (lv_at hl 2 rfl) ?_
          refine rd_goI (rd_runV (As := []) (rest := [.ref (pa2 (cn + 1))]) hx hb hml hown hts hK hM okV_RX3_100_X3_verdictNow (met_X3_verdictNow l xo tr (cn + 1) (tN N cn) su pa2 po2 okk2 pt2 (va_up K (cn + 1) (kShK (K cn) a b)) (va_up pp (cn + 1) (kShP (pp cn) a b)) (va_up w (cn + 1) (kShW (w cn) a b ((w cn).getLsbD a))) (va_up bk (cn + 1) (kShW (bk cn) a b (!(w cn).getLsbD a))) (va_up wa (cn + 1) (!(wa cn))) (va_up ca (cn + 1) (kKind (K cn) b)) (va_up qu (cn + 1) 0) ve2 (mu_g (ne_oo hxo2 hg2 (by decide)) (mu_g (ne_oi hxo2 hp2.2.2) (mu_g (ne_oi hxo2 hp2.2.1) (mu_g (ne_oo hxo2 hp2.1 (by decide)) hxo2)))) (by have hz := ((((hPs2.w1 hNx (w1 := (kShW (w cn) a b ((w cn).getLsbD a))) (b1 := (kShW (bk cn) a b (!(w cn).getLsbD a))) (a1 := !(wa cn))).w2 hNx (K1 := kShK (K cn) a b)).w3 hNx (p1 := kShP (pp cn) a b)).w4 hNx (c1 := kKind (K cn) b) (q1 := 0) (v1 := ve2 (cn + 1))); simp only [vup_vup, vup_id] at hz; exact hz) hNx (by omega) (by rw [vup_s]; exact hW9) (by rw [vup_s]; omega)) (mu_g (ne_oo hxo2 hg2 (by decide)) (mu_g (ne_oi hxo2 hp2.2.2) (mu_g (ne_oi hxo2 hp2.2.1) (mu_g (ne_oo hxo2 hp2.1 (by decide)) hxo2)))) rfl rfl rfl ⟨Nat.le_of_ble_eq_true rfl, Nat.le_of_ble_eq_true rfl⟩ hl.1 rfl (Nat.le_of_ble_eq_true rfl) dX3_move_107 ⟨by show 0 + (tC N cn) ≤ tC N cn; omega, by show 0 + (tS N cn) ≤ tS N cn; omega⟩) ?_
          have hf107_0 := kVer_le (va_up K (cn + 1) (kShK (K cn) a b)) (va_up pp (cn + 1) (kShP (pp cn) a b)) (va_up w (cn + 1) (kShW (w cn) a b ((w cn).getLsbD a))) (va_up bk (cn + 1) (kShW (bk cn) a b (!(w cn).getLsbD a))) (va_up wa (cn + 1) (!(wa cn))) (va_up qu (cn + 1) 0) (cn + 1)
          refine w_put (C := RX0) (T := TX0) (N := 7) (ci := 0) hx hb hts hown hK hM hS inX0 rfl tyX0 tyX0_ok nmX0 6 (by decide) qw_1_71 rfl rfl mu_s hA_pa2 rfl rfl (Nat.le_of_ble_eq_true rfl) dX3_move_110 (fun H locs hM hS => ?_)
          rw [mu_mu] at hM
          replace hM : HM D (mu (mu (mu (mu M1 (po2 (cn + 1)) (.inr (1, [.ref (okk2 (cn + 1)), .ref (pt2 (cn + 1)), .long (bL (kShW (w cn) a b ((w cn).getLsbD a))), .long (bL (kShW (bk cn) a b (!(w cn).getLsbD a))), .int (bI (!(wa cn)))]))) (okk2 (cn + 1)) (eJ cJ 7 (fun ζ => bL ((kShK (K cn) a b) ζ)))) (pt2 (cn + 1)) (eI cI 64 (kShP (pp cn) a b))) (pa2 (cn + 1)) (.inr (0, [.ref (po2 (cn + 1)), pgV pa2 (cn + 1), .int (nI (cn + 1)), afV pa2 (tN N cn) (cn + 1), .int (nI (kKind (K cn) b)), .int (nI 0), .int (nI (kVer (va_up K (cn + 1) (kShK (K cn) a b)) (va_up pp (cn + 1) (kShP (pp cn) a b)) (va_up w (cn + 1) (kShW (w cn) a b ((w cn).getLsbD a))) (va_up bk (cn + 1) (kShW (bk cn) a b (!(w cn).getLsbD a))) (va_up wa (cn + 1) (!(wa cn))) (va_up qu (cn + 1) 0) (cn + 1)))]))) H := hM
          refine lv_iload hx hb dX3_move_113 (lv_at hl 0 rfl) ?_
          exact wr_ireturn hx hb hr hlk hM hS (by omega) (by omega) rfl (by rw [show kQui (K cn) a b (qu cn) = 0 from by have z81 := c_81; simp at z81; simp [kQui, c_77, z81]]; exact ⟨pa2, po2, okk2, pt2, va_up ve2 (cn + 1) (kVer (va_up K (cn + 1) (kShK (K cn) a b)) (va_up pp (cn + 1) (kShP (pp cn) a b)) (va_up w (cn + 1) (kShW (w cn) a b ((w cn).getLsbD a))) (va_up bk (cn + 1) (kShW (bk cn) a b (!(w cn).getLsbD a))) (va_up wa (cn + 1) (!(wa cn))) (va_up qu (cn + 1) 0) (cn + 1)), (by have hz := ((((hPs2.w1 hNx (w1 := (kShW (w cn) a b ((w cn).getLsbD a))) (b1 := (kShW (bk cn) a b (!(w cn).getLsbD a))) (a1 := !(wa cn))).w2 hNx (K1 := kShK (K cn) a b)).w3 hNx (p1 := kShP (pp cn) a b)).w4 hNx (c1 := kKind (K cn) b) (q1 := 0) (v1 := kVer (va_up K (cn + 1) (kShK (K cn) a b)) (va_up pp (cn + 1) (kShP (pp cn) a b)) (va_up w (cn + 1) (kShW (w cn) a b ((w cn).getLsbD a))) (va_up bk (cn + 1) (kShW (bk cn) a b (!(w cn).getLsbD a))) (va_up wa (cn + 1) (!(wa cn))) (va_up qu (cn + 1) 0) (cn + 1))); simp only [vup_vup, vup_id] at hz; exact hz), (mu_g (ne_oo hxo2 hg2 (by decide)) (mu_g (ne_oi hxo2 hp2.2.2) (mu_g (ne_oi hxo2 hp2.2.1) (mu_g (ne_oo hxo2 hp2.1 (by decide)) hxo2)))), (fun i hi => (vup_n (by omega)).trans (hve2 i hi)), vup_s, hsm2, hfr2, (Keep.upq (Keep.upq (Keep.upq (Keep.upq hkp2 hO_po2) hO_okk2) hO_pt2) hO_pa2)⟩) dX3_move_115
    · skip
      refine ni_ne (tgt := 46) hx hb (kKind (K cn) a) 6 (by omega) (by omega) dX3_move_39 (by decide) (fun c_39 => ?_) (fun c_39 => ?_)
      · skip
        refine lv_iconst (v := nI 0) hx hb dX3_move_46 (by decide) ?_
        exact topi (bI (decide (kKind (K cn) a = 6))) (by simp [c_6, c_39, bI_t, bI_f]) hJ47
      · skip
        refine lv_iconst (v := nI 1) hx hb dX3_move_42 (by decide) ?_
        refine lv_goto (tgt := 47) hx hb dX3_move_43 (by decide) ?_
        exact topi (bI (decide (kKind (K cn) a = 6))) (by simp [c_6, c_39, bI_t, bI_f]) hJ47
set_option maxHeartbeats 4000000 in
set_option maxRecDepth 100000 in
theorem met_X3_endSetup (l : Launch) {D : va_G} {cI cJ : ClassId} {M : MP} {A : Nat → Prop} {sz : Nat} (xo tr cn N : Nat) (su : Bool) (pa po okk pt : Nat → Nat) (K : Nat → Nat → BitVec 64) (pp : Nat → Nat → Int32) (w bk : Nat → BitVec 64) (wa : Nat → Bool) (ca qu ve : Nat → Nat) (b : Bool) (hxo : M xo = some (.inr (2, [.ref (pa 0), .ref tr, .ref (pa cn), .int (bI su)]))) (hPs : Pages cI cJ M pa po okk pt K pp w bk wa ca qu ve N) (hcn : cn < N) (hN : N ≤ 514) (hsu : su = true) (hbg : kBeg (K cn) (w cn) (bk cn) b = true) (hW : WfPt (pp cn)) (hqu : qu cn < 2 ^ 31) (hA_xo : A xo) (hA_po_cn : A (po cn)) (hA_pa_cn : A (pa cn)) : Wr l yX3_endSetup cX3_endSetup 3 (some .int) 6 0 0 D cI cJ [.ref xo, .int (bI b)] M sz A (some (.int (nI (kVer K pp w bk (va_up wa cn b) qu cn)))) (fun M' => M' = mu (mu (mu M xo (.inr (2, [.ref (pa 0), .ref tr, .ref (pa cn), .int (bI false)]))) (po cn) (.inr (1, [.ref (okk cn), .ref (pt cn), .long (bL (w cn)), .long (bL (bk cn)), .int (bI b)]))) (pa cn) (.inr (0, [.ref (po cn), pgV pa cn, .int (nI cn), afV pa N cn, .int (nI (ca cn)), .int (nI (qu cn)), .int (nI (kVer K pp w bk (va_up wa cn b) qu cn))]))) := by
  refine wr_start (by decide) (Nat.le_of_ble_eq_true rfl) ?_
  intro p e s m args below meth c hx hb hr hml hown hts hlk hini hK hsz H hH0 hM hS ls hl
  clear hH0
  have hl : lv_has ls 3 [(0, .ref xo), (1, .int (bI b))] := hl
  refine lv_aload_n hx hb dX3_endSetup_0 rfl (lv_at hl 0 rfl) ?_
  refine w_get (C := RX3) (T := TX3) (N := 4) (ci := 2) hx hb hts hown hK hM inX3 rfl 2 (by decide) qw_1_104 rfl hxo rfl dX3_endSetup_1 ?_
  refine w_get (C := RX0) (T := TX0) (N := 7) (ci := 0) hx hb hts hown hK hM inX0 rfl 0 (by decide) qw_1_63 rfl (hPs.1 cn hcn) rfl dX3_endSetup_4 ?_
  refine lv_astore_n (lv' := [(2, .ref (po cn)), (0, .ref xo), (1, .int (bI b))]) hx hb dX3_endSetup_7 rfl hl (by decide) rfl (fun ls hl => ?_)
  refine lv_aload_n hx hb dX3_endSetup_8 rfl (lv_at hl 1 rfl) ?_
  refine w_get (C := RX3) (T := TX3) (N := 4) (ci := 2) hx hb hts hown hK hM inX3 rfl 3 (by decide) qw_1_105 rfl hxo rfl dX3_endSetup_9 ?_
  refine topi (bI true) (by rw [hsu]) ?_
  refine zb_eq (tgt := 23) hx hb true dX3_endSetup_12 (by decide) (fun h => absurd (h.symm.trans (rfl : true = true)) (by decide)) (fun _ => ?_)
  refine lv_aload_n hx hb dX3_endSetup_15 rfl (lv_at hl 0 rfl) ?_
  refine lv_iload_n hx hb dX3_endSetup_16 rfl (lv_at hl 2 rfl) ?_
  refine rd_goI (rd_runV (As := [.int (bI b)]) (rest := []) hx hb hml hown hts hK hM okV_RX3_91_X1_canBegin (met_X1_canBegin l (po cn) (okk cn) (pt cn) (K cn) (w cn) (bk cn) (wa cn) b (hPs.2.1 cn hcn).1 (hPs.2.1 cn hcn).2.1) (hPs.2.1 cn hcn).1 rfl rfl rfl ⟨Nat.le_of_ble_eq_true rfl, Nat.le_of_ble_eq_true rfl⟩ hl.1 rfl (Nat.le_of_ble_eq_true rfl) dX3_endSetup_17 ⟨Nat.le_refl _, Nat.le_refl _⟩) ?_
  refine topi (bI true) (by rw [hbg]) ?_
  refine zb_ne (tgt := 33) hx hb true dX3_endSetup_20 (by decide) (fun _ => ?_) (fun h => absurd (h.symm.trans (rfl : true = true)) (by decide))
  refine lv_aload_n hx hb dX3_endSetup_33 rfl (lv_at hl 1 rfl) ?_
  refine lv_iconst (v := nI 0) hx hb dX3_endSetup_34 (by decide) ?_
  refine topi (bI false) rfl ?_
  refine w_put (C := RX3) (T := TX3) (N := 4) (ci := 2) hx hb hts hown hK hM hS inX3 rfl tyX3 tyX3_ok nmX3 3 (by decide) qw_1_105 rfl rfl hxo hA_xo (bI_nar _) (bI_fit _) (Nat.le_of_ble_eq_true rfl) dX3_endSetup_35 (fun H locs hM hS => ?_)
  replace hM : HM D (mu M xo (.inr (2, [.ref (pa 0), .ref tr, .ref (pa cn), .int (bI false)]))) H := hM
  refine lv_aload_n hx hb dX3_endSetup_38 rfl (lv_at hl 0 rfl) ?_
  refine lv_iload_n hx hb dX3_endSetup_39 rfl (lv_at hl 2 rfl) ?_
  refine w_put (C := RX1) (T := TX1) (N := 5) (ci := 1) hx hb hts hown hK hM hS inX1 rfl tyX1 tyX1_ok nmX1 4 (by decide) qw_1_48 rfl rfl (mu_g (ne_oo (hPs.2.1 cn hcn).1 hxo (by decide)) (hPs.2.1 cn hcn).1) hA_po_cn (bI_nar _) (bI_fit _) (Nat.le_of_ble_eq_true rfl) dX3_endSetup_40 (fun H locs hM hS => ?_)
  replace hM : HM D (mu (mu M xo (.inr (2, [.ref (pa 0), .ref tr, .ref (pa cn), .int (bI false)]))) (po cn) (.inr (1, [.ref (okk cn), .ref (pt cn), .long (bL (w cn)), .long (bL (bk cn)), .int (bI b)]))) H := hM
  refine lv_aload_n hx hb dX3_endSetup_43 rfl (lv_at hl 1 rfl) ?_
  refine w_get (C := RX3) (T := TX3) (N := 4) (ci := 2) hx hb hts hown hK hM inX3 rfl 2 (by decide) qw_1_104 rfl (mu_g (ne_oo hxo (hPs.2.1 cn hcn).1 (by decide)) mu_s) rfl dX3_endSetup_44 ?_
  refine lv_aload_n hx hb dX3_endSetup_47 rfl (lv_at hl 1 rfl) ?_
  refine rd_goI (rd_runV (As := []) (rest := [.ref (pa cn)]) hx hb hml hown hts hK hM okV_RX3_100_X3_verdictNow (met_X3_verdictNow l xo tr cn N false pa po okk pt K pp w bk (va_up wa cn b) ca qu ve (mu_g (ne_oo hxo (hPs.2.1 cn hcn).1 (by decide)) mu_s) (by have hz := ((hPs.w0 (a := xo) (x := .inr (2, [.ref (pa 0), .ref tr, .ref (pa cn), .int (bI false)])) (fun i h => ⟨ne_oo (hPs.1 i h) hxo (by decide), ne_oo (hPs.2.1 i h).1 hxo (by decide), Ne.symm (ne_oi hxo (hPs.2.1 i h).2.1), Ne.symm (ne_oi hxo (hPs.2.1 i h).2.2)⟩)).w1 hcn (w1 := w cn) (b1 := bk cn) (a1 := b)); simp only [vup_id] at hz; exact hz) hcn (by omega) hW hqu) (mu_g (ne_oo hxo (hPs.2.1 cn hcn).1 (by decide)) mu_s) rfl rfl rfl ⟨Nat.le_of_ble_eq_true rfl, Nat.le_of_ble_eq_true rfl⟩ hl.1 rfl (Nat.le_of_ble_eq_true rfl) dX3_endSetup_48 ⟨Nat.le_refl _, Nat.le_refl _⟩) ?_
  have hf48_0 := kVer_le K pp w bk (va_up wa cn b) qu cn
  refine w_put (C := RX0) (T := TX0) (N := 7) (ci := 0) hx hb hts hown hK hM hS inX0 rfl tyX0 tyX0_ok nmX0 6 (by decide) qw_1_71 rfl rfl (mu_g (ne_oo (hPs.1 cn hcn) (hPs.2.1 cn hcn).1 (by decide)) (mu_g (ne_oo (hPs.1 cn hcn) hxo (by decide)) (hPs.1 cn hcn))) hA_pa_cn rfl rfl (Nat.le_of_ble_eq_true rfl) dX3_endSetup_51 (fun H locs hM hS => ?_)
  replace hM : HM D (mu (mu (mu M xo (.inr (2, [.ref (pa 0), .ref tr, .ref (pa cn), .int (bI false)]))) (po cn) (.inr (1, [.ref (okk cn), .ref (pt cn), .long (bL (w cn)), .long (bL (bk cn)), .int (bI b)]))) (pa cn) (.inr (0, [.ref (po cn), pgV pa cn, .int (nI cn), afV pa N cn, .int (nI (ca cn)), .int (nI (qu cn)), .int (nI (kVer K pp w bk (va_up wa cn b) qu cn))]))) H := hM
  refine lv_aload_n hx hb dX3_endSetup_54 rfl (lv_at hl 1 rfl) ?_
  refine w_get (C := RX3) (T := TX3) (N := 4) (ci := 2) hx hb hts hown hK hM inX3 rfl 2 (by decide) qw_1_104 rfl (mu_g (ne_oo hxo (hPs.1 cn hcn) (by decide)) (mu_g (ne_oo hxo (hPs.2.1 cn hcn).1 (by decide)) mu_s)) rfl dX3_endSetup_55 ?_
  refine w_get (C := RX0) (T := TX0) (N := 7) (ci := 0) hx hb hts hown hK hM inX0 rfl 6 (by decide) qw_1_71 rfl mu_s rfl dX3_endSetup_58 ?_
  exact wr_ireturn hx hb hr hlk hM hS (Nat.le_refl _) (Nat.le_refl _) rfl rfl dX3_endSetup_61
