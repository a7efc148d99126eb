theorem okS_RX3_243_X3_weightOf : okS RX3 243 yX3_weightOf cX3_weightOf 2 (some .float) 2 := okS_of qw_2_121 qw_2_122 qw_1_1 qw_2_123 (by decide +kernel)
theorem okS_RX3_58_X3_requireKind : okS RX3 58 yX3_requireKind cX3_requireKind 1 none 1 := okS_of qw_2_225 qw_2_226 qw_1_1 qw_2_227 (by decide +kernel)
theorem okV_RX3_207_X1_shift : okV RX3 207 yX1_shift cX1_shift 9 (some .int) 2 := okV_of qw_2_66 qw_2_67 qw_2_68 qw_1_3 qw_2_69 (by decide +kernel)
theorem okV_RX3_216_X1_passTurn : okV RX3 216 yX1_passTurn cX1_passTurn 1 none 0 := okV_of qw_2_80 qw_2_81 qw_2_82 qw_1_3 qw_2_83 (by decide +kernel)
theorem okV_RX3_259_X1_copyFrom : okV RX3 259 yX1_copyFrom cX1_copyFrom 2 none 1 := okV_of qw_2_59 qw_2_60 qw_2_61 qw_1_3 qw_2_62 (by decide +kernel)
theorem okV_RX3_35_X1_put : okV RX3 35 yX1_put cX1_put 4 none 3 := okV_of qw_1_91 qw_1_92 qw_1_93 qw_1_3 qw_1_94 (by decide +kernel)
theorem okV_RX3_61_X1_hasRoomFor : okV RX3 61 yX1_hasRoomFor cX1_hasRoomFor 5 (some .boolean) 3 := okV_of qw_3_4 qw_3_5 qw_3_6 qw_1_3 qw_3_7 (by decide +kernel)
theorem okV_RX3_88_X1_lift : okV RX3 88 yX1_lift cX1_lift 5 none 1 := okV_of qw_3_33 qw_2_75 qw_2_76 qw_1_3 qw_2_77 (by decide +kernel)
set_option maxHeartbeats 4000000 in
set_option maxRecDepth 100000 in
theorem met_X3_place (l : Launch) {D : va_G} {cI cJ : ClassId} {M : MP} {A : Nat → Prop} {sz : Nat} (xo fr tr pg : Nat) (su : Bool) (bf af : Value) (nu ca qu ve : Nat) (po okk pt : Nat) (K : Nat → BitVec 64)  (w bk : BitVec 64) (wa : Bool) (j k : Nat) (b : Bool) (hxo : M xo = some (.inr (2, [.ref fr, .ref tr, .ref pg, .int (bI su)]))) (hpg : M pg = some (.inr (0, [.ref po, bf, .int (nI nu), af, .int (nI ca), .int (nI qu), .int (nI ve)]))) (hpo : M po = some (.inr (1, [.ref okk, .ref pt, .long (bL w), .long (bL bk), .int (bI wa)]))) (hokk : M okk = some (eJ cJ 7 (fun ζ => bL (K ζ)))) (hj : j < 64) (hk1 : 1 ≤ k) (hk6 : k ≤ 6) (hsu : su = true) (hrm : kRoom K w bk j k b = true) (hA_po : A po) (hA_okk : A okk) : Wr l yX3_place cX3_place 5 (some .int) 3 0 0 D cI cJ [.ref xo, .int (nI j), .int (nI k), .int (bI b)] M sz A (some (.int (nI (pcnt (kPtW w j b ||| kPtW bk j (!b)))))) (fun M' => M' = mu (mu M po (.inr (1, [.ref okk, .ref pt, .long (bL (kPtW w j b)), .long (bL (kPtW bk j (!b))), .int (bI wa)]))) okk (eJ cJ 7 (fun ζ => bL ((kPut K k j) ζ)))) := by
  refine wr_start (by decide) (Nat.le_of_ble_eq_true rfl) ?_
  intro p e s m args below meth c hx hb hr hml hown hts hlk hini hK hsz H hH0 hM hS ls hl
  clear hH0
  have hl : lv_has ls 5 [(0, .ref xo), (1, .int (nI j)), (2, .int (nI k)), (3, .int (bI b))] := hl
  refine lv_iload_n hx hb dX3_place_0 rfl (lv_at hl 1 rfl) ?_
  refine wr_go0 (wr_runS (As := [.int (nI j)]) (rest := []) hx hb hml hown hts hK hM okS_RX3_54_X3_requireSquare (met_X3_requireSquare l j (by omega)) rfl ⟨Nat.le_of_ble_eq_true rfl, Nat.le_of_ble_eq_true rfl⟩ hl.1 rfl (Nat.le_of_ble_eq_true rfl) dX3_place_1 ⟨Nat.le_refl _, Nat.le_refl _⟩) hS (fun M1 H locs hR hM hS => ?_)
  rw [show M1 = M from hR] at hM
  refine lv_iload_n hx hb dX3_place_4 rfl (lv_at hl 2 rfl) ?_
  refine wr_go0 (wr_runS (As := [.int (nI k)]) (rest := []) hx hb hml hown hts hK hM okS_RX3_58_X3_requireKind (met_X3_requireKind l k (by omega) (by omega)) rfl ⟨Nat.le_of_ble_eq_true rfl, Nat.le_of_ble_eq_true rfl⟩ hl.1 rfl (Nat.le_of_ble_eq_true rfl) dX3_place_5 ⟨Nat.le_refl _, Nat.le_refl _⟩) hS (fun M1 H locs hR hM hS => ?_)
  rw [show M1 = M from hR] at hM
  refine lv_aload_n hx hb dX3_place_8 rfl (lv_at hl 0 rfl) ?_
  refine w_get (C := RX3) (T := TX3) (N := 4) (ci := 2) hx hb hts hown hK hM inX3 rfl 2 (by decide) qw_1_104 rfl hxo rfl dX3_place_9 ?_
  refine w_get (C := RX0) (T := TX0) (N := 7) (ci := 0) hx hb hts hown hK hM inX0 rfl 0 (by decide) qw_1_63 rfl hpg rfl dX3_place_12 ?_
  refine lv_astore (lv' := [(4, .ref po), (0, .ref xo), (1, .int (nI j)), (2, .int (nI k)), (3, .int (bI b))]) hx hb dX3_place_15 hl (by decide) rfl (fun ls hl => ?_)
  refine lv_aload_n hx hb dX3_place_17 rfl (lv_at hl 1 rfl) ?_
  refine w_get (C := RX3) (T := TX3) (N := 4) (ci := 2) hx hb hts hown hK hM inX3 rfl 3 (by decide) qw_1_105 rfl hxo rfl dX3_place_18 ?_
  refine topi (bI true) (by rw [hsu]) ?_
  refine zb_eq (tgt := 35) hx hb true dX3_place_21 (by decide) (fun h => absurd (h.symm.trans (rfl : true = true)) (by decide)) (fun _ => ?_)
  refine lv_aload hx hb dX3_place_24 (lv_at hl 0 rfl) ?_
  refine lv_iload_n hx hb dX3_place_26 rfl (lv_at hl 2 rfl) ?_
  refine lv_iload_n hx hb dX3_place_27 rfl (lv_at hl 3 rfl) ?_
  refine lv_iload_n hx hb dX3_place_28 rfl (lv_at hl 4 rfl) ?_
  refine rd_goI (rd_runV (As := [.int (nI j), .int (nI k), .int (bI b)]) (rest := []) hx hb hml hown hts hK hM okV_RX3_61_X1_hasRoomFor (met_X1_hasRoomFor l po okk pt K w bk wa j k b hpo hokk (by omega) (by omega) (by omega)) hpo rfl rfl rfl ⟨Nat.le_of_ble_eq_true rfl, Nat.le_of_ble_eq_true rfl⟩ hl.1 rfl (Nat.le_of_ble_eq_true rfl) dX3_place_29 ⟨Nat.le_refl _, Nat.le_refl _⟩) ?_
  refine topi (bI true) (by rw [hrm]) ?_
  refine zb_ne (tgt := 45) hx hb true dX3_place_32 (by decide) (fun _ => ?_) (fun h => absurd (h.symm.trans (rfl : true = true)) (by decide))
  refine lv_aload hx hb dX3_place_45 (lv_at hl 0 rfl) ?_
  refine lv_iload_n hx hb dX3_place_47 rfl (lv_at hl 2 rfl) ?_
  refine lv_iload_n hx hb dX3_place_48 rfl (lv_at hl 3 rfl) ?_
  refine lv_iload_n hx hb dX3_place_49 rfl (lv_at hl 4 rfl) ?_
  refine wr_go0 (wr_runV (As := [.int (nI j), .int (nI k), .int (bI b)]) (rest := []) hx hb hml hown hts hK hM okV_RX3_35_X1_put (met_X1_put l po okk pt K w bk wa j k b hpo hokk (by omega) (by omega) (by omega) hA_po hA_okk) hpo rfl rfl rfl ⟨Nat.le_of_ble_eq_true rfl, Nat.le_of_ble_eq_true rfl⟩ hl.1 rfl (Nat.le_of_ble_eq_true rfl) dX3_place_50 ⟨Nat.le_refl _, Nat.le_refl _⟩) hS (fun M1 H locs hR hM hS => ?_)
  obtain rfl := hR
  refine lv_aload hx hb dX3_place_53 (lv_at hl 0 rfl) ?_
  refine rd_goL (rd_runV (As := []) (rest := []) hx hb hml hown hts hK hM okV_RX3_72_X1_occupied (met_X1_occupied l po okk pt (kPtW w j b) (kPtW bk j (!b)) wa (mu_g (ne_oi hpo hokk) mu_s)) (mu_g (ne_oi hpo hokk) mu_s) rfl rfl rfl ⟨Nat.le_of_ble_eq_true rfl, Nat.le_of_ble_eq_true rfl⟩ hl.1 rfl (Nat.le_of_ble_eq_true rfl) dX3_place_55 ⟨Nat.le_refl _, Nat.le_refl _⟩) ?_
  refine rd_goI (rd_runS (As := [.long (bL ((kPtW w j b) ||| (kPtW bk j (!b))))]) (rest := []) hx hb hml hown hts hK hM okS_RX3_76_J13_bitCount_95d88 (met_J13_bitCount_95d88 l ((kPtW w j b) ||| (kPtW bk j (!b)))) rfl ⟨Nat.le_of_ble_eq_true rfl, Nat.le_of_ble_eq_true rfl⟩ hl.1 rfl (Nat.le_of_ble_eq_true rfl) dX3_place_58 ⟨Nat.le_refl _, Nat.le_refl _⟩) ?_
  have hf58_0 := pcnt_le ((kPtW w j b) ||| (kPtW bk j (!b)))
  exact wr_ireturn hx hb hr hlk hM hS (Nat.le_refl _) (Nat.le_refl _) rfl rfl dX3_place_61
set_option maxHeartbeats 4000000 in
set_option maxRecDepth 100000 in
theorem met_X3_remove (l : Launch) {D : va_G} {cI cJ : ClassId} {M : MP} {A : Nat → Prop} {sz : Nat} (xo fr tr pg : Nat) (su : Bool) (bf af : Value) (nu ca qu ve : Nat) (po okk pt : Nat) (K : Nat → BitVec 64)  (w bk : BitVec 64) (wa : Bool) (j : Nat) (hxo : M xo = some (.inr (2, [.ref fr, .ref tr, .ref pg, .int (bI su)]))) (hpg : M pg = some (.inr (0, [.ref po, bf, .int (nI nu), af, .int (nI ca), .int (nI qu), .int (nI ve)]))) (hpo : M po = some (.inr (1, [.ref okk, .ref pt, .long (bL w), .long (bL bk), .int (bI wa)]))) (hokk : M okk = some (eJ cJ 7 (fun ζ => bL (K ζ)))) (hj : j < 64) (hsu : su = true) (hkd : 1 ≤ kKind K j) (hA_po : A po) (hA_okk : A okk) : Wr l yX3_remove cX3_remove 4 (some .int) 2 0 0 D cI cJ [.ref xo, .int (nI j)] M sz A (some (.int (nI (kKind K j)))) (fun M' => M' = mu (mu M po (.inr (1, [.ref okk, .ref pt, .long (bL (w &&& kNot (kB j))), .long (bL (bk &&& kNot (kB j))), .int (bI wa)]))) okk (eJ cJ 7 (fun ζ => bL ((kLift K j) ζ)))) := by
  refine wr_start (by decide) (Nat.le_of_ble_eq_true rfl) ?_
  intro p e s m args below meth c hx hb hr hml hown hts hlk hini hK hsz H hH0 hM hS ls hl
  clear hH0
  have hl : lv_has ls 4 [(0, .ref xo), (1, .int (nI j))] := hl
  refine lv_iload_n hx hb dX3_remove_0 rfl (lv_at hl 1 rfl) ?_
  refine wr_go0 (wr_runS (As := [.int (nI j)]) (rest := []) hx hb hml hown hts hK hM okS_RX3_54_X3_requireSquare (met_X3_requireSquare l j (by omega)) rfl ⟨Nat.le_of_ble_eq_true rfl, Nat.le_of_ble_eq_true rfl⟩ hl.1 rfl (Nat.le_of_ble_eq_true rfl) dX3_remove_1 ⟨Nat.le_refl _, Nat.le_refl _⟩) hS (fun M1 H locs hR hM hS => ?_)
  rw [show M1 = M from hR] at hM
  refine lv_aload_n hx hb dX3_remove_4 rfl (lv_at hl 0 rfl) ?_
  refine w_get (C := RX3) (T := TX3) (N := 4) (ci := 2) hx hb hts hown hK hM inX3 rfl 2 (by decide) qw_1_104 rfl hxo rfl dX3_remove_5 ?_
  refine w_get (C := RX0) (T := TX0) (N := 7) (ci := 0) hx hb hts hown hK hM inX0 rfl 0 (by decide) qw_1_63 rfl hpg rfl dX3_remove_8 ?_
  refine lv_astore_n (lv' := [(2, .ref po), (0, .ref xo), (1, .int (nI j))]) hx hb dX3_remove_11 rfl hl (by decide) rfl (fun ls hl => ?_)
  refine lv_aload_n hx hb dX3_remove_12 rfl (lv_at hl 0 rfl) ?_
  refine lv_iload_n hx hb dX3_remove_13 rfl (lv_at hl 2 rfl) ?_
  refine rd_goI (rd_runV (As := [.int (nI j)]) (rest := []) hx hb hml hown hts hK hM okV_RX3_82_X1_kindOn (met_X1_kindOn l po okk pt K w bk wa j hpo hokk (by omega)) hpo rfl rfl rfl ⟨Nat.le_of_ble_eq_true rfl, Nat.le_of_ble_eq_true rfl⟩ hl.1 rfl (Nat.le_of_ble_eq_true rfl) dX3_remove_14 ⟨Nat.le_refl _, Nat.le_refl _⟩) ?_
  have hf14_0 := kKind_lt K j
  refine lv_istore_n (lv' := [(3, .int (nI (kKind K j))), (2, .ref po), (0, .ref xo), (1, .int (nI j))]) hx hb dX3_remove_17 rfl hl (by decide) rfl (fun ls hl => ?_)
  refine lv_aload_n hx hb dX3_remove_18 rfl (lv_at hl 2 rfl) ?_
  refine w_get (C := RX3) (T := TX3) (N := 4) (ci := 2) hx hb hts hown hK hM inX3 rfl 3 (by decide) qw_1_105 rfl hxo rfl dX3_remove_19 ?_
  refine topi (bI true) (by rw [hsu]) ?_
  refine zb_eq (tgt := 29) hx hb true dX3_remove_22 (by decide) (fun h => absurd (h.symm.trans (rfl : true = true)) (by decide)) (fun _ => ?_)
  refine lv_iload_n hx hb dX3_remove_25 rfl (lv_at hl 0 rfl) ?_
  refine n0_ne (tgt := 39) hx hb (kKind K j) (by omega) dX3_remove_26 (by decide) (fun c_26 => ?_) (fun c_26 => ?_)
  · skip
    refine lv_aload_n hx hb dX3_remove_39 rfl (lv_at hl 1 rfl) ?_
    refine lv_iload_n hx hb dX3_remove_40 rfl (lv_at hl 3 rfl) ?_
    refine wr_go0 (wr_runV (As := [.int (nI j)]) (rest := []) hx hb hml hown hts hK hM okV_RX3_88_X1_lift (met_X1_lift l po okk pt K w bk wa j hpo hokk (by omega) hA_po hA_okk) hpo rfl rfl rfl ⟨Nat.le_of_ble_eq_true rfl, Nat.le_of_ble_eq_true rfl⟩ hl.1 rfl (Nat.le_of_ble_eq_true rfl) dX3_remove_41 ⟨Nat.le_refl _, Nat.le_refl _⟩) hS (fun M1 H locs hR hM hS => ?_)
    obtain rfl := hR
    refine lv_iload_n hx hb dX3_remove_44 rfl (lv_at hl 0 rfl) ?_
    exact wr_ireturn hx hb hr hlk hM hS (Nat.le_refl _) (Nat.le_refl _) rfl rfl dX3_remove_45
  · skip
    exfalso; omega
set_option maxHeartbeats 4000000 in
set_option maxRecDepth 100000 in
theorem met_X3_weightOf (l : Launch) {D : va_G} {cI cJ : ClassId} {M : MP} (k : Nat) (b : Bool) (hk : k < 8) : RdF l yX3_weightOf cX3_weightOf 2 (some .float) 0 D cI cJ [.int (nI k), .int (bI b)] M (kWt k b) := by
  refine rd_start (by decide) (Nat.le_of_ble_eq_true rfl) ?_
  intro p e s m args below meth c hx hb hr hml hown hts hlk hK hM ls hl
  have hl : lv_has ls 2 [(0, .int (nI k)), (1, .int (bI b))] := hl
  refine lv_iload_n hx hb dX3_weightOf_0 rfl (lv_at hl 0 rfl) ?_
  rcases (show k = 2 ∨ k = 3 ∨ k = 4 ∨ k = 5 ∨ k = 6 ∨ (k < 2 ∨ 6 < k) from by omega) with c_1 | c_1 | c_1 | c_1 | c_1 | c_1
  · refine sw_at c_1 ?_
    refine lv_tableIn (tgt := 36) (off := 35) hx hb dX3_weightOf_1 (by decide) (by decide) (by decide) (by decide) ?_
    refine w_ldcwf (v := 1092091904) hx hb hown (hts _ qw_2_124) dX3_weightOf_36 ?_
    exact rd_freturn hx hb hr hlk (by simp [kWt, bI_t, bI_f, c_1]) dX3_weightOf_39
  · refine sw_at c_1 ?_
    refine lv_tableIn (tgt := 40) (off := 39) hx hb dX3_weightOf_1 (by decide) (by decide) (by decide) (by decide) ?_
    refine w_ldcwf (v := 1084227584) hx hb hown (hts _ qw_2_125) dX3_weightOf_40 ?_
    exact rd_freturn hx hb hr hlk (by simp [kWt, bI_t, bI_f, c_1]) dX3_weightOf_43
  · refine sw_at c_1 ?_
    refine lv_tableIn (tgt := 44) (off := 43) hx hb dX3_weightOf_1 (by decide) (by decide) (by decide) (by decide) ?_
    refine w_ldcwf (v := 1079194419) hx hb hown (hts _ qw_2_126) dX3_weightOf_44 ?_
    exact rd_freturn hx hb hr hlk (by simp [kWt, bI_t, bI_f, c_1]) dX3_weightOf_47
  · refine sw_at c_1 ?_
    refine lv_tableIn (tgt := 48) (off := 47) hx hb dX3_weightOf_1 (by decide) (by decide) (by decide) (by decide) ?_
    refine lv_iload_n hx hb dX3_weightOf_48 rfl (lv_at hl 1 rfl) ?_
    refine zb_eq (tgt := 58) hx hb b dX3_weightOf_49 (by decide) (fun c_49 => ?_) (fun c_49 => ?_)
    · skip
      refine w_ldcwf (v := 1078774989) hx hb hown (hts _ qw_2_128) dX3_weightOf_58 ?_
      exact rd_freturn hx hb hr hlk (by simp [kWt, bI_t, bI_f, c_1, c_49]) dX3_weightOf_61
    · skip
      refine w_ldcwf (v := 1080872141) hx hb hown (hts _ qw_2_127) dX3_weightOf_52 ?_
      refine lv_goto (tgt := 61) hx hb dX3_weightOf_55 (by decide) ?_
      exact rd_freturn hx hb hr hlk (by simp [kWt, bI_t, bI_f, c_1, c_49]) dX3_weightOf_61
  · refine sw_at c_1 ?_
    refine lv_tableIn (tgt := 62) (off := 61) hx hb dX3_weightOf_1 (by decide) (by decide) (by decide) (by decide) ?_
    refine lv_fconst1 hx hb dX3_weightOf_62 ?_
    exact rd_freturn hx hb hr hlk (by simp [kWt, bI_t, bI_f, c_1]) dX3_weightOf_63
  · refine lv_tableOut (tgt := 64) hx hb dX3_weightOf_1 (sw_out (by omega) c_1) (by decide) ?_
    refine lv_fconst0 hx hb dX3_weightOf_64 ?_
    exact rd_freturn hx hb hr hlk (by simp [kWt, bI_t, bI_f, show ¬ k = 2 by omega, show ¬ k = 3 by omega, show ¬ k = 4 by omega, show ¬ k = 5 by omega, show ¬ k = 6 by omega]) dX3_weightOf_65
set_option maxHeartbeats 4000000 in
set_option maxRecDepth 100000 in
theorem met_X3_strengthOf (l : Launch) {D : va_G} {cI cJ : ClassId} {M : MP} {A : Nat → Prop} {sz : Nat} (xo fr tr pg : Nat) (su : Bool) (bf af : Value) (nu ca qu ve : Nat) (po okk pt : Nat) (K : Nat → BitVec 64) (pp : Nat → Int32) (w bk : BitVec 64) (wa : Bool) (b : Bool) (hxo : M xo = some (.inr (2, [.ref fr, .ref tr, .ref pg, .int (bI su)]))) (hpg : M pg = some (.inr (0, [.ref po, bf, .int (nI nu), af, .int (nI ca), .int (nI qu), .int (nI ve)]))) (hpo : M po = some (.inr (1, [.ref okk, .ref pt, .long (bL w), .long (bL bk), .int (bI wa)]))) (hokk : M okk = some (eJ cJ 7 (fun ζ => bL (K ζ)))) (hpt : M pt = some (eI cI 64 pp)) (hst : KStOk K pp w bk b) : Wr l yX3_strengthOf cX3_strengthOf 7 (some .float) 3 0 0 D cI cJ [.ref xo, .int (bI b)] M sz A (some (.float (kSth K pp w bk b))) (fun M' => M' = M) := by
  refine wr_start (by decide) (Nat.le_of_ble_eq_true rfl) ?_
  intro p e s m args below meth c hx hb hr hml hown hts hlk hini hK hsz H hH0 hM hS ls hl
  clear hH0
  have hl : lv_has ls 7 [(0, .ref xo), (1, .int (bI b))] := hl
  refine lv_aload_n hx hb dX3_strengthOf_0 rfl (lv_at hl 0 rfl) ?_
  refine w_get (C := RX3) (T := TX3) (N := 4) (ci := 2) hx hb hts hown hK hM inX3 rfl 2 (by decide) qw_1_104 rfl hxo rfl dX3_strengthOf_1 ?_
  refine w_get (C := RX0) (T := TX0) (N := 7) (ci := 0) hx hb hts hown hK hM inX0 rfl 0 (by decide) qw_1_63 rfl hpg rfl dX3_strengthOf_4 ?_
  refine lv_astore_n (lv' := [(2, .ref po), (0, .ref xo), (1, .int (bI b))]) hx hb dX3_strengthOf_7 rfl hl (by decide) rfl (fun ls hl => ?_)
  refine lv_aload_n hx hb dX3_strengthOf_8 rfl (lv_at hl 0 rfl) ?_
  refine lv_iload_n hx hb dX3_strengthOf_9 rfl (lv_at hl 2 rfl) ?_
  refine rd_goL (rd_runV (As := [.int (bI b)]) (rest := []) hx hb hml hown hts hK hM okV_RX3_113_X1_side (met_X1_side l po okk pt w bk wa b hpo) hpo rfl rfl rfl ⟨Nat.le_of_ble_eq_true rfl, Nat.le_of_ble_eq_true rfl⟩ hl.1 rfl (Nat.le_of_ble_eq_true rfl) dX3_strengthOf_10 ⟨Nat.le_refl _, Nat.le_refl _⟩) ?_
  refine lv_lstore_n (lv' := [(3, .long (bL (kSide w bk b))), (2, .ref po), (0, .ref xo), (1, .int (bI b))]) hx hb dX3_strengthOf_13 rfl hl (by decide) rfl (fun ls hl => ?_)
  refine lv_fconst0 hx hb dX3_strengthOf_14 ?_
  refine lv_fstore (lv' := [(5, .float FP.fconst0), (3, .long (bL (kSide w bk b))), (2, .ref po), (0, .ref xo), (1, .int (bI b))]) hx hb dX3_strengthOf_15 hl (by decide) rfl (fun ls hl => ?_)
  refine lv_iconst (v := nI 0) hx hb dX3_strengthOf_17 (by decide) ?_
  refine lv_istore (lv' := [(6, .int (nI 0)), (5, .float FP.fconst0), (3, .long (bL (kSide w bk b))), (2, .ref po), (0, .ref xo), (1, .int (bI b))]) hx hb dX3_strengthOf_18 hl (by decide) rfl (fun ls hl => ?_)
  refine loopR (pcH := 20) (st := []) (ι := Nat) (fun ξ => [(6, .int (nI (ξ))), (5, .float (kStP K pp (kSide w bk b) (ξ))), (3, .long (bL (kSide w bk b))), (2, .ref po), (0, .ref xo), (1, .int (bI b))]) (fun n ξ => (ξ) + n = 64) ?_ ?_ 64 0 ((by omega)) ls (lv_sub hl [0,1,2,3,4,5] rfl)
  · rintro i hin ls hl
    try dsimp only at hl hin
    refine lv_iload hx hb dX3_strengthOf_20 (lv_at hl 0 rfl) ?_
    refine lv_bipush (v := nI 64) hx hb dX3_strengthOf_22 (by decide) ?_
    refine ni_ge (tgt := 71) hx hb i 64 (by omega) (by omega) dX3_strengthOf_24 (by decide) (fun c_24 => ?_) (fun c_24 => ?_)
    · skip
      rw [show i = 64 by omega] at hl
      refine lv_fload hx hb dX3_strengthOf_71 (lv_at hl 1 rfl) ?_
      refine lv_ldcf (v := 1036831949) hx hb hown (hts _ qw_2_129) dX3_strengthOf_73 ?_
      refine lv_aload_n hx hb dX3_strengthOf_75 rfl (lv_at hl 3 rfl) ?_
      refine lv_iload_n hx hb dX3_strengthOf_76 rfl (lv_at hl 5 rfl) ?_
      refine rd_goL (rd_runV (As := [.int (bI b)]) (rest := [.float 1036831949, .float (kStP K pp (kSide w bk b) 64)]) hx hb hml hown hts hK hM okV_RX3_149_X1_attackedBy (met_X1_attackedBy l po okk pt K w bk wa b hpo hokk) hpo rfl rfl rfl ⟨Nat.le_of_ble_eq_true rfl, Nat.le_of_ble_eq_true rfl⟩ hl.1 rfl (Nat.le_of_ble_eq_true rfl) dX3_strengthOf_77 ⟨Nat.le_refl _, Nat.le_refl _⟩) ?_
      refine rd_goI (rd_runS (As := [.long (bL (kAtd K w bk b))]) (rest := [.float 1036831949, .float (kStP K pp (kSide w bk b) 64)]) hx hb hml hown hts hK hM okS_RX3_76_J13_bitCount_95d88 (met_J13_bitCount_95d88 l (kAtd K w bk b)) rfl ⟨Nat.le_of_ble_eq_true rfl, Nat.le_of_ble_eq_true rfl⟩ hl.1 rfl (Nat.le_of_ble_eq_true rfl) dX3_strengthOf_80 ⟨Nat.le_refl _, Nat.le_refl _⟩) ?_
      have hf80_0 := pcnt_le (kAtd K w bk b)
      refine lv_i2f hx hb dX3_strengthOf_83 ?_
      refine lv_fmul hx hb dX3_strengthOf_84 hst.2.1 ?_
      refine lv_fadd hx hb dX3_strengthOf_85 hst.2.2 ?_
      exact wr_freturn hx hb hr hlk hM hS (Nat.le_refl _) (Nat.le_refl _) rfl rfl dX3_strengthOf_86
    · skip
      exfalso; omega
  · rintro n ih i hin ls hl
    try dsimp only at hl hin
    refine lv_iload hx hb dX3_strengthOf_20 (lv_at hl 0 rfl) ?_
    refine lv_bipush (v := nI 64) hx hb dX3_strengthOf_22 (by decide) ?_
    refine ni_ge (tgt := 71) hx hb i 64 (by omega) (by omega) dX3_strengthOf_24 (by decide) (fun c_24 => ?_) (fun c_24 => ?_)
    · skip
      exfalso; omega
    · skip
      refine lv_lload_n hx hb dX3_strengthOf_27 rfl (lv_at hl 2 rfl) ?_
      refine lv_iload hx hb dX3_strengthOf_28 (lv_at hl 0 rfl) ?_
      refine rd_goI (rd_runS (As := [.long (bL (kSide w bk b)), .int (nI i)]) (rest := []) hx hb hml hown hts hK hM okS_RX3_104_X3_has (met_X3_has l (kSide w bk b) i (by omega)) rfl ⟨Nat.le_of_ble_eq_true rfl, Nat.le_of_ble_eq_true rfl⟩ hl.1 rfl (Nat.le_of_ble_eq_true rfl) dX3_strengthOf_30 ⟨Nat.le_refl _, Nat.le_refl _⟩) ?_
      refine zb_eq (tgt := 65) hx hb ((kSide w bk b).getLsbD i) dX3_strengthOf_33 (by decide) (fun c_33 => ?_) (fun c_33 => ?_)
      · skip
        rw [kStP_f c_33] at hl
        refine ni_iinc (lv' := [(6, .int (nI (i + 1))), (5, .float (kStP K pp (kSide w bk b) (i + 1))), (3, .long (bL (kSide w bk b))), (2, .ref po), (0, .ref xo), (1, .int (bI b))]) hx hb i 1 dX3_strengthOf_65 hl (k := 0) rfl (by decide) (by decide) rfl (fun ls hl => ?_)
        refine lv_goto (tgt := 20) hx hb dX3_strengthOf_68 (by decide) ?_
        exact ih (i + 1) (by omega) ls (lv_sub hl [0,1,2,3,4,5] rfl)
      · skip
        refine lv_fload hx hb dX3_strengthOf_36 (lv_at hl 1 rfl) ?_
        refine lv_aload_n hx hb dX3_strengthOf_38 rfl (lv_at hl 3 rfl) ?_
        refine lv_iload hx hb dX3_strengthOf_39 (lv_at hl 0 rfl) ?_
        refine rd_goI (rd_runV (As := [.int (nI i)]) (rest := [.float (kStP K pp (kSide w bk b) i)]) hx hb hml hown hts hK hM okV_RX3_82_X1_kindOn (met_X1_kindOn l po okk pt K w bk wa i hpo hokk (by omega)) hpo rfl rfl rfl ⟨Nat.le_of_ble_eq_true rfl, Nat.le_of_ble_eq_true rfl⟩ hl.1 rfl (Nat.le_of_ble_eq_true rfl) dX3_strengthOf_41 ⟨Nat.le_refl _, Nat.le_refl _⟩) ?_
        have hf41_0 := kKind_lt K i
        refine lv_aload_n hx hb dX3_strengthOf_44 rfl (lv_at hl 3 rfl) ?_
        refine lv_iload hx hb dX3_strengthOf_45 (lv_at hl 0 rfl) ?_
        refine rd_goI (rd_runV (As := [.int (nI i)]) (rest := [.int (nI (kKind K i)), .float (kStP K pp (kSide w bk b) i)]) hx hb hml hown hts hK hM okV_RX3_124_X1_partnerOf (met_X1_partnerOf l po okk pt pp w bk wa i hpo hpt (by omega)) hpo rfl rfl rfl ⟨Nat.le_of_ble_eq_true rfl, Nat.le_of_ble_eq_true rfl⟩ hl.1 rfl (Nat.le_of_ble_eq_true rfl) dX3_strengthOf_47 ⟨Nat.le_refl _, Nat.le_refl _⟩) ?_
        refine lv_iconst (v := (-1)) hx hb dX3_strengthOf_50 (by decide) ?_
        refine meet (ls := ls) (pcJ := 59) (st := [.int (bI (!decide (pp i = -1))), .int (nI (kKind K i)), .float (kStP K pp (kSide w bk b) i)]) ?_ (fun hJ59 => ?_)
        · skip
          refine rd_goF (rd_runS (As := [.int (nI (kKind K i)), .int (bI (!decide (pp i = -1)))]) (rest := [.float (kStP K pp (kSide w bk b) i)]) hx hb hml hown hts hK hM okS_RX3_243_X3_weightOf (met_X3_weightOf l (kKind K i) (!decide (pp i = -1)) (by omega)) rfl ⟨Nat.le_of_ble_eq_true rfl, Nat.le_of_ble_eq_true rfl⟩ hl.1 rfl (Nat.le_of_ble_eq_true rfl) dX3_strengthOf_59 ⟨Nat.le_refl _, Nat.le_refl _⟩) ?_
          refine lv_fadd hx hb dX3_strengthOf_62 (hst.1 i (by omega) c_33) ?_
          refine lv_fstore (lv' := [(5, .float (FP.fadd (kStP K pp (kSide w bk b) i) (kWt (kKind K i) (!decide (pp i = -1))))), (6, .int (nI i)), (3, .long (bL (kSide w bk b))), (2, .ref po), (0, .ref xo), (1, .int (bI b))]) hx hb dX3_strengthOf_63 hl (by decide) rfl (fun ls hl => ?_)
          rw [kStP_t c_33] at hl
          refine ni_iinc (lv' := [(6, .int (nI (i + 1))), (5, .float (kStP K pp (kSide w bk b) (i + 1))), (3, .long (bL (kSide w bk b))), (2, .ref po), (0, .ref xo), (1, .int (bI b))]) hx hb i 1 dX3_strengthOf_65 hl (k := 1) rfl (by decide) (by decide) rfl (fun ls hl => ?_)
          refine lv_goto (tgt := 20) hx hb dX3_strengthOf_68 (by decide) ?_
          exact ih (i + 1) (by omega) ls (lv_sub hl [0,1,2,3,4,5] rfl)
        · skip
          refine lv_icmp_eq (tgt := 58) hx hb dX3_strengthOf_51 (by decide) (fun c_51 => ?_) (fun c_51 => ?_)
          · skip
            refine lv_iconst (v := nI 0) hx hb dX3_strengthOf_58 (by decide) ?_
            exact topi (bI (!decide (pp i = -1))) (by simp [c_24, Nat.not_le.mpr c_24, Nat.le_of_lt c_24, c_33, c_51, bI_t, bI_f]) hJ59
          · skip
            refine lv_iconst (v := nI 1) hx hb dX3_strengthOf_54 (by decide) ?_
            refine lv_goto (tgt := 59) hx hb dX3_strengthOf_55 (by decide) ?_
            exact topi (bI (!decide (pp i = -1))) (by simp [c_24, Nat.not_le.mpr c_24, Nat.le_of_lt c_24, c_33, c_51, bI_t, bI_f]) hJ59
set_option maxHeartbeats 4000000 in
set_option maxRecDepth 100000 in
theorem met_X3_tryMove (l : Launch) {D : va_G} {cI cJ : ClassId} {M : MP} {A : Nat → Prop} {sz : Nat} (xo fr tr pg : Nat) (su : Bool) (bf af : Value) (nu ca qu ve : Nat) (po okk pt : Nat) (K : Nat → BitVec 64) (pp : Nat → Int32) (w bk : BitVec 64) (wa : Bool) (a b : Nat) (tok tpt : Nat) (TK : Nat → BitVec 64) (TP : Nat → Int32) (tw tb : BitVec 64) (ta : Bool) (hxo : M xo = some (.inr (2, [.ref fr, .ref tr, .ref pg, .int (bI su)]))) (hpg : M pg = some (.inr (0, [.ref po, bf, .int (nI nu), af, .int (nI ca), .int (nI qu), .int (nI ve)]))) (hpo : M po = some (.inr (1, [.ref okk, .ref pt, .long (bL w), .long (bL bk), .int (bI wa)]))) (hokk : M okk = some (eJ cJ 7 (fun ζ => bL (K ζ)))) (hpt : M pt = some (eI cI 64 pp)) (htr : M tr = some (.inr (1, [.ref tok, .ref tpt, .long (bL tw), .long (bL tb), .int (bI ta)]))) (htok : M tok = some (eJ cJ 7 (fun ζ => bL (TK ζ)))) (htpt : M tpt = some (eI cI 64 TP)) (ha : a < 64) (hb2 : b < 64) (hka : 1 ≤ kKind K a) (hW : WfPt pp) (htp : tr ≠ po) (hA_tr : A tr) (hA_tok : A tok) (hA_tpt : A tpt) : Wr l yX3_tryMove cX3_tryMove 3 none 4 0 0 D cI cJ [.ref xo, .int (nI a), .int (nI b)] M sz A none (fun M' => M' = mu (mu (mu M tr (.inr (1, [.ref tok, .ref tpt, .long (bL (kShW w (a) (b) (w.getLsbD (a)))), .long (bL (kShW bk (a) (b) (!w.getLsbD (a)))), .int (bI (!wa))]))) tok (eJ cJ 7 (fun ζ => bL ((kShK K (a) (b)) ζ)))) tpt (eI cI 64 (kShP pp (a) (b)))) := by
  refine wr_start (by decide) (Nat.le_of_ble_eq_true rfl) ?_
  intro p e s m args below meth c hx hb hr hml hown hts hlk hini hK hsz H hH0 hM hS ls hl
  clear hH0
  have hl : lv_has ls 3 [(0, .ref xo), (1, .int (nI a)), (2, .int (nI b))] := hl
  refine lv_aload_n hx hb dX3_tryMove_0 rfl (lv_at hl 0 rfl) ?_
  refine w_get (C := RX3) (T := TX3) (N := 4) (ci := 2) hx hb hts hown hK hM inX3 rfl 1 (by decide) qw_1_103 rfl hxo rfl dX3_tryMove_1 ?_
  refine lv_aload_n hx hb dX3_tryMove_4 rfl (lv_at hl 0 rfl) ?_
  refine w_get (C := RX3) (T := TX3) (N := 4) (ci := 2) hx hb hts hown hK hM inX3 rfl 2 (by decide) qw_1_104 rfl hxo rfl dX3_tryMove_5 ?_
  refine w_get (C := RX0) (T := TX0) (N := 7) (ci := 0) hx hb hts hown hK hM inX0 rfl 0 (by decide) qw_1_63 rfl hpg rfl dX3_tryMove_8 ?_
  refine wr_go0 (wr_runV (As := [.ref po]) (rest := []) hx hb hml hown hts hK hM okV_RX3_259_X1_copyFrom (met_X1_copyFrom l tr tok tpt po okk pt TK K TP pp tw tb w bk ta wa htr htok htpt hpo hokk hpt htp hA_tr hA_tok hA_tpt) htr rfl rfl rfl ⟨Nat.le_of_ble_eq_true rfl, Nat.le_of_ble_eq_true rfl⟩ hl.1 rfl (Nat.le_of_ble_eq_true rfl) dX3_tryMove_11 ⟨Nat.le_refl _, Nat.le_refl _⟩) hS (fun M1 H locs hR hM hS => ?_)
  obtain rfl := hR
  refine lv_aload_n hx hb dX3_tryMove_14 rfl (lv_at hl 0 rfl) ?_
  refine w_get (C := RX3) (T := TX3) (N := 4) (ci := 2) hx hb hts hown hK hM inX3 rfl 1 (by decide) qw_1_103 rfl (mu_g (ne_oi hxo htpt) (mu_g (ne_oi hxo htok) (mu_g (ne_oo hxo htr (by decide)) hxo))) rfl dX3_tryMove_15 ?_
  refine lv_iload_n hx hb dX3_tryMove_18 rfl (lv_at hl 1 rfl) ?_
  refine lv_iload_n hx hb dX3_tryMove_19 rfl (lv_at hl 2 rfl) ?_
  refine wr_go0 (wr_runV (As := [.int (nI a), .int (nI b)]) (rest := []) hx hb hml hown hts hK hM okV_RX3_207_X1_shift (met_X1_shift l tr tok tpt K pp w bk wa a b (mu_g (ne_oi htr htpt) (mu_g (ne_oi htr htok) mu_s)) (mu_g (ne_ji htok htpt) mu_s) mu_s (by omega) (by omega) (by omega) hW hA_tr hA_tok hA_tpt) (mu_g (ne_oi htr htpt) (mu_g (ne_oi htr htok) mu_s)) rfl rfl rfl ⟨Nat.le_of_ble_eq_true rfl, Nat.le_of_ble_eq_true rfl⟩ hl.1 rfl (Nat.le_of_ble_eq_true rfl) dX3_tryMove_20 ⟨Nat.le_refl _, Nat.le_refl _⟩) hS (fun M1 H locs hR hM hS => ?_)
  obtain rfl := hR
  rw [mu_comm (ne_io htpt htr), mu_comm (ne_io htok htr), mu_mu] at hM
  rw [mu_comm (ne_ij htpt htok), mu_mu] at hM
  rw [mu_mu] at hM
  have hf20_0 := kKind_lt K b
  refine lv_pop hx hb dX3_tryMove_23 rfl ?_
  refine lv_aload_n hx hb dX3_tryMove_24 rfl (lv_at hl 0 rfl) ?_
  refine w_get (C := RX3) (T := TX3) (N := 4) (ci := 2) hx hb hts hown hK hM inX3 rfl 1 (by decide) qw_1_103 rfl (mu_g (ne_oi hxo htpt) (mu_g (ne_oi hxo htok) (mu_g (ne_oo hxo htr (by decide)) hxo))) rfl dX3_tryMove_25 ?_
  refine wr_go0 (wr_runV (As := []) (rest := []) hx hb hml hown hts hK hM okV_RX3_216_X1_passTurn (met_X1_passTurn l tr tok tpt (kShW w a b (w.getLsbD a)) (kShW bk a b (!w.getLsbD a)) wa (mu_g (ne_oi htr htpt) (mu_g (ne_oi htr htok) mu_s)) hA_tr) (mu_g (ne_oi htr htpt) (mu_g (ne_oi htr htok) mu_s)) rfl rfl rfl ⟨Nat.le_of_ble_eq_true rfl, Nat.le_of_ble_eq_true rfl⟩ hl.1 rfl (Nat.le_of_ble_eq_true rfl) dX3_tryMove_28 ⟨Nat.le_refl _, Nat.le_refl _⟩) hS (fun M1 H locs hR hM hS => ?_)
  obtain rfl := hR
  rw [mu_comm (ne_io htpt htr), mu_comm (ne_io htok htr), mu_mu] at hM
  exact wr_return hx hb hr hlk hM hS (Nat.le_refl _) (Nat.le_refl _) (by rw [show bL (kShW w (a) (b) (w.getLsbD (a))) = bL (kShW w a b (w.getLsbD a)) from rfl, show bL (kShW bk (a) (b) (!w.getLsbD (a))) = bL (kShW bk a b (!w.getLsbD a)) from rfl, show kShK K (a) (b) = kShK K a b from rfl, show kShP pp (a) (b) = kShP pp a b from rfl]) dX3_tryMove_31
set_option maxHeartbeats 4000000 in
set_option maxRecDepth 100000 in
theorem met_X3_countSequences_s (l : Launch) {D : va_G} {cI cJ : ClassId} {M : MP} {A : Nat → Prop} {sz : Nat} (xo fr tr pg : Nat) (su : Bool) (bf af : Value) (nu ca qu ve : Nat) (po okk pt : Nat) (K : Nat → BitVec 64) (pp : Nat → Int32) (w bk : BitVec 64) (wa : Bool) (k : Nat) (hxo : M xo = some (.inr (2, [.ref fr, .ref tr, .ref pg, .int (bI su)]))) (hpg : M pg = some (.inr (0, [.ref po, bf, .int (nI nu), af, .int (nI ca), .int (nI qu), .int (nI ve)]))) (hpo : M po = some (.inr (1, [.ref okk, .ref pt, .long (bL w), .long (bL bk), .int (bI wa)]))) (hokk : M okk = some (eJ cJ 7 (fun ζ => bL (K ζ)))) (hpt : M pt = some (eI cI 64 pp)) (hk : k = 1 ∨ k = 2) (hsu : su = true) (hW : WfPt pp) : Wr l yX3_countSequences cX3_countSequences 2 (some .int) 5 0 0 D cI cJ [.ref xo, .int (nI k)] M sz A (some (.int (nI 0))) (fun M' => M' = M) := by
  refine wr_start (by decide) (Nat.le_of_ble_eq_true rfl) ?_
  intro p e s m args below meth c hx hb hr hml hown hts hlk hini hK hsz H hH0 hM hS ls hl
  clear hH0
  have hl : lv_has ls 2 [(0, .ref xo), (1, .int (nI k))] := hl
  refine lv_iload_n hx hb dX3_countSequences_0 rfl (lv_at hl 1 rfl) ?_
  refine lv_iconst (v := nI 1) hx hb dX3_countSequences_1 (by decide) ?_
  refine ni_eq (tgt := 20) hx hb k 1 (by omega) (by omega) dX3_countSequences_2 (by decide) (fun c_2 => ?_) (fun c_2 => ?_)
  · skip
    refine lv_aload_n hx hb dX3_countSequences_20 rfl (lv_at hl 0 rfl) ?_
    refine w_get (C := RX3) (T := TX3) (N := 4) (ci := 2) hx hb hts hown hK hM inX3 rfl 3 (by decide) qw_1_105 rfl hxo rfl dX3_countSequences_21 ?_
    refine topi (bI true) (by rw [hsu]) ?_
    refine zb_eq (tgt := 29) hx hb true dX3_countSequences_24 (by decide) (fun h => absurd (h.symm.trans (rfl : true = true)) (by decide)) (fun _ => ?_)
    refine lv_iconst (v := nI 0) hx hb dX3_countSequences_27 (by decide) ?_
    exact wr_ireturn hx hb hr hlk hM hS (Nat.le_refl _) (Nat.le_refl _) rfl rfl dX3_countSequences_28
  · skip
    refine lv_iload_n hx hb dX3_countSequences_5 rfl (lv_at hl 1 rfl) ?_
    refine lv_iconst (v := nI 2) hx hb dX3_countSequences_6 (by decide) ?_
    refine ni_eq (tgt := 20) hx hb k 2 (by omega) (by omega) dX3_countSequences_7 (by decide) (fun c_7 => ?_) (fun c_7 => ?_)
    · skip
      refine lv_aload_n hx hb dX3_countSequences_20 rfl (lv_at hl 0 rfl) ?_
      refine w_get (C := RX3) (T := TX3) (N := 4) (ci := 2) hx hb hts hown hK hM inX3 rfl 3 (by decide) qw_1_105 rfl hxo rfl dX3_countSequences_21 ?_
      refine topi (bI true) (by rw [hsu]) ?_
      refine zb_eq (tgt := 29) hx hb true dX3_countSequences_24 (by decide) (fun h => absurd (h.symm.trans (rfl : true = true)) (by decide)) (fun _ => ?_)
      refine lv_iconst (v := nI 0) hx hb dX3_countSequences_27 (by decide) ?_
      exact wr_ireturn hx hb hr hlk hM hS (Nat.le_refl _) (Nat.le_refl _) rfl rfl dX3_countSequences_28
    · skip
      exfalso; omega
set_option maxHeartbeats 4000000 in
set_option maxRecDepth 100000 in
theorem met_X3_countSequences_1 (l : Launch) {D : va_G} {cI cJ : ClassId} {M : MP} {A : Nat → Prop} {sz : Nat} (xo fr tr pg : Nat) (su : Bool) (bf af : Value) (nu ca qu ve : Nat) (po okk pt : Nat) (K : Nat → BitVec 64) (pp : Nat → Int32) (w bk : BitVec 64) (wa : Bool)  (hxo : M xo = some (.inr (2, [.ref fr, .ref tr, .ref pg, .int (bI su)]))) (hpg : M pg = some (.inr (0, [.ref po, bf, .int (nI nu), af, .int (nI ca), .int (nI qu), .int (nI ve)]))) (hpo : M po = some (.inr (1, [.ref okk, .ref pt, .long (bL w), .long (bL bk), .int (bI wa)]))) (hokk : M okk = some (eJ cJ 7 (fun ζ => bL (K ζ)))) (hpt : M pt = some (eI cI 64 pp)) (hsu : su = false) (hW : WfPt pp) : Wr l yX3_countSequences cX3_countSequences 2 (some .int) 5 0 0 D cI cJ [.ref xo, .int (nI 1)] M sz A (some (.int (nI (kCnt K pp w bk wa)))) (fun M' => M' = M) := by
  refine wr_start (by decide) (Nat.le_of_ble_eq_true rfl) ?_
  intro p e s m args below meth c hx hb hr hml hown hts hlk hini hK hsz H hH0 hM hS ls hl
  clear hH0
  have hl : lv_has ls 2 [(0, .ref xo), (1, .int (nI 1))] := hl
  refine lv_iload_n hx hb dX3_countSequences_0 rfl (lv_at hl 1 rfl) ?_
  refine lv_iconst (v := nI 1) hx hb dX3_countSequences_1 (by decide) ?_
  refine mm_eq (tgt := 20) hx hb (nI 1) dX3_countSequences_2 (by decide) ?_
  refine lv_aload_n hx hb dX3_countSequences_20 rfl (lv_at hl 0 rfl) ?_
  refine w_get (C := RX3) (T := TX3) (N := 4) (ci := 2) hx hb hts hown hK hM inX3 rfl 3 (by decide) qw_1_105 rfl hxo rfl dX3_countSequences_21 ?_
  refine topi (bI false) (by rw [hsu]) ?_
  refine zb_eq (tgt := 29) hx hb false dX3_countSequences_24 (by decide) (fun _ => ?_) (fun h => absurd (h.symm.trans (rfl : false = false)) (by decide))
  refine lv_iload_n hx hb dX3_countSequences_29 rfl (lv_at hl 1 rfl) ?_
  refine lv_iconst (v := nI 1) hx hb dX3_countSequences_30 (by decide) ?_
  refine mm_ne (tgt := 47) hx hb (nI 1) dX3_countSequences_31 (by decide) ?_
  refine lv_aload_n hx hb dX3_countSequences_34 rfl (lv_at hl 0 rfl) ?_
  refine w_get (C := RX3) (T := TX3) (N := 4) (ci := 2) hx hb hts hown hK hM inX3 rfl 2 (by decide) qw_1_104 rfl hxo rfl dX3_countSequences_35 ?_
  refine w_get (C := RX0) (T := TX0) (N := 7) (ci := 0) hx hb hts hown hK hM inX0 rfl 0 (by decide) qw_1_63 rfl hpg rfl dX3_countSequences_38 ?_
  refine rd_goI (rd_runV (As := []) (rest := []) hx hb hml hown hts hK hM okV_RX3_169_X1_lawfulMoveCount (met_X1_lawfulMoveCount l po okk pt K pp w bk wa hpo hokk hpt hW) hpo rfl rfl rfl ⟨Nat.le_of_ble_eq_true rfl, Nat.le_of_ble_eq_true rfl⟩ hl.1 rfl (Nat.le_of_ble_eq_true rfl) dX3_countSequences_41 ⟨Nat.le_refl _, Nat.le_refl _⟩) ?_
  refine lv_goto (tgt := 51) hx hb dX3_countSequences_44 (by decide) ?_
  exact wr_ireturn hx hb hr hlk hM hS (Nat.le_refl _) (Nat.le_refl _) rfl rfl dX3_countSequences_51
