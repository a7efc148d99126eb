theorem okS_RJxf58ca_59_Jxf58ca_isNaN_12338 : okS RJxf58ca 59 yJxf58ca_isNaN_12338 cJxf58ca_isNaN_12338 1 (some .boolean) 1 := okS_of qw_5_75 qw_5_76 qw_1_19 qw_5_77 (by decide +kernel)
theorem okS_RX4_206_J13_bitCount_95d88 : okS RX4 206 yJ13_bitCount_95d88 cJ13_bitCount_95d88 2 (some .int) 1 := okS_of qw_5_67 qw_1_155 qw_1_14 qw_1_156 (by decide +kernel)
theorem okS_RX4_216_Jxf58ca_floatToIntBits_5c35a : okS RX4 216 yJxf58ca_floatToIntBits_5c35a cJxf58ca_floatToIntBits_5c35a 1 (some .int) 1 := okS_of qw_5_72 qw_5_73 qw_1_19 qw_5_74 (by decide +kernel)
theorem okV_RX4_201_X4_weight : okV RX4 201 yX4_weight cX4_weight 2 (some .float) 1 := okV_of qw_5_57 qw_5_59 qw_0_30 qw_1_5 qw_5_60 (by decide +kernel)
theorem okV_RX4_212_X4_strength : okV RX4 212 yX4_strength cX4_strength 4 (some .float) 1 := okV_of qw_5_53 qw_5_55 qw_0_29 qw_1_5 qw_5_56 (by decide +kernel)
set_option maxHeartbeats 4000000 in
set_option maxRecDepth 100000 in
theorem met_J13_bitCount_95d88 (l : Launch) {D : va_G} {cI cJ : ClassId} {M : MP} (x : BitVec 64) : RdI l yJ13_bitCount_95d88 cJ13_bitCount_95d88 2 (some .int) 0 D cI cJ [.long (bL x)] M (nI (pcnt x)) := by
  refine rd_start (by decide) (Nat.le_of_ble_eq_true rfl) ?_
  intro p e s m args below meth c hx hb hr hml hown hts hlk hK hM ls hl
  have hl : lv_has ls 2 [(0, .long (bL x))] := hl
  refine lv_lload_n hx hb dJ13_bitCount_95d88_0 rfl (lv_at hl 0 rfl) ?_
  refine lv_lload_n hx hb dJ13_bitCount_95d88_1 rfl (lv_at hl 0 rfl) ?_
  refine lv_iconst (v := nI 1) hx hb dJ13_bitCount_95d88_2 (by decide) ?_
  refine lb_ushr hx hb 1 (by omega) dJ13_bitCount_95d88_3 ?_
  refine lv_ldc2 (v := bL 6148914691236517205#64) hx hb hown (hts _ qw_1_157) dJ13_bitCount_95d88_4 ?_
  refine lb_and hx hb dJ13_bitCount_95d88_7 ?_
  refine lb_sub hx hb dJ13_bitCount_95d88_8 ?_
  refine lv_lstore_n (lv' := [(0, .long (bL (x - ((x >>> 1) &&& (6148914691236517205#64)))))]) hx hb dJ13_bitCount_95d88_9 rfl hl (by decide) rfl (fun ls hl => ?_)
  refine lv_lload_n hx hb dJ13_bitCount_95d88_10 rfl (lv_at hl 0 rfl) ?_
  refine lv_ldc2 (v := bL 3689348814741910323#64) hx hb hown (hts _ qw_1_158) dJ13_bitCount_95d88_11 ?_
  refine lb_and hx hb dJ13_bitCount_95d88_14 ?_
  refine lv_lload_n hx hb dJ13_bitCount_95d88_15 rfl (lv_at hl 0 rfl) ?_
  refine lv_iconst (v := nI 2) hx hb dJ13_bitCount_95d88_16 (by decide) ?_
  refine lb_ushr hx hb 2 (by omega) dJ13_bitCount_95d88_17 ?_
  refine lv_ldc2 (v := bL 3689348814741910323#64) hx hb hown (hts _ qw_1_158) dJ13_bitCount_95d88_18 ?_
  refine lb_and hx hb dJ13_bitCount_95d88_21 ?_
  refine lb_add hx hb dJ13_bitCount_95d88_22 ?_
  refine lv_lstore_n (lv' := [(0, .long (bL (((x - ((x >>> 1) &&& (6148914691236517205#64))) &&& (3689348814741910323#64)) + (((x - ((x >>> 1) &&& (6148914691236517205#64))) >>> 2) &&& (3689348814741910323#64)))))]) hx hb dJ13_bitCount_95d88_23 rfl hl (by decide) rfl (fun ls hl => ?_)
  refine lv_lload_n hx hb dJ13_bitCount_95d88_24 rfl (lv_at hl 0 rfl) ?_
  refine lv_lload_n hx hb dJ13_bitCount_95d88_25 rfl (lv_at hl 0 rfl) ?_
  refine lv_iconst (v := nI 4) hx hb dJ13_bitCount_95d88_26 (by decide) ?_
  refine lb_ushr hx hb 4 (by omega) dJ13_bitCount_95d88_27 ?_
  refine lb_add hx hb dJ13_bitCount_95d88_28 ?_
  refine lv_ldc2 (v := bL 1085102592571150095#64) hx hb hown (hts _ qw_1_159) dJ13_bitCount_95d88_29 ?_
  refine lb_and hx hb dJ13_bitCount_95d88_32 ?_
  refine lv_lstore_n (lv' := [(0, .long (bL (((((x - ((x >>> 1) &&& (6148914691236517205#64))) &&& (3689348814741910323#64)) + (((x - ((x >>> 1) &&& (6148914691236517205#64))) >>> 2) &&& (3689348814741910323#64))) + ((((x - ((x >>> 1) &&& (6148914691236517205#64))) &&& (3689348814741910323#64)) + (((x - ((x >>> 1) &&& (6148914691236517205#64))) >>> 2) &&& (3689348814741910323#64))) >>> 4)) &&& (1085102592571150095#64))))]) hx hb dJ13_bitCount_95d88_33 rfl hl (by decide) rfl (fun ls hl => ?_)
  refine lv_lload_n hx hb dJ13_bitCount_95d88_34 rfl (lv_at hl 0 rfl) ?_
  refine lv_lload_n hx hb dJ13_bitCount_95d88_35 rfl (lv_at hl 0 rfl) ?_
  refine lv_bipush (v := nI 8) hx hb dJ13_bitCount_95d88_36 (by decide) ?_
  refine lb_ushr hx hb 8 (by omega) dJ13_bitCount_95d88_38 ?_
  refine lb_add hx hb dJ13_bitCount_95d88_39 ?_
  refine lv_lstore_n (lv' := [(0, .long (bL ((((((x - ((x >>> 1) &&& (6148914691236517205#64))) &&& (3689348814741910323#64)) + (((x - ((x >>> 1) &&& (6148914691236517205#64))) >>> 2) &&& (3689348814741910323#64))) + ((((x - ((x >>> 1) &&& (6148914691236517205#64))) &&& (3689348814741910323#64)) + (((x - ((x >>> 1) &&& (6148914691236517205#64))) >>> 2) &&& (3689348814741910323#64))) >>> 4)) &&& (1085102592571150095#64)) + ((((((x - ((x >>> 1) &&& (6148914691236517205#64))) &&& (3689348814741910323#64)) + (((x - ((x >>> 1) &&& (6148914691236517205#64))) >>> 2) &&& (3689348814741910323#64))) + ((((x - ((x >>> 1) &&& (6148914691236517205#64))) &&& (3689348814741910323#64)) + (((x - ((x >>> 1) &&& (6148914691236517205#64))) >>> 2) &&& (3689348814741910323#64))) >>> 4)) &&& (1085102592571150095#64)) >>> 8))))]) hx hb dJ13_bitCount_95d88_40 rfl hl (by decide) rfl (fun ls hl => ?_)
  refine lv_lload_n hx hb dJ13_bitCount_95d88_41 rfl (lv_at hl 0 rfl) ?_
  refine lv_lload_n hx hb dJ13_bitCount_95d88_42 rfl (lv_at hl 0 rfl) ?_
  refine lv_bipush (v := nI 16) hx hb dJ13_bitCount_95d88_43 (by decide) ?_
  refine lb_ushr hx hb 16 (by omega) dJ13_bitCount_95d88_45 ?_
  refine lb_add hx hb dJ13_bitCount_95d88_46 ?_
  refine lv_lstore_n (lv' := [(0, .long (bL (((((((x - ((x >>> 1) &&& (6148914691236517205#64))) &&& (3689348814741910323#64)) + (((x - ((x >>> 1) &&& (6148914691236517205#64))) >>> 2) &&& (3689348814741910323#64))) + ((((x - ((x >>> 1) &&& (6148914691236517205#64))) &&& (3689348814741910323#64)) + (((x - ((x >>> 1) &&& (6148914691236517205#64))) >>> 2) &&& (3689348814741910323#64))) >>> 4)) &&& (1085102592571150095#64)) + ((((((x - ((x >>> 1) &&& (6148914691236517205#64))) &&& (3689348814741910323#64)) + (((x - ((x >>> 1) &&& (6148914691236517205#64))) >>> 2) &&& (3689348814741910323#64))) + ((((x - ((x >>> 1) &&& (6148914691236517205#64))) &&& (3689348814741910323#64)) + (((x - ((x >>> 1) &&& (6148914691236517205#64))) >>> 2) &&& (3689348814741910323#64))) >>> 4)) &&& (1085102592571150095#64)) >>> 8)) + (((((((x - ((x >>> 1) &&& (6148914691236517205#64))) &&& (3689348814741910323#64)) + (((x - ((x >>> 1) &&& (6148914691236517205#64))) >>> 2) &&& (3689348814741910323#64))) + ((((x - ((x >>> 1) &&& (6148914691236517205#64))) &&& (3689348814741910323#64)) + (((x - ((x >>> 1) &&& (6148914691236517205#64))) >>> 2) &&& (3689348814741910323#64))) >>> 4)) &&& (1085102592571150095#64)) + ((((((x - ((x >>> 1) &&& (6148914691236517205#64))) &&& (3689348814741910323#64)) + (((x - ((x >>> 1) &&& (6148914691236517205#64))) >>> 2) &&& (3689348814741910323#64))) + ((((x - ((x >>> 1) &&& (6148914691236517205#64))) &&& (3689348814741910323#64)) + (((x - ((x >>> 1) &&& (6148914691236517205#64))) >>> 2) &&& (3689348814741910323#64))) >>> 4)) &&& (1085102592571150095#64)) >>> 8)) >>> 16))))]) hx hb dJ13_bitCount_95d88_47 rfl hl (by decide) rfl (fun ls hl => ?_)
  refine lv_lload_n hx hb dJ13_bitCount_95d88_48 rfl (lv_at hl 0 rfl) ?_
  refine lv_lload_n hx hb dJ13_bitCount_95d88_49 rfl (lv_at hl 0 rfl) ?_
  refine lv_bipush (v := nI 32) hx hb dJ13_bitCount_95d88_50 (by decide) ?_
  refine lb_ushr hx hb 32 (by omega) dJ13_bitCount_95d88_52 ?_
  refine lb_add hx hb dJ13_bitCount_95d88_53 ?_
  refine lv_lstore_n (lv' := [(0, .long (bL ((((((((x - ((x >>> 1) &&& (6148914691236517205#64))) &&& (3689348814741910323#64)) + (((x - ((x >>> 1) &&& (6148914691236517205#64))) >>> 2) &&& (3689348814741910323#64))) + ((((x - ((x >>> 1) &&& (6148914691236517205#64))) &&& (3689348814741910323#64)) + (((x - ((x >>> 1) &&& (6148914691236517205#64))) >>> 2) &&& (3689348814741910323#64))) >>> 4)) &&& (1085102592571150095#64)) + ((((((x - ((x >>> 1) &&& (6148914691236517205#64))) &&& (3689348814741910323#64)) + (((x - ((x >>> 1) &&& (6148914691236517205#64))) >>> 2) &&& (3689348814741910323#64))) + ((((x - ((x >>> 1) &&& (6148914691236517205#64))) &&& (3689348814741910323#64)) + (((x - ((x >>> 1) &&& (6148914691236517205#64))) >>> 2) &&& (3689348814741910323#64))) >>> 4)) &&& (1085102592571150095#64)) >>> 8)) + (((((((x - ((x >>> 1) &&& (6148914691236517205#64))) &&& (3689348814741910323#64)) + (((x - ((x >>> 1) &&& (6148914691236517205#64))) >>> 2) &&& (3689348814741910323#64))) + ((((x - ((x >>> 1) &&& (6148914691236517205#64))) &&& (3689348814741910323#64)) + (((x - ((x >>> 1) &&& (6148914691236517205#64))) >>> 2) &&& (3689348814741910323#64))) >>> 4)) &&& (1085102592571150095#64)) + ((((((x - ((x >>> 1) &&& (6148914691236517205#64))) &&& (3689348814741910323#64)) + (((x - ((x >>> 1) &&& (6148914691236517205#64))) >>> 2) &&& (3689348814741910323#64))) + ((((x - ((x >>> 1) &&& (6148914691236517205#64))) &&& (3689348814741910323#64)) + (((x - ((x >>> 1) &&& (6148914691236517205#64))) >>> 2) &&& (3689348814741910323#64))) >>> 4)) &&& (1085102592571150095#64)) >>> 8)) >>> 16)) + ((((((((x - ((x >>> 1) &&& (6148914691236517205#64))) &&& (3689348814741910323#64)) + (((x - ((x >>> 1) &&& (6148914691236517205#64))) >>> 2) &&& (3689348814741910323#64))) + ((((x - ((x >>> 1) &&& (6148914691236517205#64))) &&& (3689348814741910323#64)) + (((x - ((x >>> 1) &&& (6148914691236517205#64))) >>> 2) &&& (3689348814741910323#64))) >>> 4)) &&& (1085102592571150095#64)) + ((((((x - ((x >>> 1) &&& (6148914691236517205#64))) &&& (3689348814741910323#64)) + (((x - ((x >>> 1) &&& (6148914691236517205#64))) >>> 2) &&& (3689348814741910323#64))) + ((((x - ((x >>> 1) &&& (6148914691236517205#64))) &&& (3689348814741910323#64)) + (((x - ((x >>> 1) &&& (6148914691236517205#64))) >>> 2) &&& (3689348814741910323#64))) >>> 4)) &&& (1085102592571150095#64)) >>> 8)) + (((((((x - ((x >>> 1) &&& (6148914691236517205#64))) &&& (3689348814741910323#64)) + (((x - ((x >>> 1) &&& (6148914691236517205#64))) >>> 2) &&& (3689348814741910323#64))) + ((((x - ((x >>> 1) &&& (6148914691236517205#64))) &&& (3689348814741910323#64)) + (((x - ((x >>> 1) &&& (6148914691236517205#64))) >>> 2) &&& (3689348814741910323#64))) >>> 4)) &&& (1085102592571150095#64)) + ((((((x - ((x >>> 1) &&& (6148914691236517205#64))) &&& (3689348814741910323#64)) + (((x - ((x >>> 1) &&& (6148914691236517205#64))) >>> 2) &&& (3689348814741910323#64))) + ((((x - ((x >>> 1) &&& (6148914691236517205#64))) &&& (3689348814741910323#64)) + (((x - ((x >>> 1) &&& (6148914691236517205#64))) >>> 2) &&& (3689348814741910323#64))) >>> 4)) &&& (1085102592571150095#64)) >>> 8)) >>> 16)) >>> 32))))]) hx hb dJ13_bitCount_95d88_54 rfl hl (by decide) rfl (fun ls hl => ?_)
  refine lv_lload_n hx hb dJ13_bitCount_95d88_55 rfl (lv_at hl 0 rfl) ?_
  refine lv_l2i hx hb dJ13_bitCount_95d88_56 rfl ?_
  refine lv_bipush (v := nI 127) hx hb dJ13_bitCount_95d88_57 (by decide) ?_
  refine lv_iand hx hb dJ13_bitCount_95d88_59 ?_
  exact rd_ireturn hx hb hr hlk (pcnt_fin x) dJ13_bitCount_95d88_60
set_option maxHeartbeats 4000000 in
set_option maxRecDepth 100000 in
theorem met_X4_weight (l : Launch) {D : va_G} {cI cJ : ClassId} {M : MP} (mo ro no fi se t3 le od th ac oc : Nat) (su : Bool) (j : Nat) (f : Nat → Int32) (hmo : M mo = some (.inr (3, [.int (nI th), .int (bI su), .ref ro, .int (nI ac), .int (nI oc), .ref no, .ref fi, .ref se, .ref t3, .ref le, .ref od]))) (hno : M no = some (eI cI 146 f)) (hj : j < 64) : RdF l yX4_weight cX4_weight 2 (some .float) 1 D cI cJ [.ref mo, .int (nI j)] M (mWt f j) := by
  refine rd_start (by decide) (Nat.le_of_ble_eq_true rfl) ?_
  intro p e s m args below meth c hx hb hr hml hown hts hlk hK hM ls hl
  have hl : lv_has ls 2 [(0, .ref mo), (1, .int (nI j))] := hl
  have hk8 := mKindN_lt f j
  refine lv_aload_n hx hb dX4_weight_0 rfl (lv_at hl 0 rfl) ?_
  refine w_get (C := RX4) (T := TX4) (N := 11) (ci := 3) hx hb hts hown hK hM inX4 rfl 5 (by decide) qw_4_89 rfl hmo rfl dX4_weight_1 ?_
  refine lv_iload_n hx hb dX4_weight_4 rfl (lv_at hl 1 rfl) ?_
  refine rd_goI (rd_runS (As := [.ref no, .int (nI j)]) (rest := []) hx hb hml hown hts hK hM okS_RX4_65_X4_kind (met_X4_kind l no j f hno (by omega)) rfl ⟨Nat.le_of_ble_eq_true rfl, Nat.le_of_ble_eq_true rfl⟩ hl.1 rfl (Nat.le_of_ble_eq_true rfl) dX4_weight_5 ⟨Nat.le_refl _, Nat.le_refl _⟩) ?_
  have hf5_0 := mKindN_lt f j
  rcases (show (mKindN f j) = 2 ∨ (mKindN f j) = 3 ∨ (mKindN f j) = 4 ∨ (mKindN f j) = 5 ∨ (mKindN f j) = 6 ∨ ((mKindN f j) < 2 ∨ 6 < (mKindN f j)) from by omega) with c_8 | c_8 | c_8 | c_8 | c_8 | c_8
  · refine sw_at c_8 ?_
    refine lv_tableIn (tgt := 44) (off := 36) hx hb dX4_weight_8 (by decide) (by decide) (by decide) (by decide) ?_
    refine lv_ldcf (v := 1092091904) hx hb hown (hts _ qw_5_61) dX4_weight_44 ?_
    exact rd_freturn hx hb hr hlk (by simp [mWt, bI_t, bI_f, c_8]) dX4_weight_46
  · refine sw_at c_8 ?_
    refine lv_tableIn (tgt := 47) (off := 39) hx hb dX4_weight_8 (by decide) (by decide) (by decide) (by decide) ?_
    refine lv_ldcf (v := 1084227584) hx hb hown (hts _ qw_5_62) dX4_weight_47 ?_
    exact rd_freturn hx hb hr hlk (by simp [mWt, bI_t, bI_f, c_8]) dX4_weight_49
  · refine sw_at c_8 ?_
    refine lv_tableIn (tgt := 50) (off := 42) hx hb dX4_weight_8 (by decide) (by decide) (by decide) (by decide) ?_
    refine lv_ldcf (v := 1079194419) hx hb hown (hts _ qw_5_63) dX4_weight_50 ?_
    exact rd_freturn hx hb hr hlk (by simp [mWt, bI_t, bI_f, c_8]) dX4_weight_52
  · refine sw_at c_8 ?_
    refine lv_tableIn (tgt := 53) (off := 45) hx hb dX4_weight_8 (by decide) (by decide) (by decide) (by decide) ?_
    refine lv_aload_n hx hb dX4_weight_53 rfl (lv_at hl 0 rfl) ?_
    refine w_get (C := RX4) (T := TX4) (N := 11) (ci := 3) hx hb hts hown hK hM inX4 rfl 5 (by decide) qw_4_89 rfl hmo rfl dX4_weight_54 ?_
    refine lv_bipush (v := nI 64) hx hb dX4_weight_57 (by decide) ?_
    refine lv_iload_n hx hb dX4_weight_59 rfl (lv_at hl 1 rfl) ?_
    refine ni_add hx hb 64 j dX4_weight_60 ?_
    refine w_iald hx hb hK hM hno (64 + j) (by omega) (by decide) dX4_weight_61 ?_
    refine lv_iconst (v := (-1)) hx hb dX4_weight_62 (by decide) ?_
    refine lv_icmp_ne (tgt := 71) hx hb dX4_weight_63 (by decide) (fun c_63 => ?_) (fun c_63 => ?_)
    · skip
      refine lv_ldcf (v := 1080872141) hx hb hown (hts _ qw_5_65) dX4_weight_71 ?_
      exact rd_freturn hx hb hr hlk (by simp [mWt, bI_t, bI_f, c_8, c_63]) dX4_weight_73
    · skip
      refine lv_ldcf (v := 1078774989) hx hb hown (hts _ qw_5_64) dX4_weight_66 ?_
      refine lv_goto (tgt := 73) hx hb dX4_weight_68 (by decide) ?_
      exact rd_freturn hx hb hr hlk (by simp [mWt, bI_t, bI_f, c_8, c_63]) dX4_weight_73
  · refine sw_at c_8 ?_
    refine lv_tableIn (tgt := 74) (off := 66) hx hb dX4_weight_8 (by decide) (by decide) (by decide) (by decide) ?_
    refine lv_fconst1 hx hb dX4_weight_74 ?_
    exact rd_freturn hx hb hr hlk (by simp [mWt, bI_t, bI_f, c_8]) dX4_weight_75
  · refine lv_tableOut (tgt := 76) hx hb dX4_weight_8 (sw_out (by omega) c_8) (by decide) ?_
    refine lv_fconst0 hx hb dX4_weight_76 ?_
    exact rd_freturn hx hb hr hlk (by simp [mWt, bI_t, bI_f, show ¬ (mKindN f j) = 2 by omega, show ¬ (mKindN f j) = 3 by omega, show ¬ (mKindN f j) = 4 by omega, show ¬ (mKindN f j) = 5 by omega, show ¬ (mKindN f j) = 6 by omega]) dX4_weight_77
set_option maxHeartbeats 4000000 in
set_option maxRecDepth 100000 in
theorem met_X4_strength (l : Launch) {D : va_G} {cI cJ : ClassId} {M : MP} (mo ro no fi se t3 le od th ac oc : Nat) (su : Bool) (b : Bool) (f : Nat → Int32) (hmo : M mo = some (.inr (3, [.int (nI th), .int (bI su), .ref ro, .int (nI ac), .int (nI oc), .ref no, .ref fi, .ref se, .ref t3, .ref le, .ref od]))) (hno : M no = some (eI cI 146 f)) (hst : StOk f (sdN b)) : RdF l yX4_strength cX4_strength 4 (some .float) 5 D cI cJ [.ref mo, .int (bI b)] M (mSth f (sdN b)) := by
  refine rd_start (by decide) (Nat.le_of_ble_eq_true rfl) ?_
  intro p e s m args below meth c hx hb hr hml hown hts hlk hK hM ls hl
  have hl : lv_has ls 4 [(0, .ref mo), (1, .int (bI b))] := hl
  have hsd1 := sdN_le b
  refine lv_fconst0 hx hb dX4_strength_0 ?_
  refine lv_fstore_n (lv' := [(2, .float FP.fconst0), (0, .ref mo), (1, .int (bI b))]) hx hb dX4_strength_1 rfl hl (by decide) rfl (fun ls hl => ?_)
  refine lv_iconst (v := nI 0) hx hb dX4_strength_2 (by decide) ?_
  refine lv_istore_n (lv' := [(3, .int (nI 0)), (2, .float FP.fconst0), (0, .ref mo), (1, .int (bI b))]) hx hb dX4_strength_3 rfl hl (by decide) rfl (fun ls hl => ?_)
  refine loopR (pcH := 4) (st := []) (ι := Nat) (fun ξ => [(3, .int (nI (ξ))), (2, .float (mStP f (sdN b) (ξ))), (0, .ref mo), (1, .int (bI b))]) (fun n ξ => (ξ) + n = 64) ?_ ?_ 64 0 ((by omega)) ls (lv_sub hl [0,1,2,3] rfl)
  · rintro i hin ls hl
    try dsimp only at hl hin
    refine lv_iload_n hx hb dX4_strength_4 rfl (lv_at hl 0 rfl) ?_
    refine lv_bipush (v := nI 64) hx hb dX4_strength_5 (by decide) ?_
    refine ni_ge (tgt := 39) hx hb i 64 (by omega) (by omega) dX4_strength_7 (by decide) (fun c_7 => ?_) (fun c_7 => ?_)
    · skip
      rw [show i = 64 by omega] at hl
      refine lv_fload_n hx hb dX4_strength_39 rfl (lv_at hl 1 rfl) ?_
      refine lv_ldcf (v := 1036831949) hx hb hown (hts _ qw_5_66) dX4_strength_40 ?_
      refine lv_aload_n hx hb dX4_strength_42 rfl (lv_at hl 2 rfl) ?_
      refine lv_iload_n hx hb dX4_strength_43 rfl (lv_at hl 3 rfl) ?_
      refine rd_goI (rd_runS (As := [.int (bI b)]) (rest := [.ref mo, .float 1036831949, .float (mStP f (sdN b) 64)]) hx hb hml hown hts hK hM okS_RX4_170_X4_side (met_X4_side l b) rfl ⟨Nat.le_of_ble_eq_true rfl, Nat.le_of_ble_eq_true rfl⟩ hl.1 rfl (Nat.le_of_ble_eq_true rfl) dX4_strength_44 ⟨Nat.le_refl _, Nat.le_refl _⟩) ?_
      refine rd_goL (rd_runV (As := [.int (nI (sdN b))]) (rest := [.float 1036831949, .float (mStP f (sdN b) 64)]) hx hb hml hown hts hK hM okV_RX4_179_X4_attacked (met_X4_attacked l mo ro no fi se t3 le od th ac oc su (sdN b) f hmo hno (by omega)) hmo rfl rfl rfl ⟨Nat.le_of_ble_eq_true rfl, Nat.le_of_ble_eq_true rfl⟩ hl.1 rfl (Nat.le_of_ble_eq_true rfl) dX4_strength_47 ⟨Nat.le_refl _, Nat.le_refl _⟩) ?_
      refine rd_goI (rd_runS (As := [.long (bL (mAttSet f (sdN b)))]) (rest := [.float 1036831949, .float (mStP f (sdN b) 64)]) hx hb hml hown hts hK hM okS_RX4_206_J13_bitCount_95d88 (met_J13_bitCount_95d88 l (mAttSet f (sdN b))) rfl ⟨Nat.le_of_ble_eq_true rfl, Nat.le_of_ble_eq_true rfl⟩ hl.1 rfl (Nat.le_of_ble_eq_true rfl) dX4_strength_50 ⟨Nat.le_refl _, Nat.le_refl _⟩) ?_
      have hf50_0 := pcnt_le (mAttSet f (sdN b))
      refine lv_i2f hx hb dX4_strength_53 ?_
      refine lv_fmul hx hb dX4_strength_54 hst.2.1 ?_
      refine lv_fadd hx hb dX4_strength_55 hst.2.2 ?_
      exact rd_freturn hx hb hr hlk rfl dX4_strength_56
    · skip
      exfalso; omega
  · rintro n ih i hin ls hl
    try dsimp only at hl hin
    refine lv_iload_n hx hb dX4_strength_4 rfl (lv_at hl 0 rfl) ?_
    refine lv_bipush (v := nI 64) hx hb dX4_strength_5 (by decide) ?_
    refine ni_ge (tgt := 39) hx hb i 64 (by omega) (by omega) dX4_strength_7 (by decide) (fun c_7 => ?_) (fun c_7 => ?_)
    · skip
      exfalso; omega
    · skip
      refine lv_aload_n hx hb dX4_strength_10 rfl (lv_at hl 2 rfl) ?_
      refine w_get (C := RX4) (T := TX4) (N := 11) (ci := 3) hx hb hts hown hK hM inX4 rfl 5 (by decide) qw_4_89 rfl hmo rfl dX4_strength_11 ?_
      refine lv_iload_n hx hb dX4_strength_14 rfl (lv_at hl 0 rfl) ?_
      refine lv_iload_n hx hb dX4_strength_15 rfl (lv_at hl 3 rfl) ?_
      refine rd_goI (rd_runS (As := [.int (bI b)]) (rest := [.int (nI i), .ref no]) hx hb hml hown hts hK hM okS_RX4_170_X4_side (met_X4_side l b) rfl ⟨Nat.le_of_ble_eq_true rfl, Nat.le_of_ble_eq_true rfl⟩ hl.1 rfl (Nat.le_of_ble_eq_true rfl) dX4_strength_16 ⟨Nat.le_refl _, Nat.le_refl _⟩) ?_
      refine rd_goI (rd_runS (As := [.ref no, .int (nI i), .int (nI (sdN b))]) (rest := []) hx hb hml hown hts hK hM okS_RX4_76_X4_isOf (met_X4_isOf l no i (sdN b) f hno (by omega) (by omega)) rfl ⟨Nat.le_of_ble_eq_true rfl, Nat.le_of_ble_eq_true rfl⟩ hl.1 rfl (Nat.le_of_ble_eq_true rfl) dX4_strength_19 ⟨Nat.le_refl _, Nat.le_refl _⟩) ?_
      refine zb_eq (tgt := 33) hx hb (mIsOf f i (sdN b)) dX4_strength_22 (by decide) (fun c_22 => ?_) (fun c_22 => ?_)
      · skip
        rw [mStP_f c_22] at hl
        refine ni_iinc (lv' := [(3, .int (nI (i + 1))), (2, .float (mStP f (sdN b) (i + 1))), (0, .ref mo), (1, .int (bI b))]) hx hb i 1 dX4_strength_33 hl (k := 0) rfl (by decide) (by decide) rfl (fun ls hl => ?_)
        refine lv_goto (tgt := 4) hx hb dX4_strength_36 (by decide) ?_
        exact ih (i + 1) (by omega) ls (lv_sub hl [0,1,2,3] rfl)
      · skip
        refine lv_fload_n hx hb dX4_strength_25 rfl (lv_at hl 1 rfl) ?_
        refine lv_aload_n hx hb dX4_strength_26 rfl (lv_at hl 2 rfl) ?_
        refine lv_iload_n hx hb dX4_strength_27 rfl (lv_at hl 0 rfl) ?_
        refine rd_goF (rd_runV (As := [.int (nI i)]) (rest := [.float (mStP f (sdN b) i)]) hx hb hml hown hts hK hM okV_RX4_201_X4_weight (met_X4_weight l mo ro no fi se t3 le od th ac oc su i f hmo hno (by omega)) hmo rfl rfl rfl ⟨Nat.le_of_ble_eq_true rfl, Nat.le_of_ble_eq_true rfl⟩ hl.1 rfl (Nat.le_of_ble_eq_true rfl) dX4_strength_28 ⟨Nat.le_refl _, Nat.le_refl _⟩) ?_
        refine lv_fadd hx hb dX4_strength_31 (hst.1 i (by omega) c_22) ?_
        refine lv_fstore_n (lv' := [(2, .float (FP.fadd (mStP f (sdN b) i) (mWt f i))), (3, .int (nI i)), (0, .ref mo), (1, .int (bI b))]) hx hb dX4_strength_32 rfl hl (by decide) rfl (fun ls hl => ?_)
        rw [mStP_t c_22] at hl
        refine ni_iinc (lv' := [(3, .int (nI (i + 1))), (2, .float (mStP f (sdN b) (i + 1))), (0, .ref mo), (1, .int (bI b))]) hx hb i 1 dX4_strength_33 hl (k := 1) rfl (by decide) (by decide) rfl (fun ls hl => ?_)
        refine lv_goto (tgt := 4) hx hb dX4_strength_36 (by decide) ?_
        exact ih (i + 1) (by omega) ls (lv_sub hl [0,1,2,3] rfl)
set_option maxHeartbeats 4000000 in
set_option maxRecDepth 100000 in
theorem met_X4_strengthOf (l : Launch) {D : va_G} {cI cJ : ClassId} {M : MP} {A : Nat → Prop} {sz : Nat} (mo ro no fi se t3 le od th ac oc : Nat) (su : Bool) (b : Bool) (f : Nat → Int32) (hmo : M mo = some (.inr (3, [.int (nI th), .int (bI su), .ref ro, .int (nI ac), .int (nI oc), .ref no, .ref fi, .ref se, .ref t3, .ref le, .ref od]))) (hno : M no = some (eI cI 146 f)) (hst : StOk f (sdN b)) (hA_mo : A mo) : Wr l yX4_strengthOf cX4_strengthOf 2 (some .float) 6 0 0 D cI cJ [.ref mo, .int (bI b)] M sz A (some (.float (mSth f (sdN b)))) (fun M' => M' = mu M mo (.inr (3, [.int (nI 0), .int (bI su), .ref ro, .int (nI ac), .int (nI oc), .ref no, .ref fi, .ref se, .ref t3, .ref le, .ref od]))) := by
  refine wr_start (by decide) (Nat.le_of_ble_eq_true rfl) ?_
  intro p e s m args below meth c hx hb hr hml hown hts hlk hini hK hsz H hH0 hM hS ls hl
  clear hH0
  have hl : lv_has ls 2 [(0, .ref mo), (1, .int (bI b))] := hl
  refine lv_aload_n hx hb dX4_strengthOf_0 rfl (lv_at hl 0 rfl) ?_
  refine lv_iconst (v := nI 0) hx hb dX4_strengthOf_1 (by decide) ?_
  refine w_put (C := RX4) (T := TX4) (N := 11) (ci := 3) hx hb hts hown hK hM hS inX4 rfl tyX4 tyX4_ok nmX4 0 (by decide) qw_4_84 rfl rfl hmo hA_mo rfl rfl (Nat.le_of_ble_eq_true rfl) dX4_strengthOf_2 (fun H locs hM hS => ?_)
  replace hM : HM D (mu M mo (.inr (3, [.int (nI 0), .int (bI su), .ref ro, .int (nI ac), .int (nI oc), .ref no, .ref fi, .ref se, .ref t3, .ref le, .ref od]))) H := hM
  refine lv_aload_n hx hb dX4_strengthOf_5 rfl (lv_at hl 0 rfl) ?_
  refine lv_iload_n hx hb dX4_strengthOf_6 rfl (lv_at hl 1 rfl) ?_
  refine rd_goF (rd_runV (As := [.int (bI b)]) (rest := []) hx hb hml hown hts hK hM okV_RX4_212_X4_strength (met_X4_strength l mo ro no fi se t3 le od 0 ac oc su b f mu_s (mu_g (ne_io hno hmo) hno) (by omega)) mu_s rfl rfl rfl ⟨Nat.le_of_ble_eq_true rfl, Nat.le_of_ble_eq_true rfl⟩ hl.1 rfl (Nat.le_of_ble_eq_true rfl) dX4_strengthOf_7 ⟨Nat.le_refl _, Nat.le_refl _⟩) ?_
  exact wr_freturn hx hb hr hlk hM hS (Nat.le_refl _) (Nat.le_refl _) rfl rfl dX4_strengthOf_10
set_option maxHeartbeats 4000000 in
set_option maxRecDepth 100000 in
theorem met_Jxf58ca_isNaN_12338 (l : Launch) {D : va_G} {cI cJ : ClassId} {M : MP} (x : UInt32) (hnn : vf_n32 x) : RdI l yJxf58ca_isNaN_12338 cJxf58ca_isNaN_12338 1 (some .boolean) 0 D cI cJ [.float x] M (bI false) := by
  refine rd_startF (by decide +kernel) (Nat.le_of_ble_eq_true rfl) ?_
  intro p e s m args below meth c hx hb hr hml hown hts hlk hK hM ls hl
  have hl : lv_has ls 1 [(0, .float x)] := hl
  refine lv_fload_n hx hb dJxf58ca_isNaN_12338_0 rfl (lv_at hl 0 rfl) ?_
  refine lv_fload_n hx hb dJxf58ca_isNaN_12338_1 rfl (lv_at hl 0 rfl) ?_
  refine lv_fcmp hx hb dJxf58ca_isNaN_12338_2 ?_
  refine topi (nI 0) (fcmp_sf hnn) ?_
  refine n0_eq (tgt := 10) hx hb 0 (by omega) dJxf58ca_isNaN_12338_3 (by decide) (fun c_3 => ?_) (fun c_3 => ?_)
  · skip
    refine lv_iconst (v := nI 0) hx hb dJxf58ca_isNaN_12338_10 (by decide) ?_
    exact rd_zreturn hx hb hr hlk rfl dJxf58ca_isNaN_12338_11
  · skip
    exfalso; omega
set_option maxHeartbeats 4000000 in
set_option maxRecDepth 100000 in
theorem met_Jxf58ca_floatToIntBits_5c35a (l : Launch) {D : va_G} {cI cJ : ClassId} {M : MP} (x : UInt32) (hnn : vf_n32 x) : RdI l yJxf58ca_floatToIntBits_5c35a cJxf58ca_floatToIntBits_5c35a 1 (some .int) 1 D cI cJ [.float x] M (flB x) := by
  refine rd_startF (by decide +kernel) (Nat.le_of_ble_eq_true rfl) ?_
  intro p e s m args below meth c hx hb hr hml hown hts hlk hK hM ls hl
  have hl : lv_has ls 1 [(0, .float x)] := hl
  refine lv_fload_n hx hb dJxf58ca_floatToIntBits_5c35a_0 rfl (lv_at hl 0 rfl) ?_
  refine rd_goI (rd_runS (As := [.float x]) (rest := []) hx hb hml hown hts hK hM okS_RJxf58ca_59_Jxf58ca_isNaN_12338 (met_Jxf58ca_isNaN_12338 l x (by omega)) rfl ⟨Nat.le_of_ble_eq_true rfl, Nat.le_of_ble_eq_true rfl⟩ hl.1 rfl (Nat.le_of_ble_eq_true rfl) dJxf58ca_floatToIntBits_5c35a_1 ⟨Nat.le_refl _, Nat.le_refl _⟩) ?_
  refine zb_ne (tgt := 12) hx hb false dJxf58ca_floatToIntBits_5c35a_4 (by decide) (fun h => absurd (h.symm.trans (rfl : false = false)) (by decide)) (fun _ => ?_)
  refine lv_fload_n hx hb dJxf58ca_floatToIntBits_5c35a_7 rfl (lv_at hl 0 rfl) ?_
  refine vn_f2i hx hb (hml.trans hl.1.symm) hown (hts _ qw_5_78) (hts _ qw_5_80) (hts _ qw_5_79) (hts _ qw_1_19) (Nat.le_of_ble_eq_true rfl) (Nat.le_of_ble_eq_true rfl) dJxf58ca_floatToIntBits_5c35a_8 ?_
  exact rd_ireturn hx hb hr hlk rfl dJxf58ca_floatToIntBits_5c35a_11
set_option maxHeartbeats 4000000 in
set_option maxRecDepth 100000 in
theorem met_X4_strengthBits (l : Launch) {D : va_G} {cI cJ : ClassId} {M : MP} {A : Nat → Prop} {sz : Nat} (mo ro no fi se t3 le od th ac oc : Nat) (su : Bool) (b : Bool) (f : Nat → Int32) (hmo : M mo = some (.inr (3, [.int (nI th), .int (bI su), .ref ro, .int (nI ac), .int (nI oc), .ref no, .ref fi, .ref se, .ref t3, .ref le, .ref od]))) (hno : M no = some (eI cI 146 f)) (hst : StOk f (sdN b)) (hA_mo : A mo) : Wr l yX4_strengthBits cX4_strengthBits 2 (some .int) 6 0 0 D cI cJ [.ref mo, .int (bI b)] M sz A (some (.int (flB (mSth f (sdN b))))) (fun M' => M' = mu M mo (.inr (3, [.int (nI 0), .int (bI su), .ref ro, .int (nI ac), .int (nI oc), .ref no, .ref fi, .ref se, .ref t3, .ref le, .ref od]))) := by
  refine wr_start (by decide) (Nat.le_of_ble_eq_true rfl) ?_
  intro p e s m args below meth c hx hb hr hml hown hts hlk hini hK hsz H hH0 hM hS ls hl
  clear hH0
  have hl : lv_has ls 2 [(0, .ref mo), (1, .int (bI b))] := hl
  refine lv_aload_n hx hb dX4_strengthBits_0 rfl (lv_at hl 0 rfl) ?_
  refine lv_iconst (v := nI 0) hx hb dX4_strengthBits_1 (by decide) ?_
  refine w_put (C := RX4) (T := TX4) (N := 11) (ci := 3) hx hb hts hown hK hM hS inX4 rfl tyX4 tyX4_ok nmX4 0 (by decide) qw_4_84 rfl rfl hmo hA_mo rfl rfl (Nat.le_of_ble_eq_true rfl) dX4_strengthBits_2 (fun H locs hM hS => ?_)
  replace hM : HM D (mu M mo (.inr (3, [.int (nI 0), .int (bI su), .ref ro, .int (nI ac), .int (nI oc), .ref no, .ref fi, .ref se, .ref t3, .ref le, .ref od]))) H := hM
  refine lv_aload_n hx hb dX4_strengthBits_5 rfl (lv_at hl 0 rfl) ?_
  refine lv_iload_n hx hb dX4_strengthBits_6 rfl (lv_at hl 1 rfl) ?_
  refine rd_goF (rd_runV (As := [.int (bI b)]) (rest := []) hx hb hml hown hts hK hM okV_RX4_212_X4_strength (met_X4_strength l mo ro no fi se t3 le od 0 ac oc su b f mu_s (mu_g (ne_io hno hmo) hno) (by omega)) mu_s rfl rfl rfl ⟨Nat.le_of_ble_eq_true rfl, Nat.le_of_ble_eq_true rfl⟩ hl.1 rfl (Nat.le_of_ble_eq_true rfl) dX4_strengthBits_7 ⟨Nat.le_refl _, Nat.le_refl _⟩) ?_
  refine rd_goI (rd_runS (As := [.float (mSth f (sdN b))]) (rest := []) hx hb hml hown hts hK hM okS_RX4_216_Jxf58ca_floatToIntBits_5c35a (met_Jxf58ca_floatToIntBits_5c35a l (mSth f (sdN b)) hst.2.2) rfl ⟨Nat.le_of_ble_eq_true rfl, Nat.le_of_ble_eq_true rfl⟩ hl.1 rfl (Nat.le_of_ble_eq_true rfl) dX4_strengthBits_10 ⟨Nat.le_refl _, Nat.le_refl _⟩) ?_
  exact wr_ireturn hx hb hr hlk hM hS (Nat.le_refl _) (Nat.le_refl _) rfl rfl dX4_strengthBits_13
set_option maxHeartbeats 4000000 in
set_option maxRecDepth 100000 in
theorem met_X4_balance (l : Launch) {D : va_G} {cI cJ : ClassId} {M : MP} {A : Nat → Prop} {sz : Nat} (mo ro no fi se t3 le od th ac oc : Nat) (su : Bool) (f : Nat → Int32) (hmo : M mo = some (.inr (3, [.int (nI th), .int (bI su), .ref ro, .int (nI ac), .int (nI oc), .ref no, .ref fi, .ref se, .ref t3, .ref le, .ref od]))) (hno : M no = some (eI cI 146 f)) (hst : StOk f (sdN true)) (hst2 : StOk f (sdN false)) (hd1 : DbOk f (sdN true)) (hd2 : DbOk f (sdN false)) (hd3 : vf_n64 (mBal f)) (hA_mo : A mo) : Wr l yX4_balance cX4_balance 1 (some .double) 6 0 0 D cI cJ [.ref mo] M sz A (some (.double (mBal f))) (fun M' => M' = mu M mo (.inr (3, [.int (nI 0), .int (bI su), .ref ro, .int (nI ac), .int (nI oc), .ref no, .ref fi, .ref se, .ref t3, .ref le, .ref od]))) := by
  refine wr_start (by decide) (Nat.le_of_ble_eq_true rfl) ?_
  intro p e s m args below meth c hx hb hr hml hown hts hlk hini hK hsz H hH0 hM hS ls hl
  clear hH0
  have hl : lv_has ls 1 [(0, .ref mo)] := hl
  refine lv_aload_n hx hb dX4_balance_0 rfl (lv_at hl 0 rfl) ?_
  refine lv_iconst (v := nI 0) hx hb dX4_balance_1 (by decide) ?_
  refine w_put (C := RX4) (T := TX4) (N := 11) (ci := 3) hx hb hts hown hK hM hS inX4 rfl tyX4 tyX4_ok nmX4 0 (by decide) qw_4_84 rfl rfl hmo hA_mo rfl rfl (Nat.le_of_ble_eq_true rfl) dX4_balance_2 (fun H locs hM hS => ?_)
  replace hM : HM D (mu M mo (.inr (3, [.int (nI 0), .int (bI su), .ref ro, .int (nI ac), .int (nI oc), .ref no, .ref fi, .ref se, .ref t3, .ref le, .ref od]))) H := hM
  refine lv_aload_n hx hb dX4_balance_5 rfl (lv_at hl 0 rfl) ?_
  refine lv_iconst (v := nI 1) hx hb dX4_balance_6 (by decide) ?_
  refine rd_goF (rd_runV (As := [.int (bI true)]) (rest := []) hx hb hml hown hts hK hM okV_RX4_212_X4_strength (met_X4_strength l mo ro no fi se t3 le od 0 ac oc su true f mu_s (mu_g (ne_io hno hmo) hno) (by omega)) mu_s rfl rfl rfl ⟨Nat.le_of_ble_eq_true rfl, Nat.le_of_ble_eq_true rfl⟩ hl.1 rfl (Nat.le_of_ble_eq_true rfl) dX4_balance_7 ⟨Nat.le_refl _, Nat.le_refl _⟩) ?_
  refine lv_f2d hx hb dX4_balance_10 hd1 ?_
  refine lv_aload_n hx hb dX4_balance_11 rfl (lv_at hl 0 rfl) ?_
  refine lv_iconst (v := nI 0) hx hb dX4_balance_12 (by decide) ?_
  refine rd_goF (rd_runV (As := [.int (bI false)]) (rest := [.double (FP.f2d (mSth f (sdN true)))]) hx hb hml hown hts hK hM okV_RX4_212_X4_strength (met_X4_strength l mo ro no fi se t3 le od 0 ac oc su false f mu_s (mu_g (ne_io hno hmo) hno) hst2) mu_s rfl rfl rfl ⟨Nat.le_of_ble_eq_true rfl, Nat.le_of_ble_eq_true rfl⟩ hl.1 rfl (Nat.le_of_ble_eq_true rfl) dX4_balance_13 ⟨Nat.le_refl _, Nat.le_refl _⟩) ?_
  refine lv_f2d hx hb dX4_balance_16 hd2 ?_
  refine lv_dsub hx hb dX4_balance_17 hd3 ?_
  exact wr_dreturn hx hb hr hlk hM hS (Nat.le_refl _) (Nat.le_refl _) rfl rfl dX4_balance_18
