theorem okN_X3_bit : okN yX3_bit cX3_bit 1 (some .long) 1 := okN_of qw_1_96 qw_1_1 qw_1_97 (by decide +kernel)
theorem okN_X3_has : okN yX3_has cX3_has 3 (some .boolean) 2 := okN_of qw_1_173 qw_1_1 qw_1_174 (by decide +kernel)
theorem okS_RX2_15_X2_ofRook : okS RX2 15 yX2_ofRook cX2_ofRook 17 (some .long) 2 := okS_of qw_1_212 qw_1_213 qw_1_15 qw_1_214 (by decide +kernel)
theorem okS_RX2_19_X2_ofBishop : okS RX2 19 yX2_ofBishop cX2_ofBishop 17 (some .long) 2 := okS_of qw_1_216 qw_1_217 qw_1_15 qw_1_218 (by decide +kernel)
theorem okS_RX2_22_X2_ofKnight : okS RX2 22 yX2_ofKnight cX2_ofKnight 6 (some .long) 1 := okS_of qw_1_184 qw_1_185 qw_1_15 qw_1_186 (by decide +kernel)
theorem okS_RX2_25_X2_ofPawn : okS RX2 25 yX2_ofPawn cX2_ofPawn 5 (some .long) 2 := okS_of qw_1_219 qw_1_220 qw_1_15 qw_1_221 (by decide +kernel)
theorem okS_RX2_9_X2_ofKing : okS RX2 9 yX2_ofKing cX2_ofKing 6 (some .long) 1 := okS_of qw_1_209 qw_1_210 qw_1_15 qw_1_211 (by decide +kernel)
theorem okS_RX3_76_J13_bitCount_95d88 : okS RX3 76 yJ13_bitCount_95d88 cJ13_bitCount_95d88 2 (some .int) 1 := okS_of qw_1_154 qw_1_155 qw_1_14 qw_1_156 (by decide +kernel)
set_option maxHeartbeats 4000000 in
set_option maxRecDepth 100000 in
theorem met_X3_has (l : Launch) {D : va_G} {cI cJ : ClassId} {M : MP} (x : BitVec 64) (j : Nat) (hj : j < 64) : RdI l yX3_has cX3_has 3 (some .boolean) 0 D cI cJ [.long (bL x), .int (nI j)] M (bI (x.getLsbD j)) := by
  refine rd_start (by decide) (Nat.le_of_ble_eq_true rfl) ?_
  intro p e s m args below meth c hx hb hr hml hown hts hlk hK hM ls hl
  have hl : lv_has ls 3 [(0, .long (bL x)), (2, .int (nI j))] := hl
  refine lv_lload_n hx hb dX3_has_0 rfl (lv_at hl 0 rfl) ?_
  refine lv_iload_n hx hb dX3_has_1 rfl (lv_at hl 1 rfl) ?_
  refine lb_ushr hx hb j (by omega) dX3_has_2 ?_
  refine lb_const hx hb 1#64 dX3_has_3 rfl ?_
  refine lb_and hx hb dX3_has_4 ?_
  refine lb_const hx hb 0#64 dX3_has_5 rfl ?_
  refine lb_ceq (tgt := 14) hx hb dX3_has_6 dX3_has_7 (by decide) (fun c_7 => ?_) (fun c_7 => ?_)
  · skip
    refine lv_iconst (v := nI 0) hx hb dX3_has_14 (by decide) ?_
    exact rd_zreturn hx hb hr hlk (by first | exact bI_1 (by cases hz : x.getLsbD j; (exact absurd ((bv_has x j).mpr hz) c_7); rfl) | exact bI_f0 ((bv_has x j).mp c_7)) dX3_has_15
  · skip
    refine lv_iconst (v := nI 1) hx hb dX3_has_10 (by decide) ?_
    refine lv_goto (tgt := 15) hx hb dX3_has_11 (by decide) ?_
    exact rd_zreturn hx hb hr hlk (by first | exact bI_1 (by cases hz : x.getLsbD j; (exact absurd ((bv_has x j).mpr hz) c_7); rfl) | exact bI_f0 ((bv_has x j).mp c_7)) dX3_has_15
set_option maxHeartbeats 4000000 in
set_option maxRecDepth 100000 in
theorem met_X3_bit (l : Launch) {D : va_G} {cI cJ : ClassId} {M : MP} (j : Nat) (hj : j < 64) : RdL l yX3_bit cX3_bit 1 (some .long) 0 D cI cJ [.int (nI j)] M (bL (kB j)) := by
  refine rd_start (by decide) (Nat.le_of_ble_eq_true rfl) ?_
  intro p e s m args below meth c hx hb hr hml hown hts hlk hK hM ls hl
  have hl : lv_has ls 1 [(0, .int (nI j))] := hl
  refine lb_const hx hb 1#64 dX3_bit_0 rfl ?_
  refine lv_iload_n hx hb dX3_bit_1 rfl (lv_at hl 0 rfl) ?_
  refine lb_shl hx hb j (by omega) dX3_bit_2 ?_
  exact rd_lreturn hx hb hr hlk rfl dX3_bit_3
set_option maxHeartbeats 4000000 in
set_option maxRecDepth 100000 in
theorem met_X3_lowestOf (l : Launch) {D : va_G} {cI cJ : ClassId} {M : MP} (x : BitVec 64) : RdI l yX3_lowestOf cX3_lowestOf 2 (some .int) 1 D cI cJ [.long (bL x)] M (kLow x) := by
  refine rd_start (by decide) (Nat.le_of_ble_eq_true rfl) ?_
  intro p e s m args below meth c hx hb hr hml hown hts hlk hK hM ls hl
  have hl : lv_has ls 2 [(0, .long (bL x))] := hl
  refine lv_lload_n hx hb dX3_lowestOf_0 rfl (lv_at hl 0 rfl) ?_
  refine lb_const hx hb 0#64 dX3_lowestOf_1 rfl ?_
  refine lb_cne (tgt := 10) hx hb dX3_lowestOf_2 dX3_lowestOf_3 (by decide) (fun c_3 => ?_) (fun c_3 => ?_)
  · skip
    refine lv_lload_n hx hb dX3_lowestOf_10 rfl (lv_at hl 0 rfl) ?_
    refine lv_lload_n hx hb dX3_lowestOf_11 rfl (lv_at hl 0 rfl) ?_
    refine lb_neg hx hb dX3_lowestOf_12 ?_
    refine lb_and hx hb dX3_lowestOf_13 ?_
    refine lb_const hx hb 1#64 dX3_lowestOf_14 rfl ?_
    refine lb_sub hx hb dX3_lowestOf_15 ?_
    refine rd_goI (rd_runS (As := [.long (bL ((x &&& (-x)) - (1#64)))]) (rest := []) hx hb hml hown hts hK hM okS_RX3_76_J13_bitCount_95d88 (met_J13_bitCount_95d88 l ((x &&& (-x)) - (1#64))) rfl ⟨Nat.le_of_ble_eq_true rfl, Nat.le_of_ble_eq_true rfl⟩ hl.1 rfl (Nat.le_of_ble_eq_true rfl) dX3_lowestOf_16 ⟨Nat.le_refl _, Nat.le_refl _⟩) ?_
    have hf16_0 := pcnt_le ((x &&& (-x)) - (1#64))
    exact rd_ireturn hx hb hr hlk (by simp [kLow, bI_t, bI_f, c_3]) dX3_lowestOf_19
  · skip
    refine lv_iconst (v := (-1)) hx hb dX3_lowestOf_6 (by decide) ?_
    refine lv_goto (tgt := 19) hx hb dX3_lowestOf_7 (by decide) ?_
    exact rd_ireturn hx hb hr hlk (by simp [kLow, bI_t, bI_f, c_3]) dX3_lowestOf_19
set_option maxHeartbeats 4000000 in
set_option maxRecDepth 100000 in
theorem met_X2_ofKing (l : Launch) {D : va_G} {cI cJ : ClassId} {M : MP} (x : BitVec 64) : RdL l yX2_ofKing cX2_ofKing 6 (some .long) 0 D cI cJ [.long (bL x)] M (bL (kKi x)) := by
  refine rd_start (by decide) (Nat.le_of_ble_eq_true rfl) ?_
  intro p e s m args below meth c hx hb hr hml hown hts hlk hK hM ls hl
  have hl : lv_has ls 6 [(0, .long (bL x))] := hl
  refine lv_lload_n hx hb dX2_ofKing_0 rfl (lv_at hl 0 rfl) ?_
  refine lv_ldc2 (v := bL 18374403900871474942#64) hx hb hown (hts _ qw_1_187) dX2_ofKing_1 ?_
  refine lb_and hx hb dX2_ofKing_4 ?_
  refine lv_iconst (v := nI 1) hx hb dX2_ofKing_5 (by decide) ?_
  refine lb_ushr hx hb 1 (by omega) dX2_ofKing_6 ?_
  refine lv_lload_n hx hb dX2_ofKing_7 rfl (lv_at hl 0 rfl) ?_
  refine lv_ldc2 (v := bL 9187201950435737471#64) hx hb hown (hts _ qw_1_188) dX2_ofKing_8 ?_
  refine lb_and hx hb dX2_ofKing_11 ?_
  refine lv_iconst (v := nI 1) hx hb dX2_ofKing_12 (by decide) ?_
  refine lb_shl hx hb 1 (by omega) dX2_ofKing_13 ?_
  refine lb_or hx hb dX2_ofKing_14 ?_
  refine lv_lstore_n (lv' := [(2, .long (bL (((x &&& (18374403900871474942#64)) >>> 1) ||| ((x &&& (9187201950435737471#64)) <<< 1)))), (0, .long (bL x))]) hx hb dX2_ofKing_15 rfl hl (by decide) rfl (fun ls hl => ?_)
  refine lv_lload_n hx hb dX2_ofKing_16 rfl (lv_at hl 1 rfl) ?_
  refine lv_lload_n hx hb dX2_ofKing_17 rfl (lv_at hl 0 rfl) ?_
  refine lb_or hx hb dX2_ofKing_18 ?_
  refine lv_lstore (lv' := [(4, .long (bL (x ||| (((x &&& (18374403900871474942#64)) >>> 1) ||| ((x &&& (9187201950435737471#64)) <<< 1))))), (2, .long (bL (((x &&& (18374403900871474942#64)) >>> 1) ||| ((x &&& (9187201950435737471#64)) <<< 1)))), (0, .long (bL x))]) hx hb dX2_ofKing_19 hl (by decide) rfl (fun ls hl => ?_)
  refine lv_lload_n hx hb dX2_ofKing_21 rfl (lv_at hl 1 rfl) ?_
  refine lv_lload hx hb dX2_ofKing_22 (lv_at hl 0 rfl) ?_
  refine lv_bipush (v := nI 8) hx hb dX2_ofKing_24 (by decide) ?_
  refine lb_shl hx hb 8 (by omega) dX2_ofKing_26 ?_
  refine lb_or hx hb dX2_ofKing_27 ?_
  refine lv_lload hx hb dX2_ofKing_28 (lv_at hl 0 rfl) ?_
  refine lv_bipush (v := nI 8) hx hb dX2_ofKing_30 (by decide) ?_
  refine lb_ushr hx hb 8 (by omega) dX2_ofKing_32 ?_
  refine lb_or hx hb dX2_ofKing_33 ?_
  exact rd_lreturn hx hb hr hlk rfl dX2_ofKing_34
set_option maxHeartbeats 4000000 in
set_option maxRecDepth 100000 in
theorem met_X2_ofKnight (l : Launch) {D : va_G} {cI cJ : ClassId} {M : MP} (x : BitVec 64) : RdL l yX2_ofKnight cX2_ofKnight 6 (some .long) 0 D cI cJ [.long (bL x)] M (bL (kN x)) := by
  refine rd_start (by decide) (Nat.le_of_ble_eq_true rfl) ?_
  intro p e s m args below meth c hx hb hr hml hown hts hlk hK hM ls hl
  have hl : lv_has ls 6 [(0, .long (bL x))] := hl
  refine lv_lload_n hx hb dX2_ofKnight_0 rfl (lv_at hl 0 rfl) ?_
  refine lv_ldc2 (v := bL 18374403900871474942#64) hx hb hown (hts _ qw_1_187) dX2_ofKnight_1 ?_
  refine lb_and hx hb dX2_ofKnight_4 ?_
  refine lv_iconst (v := nI 1) hx hb dX2_ofKnight_5 (by decide) ?_
  refine lb_ushr hx hb 1 (by omega) dX2_ofKnight_6 ?_
  refine lv_lload_n hx hb dX2_ofKnight_7 rfl (lv_at hl 0 rfl) ?_
  refine lv_ldc2 (v := bL 9187201950435737471#64) hx hb hown (hts _ qw_1_188) dX2_ofKnight_8 ?_
  refine lb_and hx hb dX2_ofKnight_11 ?_
  refine lv_iconst (v := nI 1) hx hb dX2_ofKnight_12 (by decide) ?_
  refine lb_shl hx hb 1 (by omega) dX2_ofKnight_13 ?_
  refine lb_or hx hb dX2_ofKnight_14 ?_
  refine lv_lstore_n (lv' := [(2, .long (bL (((x &&& (18374403900871474942#64)) >>> 1) ||| ((x &&& (9187201950435737471#64)) <<< 1)))), (0, .long (bL x))]) hx hb dX2_ofKnight_15 rfl hl (by decide) rfl (fun ls hl => ?_)
  refine lv_lload_n hx hb dX2_ofKnight_16 rfl (lv_at hl 1 rfl) ?_
  refine lv_ldc2 (v := bL 18229723555195321596#64) hx hb hown (hts _ qw_1_189) dX2_ofKnight_17 ?_
  refine lb_and hx hb dX2_ofKnight_20 ?_
  refine lv_iconst (v := nI 2) hx hb dX2_ofKnight_21 (by decide) ?_
  refine lb_ushr hx hb 2 (by omega) dX2_ofKnight_22 ?_
  refine lv_lload_n hx hb dX2_ofKnight_23 rfl (lv_at hl 1 rfl) ?_
  refine lv_ldc2 (v := bL 4557430888798830399#64) hx hb hown (hts _ qw_1_190) dX2_ofKnight_24 ?_
  refine lb_and hx hb dX2_ofKnight_27 ?_
  refine lv_iconst (v := nI 2) hx hb dX2_ofKnight_28 (by decide) ?_
  refine lb_shl hx hb 2 (by omega) dX2_ofKnight_29 ?_
  refine lb_or hx hb dX2_ofKnight_30 ?_
  refine lv_lstore (lv' := [(4, .long (bL (((x &&& (18229723555195321596#64)) >>> 2) ||| ((x &&& (4557430888798830399#64)) <<< 2)))), (2, .long (bL (((x &&& (18374403900871474942#64)) >>> 1) ||| ((x &&& (9187201950435737471#64)) <<< 1)))), (0, .long (bL x))]) hx hb dX2_ofKnight_31 hl (by decide) rfl (fun ls hl => ?_)
  refine lv_lload_n hx hb dX2_ofKnight_33 rfl (lv_at hl 1 rfl) ?_
  refine lv_bipush (v := nI 16) hx hb dX2_ofKnight_34 (by decide) ?_
  refine lb_shl hx hb 16 (by omega) dX2_ofKnight_36 ?_
  refine lv_lload_n hx hb dX2_ofKnight_37 rfl (lv_at hl 1 rfl) ?_
  refine lv_bipush (v := nI 16) hx hb dX2_ofKnight_38 (by decide) ?_
  refine lb_ushr hx hb 16 (by omega) dX2_ofKnight_40 ?_
  refine lb_or hx hb dX2_ofKnight_41 ?_
  refine lv_lload hx hb dX2_ofKnight_42 (lv_at hl 0 rfl) ?_
  refine lv_bipush (v := nI 8) hx hb dX2_ofKnight_44 (by decide) ?_
  refine lb_shl hx hb 8 (by omega) dX2_ofKnight_46 ?_
  refine lb_or hx hb dX2_ofKnight_47 ?_
  refine lv_lload hx hb dX2_ofKnight_48 (lv_at hl 0 rfl) ?_
  refine lv_bipush (v := nI 8) hx hb dX2_ofKnight_50 (by decide) ?_
  refine lb_ushr hx hb 8 (by omega) dX2_ofKnight_52 ?_
  refine lb_or hx hb dX2_ofKnight_53 ?_
  exact rd_lreturn hx hb hr hlk rfl dX2_ofKnight_54
set_option maxHeartbeats 4000000 in
set_option maxRecDepth 100000 in
theorem met_X2_ofPawn (l : Launch) {D : va_G} {cI cJ : ClassId} {M : MP} (x : BitVec 64) (b : Bool) : RdL l yX2_ofPawn cX2_ofPawn 5 (some .long) 0 D cI cJ [.long (bL x), .int (bI b)] M (bL (kPa x b)) := by
  refine rd_start (by decide) (Nat.le_of_ble_eq_true rfl) ?_
  intro p e s m args below meth c hx hb hr hml hown hts hlk hK hM ls hl
  have hl : lv_has ls 5 [(0, .long (bL x)), (2, .int (bI b))] := hl
  refine lv_iload_n hx hb dX2_ofPawn_0 rfl (lv_at hl 1 rfl) ?_
  refine meet (ls := ls) (pcJ := 15) (st := [.long (bL (if b then sU x else sD x))]) ?_ (fun hJ15 => ?_)
  · skip
    refine lv_lstore_n (lv' := [(3, .long (bL (if b then sU x else sD x))), (0, .long (bL x)), (2, .int (bI b))]) hx hb dX2_ofPawn_15 rfl hl (by decide) rfl (fun ls hl => ?_)
    refine lv_lload_n hx hb dX2_ofPawn_16 rfl (lv_at hl 0 rfl) ?_
    refine lv_ldc2 (v := bL 18374403900871474942#64) hx hb hown (hts _ qw_1_187) dX2_ofPawn_17 ?_
    refine lb_and hx hb dX2_ofPawn_20 ?_
    refine lv_iconst (v := nI 1) hx hb dX2_ofPawn_21 (by decide) ?_
    refine lb_ushr hx hb 1 (by omega) dX2_ofPawn_22 ?_
    refine lv_lload_n hx hb dX2_ofPawn_23 rfl (lv_at hl 0 rfl) ?_
    refine lv_ldc2 (v := bL 9187201950435737471#64) hx hb hown (hts _ qw_1_188) dX2_ofPawn_24 ?_
    refine lb_and hx hb dX2_ofPawn_27 ?_
    refine lv_iconst (v := nI 1) hx hb dX2_ofPawn_28 (by decide) ?_
    refine lb_shl hx hb 1 (by omega) dX2_ofPawn_29 ?_
    refine lb_or hx hb dX2_ofPawn_30 ?_
    exact rd_lreturn hx hb hr hlk rfl dX2_ofPawn_31
  · skip
    refine zb_eq (tgt := 11) hx hb b dX2_ofPawn_1 (by decide) (fun c_1 => ?_) (fun c_1 => ?_)
    · skip
      refine lv_lload_n hx hb dX2_ofPawn_11 rfl (lv_at hl 0 rfl) ?_
      refine lv_bipush (v := nI 8) hx hb dX2_ofPawn_12 (by decide) ?_
      refine lb_ushr hx hb 8 (by omega) dX2_ofPawn_14 ?_
      exact topl (bL (if b then sU x else sD x)) (by simp [c_1, sU, sD]) hJ15
    · skip
      refine lv_lload_n hx hb dX2_ofPawn_4 rfl (lv_at hl 0 rfl) ?_
      refine lv_bipush (v := nI 8) hx hb dX2_ofPawn_5 (by decide) ?_
      refine lb_shl hx hb 8 (by omega) dX2_ofPawn_7 ?_
      refine lv_goto (tgt := 15) hx hb dX2_ofPawn_8 (by decide) ?_
      exact topl (bL (if b then sU x else sD x)) (by simp [c_1, sU, sD]) hJ15
set_option maxHeartbeats 4000000 in
set_option maxRecDepth 100000 in
theorem met_X2_ofRook (l : Launch) {D : va_G} {cI cJ : ClassId} {M : MP} (x : BitVec 64) (o : BitVec 64) : RdL l yX2_ofRook cX2_ofRook 17 (some .long) 0 D cI cJ [.long (bL x), .long (bL o)] M (bL (kRk x o)) := by
  refine rd_start (by decide) (Nat.le_of_ble_eq_true rfl) ?_
  intro p e s m args below meth c hx hb hr hml hown hts hlk hK hM ls hl
  have hl : lv_has ls 17 [(0, .long (bL x)), (2, .long (bL o))] := hl
  have hz0 : (0 : Nat) = 0 := rfl
  refine lv_lload_n hx hb dX2_ofRook_0 rfl (lv_at hl 1 rfl) ?_
  refine lv_ldc2 (v := bL 18446744073709551615#64) hx hb hown (hts _ qw_1_215) dX2_ofRook_1 ?_
  refine lb_xor hx hb dX2_ofRook_4 ?_
  refine lv_lstore (lv' := [(4, .long (bL (o ^^^ (18446744073709551615#64)))), (0, .long (bL x)), (2, .long (bL o))]) hx hb dX2_ofRook_5 hl (by decide) rfl (fun ls hl => ?_)
  refine lv_lload_n hx hb dX2_ofRook_7 rfl (lv_at hl 1 rfl) ?_
  refine lv_lstore (lv' := [(6, .long (bL x)), (4, .long (bL (o ^^^ (18446744073709551615#64)))), (0, .long (bL x)), (2, .long (bL o))]) hx hb dX2_ofRook_8 hl (by decide) rfl (fun ls hl => ?_)
  refine lv_lload_n hx hb dX2_ofRook_10 rfl (lv_at hl 2 rfl) ?_
  refine lv_lstore (lv' := [(8, .long (bL x)), (6, .long (bL x)), (4, .long (bL (o ^^^ (18446744073709551615#64)))), (0, .long (bL x)), (2, .long (bL o))]) hx hb dX2_ofRook_11 hl (by decide) rfl (fun ls hl => ?_)
  refine lv_lload_n hx hb dX2_ofRook_13 rfl (lv_at hl 3 rfl) ?_
  refine lv_lstore (lv' := [(10, .long (bL x)), (8, .long (bL x)), (6, .long (bL x)), (4, .long (bL (o ^^^ (18446744073709551615#64)))), (0, .long (bL x)), (2, .long (bL o))]) hx hb dX2_ofRook_14 hl (by decide) rfl (fun ls hl => ?_)
  refine lv_lload_n hx hb dX2_ofRook_16 rfl (lv_at hl 4 rfl) ?_
  refine lv_lstore (lv' := [(12, .long (bL x)), (10, .long (bL x)), (8, .long (bL x)), (6, .long (bL x)), (4, .long (bL (o ^^^ (18446744073709551615#64)))), (0, .long (bL x)), (2, .long (bL o))]) hx hb dX2_ofRook_17 hl (by decide) rfl (fun ls hl => ?_)
  refine lb_const hx hb 0#64 dX2_ofRook_19 rfl ?_
  refine lv_lstore (lv' := [(14, .long (bL (0#64))), (12, .long (bL x)), (10, .long (bL x)), (8, .long (bL x)), (6, .long (bL x)), (4, .long (bL (o ^^^ (18446744073709551615#64)))), (0, .long (bL x)), (2, .long (bL o))]) hx hb dX2_ofRook_20 hl (by decide) rfl (fun ls hl => ?_)
  refine lv_iconst (v := nI 1) hx hb dX2_ofRook_22 (by decide) ?_
  refine lv_istore (lv' := [(16, .int (nI 1)), (14, .long (bL (0#64))), (12, .long (bL x)), (10, .long (bL x)), (8, .long (bL x)), (6, .long (bL x)), (4, .long (bL (o ^^^ (18446744073709551615#64)))), (0, .long (bL x)), (2, .long (bL o))]) hx hb dX2_ofRook_23 hl (by decide) rfl (fun ls hl => ?_)
  refine loopR (pcH := 25) (st := []) (ι := BitVec 64 × BitVec 64 × BitVec 64 × BitVec 64 × BitVec 64 × Nat) (fun ξ => [(16, .int (nI (ξ.2.2.2.2.2))), (14, .long (bL (ξ.2.2.2.2.1))), (12, .long (bL (ξ.2.2.2.1))), (10, .long (bL (ξ.2.2.1))), (8, .long (bL (ξ.2.1))), (6, .long (bL (ξ.1))), (4, .long (bL (o ^^^ (18446744073709551615#64)))), (0, .long (bL x)), (2, .long (bL o))]) (fun n ξ => (ξ.2.2.2.2.2) + n = 8 ∧ kRay sU sD sW sE (kNot o) 7 x x x x 0#64 = kRay sU sD sW sE (kNot o) n (ξ.1) (ξ.2.1) (ξ.2.2.1) (ξ.2.2.2.1) (ξ.2.2.2.2.1)) ?_ ?_ 7 (x, x, x, x, 0#64, 1) (⟨by first | omega | (dsimp only <;> omega), rfl⟩) ls (lv_sub hl [0,1,2,3,4,5,6,7,8] rfl)
  · rintro ⟨u, d, lf, r, acc, i⟩ ⟨hin, hres⟩ ls hl
    try dsimp only at hl hin hres
    refine lv_iload hx hb dX2_ofRook_25 (lv_at hl 0 rfl) ?_
    refine lv_bipush (v := nI 8) hx hb dX2_ofRook_27 (by decide) ?_
    refine ni_ge (tgt := 132) hx hb i 8 (by omega) (by omega) dX2_ofRook_29 (by decide) (fun c_29 => ?_) (fun c_29 => ?_)
    · skip
      refine lv_lload hx hb dX2_ofRook_132 (lv_at hl 1 rfl) ?_
      exact rd_lreturn hx hb hr hlk (by show bL acc = bL (kRay sU sD sW sE (kNot o) 7 x x x x 0#64); rw [hres]; rfl) dX2_ofRook_134
    · skip
      exfalso; omega
  · rintro n ih ⟨u, d, lf, r, acc, i⟩ ⟨hin, hres⟩ ls hl
    try dsimp only at hl hin hres
    refine lv_iload hx hb dX2_ofRook_25 (lv_at hl 0 rfl) ?_
    refine lv_bipush (v := nI 8) hx hb dX2_ofRook_27 (by decide) ?_
    refine ni_ge (tgt := 132) hx hb i 8 (by omega) (by omega) dX2_ofRook_29 (by decide) (fun c_29 => ?_) (fun c_29 => ?_)
    · skip
      exfalso; omega
    · skip
      refine lv_lload hx hb dX2_ofRook_32 (lv_at hl 5 rfl) ?_
      refine lv_lload hx hb dX2_ofRook_34 (lv_at hl 4 rfl) ?_
      refine lb_or hx hb dX2_ofRook_36 ?_
      refine lv_lload hx hb dX2_ofRook_37 (lv_at hl 3 rfl) ?_
      refine lb_or hx hb dX2_ofRook_39 ?_
      refine lv_lload hx hb dX2_ofRook_40 (lv_at hl 2 rfl) ?_
      refine lb_or hx hb dX2_ofRook_42 ?_
      refine lb_const hx hb 0#64 dX2_ofRook_43 rfl ?_
      refine lb_ceq (tgt := 132) hx hb dX2_ofRook_44 dX2_ofRook_45 (by decide) (fun c_45 => ?_) (fun c_45 => ?_)
      · skip
        refine lv_lload hx hb dX2_ofRook_132 (lv_at hl 1 rfl) ?_
        exact rd_lreturn hx hb hr hlk (by show bL acc = bL (kRay sU sD sW sE (kNot o) 7 x x x x 0#64); rw [hres]; rw [kRay_z c_45]) dX2_ofRook_134
      · skip
        refine lv_lload hx hb dX2_ofRook_48 (lv_at hl 5 rfl) ?_
        refine lv_bipush (v := nI 8) hx hb dX2_ofRook_50 (by decide) ?_
        refine lb_shl hx hb 8 (by omega) dX2_ofRook_52 ?_
        refine lv_lstore (lv' := [(6, .long (bL (u <<< 8))), (16, .int (nI i)), (14, .long (bL acc)), (12, .long (bL r)), (10, .long (bL lf)), (8, .long (bL d)), (4, .long (bL (o ^^^ (18446744073709551615#64)))), (0, .long (bL x)), (2, .long (bL o))]) hx hb dX2_ofRook_53 hl (by decide) rfl (fun ls hl => ?_)
        refine lv_lload hx hb dX2_ofRook_55 (lv_at hl 5 rfl) ?_
        refine lv_bipush (v := nI 8) hx hb dX2_ofRook_57 (by decide) ?_
        refine lb_ushr hx hb 8 (by omega) dX2_ofRook_59 ?_
        refine lv_lstore (lv' := [(8, .long (bL (d >>> 8))), (6, .long (bL (u <<< 8))), (16, .int (nI i)), (14, .long (bL acc)), (12, .long (bL r)), (10, .long (bL lf)), (4, .long (bL (o ^^^ (18446744073709551615#64)))), (0, .long (bL x)), (2, .long (bL o))]) hx hb dX2_ofRook_60 hl (by decide) rfl (fun ls hl => ?_)
        refine lv_lload hx hb dX2_ofRook_62 (lv_at hl 5 rfl) ?_
        refine lv_ldc2 (v := bL 18374403900871474942#64) hx hb hown (hts _ qw_1_187) dX2_ofRook_64 ?_
        refine lb_and hx hb dX2_ofRook_67 ?_
        refine lv_iconst (v := nI 1) hx hb dX2_ofRook_68 (by decide) ?_
        refine lb_ushr hx hb 1 (by omega) dX2_ofRook_69 ?_
        refine lv_lstore (lv' := [(10, .long (bL ((lf &&& (18374403900871474942#64)) >>> 1))), (8, .long (bL (d >>> 8))), (6, .long (bL (u <<< 8))), (16, .int (nI i)), (14, .long (bL acc)), (12, .long (bL r)), (4, .long (bL (o ^^^ (18446744073709551615#64)))), (0, .long (bL x)), (2, .long (bL o))]) hx hb dX2_ofRook_70 hl (by decide) rfl (fun ls hl => ?_)
        refine lv_lload hx hb dX2_ofRook_72 (lv_at hl 5 rfl) ?_
        refine lv_ldc2 (v := bL 9187201950435737471#64) hx hb hown (hts _ qw_1_188) dX2_ofRook_74 ?_
        refine lb_and hx hb dX2_ofRook_77 ?_
        refine lv_iconst (v := nI 1) hx hb dX2_ofRook_78 (by decide) ?_
        refine lb_shl hx hb 1 (by omega) dX2_ofRook_79 ?_
        refine lv_lstore (lv' := [(12, .long (bL ((r &&& (9187201950435737471#64)) <<< 1))), (10, .long (bL ((lf &&& (18374403900871474942#64)) >>> 1))), (8, .long (bL (d >>> 8))), (6, .long (bL (u <<< 8))), (16, .int (nI i)), (14, .long (bL acc)), (4, .long (bL (o ^^^ (18446744073709551615#64)))), (0, .long (bL x)), (2, .long (bL o))]) hx hb dX2_ofRook_80 hl (by decide) rfl (fun ls hl => ?_)
        refine lv_lload hx hb dX2_ofRook_82 (lv_at hl 5 rfl) ?_
        refine lv_lload hx hb dX2_ofRook_84 (lv_at hl 3 rfl) ?_
        refine lv_lload hx hb dX2_ofRook_86 (lv_at hl 2 rfl) ?_
        refine lb_or hx hb dX2_ofRook_88 ?_
        refine lv_lload hx hb dX2_ofRook_89 (lv_at hl 1 rfl) ?_
        refine lb_or hx hb dX2_ofRook_91 ?_
        refine lv_lload hx hb dX2_ofRook_92 (lv_at hl 0 rfl) ?_
        refine lb_or hx hb dX2_ofRook_94 ?_
        refine lb_or hx hb dX2_ofRook_95 ?_
        refine lv_lstore (lv' := [(14, .long (bL (acc ||| ((((u <<< 8) ||| (d >>> 8)) ||| ((lf &&& (18374403900871474942#64)) >>> 1)) ||| ((r &&& (9187201950435737471#64)) <<< 1))))), (12, .long (bL ((r &&& (9187201950435737471#64)) <<< 1))), (10, .long (bL ((lf &&& (18374403900871474942#64)) >>> 1))), (8, .long (bL (d >>> 8))), (6, .long (bL (u <<< 8))), (16, .int (nI i)), (4, .long (bL (o ^^^ (18446744073709551615#64)))), (0, .long (bL x)), (2, .long (bL o))]) hx hb dX2_ofRook_96 hl (by decide) rfl (fun ls hl => ?_)
        refine lv_lload hx hb dX2_ofRook_98 (lv_at hl 4 rfl) ?_
        refine lv_lload hx hb dX2_ofRook_100 (lv_at hl 6 rfl) ?_
        refine lb_and hx hb dX2_ofRook_102 ?_
        refine lv_lstore (lv' := [(6, .long (bL ((u <<< 8) &&& (o ^^^ (18446744073709551615#64))))), (14, .long (bL (acc ||| ((((u <<< 8) ||| (d >>> 8)) ||| ((lf &&& (18374403900871474942#64)) >>> 1)) ||| ((r &&& (9187201950435737471#64)) <<< 1))))), (12, .long (bL ((r &&& (9187201950435737471#64)) <<< 1))), (10, .long (bL ((lf &&& (18374403900871474942#64)) >>> 1))), (8, .long (bL (d >>> 8))), (16, .int (nI i)), (4, .long (bL (o ^^^ (18446744073709551615#64)))), (0, .long (bL x)), (2, .long (bL o))]) hx hb dX2_ofRook_103 hl (by decide) rfl (fun ls hl => ?_)
        refine lv_lload hx hb dX2_ofRook_105 (lv_at hl 4 rfl) ?_
        refine lv_lload hx hb dX2_ofRook_107 (lv_at hl 6 rfl) ?_
        refine lb_and hx hb dX2_ofRook_109 ?_
        refine lv_lstore (lv' := [(8, .long (bL ((d >>> 8) &&& (o ^^^ (18446744073709551615#64))))), (6, .long (bL ((u <<< 8) &&& (o ^^^ (18446744073709551615#64))))), (14, .long (bL (acc ||| ((((u <<< 8) ||| (d >>> 8)) ||| ((lf &&& (18374403900871474942#64)) >>> 1)) ||| ((r &&& (9187201950435737471#64)) <<< 1))))), (12, .long (bL ((r &&& (9187201950435737471#64)) <<< 1))), (10, .long (bL ((lf &&& (18374403900871474942#64)) >>> 1))), (16, .int (nI i)), (4, .long (bL (o ^^^ (18446744073709551615#64)))), (0, .long (bL x)), (2, .long (bL o))]) hx hb dX2_ofRook_110 hl (by decide) rfl (fun ls hl => ?_)
        refine lv_lload hx hb dX2_ofRook_112 (lv_at hl 4 rfl) ?_
        refine lv_lload hx hb dX2_ofRook_114 (lv_at hl 6 rfl) ?_
        refine lb_and hx hb dX2_ofRook_116 ?_
        refine lv_lstore (lv' := [(10, .long (bL (((lf &&& (18374403900871474942#64)) >>> 1) &&& (o ^^^ (18446744073709551615#64))))), (8, .long (bL ((d >>> 8) &&& (o ^^^ (18446744073709551615#64))))), (6, .long (bL ((u <<< 8) &&& (o ^^^ (18446744073709551615#64))))), (14, .long (bL (acc ||| ((((u <<< 8) ||| (d >>> 8)) ||| ((lf &&& (18374403900871474942#64)) >>> 1)) ||| ((r &&& (9187201950435737471#64)) <<< 1))))), (12, .long (bL ((r &&& (9187201950435737471#64)) <<< 1))), (16, .int (nI i)), (4, .long (bL (o ^^^ (18446744073709551615#64)))), (0, .long (bL x)), (2, .long (bL o))]) hx hb dX2_ofRook_117 hl (by decide) rfl (fun ls hl => ?_)
        refine lv_lload hx hb dX2_ofRook_119 (lv_at hl 4 rfl) ?_
        refine lv_lload hx hb dX2_ofRook_121 (lv_at hl 6 rfl) ?_
        refine lb_and hx hb dX2_ofRook_123 ?_
        refine lv_lstore (lv' := [(12, .long (bL (((r &&& (9187201950435737471#64)) <<< 1) &&& (o ^^^ (18446744073709551615#64))))), (10, .long (bL (((lf &&& (18374403900871474942#64)) >>> 1) &&& (o ^^^ (18446744073709551615#64))))), (8, .long (bL ((d >>> 8) &&& (o ^^^ (18446744073709551615#64))))), (6, .long (bL ((u <<< 8) &&& (o ^^^ (18446744073709551615#64))))), (14, .long (bL (acc ||| ((((u <<< 8) ||| (d >>> 8)) ||| ((lf &&& (18374403900871474942#64)) >>> 1)) ||| ((r &&& (9187201950435737471#64)) <<< 1))))), (16, .int (nI i)), (4, .long (bL (o ^^^ (18446744073709551615#64)))), (0, .long (bL x)), (2, .long (bL o))]) hx hb dX2_ofRook_124 hl (by decide) rfl (fun ls hl => ?_)
        refine ni_iinc (lv' := [(16, .int (nI (i + 1))), (12, .long (bL (((r &&& (9187201950435737471#64)) <<< 1) &&& (o ^^^ (18446744073709551615#64))))), (10, .long (bL (((lf &&& (18374403900871474942#64)) >>> 1) &&& (o ^^^ (18446744073709551615#64))))), (8, .long (bL ((d >>> 8) &&& (o ^^^ (18446744073709551615#64))))), (6, .long (bL ((u <<< 8) &&& (o ^^^ (18446744073709551615#64))))), (14, .long (bL (acc ||| ((((u <<< 8) ||| (d >>> 8)) ||| ((lf &&& (18374403900871474942#64)) >>> 1)) ||| ((r &&& (9187201950435737471#64)) <<< 1))))), (4, .long (bL (o ^^^ (18446744073709551615#64)))), (0, .long (bL x)), (2, .long (bL o))]) hx hb i 1 dX2_ofRook_126 hl (k := 5) rfl (by decide) (by decide) rfl (fun ls hl => ?_)
        refine lv_goto (tgt := 25) hx hb dX2_ofRook_129 (by decide) ?_
        exact ih ((u <<< 8) &&& (o ^^^ (18446744073709551615#64)), (d >>> 8) &&& (o ^^^ (18446744073709551615#64)), ((lf &&& (18374403900871474942#64)) >>> 1) &&& (o ^^^ (18446744073709551615#64)), ((r &&& (9187201950435737471#64)) <<< 1) &&& (o ^^^ (18446744073709551615#64)), acc ||| ((((u <<< 8) ||| (d >>> 8)) ||| ((lf &&& (18374403900871474942#64)) >>> 1)) ||| ((r &&& (9187201950435737471#64)) <<< 1)), i + 1) ⟨by first | omega | (dsimp only <;> omega), hres.trans (kRay_n c_45)⟩ ls (lv_sub hl [0,5,1,2,3,4,6,7,8] rfl)
set_option maxHeartbeats 4000000 in
set_option maxRecDepth 100000 in
theorem met_X2_ofBishop (l : Launch) {D : va_G} {cI cJ : ClassId} {M : MP} (x : BitVec 64) (o : BitVec 64) : RdL l yX2_ofBishop cX2_ofBishop 17 (some .long) 0 D cI cJ [.long (bL x), .long (bL o)] M (bL (kBi x o)) := by
  refine rd_start (by decide) (Nat.le_of_ble_eq_true rfl) ?_
  intro p e s m args below meth c hx hb hr hml hown hts hlk hK hM ls hl
  have hl : lv_has ls 17 [(0, .long (bL x)), (2, .long (bL o))] := hl
  have hz0 : (0 : Nat) = 0 := rfl
  refine lv_lload_n hx hb dX2_ofBishop_0 rfl (lv_at hl 1 rfl) ?_
  refine lv_ldc2 (v := bL 18446744073709551615#64) hx hb hown (hts _ qw_1_215) dX2_ofBishop_1 ?_
  refine lb_xor hx hb dX2_ofBishop_4 ?_
  refine lv_lstore (lv' := [(4, .long (bL (o ^^^ (18446744073709551615#64)))), (0, .long (bL x)), (2, .long (bL o))]) hx hb dX2_ofBishop_5 hl (by decide) rfl (fun ls hl => ?_)
  refine lv_lload_n hx hb dX2_ofBishop_7 rfl (lv_at hl 1 rfl) ?_
  refine lv_lstore (lv' := [(6, .long (bL x)), (4, .long (bL (o ^^^ (18446744073709551615#64)))), (0, .long (bL x)), (2, .long (bL o))]) hx hb dX2_ofBishop_8 hl (by decide) rfl (fun ls hl => ?_)
  refine lv_lload_n hx hb dX2_ofBishop_10 rfl (lv_at hl 2 rfl) ?_
  refine lv_lstore (lv' := [(8, .long (bL x)), (6, .long (bL x)), (4, .long (bL (o ^^^ (18446744073709551615#64)))), (0, .long (bL x)), (2, .long (bL o))]) hx hb dX2_ofBishop_11 hl (by decide) rfl (fun ls hl => ?_)
  refine lv_lload_n hx hb dX2_ofBishop_13 rfl (lv_at hl 3 rfl) ?_
  refine lv_lstore (lv' := [(10, .long (bL x)), (8, .long (bL x)), (6, .long (bL x)), (4, .long (bL (o ^^^ (18446744073709551615#64)))), (0, .long (bL x)), (2, .long (bL o))]) hx hb dX2_ofBishop_14 hl (by decide) rfl (fun ls hl => ?_)
  refine lv_lload_n hx hb dX2_ofBishop_16 rfl (lv_at hl 4 rfl) ?_
  refine lv_lstore (lv' := [(12, .long (bL x)), (10, .long (bL x)), (8, .long (bL x)), (6, .long (bL x)), (4, .long (bL (o ^^^ (18446744073709551615#64)))), (0, .long (bL x)), (2, .long (bL o))]) hx hb dX2_ofBishop_17 hl (by decide) rfl (fun ls hl => ?_)
  refine lb_const hx hb 0#64 dX2_ofBishop_19 rfl ?_
  refine lv_lstore (lv' := [(14, .long (bL (0#64))), (12, .long (bL x)), (10, .long (bL x)), (8, .long (bL x)), (6, .long (bL x)), (4, .long (bL (o ^^^ (18446744073709551615#64)))), (0, .long (bL x)), (2, .long (bL o))]) hx hb dX2_ofBishop_20 hl (by decide) rfl (fun ls hl => ?_)
  refine lv_iconst (v := nI 1) hx hb dX2_ofBishop_22 (by decide) ?_
  refine lv_istore (lv' := [(16, .int (nI 1)), (14, .long (bL (0#64))), (12, .long (bL x)), (10, .long (bL x)), (8, .long (bL x)), (6, .long (bL x)), (4, .long (bL (o ^^^ (18446744073709551615#64)))), (0, .long (bL x)), (2, .long (bL o))]) hx hb dX2_ofBishop_23 hl (by decide) rfl (fun ls hl => ?_)
  refine loopR (pcH := 25) (st := []) (ι := BitVec 64 × BitVec 64 × BitVec 64 × BitVec 64 × BitVec 64 × Nat) (fun ξ => [(16, .int (nI (ξ.2.2.2.2.2))), (14, .long (bL (ξ.2.2.2.2.1))), (12, .long (bL (ξ.2.2.2.1))), (10, .long (bL (ξ.2.2.1))), (8, .long (bL (ξ.2.1))), (6, .long (bL (ξ.1))), (4, .long (bL (o ^^^ (18446744073709551615#64)))), (0, .long (bL x)), (2, .long (bL o))]) (fun n ξ => (ξ.2.2.2.2.2) + n = 8 ∧ kRay sUW sUE sDW sDE (kNot o) 7 x x x x 0#64 = kRay sUW sUE sDW sDE (kNot o) n (ξ.1) (ξ.2.1) (ξ.2.2.1) (ξ.2.2.2.1) (ξ.2.2.2.2.1)) ?_ ?_ 7 (x, x, x, x, 0#64, 1) (⟨by first | omega | (dsimp only <;> omega), rfl⟩) ls (lv_sub hl [0,1,2,3,4,5,6,7,8] rfl)
  · rintro ⟨u, d, lf, r, acc, i⟩ ⟨hin, hres⟩ ls hl
    try dsimp only at hl hin hres
    refine lv_iload hx hb dX2_ofBishop_25 (lv_at hl 0 rfl) ?_
    refine lv_bipush (v := nI 8) hx hb dX2_ofBishop_27 (by decide) ?_
    refine ni_ge (tgt := 142) hx hb i 8 (by omega) (by omega) dX2_ofBishop_29 (by decide) (fun c_29 => ?_) (fun c_29 => ?_)
    · skip
      refine lv_lload hx hb dX2_ofBishop_142 (lv_at hl 1 rfl) ?_
      exact rd_lreturn hx hb hr hlk (by show bL acc = bL (kRay sUW sUE sDW sDE (kNot o) 7 x x x x 0#64); rw [hres]; rfl) dX2_ofBishop_144
    · skip
      exfalso; omega
  · rintro n ih ⟨u, d, lf, r, acc, i⟩ ⟨hin, hres⟩ ls hl
    try dsimp only at hl hin hres
    refine lv_iload hx hb dX2_ofBishop_25 (lv_at hl 0 rfl) ?_
    refine lv_bipush (v := nI 8) hx hb dX2_ofBishop_27 (by decide) ?_
    refine ni_ge (tgt := 142) hx hb i 8 (by omega) (by omega) dX2_ofBishop_29 (by decide) (fun c_29 => ?_) (fun c_29 => ?_)
    · skip
      exfalso; omega
    · skip
      refine lv_lload hx hb dX2_ofBishop_32 (lv_at hl 5 rfl) ?_
      refine lv_lload hx hb dX2_ofBishop_34 (lv_at hl 4 rfl) ?_
      refine lb_or hx hb dX2_ofBishop_36 ?_
      refine lv_lload hx hb dX2_ofBishop_37 (lv_at hl 3 rfl) ?_
      refine lb_or hx hb dX2_ofBishop_39 ?_
      refine lv_lload hx hb dX2_ofBishop_40 (lv_at hl 2 rfl) ?_
      refine lb_or hx hb dX2_ofBishop_42 ?_
      refine lb_const hx hb 0#64 dX2_ofBishop_43 rfl ?_
      refine lb_ceq (tgt := 142) hx hb dX2_ofBishop_44 dX2_ofBishop_45 (by decide) (fun c_45 => ?_) (fun c_45 => ?_)
      · skip
        refine lv_lload hx hb dX2_ofBishop_142 (lv_at hl 1 rfl) ?_
        exact rd_lreturn hx hb hr hlk (by show bL acc = bL (kRay sUW sUE sDW sDE (kNot o) 7 x x x x 0#64); rw [hres]; rw [kRay_z c_45]) dX2_ofBishop_144
      · skip
        refine lv_lload hx hb dX2_ofBishop_48 (lv_at hl 5 rfl) ?_
        refine lv_ldc2 (v := bL 18374403900871474942#64) hx hb hown (hts _ qw_1_187) dX2_ofBishop_50 ?_
        refine lb_and hx hb dX2_ofBishop_53 ?_
        refine lv_bipush (v := nI 7) hx hb dX2_ofBishop_54 (by decide) ?_
        refine lb_shl hx hb 7 (by omega) dX2_ofBishop_56 ?_
        refine lv_lstore (lv' := [(6, .long (bL ((u &&& (18374403900871474942#64)) <<< 7))), (16, .int (nI i)), (14, .long (bL acc)), (12, .long (bL r)), (10, .long (bL lf)), (8, .long (bL d)), (4, .long (bL (o ^^^ (18446744073709551615#64)))), (0, .long (bL x)), (2, .long (bL o))]) hx hb dX2_ofBishop_57 hl (by decide) rfl (fun ls hl => ?_)
        refine lv_lload hx hb dX2_ofBishop_59 (lv_at hl 5 rfl) ?_
        refine lv_ldc2 (v := bL 9187201950435737471#64) hx hb hown (hts _ qw_1_188) dX2_ofBishop_61 ?_
        refine lb_and hx hb dX2_ofBishop_64 ?_
        refine lv_bipush (v := nI 9) hx hb dX2_ofBishop_65 (by decide) ?_
        refine lb_shl hx hb 9 (by omega) dX2_ofBishop_67 ?_
        refine lv_lstore (lv' := [(8, .long (bL ((d &&& (9187201950435737471#64)) <<< 9))), (6, .long (bL ((u &&& (18374403900871474942#64)) <<< 7))), (16, .int (nI i)), (14, .long (bL acc)), (12, .long (bL r)), (10, .long (bL lf)), (4, .long (bL (o ^^^ (18446744073709551615#64)))), (0, .long (bL x)), (2, .long (bL o))]) hx hb dX2_ofBishop_68 hl (by decide) rfl (fun ls hl => ?_)
        refine lv_lload hx hb dX2_ofBishop_70 (lv_at hl 5 rfl) ?_
        refine lv_ldc2 (v := bL 18374403900871474942#64) hx hb hown (hts _ qw_1_187) dX2_ofBishop_72 ?_
        refine lb_and hx hb dX2_ofBishop_75 ?_
        refine lv_bipush (v := nI 9) hx hb dX2_ofBishop_76 (by decide) ?_
        refine lb_ushr hx hb 9 (by omega) dX2_ofBishop_78 ?_
        refine lv_lstore (lv' := [(10, .long (bL ((lf &&& (18374403900871474942#64)) >>> 9))), (8, .long (bL ((d &&& (9187201950435737471#64)) <<< 9))), (6, .long (bL ((u &&& (18374403900871474942#64)) <<< 7))), (16, .int (nI i)), (14, .long (bL acc)), (12, .long (bL r)), (4, .long (bL (o ^^^ (18446744073709551615#64)))), (0, .long (bL x)), (2, .long (bL o))]) hx hb dX2_ofBishop_79 hl (by decide) rfl (fun ls hl => ?_)
        refine lv_lload hx hb dX2_ofBishop_81 (lv_at hl 5 rfl) ?_
        refine lv_ldc2 (v := bL 9187201950435737471#64) hx hb hown (hts _ qw_1_188) dX2_ofBishop_83 ?_
        refine lb_and hx hb dX2_ofBishop_86 ?_
        refine lv_bipush (v := nI 7) hx hb dX2_ofBishop_87 (by decide) ?_
        refine lb_ushr hx hb 7 (by omega) dX2_ofBishop_89 ?_
        refine lv_lstore (lv' := [(12, .long (bL ((r &&& (9187201950435737471#64)) >>> 7))), (10, .long (bL ((lf &&& (18374403900871474942#64)) >>> 9))), (8, .long (bL ((d &&& (9187201950435737471#64)) <<< 9))), (6, .long (bL ((u &&& (18374403900871474942#64)) <<< 7))), (16, .int (nI i)), (14, .long (bL acc)), (4, .long (bL (o ^^^ (18446744073709551615#64)))), (0, .long (bL x)), (2, .long (bL o))]) hx hb dX2_ofBishop_90 hl (by decide) rfl (fun ls hl => ?_)
        refine lv_lload hx hb dX2_ofBishop_92 (lv_at hl 5 rfl) ?_
        refine lv_lload hx hb dX2_ofBishop_94 (lv_at hl 3 rfl) ?_
        refine lv_lload hx hb dX2_ofBishop_96 (lv_at hl 2 rfl) ?_
        refine lb_or hx hb dX2_ofBishop_98 ?_
        refine lv_lload hx hb dX2_ofBishop_99 (lv_at hl 1 rfl) ?_
        refine lb_or hx hb dX2_ofBishop_101 ?_
        refine lv_lload hx hb dX2_ofBishop_102 (lv_at hl 0 rfl) ?_
        refine lb_or hx hb dX2_ofBishop_104 ?_
        refine lb_or hx hb dX2_ofBishop_105 ?_
        refine lv_lstore (lv' := [(14, .long (bL (acc ||| (((((u &&& (18374403900871474942#64)) <<< 7) ||| ((d &&& (9187201950435737471#64)) <<< 9)) ||| ((lf &&& (18374403900871474942#64)) >>> 9)) ||| ((r &&& (9187201950435737471#64)) >>> 7))))), (12, .long (bL ((r &&& (9187201950435737471#64)) >>> 7))), (10, .long (bL ((lf &&& (18374403900871474942#64)) >>> 9))), (8, .long (bL ((d &&& (9187201950435737471#64)) <<< 9))), (6, .long (bL ((u &&& (18374403900871474942#64)) <<< 7))), (16, .int (nI i)), (4, .long (bL (o ^^^ (18446744073709551615#64)))), (0, .long (bL x)), (2, .long (bL o))]) hx hb dX2_ofBishop_106 hl (by decide) rfl (fun ls hl => ?_)
        refine lv_lload hx hb dX2_ofBishop_108 (lv_at hl 4 rfl) ?_
        refine lv_lload hx hb dX2_ofBishop_110 (lv_at hl 6 rfl) ?_
        refine lb_and hx hb dX2_ofBishop_112 ?_
        refine lv_lstore (lv' := [(6, .long (bL (((u &&& (18374403900871474942#64)) <<< 7) &&& (o ^^^ (18446744073709551615#64))))), (14, .long (bL (acc ||| (((((u &&& (18374403900871474942#64)) <<< 7) ||| ((d &&& (9187201950435737471#64)) <<< 9)) ||| ((lf &&& (18374403900871474942#64)) >>> 9)) ||| ((r &&& (9187201950435737471#64)) >>> 7))))), (12, .long (bL ((r &&& (9187201950435737471#64)) >>> 7))), (10, .long (bL ((lf &&& (18374403900871474942#64)) >>> 9))), (8, .long (bL ((d &&& (9187201950435737471#64)) <<< 9))), (16, .int (nI i)), (4, .long (bL (o ^^^ (18446744073709551615#64)))), (0, .long (bL x)), (2, .long (bL o))]) hx hb dX2_ofBishop_113 hl (by decide) rfl (fun ls hl => ?_)
        refine lv_lload hx hb dX2_ofBishop_115 (lv_at hl 4 rfl) ?_
        refine lv_lload hx hb dX2_ofBishop_117 (lv_at hl 6 rfl) ?_
        refine lb_and hx hb dX2_ofBishop_119 ?_
        refine lv_lstore (lv' := [(8, .long (bL (((d &&& (9187201950435737471#64)) <<< 9) &&& (o ^^^ (18446744073709551615#64))))), (6, .long (bL (((u &&& (18374403900871474942#64)) <<< 7) &&& (o ^^^ (18446744073709551615#64))))), (14, .long (bL (acc ||| (((((u &&& (18374403900871474942#64)) <<< 7) ||| ((d &&& (9187201950435737471#64)) <<< 9)) ||| ((lf &&& (18374403900871474942#64)) >>> 9)) ||| ((r &&& (9187201950435737471#64)) >>> 7))))), (12, .long (bL ((r &&& (9187201950435737471#64)) >>> 7))), (10, .long (bL ((lf &&& (18374403900871474942#64)) >>> 9))), (16, .int (nI i)), (4, .long (bL (o ^^^ (18446744073709551615#64)))), (0, .long (bL x)), (2, .long (bL o))]) hx hb dX2_ofBishop_120 hl (by decide) rfl (fun ls hl => ?_)
        refine lv_lload hx hb dX2_ofBishop_122 (lv_at hl 4 rfl) ?_
        refine lv_lload hx hb dX2_ofBishop_124 (lv_at hl 6 rfl) ?_
        refine lb_and hx hb dX2_ofBishop_126 ?_
        refine lv_lstore (lv' := [(10, .long (bL (((lf &&& (18374403900871474942#64)) >>> 9) &&& (o ^^^ (18446744073709551615#64))))), (8, .long (bL (((d &&& (9187201950435737471#64)) <<< 9) &&& (o ^^^ (18446744073709551615#64))))), (6, .long (bL (((u &&& (18374403900871474942#64)) <<< 7) &&& (o ^^^ (18446744073709551615#64))))), (14, .long (bL (acc ||| (((((u &&& (18374403900871474942#64)) <<< 7) ||| ((d &&& (9187201950435737471#64)) <<< 9)) ||| ((lf &&& (18374403900871474942#64)) >>> 9)) ||| ((r &&& (9187201950435737471#64)) >>> 7))))), (12, .long (bL ((r &&& (9187201950435737471#64)) >>> 7))), (16, .int (nI i)), (4, .long (bL (o ^^^ (18446744073709551615#64)))), (0, .long (bL x)), (2, .long (bL o))]) hx hb dX2_ofBishop_127 hl (by decide) rfl (fun ls hl => ?_)
        refine lv_lload hx hb dX2_ofBishop_129 (lv_at hl 4 rfl) ?_
        refine lv_lload hx hb dX2_ofBishop_131 (lv_at hl 6 rfl) ?_
        refine lb_and hx hb dX2_ofBishop_133 ?_
        refine lv_lstore (lv' := [(12, .long (bL (((r &&& (9187201950435737471#64)) >>> 7) &&& (o ^^^ (18446744073709551615#64))))), (10, .long (bL (((lf &&& (18374403900871474942#64)) >>> 9) &&& (o ^^^ (18446744073709551615#64))))), (8, .long (bL (((d &&& (9187201950435737471#64)) <<< 9) &&& (o ^^^ (18446744073709551615#64))))), (6, .long (bL (((u &&& (18374403900871474942#64)) <<< 7) &&& (o ^^^ (18446744073709551615#64))))), (14, .long (bL (acc ||| (((((u &&& (18374403900871474942#64)) <<< 7) ||| ((d &&& (9187201950435737471#64)) <<< 9)) ||| ((lf &&& (18374403900871474942#64)) >>> 9)) ||| ((r &&& (9187201950435737471#64)) >>> 7))))), (16, .int (nI i)), (4, .long (bL (o ^^^ (18446744073709551615#64)))), (0, .long (bL x)), (2, .long (bL o))]) hx hb dX2_ofBishop_134 hl (by decide) rfl (fun ls hl => ?_)
        refine ni_iinc (lv' := [(16, .int (nI (i + 1))), (12, .long (bL (((r &&& (9187201950435737471#64)) >>> 7) &&& (o ^^^ (18446744073709551615#64))))), (10, .long (bL (((lf &&& (18374403900871474942#64)) >>> 9) &&& (o ^^^ (18446744073709551615#64))))), (8, .long (bL (((d &&& (9187201950435737471#64)) <<< 9) &&& (o ^^^ (18446744073709551615#64))))), (6, .long (bL (((u &&& (18374403900871474942#64)) <<< 7) &&& (o ^^^ (18446744073709551615#64))))), (14, .long (bL (acc ||| (((((u &&& (18374403900871474942#64)) <<< 7) ||| ((d &&& (9187201950435737471#64)) <<< 9)) ||| ((lf &&& (18374403900871474942#64)) >>> 9)) ||| ((r &&& (9187201950435737471#64)) >>> 7))))), (4, .long (bL (o ^^^ (18446744073709551615#64)))), (0, .long (bL x)), (2, .long (bL o))]) hx hb i 1 dX2_ofBishop_136 hl (k := 5) rfl (by decide) (by decide) rfl (fun ls hl => ?_)
        refine lv_goto (tgt := 25) hx hb dX2_ofBishop_139 (by decide) ?_
        exact ih (((u &&& (18374403900871474942#64)) <<< 7) &&& (o ^^^ (18446744073709551615#64)), ((d &&& (9187201950435737471#64)) <<< 9) &&& (o ^^^ (18446744073709551615#64)), ((lf &&& (18374403900871474942#64)) >>> 9) &&& (o ^^^ (18446744073709551615#64)), ((r &&& (9187201950435737471#64)) >>> 7) &&& (o ^^^ (18446744073709551615#64)), acc ||| (((((u &&& (18374403900871474942#64)) <<< 7) ||| ((d &&& (9187201950435737471#64)) <<< 9)) ||| ((lf &&& (18374403900871474942#64)) >>> 9)) ||| ((r &&& (9187201950435737471#64)) >>> 7)), i + 1) ⟨by first | omega | (dsimp only <;> omega), hres.trans (kRay_n c_45)⟩ ls (lv_sub hl [0,5,1,2,3,4,6,7,8] rfl)
set_option maxHeartbeats 4000000 in
set_option maxRecDepth 100000 in
theorem met_X2_of (l : Launch) {D : va_G} {cI cJ : ClassId} {M : MP} (k : Nat) (b : Bool) (x o : BitVec 64) (hk : k < 8) : RdL l yX2_of cX2_of 6 (some .long) 1 D cI cJ [.int (nI k), .int (bI b), .long (bL x), .long (bL o)] M (bL (kOf k b x o)) := by
  refine rd_start (by decide) (Nat.le_of_ble_eq_true rfl) ?_
  intro p e s m args below meth c hx hb hr hml hown hts hlk hK hM ls hl
  have hl : lv_has ls 6 [(0, .int (nI k)), (1, .int (bI b)), (2, .long (bL x)), (4, .long (bL o))] := hl
  refine lv_iload_n hx hb dX2_of_0 rfl (lv_at hl 0 rfl) ?_
  rcases (show k = 1 ∨ k = 2 ∨ k = 3 ∨ k = 4 ∨ k = 5 ∨ k = 6 ∨ (k < 1 ∨ 6 < k) from by omega) with c_1 | c_1 | c_1 | c_1 | c_1 | c_1 | c_1
  · refine sw_at c_1 ?_
    refine lv_tableIn (tgt := 40) (off := 39) hx hb dX2_of_1 (by decide) (by decide) (by decide) (by decide) ?_
    refine lv_lload_n hx hb dX2_of_40 rfl (lv_at hl 2 rfl) ?_
    refine rd_goL (rd_runS (As := [.long (bL x)]) (rest := []) hx hb hml hown hts hK hM okS_RX2_9_X2_ofKing (met_X2_ofKing l x) rfl ⟨Nat.le_of_ble_eq_true rfl, Nat.le_of_ble_eq_true rfl⟩ hl.1 rfl (Nat.le_of_ble_eq_true rfl) dX2_of_41 ⟨Nat.le_refl _, Nat.le_refl _⟩) ?_
    exact rd_lreturn hx hb hr hlk (by simp [kOf, bI_t, bI_f, c_1]) dX2_of_44
  · refine sw_at c_1 ?_
    refine lv_tableIn (tgt := 45) (off := 44) hx hb dX2_of_1 (by decide) (by decide) (by decide) (by decide) ?_
    refine lv_lload_n hx hb dX2_of_45 rfl (lv_at hl 2 rfl) ?_
    refine lv_lload hx hb dX2_of_46 (lv_at hl 3 rfl) ?_
    refine rd_goL (rd_runS (As := [.long (bL x), .long (bL o)]) (rest := []) hx hb hml hown hts hK hM okS_RX2_15_X2_ofRook (met_X2_ofRook l x o) rfl ⟨Nat.le_of_ble_eq_true rfl, Nat.le_of_ble_eq_true rfl⟩ hl.1 rfl (Nat.le_of_ble_eq_true rfl) dX2_of_48 ⟨Nat.le_refl _, Nat.le_refl _⟩) ?_
    refine lv_lload_n hx hb dX2_of_51 rfl (lv_at hl 2 rfl) ?_
    refine lv_lload hx hb dX2_of_52 (lv_at hl 3 rfl) ?_
    refine rd_goL (rd_runS (As := [.long (bL x), .long (bL o)]) (rest := [.long (bL (kRk x o))]) hx hb hml hown hts hK hM okS_RX2_19_X2_ofBishop (met_X2_ofBishop l x o) rfl ⟨Nat.le_of_ble_eq_true rfl, Nat.le_of_ble_eq_true rfl⟩ hl.1 rfl (Nat.le_of_ble_eq_true rfl) dX2_of_54 ⟨Nat.le_refl _, Nat.le_refl _⟩) ?_
    refine lb_or hx hb dX2_of_57 ?_
    exact rd_lreturn hx hb hr hlk (by simp [kOf, bI_t, bI_f, c_1]) dX2_of_58
  · refine sw_at c_1 ?_
    refine lv_tableIn (tgt := 59) (off := 58) hx hb dX2_of_1 (by decide) (by decide) (by decide) (by decide) ?_
    refine lv_lload_n hx hb dX2_of_59 rfl (lv_at hl 2 rfl) ?_
    refine lv_lload hx hb dX2_of_60 (lv_at hl 3 rfl) ?_
    refine rd_goL (rd_runS (As := [.long (bL x), .long (bL o)]) (rest := []) hx hb hml hown hts hK hM okS_RX2_15_X2_ofRook (met_X2_ofRook l x o) rfl ⟨Nat.le_of_ble_eq_true rfl, Nat.le_of_ble_eq_true rfl⟩ hl.1 rfl (Nat.le_of_ble_eq_true rfl) dX2_of_62 ⟨Nat.le_refl _, Nat.le_refl _⟩) ?_
    exact rd_lreturn hx hb hr hlk (by simp [kOf, bI_t, bI_f, c_1]) dX2_of_65
  · refine sw_at c_1 ?_
    refine lv_tableIn (tgt := 66) (off := 65) hx hb dX2_of_1 (by decide) (by decide) (by decide) (by decide) ?_
    refine lv_lload_n hx hb dX2_of_66 rfl (lv_at hl 2 rfl) ?_
    refine lv_lload hx hb dX2_of_67 (lv_at hl 3 rfl) ?_
    refine rd_goL (rd_runS (As := [.long (bL x), .long (bL o)]) (rest := []) hx hb hml hown hts hK hM okS_RX2_19_X2_ofBishop (met_X2_ofBishop l x o) rfl ⟨Nat.le_of_ble_eq_true rfl, Nat.le_of_ble_eq_true rfl⟩ hl.1 rfl (Nat.le_of_ble_eq_true rfl) dX2_of_69 ⟨Nat.le_refl _, Nat.le_refl _⟩) ?_
    exact rd_lreturn hx hb hr hlk (by simp [kOf, bI_t, bI_f, c_1]) dX2_of_72
  · refine sw_at c_1 ?_
    refine lv_tableIn (tgt := 73) (off := 72) hx hb dX2_of_1 (by decide) (by decide) (by decide) (by decide) ?_
    refine lv_lload_n hx hb dX2_of_73 rfl (lv_at hl 2 rfl) ?_
    refine rd_goL (rd_runS (As := [.long (bL x)]) (rest := []) hx hb hml hown hts hK hM okS_RX2_22_X2_ofKnight (met_X2_ofKnight l x) rfl ⟨Nat.le_of_ble_eq_true rfl, Nat.le_of_ble_eq_true rfl⟩ hl.1 rfl (Nat.le_of_ble_eq_true rfl) dX2_of_74 ⟨Nat.le_refl _, Nat.le_refl _⟩) ?_
    exact rd_lreturn hx hb hr hlk (by simp [kOf, bI_t, bI_f, c_1]) dX2_of_77
  · refine sw_at c_1 ?_
    refine lv_tableIn (tgt := 78) (off := 77) hx hb dX2_of_1 (by decide) (by decide) (by decide) (by decide) ?_
    refine lv_lload_n hx hb dX2_of_78 rfl (lv_at hl 2 rfl) ?_
    refine lv_iload_n hx hb dX2_of_79 rfl (lv_at hl 1 rfl) ?_
    refine rd_goL (rd_runS (As := [.long (bL x), .int (bI b)]) (rest := []) hx hb hml hown hts hK hM okS_RX2_25_X2_ofPawn (met_X2_ofPawn l x b) rfl ⟨Nat.le_of_ble_eq_true rfl, Nat.le_of_ble_eq_true rfl⟩ hl.1 rfl (Nat.le_of_ble_eq_true rfl) dX2_of_80 ⟨Nat.le_refl _, Nat.le_refl _⟩) ?_
    exact rd_lreturn hx hb hr hlk (by simp [kOf, bI_t, bI_f, c_1]) dX2_of_83
  · refine lv_tableOut (tgt := 84) hx hb dX2_of_1 (sw_out (by omega) c_1) (by decide) ?_
    refine lb_const hx hb 0#64 dX2_of_84 rfl ?_
    exact rd_lreturn hx hb hr hlk (by simp [kOf, bI_t, bI_f, show ¬ k = 1 by omega, show ¬ k = 2 by omega, show ¬ k = 3 by omega, show ¬ k = 4 by omega, show ¬ k = 5 by omega, show ¬ k = 6 by omega]) dX2_of_85
set_option maxHeartbeats 4000000 in
set_option maxRecDepth 100000 in
theorem met_X2_withinHops (l : Launch) {D : va_G} {cI cJ : ClassId} {M : MP} (x : BitVec 64) (hp : Nat) (hm2 : hp < 2 ^ 31) : RdL l yX2_withinHops cX2_withinHops 6 (some .long) 1 D cI cJ [.long (bL x), .int (nI hp)] M (bL (hopIt hp x)) := by
  refine rd_start (by decide) (Nat.le_of_ble_eq_true rfl) ?_
  intro p e s m args below meth c hx hb hr hml hown hts hlk hK hM ls hl
  have hl : lv_has ls 6 [(0, .long (bL x)), (2, .int (nI hp))] := hl
  refine lv_lload_n hx hb dX2_withinHops_0 rfl (lv_at hl 0 rfl) ?_
  refine lv_lstore_n (lv' := [(3, .long (bL x)), (0, .long (bL x)), (2, .int (nI hp))]) hx hb dX2_withinHops_1 rfl hl (by decide) rfl (fun ls hl => ?_)
  refine lv_iconst (v := nI 0) hx hb dX2_withinHops_2 (by decide) ?_
  refine lv_istore (lv' := [(5, .int (nI 0)), (3, .long (bL x)), (0, .long (bL x)), (2, .int (nI hp))]) hx hb dX2_withinHops_3 hl (by decide) rfl (fun ls hl => ?_)
  refine loopR (pcH := 5) (st := []) (ι := BitVec 64 × Nat) (fun ξ => [(5, .int (nI (ξ.2))), (3, .long (bL (ξ.1))), (0, .long (bL x)), (2, .int (nI hp))]) (fun n ξ => (ξ.2) + n = hp ∧ hopIt hp x = hopIt n (ξ.1)) ?_ ?_ hp (x, 0) (⟨by first | omega | (dsimp only <;> omega), rfl⟩) ls (lv_sub hl [0,1,2,3] rfl)
  · rintro ⟨r, i⟩ ⟨hin, hres⟩ ls hl
    try dsimp only at hl hin hres
    refine lv_iload hx hb dX2_withinHops_5 (lv_at hl 0 rfl) ?_
    refine lv_iload_n hx hb dX2_withinHops_7 rfl (lv_at hl 3 rfl) ?_
    refine ni_ge (tgt := 24) hx hb i hp (by omega) (by omega) dX2_withinHops_8 (by decide) (fun c_8 => ?_) (fun c_8 => ?_)
    · skip
      refine lv_lload_n hx hb dX2_withinHops_24 rfl (lv_at hl 1 rfl) ?_
      exact rd_lreturn hx hb hr hlk (by rw [hres]; simp [hopIt, bI_t, bI_f, c_8, Nat.not_lt.mpr c_8]) dX2_withinHops_25
    · skip
      exfalso; omega
  · rintro n ih ⟨r, i⟩ ⟨hin, hres⟩ ls hl
    try dsimp only at hl hin hres
    refine lv_iload hx hb dX2_withinHops_5 (lv_at hl 0 rfl) ?_
    refine lv_iload_n hx hb dX2_withinHops_7 rfl (lv_at hl 3 rfl) ?_
    refine ni_ge (tgt := 24) hx hb i hp (by omega) (by omega) dX2_withinHops_8 (by decide) (fun c_8 => ?_) (fun c_8 => ?_)
    · skip
      exfalso; omega
    · skip
      refine lv_lload_n hx hb dX2_withinHops_11 rfl (lv_at hl 1 rfl) ?_
      refine lv_lload_n hx hb dX2_withinHops_12 rfl (lv_at hl 1 rfl) ?_
      refine rd_goL (rd_runS (As := [.long (bL r)]) (rest := [.long (bL r)]) hx hb hml hown hts hK hM okS_RX2_22_X2_ofKnight (met_X2_ofKnight l r) rfl ⟨Nat.le_of_ble_eq_true rfl, Nat.le_of_ble_eq_true rfl⟩ hl.1 rfl (Nat.le_of_ble_eq_true rfl) dX2_withinHops_13 ⟨Nat.le_refl _, Nat.le_refl _⟩) ?_
      refine lb_or hx hb dX2_withinHops_16 ?_
      refine lv_lstore_n (lv' := [(3, .long (bL (r ||| (kN r)))), (5, .int (nI i)), (0, .long (bL x)), (2, .int (nI hp))]) hx hb dX2_withinHops_17 rfl hl (by decide) rfl (fun ls hl => ?_)
      refine ni_iinc (lv' := [(5, .int (nI (i + 1))), (3, .long (bL (r ||| (kN r)))), (0, .long (bL x)), (2, .int (nI hp))]) hx hb i 1 dX2_withinHops_18 hl (k := 1) rfl (by decide) (by decide) rfl (fun ls hl => ?_)
      refine lv_goto (tgt := 5) hx hb dX2_withinHops_21 (by decide) ?_
      exact ih (r ||| (kN r), i + 1) ⟨by first | omega | (dsimp only <;> omega), by rw [hres]; simp [hopIt, c_8, Nat.not_le.mpr c_8, Nat.le_of_lt c_8]⟩ ls (lv_sub hl [0,1,2,3] rfl)
set_option maxHeartbeats 4000000 in
set_option maxRecDepth 100000 in
theorem met_X2_hops (l : Launch) {D : va_G} {cI cJ : ClassId} {M : MP} (a b : Nat) (ha : a < 64) (hb2 : b < 64) : RdI l yX2_hops cX2_hops 5 (some .int) 1 D cI cJ [.int (nI a), .int (nI b)] M (nI (mHop a b)) := by
  refine rd_start (by decide) (Nat.le_of_ble_eq_true rfl) ?_
  intro p e s m args below meth c hx hb hr hml hown hts hlk hK hM ls hl
  have hl : lv_has ls 5 [(0, .int (nI a)), (1, .int (nI b))] := hl
  refine lv_iload_n hx hb dX2_hops_0 rfl (lv_at hl 0 rfl) ?_
  refine rd_goL (rd_runN (As := [.int (nI a)]) (rest := []) hx hb hml hown hts hK hM hK.2.2.1 okN_X3_bit (met_X3_bit l a (by omega)) rfl ⟨Nat.le_of_ble_eq_true rfl, Nat.le_of_ble_eq_true rfl⟩ hl.1 rfl (Nat.le_of_ble_eq_true rfl) dX2_hops_1 ⟨Nat.le_refl _, Nat.le_refl _⟩) ?_
  refine lv_lstore_n (lv' := [(2, .long (bL (kB a))), (0, .int (nI a)), (1, .int (nI b))]) hx hb dX2_hops_4 rfl hl (by decide) rfl (fun ls hl => ?_)
  refine lv_iconst (v := nI 0) hx hb dX2_hops_5 (by decide) ?_
  refine lv_istore (lv' := [(4, .int (nI 0)), (2, .long (bL (kB a))), (0, .int (nI a)), (1, .int (nI b))]) hx hb dX2_hops_6 hl (by decide) rfl (fun ls hl => ?_)
  refine loopR (pcH := 8) (st := []) (ι := BitVec 64 × Nat) (fun ξ => [(4, .int (nI (ξ.2))), (2, .long (bL (ξ.1))), (0, .int (nI a)), (1, .int (nI b))]) (fun n ξ => (ξ.2) + n = 6 ∧ mHop a b = hopL b n (ξ.1) (ξ.2)) ?_ ?_ 6 (kB a, 0) (⟨by first | omega | (dsimp only <;> omega), rfl⟩) ls (lv_sub hl [0,1,2,3] rfl)
  · rintro ⟨r, i⟩ ⟨hin, hres⟩ ls hl
    try dsimp only at hl hin hres
    refine lv_iload hx hb dX2_hops_8 (lv_at hl 0 rfl) ?_
    refine lv_bipush (v := nI 6) hx hb dX2_hops_10 (by decide) ?_
    refine ni_ge (tgt := 36) hx hb i 6 (by omega) (by omega) dX2_hops_12 (by decide) (fun c_12 => ?_) (fun c_12 => ?_)
    · skip
      refine lv_iload hx hb dX2_hops_36 (lv_at hl 0 rfl) ?_
      exact rd_ireturn hx hb hr hlk (by rw [hres]; simp [hopL, bI_t, bI_f, c_12, Nat.not_lt.mpr c_12]) dX2_hops_38
    · skip
      exfalso; omega
  · rintro n ih ⟨r, i⟩ ⟨hin, hres⟩ ls hl
    try dsimp only at hl hin hres
    refine lv_iload hx hb dX2_hops_8 (lv_at hl 0 rfl) ?_
    refine lv_bipush (v := nI 6) hx hb dX2_hops_10 (by decide) ?_
    refine ni_ge (tgt := 36) hx hb i 6 (by omega) (by omega) dX2_hops_12 (by decide) (fun c_12 => ?_) (fun c_12 => ?_)
    · skip
      exfalso; omega
    · skip
      refine lv_lload_n hx hb dX2_hops_15 rfl (lv_at hl 1 rfl) ?_
      refine lv_iload_n hx hb dX2_hops_16 rfl (lv_at hl 3 rfl) ?_
      refine rd_goI (rd_runN (As := [.long (bL r), .int (nI b)]) (rest := []) hx hb hml hown hts hK hM hK.2.2.2.1 okN_X3_has (met_X3_has l r b (by omega)) rfl ⟨Nat.le_of_ble_eq_true rfl, Nat.le_of_ble_eq_true rfl⟩ hl.1 rfl (Nat.le_of_ble_eq_true rfl) dX2_hops_17 ⟨Nat.le_refl _, Nat.le_refl _⟩) ?_
      refine zb_ne (tgt := 36) hx hb (r.getLsbD b) dX2_hops_20 (by decide) (fun c_20 => ?_) (fun c_20 => ?_)
      · skip
        refine lv_iload hx hb dX2_hops_36 (lv_at hl 0 rfl) ?_
        exact rd_ireturn hx hb hr hlk (by rw [hres]; simp [hopL, bI_t, bI_f, c_12, Nat.not_le.mpr c_12, Nat.le_of_lt c_12, c_20]) dX2_hops_38
      · skip
        refine lv_lload_n hx hb dX2_hops_23 rfl (lv_at hl 1 rfl) ?_
        refine lv_lload_n hx hb dX2_hops_24 rfl (lv_at hl 1 rfl) ?_
        refine rd_goL (rd_runS (As := [.long (bL r)]) (rest := [.long (bL r)]) hx hb hml hown hts hK hM okS_RX2_22_X2_ofKnight (met_X2_ofKnight l r) rfl ⟨Nat.le_of_ble_eq_true rfl, Nat.le_of_ble_eq_true rfl⟩ hl.1 rfl (Nat.le_of_ble_eq_true rfl) dX2_hops_25 ⟨Nat.le_refl _, Nat.le_refl _⟩) ?_
        refine lb_or hx hb dX2_hops_28 ?_
        refine lv_lstore_n (lv' := [(2, .long (bL (r ||| (kN r)))), (4, .int (nI i)), (0, .int (nI a)), (1, .int (nI b))]) hx hb dX2_hops_29 rfl hl (by decide) rfl (fun ls hl => ?_)
        refine ni_iinc (lv' := [(4, .int (nI (i + 1))), (2, .long (bL (r ||| (kN r)))), (0, .int (nI a)), (1, .int (nI b))]) hx hb i 1 dX2_hops_30 hl (k := 1) rfl (by decide) (by decide) rfl (fun ls hl => ?_)
        refine lv_goto (tgt := 8) hx hb dX2_hops_33 (by decide) ?_
        exact ih (r ||| (kN r), i + 1) ⟨by first | omega | (dsimp only <;> omega), by rw [hres]; simp [hopL, c_12, Nat.not_le.mpr c_12, Nat.le_of_lt c_12, c_20]⟩ ls (lv_sub hl [0,1,2,3] rfl)
