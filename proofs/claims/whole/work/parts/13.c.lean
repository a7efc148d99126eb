theorem okS_RX3_104_X3_has : okS RX3 104 yX3_has cX3_has 3 (some .boolean) 2 := okS_of qw_1_172 qw_1_173 qw_1_1 qw_1_174 (by decide +kernel)
theorem okS_RX3_121_X3_lowestOf : okS RX3 121 yX3_lowestOf cX3_lowestOf 2 (some .int) 1 := okS_of qw_1_151 qw_1_152 qw_1_1 qw_1_153 (by decide +kernel)
theorem okS_RX3_130_X2_hops : okS RX3 130 yX2_hops cX2_hops 5 (some .int) 2 := okS_of qw_1_179 qw_1_180 qw_1_15 qw_1_181 (by decide +kernel)
theorem okS_RX3_141_X3_bit : okS RX3 141 yX3_bit cX3_bit 1 (some .long) 1 := okS_of qw_3_112 qw_1_96 qw_1_1 qw_1_97 (by decide +kernel)
theorem okS_RX3_54_X3_requireSquare : okS RX3 54 yX3_requireSquare cX3_requireSquare 1 none 1 := okS_of qw_2_153 qw_2_154 qw_1_1 qw_2_155 (by decide +kernel)
theorem okV_RX3_113_X1_side : okV RX3 113 yX1_side cX1_side 2 (some .long) 1 := okV_of qw_1_138 qw_1_139 qw_1_140 qw_1_3 qw_1_141 (by decide +kernel)
theorem okV_RX3_117_X1_piecesOfKind : okV RX3 117 yX1_piecesOfKind cX1_piecesOfKind 3 (some .long) 2 := okV_of qw_1_146 qw_1_147 qw_1_148 qw_1_3 qw_1_149 (by decide +kernel)
theorem okV_RX3_124_X1_partnerOf : okV RX3 124 yX1_partnerOf cX1_partnerOf 2 (some .int) 1 := okV_of qw_1_175 qw_1_176 qw_1_177 qw_1_3 qw_1_178 (by decide +kernel)
theorem okV_RX3_127_X1_bondedKnights : okV RX3 127 yX1_bondedKnights cX1_bondedKnights 5 (some .long) 1 := okV_of qw_1_164 qw_1_165 qw_1_166 qw_1_3 qw_1_167 (by decide +kernel)
theorem okV_RX3_145_X1_attackersOn : okV RX3 145 yX1_attackersOn cX1_attackersOn 12 (some .long) 3 := okV_of qw_3_113 qw_1_232 qw_1_233 qw_1_3 qw_1_234 (by decide +kernel)
theorem okV_RX3_149_X1_attackedBy : okV RX3 149 yX1_attackedBy cX1_attackedBy 5 (some .long) 1 := okV_of qw_1_198 qw_1_199 qw_1_200 qw_1_3 qw_1_201 (by decide +kernel)
theorem okV_RX3_152_X1_isChecked : okV RX3 152 yX1_isChecked cX1_isChecked 2 (some .boolean) 1 := okV_of qw_1_226 qw_1_227 qw_1_228 qw_1_3 qw_1_229 (by decide +kernel)
theorem okV_RX3_155_X3_isPlayed : okV RX3 155 yX3_isPlayed cX3_isPlayed 1 (some .boolean) 0 := okV_of qw_2_4 qw_2_6 qw_0_0 qw_1_1 qw_2_7 (by decide +kernel)
theorem okV_RX3_159_X1_acting : okV RX3 159 yX1_acting cX1_acting 1 (some .long) 0 := okV_of qw_2_53 qw_2_18 qw_2_19 qw_1_3 qw_2_20 (by decide +kernel)
theorem okV_RX3_162_X1_delicateSquares : okV RX3 162 yX1_delicateSquares cX1_delicateSquares 5 (some .long) 0 := okV_of qw_2_52 qw_2_13 qw_2_14 qw_1_3 qw_2_15 (by decide +kernel)
theorem okV_RX3_165_X1_lawfulTargets : okV RX3 165 yX1_lawfulTargets cX1_lawfulTargets 9 (some .long) 2 := okV_of qw_2_54 qw_2_23 qw_2_24 qw_1_3 qw_2_25 (by decide +kernel)
theorem okV_RX3_169_X1_lawfulMoveCount : okV RX3 169 yX1_lawfulMoveCount cX1_lawfulMoveCount 5 (some .int) 0 := okV_of qw_2_8 qw_2_9 qw_2_10 qw_1_3 qw_2_11 (by decide +kernel)
theorem okV_RX3_172_X1_targetsFrom : okV RX3 172 yX1_targetsFrom cX1_targetsFrom 7 (some .long) 1 := okV_of qw_3_128 qw_2_27 qw_2_28 qw_1_3 qw_2_29 (by decide +kernel)
theorem okV_RX3_175_X1_keepsKingSafe : okV RX3 175 yX1_keepsKingSafe cX1_keepsKingSafe 7 (some .boolean) 2 := okV_of qw_3_129 qw_2_44 qw_2_45 qw_1_3 qw_2_46 (by decide +kernel)
theorem okV_RX3_179_X1_bondRange : okV RX3 179 yX1_bondRange cX1_bondRange 3 (some .long) 1 := okV_of qw_3_130 qw_2_36 qw_2_37 qw_1_3 qw_2_38 (by decide +kernel)
theorem okV_RX3_72_X1_occupied : okV RX3 72 yX1_occupied cX1_occupied 1 (some .long) 0 := okV_of qw_3_24 qw_1_203 qw_1_204 qw_1_3 qw_1_205 (by decide +kernel)
theorem okV_RX3_82_X1_kindOn : okV RX3 82 yX1_kindOn cX1_kindOn 3 (some .int) 1 := okV_of qw_2_120 qw_2_31 qw_2_32 qw_1_3 qw_2_33 (by decide +kernel)
set_option maxHeartbeats 4000000 in
set_option maxRecDepth 100000 in
theorem met_X3_requireSquare (l : Launch) {D : va_G} {cI cJ : ClassId} {M : MP} {A : Nat → Prop} {sz : Nat} (j : Nat) (hj : j < 64) : Wr l yX3_requireSquare cX3_requireSquare 1 none 1 0 0 D cI cJ [.int (nI j)] M sz A none (fun M' => M' = M) := by
  refine wr_start (by decide) (Nat.le_of_ble_eq_true rfl) ?_
  intro p e s m args below meth c hx hb hr hml hown hts hlk hini hK hsz H hH0 hM hS ls hl
  clear hH0
  have hl : lv_has ls 1 [(0, .int (nI j))] := hl
  refine lv_iload_n hx hb dX3_requireSquare_0 rfl (lv_at hl 0 rfl) ?_
  refine n0_lt (tgt := 10) hx hb j (by omega) dX3_requireSquare_1 (by decide) ?_
  refine lv_iload_n hx hb dX3_requireSquare_4 rfl (lv_at hl 0 rfl) ?_
  refine lv_bipush (v := nI 64) hx hb dX3_requireSquare_5 (by decide) ?_
  refine ni_lt (tgt := 21) hx hb j 64 (by omega) (by omega) dX3_requireSquare_7 (by decide) (fun c_7 => ?_) (fun c_7 => ?_)
  · skip
    exact wr_return hx hb hr hlk hM hS (Nat.le_refl _) (Nat.le_refl _) rfl dX3_requireSquare_21
  · skip
    exfalso; omega
set_option maxHeartbeats 4000000 in
set_option maxRecDepth 100000 in
theorem met_X3_requireKind (l : Launch) {D : va_G} {cI cJ : ClassId} {M : MP} {A : Nat → Prop} {sz : Nat} (k : Nat) (hk1 : 1 ≤ k) (hk6 : k ≤ 6) : Wr l yX3_requireKind cX3_requireKind 1 none 1 0 0 D cI cJ [.int (nI k)] M sz A none (fun M' => M' = M) := by
  refine wr_start (by decide) (Nat.le_of_ble_eq_true rfl) ?_
  intro p e s m args below meth c hx hb hr hml hown hts hlk hini hK hsz H hH0 hM hS ls hl
  clear hH0
  have hl : lv_has ls 1 [(0, .int (nI k))] := hl
  refine lv_iload_n hx hb dX3_requireKind_0 rfl (lv_at hl 0 rfl) ?_
  refine lv_iconst (v := nI 1) hx hb dX3_requireKind_1 (by decide) ?_
  refine ni_lt (tgt := 11) hx hb k 1 (by omega) (by omega) dX3_requireKind_2 (by decide) (fun c_2 => ?_) (fun c_2 => ?_)
  · skip
    exfalso; omega
  · skip
    refine lv_iload_n hx hb dX3_requireKind_5 rfl (lv_at hl 0 rfl) ?_
    refine lv_bipush (v := nI 6) hx hb dX3_requireKind_6 (by decide) ?_
    refine ni_le (tgt := 22) hx hb k 6 (by omega) (by omega) dX3_requireKind_8 (by decide) (fun c_8 => ?_) (fun c_8 => ?_)
    · skip
      exact wr_return hx hb hr hlk hM hS (Nat.le_refl _) (Nat.le_refl _) rfl dX3_requireKind_22
    · skip
      exfalso; omega
set_option maxHeartbeats 4000000 in
set_option maxRecDepth 100000 in
theorem met_X3_isPlayed (l : Launch) {D : va_G} {cI cJ : ClassId} {M : MP} (xo fr tr pg : Nat) (su : Bool) (bf af : Value) (nu ca qu ve : Nat) (po : Nat)     (hxo : M xo = some (.inr (2, [.ref fr, .ref tr, .ref pg, .int (bI su)]))) (hpg : M pg = some (.inr (0, [.ref po, bf, .int (nI nu), af, .int (nI ca), .int (nI qu), .int (nI ve)]))) (hve : ve < 2 ^ 31) : RdI l yX3_isPlayed cX3_isPlayed 1 (some .boolean) 0 D cI cJ [.ref xo] M (bI (kPl su ve)) := by
  refine rd_start (by decide) (Nat.le_of_ble_eq_true rfl) ?_
  intro p e s m args below meth c hx hb hr hml hown hts hlk hK hM ls hl
  have hl : lv_has ls 1 [(0, .ref xo)] := hl
  refine lv_aload_n hx hb dX3_isPlayed_0 rfl (lv_at hl 0 rfl) ?_
  refine w_get (C := RX3) (T := TX3) (N := 4) (ci := 2) hx hb hts hown hK hM inX3 rfl 3 (by decide) qw_1_105 rfl hxo rfl dX3_isPlayed_1 ?_
  refine zb_ne (tgt := 21) hx hb su dX3_isPlayed_4 (by decide) (fun c_4 => ?_) (fun c_4 => ?_)
  · skip
    refine lv_iconst (v := nI 0) hx hb dX3_isPlayed_21 (by decide) ?_
    exact rd_zreturn hx hb hr hlk (by first | (simp [kPl, bI_t, bI_f, c_4]; done) | exact bI_f0 (by simp only [kPl, c_4, Bool.and_eq_true, Bool.or_eq_true, decide_eq_true_eq, Bool.and_eq_false_iff, Bool.or_eq_false_iff, decide_eq_false_iff_not, Bool.not_eq_true, if_true, if_false]; omega)) dX3_isPlayed_22
  · skip
    refine lv_aload_n hx hb dX3_isPlayed_7 rfl (lv_at hl 0 rfl) ?_
    refine w_get (C := RX3) (T := TX3) (N := 4) (ci := 2) hx hb hts hown hK hM inX3 rfl 2 (by decide) qw_1_104 rfl hxo rfl dX3_isPlayed_8 ?_
    refine w_get (C := RX0) (T := TX0) (N := 7) (ci := 0) hx hb hts hown hK hM inX0 rfl 6 (by decide) qw_1_71 rfl hpg rfl dX3_isPlayed_11 ?_
    refine n0_ne (tgt := 21) hx hb ve (by omega) dX3_isPlayed_14 (by decide) (fun c_14 => ?_) (fun c_14 => ?_)
    · skip
      refine lv_iconst (v := nI 0) hx hb dX3_isPlayed_21 (by decide) ?_
      exact rd_zreturn hx hb hr hlk (by first | (simp [kPl, bI_t, bI_f, c_4, c_14]; done) | exact bI_f0 (by simp only [kPl, c_4, c_14, Bool.and_eq_true, Bool.or_eq_true, decide_eq_true_eq, Bool.and_eq_false_iff, Bool.or_eq_false_iff, decide_eq_false_iff_not, Bool.not_eq_true, if_true, if_false]; omega)) dX3_isPlayed_22
    · skip
      refine lv_iconst (v := nI 1) hx hb dX3_isPlayed_17 (by decide) ?_
      refine lv_goto (tgt := 22) hx hb dX3_isPlayed_18 (by decide) ?_
      exact rd_zreturn hx hb hr hlk (by first | (simp [kPl, bI_t, bI_f, c_4, c_14]; done) | exact bI_1 (by simp only [kPl, c_4, c_14, Bool.and_eq_true, Bool.or_eq_true, decide_eq_true_eq, Bool.and_eq_false_iff, Bool.or_eq_false_iff, decide_eq_false_iff_not, Bool.not_eq_true, if_true, if_false]; omega)) dX3_isPlayed_22
set_option maxHeartbeats 4000000 in
set_option maxRecDepth 100000 in
theorem met_X3_isFull (l : Launch) {D : va_G} {cI cJ : ClassId} {M : MP} (xo fr tr pg : Nat) (su : Bool) (bf af : Value) (nu ca qu ve : Nat) (po : Nat)     (hxo : M xo = some (.inr (2, [.ref fr, .ref tr, .ref pg, .int (bI su)]))) (hpg : M pg = some (.inr (0, [.ref po, bf, .int (nI nu), af, .int (nI ca), .int (nI qu), .int (nI ve)]))) (hnu : nu < 512) : RdI l yX3_isFull cX3_isFull 1 (some .boolean) 0 D cI cJ [.ref xo] M (bI false) := by
  refine rd_start (by decide) (Nat.le_of_ble_eq_true rfl) ?_
  intro p e s m args below meth c hx hb hr hml hown hts hlk hK hM ls hl
  have hl : lv_has ls 1 [(0, .ref xo)] := hl
  refine lv_aload_n hx hb dX3_isFull_0 rfl (lv_at hl 0 rfl) ?_
  refine w_get (C := RX3) (T := TX3) (N := 4) (ci := 2) hx hb hts hown hK hM inX3 rfl 2 (by decide) qw_1_104 rfl hxo rfl dX3_isFull_1 ?_
  refine w_get (C := RX0) (T := TX0) (N := 7) (ci := 0) hx hb hts hown hK hM inX0 rfl 2 (by decide) qw_1_67 rfl hpg rfl dX3_isFull_4 ?_
  refine lv_sipush (v := nI 512) hx hb dX3_isFull_7 (by decide) ?_
  refine ni_lt (tgt := 17) hx hb nu 512 (by omega) (by omega) dX3_isFull_10 (by decide) (fun c_10 => ?_) (fun c_10 => ?_)
  · skip
    refine lv_iconst (v := nI 0) hx hb dX3_isFull_17 (by decide) ?_
    exact rd_zreturn hx hb hr hlk rfl dX3_isFull_18
  · skip
    exfalso; omega
set_option maxHeartbeats 4000000 in
set_option maxRecDepth 100000 in
theorem met_X3_isSetup (l : Launch) {D : va_G} {cI cJ : ClassId} {M : MP} {A : Nat → Prop} {sz : Nat} (xo fr tr pg : Nat) (su : Bool)         (hxo : M xo = some (.inr (2, [.ref fr, .ref tr, .ref pg, .int (bI su)]))) : Wr l yX3_isSetup cX3_isSetup 1 (some .boolean) 0 0 0 D cI cJ [.ref xo] M sz A (some (.int (bI su))) (fun M' => M' = M) := by
  refine wr_start (by decide) (Nat.le_of_ble_eq_true rfl) ?_
  intro p e s m args below meth c hx hb hr hml hown hts hlk hini hK hsz H hH0 hM hS ls hl
  clear hH0
  have hl : lv_has ls 1 [(0, .ref xo)] := hl
  refine lv_aload_n hx hb dX3_isSetup_0 rfl (lv_at hl 0 rfl) ?_
  refine w_get (C := RX3) (T := TX3) (N := 4) (ci := 2) hx hb hts hown hK hM inX3 rfl 3 (by decide) qw_1_105 rfl hxo rfl dX3_isSetup_1 ?_
  exact wr_zreturn hx hb hr hlk hM hS (Nat.le_refl _) (Nat.le_refl _) rfl rfl dX3_isSetup_4
set_option maxHeartbeats 4000000 in
set_option maxRecDepth 100000 in
theorem met_X3_whiteToAct (l : Launch) {D : va_G} {cI cJ : ClassId} {M : MP} {A : Nat → Prop} {sz : Nat} (xo fr tr pg : Nat) (su : Bool) (bf af : Value) (nu ca qu ve : Nat) (po okk pt : Nat)   (w bk : BitVec 64) (wa : Bool)  (hxo : M xo = some (.inr (2, [.ref fr, .ref tr, .ref pg, .int (bI su)]))) (hpg : M pg = some (.inr (0, [.ref po, bf, .int (nI nu), af, .int (nI ca), .int (nI qu), .int (nI ve)]))) (hpo : M po = some (.inr (1, [.ref okk, .ref pt, .long (bL w), .long (bL bk), .int (bI wa)]))) : Wr l yX3_whiteToAct cX3_whiteToAct 1 (some .boolean) 0 0 0 D cI cJ [.ref xo] M sz A (some (.int (bI wa))) (fun M' => M' = M) := by
  refine wr_start (by decide) (Nat.le_of_ble_eq_true rfl) ?_
  intro p e s m args below meth c hx hb hr hml hown hts hlk hini hK hsz H hH0 hM hS ls hl
  clear hH0
  have hl : lv_has ls 1 [(0, .ref xo)] := hl
  refine lv_aload_n hx hb dX3_whiteToAct_0 rfl (lv_at hl 0 rfl) ?_
  refine w_get (C := RX3) (T := TX3) (N := 4) (ci := 2) hx hb hts hown hK hM inX3 rfl 2 (by decide) qw_1_104 rfl hxo rfl dX3_whiteToAct_1 ?_
  refine w_get (C := RX0) (T := TX0) (N := 7) (ci := 0) hx hb hts hown hK hM inX0 rfl 0 (by decide) qw_1_63 rfl hpg rfl dX3_whiteToAct_4 ?_
  refine w_get (C := RX1) (T := TX1) (N := 5) (ci := 1) hx hb hts hown hK hM inX1 rfl 4 (by decide) qw_1_48 rfl hpo rfl dX3_whiteToAct_7 ?_
  exact wr_zreturn hx hb hr hlk hM hS (Nat.le_refl _) (Nat.le_refl _) rfl rfl dX3_whiteToAct_10
set_option maxHeartbeats 4000000 in
set_option maxRecDepth 100000 in
theorem met_X3_pieceAt (l : Launch) {D : va_G} {cI cJ : ClassId} {M : MP} {A : Nat → Prop} {sz : Nat} (xo fr tr pg : Nat) (su : Bool) (bf af : Value) (nu ca qu ve : Nat) (po okk pt : Nat) (K : Nat → BitVec 64)  (w bk : BitVec 64) (wa : Bool) (j : Nat) (hxo : M xo = some (.inr (2, [.ref fr, .ref tr, .ref pg, .int (bI su)]))) (hpg : M pg = some (.inr (0, [.ref po, bf, .int (nI nu), af, .int (nI ca), .int (nI qu), .int (nI ve)]))) (hpo : M po = some (.inr (1, [.ref okk, .ref pt, .long (bL w), .long (bL bk), .int (bI wa)]))) (hokk : M okk = some (eJ cJ 7 (fun ζ => bL (K ζ)))) (hj : j < 64) : Wr l yX3_pieceAt cX3_pieceAt 2 (some .int) 2 0 0 D cI cJ [.ref xo, .int (nI j)] M sz A (some (.int (nI (kKind K j)))) (fun M' => M' = M) := by
  refine wr_start (by decide) (Nat.le_of_ble_eq_true rfl) ?_
  intro p e s m args below meth c hx hb hr hml hown hts hlk hini hK hsz H hH0 hM hS ls hl
  clear hH0
  have hl : lv_has ls 2 [(0, .ref xo), (1, .int (nI j))] := hl
  refine lv_iload_n hx hb dX3_pieceAt_0 rfl (lv_at hl 1 rfl) ?_
  refine wr_go0 (wr_runS (As := [.int (nI j)]) (rest := []) hx hb hml hown hts hK hM okS_RX3_54_X3_requireSquare (met_X3_requireSquare l j (by omega)) rfl ⟨Nat.le_of_ble_eq_true rfl, Nat.le_of_ble_eq_true rfl⟩ hl.1 rfl (Nat.le_of_ble_eq_true rfl) dX3_pieceAt_1 ⟨Nat.le_refl _, Nat.le_refl _⟩) hS (fun M1 H locs hR hM hS => ?_)
  rw [show M1 = M from hR] at hM
  refine lv_aload_n hx hb dX3_pieceAt_4 rfl (lv_at hl 0 rfl) ?_
  refine w_get (C := RX3) (T := TX3) (N := 4) (ci := 2) hx hb hts hown hK hM inX3 rfl 2 (by decide) qw_1_104 rfl hxo rfl dX3_pieceAt_5 ?_
  refine w_get (C := RX0) (T := TX0) (N := 7) (ci := 0) hx hb hts hown hK hM inX0 rfl 0 (by decide) qw_1_63 rfl hpg rfl dX3_pieceAt_8 ?_
  refine lv_iload_n hx hb dX3_pieceAt_11 rfl (lv_at hl 1 rfl) ?_
  refine rd_goI (rd_runV (As := [.int (nI j)]) (rest := []) hx hb hml hown hts hK hM okV_RX3_82_X1_kindOn (met_X1_kindOn l po okk pt K w bk wa j hpo hokk (by omega)) hpo rfl rfl rfl ⟨Nat.le_of_ble_eq_true rfl, Nat.le_of_ble_eq_true rfl⟩ hl.1 rfl (Nat.le_of_ble_eq_true rfl) dX3_pieceAt_12 ⟨Nat.le_refl _, Nat.le_refl _⟩) ?_
  have hf12_0 := kKind_lt K j
  exact wr_ireturn hx hb hr hlk hM hS (Nat.le_refl _) (Nat.le_refl _) rfl rfl dX3_pieceAt_15
set_option maxHeartbeats 4000000 in
set_option maxRecDepth 100000 in
theorem met_X3_isWhite (l : Launch) {D : va_G} {cI cJ : ClassId} {M : MP} {A : Nat → Prop} {sz : Nat} (xo fr tr pg : Nat) (su : Bool) (bf af : Value) (nu ca qu ve : Nat) (po okk pt : Nat)   (w bk : BitVec 64) (wa : Bool) (j : Nat) (hxo : M xo = some (.inr (2, [.ref fr, .ref tr, .ref pg, .int (bI su)]))) (hpg : M pg = some (.inr (0, [.ref po, bf, .int (nI nu), af, .int (nI ca), .int (nI qu), .int (nI ve)]))) (hpo : M po = some (.inr (1, [.ref okk, .ref pt, .long (bL w), .long (bL bk), .int (bI wa)]))) (hj : j < 64) (hoc : (w ||| bk).getLsbD j = true) : Wr l yX3_isWhite cX3_isWhite 3 (some .boolean) 2 0 0 D cI cJ [.ref xo, .int (nI j)] M sz A (some (.int (bI (w.getLsbD j)))) (fun M' => M' = M) := by
  refine wr_start (by decide) (Nat.le_of_ble_eq_true rfl) ?_
  intro p e s m args below meth c hx hb hr hml hown hts hlk hini hK hsz H hH0 hM hS ls hl
  clear hH0
  have hl : lv_has ls 3 [(0, .ref xo), (1, .int (nI j))] := hl
  refine lv_iload_n hx hb dX3_isWhite_0 rfl (lv_at hl 1 rfl) ?_
  refine wr_go0 (wr_runS (As := [.int (nI j)]) (rest := []) hx hb hml hown hts hK hM okS_RX3_54_X3_requireSquare (met_X3_requireSquare l j (by omega)) rfl ⟨Nat.le_of_ble_eq_true rfl, Nat.le_of_ble_eq_true rfl⟩ hl.1 rfl (Nat.le_of_ble_eq_true rfl) dX3_isWhite_1 ⟨Nat.le_refl _, Nat.le_refl _⟩) hS (fun M1 H locs hR hM hS => ?_)
  rw [show M1 = M from hR] at hM
  refine lv_aload_n hx hb dX3_isWhite_4 rfl (lv_at hl 0 rfl) ?_
  refine w_get (C := RX3) (T := TX3) (N := 4) (ci := 2) hx hb hts hown hK hM inX3 rfl 2 (by decide) qw_1_104 rfl hxo rfl dX3_isWhite_5 ?_
  refine w_get (C := RX0) (T := TX0) (N := 7) (ci := 0) hx hb hts hown hK hM inX0 rfl 0 (by decide) qw_1_63 rfl hpg rfl dX3_isWhite_8 ?_
  refine lv_astore_n (lv' := [(2, .ref po), (0, .ref xo), (1, .int (nI j))]) hx hb dX3_isWhite_11 rfl hl (by decide) rfl (fun ls hl => ?_)
  refine lv_aload_n hx hb dX3_isWhite_12 rfl (lv_at hl 0 rfl) ?_
  refine rd_goL (rd_runV (As := []) (rest := []) hx hb hml hown hts hK hM okV_RX3_72_X1_occupied (met_X1_occupied l po okk pt w bk wa hpo) hpo rfl rfl rfl ⟨Nat.le_of_ble_eq_true rfl, Nat.le_of_ble_eq_true rfl⟩ hl.1 rfl (Nat.le_of_ble_eq_true rfl) dX3_isWhite_13 ⟨Nat.le_refl _, Nat.le_refl _⟩) ?_
  refine lv_iload_n hx hb dX3_isWhite_16 rfl (lv_at hl 2 rfl) ?_
  refine rd_goI (rd_runS (As := [.long (bL (w ||| bk)), .int (nI j)]) (rest := []) hx hb hml hown hts hK hM okS_RX3_104_X3_has (met_X3_has l (w ||| bk) j (by omega)) rfl ⟨Nat.le_of_ble_eq_true rfl, Nat.le_of_ble_eq_true rfl⟩ hl.1 rfl (Nat.le_of_ble_eq_true rfl) dX3_isWhite_17 ⟨Nat.le_refl _, Nat.le_refl _⟩) ?_
  refine topi (bI true) (by rw [hoc]) ?_
  refine zb_ne (tgt := 33) hx hb true dX3_isWhite_20 (by decide) (fun _ => ?_) (fun h => absurd (h.symm.trans (rfl : true = true)) (by decide))
  refine lv_aload_n hx hb dX3_isWhite_33 rfl (lv_at hl 0 rfl) ?_
  refine lv_iconst (v := nI 1) hx hb dX3_isWhite_34 (by decide) ?_
  refine rd_goL (rd_runV (As := [.int (bI true)]) (rest := []) hx hb hml hown hts hK hM okV_RX3_113_X1_side (met_X1_side l po okk pt w bk wa true hpo) hpo rfl rfl rfl ⟨Nat.le_of_ble_eq_true rfl, Nat.le_of_ble_eq_true rfl⟩ hl.1 rfl (Nat.le_of_ble_eq_true rfl) dX3_isWhite_35 ⟨Nat.le_refl _, Nat.le_refl _⟩) ?_
  refine lv_iload_n hx hb dX3_isWhite_38 rfl (lv_at hl 2 rfl) ?_
  refine rd_goI (rd_runS (As := [.long (bL (kSide w bk true)), .int (nI j)]) (rest := []) hx hb hml hown hts hK hM okS_RX3_104_X3_has (met_X3_has l (kSide w bk true) j (by omega)) rfl ⟨Nat.le_of_ble_eq_true rfl, Nat.le_of_ble_eq_true rfl⟩ hl.1 rfl (Nat.le_of_ble_eq_true rfl) dX3_isWhite_39 ⟨Nat.le_refl _, Nat.le_refl _⟩) ?_
  exact wr_zreturn hx hb hr hlk hM hS (Nat.le_refl _) (Nat.le_refl _) rfl rfl dX3_isWhite_42
set_option maxHeartbeats 4000000 in
set_option maxRecDepth 100000 in
theorem met_X3_piecesOf (l : Launch) {D : va_G} {cI cJ : ClassId} {M : MP} {A : Nat → Prop} {sz : Nat} (xo fr tr pg : Nat) (su : Bool) (bf af : Value) (nu ca qu ve : Nat) (po okk pt : Nat)   (w bk : BitVec 64) (wa : Bool) (b : Bool) (hxo : M xo = some (.inr (2, [.ref fr, .ref tr, .ref pg, .int (bI su)]))) (hpg : M pg = some (.inr (0, [.ref po, bf, .int (nI nu), af, .int (nI ca), .int (nI qu), .int (nI ve)]))) (hpo : M po = some (.inr (1, [.ref okk, .ref pt, .long (bL w), .long (bL bk), .int (bI wa)]))) : Wr l yX3_piecesOf cX3_piecesOf 2 (some .long) 1 0 0 D cI cJ [.ref xo, .int (bI b)] M sz A (some (.long (bL (kSide w bk b)))) (fun M' => M' = M) := by
  refine wr_start (by decide) (Nat.le_of_ble_eq_true rfl) ?_
  intro p e s m args below meth c hx hb hr hml hown hts hlk hini hK hsz H hH0 hM hS ls hl
  clear hH0
  have hl : lv_has ls 2 [(0, .ref xo), (1, .int (bI b))] := hl
  refine lv_aload_n hx hb dX3_piecesOf_0 rfl (lv_at hl 0 rfl) ?_
  refine w_get (C := RX3) (T := TX3) (N := 4) (ci := 2) hx hb hts hown hK hM inX3 rfl 2 (by decide) qw_1_104 rfl hxo rfl dX3_piecesOf_1 ?_
  refine w_get (C := RX0) (T := TX0) (N := 7) (ci := 0) hx hb hts hown hK hM inX0 rfl 0 (by decide) qw_1_63 rfl hpg rfl dX3_piecesOf_4 ?_
  refine lv_iload_n hx hb dX3_piecesOf_7 rfl (lv_at hl 1 rfl) ?_
  refine rd_goL (rd_runV (As := [.int (bI b)]) (rest := []) hx hb hml hown hts hK hM okV_RX3_113_X1_side (met_X1_side l po okk pt w bk wa b hpo) hpo rfl rfl rfl ⟨Nat.le_of_ble_eq_true rfl, Nat.le_of_ble_eq_true rfl⟩ hl.1 rfl (Nat.le_of_ble_eq_true rfl) dX3_piecesOf_8 ⟨Nat.le_refl _, Nat.le_refl _⟩) ?_
  exact wr_lreturn hx hb hr hlk hM hS (Nat.le_refl _) (Nat.le_refl _) rfl rfl dX3_piecesOf_11
set_option maxHeartbeats 4000000 in
set_option maxRecDepth 100000 in
theorem met_X3_kingSquare (l : Launch) {D : va_G} {cI cJ : ClassId} {M : MP} {A : Nat → Prop} {sz : Nat} (xo fr tr pg : Nat) (su : Bool) (bf af : Value) (nu ca qu ve : Nat) (po okk pt : Nat) (K : Nat → BitVec 64)  (w bk : BitVec 64) (wa : Bool) (b : Bool) (hxo : M xo = some (.inr (2, [.ref fr, .ref tr, .ref pg, .int (bI su)]))) (hpg : M pg = some (.inr (0, [.ref po, bf, .int (nI nu), af, .int (nI ca), .int (nI qu), .int (nI ve)]))) (hpo : M po = some (.inr (1, [.ref okk, .ref pt, .long (bL w), .long (bL bk), .int (bI wa)]))) (hokk : M okk = some (eJ cJ 7 (fun ζ => bL (K ζ)))) : Wr l yX3_kingSquare cX3_kingSquare 2 (some .int) 2 0 0 D cI cJ [.ref xo, .int (bI b)] M sz A (some (.int (kLow (K 1 &&& kSide w bk b)))) (fun M' => M' = M) := by
  refine wr_start (by decide) (Nat.le_of_ble_eq_true rfl) ?_
  intro p e s m args below meth c hx hb hr hml hown hts hlk hini hK hsz H hH0 hM hS ls hl
  clear hH0
  have hl : lv_has ls 2 [(0, .ref xo), (1, .int (bI b))] := hl
  refine lv_aload_n hx hb dX3_kingSquare_0 rfl (lv_at hl 0 rfl) ?_
  refine w_get (C := RX3) (T := TX3) (N := 4) (ci := 2) hx hb hts hown hK hM inX3 rfl 2 (by decide) qw_1_104 rfl hxo rfl dX3_kingSquare_1 ?_
  refine w_get (C := RX0) (T := TX0) (N := 7) (ci := 0) hx hb hts hown hK hM inX0 rfl 0 (by decide) qw_1_63 rfl hpg rfl dX3_kingSquare_4 ?_
  refine lv_iconst (v := nI 1) hx hb dX3_kingSquare_7 (by decide) ?_
  refine lv_iload_n hx hb dX3_kingSquare_8 rfl (lv_at hl 1 rfl) ?_
  refine rd_goL (rd_runV (As := [.int (nI 1), .int (bI b)]) (rest := []) hx hb hml hown hts hK hM okV_RX3_117_X1_piecesOfKind (met_X1_piecesOfKind l po okk pt K w bk wa 1 b hpo hokk (by omega) (by omega)) hpo rfl rfl rfl ⟨Nat.le_of_ble_eq_true rfl, Nat.le_of_ble_eq_true rfl⟩ hl.1 rfl (Nat.le_of_ble_eq_true rfl) dX3_kingSquare_9 ⟨Nat.le_refl _, Nat.le_refl _⟩) ?_
  refine rd_goI (rd_runS (As := [.long (bL (K 1 &&& kSide w bk b))]) (rest := []) hx hb hml hown hts hK hM okS_RX3_121_X3_lowestOf (met_X3_lowestOf l (K 1 &&& kSide w bk b)) rfl ⟨Nat.le_of_ble_eq_true rfl, Nat.le_of_ble_eq_true rfl⟩ hl.1 rfl (Nat.le_of_ble_eq_true rfl) dX3_kingSquare_12 ⟨Nat.le_refl _, Nat.le_refl _⟩) ?_
  exact wr_ireturn hx hb hr hlk hM hS (Nat.le_refl _) (Nat.le_refl _) rfl rfl dX3_kingSquare_15
set_option maxHeartbeats 4000000 in
set_option maxRecDepth 100000 in
theorem met_X3_bondOf (l : Launch) {D : va_G} {cI cJ : ClassId} {M : MP} {A : Nat → Prop} {sz : Nat} (xo fr tr pg : Nat) (su : Bool) (bf af : Value) (nu ca qu ve : Nat) (po okk pt : Nat)  (pp : Nat → Int32) (w bk : BitVec 64) (wa : Bool) (j : Nat) (hxo : M xo = some (.inr (2, [.ref fr, .ref tr, .ref pg, .int (bI su)]))) (hpg : M pg = some (.inr (0, [.ref po, bf, .int (nI nu), af, .int (nI ca), .int (nI qu), .int (nI ve)]))) (hpo : M po = some (.inr (1, [.ref okk, .ref pt, .long (bL w), .long (bL bk), .int (bI wa)]))) (hpt : M pt = some (eI cI 64 pp)) (hj : j < 64) : Wr l yX3_bondOf cX3_bondOf 2 (some .int) 2 0 0 D cI cJ [.ref xo, .int (nI j)] M sz A (some (.int (pp j))) (fun M' => M' = M) := by
  refine wr_start (by decide) (Nat.le_of_ble_eq_true rfl) ?_
  intro p e s m args below meth c hx hb hr hml hown hts hlk hini hK hsz H hH0 hM hS ls hl
  clear hH0
  have hl : lv_has ls 2 [(0, .ref xo), (1, .int (nI j))] := hl
  refine lv_iload_n hx hb dX3_bondOf_0 rfl (lv_at hl 1 rfl) ?_
  refine wr_go0 (wr_runS (As := [.int (nI j)]) (rest := []) hx hb hml hown hts hK hM okS_RX3_54_X3_requireSquare (met_X3_requireSquare l j (by omega)) rfl ⟨Nat.le_of_ble_eq_true rfl, Nat.le_of_ble_eq_true rfl⟩ hl.1 rfl (Nat.le_of_ble_eq_true rfl) dX3_bondOf_1 ⟨Nat.le_refl _, Nat.le_refl _⟩) hS (fun M1 H locs hR hM hS => ?_)
  rw [show M1 = M from hR] at hM
  refine lv_aload_n hx hb dX3_bondOf_4 rfl (lv_at hl 0 rfl) ?_
  refine w_get (C := RX3) (T := TX3) (N := 4) (ci := 2) hx hb hts hown hK hM inX3 rfl 2 (by decide) qw_1_104 rfl hxo rfl dX3_bondOf_5 ?_
  refine w_get (C := RX0) (T := TX0) (N := 7) (ci := 0) hx hb hts hown hK hM inX0 rfl 0 (by decide) qw_1_63 rfl hpg rfl dX3_bondOf_8 ?_
  refine lv_iload_n hx hb dX3_bondOf_11 rfl (lv_at hl 1 rfl) ?_
  refine rd_goI (rd_runV (As := [.int (nI j)]) (rest := []) hx hb hml hown hts hK hM okV_RX3_124_X1_partnerOf (met_X1_partnerOf l po okk pt pp w bk wa j hpo hpt (by omega)) hpo rfl rfl rfl ⟨Nat.le_of_ble_eq_true rfl, Nat.le_of_ble_eq_true rfl⟩ hl.1 rfl (Nat.le_of_ble_eq_true rfl) dX3_bondOf_12 ⟨Nat.le_refl _, Nat.le_refl _⟩) ?_
  exact wr_ireturn hx hb hr hlk hM hS (Nat.le_refl _) (Nat.le_refl _) rfl rfl dX3_bondOf_15
set_option maxHeartbeats 4000000 in
set_option maxRecDepth 100000 in
theorem met_X3_bondCount (l : Launch) {D : va_G} {cI cJ : ClassId} {M : MP} {A : Nat → Prop} {sz : Nat} (xo fr tr pg : Nat) (su : Bool) (bf af : Value) (nu ca qu ve : Nat) (po okk pt : Nat)  (pp : Nat → Int32) (w bk : BitVec 64) (wa : Bool) (b : Bool) (hxo : M xo = some (.inr (2, [.ref fr, .ref tr, .ref pg, .int (bI su)]))) (hpg : M pg = some (.inr (0, [.ref po, bf, .int (nI nu), af, .int (nI ca), .int (nI qu), .int (nI ve)]))) (hpo : M po = some (.inr (1, [.ref okk, .ref pt, .long (bL w), .long (bL bk), .int (bI wa)]))) (hpt : M pt = some (eI cI 64 pp)) : Wr l yX3_bondCount cX3_bondCount 2 (some .int) 2 0 0 D cI cJ [.ref xo, .int (bI b)] M sz A (some (.int (nI (pcnt (kBnd pp w bk b) / 2)))) (fun M' => M' = M) := by
  refine wr_start (by decide) (Nat.le_of_ble_eq_true rfl) ?_
  intro p e s m args below meth c hx hb hr hml hown hts hlk hini hK hsz H hH0 hM hS ls hl
  clear hH0
  have hl : lv_has ls 2 [(0, .ref xo), (1, .int (bI b))] := hl
  refine lv_aload_n hx hb dX3_bondCount_0 rfl (lv_at hl 0 rfl) ?_
  refine w_get (C := RX3) (T := TX3) (N := 4) (ci := 2) hx hb hts hown hK hM inX3 rfl 2 (by decide) qw_1_104 rfl hxo rfl dX3_bondCount_1 ?_
  refine w_get (C := RX0) (T := TX0) (N := 7) (ci := 0) hx hb hts hown hK hM inX0 rfl 0 (by decide) qw_1_63 rfl hpg rfl dX3_bondCount_4 ?_
  refine lv_iload_n hx hb dX3_bondCount_7 rfl (lv_at hl 1 rfl) ?_
  refine rd_goL (rd_runV (As := [.int (bI b)]) (rest := []) hx hb hml hown hts hK hM okV_RX3_127_X1_bondedKnights (met_X1_bondedKnights l po okk pt pp w bk wa b hpo hpt) hpo rfl rfl rfl ⟨Nat.le_of_ble_eq_true rfl, Nat.le_of_ble_eq_true rfl⟩ hl.1 rfl (Nat.le_of_ble_eq_true rfl) dX3_bondCount_8 ⟨Nat.le_refl _, Nat.le_refl _⟩) ?_
  refine rd_goI (rd_runS (As := [.long (bL (kBnd pp w bk b))]) (rest := []) hx hb hml hown hts hK hM okS_RX3_76_J13_bitCount_95d88 (met_J13_bitCount_95d88 l (kBnd pp w bk b)) rfl ⟨Nat.le_of_ble_eq_true rfl, Nat.le_of_ble_eq_true rfl⟩ hl.1 rfl (Nat.le_of_ble_eq_true rfl) dX3_bondCount_11 ⟨Nat.le_refl _, Nat.le_refl _⟩) ?_
  have hf11_0 := pcnt_le (kBnd pp w bk b)
  refine lv_iconst (v := nI 2) hx hb dX3_bondCount_14 (by decide) ?_
  refine ni_div hx hb (pcnt (kBnd pp w bk b)) 2 (by omega) (by decide) (by decide) dX3_bondCount_15 ?_
  exact wr_ireturn hx hb hr hlk hM hS (Nat.le_refl _) (Nat.le_refl _) rfl rfl dX3_bondCount_16
set_option maxHeartbeats 4000000 in
set_option maxRecDepth 100000 in
theorem met_X3_longestBond (l : Launch) {D : va_G} {cI cJ : ClassId} {M : MP} {A : Nat → Prop} {sz : Nat} (xo fr tr pg : Nat) (su : Bool) (bf af : Value) (nu ca qu ve : Nat) (po okk pt : Nat)  (pp : Nat → Int32) (w bk : BitVec 64) (wa : Bool) (b : Bool) (hxo : M xo = some (.inr (2, [.ref fr, .ref tr, .ref pg, .int (bI su)]))) (hpg : M pg = some (.inr (0, [.ref po, bf, .int (nI nu), af, .int (nI ca), .int (nI qu), .int (nI ve)]))) (hpo : M po = some (.inr (1, [.ref okk, .ref pt, .long (bL w), .long (bL bk), .int (bI wa)]))) (hpt : M pt = some (eI cI 64 pp)) (hW : WfPt pp) : Wr l yX3_longestBond cX3_longestBond 7 (some .int) 2 0 0 D cI cJ [.ref xo, .int (bI b)] M sz A (some (.int (nI (kLong pp w bk b)))) (fun M' => M' = M) := by
  refine wr_start (by decide) (Nat.le_of_ble_eq_true rfl) ?_
  intro p e s m args below meth c hx hb hr hml hown hts hlk hini hK hsz H hH0 hM hS ls hl
  clear hH0
  have hl : lv_has ls 7 [(0, .ref xo), (1, .int (bI b))] := hl
  refine lv_aload_n hx hb dX3_longestBond_0 rfl (lv_at hl 0 rfl) ?_
  refine w_get (C := RX3) (T := TX3) (N := 4) (ci := 2) hx hb hts hown hK hM inX3 rfl 2 (by decide) qw_1_104 rfl hxo rfl dX3_longestBond_1 ?_
  refine w_get (C := RX0) (T := TX0) (N := 7) (ci := 0) hx hb hts hown hK hM inX0 rfl 0 (by decide) qw_1_63 rfl hpg rfl dX3_longestBond_4 ?_
  refine lv_astore_n (lv' := [(2, .ref po), (0, .ref xo), (1, .int (bI b))]) hx hb dX3_longestBond_7 rfl hl (by decide) rfl (fun ls hl => ?_)
  refine lv_aload_n hx hb dX3_longestBond_8 rfl (lv_at hl 0 rfl) ?_
  refine lv_iload_n hx hb dX3_longestBond_9 rfl (lv_at hl 2 rfl) ?_
  refine rd_goL (rd_runV (As := [.int (bI b)]) (rest := []) hx hb hml hown hts hK hM okV_RX3_127_X1_bondedKnights (met_X1_bondedKnights l po okk pt pp w bk wa b hpo hpt) hpo rfl rfl rfl ⟨Nat.le_of_ble_eq_true rfl, Nat.le_of_ble_eq_true rfl⟩ hl.1 rfl (Nat.le_of_ble_eq_true rfl) dX3_longestBond_10 ⟨Nat.le_refl _, Nat.le_refl _⟩) ?_
  refine lv_lstore_n (lv' := [(3, .long (bL (kBnd pp w bk b))), (2, .ref po), (0, .ref xo), (1, .int (bI b))]) hx hb dX3_longestBond_13 rfl hl (by decide) rfl (fun ls hl => ?_)
  refine lv_iconst (v := nI 0) hx hb dX3_longestBond_14 (by decide) ?_
  refine lv_istore (lv' := [(5, .int (nI 0)), (3, .long (bL (kBnd pp w bk b))), (2, .ref po), (0, .ref xo), (1, .int (bI b))]) hx hb dX3_longestBond_15 hl (by decide) rfl (fun ls hl => ?_)
  refine lv_iconst (v := nI 0) hx hb dX3_longestBond_17 (by decide) ?_
  refine lv_istore (lv' := [(6, .int (nI 0)), (5, .int (nI 0)), (3, .long (bL (kBnd pp w bk b))), (2, .ref po), (0, .ref xo), (1, .int (bI b))]) hx hb dX3_longestBond_18 hl (by decide) rfl (fun ls hl => ?_)
  refine loopR (pcH := 20) (st := []) (ι := Nat × Nat) (fun ξ => [(6, .int (nI (ξ.2))), (5, .int (nI (ξ.1))), (3, .long (bL (kBnd pp w bk b))), (2, .ref po), (0, .ref xo), (1, .int (bI b))]) (fun n ξ => (ξ.2) + n = 64 ∧ ((ξ.1) ≤ 6 ∧ kLong pp w bk b = mFoldL (kLng1 (kBnd pp w bk b) pp) n (ξ.2) (ξ.1))) ?_ ?_ 64 (0, 0) (⟨by omega, by omega, rfl⟩) ls (lv_sub hl [0,1,2,3,4,5] rfl)
  · rintro ⟨r, i⟩ ⟨hin, hr6, hres⟩ ls hl
    try dsimp only at hl hin hr6 hres
    refine lv_iload hx hb dX3_longestBond_20 (lv_at hl 0 rfl) ?_
    refine lv_bipush (v := nI 64) hx hb dX3_longestBond_22 (by decide) ?_
    refine ni_ge (tgt := 60) hx hb i 64 (by omega) (by omega) dX3_longestBond_24 (by decide) (fun c_24 => ?_) (fun c_24 => ?_)
    · skip
      refine lv_iload hx hb dX3_longestBond_60 (lv_at hl 1 rfl) ?_
      exact wr_ireturn hx hb hr hlk hM hS (Nat.le_refl _) (Nat.le_refl _) (by rw [hres]; simp [-BitVec.getLsbD_eq_getElem, -BitVec.getLsbD_and, mFoldL, kLng1, bI_t, bI_f, c_24, Nat.not_lt.mpr c_24]) rfl dX3_longestBond_62
    · skip
      exfalso; omega
  · rintro n ih ⟨r, i⟩ ⟨hin, hr6, hres⟩ ls hl
    try dsimp only at hl hin hr6 hres
    refine lv_iload hx hb dX3_longestBond_20 (lv_at hl 0 rfl) ?_
    refine lv_bipush (v := nI 64) hx hb dX3_longestBond_22 (by decide) ?_
    refine ni_ge (tgt := 60) hx hb i 64 (by omega) (by omega) dX3_longestBond_24 (by decide) (fun c_24 => ?_) (fun c_24 => ?_)
    · skip
      exfalso; omega
    · skip
      refine lv_lload_n hx hb dX3_longestBond_27 rfl (lv_at hl 2 rfl) ?_
      refine lv_iload hx hb dX3_longestBond_28 (lv_at hl 0 rfl) ?_
      refine rd_goI (rd_runS (As := [.long (bL (kBnd pp w bk b)), .int (nI i)]) (rest := []) hx hb hml hown hts hK hM okS_RX3_104_X3_has (met_X3_has l (kBnd pp w bk b) i (by omega)) rfl ⟨Nat.le_of_ble_eq_true rfl, Nat.le_of_ble_eq_true rfl⟩ hl.1 rfl (Nat.le_of_ble_eq_true rfl) dX3_longestBond_30 ⟨Nat.le_refl _, Nat.le_refl _⟩) ?_
      refine zb_eq (tgt := 54) hx hb ((kBnd pp w bk b).getLsbD i) dX3_longestBond_33 (by decide) (fun c_33 => ?_) (fun c_33 => ?_)
      · skip
        refine ni_iinc (lv' := [(6, .int (nI (i + 1))), (5, .int (nI r)), (3, .long (bL (kBnd pp w bk b))), (2, .ref po), (0, .ref xo), (1, .int (bI b))]) hx hb i 1 dX3_longestBond_54 hl (k := 0) rfl (by decide) (by decide) rfl (fun ls hl => ?_)
        refine lv_goto (tgt := 20) hx hb dX3_longestBond_57 (by decide) ?_
        exact ih (r, i + 1) ⟨by omega, by first | omega | exact mMax_le hr6 (mHop_le _ _), by rw [hres]; simp [-BitVec.getLsbD_eq_getElem, -BitVec.getLsbD_and, mFoldL, kLng1, c_24, Nat.not_le.mpr c_24, Nat.le_of_lt c_24, c_33]⟩ ls (lv_sub hl [0,1,2,3,4,5] rfl)
      · skip
        refine lv_iload hx hb dX3_longestBond_36 (lv_at hl 1 rfl) ?_
        refine lv_iload hx hb dX3_longestBond_38 (lv_at hl 0 rfl) ?_
        refine lv_aload_n hx hb dX3_longestBond_40 rfl (lv_at hl 3 rfl) ?_
        refine lv_iload hx hb dX3_longestBond_41 (lv_at hl 0 rfl) ?_
        refine rd_goI (rd_runV (As := [.int (nI i)]) (rest := [.int (nI i), .int (nI r)]) hx hb hml hown hts hK hM okV_RX3_124_X1_partnerOf (met_X1_partnerOf l po okk pt pp w bk wa i hpo hpt (by omega)) hpo rfl rfl rfl ⟨Nat.le_of_ble_eq_true rfl, Nat.le_of_ble_eq_true rfl⟩ hl.1 rfl (Nat.le_of_ble_eq_true rfl) dX3_longestBond_43 ⟨Nat.le_refl _, Nat.le_refl _⟩) ?_
        have hbi := kBnd_in i c_33
        obtain ⟨o, ho, eo⟩ := (hW i (by omega)).resolve_left hbi
        refine topi (nI o) eo ?_
        have hclo := nI_cl ho
        have hhop := mHop_le i o
        refine rd_goI (rd_runS (As := [.int (nI i), .int (nI o)]) (rest := [.int (nI r)]) hx hb hml hown hts hK hM okS_RX3_130_X2_hops (met_X2_hops l i o (by omega) (by omega)) rfl ⟨Nat.le_of_ble_eq_true rfl, Nat.le_of_ble_eq_true rfl⟩ hl.1 rfl (Nat.le_of_ble_eq_true rfl) dX3_longestBond_46 ⟨Nat.le_refl _, Nat.le_refl _⟩) ?_
        have hf46_0 := mHop_le i o
        refine w_max hx hb hml hl.1 hown hts qw_1_191 r (mHop i o) (by omega) (by omega) (Nat.le_of_ble_eq_true rfl) (Nat.le_of_ble_eq_true rfl) (Nat.le_refl _) (Nat.le_refl _) dX3_longestBond_49 ?_
        refine lv_istore (lv' := [(5, .int (nI (mMax r (mHop i o)))), (6, .int (nI i)), (3, .long (bL (kBnd pp w bk b))), (2, .ref po), (0, .ref xo), (1, .int (bI b))]) hx hb dX3_longestBond_52 hl (by decide) rfl (fun ls hl => ?_)
        refine ni_iinc (lv' := [(6, .int (nI (i + 1))), (5, .int (nI (mMax r (mHop i o)))), (3, .long (bL (kBnd pp w bk b))), (2, .ref po), (0, .ref xo), (1, .int (bI b))]) hx hb i 1 dX3_longestBond_54 hl (k := 1) rfl (by decide) (by decide) rfl (fun ls hl => ?_)
        refine lv_goto (tgt := 20) hx hb dX3_longestBond_57 (by decide) ?_
        exact ih (mMax r (mHop i o), i + 1) ⟨by omega, by first | omega | exact mMax_le hr6 (mHop_le _ _), by rw [hres]; simp [-BitVec.getLsbD_eq_getElem, -BitVec.getLsbD_and, mFoldL, kLng1, c_24, Nat.not_le.mpr c_24, Nat.le_of_lt c_24, c_33, eo, hclo]⟩ ls (lv_sub hl [0,1,2,3,4,5] rfl)
set_option maxHeartbeats 4000000 in
set_option maxRecDepth 100000 in
theorem met_X3_knightDistance (l : Launch) {D : va_G} {cI cJ : ClassId} {M : MP} {A : Nat → Prop} {sz : Nat} (xo : Nat)         (j k : Nat) (hj : j < 64) (hk : k < 64) : Wr l yX3_knightDistance cX3_knightDistance 3 (some .int) 2 0 0 D cI cJ [.ref xo, .int (nI j), .int (nI k)] M sz A (some (.int (nI (mHop j k)))) (fun M' => M' = M) := by
  refine wr_start (by decide) (Nat.le_of_ble_eq_true rfl) ?_
  intro p e s m args below meth c hx hb hr hml hown hts hlk hini hK hsz H hH0 hM hS ls hl
  clear hH0
  have hl : lv_has ls 3 [(0, .ref xo), (1, .int (nI j)), (2, .int (nI k))] := hl
  refine lv_iload_n hx hb dX3_knightDistance_0 rfl (lv_at hl 1 rfl) ?_
  refine wr_go0 (wr_runS (As := [.int (nI j)]) (rest := []) hx hb hml hown hts hK hM okS_RX3_54_X3_requireSquare (met_X3_requireSquare l j (by omega)) rfl ⟨Nat.le_of_ble_eq_true rfl, Nat.le_of_ble_eq_true rfl⟩ hl.1 rfl (Nat.le_of_ble_eq_true rfl) dX3_knightDistance_1 ⟨Nat.le_refl _, Nat.le_refl _⟩) hS (fun M1 H locs hR hM hS => ?_)
  rw [show M1 = M from hR] at hM
  refine lv_iload_n hx hb dX3_knightDistance_4 rfl (lv_at hl 2 rfl) ?_
  refine wr_go0 (wr_runS (As := [.int (nI k)]) (rest := []) hx hb hml hown hts hK hM okS_RX3_54_X3_requireSquare (met_X3_requireSquare l k (by omega)) rfl ⟨Nat.le_of_ble_eq_true rfl, Nat.le_of_ble_eq_true rfl⟩ hl.1 rfl (Nat.le_of_ble_eq_true rfl) dX3_knightDistance_5 ⟨Nat.le_refl _, Nat.le_refl _⟩) hS (fun M1 H locs hR hM hS => ?_)
  rw [show M1 = M from hR] at hM
  refine lv_iload_n hx hb dX3_knightDistance_8 rfl (lv_at hl 1 rfl) ?_
  refine lv_iload_n hx hb dX3_knightDistance_9 rfl (lv_at hl 2 rfl) ?_
  refine rd_goI (rd_runS (As := [.int (nI j), .int (nI k)]) (rest := []) hx hb hml hown hts hK hM okS_RX3_130_X2_hops (met_X2_hops l j k (by omega) (by omega)) rfl ⟨Nat.le_of_ble_eq_true rfl, Nat.le_of_ble_eq_true rfl⟩ hl.1 rfl (Nat.le_of_ble_eq_true rfl) dX3_knightDistance_10 ⟨Nat.le_refl _, Nat.le_refl _⟩) ?_
  have hf10_0 := mHop_le j k
  exact wr_ireturn hx hb hr hlk hM hS (Nat.le_refl _) (Nat.le_refl _) rfl rfl dX3_knightDistance_13
set_option maxHeartbeats 4000000 in
set_option maxRecDepth 100000 in
theorem met_X3_attackers (l : Launch) {D : va_G} {cI cJ : ClassId} {M : MP} {A : Nat → Prop} {sz : Nat} (xo fr tr pg : Nat) (su : Bool) (bf af : Value) (nu ca qu ve : Nat) (po okk pt : Nat) (K : Nat → BitVec 64)  (w bk : BitVec 64) (wa : Bool) (j : Nat) (b : Bool) (hxo : M xo = some (.inr (2, [.ref fr, .ref tr, .ref pg, .int (bI su)]))) (hpg : M pg = some (.inr (0, [.ref po, bf, .int (nI nu), af, .int (nI ca), .int (nI qu), .int (nI ve)]))) (hpo : M po = some (.inr (1, [.ref okk, .ref pt, .long (bL w), .long (bL bk), .int (bI wa)]))) (hokk : M okk = some (eJ cJ 7 (fun ζ => bL (K ζ)))) (hj : j < 64) : Wr l yX3_attackers cX3_attackers 4 (some .long) 2 0 0 D cI cJ [.ref xo, .int (nI j), .int (bI b)] M sz A (some (.long (bL (kAtt K w bk (kB j) b (w ||| bk))))) (fun M' => M' = M) := by
  refine wr_start (by decide) (Nat.le_of_ble_eq_true rfl) ?_
  intro p e s m args below meth c hx hb hr hml hown hts hlk hini hK hsz H hH0 hM hS ls hl
  clear hH0
  have hl : lv_has ls 4 [(0, .ref xo), (1, .int (nI j)), (2, .int (bI b))] := hl
  refine lv_iload_n hx hb dX3_attackers_0 rfl (lv_at hl 1 rfl) ?_
  refine wr_go0 (wr_runS (As := [.int (nI j)]) (rest := []) hx hb hml hown hts hK hM okS_RX3_54_X3_requireSquare (met_X3_requireSquare l j (by omega)) rfl ⟨Nat.le_of_ble_eq_true rfl, Nat.le_of_ble_eq_true rfl⟩ hl.1 rfl (Nat.le_of_ble_eq_true rfl) dX3_attackers_1 ⟨Nat.le_refl _, Nat.le_refl _⟩) hS (fun M1 H locs hR hM hS => ?_)
  rw [show M1 = M from hR] at hM
  refine lv_aload_n hx hb dX3_attackers_4 rfl (lv_at hl 0 rfl) ?_
  refine w_get (C := RX3) (T := TX3) (N := 4) (ci := 2) hx hb hts hown hK hM inX3 rfl 2 (by decide) qw_1_104 rfl hxo rfl dX3_attackers_5 ?_
  refine w_get (C := RX0) (T := TX0) (N := 7) (ci := 0) hx hb hts hown hK hM inX0 rfl 0 (by decide) qw_1_63 rfl hpg rfl dX3_attackers_8 ?_
  refine lv_astore_n (lv' := [(3, .ref po), (0, .ref xo), (1, .int (nI j)), (2, .int (bI b))]) hx hb dX3_attackers_11 rfl hl (by decide) rfl (fun ls hl => ?_)
  refine lv_aload_n hx hb dX3_attackers_12 rfl (lv_at hl 0 rfl) ?_
  refine lv_iload_n hx hb dX3_attackers_13 rfl (lv_at hl 2 rfl) ?_
  refine rd_goL (rd_runS (As := [.int (nI j)]) (rest := [.ref po]) hx hb hml hown hts hK hM okS_RX3_141_X3_bit (met_X3_bit l j (by omega)) rfl ⟨Nat.le_of_ble_eq_true rfl, Nat.le_of_ble_eq_true rfl⟩ hl.1 rfl (Nat.le_of_ble_eq_true rfl) dX3_attackers_14 ⟨Nat.le_refl _, Nat.le_refl _⟩) ?_
  refine lv_iload_n hx hb dX3_attackers_17 rfl (lv_at hl 3 rfl) ?_
  refine lv_aload_n hx hb dX3_attackers_18 rfl (lv_at hl 0 rfl) ?_
  refine rd_goL (rd_runV (As := []) (rest := [.int (bI b), .long (bL (kB j)), .ref po]) hx hb hml hown hts hK hM okV_RX3_72_X1_occupied (met_X1_occupied l po okk pt w bk wa hpo) hpo rfl rfl rfl ⟨Nat.le_of_ble_eq_true rfl, Nat.le_of_ble_eq_true rfl⟩ hl.1 rfl (Nat.le_of_ble_eq_true rfl) dX3_attackers_19 ⟨Nat.le_refl _, Nat.le_refl _⟩) ?_
  refine rd_goL (rd_runV (As := [.long (bL (kB j)), .int (bI b), .long (bL (w ||| bk))]) (rest := []) hx hb hml hown hts hK hM okV_RX3_145_X1_attackersOn (met_X1_attackersOn l po okk pt K w bk wa (kB j) b (w ||| bk) hpo hokk) hpo rfl rfl rfl ⟨Nat.le_of_ble_eq_true rfl, Nat.le_of_ble_eq_true rfl⟩ hl.1 rfl (Nat.le_of_ble_eq_true rfl) dX3_attackers_22 ⟨Nat.le_refl _, Nat.le_refl _⟩) ?_
  exact wr_lreturn hx hb hr hlk hM hS (Nat.le_refl _) (Nat.le_refl _) rfl rfl dX3_attackers_25
set_option maxHeartbeats 4000000 in
set_option maxRecDepth 100000 in
theorem met_X3_attackedSquares (l : Launch) {D : va_G} {cI cJ : ClassId} {M : MP} {A : Nat → Prop} {sz : Nat} (xo fr tr pg : Nat) (su : Bool) (bf af : Value) (nu ca qu ve : Nat) (po okk pt : Nat) (K : Nat → BitVec 64)  (w bk : BitVec 64) (wa : Bool) (b : Bool) (hxo : M xo = some (.inr (2, [.ref fr, .ref tr, .ref pg, .int (bI su)]))) (hpg : M pg = some (.inr (0, [.ref po, bf, .int (nI nu), af, .int (nI ca), .int (nI qu), .int (nI ve)]))) (hpo : M po = some (.inr (1, [.ref okk, .ref pt, .long (bL w), .long (bL bk), .int (bI wa)]))) (hokk : M okk = some (eJ cJ 7 (fun ζ => bL (K ζ)))) : Wr l yX3_attackedSquares cX3_attackedSquares 2 (some .long) 3 0 0 D cI cJ [.ref xo, .int (bI b)] M sz A (some (.long (bL (kAtd K w bk b)))) (fun M' => M' = M) := by
  refine wr_start (by decide) (Nat.le_of_ble_eq_true rfl) ?_
  intro p e s m args below meth c hx hb hr hml hown hts hlk hini hK hsz H hH0 hM hS ls hl
  clear hH0
  have hl : lv_has ls 2 [(0, .ref xo), (1, .int (bI b))] := hl
  refine lv_aload_n hx hb dX3_attackedSquares_0 rfl (lv_at hl 0 rfl) ?_
  refine w_get (C := RX3) (T := TX3) (N := 4) (ci := 2) hx hb hts hown hK hM inX3 rfl 2 (by decide) qw_1_104 rfl hxo rfl dX3_attackedSquares_1 ?_
  refine w_get (C := RX0) (T := TX0) (N := 7) (ci := 0) hx hb hts hown hK hM inX0 rfl 0 (by decide) qw_1_63 rfl hpg rfl dX3_attackedSquares_4 ?_
  refine lv_iload_n hx hb dX3_attackedSquares_7 rfl (lv_at hl 1 rfl) ?_
  refine rd_goL (rd_runV (As := [.int (bI b)]) (rest := []) hx hb hml hown hts hK hM okV_RX3_149_X1_attackedBy (met_X1_attackedBy l po okk pt K w bk wa b hpo hokk) hpo rfl rfl rfl ⟨Nat.le_of_ble_eq_true rfl, Nat.le_of_ble_eq_true rfl⟩ hl.1 rfl (Nat.le_of_ble_eq_true rfl) dX3_attackedSquares_8 ⟨Nat.le_refl _, Nat.le_refl _⟩) ?_
  exact wr_lreturn hx hb hr hlk hM hS (Nat.le_refl _) (Nat.le_refl _) rfl rfl dX3_attackedSquares_11
set_option maxHeartbeats 4000000 in
set_option maxRecDepth 100000 in
theorem met_X3_isInCheck (l : Launch) {D : va_G} {cI cJ : ClassId} {M : MP} {A : Nat → Prop} {sz : Nat} (xo fr tr pg : Nat) (su : Bool) (bf af : Value) (nu ca qu ve : Nat) (po okk pt : Nat) (K : Nat → BitVec 64)  (w bk : BitVec 64) (wa : Bool) (b : Bool) (hxo : M xo = some (.inr (2, [.ref fr, .ref tr, .ref pg, .int (bI su)]))) (hpg : M pg = some (.inr (0, [.ref po, bf, .int (nI nu), af, .int (nI ca), .int (nI qu), .int (nI ve)]))) (hpo : M po = some (.inr (1, [.ref okk, .ref pt, .long (bL w), .long (bL bk), .int (bI wa)]))) (hokk : M okk = some (eJ cJ 7 (fun ζ => bL (K ζ)))) : Wr l yX3_isInCheck cX3_isInCheck 2 (some .boolean) 3 0 0 D cI cJ [.ref xo, .int (bI b)] M sz A (some (.int (bI (kChk K w bk b)))) (fun M' => M' = M) := by
  refine wr_start (by decide) (Nat.le_of_ble_eq_true rfl) ?_
  intro p e s m args below meth c hx hb hr hml hown hts hlk hini hK hsz H hH0 hM hS ls hl
  clear hH0
  have hl : lv_has ls 2 [(0, .ref xo), (1, .int (bI b))] := hl
  refine lv_aload_n hx hb dX3_isInCheck_0 rfl (lv_at hl 0 rfl) ?_
  refine w_get (C := RX3) (T := TX3) (N := 4) (ci := 2) hx hb hts hown hK hM inX3 rfl 2 (by decide) qw_1_104 rfl hxo rfl dX3_isInCheck_1 ?_
  refine w_get (C := RX0) (T := TX0) (N := 7) (ci := 0) hx hb hts hown hK hM inX0 rfl 0 (by decide) qw_1_63 rfl hpg rfl dX3_isInCheck_4 ?_
  refine lv_iload_n hx hb dX3_isInCheck_7 rfl (lv_at hl 1 rfl) ?_
  refine rd_goI (rd_runV (As := [.int (bI b)]) (rest := []) hx hb hml hown hts hK hM okV_RX3_152_X1_isChecked (met_X1_isChecked l po okk pt K w bk wa b hpo hokk) hpo rfl rfl rfl ⟨Nat.le_of_ble_eq_true rfl, Nat.le_of_ble_eq_true rfl⟩ hl.1 rfl (Nat.le_of_ble_eq_true rfl) dX3_isInCheck_8 ⟨Nat.le_refl _, Nat.le_refl _⟩) ?_
  exact wr_zreturn hx hb hr hlk hM hS (Nat.le_refl _) (Nat.le_refl _) rfl rfl dX3_isInCheck_11
set_option maxHeartbeats 4000000 in
set_option maxRecDepth 100000 in
theorem met_X3_legalMoves (l : Launch) {D : va_G} {cI cJ : ClassId} {M : MP} {A : Nat → Prop} {sz : Nat} (xo fr tr pg : Nat) (su : Bool) (bf af : Value) (nu ca qu ve : Nat) (po okk pt : Nat) (K : Nat → BitVec 64) (pp : Nat → Int32) (w bk : BitVec 64) (wa : Bool) (j : Nat) (hxo : M xo = some (.inr (2, [.ref fr, .ref tr, .ref pg, .int (bI su)]))) (hpg : M pg = some (.inr (0, [.ref po, bf, .int (nI nu), af, .int (nI ca), .int (nI qu), .int (nI ve)]))) (hpo : M po = some (.inr (1, [.ref okk, .ref pt, .long (bL w), .long (bL bk), .int (bI wa)]))) (hokk : M okk = some (eJ cJ 7 (fun ζ => bL (K ζ)))) (hpt : M pt = some (eI cI 64 pp)) (hj : j < 64) (hve : ve < 2 ^ 31) (hW : WfPt pp) : Wr l yX3_legalMoves cX3_legalMoves 3 (some .long) 4 0 0 D cI cJ [.ref xo, .int (nI j)] M sz A (some (.long (bL (if kPl su ve then kLegal K pp w bk wa j else 0#64)))) (fun M' => M' = M) := by
  refine wr_start (by decide) (Nat.le_of_ble_eq_true rfl) ?_
  intro p e s m args below meth c hx hb hr hml hown hts hlk hini hK hsz H hH0 hM hS ls hl
  clear hH0
  have hl : lv_has ls 3 [(0, .ref xo), (1, .int (nI j))] := hl
  refine lv_iload_n hx hb dX3_legalMoves_0 rfl (lv_at hl 1 rfl) ?_
  refine wr_go0 (wr_runS (As := [.int (nI j)]) (rest := []) hx hb hml hown hts hK hM okS_RX3_54_X3_requireSquare (met_X3_requireSquare l j (by omega)) rfl ⟨Nat.le_of_ble_eq_true rfl, Nat.le_of_ble_eq_true rfl⟩ hl.1 rfl (Nat.le_of_ble_eq_true rfl) dX3_legalMoves_1 ⟨Nat.le_refl _, Nat.le_refl _⟩) hS (fun M1 H locs hR hM hS => ?_)
  rw [show M1 = M from hR] at hM
  refine lv_aload_n hx hb dX3_legalMoves_4 rfl (lv_at hl 0 rfl) ?_
  refine w_get (C := RX3) (T := TX3) (N := 4) (ci := 2) hx hb hts hown hK hM inX3 rfl 2 (by decide) qw_1_104 rfl hxo rfl dX3_legalMoves_5 ?_
  refine w_get (C := RX0) (T := TX0) (N := 7) (ci := 0) hx hb hts hown hK hM inX0 rfl 0 (by decide) qw_1_63 rfl hpg rfl dX3_legalMoves_8 ?_
  refine lv_astore_n (lv' := [(2, .ref po), (0, .ref xo), (1, .int (nI j))]) hx hb dX3_legalMoves_11 rfl hl (by decide) rfl (fun ls hl => ?_)
  refine lv_aload_n hx hb dX3_legalMoves_12 rfl (lv_at hl 1 rfl) ?_
  refine rd_goI (rd_runV (As := []) (rest := []) hx hb hml hown hts hK hM okV_RX3_155_X3_isPlayed (met_X3_isPlayed l xo fr tr pg su bf af nu ca qu ve po hxo hpg (by omega)) hxo rfl rfl rfl ⟨Nat.le_of_ble_eq_true rfl, Nat.le_of_ble_eq_true rfl⟩ hl.1 rfl (Nat.le_of_ble_eq_true rfl) dX3_legalMoves_13 ⟨Nat.le_refl _, Nat.le_refl _⟩) ?_
  refine zb_eq (tgt := 30) hx hb (kPl su ve) dX3_legalMoves_16 (by decide) (fun c_16 => ?_) (fun c_16 => ?_)
  · skip
    refine lb_const hx hb 0#64 dX3_legalMoves_30 rfl ?_
    exact wr_lreturn hx hb hr hlk hM hS (Nat.le_refl _) (Nat.le_refl _) (by simp [-BitVec.getLsbD_eq_getElem, -BitVec.getLsbD_and, kLegal, bI_t, bI_f, c_16]) rfl dX3_legalMoves_31
  · skip
    refine lv_aload_n hx hb dX3_legalMoves_19 rfl (lv_at hl 0 rfl) ?_
    refine rd_goL (rd_runV (As := []) (rest := []) hx hb hml hown hts hK hM okV_RX3_159_X1_acting (met_X1_acting l po okk pt w bk wa hpo) hpo rfl rfl rfl ⟨Nat.le_of_ble_eq_true rfl, Nat.le_of_ble_eq_true rfl⟩ hl.1 rfl (Nat.le_of_ble_eq_true rfl) dX3_legalMoves_20 ⟨Nat.le_refl _, Nat.le_refl _⟩) ?_
    refine lv_iload_n hx hb dX3_legalMoves_23 rfl (lv_at hl 2 rfl) ?_
    refine rd_goI (rd_runS (As := [.long (bL (kSide w bk wa)), .int (nI j)]) (rest := []) hx hb hml hown hts hK hM okS_RX3_104_X3_has (met_X3_has l (kSide w bk wa) j (by omega)) rfl ⟨Nat.le_of_ble_eq_true rfl, Nat.le_of_ble_eq_true rfl⟩ hl.1 rfl (Nat.le_of_ble_eq_true rfl) dX3_legalMoves_24 ⟨Nat.le_refl _, Nat.le_refl _⟩) ?_
    refine zb_ne (tgt := 32) hx hb ((kSide w bk wa).getLsbD j) dX3_legalMoves_27 (by decide) (fun c_27 => ?_) (fun c_27 => ?_)
    · skip
      refine lv_aload_n hx hb dX3_legalMoves_32 rfl (lv_at hl 0 rfl) ?_
      refine lv_iload_n hx hb dX3_legalMoves_33 rfl (lv_at hl 2 rfl) ?_
      refine lv_aload_n hx hb dX3_legalMoves_34 rfl (lv_at hl 0 rfl) ?_
      refine rd_goL (rd_runV (As := []) (rest := [.int (nI j), .ref po]) hx hb hml hown hts hK hM okV_RX3_162_X1_delicateSquares (met_X1_delicateSquares l po okk pt K w bk wa hpo hokk) hpo rfl rfl rfl ⟨Nat.le_of_ble_eq_true rfl, Nat.le_of_ble_eq_true rfl⟩ hl.1 rfl (Nat.le_of_ble_eq_true rfl) dX3_legalMoves_35 ⟨Nat.le_refl _, Nat.le_refl _⟩) ?_
      refine rd_goL (rd_runV (As := [.int (nI j), .long (bL (kDel K w bk wa))]) (rest := []) hx hb hml hown hts hK hM okV_RX3_165_X1_lawfulTargets (met_X1_lawfulTargets l po okk pt K pp w bk wa j (kDel K w bk wa) hpo hokk hpt (by omega) hW) hpo rfl rfl rfl ⟨Nat.le_of_ble_eq_true rfl, Nat.le_of_ble_eq_true rfl⟩ hl.1 rfl (Nat.le_of_ble_eq_true rfl) dX3_legalMoves_38 ⟨Nat.le_refl _, Nat.le_refl _⟩) ?_
      exact wr_lreturn hx hb hr hlk hM hS (Nat.le_refl _) (Nat.le_refl _) (by simp [-BitVec.getLsbD_eq_getElem, -BitVec.getLsbD_and, kLegal, bI_t, bI_f, c_16, c_27]) rfl dX3_legalMoves_41
    · skip
      refine lb_const hx hb 0#64 dX3_legalMoves_30 rfl ?_
      exact wr_lreturn hx hb hr hlk hM hS (Nat.le_refl _) (Nat.le_refl _) (by simp [-BitVec.getLsbD_eq_getElem, -BitVec.getLsbD_and, kLegal, bI_t, bI_f, c_16, c_27]) rfl dX3_legalMoves_31
set_option maxHeartbeats 4000000 in
set_option maxRecDepth 100000 in
theorem met_X3_legalMoveCount (l : Launch) {D : va_G} {cI cJ : ClassId} {M : MP} {A : Nat → Prop} {sz : Nat} (xo fr tr pg : Nat) (su : Bool) (bf af : Value) (nu ca qu ve : Nat) (po okk pt : Nat) (K : Nat → BitVec 64) (pp : Nat → Int32) (w bk : BitVec 64) (wa : Bool)  (hxo : M xo = some (.inr (2, [.ref fr, .ref tr, .ref pg, .int (bI su)]))) (hpg : M pg = some (.inr (0, [.ref po, bf, .int (nI nu), af, .int (nI ca), .int (nI qu), .int (nI ve)]))) (hpo : M po = some (.inr (1, [.ref okk, .ref pt, .long (bL w), .long (bL bk), .int (bI wa)]))) (hokk : M okk = some (eJ cJ 7 (fun ζ => bL (K ζ)))) (hpt : M pt = some (eI cI 64 pp)) (hve : ve < 2 ^ 31) (hW : WfPt pp) : Wr l yX3_legalMoveCount cX3_legalMoveCount 1 (some .int) 5 0 0 D cI cJ [.ref xo] M sz A (some (.int (nI (if kPl su ve then kCnt K pp w bk wa else 0)))) (fun M' => M' = M) := by
  refine wr_start (by decide) (Nat.le_of_ble_eq_true rfl) ?_
  intro p e s m args below meth c hx hb hr hml hown hts hlk hini hK hsz H hH0 hM hS ls hl
  clear hH0
  have hl : lv_has ls 1 [(0, .ref xo)] := hl
  refine lv_aload_n hx hb dX3_legalMoveCount_0 rfl (lv_at hl 0 rfl) ?_
  refine rd_goI (rd_runV (As := []) (rest := []) hx hb hml hown hts hK hM okV_RX3_155_X3_isPlayed (met_X3_isPlayed l xo fr tr pg su bf af nu ca qu ve po hxo hpg (by omega)) hxo rfl rfl rfl ⟨Nat.le_of_ble_eq_true rfl, Nat.le_of_ble_eq_true rfl⟩ hl.1 rfl (Nat.le_of_ble_eq_true rfl) dX3_legalMoveCount_1 ⟨Nat.le_refl _, Nat.le_refl _⟩) ?_
  refine zb_eq (tgt := 20) hx hb (kPl su ve) dX3_legalMoveCount_4 (by decide) (fun c_4 => ?_) (fun c_4 => ?_)
  · skip
    refine lv_iconst (v := nI 0) hx hb dX3_legalMoveCount_20 (by decide) ?_
    exact wr_ireturn hx hb hr hlk hM hS (Nat.le_refl _) (Nat.le_refl _) (by simp [bI_t, bI_f, c_4]) rfl dX3_legalMoveCount_21
  · skip
    refine lv_aload_n hx hb dX3_legalMoveCount_7 rfl (lv_at hl 0 rfl) ?_
    refine w_get (C := RX3) (T := TX3) (N := 4) (ci := 2) hx hb hts hown hK hM inX3 rfl 2 (by decide) qw_1_104 rfl hxo rfl dX3_legalMoveCount_8 ?_
    refine w_get (C := RX0) (T := TX0) (N := 7) (ci := 0) hx hb hts hown hK hM inX0 rfl 0 (by decide) qw_1_63 rfl hpg rfl dX3_legalMoveCount_11 ?_
    refine rd_goI (rd_runV (As := []) (rest := []) hx hb hml hown hts hK hM okV_RX3_169_X1_lawfulMoveCount (met_X1_lawfulMoveCount l po okk pt K pp w bk wa hpo hokk hpt hW) hpo rfl rfl rfl ⟨Nat.le_of_ble_eq_true rfl, Nat.le_of_ble_eq_true rfl⟩ hl.1 rfl (Nat.le_of_ble_eq_true rfl) dX3_legalMoveCount_14 ⟨Nat.le_refl _, Nat.le_refl _⟩) ?_
    refine lv_goto (tgt := 21) hx hb dX3_legalMoveCount_17 (by decide) ?_
    exact wr_ireturn hx hb hr hlk hM hS (Nat.le_refl _) (Nat.le_refl _) (by simp [bI_t, bI_f, c_4]) rfl dX3_legalMoveCount_21
set_option maxHeartbeats 4000000 in
set_option maxRecDepth 100000 in
theorem met_X3_moveRefusal (l : Launch) {D : va_G} {cI cJ : ClassId} {M : MP} {A : Nat → Prop} {sz : Nat} (xo fr tr pg : Nat) (su : Bool) (bf af : Value) (nu ca qu ve : Nat) (po okk pt : Nat) (K : Nat → BitVec 64) (pp : Nat → Int32) (w bk : BitVec 64) (wa : Bool) (a b : Nat) (hxo : M xo = some (.inr (2, [.ref fr, .ref tr, .ref pg, .int (bI su)]))) (hpg : M pg = some (.inr (0, [.ref po, bf, .int (nI nu), af, .int (nI ca), .int (nI qu), .int (nI ve)]))) (hpo : M po = some (.inr (1, [.ref okk, .ref pt, .long (bL w), .long (bL bk), .int (bI wa)]))) (hokk : M okk = some (eJ cJ 7 (fun ζ => bL (K ζ)))) (hpt : M pt = some (eI cI 64 pp)) (ha : a < 64) (hb2 : b < 64) (hve : ve < 2 ^ 31) (hW : WfPt pp) : Wr l yX3_moveRefusal cX3_moveRefusal 4 (some .int) 3 0 0 D cI cJ [.ref xo, .int (nI a), .int (nI b)] M sz A (some (.int (nI (if kPl su ve then kMovR K pp w bk wa a b else 1)))) (fun M' => M' = M) := by
  refine wr_start (by decide) (Nat.le_of_ble_eq_true rfl) ?_
  intro p e s m args below meth c hx hb hr hml hown hts hlk hini hK hsz H hH0 hM hS ls hl
  clear hH0
  have hl : lv_has ls 4 [(0, .ref xo), (1, .int (nI a)), (2, .int (nI b))] := hl
  refine lv_iload_n hx hb dX3_moveRefusal_0 rfl (lv_at hl 1 rfl) ?_
  refine wr_go0 (wr_runS (As := [.int (nI a)]) (rest := []) hx hb hml hown hts hK hM okS_RX3_54_X3_requireSquare (met_X3_requireSquare l a (by omega)) rfl ⟨Nat.le_of_ble_eq_true rfl, Nat.le_of_ble_eq_true rfl⟩ hl.1 rfl (Nat.le_of_ble_eq_true rfl) dX3_moveRefusal_1 ⟨Nat.le_refl _, Nat.le_refl _⟩) hS (fun M1 H locs hR hM hS => ?_)
  rw [show M1 = M from hR] at hM
  refine lv_iload_n hx hb dX3_moveRefusal_4 rfl (lv_at hl 2 rfl) ?_
  refine wr_go0 (wr_runS (As := [.int (nI b)]) (rest := []) hx hb hml hown hts hK hM okS_RX3_54_X3_requireSquare (met_X3_requireSquare l b (by omega)) rfl ⟨Nat.le_of_ble_eq_true rfl, Nat.le_of_ble_eq_true rfl⟩ hl.1 rfl (Nat.le_of_ble_eq_true rfl) dX3_moveRefusal_5 ⟨Nat.le_refl _, Nat.le_refl _⟩) hS (fun M1 H locs hR hM hS => ?_)
  rw [show M1 = M from hR] at hM
  refine lv_aload_n hx hb dX3_moveRefusal_8 rfl (lv_at hl 0 rfl) ?_
  refine w_get (C := RX3) (T := TX3) (N := 4) (ci := 2) hx hb hts hown hK hM inX3 rfl 2 (by decide) qw_1_104 rfl hxo rfl dX3_moveRefusal_9 ?_
  refine w_get (C := RX0) (T := TX0) (N := 7) (ci := 0) hx hb hts hown hK hM inX0 rfl 0 (by decide) qw_1_63 rfl hpg rfl dX3_moveRefusal_12 ?_
  refine lv_astore_n (lv' := [(3, .ref po), (0, .ref xo), (1, .int (nI a)), (2, .int (nI b))]) hx hb dX3_moveRefusal_15 rfl hl (by decide) rfl (fun ls hl => ?_)
  refine lv_aload_n hx hb dX3_moveRefusal_16 rfl (lv_at hl 1 rfl) ?_
  refine rd_goI (rd_runV (As := []) (rest := []) hx hb hml hown hts hK hM okV_RX3_155_X3_isPlayed (met_X3_isPlayed l xo fr tr pg su bf af nu ca qu ve po hxo hpg (by omega)) hxo rfl rfl rfl ⟨Nat.le_of_ble_eq_true rfl, Nat.le_of_ble_eq_true rfl⟩ hl.1 rfl (Nat.le_of_ble_eq_true rfl) dX3_moveRefusal_17 ⟨Nat.le_refl _, Nat.le_refl _⟩) ?_
  refine zb_ne (tgt := 25) hx hb (kPl su ve) dX3_moveRefusal_20 (by decide) (fun c_20 => ?_) (fun c_20 => ?_)
  · skip
    refine lv_aload_n hx hb dX3_moveRefusal_25 rfl (lv_at hl 0 rfl) ?_
    refine rd_goL (rd_runV (As := []) (rest := []) hx hb hml hown hts hK hM okV_RX3_159_X1_acting (met_X1_acting l po okk pt w bk wa hpo) hpo rfl rfl rfl ⟨Nat.le_of_ble_eq_true rfl, Nat.le_of_ble_eq_true rfl⟩ hl.1 rfl (Nat.le_of_ble_eq_true rfl) dX3_moveRefusal_26 ⟨Nat.le_refl _, Nat.le_refl _⟩) ?_
    refine lv_iload_n hx hb dX3_moveRefusal_29 rfl (lv_at hl 2 rfl) ?_
    refine rd_goI (rd_runS (As := [.long (bL (kSide w bk wa)), .int (nI a)]) (rest := []) hx hb hml hown hts hK hM okS_RX3_104_X3_has (met_X3_has l (kSide w bk wa) a (by omega)) rfl ⟨Nat.le_of_ble_eq_true rfl, Nat.le_of_ble_eq_true rfl⟩ hl.1 rfl (Nat.le_of_ble_eq_true rfl) dX3_moveRefusal_30 ⟨Nat.le_refl _, Nat.le_refl _⟩) ?_
    refine zb_ne (tgt := 38) hx hb ((kSide w bk wa).getLsbD a) dX3_moveRefusal_33 (by decide) (fun c_33 => ?_) (fun c_33 => ?_)
    · skip
      refine lv_aload_n hx hb dX3_moveRefusal_38 rfl (lv_at hl 0 rfl) ?_
      refine lv_iload_n hx hb dX3_moveRefusal_39 rfl (lv_at hl 2 rfl) ?_
      refine rd_goL (rd_runV (As := [.int (nI a)]) (rest := []) hx hb hml hown hts hK hM okV_RX3_172_X1_targetsFrom (met_X1_targetsFrom l po okk pt K w bk wa a hpo hokk (by omega)) hpo rfl rfl rfl ⟨Nat.le_of_ble_eq_true rfl, Nat.le_of_ble_eq_true rfl⟩ hl.1 rfl (Nat.le_of_ble_eq_true rfl) dX3_moveRefusal_40 ⟨Nat.le_refl _, Nat.le_refl _⟩) ?_
      refine lv_iload_n hx hb dX3_moveRefusal_43 rfl (lv_at hl 3 rfl) ?_
      refine rd_goI (rd_runS (As := [.long (bL (kTgt K w bk wa a)), .int (nI b)]) (rest := []) hx hb hml hown hts hK hM okS_RX3_104_X3_has (met_X3_has l (kTgt K w bk wa a) b (by omega)) rfl ⟨Nat.le_of_ble_eq_true rfl, Nat.le_of_ble_eq_true rfl⟩ hl.1 rfl (Nat.le_of_ble_eq_true rfl) dX3_moveRefusal_44 ⟨Nat.le_refl _, Nat.le_refl _⟩) ?_
      refine zb_ne (tgt := 52) hx hb ((kTgt K w bk wa a).getLsbD b) dX3_moveRefusal_47 (by decide) (fun c_47 => ?_) (fun c_47 => ?_)
      · skip
        refine lv_aload_n hx hb dX3_moveRefusal_52 rfl (lv_at hl 0 rfl) ?_
        refine lv_iload_n hx hb dX3_moveRefusal_53 rfl (lv_at hl 2 rfl) ?_
        refine lv_iload_n hx hb dX3_moveRefusal_54 rfl (lv_at hl 3 rfl) ?_
        refine rd_goI (rd_runV (As := [.int (nI a), .int (nI b)]) (rest := []) hx hb hml hown hts hK hM okV_RX3_175_X1_keepsKingSafe (met_X1_keepsKingSafe l po okk pt K w bk wa a b hpo hokk (by omega) (by omega)) hpo rfl rfl rfl ⟨Nat.le_of_ble_eq_true rfl, Nat.le_of_ble_eq_true rfl⟩ hl.1 rfl (Nat.le_of_ble_eq_true rfl) dX3_moveRefusal_55 ⟨Nat.le_refl _, Nat.le_refl _⟩) ?_
        refine zb_ne (tgt := 63) hx hb (kSafe K w bk wa a b) dX3_moveRefusal_58 (by decide) (fun c_58 => ?_) (fun c_58 => ?_)
        · skip
          refine lv_aload_n hx hb dX3_moveRefusal_63 rfl (lv_at hl 0 rfl) ?_
          refine lv_iload_n hx hb dX3_moveRefusal_64 rfl (lv_at hl 2 rfl) ?_
          refine rd_goL (rd_runV (As := [.int (nI a)]) (rest := []) hx hb hml hown hts hK hM okV_RX3_179_X1_bondRange (met_X1_bondRange l po okk pt pp w bk wa a hpo hpt (by omega) hW) hpo rfl rfl rfl ⟨Nat.le_of_ble_eq_true rfl, Nat.le_of_ble_eq_true rfl⟩ hl.1 rfl (Nat.le_of_ble_eq_true rfl) dX3_moveRefusal_65 ⟨Nat.le_refl _, Nat.le_refl _⟩) ?_
          refine lv_iload_n hx hb dX3_moveRefusal_68 rfl (lv_at hl 3 rfl) ?_
          refine rd_goI (rd_runS (As := [.long (bL (kRng pp a)), .int (nI b)]) (rest := []) hx hb hml hown hts hK hM okS_RX3_104_X3_has (met_X3_has l (kRng pp a) b (by omega)) rfl ⟨Nat.le_of_ble_eq_true rfl, Nat.le_of_ble_eq_true rfl⟩ hl.1 rfl (Nat.le_of_ble_eq_true rfl) dX3_moveRefusal_69 ⟨Nat.le_refl _, Nat.le_refl _⟩) ?_
          refine zb_eq (tgt := 79) hx hb ((kRng pp a).getLsbD b) dX3_moveRefusal_72 (by decide) (fun c_72 => ?_) (fun c_72 => ?_)
          · skip
            refine lv_iconst (v := nI 5) hx hb dX3_moveRefusal_79 (by decide) ?_
            exact wr_ireturn hx hb hr hlk hM hS (Nat.le_refl _) (Nat.le_refl _) (by simp [-BitVec.getLsbD_eq_getElem, -BitVec.getLsbD_and, kMovR, bI_t, bI_f, c_20, c_33, c_47, c_58, c_72]) rfl dX3_moveRefusal_80
          · skip
            refine lv_iconst (v := nI 0) hx hb dX3_moveRefusal_75 (by decide) ?_
            refine lv_goto (tgt := 80) hx hb dX3_moveRefusal_76 (by decide) ?_
            exact wr_ireturn hx hb hr hlk hM hS (Nat.le_refl _) (Nat.le_refl _) (by simp [-BitVec.getLsbD_eq_getElem, -BitVec.getLsbD_and, kMovR, bI_t, bI_f, c_20, c_33, c_47, c_58, c_72]) rfl dX3_moveRefusal_80
        · skip
          refine lv_iconst (v := nI 4) hx hb dX3_moveRefusal_61 (by decide) ?_
          exact wr_ireturn hx hb hr hlk hM hS (Nat.le_refl _) (Nat.le_refl _) (by simp [-BitVec.getLsbD_eq_getElem, -BitVec.getLsbD_and, kMovR, bI_t, bI_f, c_20, c_33, c_47, c_58]) rfl dX3_moveRefusal_62
      · skip
        refine lv_iconst (v := nI 3) hx hb dX3_moveRefusal_50 (by decide) ?_
        exact wr_ireturn hx hb hr hlk hM hS (Nat.le_refl _) (Nat.le_refl _) (by simp [-BitVec.getLsbD_eq_getElem, -BitVec.getLsbD_and, kMovR, bI_t, bI_f, c_20, c_33, c_47]) rfl dX3_moveRefusal_51
    · skip
      refine lv_iconst (v := nI 2) hx hb dX3_moveRefusal_36 (by decide) ?_
      exact wr_ireturn hx hb hr hlk hM hS (Nat.le_refl _) (Nat.le_refl _) (by simp [-BitVec.getLsbD_eq_getElem, -BitVec.getLsbD_and, kMovR, bI_t, bI_f, c_20, c_33]) rfl dX3_moveRefusal_37
  · skip
    refine lv_iconst (v := nI 1) hx hb dX3_moveRefusal_23 (by decide) ?_
    exact wr_ireturn hx hb hr hlk hM hS (Nat.le_refl _) (Nat.le_refl _) (by simp [-BitVec.getLsbD_eq_getElem, -BitVec.getLsbD_and, kMovR, bI_t, bI_f, c_20]) rfl dX3_moveRefusal_24
set_option maxHeartbeats 4000000 in
set_option maxRecDepth 100000 in
theorem met_X3_bondRefusal (l : Launch) {D : va_G} {cI cJ : ClassId} {M : MP} {A : Nat → Prop} {sz : Nat} (xo fr tr pg : Nat) (su : Bool) (bf af : Value) (nu ca qu ve : Nat) (po okk pt : Nat) (K : Nat → BitVec 64) (pp : Nat → Int32) (w bk : BitVec 64) (wa : Bool) (a b : Nat) (hxo : M xo = some (.inr (2, [.ref fr, .ref tr, .ref pg, .int (bI su)]))) (hpg : M pg = some (.inr (0, [.ref po, bf, .int (nI nu), af, .int (nI ca), .int (nI qu), .int (nI ve)]))) (hpo : M po = some (.inr (1, [.ref okk, .ref pt, .long (bL w), .long (bL bk), .int (bI wa)]))) (hokk : M okk = some (eJ cJ 7 (fun ζ => bL (K ζ)))) (hpt : M pt = some (eI cI 64 pp)) (ha : a < 64) (hb2 : b < 64) (hve : ve < 2 ^ 31) : Wr l yX3_bondRefusal cX3_bondRefusal 6 (some .int) 3 0 0 D cI cJ [.ref xo, .int (nI a), .int (nI b)] M sz A (some (.int (nI (if kPl su ve then kBndR K pp w bk wa a b else 1)))) (fun M' => M' = M) := by
  refine wr_start (by decide) (Nat.le_of_ble_eq_true rfl) ?_
  intro p e s m args below meth c hx hb hr hml hown hts hlk hini hK hsz H hH0 hM hS ls hl
  clear hH0
  have hl : lv_has ls 6 [(0, .ref xo), (1, .int (nI a)), (2, .int (nI b))] := hl
  refine lv_iload_n hx hb dX3_bondRefusal_0 rfl (lv_at hl 1 rfl) ?_
  refine wr_go0 (wr_runS (As := [.int (nI a)]) (rest := []) hx hb hml hown hts hK hM okS_RX3_54_X3_requireSquare (met_X3_requireSquare l a (by omega)) rfl ⟨Nat.le_of_ble_eq_true rfl, Nat.le_of_ble_eq_true rfl⟩ hl.1 rfl (Nat.le_of_ble_eq_true rfl) dX3_bondRefusal_1 ⟨Nat.le_refl _, Nat.le_refl _⟩) hS (fun M1 H locs hR hM hS => ?_)
  rw [show M1 = M from hR] at hM
  refine lv_iload_n hx hb dX3_bondRefusal_4 rfl (lv_at hl 2 rfl) ?_
  refine wr_go0 (wr_runS (As := [.int (nI b)]) (rest := []) hx hb hml hown hts hK hM okS_RX3_54_X3_requireSquare (met_X3_requireSquare l b (by omega)) rfl ⟨Nat.le_of_ble_eq_true rfl, Nat.le_of_ble_eq_true rfl⟩ hl.1 rfl (Nat.le_of_ble_eq_true rfl) dX3_bondRefusal_5 ⟨Nat.le_refl _, Nat.le_refl _⟩) hS (fun M1 H locs hR hM hS => ?_)
  rw [show M1 = M from hR] at hM
  refine lv_aload_n hx hb dX3_bondRefusal_8 rfl (lv_at hl 0 rfl) ?_
  refine w_get (C := RX3) (T := TX3) (N := 4) (ci := 2) hx hb hts hown hK hM inX3 rfl 2 (by decide) qw_1_104 rfl hxo rfl dX3_bondRefusal_9 ?_
  refine w_get (C := RX0) (T := TX0) (N := 7) (ci := 0) hx hb hts hown hK hM inX0 rfl 0 (by decide) qw_1_63 rfl hpg rfl dX3_bondRefusal_12 ?_
  refine lv_astore_n (lv' := [(3, .ref po), (0, .ref xo), (1, .int (nI a)), (2, .int (nI b))]) hx hb dX3_bondRefusal_15 rfl hl (by decide) rfl (fun ls hl => ?_)
  refine lv_aload_n hx hb dX3_bondRefusal_16 rfl (lv_at hl 1 rfl) ?_
  refine rd_goI (rd_runV (As := []) (rest := []) hx hb hml hown hts hK hM okV_RX3_155_X3_isPlayed (met_X3_isPlayed l xo fr tr pg su bf af nu ca qu ve po hxo hpg (by omega)) hxo rfl rfl rfl ⟨Nat.le_of_ble_eq_true rfl, Nat.le_of_ble_eq_true rfl⟩ hl.1 rfl (Nat.le_of_ble_eq_true rfl) dX3_bondRefusal_17 ⟨Nat.le_refl _, Nat.le_refl _⟩) ?_
  refine zb_ne (tgt := 25) hx hb (kPl su ve) dX3_bondRefusal_20 (by decide) (fun c_20 => ?_) (fun c_20 => ?_)
  · skip
    refine lv_aload_n hx hb dX3_bondRefusal_25 rfl (lv_at hl 0 rfl) ?_
    refine lv_iconst (v := nI 5) hx hb dX3_bondRefusal_26 (by decide) ?_
    refine lv_aload_n hx hb dX3_bondRefusal_27 rfl (lv_at hl 0 rfl) ?_
    refine w_get (C := RX1) (T := TX1) (N := 5) (ci := 1) hx hb hts hown hK hM inX1 rfl 4 (by decide) qw_1_48 rfl hpo rfl dX3_bondRefusal_28 ?_
    refine rd_goL (rd_runV (As := [.int (nI 5), .int (bI wa)]) (rest := []) hx hb hml hown hts hK hM okV_RX3_117_X1_piecesOfKind (met_X1_piecesOfKind l po okk pt K w bk wa 5 wa hpo hokk (by omega) (by omega)) hpo rfl rfl rfl ⟨Nat.le_of_ble_eq_true rfl, Nat.le_of_ble_eq_true rfl⟩ hl.1 rfl (Nat.le_of_ble_eq_true rfl) dX3_bondRefusal_31 ⟨Nat.le_refl _, Nat.le_refl _⟩) ?_
    refine lv_lstore (lv' := [(4, .long (bL (K 5 &&& kSide w bk wa))), (3, .ref po), (0, .ref xo), (1, .int (nI a)), (2, .int (nI b))]) hx hb dX3_bondRefusal_34 hl (by decide) rfl (fun ls hl => ?_)
    refine lv_iload_n hx hb dX3_bondRefusal_36 rfl (lv_at hl 3 rfl) ?_
    refine lv_iload_n hx hb dX3_bondRefusal_37 rfl (lv_at hl 4 rfl) ?_
    refine ni_eq (tgt := 59) hx hb a b (by omega) (by omega) dX3_bondRefusal_38 (by decide) (fun c_38 => ?_) (fun c_38 => ?_)
    · skip
      refine lv_iconst (v := nI 2) hx hb dX3_bondRefusal_59 (by decide) ?_
      exact wr_ireturn hx hb hr hlk hM hS (Nat.le_refl _) (Nat.le_refl _) (by simp [-BitVec.getLsbD_eq_getElem, -BitVec.getLsbD_and, kBndR, bI_t, bI_f, c_20, c_38]) rfl dX3_bondRefusal_60
    · skip
      refine lv_lload hx hb dX3_bondRefusal_41 (lv_at hl 0 rfl) ?_
      refine lv_iload_n hx hb dX3_bondRefusal_43 rfl (lv_at hl 3 rfl) ?_
      refine rd_goI (rd_runS (As := [.long (bL (K 5 &&& kSide w bk wa)), .int (nI a)]) (rest := []) hx hb hml hown hts hK hM okS_RX3_104_X3_has (met_X3_has l (K 5 &&& kSide w bk wa) a (by omega)) rfl ⟨Nat.le_of_ble_eq_true rfl, Nat.le_of_ble_eq_true rfl⟩ hl.1 rfl (Nat.le_of_ble_eq_true rfl) dX3_bondRefusal_44 ⟨Nat.le_refl _, Nat.le_refl _⟩) ?_
      refine zb_eq (tgt := 59) hx hb ((K 5 &&& kSide w bk wa).getLsbD a) dX3_bondRefusal_47 (by decide) (fun c_47 => ?_) (fun c_47 => ?_)
      · skip
        refine lv_iconst (v := nI 2) hx hb dX3_bondRefusal_59 (by decide) ?_
        exact wr_ireturn hx hb hr hlk hM hS (Nat.le_refl _) (Nat.le_refl _) (by simp [-BitVec.getLsbD_eq_getElem, -BitVec.getLsbD_and, kBndR, bI_t, bI_f, c_20, c_38, c_47]) rfl dX3_bondRefusal_60
      · skip
        refine lv_lload hx hb dX3_bondRefusal_50 (lv_at hl 0 rfl) ?_
        refine lv_iload_n hx hb dX3_bondRefusal_52 rfl (lv_at hl 4 rfl) ?_
        refine rd_goI (rd_runS (As := [.long (bL (K 5 &&& kSide w bk wa)), .int (nI b)]) (rest := []) hx hb hml hown hts hK hM okS_RX3_104_X3_has (met_X3_has l (K 5 &&& kSide w bk wa) b (by omega)) rfl ⟨Nat.le_of_ble_eq_true rfl, Nat.le_of_ble_eq_true rfl⟩ hl.1 rfl (Nat.le_of_ble_eq_true rfl) dX3_bondRefusal_53 ⟨Nat.le_refl _, Nat.le_refl _⟩) ?_
        refine zb_ne (tgt := 61) hx hb ((K 5 &&& kSide w bk wa).getLsbD b) dX3_bondRefusal_56 (by decide) (fun c_56 => ?_) (fun c_56 => ?_)
        · skip
          refine lv_aload_n hx hb dX3_bondRefusal_61 rfl (lv_at hl 1 rfl) ?_
          refine lv_iload_n hx hb dX3_bondRefusal_62 rfl (lv_at hl 3 rfl) ?_
          refine rd_goI (rd_runV (As := [.int (nI a)]) (rest := []) hx hb hml hown hts hK hM okV_RX3_124_X1_partnerOf (met_X1_partnerOf l po okk pt pp w bk wa a hpo hpt (by omega)) hpo rfl rfl rfl ⟨Nat.le_of_ble_eq_true rfl, Nat.le_of_ble_eq_true rfl⟩ hl.1 rfl (Nat.le_of_ble_eq_true rfl) dX3_bondRefusal_63 ⟨Nat.le_refl _, Nat.le_refl _⟩) ?_
          refine lv_iconst (v := (-1)) hx hb dX3_bondRefusal_66 (by decide) ?_
          refine lv_icmp_ne (tgt := 79) hx hb dX3_bondRefusal_67 (by decide) (fun c_67 => ?_) (fun c_67 => ?_)
          · skip
            refine lv_bipush (v := nI 6) hx hb dX3_bondRefusal_79 (by decide) ?_
            exact wr_ireturn hx hb hr hlk hM hS (Nat.le_refl _) (Nat.le_refl _) (by simp [-BitVec.getLsbD_eq_getElem, -BitVec.getLsbD_and, kBndR, bI_t, bI_f, c_20, c_38, c_47, c_56, c_67]) rfl dX3_bondRefusal_81
          · skip
            refine lv_aload_n hx hb dX3_bondRefusal_70 rfl (lv_at hl 1 rfl) ?_
            refine lv_iload_n hx hb dX3_bondRefusal_71 rfl (lv_at hl 4 rfl) ?_
            refine rd_goI (rd_runV (As := [.int (nI b)]) (rest := []) hx hb hml hown hts hK hM okV_RX3_124_X1_partnerOf (met_X1_partnerOf l po okk pt pp w bk wa b hpo hpt (by omega)) hpo rfl rfl rfl ⟨Nat.le_of_ble_eq_true rfl, Nat.le_of_ble_eq_true rfl⟩ hl.1 rfl (Nat.le_of_ble_eq_true rfl) dX3_bondRefusal_72 ⟨Nat.le_refl _, Nat.le_refl _⟩) ?_
            refine lv_iconst (v := (-1)) hx hb dX3_bondRefusal_75 (by decide) ?_
            refine lv_icmp_eq (tgt := 82) hx hb dX3_bondRefusal_76 (by decide) (fun c_76 => ?_) (fun c_76 => ?_)
            · skip
              refine lv_iload_n hx hb dX3_bondRefusal_82 rfl (lv_at hl 3 rfl) ?_
              refine lv_iload_n hx hb dX3_bondRefusal_83 rfl (lv_at hl 4 rfl) ?_
              refine rd_goI (rd_runS (As := [.int (nI a), .int (nI b)]) (rest := []) hx hb hml hown hts hK hM okS_RX3_130_X2_hops (met_X2_hops l a b (by omega) (by omega)) rfl ⟨Nat.le_of_ble_eq_true rfl, Nat.le_of_ble_eq_true rfl⟩ hl.1 rfl (Nat.le_of_ble_eq_true rfl) dX3_bondRefusal_84 ⟨Nat.le_refl _, Nat.le_refl _⟩) ?_
              have hf84_0 := mHop_le a b
              have hhop := mHop_le a b
              refine lv_iconst (v := nI 3) hx hb dX3_bondRefusal_87 (by decide) ?_
              refine ni_le (tgt := 93) hx hb (mHop a b) 3 (by omega) (by omega) dX3_bondRefusal_88 (by decide) (fun c_88 => ?_) (fun c_88 => ?_)
              · skip
                refine lv_aload_n hx hb dX3_bondRefusal_93 rfl (lv_at hl 1 rfl) ?_
                refine lv_aload_n hx hb dX3_bondRefusal_94 rfl (lv_at hl 1 rfl) ?_
                refine w_get (C := RX1) (T := TX1) (N := 5) (ci := 1) hx hb hts hown hK hM inX1 rfl 4 (by decide) qw_1_48 rfl hpo rfl dX3_bondRefusal_95 ?_
                refine rd_goI (rd_runV (As := [.int (bI wa)]) (rest := []) hx hb hml hown hts hK hM okV_RX3_152_X1_isChecked (met_X1_isChecked l po okk pt K w bk wa wa hpo hokk) hpo rfl rfl rfl ⟨Nat.le_of_ble_eq_true rfl, Nat.le_of_ble_eq_true rfl⟩ hl.1 rfl (Nat.le_of_ble_eq_true rfl) dX3_bondRefusal_98 ⟨Nat.le_refl _, Nat.le_refl _⟩) ?_
                refine zb_eq (tgt := 108) hx hb (kChk K w bk wa) dX3_bondRefusal_101 (by decide) (fun c_101 => ?_) (fun c_101 => ?_)
                · skip
                  refine lv_iconst (v := nI 0) hx hb dX3_bondRefusal_108 (by decide) ?_
                  exact wr_ireturn hx hb hr hlk hM hS (Nat.le_refl _) (Nat.le_refl _) (by simp [-BitVec.getLsbD_eq_getElem, -BitVec.getLsbD_and, kBndR, bI_t, bI_f, c_20, c_38, c_47, c_56, c_67, c_76, c_88, Nat.not_lt.mpr c_88, c_101]) rfl dX3_bondRefusal_109
                · skip
                  refine lv_iconst (v := nI 4) hx hb dX3_bondRefusal_104 (by decide) ?_
                  refine lv_goto (tgt := 109) hx hb dX3_bondRefusal_105 (by decide) ?_
                  exact wr_ireturn hx hb hr hlk hM hS (Nat.le_refl _) (Nat.le_refl _) (by simp [-BitVec.getLsbD_eq_getElem, -BitVec.getLsbD_and, kBndR, bI_t, bI_f, c_20, c_38, c_47, c_56, c_67, c_76, c_88, Nat.not_lt.mpr c_88, c_101]) rfl dX3_bondRefusal_109
              · skip
                refine lv_iconst (v := nI 5) hx hb dX3_bondRefusal_91 (by decide) ?_
                exact wr_ireturn hx hb hr hlk hM hS (Nat.le_refl _) (Nat.le_refl _) (by simp [-BitVec.getLsbD_eq_getElem, -BitVec.getLsbD_and, kBndR, bI_t, bI_f, c_20, c_38, c_47, c_56, c_67, c_76, c_88, Nat.not_le.mpr c_88, Nat.le_of_lt c_88]) rfl dX3_bondRefusal_92
            · skip
              refine lv_bipush (v := nI 6) hx hb dX3_bondRefusal_79 (by decide) ?_
              exact wr_ireturn hx hb hr hlk hM hS (Nat.le_refl _) (Nat.le_refl _) (by simp [-BitVec.getLsbD_eq_getElem, -BitVec.getLsbD_and, kBndR, bI_t, bI_f, c_20, c_38, c_47, c_56, c_67, c_76]) rfl dX3_bondRefusal_81
        · skip
          refine lv_iconst (v := nI 2) hx hb dX3_bondRefusal_59 (by decide) ?_
          exact wr_ireturn hx hb hr hlk hM hS (Nat.le_refl _) (Nat.le_refl _) (by simp [-BitVec.getLsbD_eq_getElem, -BitVec.getLsbD_and, kBndR, bI_t, bI_f, c_20, c_38, c_47, c_56]) rfl dX3_bondRefusal_60
  · skip
    refine lv_iconst (v := nI 1) hx hb dX3_bondRefusal_23 (by decide) ?_
    exact wr_ireturn hx hb hr hlk hM hS (Nat.le_refl _) (Nat.le_refl _) (by simp [-BitVec.getLsbD_eq_getElem, -BitVec.getLsbD_and, kBndR, bI_t, bI_f, c_20]) rfl dX3_bondRefusal_24
set_option maxHeartbeats 4000000 in
set_option maxRecDepth 100000 in
theorem met_X3_dissolveRefusal (l : Launch) {D : va_G} {cI cJ : ClassId} {M : MP} {A : Nat → Prop} {sz : Nat} (xo fr tr pg : Nat) (su : Bool) (bf af : Value) (nu ca qu ve : Nat) (po okk pt : Nat) (K : Nat → BitVec 64) (pp : Nat → Int32) (w bk : BitVec 64) (wa : Bool) (a : Nat) (hxo : M xo = some (.inr (2, [.ref fr, .ref tr, .ref pg, .int (bI su)]))) (hpg : M pg = some (.inr (0, [.ref po, bf, .int (nI nu), af, .int (nI ca), .int (nI qu), .int (nI ve)]))) (hpo : M po = some (.inr (1, [.ref okk, .ref pt, .long (bL w), .long (bL bk), .int (bI wa)]))) (hokk : M okk = some (eJ cJ 7 (fun ζ => bL (K ζ)))) (hpt : M pt = some (eI cI 64 pp)) (ha : a < 64) (hve : ve < 2 ^ 31) : Wr l yX3_dissolveRefusal cX3_dissolveRefusal 3 (some .int) 3 0 0 D cI cJ [.ref xo, .int (nI a)] M sz A (some (.int (nI (if kPl su ve then kDisR K pp w bk wa a else 1)))) (fun M' => M' = M) := by
  refine wr_start (by decide) (Nat.le_of_ble_eq_true rfl) ?_
  intro p e s m args below meth c hx hb hr hml hown hts hlk hini hK hsz H hH0 hM hS ls hl
  clear hH0
  have hl : lv_has ls 3 [(0, .ref xo), (1, .int (nI a))] := hl
  refine lv_iload_n hx hb dX3_dissolveRefusal_0 rfl (lv_at hl 1 rfl) ?_
  refine wr_go0 (wr_runS (As := [.int (nI a)]) (rest := []) hx hb hml hown hts hK hM okS_RX3_54_X3_requireSquare (met_X3_requireSquare l a (by omega)) rfl ⟨Nat.le_of_ble_eq_true rfl, Nat.le_of_ble_eq_true rfl⟩ hl.1 rfl (Nat.le_of_ble_eq_true rfl) dX3_dissolveRefusal_1 ⟨Nat.le_refl _, Nat.le_refl _⟩) hS (fun M1 H locs hR hM hS => ?_)
  rw [show M1 = M from hR] at hM
  refine lv_aload_n hx hb dX3_dissolveRefusal_4 rfl (lv_at hl 0 rfl) ?_
  refine w_get (C := RX3) (T := TX3) (N := 4) (ci := 2) hx hb hts hown hK hM inX3 rfl 2 (by decide) qw_1_104 rfl hxo rfl dX3_dissolveRefusal_5 ?_
  refine w_get (C := RX0) (T := TX0) (N := 7) (ci := 0) hx hb hts hown hK hM inX0 rfl 0 (by decide) qw_1_63 rfl hpg rfl dX3_dissolveRefusal_8 ?_
  refine lv_astore_n (lv' := [(2, .ref po), (0, .ref xo), (1, .int (nI a))]) hx hb dX3_dissolveRefusal_11 rfl hl (by decide) rfl (fun ls hl => ?_)
  refine lv_aload_n hx hb dX3_dissolveRefusal_12 rfl (lv_at hl 1 rfl) ?_
  refine rd_goI (rd_runV (As := []) (rest := []) hx hb hml hown hts hK hM okV_RX3_155_X3_isPlayed (met_X3_isPlayed l xo fr tr pg su bf af nu ca qu ve po hxo hpg (by omega)) hxo rfl rfl rfl ⟨Nat.le_of_ble_eq_true rfl, Nat.le_of_ble_eq_true rfl⟩ hl.1 rfl (Nat.le_of_ble_eq_true rfl) dX3_dissolveRefusal_13 ⟨Nat.le_refl _, Nat.le_refl _⟩) ?_
  refine zb_ne (tgt := 21) hx hb (kPl su ve) dX3_dissolveRefusal_16 (by decide) (fun c_16 => ?_) (fun c_16 => ?_)
  · skip
    refine lv_aload_n hx hb dX3_dissolveRefusal_21 rfl (lv_at hl 0 rfl) ?_
    refine lv_iconst (v := nI 5) hx hb dX3_dissolveRefusal_22 (by decide) ?_
    refine lv_aload_n hx hb dX3_dissolveRefusal_23 rfl (lv_at hl 0 rfl) ?_
    refine w_get (C := RX1) (T := TX1) (N := 5) (ci := 1) hx hb hts hown hK hM inX1 rfl 4 (by decide) qw_1_48 rfl hpo rfl dX3_dissolveRefusal_24 ?_
    refine rd_goL (rd_runV (As := [.int (nI 5), .int (bI wa)]) (rest := []) hx hb hml hown hts hK hM okV_RX3_117_X1_piecesOfKind (met_X1_piecesOfKind l po okk pt K w bk wa 5 wa hpo hokk (by omega) (by omega)) hpo rfl rfl rfl ⟨Nat.le_of_ble_eq_true rfl, Nat.le_of_ble_eq_true rfl⟩ hl.1 rfl (Nat.le_of_ble_eq_true rfl) dX3_dissolveRefusal_27 ⟨Nat.le_refl _, Nat.le_refl _⟩) ?_
    refine lv_iload_n hx hb dX3_dissolveRefusal_30 rfl (lv_at hl 2 rfl) ?_
    refine rd_goI (rd_runS (As := [.long (bL (K 5 &&& kSide w bk wa)), .int (nI a)]) (rest := []) hx hb hml hown hts hK hM okS_RX3_104_X3_has (met_X3_has l (K 5 &&& kSide w bk wa) a (by omega)) rfl ⟨Nat.le_of_ble_eq_true rfl, Nat.le_of_ble_eq_true rfl⟩ hl.1 rfl (Nat.le_of_ble_eq_true rfl) dX3_dissolveRefusal_31 ⟨Nat.le_refl _, Nat.le_refl _⟩) ?_
    refine zb_ne (tgt := 39) hx hb ((K 5 &&& kSide w bk wa).getLsbD a) dX3_dissolveRefusal_34 (by decide) (fun c_34 => ?_) (fun c_34 => ?_)
    · skip
      refine lv_aload_n hx hb dX3_dissolveRefusal_39 rfl (lv_at hl 0 rfl) ?_
      refine lv_iload_n hx hb dX3_dissolveRefusal_40 rfl (lv_at hl 2 rfl) ?_
      refine rd_goI (rd_runV (As := [.int (nI a)]) (rest := []) hx hb hml hown hts hK hM okV_RX3_124_X1_partnerOf (met_X1_partnerOf l po okk pt pp w bk wa a hpo hpt (by omega)) hpo rfl rfl rfl ⟨Nat.le_of_ble_eq_true rfl, Nat.le_of_ble_eq_true rfl⟩ hl.1 rfl (Nat.le_of_ble_eq_true rfl) dX3_dissolveRefusal_41 ⟨Nat.le_refl _, Nat.le_refl _⟩) ?_
      refine lv_iconst (v := (-1)) hx hb dX3_dissolveRefusal_44 (by decide) ?_
      refine lv_icmp_ne (tgt := 51) hx hb dX3_dissolveRefusal_45 (by decide) (fun c_45 => ?_) (fun c_45 => ?_)
      · skip
        refine lv_aload_n hx hb dX3_dissolveRefusal_51 rfl (lv_at hl 0 rfl) ?_
        refine lv_aload_n hx hb dX3_dissolveRefusal_52 rfl (lv_at hl 0 rfl) ?_
        refine w_get (C := RX1) (T := TX1) (N := 5) (ci := 1) hx hb hts hown hK hM inX1 rfl 4 (by decide) qw_1_48 rfl hpo rfl dX3_dissolveRefusal_53 ?_
        refine rd_goI (rd_runV (As := [.int (bI wa)]) (rest := []) hx hb hml hown hts hK hM okV_RX3_152_X1_isChecked (met_X1_isChecked l po okk pt K w bk wa wa hpo hokk) hpo rfl rfl rfl ⟨Nat.le_of_ble_eq_true rfl, Nat.le_of_ble_eq_true rfl⟩ hl.1 rfl (Nat.le_of_ble_eq_true rfl) dX3_dissolveRefusal_56 ⟨Nat.le_refl _, Nat.le_refl _⟩) ?_
        refine zb_eq (tgt := 66) hx hb (kChk K w bk wa) dX3_dissolveRefusal_59 (by decide) (fun c_59 => ?_) (fun c_59 => ?_)
        · skip
          refine lv_iconst (v := nI 0) hx hb dX3_dissolveRefusal_66 (by decide) ?_
          exact wr_ireturn hx hb hr hlk hM hS (Nat.le_refl _) (Nat.le_refl _) (by simp [-BitVec.getLsbD_eq_getElem, -BitVec.getLsbD_and, kDisR, bI_t, bI_f, c_16, c_34, c_45, c_59]) rfl dX3_dissolveRefusal_67
        · skip
          refine lv_iconst (v := nI 4) hx hb dX3_dissolveRefusal_62 (by decide) ?_
          refine lv_goto (tgt := 67) hx hb dX3_dissolveRefusal_63 (by decide) ?_
          exact wr_ireturn hx hb hr hlk hM hS (Nat.le_refl _) (Nat.le_refl _) (by simp [-BitVec.getLsbD_eq_getElem, -BitVec.getLsbD_and, kDisR, bI_t, bI_f, c_16, c_34, c_45, c_59]) rfl dX3_dissolveRefusal_67
      · skip
        refine lv_bipush (v := nI 7) hx hb dX3_dissolveRefusal_48 (by decide) ?_
        exact wr_ireturn hx hb hr hlk hM hS (Nat.le_refl _) (Nat.le_refl _) (by simp [-BitVec.getLsbD_eq_getElem, -BitVec.getLsbD_and, kDisR, bI_t, bI_f, c_16, c_34, c_45]) rfl dX3_dissolveRefusal_50
    · skip
      refine lv_iconst (v := nI 2) hx hb dX3_dissolveRefusal_37 (by decide) ?_
      exact wr_ireturn hx hb hr hlk hM hS (Nat.le_refl _) (Nat.le_refl _) (by simp [-BitVec.getLsbD_eq_getElem, -BitVec.getLsbD_and, kDisR, bI_t, bI_f, c_16, c_34]) rfl dX3_dissolveRefusal_38
  · skip
    refine lv_iconst (v := nI 1) hx hb dX3_dissolveRefusal_19 (by decide) ?_
    exact wr_ireturn hx hb hr hlk hM hS (Nat.le_refl _) (Nat.le_refl _) (by simp [-BitVec.getLsbD_eq_getElem, -BitVec.getLsbD_and, kDisR, bI_t, bI_f, c_16]) rfl dX3_dissolveRefusal_20
set_option maxHeartbeats 4000000 in
set_option maxRecDepth 100000 in
theorem met_X3_actionCount (l : Launch) {D : va_G} {cI cJ : ClassId} {M : MP} {A : Nat → Prop} {sz : Nat} (xo fr tr pg : Nat) (su : Bool) (bf af : Value) (nu ca qu ve : Nat) (po : Nat)      (hxo : M xo = some (.inr (2, [.ref fr, .ref tr, .ref pg, .int (bI su)]))) (hpg : M pg = some (.inr (0, [.ref po, bf, .int (nI nu), af, .int (nI ca), .int (nI qu), .int (nI ve)]))) : Wr l yX3_actionCount cX3_actionCount 1 (some .int) 0 0 0 D cI cJ [.ref xo] M sz A (some (.int (nI nu))) (fun M' => M' = M) := by
  refine wr_start (by decide) (Nat.le_of_ble_eq_true rfl) ?_
  intro p e s m args below meth c hx hb hr hml hown hts hlk hini hK hsz H hH0 hM hS ls hl
  clear hH0
  have hl : lv_has ls 1 [(0, .ref xo)] := hl
  refine lv_aload_n hx hb dX3_actionCount_0 rfl (lv_at hl 0 rfl) ?_
  refine w_get (C := RX3) (T := TX3) (N := 4) (ci := 2) hx hb hts hown hK hM inX3 rfl 2 (by decide) qw_1_104 rfl hxo rfl dX3_actionCount_1 ?_
  refine w_get (C := RX0) (T := TX0) (N := 7) (ci := 0) hx hb hts hown hK hM inX0 rfl 2 (by decide) qw_1_67 rfl hpg rfl dX3_actionCount_4 ?_
  exact wr_ireturn hx hb hr hlk hM hS (Nat.le_refl _) (Nat.le_refl _) rfl rfl dX3_actionCount_7
set_option maxHeartbeats 4000000 in
set_option maxRecDepth 100000 in
theorem met_X3_outcome (l : Launch) {D : va_G} {cI cJ : ClassId} {M : MP} {A : Nat → Prop} {sz : Nat} (xo fr tr pg : Nat) (su : Bool) (bf af : Value) (nu ca qu ve : Nat) (po : Nat)      (hxo : M xo = some (.inr (2, [.ref fr, .ref tr, .ref pg, .int (bI su)]))) (hpg : M pg = some (.inr (0, [.ref po, bf, .int (nI nu), af, .int (nI ca), .int (nI qu), .int (nI ve)]))) : Wr l yX3_outcome cX3_outcome 1 (some .int) 0 0 0 D cI cJ [.ref xo] M sz A (some (.int (nI ve))) (fun M' => M' = M) := by
  refine wr_start (by decide) (Nat.le_of_ble_eq_true rfl) ?_
  intro p e s m args below meth c hx hb hr hml hown hts hlk hini hK hsz H hH0 hM hS ls hl
  clear hH0
  have hl : lv_has ls 1 [(0, .ref xo)] := hl
  refine lv_aload_n hx hb dX3_outcome_0 rfl (lv_at hl 0 rfl) ?_
  refine w_get (C := RX3) (T := TX3) (N := 4) (ci := 2) hx hb hts hown hK hM inX3 rfl 2 (by decide) qw_1_104 rfl hxo rfl dX3_outcome_1 ?_
  refine w_get (C := RX0) (T := TX0) (N := 7) (ci := 0) hx hb hts hown hK hM inX0 rfl 6 (by decide) qw_1_71 rfl hpg rfl dX3_outcome_4 ?_
  exact wr_ireturn hx hb hr hlk hM hS (Nat.le_refl _) (Nat.le_refl _) rfl rfl dX3_outcome_7
set_option maxHeartbeats 4000000 in
set_option maxRecDepth 100000 in
theorem met_X3_quietActions (l : Launch) {D : va_G} {cI cJ : ClassId} {M : MP} {A : Nat → Prop} {sz : Nat} (xo fr tr pg : Nat) (su : Bool) (bf af : Value) (nu ca qu ve : Nat) (po : Nat)      (hxo : M xo = some (.inr (2, [.ref fr, .ref tr, .ref pg, .int (bI su)]))) (hpg : M pg = some (.inr (0, [.ref po, bf, .int (nI nu), af, .int (nI ca), .int (nI qu), .int (nI ve)]))) : Wr l yX3_quietActions cX3_quietActions 1 (some .int) 0 0 0 D cI cJ [.ref xo] M sz A (some (.int (nI qu))) (fun M' => M' = M) := by
  refine wr_start (by decide) (Nat.le_of_ble_eq_true rfl) ?_
  intro p e s m args below meth c hx hb hr hml hown hts hlk hini hK hsz H hH0 hM hS ls hl
  clear hH0
  have hl : lv_has ls 1 [(0, .ref xo)] := hl
  refine lv_aload_n hx hb dX3_quietActions_0 rfl (lv_at hl 0 rfl) ?_
  refine w_get (C := RX3) (T := TX3) (N := 4) (ci := 2) hx hb hts hown hK hM inX3 rfl 2 (by decide) qw_1_104 rfl hxo rfl dX3_quietActions_1 ?_
  refine w_get (C := RX0) (T := TX0) (N := 7) (ci := 0) hx hb hts hown hK hM inX0 rfl 5 (by decide) qw_1_70 rfl hpg rfl dX3_quietActions_4 ?_
  exact wr_ireturn hx hb hr hlk hM hS (Nat.le_refl _) (Nat.le_refl _) rfl rfl dX3_quietActions_7
