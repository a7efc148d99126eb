theorem okS_RX1_102_X2_ofPawn : okS RX1 102 yX2_ofPawn cX2_ofPawn 5 (some .long) 2 := okS_of qw_1_237 qw_1_220 qw_1_15 qw_1_221 (by decide +kernel)
theorem okS_RX1_106_X2_ofRook : okS RX1 106 yX2_ofRook cX2_ofRook 17 (some .long) 2 := okS_of qw_1_238 qw_1_213 qw_1_15 qw_1_214 (by decide +kernel)
theorem okS_RX1_110_X2_ofBishop : okS RX1 110 yX2_ofBishop cX2_ofBishop 17 (some .long) 2 := okS_of qw_1_239 qw_1_217 qw_1_15 qw_1_218 (by decide +kernel)
theorem okS_RX1_113_X2_of : okS RX1 113 yX2_of cX2_of 6 (some .long) 4 := okS_of qw_1_206 qw_1_207 qw_1_15 qw_1_208 (by decide +kernel)
theorem okS_RX1_124_X2_withinHops : okS RX1 124 yX2_withinHops cX2_withinHops 6 (some .long) 2 := okS_of qw_2_40 qw_2_41 qw_1_15 qw_2_42 (by decide +kernel)
theorem okS_RX1_145_J13_bitCount_95d88 : okS RX1 145 yJ13_bitCount_95d88 cJ13_bitCount_95d88 2 (some .int) 1 := okS_of qw_2_47 qw_1_155 qw_1_14 qw_1_156 (by decide +kernel)
theorem okS_RX1_93_X2_ofKing : okS RX1 93 yX2_ofKing cX2_ofKing 6 (some .long) 1 := okS_of qw_1_235 qw_1_210 qw_1_15 qw_1_211 (by decide +kernel)
theorem okS_RX1_99_X2_ofKnight : okS RX1 99 yX2_ofKnight cX2_ofKnight 6 (some .long) 1 := okS_of qw_1_236 qw_1_185 qw_1_15 qw_1_186 (by decide +kernel)
theorem okV_RX1_117_X1_attackersOn : okV RX1 117 yX1_attackersOn cX1_attackersOn 12 (some .long) 3 := okV_of qw_1_231 qw_1_232 qw_1_233 qw_1_3 qw_1_234 (by decide +kernel)
theorem okV_RX1_121_X1_acting : okV RX1 121 yX1_acting cX1_acting 1 (some .long) 0 := okV_of qw_2_17 qw_2_18 qw_2_19 qw_1_3 qw_2_20 (by decide +kernel)
theorem okV_RX1_128_X1_targetsFrom : okV RX1 128 yX1_targetsFrom cX1_targetsFrom 7 (some .long) 1 := okV_of qw_2_26 qw_2_27 qw_2_28 qw_1_3 qw_2_29 (by decide +kernel)
theorem okV_RX1_131_X1_bondRange : okV RX1 131 yX1_bondRange cX1_bondRange 3 (some .long) 1 := okV_of qw_2_35 qw_2_36 qw_2_37 qw_1_3 qw_2_38 (by decide +kernel)
theorem okV_RX1_134_X1_keepsKingSafe : okV RX1 134 yX1_keepsKingSafe cX1_keepsKingSafe 7 (some .boolean) 2 := okV_of qw_2_43 qw_2_44 qw_2_45 qw_1_3 qw_2_46 (by decide +kernel)
theorem okV_RX1_138_X1_delicateSquares : okV RX1 138 yX1_delicateSquares cX1_delicateSquares 5 (some .long) 0 := okV_of qw_2_12 qw_2_13 qw_2_14 qw_1_3 qw_2_15 (by decide +kernel)
theorem okV_RX1_141_X1_lawfulTargets : okV RX1 141 yX1_lawfulTargets cX1_lawfulTargets 9 (some .long) 2 := okV_of qw_2_22 qw_2_23 qw_2_24 qw_1_3 qw_2_25 (by decide +kernel)
theorem okV_RX1_151_X1_bondedKnights : okV RX1 151 yX1_bondedKnights cX1_bondedKnights 5 (some .long) 1 := okV_of qw_3_55 qw_1_165 qw_1_166 qw_1_3 qw_1_167 (by decide +kernel)
theorem okV_RX1_154_X1_hasLawfulMove : okV RX1 154 yX1_hasLawfulMove cX1_hasLawfulMove 4 (some .boolean) 0 := okV_of qw_2_88 qw_2_89 qw_2_90 qw_1_3 qw_2_91 (by decide +kernel)
theorem okV_RX1_45_X1_side : okV RX1 45 yX1_side cX1_side 2 (some .long) 1 := okV_of qw_1_150 qw_1_139 qw_1_140 qw_1_3 qw_1_141 (by decide +kernel)
theorem okV_RX1_57_X1_occupied : okV RX1 57 yX1_occupied cX1_occupied 1 (some .long) 0 := okV_of qw_1_202 qw_1_203 qw_1_204 qw_1_3 qw_1_205 (by decide +kernel)
theorem okV_RX1_61_X1_piecesOfKind : okV RX1 61 yX1_piecesOfKind cX1_piecesOfKind 3 (some .long) 2 := okV_of qw_1_230 qw_1_147 qw_1_148 qw_1_3 qw_1_149 (by decide +kernel)
theorem okV_RX1_65_X1_isChecked : okV RX1 65 yX1_isChecked cX1_isChecked 2 (some .boolean) 1 := okV_of qw_2_16 qw_1_227 qw_1_228 qw_1_3 qw_1_229 (by decide +kernel)
theorem okV_RX1_71_X1_partnerOf : okV RX1 71 yX1_partnerOf cX1_partnerOf 2 (some .int) 1 := okV_of qw_2_39 qw_1_176 qw_1_177 qw_1_3 qw_1_178 (by decide +kernel)
theorem okV_RX1_75_X1_kindOn : okV RX1 75 yX1_kindOn cX1_kindOn 3 (some .int) 1 := okV_of qw_2_30 qw_2_31 qw_2_32 qw_1_3 qw_2_33 (by decide +kernel)
set_option maxHeartbeats 4000000 in
set_option maxRecDepth 100000 in
theorem met_X1_occupied (l : Launch) {D : va_G} {cI cJ : ClassId} {M : MP} (po okk pt : Nat)   (w bk : BitVec 64) (wa : Bool) (hpo : M po = some (.inr (1, [.ref okk, .ref pt, .long (bL w), .long (bL bk), .int (bI wa)]))) : RdL l yX1_occupied cX1_occupied 1 (some .long) 0 D cI cJ [.ref po] M (bL (w ||| bk)) := by
  refine rd_start (by decide) (Nat.le_of_ble_eq_true rfl) ?_
  intro p e s m args below meth c hx hb hr hml hown hts hlk hK hM ls hl
  have hl : lv_has ls 1 [(0, .ref po)] := hl
  refine lv_aload_n hx hb dX1_occupied_0 rfl (lv_at hl 0 rfl) ?_
  refine w_get (C := RX1) (T := TX1) (N := 5) (ci := 1) hx hb hts hown hK hM inX1 rfl 2 (by decide) qw_1_45 rfl hpo rfl dX1_occupied_1 ?_
  refine lv_aload_n hx hb dX1_occupied_4 rfl (lv_at hl 0 rfl) ?_
  refine w_get (C := RX1) (T := TX1) (N := 5) (ci := 1) hx hb hts hown hK hM inX1 rfl 3 (by decide) qw_1_46 rfl hpo rfl dX1_occupied_5 ?_
  refine lb_or hx hb dX1_occupied_8 ?_
  exact rd_lreturn hx hb hr hlk rfl dX1_occupied_9
set_option maxHeartbeats 4000000 in
set_option maxRecDepth 100000 in
theorem met_X1_side (l : Launch) {D : va_G} {cI cJ : ClassId} {M : MP} (po okk pt : Nat)   (w bk : BitVec 64) (wa : Bool) (b : Bool) (hpo : M po = some (.inr (1, [.ref okk, .ref pt, .long (bL w), .long (bL bk), .int (bI wa)]))) : RdL l yX1_side cX1_side 2 (some .long) 0 D cI cJ [.ref po, .int (bI b)] M (bL (kSide w bk b)) := by
  refine rd_start (by decide) (Nat.le_of_ble_eq_true rfl) ?_
  intro p e s m args below meth c hx hb hr hml hown hts hlk hK hM ls hl
  have hl : lv_has ls 2 [(0, .ref po), (1, .int (bI b))] := hl
  refine lv_iload_n hx hb dX1_side_0 rfl (lv_at hl 1 rfl) ?_
  refine zb_eq (tgt := 11) hx hb b dX1_side_1 (by decide) (fun c_1 => ?_) (fun c_1 => ?_)
  · skip
    refine lv_aload_n hx hb dX1_side_11 rfl (lv_at hl 0 rfl) ?_
    refine w_get (C := RX1) (T := TX1) (N := 5) (ci := 1) hx hb hts hown hK hM inX1 rfl 3 (by decide) qw_1_46 rfl hpo rfl dX1_side_12 ?_
    exact rd_lreturn hx hb hr hlk (by simp [kSide, bI_t, bI_f, c_1]) dX1_side_15
  · skip
    refine lv_aload_n hx hb dX1_side_4 rfl (lv_at hl 0 rfl) ?_
    refine w_get (C := RX1) (T := TX1) (N := 5) (ci := 1) hx hb hts hown hK hM inX1 rfl 2 (by decide) qw_1_45 rfl hpo rfl dX1_side_5 ?_
    refine lv_goto (tgt := 15) hx hb dX1_side_8 (by decide) ?_
    exact rd_lreturn hx hb hr hlk (by simp [kSide, bI_t, bI_f, c_1]) dX1_side_15
set_option maxHeartbeats 4000000 in
set_option maxRecDepth 100000 in
theorem met_X1_acting (l : Launch) {D : va_G} {cI cJ : ClassId} {M : MP} (po okk pt : Nat)   (w bk : BitVec 64) (wa : Bool) (hpo : M po = some (.inr (1, [.ref okk, .ref pt, .long (bL w), .long (bL bk), .int (bI wa)]))) : RdL l yX1_acting cX1_acting 1 (some .long) 1 D cI cJ [.ref po] M (bL (kSide w bk wa)) := by
  refine rd_start (by decide) (Nat.le_of_ble_eq_true rfl) ?_
  intro p e s m args below meth c hx hb hr hml hown hts hlk hK hM ls hl
  have hl : lv_has ls 1 [(0, .ref po)] := hl
  refine lv_aload_n hx hb dX1_acting_0 rfl (lv_at hl 0 rfl) ?_
  refine lv_aload_n hx hb dX1_acting_1 rfl (lv_at hl 0 rfl) ?_
  refine w_get (C := RX1) (T := TX1) (N := 5) (ci := 1) hx hb hts hown hK hM inX1 rfl 4 (by decide) qw_1_47 rfl hpo rfl dX1_acting_2 ?_
  refine rd_goL (rd_runV (As := [.int (bI wa)]) (rest := []) hx hb hml hown hts hK hM okV_RX1_45_X1_side (met_X1_side l po okk pt w bk wa wa hpo) hpo rfl rfl rfl ⟨Nat.le_of_ble_eq_true rfl, Nat.le_of_ble_eq_true rfl⟩ hl.1 rfl (Nat.le_of_ble_eq_true rfl) dX1_acting_5 ⟨Nat.le_refl _, Nat.le_refl _⟩) ?_
  exact rd_lreturn hx hb hr hlk rfl dX1_acting_8
set_option maxHeartbeats 4000000 in
set_option maxRecDepth 100000 in
theorem met_X1_kings (l : Launch) {D : va_G} {cI cJ : ClassId} {M : MP} (po okk pt : Nat) (K : Nat → BitVec 64)  (w bk : BitVec 64) (wa : Bool) (hpo : M po = some (.inr (1, [.ref okk, .ref pt, .long (bL w), .long (bL bk), .int (bI wa)]))) (hokk : M okk = some (eJ cJ 7 (fun ζ => bL (K ζ)))) : RdL l yX1_kings cX1_kings 1 (some .long) 0 D cI cJ [.ref po] M (bL (K 1)) := by
  refine rd_start (by decide) (Nat.le_of_ble_eq_true rfl) ?_
  intro p e s m args below meth c hx hb hr hml hown hts hlk hK hM ls hl
  have hl : lv_has ls 1 [(0, .ref po)] := hl
  refine lv_aload_n hx hb dX1_kings_0 rfl (lv_at hl 0 rfl) ?_
  refine w_get (C := RX1) (T := TX1) (N := 5) (ci := 1) hx hb hts hown hK hM inX1 rfl 0 (by decide) qw_1_43 rfl hpo rfl dX1_kings_1 ?_
  refine lv_iconst (v := nI 1) hx hb dX1_kings_4 (by decide) ?_
  refine w_lald hx hb hK hM hokk 1 (by omega) (by decide) dX1_kings_5 ?_
  exact rd_lreturn hx hb hr hlk rfl dX1_kings_6
set_option maxHeartbeats 4000000 in
set_option maxRecDepth 100000 in
theorem met_X1_piecesOfKind (l : Launch) {D : va_G} {cI cJ : ClassId} {M : MP} (po okk pt : Nat) (K : Nat → BitVec 64)  (w bk : BitVec 64) (wa : Bool) (k : Nat) (b : Bool) (hpo : M po = some (.inr (1, [.ref okk, .ref pt, .long (bL w), .long (bL bk), .int (bI wa)]))) (hokk : M okk = some (eJ cJ 7 (fun ζ => bL (K ζ)))) (hk1 : 1 ≤ k) (hk7 : k < 7) : RdL l yX1_piecesOfKind cX1_piecesOfKind 3 (some .long) 1 D cI cJ [.ref po, .int (nI k), .int (bI b)] M (bL (K k &&& kSide w bk b)) := by
  refine rd_start (by decide) (Nat.le_of_ble_eq_true rfl) ?_
  intro p e s m args below meth c hx hb hr hml hown hts hlk hK hM ls hl
  have hl : lv_has ls 3 [(0, .ref po), (1, .int (nI k)), (2, .int (bI b))] := hl
  refine lv_iload_n hx hb dX1_piecesOfKind_0 rfl (lv_at hl 1 rfl) ?_
  refine lv_iconst (v := nI 1) hx hb dX1_piecesOfKind_1 (by decide) ?_
  refine ni_lt (tgt := 26) hx hb k 1 (by omega) (by omega) dX1_piecesOfKind_2 (by decide) (fun c_2 => ?_) (fun c_2 => ?_)
  · skip
    exfalso; omega
  · skip
    refine lv_iload_n hx hb dX1_piecesOfKind_5 rfl (lv_at hl 1 rfl) ?_
    refine lv_bipush (v := nI 7) hx hb dX1_piecesOfKind_6 (by decide) ?_
    refine ni_ge (tgt := 26) hx hb k 7 (by omega) (by omega) dX1_piecesOfKind_8 (by decide) (fun c_8 => ?_) (fun c_8 => ?_)
    · skip
      exfalso; omega
    · skip
      refine lv_aload_n hx hb dX1_piecesOfKind_11 rfl (lv_at hl 0 rfl) ?_
      refine w_get (C := RX1) (T := TX1) (N := 5) (ci := 1) hx hb hts hown hK hM inX1 rfl 0 (by decide) qw_1_43 rfl hpo rfl dX1_piecesOfKind_12 ?_
      refine lv_iload_n hx hb dX1_piecesOfKind_15 rfl (lv_at hl 1 rfl) ?_
      refine w_lald hx hb hK hM hokk k (by omega) (by decide) dX1_piecesOfKind_16 ?_
      refine lv_aload_n hx hb dX1_piecesOfKind_17 rfl (lv_at hl 0 rfl) ?_
      refine lv_iload_n hx hb dX1_piecesOfKind_18 rfl (lv_at hl 2 rfl) ?_
      refine rd_goL (rd_runV (As := [.int (bI b)]) (rest := [.long (bL (K k))]) hx hb hml hown hts hK hM okV_RX1_45_X1_side (met_X1_side l po okk pt w bk wa b hpo) hpo rfl rfl rfl ⟨Nat.le_of_ble_eq_true rfl, Nat.le_of_ble_eq_true rfl⟩ hl.1 rfl (Nat.le_of_ble_eq_true rfl) dX1_piecesOfKind_19 ⟨Nat.le_refl _, Nat.le_refl _⟩) ?_
      refine lb_and hx hb dX1_piecesOfKind_22 ?_
      refine lv_goto (tgt := 27) hx hb dX1_piecesOfKind_23 (by decide) ?_
      exact rd_lreturn hx hb hr hlk rfl dX1_piecesOfKind_27
set_option maxHeartbeats 4000000 in
set_option maxRecDepth 100000 in
theorem met_X1_kindOn (l : Launch) {D : va_G} {cI cJ : ClassId} {M : MP} (po okk pt : Nat) (K : Nat → BitVec 64)  (w bk : BitVec 64) (wa : Bool) (j : Nat) (hpo : M po = some (.inr (1, [.ref okk, .ref pt, .long (bL w), .long (bL bk), .int (bI wa)]))) (hokk : M okk = some (eJ cJ 7 (fun ζ => bL (K ζ)))) (hj : j < 64) : RdI l yX1_kindOn cX1_kindOn 3 (some .int) 1 D cI cJ [.ref po, .int (nI j)] M (nI (kKind K j)) := by
  refine rd_start (by decide) (Nat.le_of_ble_eq_true rfl) ?_
  intro p e s m args below meth c hx hb hr hml hown hts hlk hK hM ls hl
  have hl : lv_has ls 3 [(0, .ref po), (1, .int (nI j))] := hl
  refine lv_iconst (v := nI 1) hx hb dX1_kindOn_0 (by decide) ?_
  refine lv_istore_n (lv' := [(2, .int (nI 1)), (0, .ref po), (1, .int (nI j))]) hx hb dX1_kindOn_1 rfl hl (by decide) rfl (fun ls hl => ?_)
  refine loopR (pcH := 2) (st := []) (ι := Nat) (fun ξ => [(2, .int (nI (ξ))), (0, .ref po), (1, .int (nI j))]) (fun n ξ => (ξ) + n = 7 ∧ kKind K j = (mFirst (fun k => (K k).getLsbD j) n (ξ)).getD 0) ?_ ?_ 6 1 (⟨by first | omega | (dsimp only <;> omega), rfl⟩) ls (lv_sub hl [0,1,2] rfl)
  · rintro i ⟨hin, hres⟩ ls hl
    try dsimp only at hl hin hres
    refine lv_iload_n hx hb dX1_kindOn_2 rfl (lv_at hl 0 rfl) ?_
    refine lv_bipush (v := nI 7) hx hb dX1_kindOn_3 (by decide) ?_
    refine ni_ge (tgt := 29) hx hb i 7 (by omega) (by omega) dX1_kindOn_5 (by decide) (fun c_5 => ?_) (fun c_5 => ?_)
    · skip
      refine lv_iconst (v := nI 0) hx hb dX1_kindOn_29 (by decide) ?_
      exact rd_ireturn hx hb hr hlk (by rw [hres]; simp [mFirst, bI_t, bI_f, c_5, Nat.not_lt.mpr c_5]) dX1_kindOn_30
    · skip
      exfalso; omega
  · rintro n ih i ⟨hin, hres⟩ ls hl
    try dsimp only at hl hin hres
    refine lv_iload_n hx hb dX1_kindOn_2 rfl (lv_at hl 0 rfl) ?_
    refine lv_bipush (v := nI 7) hx hb dX1_kindOn_3 (by decide) ?_
    refine ni_ge (tgt := 29) hx hb i 7 (by omega) (by omega) dX1_kindOn_5 (by decide) (fun c_5 => ?_) (fun c_5 => ?_)
    · skip
      exfalso; omega
    · skip
      refine lv_aload_n hx hb dX1_kindOn_8 rfl (lv_at hl 1 rfl) ?_
      refine w_get (C := RX1) (T := TX1) (N := 5) (ci := 1) hx hb hts hown hK hM inX1 rfl 0 (by decide) qw_1_43 rfl hpo rfl dX1_kindOn_9 ?_
      refine lv_iload_n hx hb dX1_kindOn_12 rfl (lv_at hl 0 rfl) ?_
      refine w_lald hx hb hK hM hokk i (by omega) (by decide) dX1_kindOn_13 ?_
      refine lv_iload_n hx hb dX1_kindOn_14 rfl (lv_at hl 2 rfl) ?_
      refine rd_goI (rd_runN (As := [.long (bL (K i)), .int (nI j)]) (rest := []) hx hb hml hown hts hK hM hK.2.2.2.2 okN_X3_has (met_X3_has l (K i) j (by omega)) rfl ⟨Nat.le_of_ble_eq_true rfl, Nat.le_of_ble_eq_true rfl⟩ hl.1 rfl (Nat.le_of_ble_eq_true rfl) dX1_kindOn_15 ⟨Nat.le_refl _, Nat.le_refl _⟩) ?_
      refine zb_eq (tgt := 23) hx hb ((K i).getLsbD j) dX1_kindOn_18 (by decide) (fun c_18 => ?_) (fun c_18 => ?_)
      · skip
        refine ni_iinc (lv' := [(2, .int (nI (i + 1))), (0, .ref po), (1, .int (nI j))]) hx hb i 1 dX1_kindOn_23 hl (k := 0) rfl (by decide) (by decide) rfl (fun ls hl => ?_)
        refine lv_goto (tgt := 2) hx hb dX1_kindOn_26 (by decide) ?_
        exact ih (i + 1) ⟨by first | omega | (dsimp only <;> omega), by rw [hres]; simp [mFirst, c_5, Nat.not_le.mpr c_5, Nat.le_of_lt c_5, c_18]⟩ ls (lv_sub hl [0,1,2] rfl)
      · skip
        refine lv_iload_n hx hb dX1_kindOn_21 rfl (lv_at hl 0 rfl) ?_
        exact rd_ireturn hx hb hr hlk (by rw [hres]; simp [mFirst, bI_t, bI_f, c_5, Nat.not_le.mpr c_5, Nat.le_of_lt c_5, c_18]) dX1_kindOn_22
set_option maxHeartbeats 4000000 in
set_option maxRecDepth 100000 in
theorem met_X1_partnerOf (l : Launch) {D : va_G} {cI cJ : ClassId} {M : MP} (po okk pt : Nat)  (pp : Nat → Int32) (w bk : BitVec 64) (wa : Bool) (j : Nat) (hpo : M po = some (.inr (1, [.ref okk, .ref pt, .long (bL w), .long (bL bk), .int (bI wa)]))) (hpt : M pt = some (eI cI 64 pp)) (hj : j < 64) : RdI l yX1_partnerOf cX1_partnerOf 2 (some .int) 0 D cI cJ [.ref po, .int (nI j)] M (pp j) := by
  refine rd_start (by decide) (Nat.le_of_ble_eq_true rfl) ?_
  intro p e s m args below meth c hx hb hr hml hown hts hlk hK hM ls hl
  have hl : lv_has ls 2 [(0, .ref po), (1, .int (nI j))] := hl
  refine lv_iload_n hx hb dX1_partnerOf_0 rfl (lv_at hl 1 rfl) ?_
  refine n0_lt (tgt := 19) hx hb j (by omega) dX1_partnerOf_1 (by decide) ?_
  refine lv_iload_n hx hb dX1_partnerOf_4 rfl (lv_at hl 1 rfl) ?_
  refine lv_bipush (v := nI 64) hx hb dX1_partnerOf_5 (by decide) ?_
  refine ni_ge (tgt := 19) hx hb j 64 (by omega) (by omega) dX1_partnerOf_7 (by decide) (fun c_7 => ?_) (fun c_7 => ?_)
  · skip
    exfalso; omega
  · skip
    refine lv_aload_n hx hb dX1_partnerOf_10 rfl (lv_at hl 0 rfl) ?_
    refine w_get (C := RX1) (T := TX1) (N := 5) (ci := 1) hx hb hts hown hK hM inX1 rfl 1 (by decide) qw_1_44 rfl hpo rfl dX1_partnerOf_11 ?_
    refine lv_iload_n hx hb dX1_partnerOf_14 rfl (lv_at hl 1 rfl) ?_
    refine w_iald hx hb hK hM hpt j (by omega) (by decide) dX1_partnerOf_15 ?_
    refine lv_goto (tgt := 20) hx hb dX1_partnerOf_16 (by decide) ?_
    exact rd_ireturn hx hb hr hlk rfl dX1_partnerOf_20
set_option maxHeartbeats 4000000 in
set_option maxRecDepth 100000 in
theorem met_X1_bondedKnights (l : Launch) {D : va_G} {cI cJ : ClassId} {M : MP} (po okk pt : Nat)  (pp : Nat → Int32) (w bk : BitVec 64) (wa : Bool) (b : Bool) (hpo : M po = some (.inr (1, [.ref okk, .ref pt, .long (bL w), .long (bL bk), .int (bI wa)]))) (hpt : M pt = some (eI cI 64 pp)) : RdL l yX1_bondedKnights cX1_bondedKnights 5 (some .long) 1 D cI cJ [.ref po, .int (bI b)] M (bL (kBnd pp w bk b)) := by
  refine rd_start (by decide) (Nat.le_of_ble_eq_true rfl) ?_
  intro p e s m args below meth c hx hb hr hml hown hts hlk hK hM ls hl
  have hl : lv_has ls 5 [(0, .ref po), (1, .int (bI b))] := hl
  refine lb_const hx hb 0#64 dX1_bondedKnights_0 rfl ?_
  refine lv_lstore_n (lv' := [(2, .long (bL (0#64))), (0, .ref po), (1, .int (bI b))]) hx hb dX1_bondedKnights_1 rfl hl (by decide) rfl (fun ls hl => ?_)
  refine lv_iconst (v := nI 0) hx hb dX1_bondedKnights_2 (by decide) ?_
  refine lv_istore (lv' := [(4, .int (nI 0)), (2, .long (bL (0#64))), (0, .ref po), (1, .int (bI b))]) hx hb dX1_bondedKnights_3 hl (by decide) rfl (fun ls hl => ?_)
  refine loopR (pcH := 5) (st := []) (ι := BitVec 64 × Nat) (fun ξ => [(4, .int (nI (ξ.2))), (2, .long (bL (ξ.1))), (0, .ref po), (1, .int (bI b))]) (fun n ξ => (ξ.2) + n = 64 ∧ kBnd pp w bk b = kFoldS (kBd1 pp) n (ξ.2) (ξ.1) &&& kSide w bk b) ?_ ?_ 64 (0#64, 0) (⟨by first | omega | (dsimp only <;> omega), rfl⟩) ls (lv_sub hl [0,1,2,3] rfl)
  · rintro ⟨r, i⟩ ⟨hin, hres⟩ ls hl
    try dsimp only at hl hin hres
    refine lv_iload hx hb dX1_bondedKnights_5 (lv_at hl 0 rfl) ?_
    refine lv_bipush (v := nI 64) hx hb dX1_bondedKnights_7 (by decide) ?_
    refine ni_ge (tgt := 37) hx hb i 64 (by omega) (by omega) dX1_bondedKnights_9 (by decide) (fun c_9 => ?_) (fun c_9 => ?_)
    · skip
      refine lv_lload_n hx hb dX1_bondedKnights_37 rfl (lv_at hl 1 rfl) ?_
      refine lv_aload_n hx hb dX1_bondedKnights_38 rfl (lv_at hl 2 rfl) ?_
      refine lv_iload_n hx hb dX1_bondedKnights_39 rfl (lv_at hl 3 rfl) ?_
      refine rd_goL (rd_runV (As := [.int (bI b)]) (rest := [.long (bL r)]) hx hb hml hown hts hK hM okV_RX1_45_X1_side (met_X1_side l po okk pt w bk wa b hpo) hpo rfl rfl rfl ⟨Nat.le_of_ble_eq_true rfl, Nat.le_of_ble_eq_true rfl⟩ hl.1 rfl (Nat.le_of_ble_eq_true rfl) dX1_bondedKnights_40 ⟨Nat.le_refl _, Nat.le_refl _⟩) ?_
      refine lb_and hx hb dX1_bondedKnights_43 ?_
      exact rd_lreturn hx hb hr hlk (by rw [hres]; simp [kFoldS, kBd1, bI_t, bI_f, c_9, Nat.not_lt.mpr c_9]) dX1_bondedKnights_44
    · skip
      exfalso; omega
  · rintro n ih ⟨r, i⟩ ⟨hin, hres⟩ ls hl
    try dsimp only at hl hin hres
    refine lv_iload hx hb dX1_bondedKnights_5 (lv_at hl 0 rfl) ?_
    refine lv_bipush (v := nI 64) hx hb dX1_bondedKnights_7 (by decide) ?_
    refine ni_ge (tgt := 37) hx hb i 64 (by omega) (by omega) dX1_bondedKnights_9 (by decide) (fun c_9 => ?_) (fun c_9 => ?_)
    · skip
      exfalso; omega
    · skip
      refine lv_aload_n hx hb dX1_bondedKnights_12 rfl (lv_at hl 2 rfl) ?_
      refine w_get (C := RX1) (T := TX1) (N := 5) (ci := 1) hx hb hts hown hK hM inX1 rfl 1 (by decide) qw_1_44 rfl hpo rfl dX1_bondedKnights_13 ?_
      refine lv_iload hx hb dX1_bondedKnights_16 (lv_at hl 0 rfl) ?_
      refine w_iald hx hb hK hM hpt i (by omega) (by decide) dX1_bondedKnights_18 ?_
      refine lv_iconst (v := (-1)) hx hb dX1_bondedKnights_19 (by decide) ?_
      refine lv_icmp_eq (tgt := 31) hx hb dX1_bondedKnights_20 (by decide) (fun c_20 => ?_) (fun c_20 => ?_)
      · skip
        refine ni_iinc (lv' := [(4, .int (nI (i + 1))), (2, .long (bL r)), (0, .ref po), (1, .int (bI b))]) hx hb i 1 dX1_bondedKnights_31 hl (k := 0) rfl (by decide) (by decide) rfl (fun ls hl => ?_)
        refine lv_goto (tgt := 5) hx hb dX1_bondedKnights_34 (by decide) ?_
        exact ih (r, i + 1) ⟨by first | omega | (dsimp only <;> omega), by rw [hres]; simp [kFoldS, kBd1, c_9, Nat.not_le.mpr c_9, Nat.le_of_lt c_9, c_20]⟩ ls (lv_sub hl [0,1,2,3] rfl)
      · skip
        refine lv_lload_n hx hb dX1_bondedKnights_23 rfl (lv_at hl 1 rfl) ?_
        refine lv_iload hx hb dX1_bondedKnights_24 (lv_at hl 0 rfl) ?_
        refine rd_goL (rd_runN (As := [.int (nI i)]) (rest := [.long (bL r)]) hx hb hml hown hts hK hM hK.2.1 okN_X3_bit (met_X3_bit l i (by omega)) rfl ⟨Nat.le_of_ble_eq_true rfl, Nat.le_of_ble_eq_true rfl⟩ hl.1 rfl (Nat.le_of_ble_eq_true rfl) dX1_bondedKnights_26 ⟨Nat.le_refl _, Nat.le_refl _⟩) ?_
        refine lb_or hx hb dX1_bondedKnights_29 ?_
        refine lv_lstore_n (lv' := [(2, .long (bL (r ||| (kB i)))), (4, .int (nI i)), (0, .ref po), (1, .int (bI b))]) hx hb dX1_bondedKnights_30 rfl hl (by decide) rfl (fun ls hl => ?_)
        refine ni_iinc (lv' := [(4, .int (nI (i + 1))), (2, .long (bL (r ||| (kB i)))), (0, .ref po), (1, .int (bI b))]) hx hb i 1 dX1_bondedKnights_31 hl (k := 1) rfl (by decide) (by decide) rfl (fun ls hl => ?_)
        refine lv_goto (tgt := 5) hx hb dX1_bondedKnights_34 (by decide) ?_
        exact ih (r ||| (kB i), i + 1) ⟨by first | omega | (dsimp only <;> omega), by rw [hres]; simp [kFoldS, kBd1, c_9, Nat.not_le.mpr c_9, Nat.le_of_lt c_9, c_20]⟩ ls (lv_sub hl [0,1,2,3] rfl)
set_option maxHeartbeats 4000000 in
set_option maxRecDepth 100000 in
theorem met_X1_hasRoomFor (l : Launch) {D : va_G} {cI cJ : ClassId} {M : MP} (po okk pt : Nat) (K : Nat → BitVec 64)  (w bk : BitVec 64) (wa : Bool) (j k : Nat) (b : Bool) (hpo : M po = some (.inr (1, [.ref okk, .ref pt, .long (bL w), .long (bL bk), .int (bI wa)]))) (hokk : M okk = some (eJ cJ 7 (fun ζ => bL (K ζ)))) (hj : j < 64) (hk1 : 1 ≤ k) (hk7 : k < 7) : RdI l yX1_hasRoomFor cX1_hasRoomFor 5 (some .boolean) 2 D cI cJ [.ref po, .int (nI j), .int (nI k), .int (bI b)] M (bI (kRoom K w bk j k b)) := by
  refine rd_start (by decide) (Nat.le_of_ble_eq_true rfl) ?_
  intro p e s m args below meth c hx hb hr hml hown hts hlk hK hM ls hl
  have hl : lv_has ls 5 [(0, .ref po), (1, .int (nI j)), (2, .int (nI k)), (3, .int (bI b))] := hl
  refine lv_aload_n hx hb dX1_hasRoomFor_0 rfl (lv_at hl 0 rfl) ?_
  refine rd_goL (rd_runV (As := []) (rest := []) hx hb hml hown hts hK hM okV_RX1_57_X1_occupied (met_X1_occupied l po okk pt w bk wa hpo) hpo rfl rfl rfl ⟨Nat.le_of_ble_eq_true rfl, Nat.le_of_ble_eq_true rfl⟩ hl.1 rfl (Nat.le_of_ble_eq_true rfl) dX1_hasRoomFor_1 ⟨Nat.le_refl _, Nat.le_refl _⟩) ?_
  refine lv_iload_n hx hb dX1_hasRoomFor_4 rfl (lv_at hl 1 rfl) ?_
  refine rd_goI (rd_runN (As := [.long (bL (w ||| bk)), .int (nI j)]) (rest := []) hx hb hml hown hts hK hM hK.2.2.2.2 okN_X3_has (met_X3_has l (w ||| bk) j (by omega)) rfl ⟨Nat.le_of_ble_eq_true rfl, Nat.le_of_ble_eq_true rfl⟩ hl.1 rfl (Nat.le_of_ble_eq_true rfl) dX1_hasRoomFor_5 ⟨Nat.le_refl _, Nat.le_refl _⟩) ?_
  refine zb_eq (tgt := 13) hx hb ((w ||| bk).getLsbD j) dX1_hasRoomFor_8 (by decide) (fun c_8 => ?_) (fun c_8 => ?_)
  · skip
    refine lv_iload_n hx hb dX1_hasRoomFor_13 rfl (lv_at hl 2 rfl) ?_
    refine lv_iconst (v := nI 1) hx hb dX1_hasRoomFor_14 (by decide) ?_
    refine ni_ne (tgt := 35) hx hb k 1 (by omega) (by omega) dX1_hasRoomFor_15 (by decide) (fun c_15 => ?_) (fun c_15 => ?_)
    · skip
      refine lv_iload_n hx hb dX1_hasRoomFor_35 rfl (lv_at hl 1 rfl) ?_
      refine lv_bipush (v := nI 8) hx hb dX1_hasRoomFor_36 (by decide) ?_
      refine ni_div hx hb j 8 (by omega) (by decide) (by decide) dX1_hasRoomFor_38 ?_
      refine lv_istore (lv' := [(4, .int (nI (j / 8))), (0, .ref po), (1, .int (nI j)), (2, .int (nI k)), (3, .int (bI b))]) hx hb dX1_hasRoomFor_39 hl (by decide) rfl (fun ls hl => ?_)
      refine lv_iload_n hx hb dX1_hasRoomFor_41 rfl (lv_at hl 3 rfl) ?_
      refine lv_bipush (v := nI 6) hx hb dX1_hasRoomFor_42 (by decide) ?_
      refine ni_ne (tgt := 59) hx hb k 6 (by omega) (by omega) dX1_hasRoomFor_44 (by decide) (fun c_44 => ?_) (fun c_44 => ?_)
      · skip
        refine lv_iconst (v := nI 1) hx hb dX1_hasRoomFor_59 (by decide) ?_
        refine lv_goto (tgt := 64) hx hb dX1_hasRoomFor_60 (by decide) ?_
        exact rd_zreturn hx hb hr hlk (by first | (simp [kRoom, bI_t, bI_f, c_8, c_15, c_44]; done) | exact bI_1 (by simp only [kRoom, c_8, c_15, c_44, Bool.and_eq_true, Bool.or_eq_true, decide_eq_true_eq, Bool.and_eq_false_iff, Bool.or_eq_false_iff, decide_eq_false_iff_not, Bool.not_eq_true, if_true, if_false]; omega)) dX1_hasRoomFor_64
      · skip
        refine lv_iload hx hb dX1_hasRoomFor_47 (lv_at hl 0 rfl) ?_
        refine n0_eq (tgt := 63) hx hb (j / 8) (by omega) dX1_hasRoomFor_49 (by decide) (fun c_49 => ?_) (fun c_49 => ?_)
        · skip
          refine lv_iconst (v := nI 0) hx hb dX1_hasRoomFor_63 (by decide) ?_
          exact rd_zreturn hx hb hr hlk (by first | (simp [kRoom, bI_t, bI_f, c_8, c_15, c_44, c_49]; done) | exact bI_f0 (by simp only [kRoom, c_8, c_15, c_44, c_49, Bool.and_eq_true, Bool.or_eq_true, decide_eq_true_eq, Bool.and_eq_false_iff, Bool.or_eq_false_iff, decide_eq_false_iff_not, Bool.not_eq_true, if_true, if_false]; omega)) dX1_hasRoomFor_64
        · skip
          refine lv_iload hx hb dX1_hasRoomFor_52 (lv_at hl 0 rfl) ?_
          refine lv_bipush (v := nI 7) hx hb dX1_hasRoomFor_54 (by decide) ?_
          refine ni_eq (tgt := 63) hx hb (j / 8) 7 (by omega) (by omega) dX1_hasRoomFor_56 (by decide) (fun c_56 => ?_) (fun c_56 => ?_)
          · skip
            refine lv_iconst (v := nI 0) hx hb dX1_hasRoomFor_63 (by decide) ?_
            exact rd_zreturn hx hb hr hlk (by first | (simp [kRoom, bI_t, bI_f, c_8, c_15, c_44, c_49, c_56]; done) | exact bI_f0 (by simp only [kRoom, c_8, c_15, c_44, c_49, c_56, Bool.and_eq_true, Bool.or_eq_true, decide_eq_true_eq, Bool.and_eq_false_iff, Bool.or_eq_false_iff, decide_eq_false_iff_not, Bool.not_eq_true, if_true, if_false]; omega)) dX1_hasRoomFor_64
          · skip
            refine lv_iconst (v := nI 1) hx hb dX1_hasRoomFor_59 (by decide) ?_
            refine lv_goto (tgt := 64) hx hb dX1_hasRoomFor_60 (by decide) ?_
            exact rd_zreturn hx hb hr hlk (by first | (simp [kRoom, bI_t, bI_f, c_8, c_15, c_44, c_49, c_56]; done) | exact bI_1 (by simp only [kRoom, c_8, c_15, c_44, c_49, c_56, Bool.and_eq_true, Bool.or_eq_true, decide_eq_true_eq, Bool.and_eq_false_iff, Bool.or_eq_false_iff, decide_eq_false_iff_not, Bool.not_eq_true, if_true, if_false]; omega)) dX1_hasRoomFor_64
    · skip
      refine lv_aload_n hx hb dX1_hasRoomFor_18 rfl (lv_at hl 0 rfl) ?_
      refine lv_iconst (v := nI 1) hx hb dX1_hasRoomFor_19 (by decide) ?_
      refine lv_iload_n hx hb dX1_hasRoomFor_20 rfl (lv_at hl 3 rfl) ?_
      refine rd_goL (rd_runV (As := [.int (nI 1), .int (bI b)]) (rest := []) hx hb hml hown hts hK hM okV_RX1_61_X1_piecesOfKind (met_X1_piecesOfKind l po okk pt K w bk wa 1 b hpo hokk (by omega) (by omega)) hpo rfl rfl rfl ⟨Nat.le_of_ble_eq_true rfl, Nat.le_of_ble_eq_true rfl⟩ hl.1 rfl (Nat.le_of_ble_eq_true rfl) dX1_hasRoomFor_21 ⟨Nat.le_refl _, Nat.le_refl _⟩) ?_
      refine lb_const hx hb 0#64 dX1_hasRoomFor_24 rfl ?_
      refine lb_cne (tgt := 33) hx hb dX1_hasRoomFor_25 dX1_hasRoomFor_26 (by decide) (fun c_26 => ?_) (fun c_26 => ?_)
      · skip
        refine lv_iconst (v := nI 0) hx hb dX1_hasRoomFor_33 (by decide) ?_
        exact rd_zreturn hx hb hr hlk (by first | (simp [kRoom, bI_t, bI_f, c_8, c_15, c_26]; done) | exact bI_f0 (by simp only [kRoom, c_8, c_15, c_26, Bool.and_eq_true, Bool.or_eq_true, decide_eq_true_eq, Bool.and_eq_false_iff, Bool.or_eq_false_iff, decide_eq_false_iff_not, Bool.not_eq_true, if_true, if_false]; omega)) dX1_hasRoomFor_34
      · skip
        refine lv_iconst (v := nI 1) hx hb dX1_hasRoomFor_29 (by decide) ?_
        refine lv_goto (tgt := 34) hx hb dX1_hasRoomFor_30 (by decide) ?_
        exact rd_zreturn hx hb hr hlk (by first | (simp [kRoom, bI_t, bI_f, c_8, c_15, c_26]; done) | exact bI_1 (by simp only [kRoom, c_8, c_15, c_26, Bool.and_eq_true, Bool.or_eq_true, decide_eq_true_eq, Bool.and_eq_false_iff, Bool.or_eq_false_iff, decide_eq_false_iff_not, Bool.not_eq_true, if_true, if_false]; omega)) dX1_hasRoomFor_34
  · skip
    refine lv_iconst (v := nI 0) hx hb dX1_hasRoomFor_11 (by decide) ?_
    exact rd_zreturn hx hb hr hlk (by first | (simp [kRoom, bI_t, bI_f, c_8]; done) | exact bI_f0 (by simp only [kRoom, c_8, Bool.and_eq_true, Bool.or_eq_true, decide_eq_true_eq, Bool.and_eq_false_iff, Bool.or_eq_false_iff, decide_eq_false_iff_not, Bool.not_eq_true, if_true, if_false]; omega)) dX1_hasRoomFor_12
set_option maxHeartbeats 4000000 in
set_option maxRecDepth 100000 in
theorem met_X1_attackersOn (l : Launch) {D : va_G} {cI cJ : ClassId} {M : MP} (po okk pt : Nat) (K : Nat → BitVec 64)  (w bk : BitVec 64) (wa : Bool) (t : BitVec 64) (b : Bool) (tk : BitVec 64) (hpo : M po = some (.inr (1, [.ref okk, .ref pt, .long (bL w), .long (bL bk), .int (bI wa)]))) (hokk : M okk = some (eJ cJ 7 (fun ζ => bL (K ζ)))) : RdL l yX1_attackersOn cX1_attackersOn 12 (some .long) 1 D cI cJ [.ref po, .long (bL t), .int (bI b), .long (bL tk)] M (bL (kAtt K w bk t b tk)) := by
  refine rd_start (by decide) (Nat.le_of_ble_eq_true rfl) ?_
  intro p e s m args below meth c hx hb hr hml hown hts hlk hK hM ls hl
  have hl : lv_has ls 12 [(0, .ref po), (1, .long (bL t)), (3, .int (bI b)), (4, .long (bL tk))] := hl
  refine lv_aload_n hx hb dX1_attackersOn_0 rfl (lv_at hl 0 rfl) ?_
  refine w_get (C := RX1) (T := TX1) (N := 5) (ci := 1) hx hb hts hown hK hM inX1 rfl 0 (by decide) qw_1_43 rfl hpo rfl dX1_attackersOn_1 ?_
  refine lv_iconst (v := nI 2) hx hb dX1_attackersOn_4 (by decide) ?_
  refine w_lald hx hb hK hM hokk 2 (by omega) (by decide) dX1_attackersOn_5 ?_
  refine lv_aload_n hx hb dX1_attackersOn_6 rfl (lv_at hl 0 rfl) ?_
  refine w_get (C := RX1) (T := TX1) (N := 5) (ci := 1) hx hb hts hown hK hM inX1 rfl 0 (by decide) qw_1_43 rfl hpo rfl dX1_attackersOn_7 ?_
  refine lv_iconst (v := nI 3) hx hb dX1_attackersOn_10 (by decide) ?_
  refine w_lald hx hb hK hM hokk 3 (by omega) (by decide) dX1_attackersOn_11 ?_
  refine lb_or hx hb dX1_attackersOn_12 ?_
  refine lv_lstore (lv' := [(6, .long (bL ((K 2) ||| (K 3)))), (0, .ref po), (1, .long (bL t)), (3, .int (bI b)), (4, .long (bL tk))]) hx hb dX1_attackersOn_13 hl (by decide) rfl (fun ls hl => ?_)
  refine lv_aload_n hx hb dX1_attackersOn_15 rfl (lv_at hl 1 rfl) ?_
  refine w_get (C := RX1) (T := TX1) (N := 5) (ci := 1) hx hb hts hown hK hM inX1 rfl 0 (by decide) qw_1_43 rfl hpo rfl dX1_attackersOn_16 ?_
  refine lv_iconst (v := nI 2) hx hb dX1_attackersOn_19 (by decide) ?_
  refine w_lald hx hb hK hM hokk 2 (by omega) (by decide) dX1_attackersOn_20 ?_
  refine lv_aload_n hx hb dX1_attackersOn_21 rfl (lv_at hl 1 rfl) ?_
  refine w_get (C := RX1) (T := TX1) (N := 5) (ci := 1) hx hb hts hown hK hM inX1 rfl 0 (by decide) qw_1_43 rfl hpo rfl dX1_attackersOn_22 ?_
  refine lv_iconst (v := nI 4) hx hb dX1_attackersOn_25 (by decide) ?_
  refine w_lald hx hb hK hM hokk 4 (by omega) (by decide) dX1_attackersOn_26 ?_
  refine lb_or hx hb dX1_attackersOn_27 ?_
  refine lv_lstore (lv' := [(8, .long (bL ((K 2) ||| (K 4)))), (6, .long (bL ((K 2) ||| (K 3)))), (0, .ref po), (1, .long (bL t)), (3, .int (bI b)), (4, .long (bL tk))]) hx hb dX1_attackersOn_28 hl (by decide) rfl (fun ls hl => ?_)
  refine lv_lload_n hx hb dX1_attackersOn_30 rfl (lv_at hl 3 rfl) ?_
  refine rd_goL (rd_runS (As := [.long (bL t)]) (rest := []) hx hb hml hown hts hK hM okS_RX1_93_X2_ofKing (met_X2_ofKing l t) rfl ⟨Nat.le_of_ble_eq_true rfl, Nat.le_of_ble_eq_true rfl⟩ hl.1 rfl (Nat.le_of_ble_eq_true rfl) dX1_attackersOn_31 ⟨Nat.le_refl _, Nat.le_refl _⟩) ?_
  refine lv_aload_n hx hb dX1_attackersOn_34 rfl (lv_at hl 2 rfl) ?_
  refine w_get (C := RX1) (T := TX1) (N := 5) (ci := 1) hx hb hts hown hK hM inX1 rfl 0 (by decide) qw_1_43 rfl hpo rfl dX1_attackersOn_35 ?_
  refine lv_iconst (v := nI 1) hx hb dX1_attackersOn_38 (by decide) ?_
  refine w_lald hx hb hK hM hokk 1 (by omega) (by decide) dX1_attackersOn_39 ?_
  refine lb_and hx hb dX1_attackersOn_40 ?_
  refine lv_lload_n hx hb dX1_attackersOn_41 rfl (lv_at hl 3 rfl) ?_
  refine rd_goL (rd_runS (As := [.long (bL t)]) (rest := [.long (bL ((kKi t) &&& (K 1)))]) hx hb hml hown hts hK hM okS_RX1_99_X2_ofKnight (met_X2_ofKnight l t) rfl ⟨Nat.le_of_ble_eq_true rfl, Nat.le_of_ble_eq_true rfl⟩ hl.1 rfl (Nat.le_of_ble_eq_true rfl) dX1_attackersOn_42 ⟨Nat.le_refl _, Nat.le_refl _⟩) ?_
  refine lv_aload_n hx hb dX1_attackersOn_45 rfl (lv_at hl 2 rfl) ?_
  refine w_get (C := RX1) (T := TX1) (N := 5) (ci := 1) hx hb hts hown hK hM inX1 rfl 0 (by decide) qw_1_43 rfl hpo rfl dX1_attackersOn_46 ?_
  refine lv_iconst (v := nI 5) hx hb dX1_attackersOn_49 (by decide) ?_
  refine w_lald hx hb hK hM hokk 5 (by omega) (by decide) dX1_attackersOn_50 ?_
  refine lb_and hx hb dX1_attackersOn_51 ?_
  refine lb_or hx hb dX1_attackersOn_52 ?_
  refine lv_lload_n hx hb dX1_attackersOn_53 rfl (lv_at hl 3 rfl) ?_
  refine lv_iload_n hx hb dX1_attackersOn_54 rfl (lv_at hl 4 rfl) ?_
  refine meet (ls := ls) (pcJ := 63) (st := [.int (bI (!b)), .long (bL t), .long (bL (((kKi t) &&& (K 1)) ||| ((kN t) &&& (K 5))))]) ?_ (fun hJ63 => ?_)
  · skip
    refine rd_goL (rd_runS (As := [.long (bL t), .int (bI (!b))]) (rest := [.long (bL (((kKi t) &&& (K 1)) ||| ((kN t) &&& (K 5))))]) hx hb hml hown hts hK hM okS_RX1_102_X2_ofPawn (met_X2_ofPawn l t (!b)) rfl ⟨Nat.le_of_ble_eq_true rfl, Nat.le_of_ble_eq_true rfl⟩ hl.1 rfl (Nat.le_of_ble_eq_true rfl) dX1_attackersOn_63 ⟨Nat.le_refl _, Nat.le_refl _⟩) ?_
    refine lv_aload_n hx hb dX1_attackersOn_66 rfl (lv_at hl 2 rfl) ?_
    refine w_get (C := RX1) (T := TX1) (N := 5) (ci := 1) hx hb hts hown hK hM inX1 rfl 0 (by decide) qw_1_43 rfl hpo rfl dX1_attackersOn_67 ?_
    refine lv_bipush (v := nI 6) hx hb dX1_attackersOn_70 (by decide) ?_
    refine w_lald hx hb hK hM hokk 6 (by omega) (by decide) dX1_attackersOn_72 ?_
    refine lb_and hx hb dX1_attackersOn_73 ?_
    refine lb_or hx hb dX1_attackersOn_74 ?_
    refine lv_lload_n hx hb dX1_attackersOn_75 rfl (lv_at hl 3 rfl) ?_
    refine lv_lload hx hb dX1_attackersOn_76 (lv_at hl 5 rfl) ?_
    refine rd_goL (rd_runS (As := [.long (bL t), .long (bL tk)]) (rest := [.long (bL ((((kKi t) &&& (K 1)) ||| ((kN t) &&& (K 5))) ||| ((kPa t (!b)) &&& (K 6))))]) hx hb hml hown hts hK hM okS_RX1_106_X2_ofRook (met_X2_ofRook l t tk) rfl ⟨Nat.le_of_ble_eq_true rfl, Nat.le_of_ble_eq_true rfl⟩ hl.1 rfl (Nat.le_of_ble_eq_true rfl) dX1_attackersOn_78 ⟨Nat.le_refl _, Nat.le_refl _⟩) ?_
    refine lv_lload hx hb dX1_attackersOn_81 (lv_at hl 1 rfl) ?_
    refine lb_and hx hb dX1_attackersOn_83 ?_
    refine lb_or hx hb dX1_attackersOn_84 ?_
    refine lv_lload_n hx hb dX1_attackersOn_85 rfl (lv_at hl 3 rfl) ?_
    refine lv_lload hx hb dX1_attackersOn_86 (lv_at hl 5 rfl) ?_
    refine rd_goL (rd_runS (As := [.long (bL t), .long (bL tk)]) (rest := [.long (bL (((((kKi t) &&& (K 1)) ||| ((kN t) &&& (K 5))) ||| ((kPa t (!b)) &&& (K 6))) ||| ((kRk t tk) &&& ((K 2) ||| (K 3)))))]) hx hb hml hown hts hK hM okS_RX1_110_X2_ofBishop (met_X2_ofBishop l t tk) rfl ⟨Nat.le_of_ble_eq_true rfl, Nat.le_of_ble_eq_true rfl⟩ hl.1 rfl (Nat.le_of_ble_eq_true rfl) dX1_attackersOn_88 ⟨Nat.le_refl _, Nat.le_refl _⟩) ?_
    refine lv_lload hx hb dX1_attackersOn_91 (lv_at hl 0 rfl) ?_
    refine lb_and hx hb dX1_attackersOn_93 ?_
    refine lb_or hx hb dX1_attackersOn_94 ?_
    refine lv_lstore (lv' := [(10, .long (bL ((((((kKi t) &&& (K 1)) ||| ((kN t) &&& (K 5))) ||| ((kPa t (!b)) &&& (K 6))) ||| ((kRk t tk) &&& ((K 2) ||| (K 3)))) ||| ((kBi t tk) &&& ((K 2) ||| (K 4)))))), (8, .long (bL ((K 2) ||| (K 4)))), (6, .long (bL ((K 2) ||| (K 3)))), (0, .ref po), (1, .long (bL t)), (3, .int (bI b)), (4, .long (bL tk))]) hx hb dX1_attackersOn_95 hl (by decide) rfl (fun ls hl => ?_)
    refine lv_lload hx hb dX1_attackersOn_97 (lv_at hl 0 rfl) ?_
    refine lv_aload_n hx hb dX1_attackersOn_99 rfl (lv_at hl 3 rfl) ?_
    refine lv_iload_n hx hb dX1_attackersOn_100 rfl (lv_at hl 5 rfl) ?_
    refine rd_goL (rd_runV (As := [.int (bI b)]) (rest := [.long (bL ((((((kKi t) &&& (K 1)) ||| ((kN t) &&& (K 5))) ||| ((kPa t (!b)) &&& (K 6))) ||| ((kRk t tk) &&& ((K 2) ||| (K 3)))) ||| ((kBi t tk) &&& ((K 2) ||| (K 4)))))]) hx hb hml hown hts hK hM okV_RX1_45_X1_side (met_X1_side l po okk pt w bk wa b hpo) hpo rfl rfl rfl ⟨Nat.le_of_ble_eq_true rfl, Nat.le_of_ble_eq_true rfl⟩ hl.1 rfl (Nat.le_of_ble_eq_true rfl) dX1_attackersOn_101 ⟨Nat.le_refl _, Nat.le_refl _⟩) ?_
    refine lb_and hx hb dX1_attackersOn_104 ?_
    exact rd_lreturn hx hb hr hlk rfl dX1_attackersOn_105
  · skip
    refine zb_ne (tgt := 62) hx hb b dX1_attackersOn_55 (by decide) (fun c_55 => ?_) (fun c_55 => ?_)
    · skip
      refine lv_iconst (v := nI 0) hx hb dX1_attackersOn_62 (by decide) ?_
      exact topi (bI (!b)) (by simp [c_55, bI_t, bI_f]) hJ63
    · skip
      refine lv_iconst (v := nI 1) hx hb dX1_attackersOn_58 (by decide) ?_
      refine lv_goto (tgt := 63) hx hb dX1_attackersOn_59 (by decide) ?_
      exact topi (bI (!b)) (by simp [c_55, bI_t, bI_f]) hJ63
set_option maxHeartbeats 4000000 in
set_option maxRecDepth 100000 in
theorem met_X1_attackedBy (l : Launch) {D : va_G} {cI cJ : ClassId} {M : MP} (po okk pt : Nat) (K : Nat → BitVec 64)  (w bk : BitVec 64) (wa : Bool) (b : Bool) (hpo : M po = some (.inr (1, [.ref okk, .ref pt, .long (bL w), .long (bL bk), .int (bI wa)]))) (hokk : M okk = some (eJ cJ 7 (fun ζ => bL (K ζ)))) : RdL l yX1_attackedBy cX1_attackedBy 5 (some .long) 2 D cI cJ [.ref po, .int (bI b)] M (bL (kAtd K w bk b)) := by
  refine rd_start (by decide) (Nat.le_of_ble_eq_true rfl) ?_
  intro p e s m args below meth c hx hb hr hml hown hts hlk hK hM ls hl
  have hl : lv_has ls 5 [(0, .ref po), (1, .int (bI b))] := hl
  refine lb_const hx hb 0#64 dX1_attackedBy_0 rfl ?_
  refine lv_lstore_n (lv' := [(2, .long (bL (0#64))), (0, .ref po), (1, .int (bI b))]) hx hb dX1_attackedBy_1 rfl hl (by decide) rfl (fun ls hl => ?_)
  refine lv_iconst (v := nI 1) hx hb dX1_attackedBy_2 (by decide) ?_
  refine lv_istore (lv' := [(4, .int (nI 1)), (2, .long (bL (0#64))), (0, .ref po), (1, .int (bI b))]) hx hb dX1_attackedBy_3 hl (by decide) rfl (fun ls hl => ?_)
  refine loopR (pcH := 5) (st := []) (ι := BitVec 64 × Nat) (fun ξ => [(4, .int (nI (ξ.2))), (2, .long (bL (ξ.1))), (0, .ref po), (1, .int (bI b))]) (fun n ξ => (ξ.2) + n = 7 ∧ kAtd K w bk b = kFoldS (kAtd1 K w bk b) n (ξ.2) (ξ.1)) ?_ ?_ 6 (0#64, 1) (⟨by first | omega | (dsimp only <;> omega), rfl⟩) ls (lv_sub hl [0,1,2,3] rfl)
  · rintro ⟨r, i⟩ ⟨hin, hres⟩ ls hl
    try dsimp only at hl hin hres
    refine lv_iload hx hb dX1_attackedBy_5 (lv_at hl 0 rfl) ?_
    refine lv_bipush (v := nI 7) hx hb dX1_attackedBy_7 (by decide) ?_
    refine ni_ge (tgt := 44) hx hb i 7 (by omega) (by omega) dX1_attackedBy_9 (by decide) (fun c_9 => ?_) (fun c_9 => ?_)
    · skip
      refine lv_lload_n hx hb dX1_attackedBy_44 rfl (lv_at hl 1 rfl) ?_
      exact rd_lreturn hx hb hr hlk (by rw [hres]; simp [kFoldS, kAtd1, bI_t, bI_f, c_9, Nat.not_lt.mpr c_9]) dX1_attackedBy_45
    · skip
      exfalso; omega
  · rintro n ih ⟨r, i⟩ ⟨hin, hres⟩ ls hl
    try dsimp only at hl hin hres
    refine lv_iload hx hb dX1_attackedBy_5 (lv_at hl 0 rfl) ?_
    refine lv_bipush (v := nI 7) hx hb dX1_attackedBy_7 (by decide) ?_
    refine ni_ge (tgt := 44) hx hb i 7 (by omega) (by omega) dX1_attackedBy_9 (by decide) (fun c_9 => ?_) (fun c_9 => ?_)
    · skip
      exfalso; omega
    · skip
      refine lv_lload_n hx hb dX1_attackedBy_12 rfl (lv_at hl 1 rfl) ?_
      refine lv_iload hx hb dX1_attackedBy_13 (lv_at hl 0 rfl) ?_
      refine lv_iload_n hx hb dX1_attackedBy_15 rfl (lv_at hl 3 rfl) ?_
      refine lv_aload_n hx hb dX1_attackedBy_16 rfl (lv_at hl 2 rfl) ?_
      refine w_get (C := RX1) (T := TX1) (N := 5) (ci := 1) hx hb hts hown hK hM inX1 rfl 0 (by decide) qw_1_43 rfl hpo rfl dX1_attackedBy_17 ?_
      refine lv_iload hx hb dX1_attackedBy_20 (lv_at hl 0 rfl) ?_
      refine w_lald hx hb hK hM hokk i (by omega) (by decide) dX1_attackedBy_22 ?_
      refine lv_aload_n hx hb dX1_attackedBy_23 rfl (lv_at hl 2 rfl) ?_
      refine lv_iload_n hx hb dX1_attackedBy_24 rfl (lv_at hl 3 rfl) ?_
      refine rd_goL (rd_runV (As := [.int (bI b)]) (rest := [.long (bL (K i)), .int (bI b), .int (nI i), .long (bL r)]) hx hb hml hown hts hK hM okV_RX1_45_X1_side (met_X1_side l po okk pt w bk wa b hpo) hpo rfl rfl rfl ⟨Nat.le_of_ble_eq_true rfl, Nat.le_of_ble_eq_true rfl⟩ hl.1 rfl (Nat.le_of_ble_eq_true rfl) dX1_attackedBy_25 ⟨Nat.le_refl _, Nat.le_refl _⟩) ?_
      refine lb_and hx hb dX1_attackedBy_28 ?_
      refine lv_aload_n hx hb dX1_attackedBy_29 rfl (lv_at hl 2 rfl) ?_
      refine rd_goL (rd_runV (As := []) (rest := [.long (bL ((K i) &&& (kSide w bk b))), .int (bI b), .int (nI i), .long (bL r)]) hx hb hml hown hts hK hM okV_RX1_57_X1_occupied (met_X1_occupied l po okk pt w bk wa hpo) hpo rfl rfl rfl ⟨Nat.le_of_ble_eq_true rfl, Nat.le_of_ble_eq_true rfl⟩ hl.1 rfl (Nat.le_of_ble_eq_true rfl) dX1_attackedBy_30 ⟨Nat.le_refl _, Nat.le_refl _⟩) ?_
      refine rd_goL (rd_runS (As := [.int (nI i), .int (bI b), .long (bL ((K i) &&& (kSide w bk b))), .long (bL (w ||| bk))]) (rest := [.long (bL r)]) hx hb hml hown hts hK hM okS_RX1_113_X2_of (met_X2_of l i b ((K i) &&& (kSide w bk b)) (w ||| bk) (by omega)) rfl ⟨Nat.le_of_ble_eq_true rfl, Nat.le_of_ble_eq_true rfl⟩ hl.1 rfl (Nat.le_of_ble_eq_true rfl) dX1_attackedBy_33 ⟨Nat.le_refl _, Nat.le_refl _⟩) ?_
      refine lb_or hx hb dX1_attackedBy_36 ?_
      refine lv_lstore_n (lv' := [(2, .long (bL (r ||| (kOf i b ((K i) &&& (kSide w bk b)) (w ||| bk))))), (4, .int (nI i)), (0, .ref po), (1, .int (bI b))]) hx hb dX1_attackedBy_37 rfl hl (by decide) rfl (fun ls hl => ?_)
      refine ni_iinc (lv' := [(4, .int (nI (i + 1))), (2, .long (bL (r ||| (kOf i b ((K i) &&& (kSide w bk b)) (w ||| bk))))), (0, .ref po), (1, .int (bI b))]) hx hb i 1 dX1_attackedBy_38 hl (k := 1) rfl (by decide) (by decide) rfl (fun ls hl => ?_)
      refine lv_goto (tgt := 5) hx hb dX1_attackedBy_41 (by decide) ?_
      exact ih (r ||| (kOf i b ((K i) &&& (kSide w bk b)) (w ||| bk)), i + 1) ⟨by first | omega | (dsimp only <;> omega), hres⟩ ls (lv_sub hl [0,1,2,3] rfl)
set_option maxHeartbeats 4000000 in
set_option maxRecDepth 100000 in
theorem met_X1_isChecked (l : Launch) {D : va_G} {cI cJ : ClassId} {M : MP} (po okk pt : Nat) (K : Nat → BitVec 64)  (w bk : BitVec 64) (wa : Bool) (b : Bool) (hpo : M po = some (.inr (1, [.ref okk, .ref pt, .long (bL w), .long (bL bk), .int (bI wa)]))) (hokk : M okk = some (eJ cJ 7 (fun ζ => bL (K ζ)))) : RdI l yX1_isChecked cX1_isChecked 2 (some .boolean) 2 D cI cJ [.ref po, .int (bI b)] M (bI (kChk K w bk b)) := by
  refine rd_start (by decide) (Nat.le_of_ble_eq_true rfl) ?_
  intro p e s m args below meth c hx hb hr hml hown hts hlk hK hM ls hl
  have hl : lv_has ls 2 [(0, .ref po), (1, .int (bI b))] := hl
  refine lv_aload_n hx hb dX1_isChecked_0 rfl (lv_at hl 0 rfl) ?_
  refine lv_aload_n hx hb dX1_isChecked_1 rfl (lv_at hl 0 rfl) ?_
  refine lv_iconst (v := nI 1) hx hb dX1_isChecked_2 (by decide) ?_
  refine lv_iload_n hx hb dX1_isChecked_3 rfl (lv_at hl 1 rfl) ?_
  refine rd_goL (rd_runV (As := [.int (nI 1), .int (bI b)]) (rest := [.ref po]) hx hb hml hown hts hK hM okV_RX1_61_X1_piecesOfKind (met_X1_piecesOfKind l po okk pt K w bk wa 1 b hpo hokk (by omega) (by omega)) hpo rfl rfl rfl ⟨Nat.le_of_ble_eq_true rfl, Nat.le_of_ble_eq_true rfl⟩ hl.1 rfl (Nat.le_of_ble_eq_true rfl) dX1_isChecked_4 ⟨Nat.le_refl _, Nat.le_refl _⟩) ?_
  refine lv_iload_n hx hb dX1_isChecked_7 rfl (lv_at hl 1 rfl) ?_
  refine meet (ls := ls) (pcJ := 16) (st := [.int (bI (!b)), .long (bL (K 1 &&& kSide w bk b)), .ref po]) ?_ (fun hJ16 => ?_)
  · skip
    refine lv_aload_n hx hb dX1_isChecked_16 rfl (lv_at hl 0 rfl) ?_
    refine rd_goL (rd_runV (As := []) (rest := [.int (bI (!b)), .long (bL (K 1 &&& kSide w bk b)), .ref po]) hx hb hml hown hts hK hM okV_RX1_57_X1_occupied (met_X1_occupied l po okk pt w bk wa hpo) hpo rfl rfl rfl ⟨Nat.le_of_ble_eq_true rfl, Nat.le_of_ble_eq_true rfl⟩ hl.1 rfl (Nat.le_of_ble_eq_true rfl) dX1_isChecked_17 ⟨Nat.le_refl _, Nat.le_refl _⟩) ?_
    refine rd_goL (rd_runV (As := [.long (bL (K 1 &&& kSide w bk b)), .int (bI (!b)), .long (bL (w ||| bk))]) (rest := []) hx hb hml hown hts hK hM okV_RX1_117_X1_attackersOn (met_X1_attackersOn l po okk pt K w bk wa (K 1 &&& kSide w bk b) (!b) (w ||| bk) hpo hokk) hpo rfl rfl rfl ⟨Nat.le_of_ble_eq_true rfl, Nat.le_of_ble_eq_true rfl⟩ hl.1 rfl (Nat.le_of_ble_eq_true rfl) dX1_isChecked_20 ⟨Nat.le_refl _, Nat.le_refl _⟩) ?_
    refine lb_const hx hb 0#64 dX1_isChecked_23 rfl ?_
    refine lb_ceq (tgt := 32) hx hb dX1_isChecked_24 dX1_isChecked_25 (by decide) (fun c_25 => ?_) (fun c_25 => ?_)
    · skip
      refine lv_iconst (v := nI 0) hx hb dX1_isChecked_32 (by decide) ?_
      exact rd_zreturn hx hb hr hlk (by first | exact bI_1 (by unfold kChk; rw [decide_eq_false c_25]; rfl) | exact bI_f0 (by unfold kChk; rw [decide_eq_true c_25]; rfl)) dX1_isChecked_33
    · skip
      refine lv_iconst (v := nI 1) hx hb dX1_isChecked_28 (by decide) ?_
      refine lv_goto (tgt := 33) hx hb dX1_isChecked_29 (by decide) ?_
      exact rd_zreturn hx hb hr hlk (by first | exact bI_1 (by unfold kChk; rw [decide_eq_false c_25]; rfl) | exact bI_f0 (by unfold kChk; rw [decide_eq_true c_25]; rfl)) dX1_isChecked_33
  · skip
    refine zb_ne (tgt := 15) hx hb b dX1_isChecked_8 (by decide) (fun c_8 => ?_) (fun c_8 => ?_)
    · skip
      refine lv_iconst (v := nI 0) hx hb dX1_isChecked_15 (by decide) ?_
      exact topi (bI (!b)) (by simp [c_8, bI_t, bI_f]) hJ16
    · skip
      refine lv_iconst (v := nI 1) hx hb dX1_isChecked_11 (by decide) ?_
      refine lv_goto (tgt := 16) hx hb dX1_isChecked_12 (by decide) ?_
      exact topi (bI (!b)) (by simp [c_8, bI_t, bI_f]) hJ16
set_option maxHeartbeats 4000000 in
set_option maxRecDepth 100000 in
theorem met_X1_canBegin (l : Launch) {D : va_G} {cI cJ : ClassId} {M : MP} (po okk pt : Nat) (K : Nat → BitVec 64)  (w bk : BitVec 64) (wa : Bool) (b : Bool) (hpo : M po = some (.inr (1, [.ref okk, .ref pt, .long (bL w), .long (bL bk), .int (bI wa)]))) (hokk : M okk = some (eJ cJ 7 (fun ζ => bL (K ζ)))) : RdI l yX1_canBegin cX1_canBegin 2 (some .boolean) 3 D cI cJ [.ref po, .int (bI b)] M (bI (kBeg K w bk b)) := by
  refine rd_start (by decide) (Nat.le_of_ble_eq_true rfl) ?_
  intro p e s m args below meth c hx hb hr hml hown hts hlk hK hM ls hl
  have hl : lv_has ls 2 [(0, .ref po), (1, .int (bI b))] := hl
  refine lv_aload_n hx hb dX1_canBegin_0 rfl (lv_at hl 0 rfl) ?_
  refine lv_iconst (v := nI 1) hx hb dX1_canBegin_1 (by decide) ?_
  refine lv_iconst (v := nI 1) hx hb dX1_canBegin_2 (by decide) ?_
  refine rd_goL (rd_runV (As := [.int (nI 1), .int (bI true)]) (rest := []) hx hb hml hown hts hK hM okV_RX1_61_X1_piecesOfKind (met_X1_piecesOfKind l po okk pt K w bk wa 1 true hpo hokk (by omega) (by omega)) hpo rfl rfl rfl ⟨Nat.le_of_ble_eq_true rfl, Nat.le_of_ble_eq_true rfl⟩ hl.1 rfl (Nat.le_of_ble_eq_true rfl) dX1_canBegin_3 ⟨Nat.le_refl _, Nat.le_refl _⟩) ?_
  refine lb_const hx hb 0#64 dX1_canBegin_6 rfl ?_
  refine lb_ceq (tgt := 42) hx hb dX1_canBegin_7 dX1_canBegin_8 (by decide) (fun c_8 => ?_) (fun c_8 => ?_)
  · skip
    refine lv_iconst (v := nI 0) hx hb dX1_canBegin_42 (by decide) ?_
    exact rd_zreturn hx hb hr hlk (by first | (simp [kBeg, bI_t, bI_f, c_8]; done) | exact bI_f0 (by simp only [kBeg, c_8, Bool.and_eq_true, Bool.or_eq_true, decide_eq_true_eq, Bool.and_eq_false_iff, Bool.or_eq_false_iff, decide_eq_false_iff_not, Bool.not_eq_true, if_true, if_false]; omega)) dX1_canBegin_43
  · skip
    refine lv_aload_n hx hb dX1_canBegin_11 rfl (lv_at hl 0 rfl) ?_
    refine lv_iconst (v := nI 1) hx hb dX1_canBegin_12 (by decide) ?_
    refine lv_iconst (v := nI 0) hx hb dX1_canBegin_13 (by decide) ?_
    refine rd_goL (rd_runV (As := [.int (nI 1), .int (bI false)]) (rest := []) hx hb hml hown hts hK hM okV_RX1_61_X1_piecesOfKind (met_X1_piecesOfKind l po okk pt K w bk wa 1 false hpo hokk (by omega) (by omega)) hpo rfl rfl rfl ⟨Nat.le_of_ble_eq_true rfl, Nat.le_of_ble_eq_true rfl⟩ hl.1 rfl (Nat.le_of_ble_eq_true rfl) dX1_canBegin_14 ⟨Nat.le_refl _, Nat.le_refl _⟩) ?_
    refine lb_const hx hb 0#64 dX1_canBegin_17 rfl ?_
    refine lb_ceq (tgt := 42) hx hb dX1_canBegin_18 dX1_canBegin_19 (by decide) (fun c_19 => ?_) (fun c_19 => ?_)
    · skip
      refine lv_iconst (v := nI 0) hx hb dX1_canBegin_42 (by decide) ?_
      exact rd_zreturn hx hb hr hlk (by first | (simp [kBeg, bI_t, bI_f, c_8, c_19]; done) | exact bI_f0 (by simp only [kBeg, c_8, c_19, Bool.and_eq_true, Bool.or_eq_true, decide_eq_true_eq, Bool.and_eq_false_iff, Bool.or_eq_false_iff, decide_eq_false_iff_not, Bool.not_eq_true, if_true, if_false]; omega)) dX1_canBegin_43
    · skip
      refine lv_aload_n hx hb dX1_canBegin_22 rfl (lv_at hl 0 rfl) ?_
      refine lv_iload_n hx hb dX1_canBegin_23 rfl (lv_at hl 1 rfl) ?_
      refine meet (ls := ls) (pcJ := 32) (st := [.int (bI (!b)), .ref po]) ?_ (fun hJ32 => ?_)
      · skip
        refine rd_goI (rd_runV (As := [.int (bI (!b))]) (rest := []) hx hb hml hown hts hK hM okV_RX1_65_X1_isChecked (met_X1_isChecked l po okk pt K w bk wa (!b) hpo hokk) hpo rfl rfl rfl ⟨Nat.le_of_ble_eq_true rfl, Nat.le_of_ble_eq_true rfl⟩ hl.1 rfl (Nat.le_of_ble_eq_true rfl) dX1_canBegin_32 ⟨Nat.le_refl _, Nat.le_refl _⟩) ?_
        refine zb_ne (tgt := 42) hx hb (kChk K w bk (!b)) dX1_canBegin_35 (by decide) (fun c_35 => ?_) (fun c_35 => ?_)
        · skip
          refine lv_iconst (v := nI 0) hx hb dX1_canBegin_42 (by decide) ?_
          exact rd_zreturn hx hb hr hlk (by first | (simp [kBeg, bI_t, bI_f, c_8, c_19, c_35]; done) | exact bI_f0 (by simp only [kBeg, c_8, c_19, c_35, Bool.and_eq_true, Bool.or_eq_true, decide_eq_true_eq, Bool.and_eq_false_iff, Bool.or_eq_false_iff, decide_eq_false_iff_not, Bool.not_eq_true, if_true, if_false]; omega)) dX1_canBegin_43
        · skip
          refine lv_iconst (v := nI 1) hx hb dX1_canBegin_38 (by decide) ?_
          refine lv_goto (tgt := 43) hx hb dX1_canBegin_39 (by decide) ?_
          exact rd_zreturn hx hb hr hlk (by first | (simp [kBeg, bI_t, bI_f, c_8, c_19, c_35]; done) | exact bI_1 (by simp only [kBeg, c_8, c_19, c_35, Bool.and_eq_true, Bool.or_eq_true, decide_eq_true_eq, Bool.and_eq_false_iff, Bool.or_eq_false_iff, decide_eq_false_iff_not, Bool.not_eq_true, if_true, if_false]; omega)) dX1_canBegin_43
      · skip
        refine zb_ne (tgt := 31) hx hb b dX1_canBegin_24 (by decide) (fun c_24 => ?_) (fun c_24 => ?_)
        · skip
          refine lv_iconst (v := nI 0) hx hb dX1_canBegin_31 (by decide) ?_
          exact topi (bI (!b)) (by simp [c_8, c_19, c_24, bI_t, bI_f]) hJ32
        · skip
          refine lv_iconst (v := nI 1) hx hb dX1_canBegin_27 (by decide) ?_
          refine lv_goto (tgt := 32) hx hb dX1_canBegin_28 (by decide) ?_
          exact topi (bI (!b)) (by simp [c_8, c_19, c_24, bI_t, bI_f]) hJ32
set_option maxHeartbeats 4000000 in
set_option maxRecDepth 100000 in
theorem met_X1_targetsFrom (l : Launch) {D : va_G} {cI cJ : ClassId} {M : MP} (po okk pt : Nat) (K : Nat → BitVec 64)  (w bk : BitVec 64) (wa : Bool) (j : Nat) (hpo : M po = some (.inr (1, [.ref okk, .ref pt, .long (bL w), .long (bL bk), .int (bI wa)]))) (hokk : M okk = some (eJ cJ 7 (fun ζ => bL (K ζ)))) (hj : j < 64) : RdL l yX1_targetsFrom cX1_targetsFrom 7 (some .long) 2 D cI cJ [.ref po, .int (nI j)] M (bL (kTgt K w bk wa j)) := by
  refine rd_start (by decide) (Nat.le_of_ble_eq_true rfl) ?_
  intro p e s m args below meth c hx hb hr hml hown hts hlk hK hM ls hl
  have hl : lv_has ls 7 [(0, .ref po), (1, .int (nI j))] := hl
  refine lv_aload_n hx hb dX1_targetsFrom_0 rfl (lv_at hl 0 rfl) ?_
  refine lv_iload_n hx hb dX1_targetsFrom_1 rfl (lv_at hl 1 rfl) ?_
  refine rd_goI (rd_runV (As := [.int (nI j)]) (rest := []) hx hb hml hown hts hK hM okV_RX1_75_X1_kindOn (met_X1_kindOn l po okk pt K w bk wa j hpo hokk (by omega)) hpo rfl rfl rfl ⟨Nat.le_of_ble_eq_true rfl, Nat.le_of_ble_eq_true rfl⟩ hl.1 rfl (Nat.le_of_ble_eq_true rfl) dX1_targetsFrom_2 ⟨Nat.le_refl _, Nat.le_refl _⟩) ?_
  have hf2_0 := kKind_lt K j
  refine lv_istore_n (lv' := [(2, .int (nI (kKind K j))), (0, .ref po), (1, .int (nI j))]) hx hb dX1_targetsFrom_5 rfl hl (by decide) rfl (fun ls hl => ?_)
  refine lv_iload_n hx hb dX1_targetsFrom_6 rfl (lv_at hl 0 rfl) ?_
  refine lv_aload_n hx hb dX1_targetsFrom_7 rfl (lv_at hl 1 rfl) ?_
  refine w_get (C := RX1) (T := TX1) (N := 5) (ci := 1) hx hb hts hown hK hM inX1 rfl 4 (by decide) qw_1_47 rfl hpo rfl dX1_targetsFrom_8 ?_
  refine lv_iload_n hx hb dX1_targetsFrom_11 rfl (lv_at hl 2 rfl) ?_
  refine rd_goL (rd_runN (As := [.int (nI j)]) (rest := [.int (bI wa), .int (nI (kKind K j))]) hx hb hml hown hts hK hM hK.2.1 okN_X3_bit (met_X3_bit l j (by omega)) rfl ⟨Nat.le_of_ble_eq_true rfl, Nat.le_of_ble_eq_true rfl⟩ hl.1 rfl (Nat.le_of_ble_eq_true rfl) dX1_targetsFrom_12 ⟨Nat.le_refl _, Nat.le_refl _⟩) ?_
  refine lv_aload_n hx hb dX1_targetsFrom_15 rfl (lv_at hl 1 rfl) ?_
  refine rd_goL (rd_runV (As := []) (rest := [.long (bL (kB j)), .int (bI wa), .int (nI (kKind K j))]) hx hb hml hown hts hK hM okV_RX1_57_X1_occupied (met_X1_occupied l po okk pt w bk wa hpo) hpo rfl rfl rfl ⟨Nat.le_of_ble_eq_true rfl, Nat.le_of_ble_eq_true rfl⟩ hl.1 rfl (Nat.le_of_ble_eq_true rfl) dX1_targetsFrom_16 ⟨Nat.le_refl _, Nat.le_refl _⟩) ?_
  refine rd_goL (rd_runS (As := [.int (nI (kKind K j)), .int (bI wa), .long (bL (kB j)), .long (bL (w ||| bk))]) (rest := []) hx hb hml hown hts hK hM okS_RX1_113_X2_of (met_X2_of l (kKind K j) wa (kB j) (w ||| bk) (by omega)) rfl ⟨Nat.le_of_ble_eq_true rfl, Nat.le_of_ble_eq_true rfl⟩ hl.1 rfl (Nat.le_of_ble_eq_true rfl) dX1_targetsFrom_19 ⟨Nat.le_refl _, Nat.le_refl _⟩) ?_
  refine lv_lstore_n (lv' := [(3, .long (bL (kOf (kKind K j) wa (kB j) (w ||| bk)))), (2, .int (nI (kKind K j))), (0, .ref po), (1, .int (nI j))]) hx hb dX1_targetsFrom_22 rfl hl (by decide) rfl (fun ls hl => ?_)
  refine lv_iload_n hx hb dX1_targetsFrom_23 rfl (lv_at hl 1 rfl) ?_
  refine lv_bipush (v := nI 6) hx hb dX1_targetsFrom_24 (by decide) ?_
  refine ni_eq (tgt := 40) hx hb (kKind K j) 6 (by omega) (by omega) dX1_targetsFrom_26 (by decide) (fun c_26 => ?_) (fun c_26 => ?_)
  · skip
    refine lv_aload_n hx hb dX1_targetsFrom_40 rfl (lv_at hl 2 rfl) ?_
    refine w_get (C := RX1) (T := TX1) (N := 5) (ci := 1) hx hb hts hown hK hM inX1 rfl 4 (by decide) qw_1_47 rfl hpo rfl dX1_targetsFrom_41 ?_
    refine meet (ls := ls) (pcJ := 64) (st := [.long (bL (kAhd wa j))]) ?_ (fun hJ64 => ?_)
    · skip
      refine lv_lstore (lv' := [(5, .long (bL (kAhd wa j))), (3, .long (bL (kOf (kKind K j) wa (kB j) (w ||| bk)))), (2, .int (nI (kKind K j))), (0, .ref po), (1, .int (nI j))]) hx hb dX1_targetsFrom_64 hl (by decide) rfl (fun ls hl => ?_)
      refine lv_lload_n hx hb dX1_targetsFrom_66 rfl (lv_at hl 1 rfl) ?_
      refine lv_aload_n hx hb dX1_targetsFrom_67 rfl (lv_at hl 3 rfl) ?_
      refine lv_aload_n hx hb dX1_targetsFrom_68 rfl (lv_at hl 3 rfl) ?_
      refine w_get (C := RX1) (T := TX1) (N := 5) (ci := 1) hx hb hts hown hK hM inX1 rfl 4 (by decide) qw_1_47 rfl hpo rfl dX1_targetsFrom_69 ?_
      refine meet (ls := ls) (pcJ := 80) (st := [.int (bI (!wa)), .ref po, .long (bL (kOf (kKind K j) wa (kB j) (w ||| bk)))]) ?_ (fun hJ80 => ?_)
      · skip
        refine rd_goL (rd_runV (As := [.int (bI (!wa))]) (rest := [.long (bL (kOf (kKind K j) wa (kB j) (w ||| bk)))]) hx hb hml hown hts hK hM okV_RX1_45_X1_side (met_X1_side l po okk pt w bk wa (!wa) hpo) hpo rfl rfl rfl ⟨Nat.le_of_ble_eq_true rfl, Nat.le_of_ble_eq_true rfl⟩ hl.1 rfl (Nat.le_of_ble_eq_true rfl) dX1_targetsFrom_80 ⟨Nat.le_refl _, Nat.le_refl _⟩) ?_
        refine lb_and hx hb dX1_targetsFrom_83 ?_
        refine lv_lload hx hb dX1_targetsFrom_84 (lv_at hl 0 rfl) ?_
        refine lv_aload_n hx hb dX1_targetsFrom_86 rfl (lv_at hl 3 rfl) ?_
        refine rd_goL (rd_runV (As := []) (rest := [.long (bL (kAhd wa j)), .long (bL ((kOf (kKind K j) wa (kB j) (w ||| bk)) &&& (kSide w bk (!wa))))]) hx hb hml hown hts hK hM okV_RX1_57_X1_occupied (met_X1_occupied l po okk pt w bk wa hpo) hpo rfl rfl rfl ⟨Nat.le_of_ble_eq_true rfl, Nat.le_of_ble_eq_true rfl⟩ hl.1 rfl (Nat.le_of_ble_eq_true rfl) dX1_targetsFrom_87 ⟨Nat.le_refl _, Nat.le_refl _⟩) ?_
        refine lv_ldc2 (v := bL 18446744073709551615#64) hx hb hown (hts _ qw_2_34) dX1_targetsFrom_90 ?_
        refine lb_xor hx hb dX1_targetsFrom_93 ?_
        refine lb_and hx hb dX1_targetsFrom_94 ?_
        refine lb_or hx hb dX1_targetsFrom_95 ?_
        exact rd_lreturn hx hb hr hlk (by unfold kTgt; rw [if_pos c_26]; rfl) dX1_targetsFrom_96
      · skip
        refine zb_ne (tgt := 79) hx hb wa dX1_targetsFrom_72 (by decide) (fun c_72 => ?_) (fun c_72 => ?_)
        · skip
          refine lv_iconst (v := nI 0) hx hb dX1_targetsFrom_79 (by decide) ?_
          exact topi (bI (!wa)) (by simp [c_26, c_72, bI_t, bI_f]) hJ80
        · skip
          refine lv_iconst (v := nI 1) hx hb dX1_targetsFrom_75 (by decide) ?_
          refine lv_goto (tgt := 80) hx hb dX1_targetsFrom_76 (by decide) ?_
          exact topi (bI (!wa)) (by simp [c_26, c_72, bI_t, bI_f]) hJ80
    · skip
      refine zb_eq (tgt := 57) hx hb wa dX1_targetsFrom_44 (by decide) (fun c_44 => ?_) (fun c_44 => ?_)
      · skip
        refine lv_iload_n hx hb dX1_targetsFrom_57 rfl (lv_at hl 3 rfl) ?_
        refine rd_goL (rd_runN (As := [.int (nI j)]) (rest := []) hx hb hml hown hts hK hM hK.2.1 okN_X3_bit (met_X3_bit l j (by omega)) rfl ⟨Nat.le_of_ble_eq_true rfl, Nat.le_of_ble_eq_true rfl⟩ hl.1 rfl (Nat.le_of_ble_eq_true rfl) dX1_targetsFrom_58 ⟨Nat.le_refl _, Nat.le_refl _⟩) ?_
        refine lv_bipush (v := nI 8) hx hb dX1_targetsFrom_61 (by decide) ?_
        refine lb_ushr hx hb 8 (by omega) dX1_targetsFrom_63 ?_
        exact topl (bL (kAhd wa j)) (by simp [kAhd, c_26, c_44]) hJ64
      · skip
        refine lv_iload_n hx hb dX1_targetsFrom_47 rfl (lv_at hl 3 rfl) ?_
        refine rd_goL (rd_runN (As := [.int (nI j)]) (rest := []) hx hb hml hown hts hK hM hK.2.1 okN_X3_bit (met_X3_bit l j (by omega)) rfl ⟨Nat.le_of_ble_eq_true rfl, Nat.le_of_ble_eq_true rfl⟩ hl.1 rfl (Nat.le_of_ble_eq_true rfl) dX1_targetsFrom_48 ⟨Nat.le_refl _, Nat.le_refl _⟩) ?_
        refine lv_bipush (v := nI 8) hx hb dX1_targetsFrom_51 (by decide) ?_
        refine lb_shl hx hb 8 (by omega) dX1_targetsFrom_53 ?_
        refine lv_goto (tgt := 64) hx hb dX1_targetsFrom_54 (by decide) ?_
        exact topl (bL (kAhd wa j)) (by simp [kAhd, c_26, c_44]) hJ64
  · skip
    refine lv_lload_n hx hb dX1_targetsFrom_29 rfl (lv_at hl 0 rfl) ?_
    refine lv_aload_n hx hb dX1_targetsFrom_30 rfl (lv_at hl 2 rfl) ?_
    refine rd_goL (rd_runV (As := []) (rest := [.long (bL (kOf (kKind K j) wa (kB j) (w ||| bk)))]) hx hb hml hown hts hK hM okV_RX1_121_X1_acting (met_X1_acting l po okk pt w bk wa hpo) hpo rfl rfl rfl ⟨Nat.le_of_ble_eq_true rfl, Nat.le_of_ble_eq_true rfl⟩ hl.1 rfl (Nat.le_of_ble_eq_true rfl) dX1_targetsFrom_31 ⟨Nat.le_refl _, Nat.le_refl _⟩) ?_
    refine lv_ldc2 (v := bL 18446744073709551615#64) hx hb hown (hts _ qw_2_34) dX1_targetsFrom_34 ?_
    refine lb_xor hx hb dX1_targetsFrom_37 ?_
    refine lb_and hx hb dX1_targetsFrom_38 ?_
    exact rd_lreturn hx hb hr hlk (by unfold kTgt; rw [if_neg c_26]; rfl) dX1_targetsFrom_39
set_option maxHeartbeats 4000000 in
set_option maxRecDepth 100000 in
theorem met_X1_bondRange (l : Launch) {D : va_G} {cI cJ : ClassId} {M : MP} (po okk pt : Nat)  (pp : Nat → Int32) (w bk : BitVec 64) (wa : Bool) (j : Nat) (hpo : M po = some (.inr (1, [.ref okk, .ref pt, .long (bL w), .long (bL bk), .int (bI wa)]))) (hpt : M pt = some (eI cI 64 pp)) (hj : j < 64) (hW : WfPt pp) : RdL l yX1_bondRange cX1_bondRange 3 (some .long) 2 D cI cJ [.ref po, .int (nI j)] M (bL (kRng pp j)) := by
  refine rd_start (by decide) (Nat.le_of_ble_eq_true rfl) ?_
  intro p e s m args below meth c hx hb hr hml hown hts hlk hK hM ls hl
  have hl : lv_has ls 3 [(0, .ref po), (1, .int (nI j))] := hl
  refine lv_aload_n hx hb dX1_bondRange_0 rfl (lv_at hl 0 rfl) ?_
  refine lv_iload_n hx hb dX1_bondRange_1 rfl (lv_at hl 1 rfl) ?_
  refine rd_goI (rd_runV (As := [.int (nI j)]) (rest := []) hx hb hml hown hts hK hM okV_RX1_71_X1_partnerOf (met_X1_partnerOf l po okk pt pp w bk wa j hpo hpt (by omega)) hpo rfl rfl rfl ⟨Nat.le_of_ble_eq_true rfl, Nat.le_of_ble_eq_true rfl⟩ hl.1 rfl (Nat.le_of_ble_eq_true rfl) dX1_bondRange_2 ⟨Nat.le_refl _, Nat.le_refl _⟩) ?_
  rcases hW j (by omega) with eo | ⟨o, ho, eo⟩
  · refine topi (-1) eo ?_
    refine lv_istore_n (lv' := [(2, .int (-1)), (0, .ref po), (1, .int (nI j))]) hx hb dX1_bondRange_5 rfl hl (by decide) rfl (fun ls hl => ?_)
    refine lv_iload_n hx hb dX1_bondRange_6 rfl (lv_at hl 0 rfl) ?_
    refine lv_iconst (v := (-1)) hx hb dX1_bondRange_7 (by decide) ?_
    refine mm_ne (tgt := 17) hx hb (-1) dX1_bondRange_8 (by decide) ?_
    refine lv_ldc2 (v := bL 18446744073709551615#64) hx hb hown (hts _ qw_2_34) dX1_bondRange_11 ?_
    refine lv_goto (tgt := 25) hx hb dX1_bondRange_14 (by decide) ?_
    exact rd_lreturn hx hb hr hlk (by unfold kRng; rw [if_pos eo]) dX1_bondRange_25
  · refine topi (nI o) eo ?_
    have hnego := nI_m1 ho
    have hclo := nI_cl ho
    refine lv_istore_n (lv' := [(2, .int (nI o)), (0, .ref po), (1, .int (nI j))]) hx hb dX1_bondRange_5 rfl hl (by decide) rfl (fun ls hl => ?_)
    refine lv_iload_n hx hb dX1_bondRange_6 rfl (lv_at hl 0 rfl) ?_
    refine lv_iconst (v := (-1)) hx hb dX1_bondRange_7 (by decide) ?_
    refine nm_ne (tgt := 17) hx hb o (by omega) dX1_bondRange_8 (by decide) ?_
    refine lv_iload_n hx hb dX1_bondRange_17 rfl (lv_at hl 0 rfl) ?_
    refine rd_goL (rd_runN (As := [.int (nI o)]) (rest := []) hx hb hml hown hts hK hM hK.2.1 okN_X3_bit (met_X3_bit l o (by omega)) rfl ⟨Nat.le_of_ble_eq_true rfl, Nat.le_of_ble_eq_true rfl⟩ hl.1 rfl (Nat.le_of_ble_eq_true rfl) dX1_bondRange_18 ⟨Nat.le_refl _, Nat.le_refl _⟩) ?_
    refine lv_iconst (v := nI 3) hx hb dX1_bondRange_21 (by decide) ?_
    refine rd_goL (rd_runS (As := [.long (bL (kB o)), .int (nI 3)]) (rest := []) hx hb hml hown hts hK hM okS_RX1_124_X2_withinHops (met_X2_withinHops l (kB o) 3 (by omega)) rfl ⟨Nat.le_of_ble_eq_true rfl, Nat.le_of_ble_eq_true rfl⟩ hl.1 rfl (Nat.le_of_ble_eq_true rfl) dX1_bondRange_22 ⟨Nat.le_refl _, Nat.le_refl _⟩) ?_
    exact rd_lreturn hx hb hr hlk (by unfold kRng; rw [if_neg (by rw [eo]; exact hnego), eo, hclo]) dX1_bondRange_25
set_option maxHeartbeats 4000000 in
set_option maxRecDepth 100000 in
theorem met_X1_keepsKingSafe (l : Launch) {D : va_G} {cI cJ : ClassId} {M : MP} (po okk pt : Nat) (K : Nat → BitVec 64)  (w bk : BitVec 64) (wa : Bool) (a b : Nat) (hpo : M po = some (.inr (1, [.ref okk, .ref pt, .long (bL w), .long (bL bk), .int (bI wa)]))) (hokk : M okk = some (eJ cJ 7 (fun ζ => bL (K ζ)))) (ha : a < 64) (hb2 : b < 64) : RdI l yX1_keepsKingSafe cX1_keepsKingSafe 7 (some .boolean) 2 D cI cJ [.ref po, .int (nI a), .int (nI b)] M (bI (kSafe K w bk wa a b)) := by
  refine rd_start (by decide) (Nat.le_of_ble_eq_true rfl) ?_
  intro p e s m args below meth c hx hb hr hml hown hts hlk hK hM ls hl
  have hl : lv_has ls 7 [(0, .ref po), (1, .int (nI a)), (2, .int (nI b))] := hl
  refine lv_aload_n hx hb dX1_keepsKingSafe_0 rfl (lv_at hl 0 rfl) ?_
  refine lv_iconst (v := nI 1) hx hb dX1_keepsKingSafe_1 (by decide) ?_
  refine lv_aload_n hx hb dX1_keepsKingSafe_2 rfl (lv_at hl 0 rfl) ?_
  refine w_get (C := RX1) (T := TX1) (N := 5) (ci := 1) hx hb hts hown hK hM inX1 rfl 4 (by decide) qw_1_47 rfl hpo rfl dX1_keepsKingSafe_3 ?_
  refine rd_goL (rd_runV (As := [.int (nI 1), .int (bI wa)]) (rest := []) hx hb hml hown hts hK hM okV_RX1_61_X1_piecesOfKind (met_X1_piecesOfKind l po okk pt K w bk wa 1 wa hpo hokk (by omega) (by omega)) hpo rfl rfl rfl ⟨Nat.le_of_ble_eq_true rfl, Nat.le_of_ble_eq_true rfl⟩ hl.1 rfl (Nat.le_of_ble_eq_true rfl) dX1_keepsKingSafe_6 ⟨Nat.le_refl _, Nat.le_refl _⟩) ?_
  refine lv_lstore_n (lv' := [(3, .long (bL (K 1 &&& kSide w bk wa))), (0, .ref po), (1, .int (nI a)), (2, .int (nI b))]) hx hb dX1_keepsKingSafe_9 rfl hl (by decide) rfl (fun ls hl => ?_)
  refine lv_lload_n hx hb dX1_keepsKingSafe_10 rfl (lv_at hl 0 rfl) ?_
  refine lv_iload_n hx hb dX1_keepsKingSafe_11 rfl (lv_at hl 2 rfl) ?_
  refine rd_goI (rd_runN (As := [.long (bL (K 1 &&& kSide w bk wa)), .int (nI a)]) (rest := []) hx hb hml hown hts hK hM hK.2.2.2.2 okN_X3_has (met_X3_has l (K 1 &&& kSide w bk wa) a (by omega)) rfl ⟨Nat.le_of_ble_eq_true rfl, Nat.le_of_ble_eq_true rfl⟩ hl.1 rfl (Nat.le_of_ble_eq_true rfl) dX1_keepsKingSafe_12 ⟨Nat.le_refl _, Nat.le_refl _⟩) ?_
  refine zb_eq (tgt := 23) hx hb ((K 1 &&& kSide w bk wa).getLsbD a) dX1_keepsKingSafe_15 (by decide) (fun c_15 => ?_) (fun c_15 => ?_)
  · skip
    refine lv_aload_n hx hb dX1_keepsKingSafe_23 rfl (lv_at hl 1 rfl) ?_
    refine rd_goL (rd_runV (As := []) (rest := []) hx hb hml hown hts hK hM okV_RX1_57_X1_occupied (met_X1_occupied l po okk pt w bk wa hpo) hpo rfl rfl rfl ⟨Nat.le_of_ble_eq_true rfl, Nat.le_of_ble_eq_true rfl⟩ hl.1 rfl (Nat.le_of_ble_eq_true rfl) dX1_keepsKingSafe_24 ⟨Nat.le_refl _, Nat.le_refl _⟩) ?_
    refine lv_iload_n hx hb dX1_keepsKingSafe_27 rfl (lv_at hl 2 rfl) ?_
    refine rd_goL (rd_runN (As := [.int (nI a)]) (rest := [.long (bL (w ||| bk))]) hx hb hml hown hts hK hM hK.2.1 okN_X3_bit (met_X3_bit l a (by omega)) rfl ⟨Nat.le_of_ble_eq_true rfl, Nat.le_of_ble_eq_true rfl⟩ hl.1 rfl (Nat.le_of_ble_eq_true rfl) dX1_keepsKingSafe_28 ⟨Nat.le_refl _, Nat.le_refl _⟩) ?_
    refine lv_ldc2 (v := bL 18446744073709551615#64) hx hb hown (hts _ qw_2_34) dX1_keepsKingSafe_31 ?_
    refine lb_xor hx hb dX1_keepsKingSafe_34 ?_
    refine lb_and hx hb dX1_keepsKingSafe_35 ?_
    refine lv_iload_n hx hb dX1_keepsKingSafe_36 rfl (lv_at hl 3 rfl) ?_
    refine rd_goL (rd_runN (As := [.int (nI b)]) (rest := [.long (bL ((w ||| bk) &&& ((kB a) ^^^ (18446744073709551615#64))))]) hx hb hml hown hts hK hM hK.2.1 okN_X3_bit (met_X3_bit l b (by omega)) rfl ⟨Nat.le_of_ble_eq_true rfl, Nat.le_of_ble_eq_true rfl⟩ hl.1 rfl (Nat.le_of_ble_eq_true rfl) dX1_keepsKingSafe_37 ⟨Nat.le_refl _, Nat.le_refl _⟩) ?_
    refine lb_or hx hb dX1_keepsKingSafe_40 ?_
    refine lv_lstore (lv' := [(5, .long (bL (((w ||| bk) &&& ((kB a) ^^^ (18446744073709551615#64))) ||| (kB b)))), (3, .long (bL (K 1 &&& kSide w bk wa))), (0, .ref po), (1, .int (nI a)), (2, .int (nI b))]) hx hb dX1_keepsKingSafe_41 hl (by decide) rfl (fun ls hl => ?_)
    refine lv_aload_n hx hb dX1_keepsKingSafe_43 rfl (lv_at hl 2 rfl) ?_
    refine lv_lload_n hx hb dX1_keepsKingSafe_44 rfl (lv_at hl 1 rfl) ?_
    refine lv_aload_n hx hb dX1_keepsKingSafe_45 rfl (lv_at hl 2 rfl) ?_
    refine w_get (C := RX1) (T := TX1) (N := 5) (ci := 1) hx hb hts hown hK hM inX1 rfl 4 (by decide) qw_1_47 rfl hpo rfl dX1_keepsKingSafe_46 ?_
    refine meet (ls := ls) (pcJ := 57) (st := [.int (bI (!wa)), .long (bL (K 1 &&& kSide w bk wa)), .ref po]) ?_ (fun hJ57 => ?_)
    · skip
      refine lv_lload hx hb dX1_keepsKingSafe_57 (lv_at hl 0 rfl) ?_
      refine rd_goL (rd_runV (As := [.long (bL (K 1 &&& kSide w bk wa)), .int (bI (!wa)), .long (bL (((w ||| bk) &&& ((kB a) ^^^ (18446744073709551615#64))) ||| (kB b)))]) (rest := []) hx hb hml hown hts hK hM okV_RX1_117_X1_attackersOn (met_X1_attackersOn l po okk pt K w bk wa (K 1 &&& kSide w bk wa) (!wa) (((w ||| bk) &&& ((kB a) ^^^ (18446744073709551615#64))) ||| (kB b)) hpo hokk) hpo rfl rfl rfl ⟨Nat.le_of_ble_eq_true rfl, Nat.le_of_ble_eq_true rfl⟩ hl.1 rfl (Nat.le_of_ble_eq_true rfl) dX1_keepsKingSafe_59 ⟨Nat.le_refl _, Nat.le_refl _⟩) ?_
      refine lv_iload_n hx hb dX1_keepsKingSafe_62 rfl (lv_at hl 4 rfl) ?_
      refine rd_goL (rd_runN (As := [.int (nI b)]) (rest := [.long (bL (kAtt K w bk (K 1 &&& kSide w bk wa) (!wa) (((w ||| bk) &&& ((kB a) ^^^ (18446744073709551615#64))) ||| (kB b))))]) hx hb hml hown hts hK hM hK.2.1 okN_X3_bit (met_X3_bit l b (by omega)) rfl ⟨Nat.le_of_ble_eq_true rfl, Nat.le_of_ble_eq_true rfl⟩ hl.1 rfl (Nat.le_of_ble_eq_true rfl) dX1_keepsKingSafe_63 ⟨Nat.le_refl _, Nat.le_refl _⟩) ?_
      refine lv_ldc2 (v := bL 18446744073709551615#64) hx hb hown (hts _ qw_2_34) dX1_keepsKingSafe_66 ?_
      refine lb_xor hx hb dX1_keepsKingSafe_69 ?_
      refine lb_and hx hb dX1_keepsKingSafe_70 ?_
      refine lb_const hx hb 0#64 dX1_keepsKingSafe_71 rfl ?_
      refine lb_cne (tgt := 80) hx hb dX1_keepsKingSafe_72 dX1_keepsKingSafe_73 (by decide) (fun c_73 => ?_) (fun c_73 => ?_)
      · skip
        refine lv_iconst (v := nI 0) hx hb dX1_keepsKingSafe_80 (by decide) ?_
        exact rd_zreturn hx hb hr hlk (by first | exact bI_1 (by unfold kSafe kKg; rw [c_15]; exact decide_eq_true c_73) | exact bI_f0 (by unfold kSafe kKg; rw [c_15]; exact decide_eq_false c_73)) dX1_keepsKingSafe_81
      · skip
        refine lv_iconst (v := nI 1) hx hb dX1_keepsKingSafe_76 (by decide) ?_
        refine lv_goto (tgt := 81) hx hb dX1_keepsKingSafe_77 (by decide) ?_
        exact rd_zreturn hx hb hr hlk (by first | exact bI_1 (by unfold kSafe kKg; rw [c_15]; exact decide_eq_true c_73) | exact bI_f0 (by unfold kSafe kKg; rw [c_15]; exact decide_eq_false c_73)) dX1_keepsKingSafe_81
    · skip
      refine zb_ne (tgt := 56) hx hb wa dX1_keepsKingSafe_49 (by decide) (fun c_49 => ?_) (fun c_49 => ?_)
      · skip
        refine lv_iconst (v := nI 0) hx hb dX1_keepsKingSafe_56 (by decide) ?_
        exact topi (bI (!wa)) (by simp [c_15, c_49, bI_t, bI_f]) hJ57
      · skip
        refine lv_iconst (v := nI 1) hx hb dX1_keepsKingSafe_52 (by decide) ?_
        refine lv_goto (tgt := 57) hx hb dX1_keepsKingSafe_53 (by decide) ?_
        exact topi (bI (!wa)) (by simp [c_15, c_49, bI_t, bI_f]) hJ57
  · skip
    refine lv_iload_n hx hb dX1_keepsKingSafe_18 rfl (lv_at hl 3 rfl) ?_
    refine rd_goL (rd_runN (As := [.int (nI b)]) (rest := []) hx hb hml hown hts hK hM hK.2.1 okN_X3_bit (met_X3_bit l b (by omega)) rfl ⟨Nat.le_of_ble_eq_true rfl, Nat.le_of_ble_eq_true rfl⟩ hl.1 rfl (Nat.le_of_ble_eq_true rfl) dX1_keepsKingSafe_19 ⟨Nat.le_refl _, Nat.le_refl _⟩) ?_
    refine lv_lstore_n (lv' := [(3, .long (bL (kB b))), (0, .ref po), (1, .int (nI a)), (2, .int (nI b))]) hx hb dX1_keepsKingSafe_22 rfl hl (by decide) rfl (fun ls hl => ?_)
    refine lv_aload_n hx hb dX1_keepsKingSafe_23 rfl (lv_at hl 1 rfl) ?_
    refine rd_goL (rd_runV (As := []) (rest := []) hx hb hml hown hts hK hM okV_RX1_57_X1_occupied (met_X1_occupied l po okk pt w bk wa hpo) hpo rfl rfl rfl ⟨Nat.le_of_ble_eq_true rfl, Nat.le_of_ble_eq_true rfl⟩ hl.1 rfl (Nat.le_of_ble_eq_true rfl) dX1_keepsKingSafe_24 ⟨Nat.le_refl _, Nat.le_refl _⟩) ?_
    refine lv_iload_n hx hb dX1_keepsKingSafe_27 rfl (lv_at hl 2 rfl) ?_
    refine rd_goL (rd_runN (As := [.int (nI a)]) (rest := [.long (bL (w ||| bk))]) hx hb hml hown hts hK hM hK.2.1 okN_X3_bit (met_X3_bit l a (by omega)) rfl ⟨Nat.le_of_ble_eq_true rfl, Nat.le_of_ble_eq_true rfl⟩ hl.1 rfl (Nat.le_of_ble_eq_true rfl) dX1_keepsKingSafe_28 ⟨Nat.le_refl _, Nat.le_refl _⟩) ?_
    refine lv_ldc2 (v := bL 18446744073709551615#64) hx hb hown (hts _ qw_2_34) dX1_keepsKingSafe_31 ?_
    refine lb_xor hx hb dX1_keepsKingSafe_34 ?_
    refine lb_and hx hb dX1_keepsKingSafe_35 ?_
    refine lv_iload_n hx hb dX1_keepsKingSafe_36 rfl (lv_at hl 3 rfl) ?_
    refine rd_goL (rd_runN (As := [.int (nI b)]) (rest := [.long (bL ((w ||| bk) &&& ((kB a) ^^^ (18446744073709551615#64))))]) hx hb hml hown hts hK hM hK.2.1 okN_X3_bit (met_X3_bit l b (by omega)) rfl ⟨Nat.le_of_ble_eq_true rfl, Nat.le_of_ble_eq_true rfl⟩ hl.1 rfl (Nat.le_of_ble_eq_true rfl) dX1_keepsKingSafe_37 ⟨Nat.le_refl _, Nat.le_refl _⟩) ?_
    refine lb_or hx hb dX1_keepsKingSafe_40 ?_
    refine lv_lstore (lv' := [(5, .long (bL (((w ||| bk) &&& ((kB a) ^^^ (18446744073709551615#64))) ||| (kB b)))), (3, .long (bL (kB b))), (0, .ref po), (1, .int (nI a)), (2, .int (nI b))]) hx hb dX1_keepsKingSafe_41 hl (by decide) rfl (fun ls hl => ?_)
    refine lv_aload_n hx hb dX1_keepsKingSafe_43 rfl (lv_at hl 2 rfl) ?_
    refine lv_lload_n hx hb dX1_keepsKingSafe_44 rfl (lv_at hl 1 rfl) ?_
    refine lv_aload_n hx hb dX1_keepsKingSafe_45 rfl (lv_at hl 2 rfl) ?_
    refine w_get (C := RX1) (T := TX1) (N := 5) (ci := 1) hx hb hts hown hK hM inX1 rfl 4 (by decide) qw_1_47 rfl hpo rfl dX1_keepsKingSafe_46 ?_
    refine meet (ls := ls) (pcJ := 57) (st := [.int (bI (!wa)), .long (bL (kB b)), .ref po]) ?_ (fun hJ57 => ?_)
    · skip
      refine lv_lload hx hb dX1_keepsKingSafe_57 (lv_at hl 0 rfl) ?_
      refine rd_goL (rd_runV (As := [.long (bL (kB b)), .int (bI (!wa)), .long (bL (((w ||| bk) &&& ((kB a) ^^^ (18446744073709551615#64))) ||| (kB b)))]) (rest := []) hx hb hml hown hts hK hM okV_RX1_117_X1_attackersOn (met_X1_attackersOn l po okk pt K w bk wa (kB b) (!wa) (((w ||| bk) &&& ((kB a) ^^^ (18446744073709551615#64))) ||| (kB b)) hpo hokk) hpo rfl rfl rfl ⟨Nat.le_of_ble_eq_true rfl, Nat.le_of_ble_eq_true rfl⟩ hl.1 rfl (Nat.le_of_ble_eq_true rfl) dX1_keepsKingSafe_59 ⟨Nat.le_refl _, Nat.le_refl _⟩) ?_
      refine lv_iload_n hx hb dX1_keepsKingSafe_62 rfl (lv_at hl 4 rfl) ?_
      refine rd_goL (rd_runN (As := [.int (nI b)]) (rest := [.long (bL (kAtt K w bk (kB b) (!wa) (((w ||| bk) &&& ((kB a) ^^^ (18446744073709551615#64))) ||| (kB b))))]) hx hb hml hown hts hK hM hK.2.1 okN_X3_bit (met_X3_bit l b (by omega)) rfl ⟨Nat.le_of_ble_eq_true rfl, Nat.le_of_ble_eq_true rfl⟩ hl.1 rfl (Nat.le_of_ble_eq_true rfl) dX1_keepsKingSafe_63 ⟨Nat.le_refl _, Nat.le_refl _⟩) ?_
      refine lv_ldc2 (v := bL 18446744073709551615#64) hx hb hown (hts _ qw_2_34) dX1_keepsKingSafe_66 ?_
      refine lb_xor hx hb dX1_keepsKingSafe_69 ?_
      refine lb_and hx hb dX1_keepsKingSafe_70 ?_
      refine lb_const hx hb 0#64 dX1_keepsKingSafe_71 rfl ?_
      refine lb_cne (tgt := 80) hx hb dX1_keepsKingSafe_72 dX1_keepsKingSafe_73 (by decide) (fun c_73 => ?_) (fun c_73 => ?_)
      · skip
        refine lv_iconst (v := nI 0) hx hb dX1_keepsKingSafe_80 (by decide) ?_
        exact rd_zreturn hx hb hr hlk (by first | exact bI_1 (by unfold kSafe kKg; rw [c_15]; exact decide_eq_true c_73) | exact bI_f0 (by unfold kSafe kKg; rw [c_15]; exact decide_eq_false c_73)) dX1_keepsKingSafe_81
      · skip
        refine lv_iconst (v := nI 1) hx hb dX1_keepsKingSafe_76 (by decide) ?_
        refine lv_goto (tgt := 81) hx hb dX1_keepsKingSafe_77 (by decide) ?_
        exact rd_zreturn hx hb hr hlk (by first | exact bI_1 (by unfold kSafe kKg; rw [c_15]; exact decide_eq_true c_73) | exact bI_f0 (by unfold kSafe kKg; rw [c_15]; exact decide_eq_false c_73)) dX1_keepsKingSafe_81
    · skip
      refine zb_ne (tgt := 56) hx hb wa dX1_keepsKingSafe_49 (by decide) (fun c_49 => ?_) (fun c_49 => ?_)
      · skip
        refine lv_iconst (v := nI 0) hx hb dX1_keepsKingSafe_56 (by decide) ?_
        exact topi (bI (!wa)) (by simp [c_15, c_49, bI_t, bI_f]) hJ57
      · skip
        refine lv_iconst (v := nI 1) hx hb dX1_keepsKingSafe_52 (by decide) ?_
        refine lv_goto (tgt := 57) hx hb dX1_keepsKingSafe_53 (by decide) ?_
        exact topi (bI (!wa)) (by simp [c_15, c_49, bI_t, bI_f]) hJ57
set_option maxHeartbeats 4000000 in
set_option maxRecDepth 100000 in
theorem met_X1_delicateSquares (l : Launch) {D : va_G} {cI cJ : ClassId} {M : MP} (po okk pt : Nat) (K : Nat → BitVec 64)  (w bk : BitVec 64) (wa : Bool) (hpo : M po = some (.inr (1, [.ref okk, .ref pt, .long (bL w), .long (bL bk), .int (bI wa)]))) (hokk : M okk = some (eJ cJ 7 (fun ζ => bL (K ζ)))) : RdL l yX1_delicateSquares cX1_delicateSquares 5 (some .long) 3 D cI cJ [.ref po] M (bL (kDel K w bk wa)) := by
  refine rd_start (by decide) (Nat.le_of_ble_eq_true rfl) ?_
  intro p e s m args below meth c hx hb hr hml hown hts hlk hK hM ls hl
  have hl : lv_has ls 5 [(0, .ref po)] := hl
  refine lv_aload_n hx hb dX1_delicateSquares_0 rfl (lv_at hl 0 rfl) ?_
  refine lv_iconst (v := nI 1) hx hb dX1_delicateSquares_1 (by decide) ?_
  refine lv_aload_n hx hb dX1_delicateSquares_2 rfl (lv_at hl 0 rfl) ?_
  refine w_get (C := RX1) (T := TX1) (N := 5) (ci := 1) hx hb hts hown hK hM inX1 rfl 4 (by decide) qw_1_47 rfl hpo rfl dX1_delicateSquares_3 ?_
  refine rd_goL (rd_runV (As := [.int (nI 1), .int (bI wa)]) (rest := []) hx hb hml hown hts hK hM okV_RX1_61_X1_piecesOfKind (met_X1_piecesOfKind l po okk pt K w bk wa 1 wa hpo hokk (by omega) (by omega)) hpo rfl rfl rfl ⟨Nat.le_of_ble_eq_true rfl, Nat.le_of_ble_eq_true rfl⟩ hl.1 rfl (Nat.le_of_ble_eq_true rfl) dX1_delicateSquares_6 ⟨Nat.le_refl _, Nat.le_refl _⟩) ?_
  refine lv_lstore_n (lv' := [(1, .long (bL (K 1 &&& kSide w bk wa))), (0, .ref po)]) hx hb dX1_delicateSquares_9 rfl hl (by decide) rfl (fun ls hl => ?_)
  refine lv_aload_n hx hb dX1_delicateSquares_10 rfl (lv_at hl 1 rfl) ?_
  refine lv_aload_n hx hb dX1_delicateSquares_11 rfl (lv_at hl 1 rfl) ?_
  refine w_get (C := RX1) (T := TX1) (N := 5) (ci := 1) hx hb hts hown hK hM inX1 rfl 4 (by decide) qw_1_47 rfl hpo rfl dX1_delicateSquares_12 ?_
  refine rd_goI (rd_runV (As := [.int (bI wa)]) (rest := []) hx hb hml hown hts hK hM okV_RX1_65_X1_isChecked (met_X1_isChecked l po okk pt K w bk wa wa hpo hokk) hpo rfl rfl rfl ⟨Nat.le_of_ble_eq_true rfl, Nat.le_of_ble_eq_true rfl⟩ hl.1 rfl (Nat.le_of_ble_eq_true rfl) dX1_delicateSquares_15 ⟨Nat.le_refl _, Nat.le_refl _⟩) ?_
  refine zb_eq (tgt := 26) hx hb (kChk K w bk wa) dX1_delicateSquares_18 (by decide) (fun c_18 => ?_) (fun c_18 => ?_)
  · skip
    refine lv_lload_n hx hb dX1_delicateSquares_26 rfl (lv_at hl 0 rfl) ?_
    refine lv_aload_n hx hb dX1_delicateSquares_27 rfl (lv_at hl 1 rfl) ?_
    refine rd_goL (rd_runV (As := []) (rest := [.long (bL (K 1 &&& kSide w bk wa))]) hx hb hml hown hts hK hM okV_RX1_57_X1_occupied (met_X1_occupied l po okk pt w bk wa hpo) hpo rfl rfl rfl ⟨Nat.le_of_ble_eq_true rfl, Nat.le_of_ble_eq_true rfl⟩ hl.1 rfl (Nat.le_of_ble_eq_true rfl) dX1_delicateSquares_28 ⟨Nat.le_refl _, Nat.le_refl _⟩) ?_
    refine rd_goL (rd_runS (As := [.long (bL (K 1 &&& kSide w bk wa)), .long (bL (w ||| bk))]) (rest := []) hx hb hml hown hts hK hM okS_RX1_106_X2_ofRook (met_X2_ofRook l (K 1 &&& kSide w bk wa) (w ||| bk)) rfl ⟨Nat.le_of_ble_eq_true rfl, Nat.le_of_ble_eq_true rfl⟩ hl.1 rfl (Nat.le_of_ble_eq_true rfl) dX1_delicateSquares_31 ⟨Nat.le_refl _, Nat.le_refl _⟩) ?_
    refine lv_lload_n hx hb dX1_delicateSquares_34 rfl (lv_at hl 0 rfl) ?_
    refine lv_aload_n hx hb dX1_delicateSquares_35 rfl (lv_at hl 1 rfl) ?_
    refine rd_goL (rd_runV (As := []) (rest := [.long (bL (K 1 &&& kSide w bk wa)), .long (bL (kRk (K 1 &&& kSide w bk wa) (w ||| bk)))]) hx hb hml hown hts hK hM okV_RX1_57_X1_occupied (met_X1_occupied l po okk pt w bk wa hpo) hpo rfl rfl rfl ⟨Nat.le_of_ble_eq_true rfl, Nat.le_of_ble_eq_true rfl⟩ hl.1 rfl (Nat.le_of_ble_eq_true rfl) dX1_delicateSquares_36 ⟨Nat.le_refl _, Nat.le_refl _⟩) ?_
    refine rd_goL (rd_runS (As := [.long (bL (K 1 &&& kSide w bk wa)), .long (bL (w ||| bk))]) (rest := [.long (bL (kRk (K 1 &&& kSide w bk wa) (w ||| bk)))]) hx hb hml hown hts hK hM okS_RX1_110_X2_ofBishop (met_X2_ofBishop l (K 1 &&& kSide w bk wa) (w ||| bk)) rfl ⟨Nat.le_of_ble_eq_true rfl, Nat.le_of_ble_eq_true rfl⟩ hl.1 rfl (Nat.le_of_ble_eq_true rfl) dX1_delicateSquares_39 ⟨Nat.le_refl _, Nat.le_refl _⟩) ?_
    refine lb_or hx hb dX1_delicateSquares_42 ?_
    refine lv_lstore_n (lv' := [(3, .long (bL ((kRk (K 1 &&& kSide w bk wa) (w ||| bk)) ||| (kBi (K 1 &&& kSide w bk wa) (w ||| bk))))), (1, .long (bL (K 1 &&& kSide w bk wa))), (0, .ref po)]) hx hb dX1_delicateSquares_43 rfl hl (by decide) rfl (fun ls hl => ?_)
    refine lv_lload_n hx hb dX1_delicateSquares_44 rfl (lv_at hl 1 rfl) ?_
    refine lv_lload_n hx hb dX1_delicateSquares_45 rfl (lv_at hl 0 rfl) ?_
    refine lb_or hx hb dX1_delicateSquares_46 ?_
    refine lv_aload_n hx hb dX1_delicateSquares_47 rfl (lv_at hl 2 rfl) ?_
    refine rd_goL (rd_runV (As := []) (rest := [.long (bL ((K 1 &&& kSide w bk wa) ||| ((kRk (K 1 &&& kSide w bk wa) (w ||| bk)) ||| (kBi (K 1 &&& kSide w bk wa) (w ||| bk)))))]) hx hb hml hown hts hK hM okV_RX1_121_X1_acting (met_X1_acting l po okk pt w bk wa hpo) hpo rfl rfl rfl ⟨Nat.le_of_ble_eq_true rfl, Nat.le_of_ble_eq_true rfl⟩ hl.1 rfl (Nat.le_of_ble_eq_true rfl) dX1_delicateSquares_48 ⟨Nat.le_refl _, Nat.le_refl _⟩) ?_
    refine lb_and hx hb dX1_delicateSquares_51 ?_
    exact rd_lreturn hx hb hr hlk (by unfold kDel; rw [c_18]; rfl) dX1_delicateSquares_52
  · skip
    refine lv_aload_n hx hb dX1_delicateSquares_21 rfl (lv_at hl 1 rfl) ?_
    refine rd_goL (rd_runV (As := []) (rest := []) hx hb hml hown hts hK hM okV_RX1_121_X1_acting (met_X1_acting l po okk pt w bk wa hpo) hpo rfl rfl rfl ⟨Nat.le_of_ble_eq_true rfl, Nat.le_of_ble_eq_true rfl⟩ hl.1 rfl (Nat.le_of_ble_eq_true rfl) dX1_delicateSquares_22 ⟨Nat.le_refl _, Nat.le_refl _⟩) ?_
    exact rd_lreturn hx hb hr hlk (by unfold kDel; rw [c_18]; rfl) dX1_delicateSquares_25
set_option maxHeartbeats 4000000 in
set_option maxRecDepth 100000 in
theorem met_X1_lawfulTargets (l : Launch) {D : va_G} {cI cJ : ClassId} {M : MP} (po okk pt : Nat) (K : Nat → BitVec 64) (pp : Nat → Int32) (w bk : BitVec 64) (wa : Bool) (j : Nat) (dl : BitVec 64) (hpo : M po = some (.inr (1, [.ref okk, .ref pt, .long (bL w), .long (bL bk), .int (bI wa)]))) (hokk : M okk = some (eJ cJ 7 (fun ζ => bL (K ζ)))) (hpt : M pt = some (eI cI 64 pp)) (hj : j < 64) (hW : WfPt pp) : RdL l yX1_lawfulTargets cX1_lawfulTargets 9 (some .long) 3 D cI cJ [.ref po, .int (nI j), .long (bL dl)] M (bL (kLaw K pp w bk wa j dl)) := by
  refine rd_start (by decide) (Nat.le_of_ble_eq_true rfl) ?_
  intro p e s m args below meth c hx hb hr hml hown hts hlk hK hM ls hl
  have hl : lv_has ls 9 [(0, .ref po), (1, .int (nI j)), (2, .long (bL dl))] := hl
  refine lv_aload_n hx hb dX1_lawfulTargets_0 rfl (lv_at hl 0 rfl) ?_
  refine lv_iload_n hx hb dX1_lawfulTargets_1 rfl (lv_at hl 1 rfl) ?_
  refine rd_goL (rd_runV (As := [.int (nI j)]) (rest := []) hx hb hml hown hts hK hM okV_RX1_128_X1_targetsFrom (met_X1_targetsFrom l po okk pt K w bk wa j hpo hokk (by omega)) hpo rfl rfl rfl ⟨Nat.le_of_ble_eq_true rfl, Nat.le_of_ble_eq_true rfl⟩ hl.1 rfl (Nat.le_of_ble_eq_true rfl) dX1_lawfulTargets_2 ⟨Nat.le_refl _, Nat.le_refl _⟩) ?_
  refine lv_aload_n hx hb dX1_lawfulTargets_5 rfl (lv_at hl 0 rfl) ?_
  refine lv_iload_n hx hb dX1_lawfulTargets_6 rfl (lv_at hl 1 rfl) ?_
  refine rd_goL (rd_runV (As := [.int (nI j)]) (rest := [.long (bL (kTgt K w bk wa j))]) hx hb hml hown hts hK hM okV_RX1_131_X1_bondRange (met_X1_bondRange l po okk pt pp w bk wa j hpo hpt (by omega) hW) hpo rfl rfl rfl ⟨Nat.le_of_ble_eq_true rfl, Nat.le_of_ble_eq_true rfl⟩ hl.1 rfl (Nat.le_of_ble_eq_true rfl) dX1_lawfulTargets_7 ⟨Nat.le_refl _, Nat.le_refl _⟩) ?_
  refine lb_and hx hb dX1_lawfulTargets_10 ?_
  refine lv_lstore (lv' := [(4, .long (bL ((kTgt K w bk wa j) &&& (kRng pp j)))), (0, .ref po), (1, .int (nI j)), (2, .long (bL dl))]) hx hb dX1_lawfulTargets_11 hl (by decide) rfl (fun ls hl => ?_)
  refine lv_lload_n hx hb dX1_lawfulTargets_13 rfl (lv_at hl 3 rfl) ?_
  refine lv_iload_n hx hb dX1_lawfulTargets_14 rfl (lv_at hl 2 rfl) ?_
  refine rd_goI (rd_runN (As := [.long (bL dl), .int (nI j)]) (rest := []) hx hb hml hown hts hK hM hK.2.2.2.2 okN_X3_has (met_X3_has l dl j (by omega)) rfl ⟨Nat.le_of_ble_eq_true rfl, Nat.le_of_ble_eq_true rfl⟩ hl.1 rfl (Nat.le_of_ble_eq_true rfl) dX1_lawfulTargets_15 ⟨Nat.le_refl _, Nat.le_refl _⟩) ?_
  refine zb_ne (tgt := 24) hx hb (dl.getLsbD j) dX1_lawfulTargets_18 (by decide) (fun c_18 => ?_) (fun c_18 => ?_)
  · skip
    refine lb_const hx hb 0#64 dX1_lawfulTargets_24 rfl ?_
    refine lv_lstore (lv' := [(6, .long (bL (0#64))), (4, .long (bL ((kTgt K w bk wa j) &&& (kRng pp j)))), (0, .ref po), (1, .int (nI j)), (2, .long (bL dl))]) hx hb dX1_lawfulTargets_25 hl (by decide) rfl (fun ls hl => ?_)
    refine lv_iconst (v := nI 0) hx hb dX1_lawfulTargets_27 (by decide) ?_
    refine lv_istore (lv' := [(8, .int (nI 0)), (6, .long (bL (0#64))), (4, .long (bL ((kTgt K w bk wa j) &&& (kRng pp j)))), (0, .ref po), (1, .int (nI j)), (2, .long (bL dl))]) hx hb dX1_lawfulTargets_28 hl (by decide) rfl (fun ls hl => ?_)
    refine loopR (pcH := 30) (st := []) (ι := BitVec 64 × Nat) (fun ξ => [(8, .int (nI (ξ.2))), (6, .long (bL (ξ.1))), (4, .long (bL ((kTgt K w bk wa j) &&& (kRng pp j)))), (0, .ref po), (1, .int (nI j)), (2, .long (bL dl))]) (fun n ξ => (ξ.2) + n = 64 ∧ kLaw K pp w bk wa j dl = kFoldS (kLaw1 K pp w bk wa j) n (ξ.2) (ξ.1)) ?_ ?_ 64 (0#64, 0) (⟨by omega, by unfold kLaw; rw [c_18]; rfl⟩) ls (lv_sub hl [0,1,2,3,4,5] rfl)
    · rintro ⟨r, i⟩ ⟨hin, hres⟩ ls hl
      try dsimp only at hl hin hres
      refine lv_iload hx hb dX1_lawfulTargets_30 (lv_at hl 0 rfl) ?_
      refine lv_bipush (v := nI 64) hx hb dX1_lawfulTargets_32 (by decide) ?_
      refine ni_ge (tgt := 73) hx hb i 64 (by omega) (by omega) dX1_lawfulTargets_34 (by decide) (fun c_34 => ?_) (fun c_34 => ?_)
      · skip
        refine lv_lload hx hb dX1_lawfulTargets_73 (lv_at hl 1 rfl) ?_
        exact rd_lreturn hx hb hr hlk (by rw [hres]; simp [-BitVec.getLsbD_eq_getElem, -BitVec.getLsbD_and, kFoldS, kLaw1, kTR, bI_t, bI_f, c_18, c_34, Nat.not_lt.mpr c_34]) dX1_lawfulTargets_75
      · skip
        exfalso; omega
    · rintro n ih ⟨r, i⟩ ⟨hin, hres⟩ ls hl
      try dsimp only at hl hin hres
      refine lv_iload hx hb dX1_lawfulTargets_30 (lv_at hl 0 rfl) ?_
      refine lv_bipush (v := nI 64) hx hb dX1_lawfulTargets_32 (by decide) ?_
      refine ni_ge (tgt := 73) hx hb i 64 (by omega) (by omega) dX1_lawfulTargets_34 (by decide) (fun c_34 => ?_) (fun c_34 => ?_)
      · skip
        exfalso; omega
      · skip
        refine lv_lload hx hb dX1_lawfulTargets_37 (lv_at hl 2 rfl) ?_
        refine lv_iload hx hb dX1_lawfulTargets_39 (lv_at hl 0 rfl) ?_
        refine rd_goI (rd_runN (As := [.long (bL ((kTgt K w bk wa j) &&& (kRng pp j))), .int (nI i)]) (rest := []) hx hb hml hown hts hK hM hK.2.2.2.2 okN_X3_has (met_X3_has l ((kTgt K w bk wa j) &&& (kRng pp j)) i (by omega)) rfl ⟨Nat.le_of_ble_eq_true rfl, Nat.le_of_ble_eq_true rfl⟩ hl.1 rfl (Nat.le_of_ble_eq_true rfl) dX1_lawfulTargets_41 ⟨Nat.le_refl _, Nat.le_refl _⟩) ?_
        refine zb_eq (tgt := 67) hx hb (((kTgt K w bk wa j) &&& (kRng pp j)).getLsbD i) dX1_lawfulTargets_44 (by decide) (fun c_44 => ?_) (fun c_44 => ?_)
        · skip
          refine ni_iinc (lv' := [(8, .int (nI (i + 1))), (6, .long (bL r)), (4, .long (bL ((kTgt K w bk wa j) &&& (kRng pp j)))), (0, .ref po), (1, .int (nI j)), (2, .long (bL dl))]) hx hb i 1 dX1_lawfulTargets_67 hl (k := 0) rfl (by decide) (by decide) rfl (fun ls hl => ?_)
          refine lv_goto (tgt := 30) hx hb dX1_lawfulTargets_70 (by decide) ?_
          exact ih (r, i + 1) ⟨by first | omega | (dsimp only <;> omega), by rw [hres]; simp [-BitVec.getLsbD_eq_getElem, -BitVec.getLsbD_and, kFoldS, kLaw1, kTR, c_18, c_34, Nat.not_le.mpr c_34, Nat.le_of_lt c_34, c_44]⟩ ls (lv_sub hl [0,1,2,3,4,5] rfl)
        · skip
          refine lv_aload_n hx hb dX1_lawfulTargets_47 rfl (lv_at hl 3 rfl) ?_
          refine lv_iload_n hx hb dX1_lawfulTargets_48 rfl (lv_at hl 4 rfl) ?_
          refine lv_iload hx hb dX1_lawfulTargets_49 (lv_at hl 0 rfl) ?_
          refine rd_goI (rd_runV (As := [.int (nI j), .int (nI i)]) (rest := []) hx hb hml hown hts hK hM okV_RX1_134_X1_keepsKingSafe (met_X1_keepsKingSafe l po okk pt K w bk wa j i hpo hokk (by omega) (by omega)) hpo rfl rfl rfl ⟨Nat.le_of_ble_eq_true rfl, Nat.le_of_ble_eq_true rfl⟩ hl.1 rfl (Nat.le_of_ble_eq_true rfl) dX1_lawfulTargets_51 ⟨Nat.le_refl _, Nat.le_refl _⟩) ?_
          refine zb_eq (tgt := 67) hx hb (kSafe K w bk wa j i) dX1_lawfulTargets_54 (by decide) (fun c_54 => ?_) (fun c_54 => ?_)
          · skip
            refine ni_iinc (lv' := [(8, .int (nI (i + 1))), (6, .long (bL r)), (4, .long (bL ((kTgt K w bk wa j) &&& (kRng pp j)))), (0, .ref po), (1, .int (nI j)), (2, .long (bL dl))]) hx hb i 1 dX1_lawfulTargets_67 hl (k := 0) rfl (by decide) (by decide) rfl (fun ls hl => ?_)
            refine lv_goto (tgt := 30) hx hb dX1_lawfulTargets_70 (by decide) ?_
            exact ih (r, i + 1) ⟨by first | omega | (dsimp only <;> omega), by rw [hres]; simp [-BitVec.getLsbD_eq_getElem, -BitVec.getLsbD_and, kFoldS, kLaw1, kTR, c_18, c_34, Nat.not_le.mpr c_34, Nat.le_of_lt c_34, c_44, c_54]⟩ ls (lv_sub hl [0,1,2,3,4,5] rfl)
          · skip
            refine lv_lload hx hb dX1_lawfulTargets_57 (lv_at hl 1 rfl) ?_
            refine lv_iload hx hb dX1_lawfulTargets_59 (lv_at hl 0 rfl) ?_
            refine rd_goL (rd_runN (As := [.int (nI i)]) (rest := [.long (bL r)]) hx hb hml hown hts hK hM hK.2.1 okN_X3_bit (met_X3_bit l i (by omega)) rfl ⟨Nat.le_of_ble_eq_true rfl, Nat.le_of_ble_eq_true rfl⟩ hl.1 rfl (Nat.le_of_ble_eq_true rfl) dX1_lawfulTargets_61 ⟨Nat.le_refl _, Nat.le_refl _⟩) ?_
            refine lb_or hx hb dX1_lawfulTargets_64 ?_
            refine lv_lstore (lv' := [(6, .long (bL (r ||| (kB i)))), (8, .int (nI i)), (4, .long (bL ((kTgt K w bk wa j) &&& (kRng pp j)))), (0, .ref po), (1, .int (nI j)), (2, .long (bL dl))]) hx hb dX1_lawfulTargets_65 hl (by decide) rfl (fun ls hl => ?_)
            refine ni_iinc (lv' := [(8, .int (nI (i + 1))), (6, .long (bL (r ||| (kB i)))), (4, .long (bL ((kTgt K w bk wa j) &&& (kRng pp j)))), (0, .ref po), (1, .int (nI j)), (2, .long (bL dl))]) hx hb i 1 dX1_lawfulTargets_67 hl (k := 1) rfl (by decide) (by decide) rfl (fun ls hl => ?_)
            refine lv_goto (tgt := 30) hx hb dX1_lawfulTargets_70 (by decide) ?_
            exact ih (r ||| (kB i), i + 1) ⟨by first | omega | (dsimp only <;> omega), by rw [hres]; simp [-BitVec.getLsbD_eq_getElem, -BitVec.getLsbD_and, kFoldS, kLaw1, kTR, c_18, c_34, Nat.not_le.mpr c_34, Nat.le_of_lt c_34, c_44, c_54]⟩ ls (lv_sub hl [0,1,2,3,4,5] rfl)
  · skip
    refine lv_lload hx hb dX1_lawfulTargets_21 (lv_at hl 0 rfl) ?_
    exact rd_lreturn hx hb hr hlk (by unfold kLaw; rw [c_18]; rfl) dX1_lawfulTargets_23
set_option maxHeartbeats 4000000 in
set_option maxRecDepth 100000 in
theorem met_X1_lawfulMoveCount (l : Launch) {D : va_G} {cI cJ : ClassId} {M : MP} (po okk pt : Nat) (K : Nat → BitVec 64) (pp : Nat → Int32) (w bk : BitVec 64) (wa : Bool) (hpo : M po = some (.inr (1, [.ref okk, .ref pt, .long (bL w), .long (bL bk), .int (bI wa)]))) (hokk : M okk = some (eJ cJ 7 (fun ζ => bL (K ζ)))) (hpt : M pt = some (eI cI 64 pp)) (hW : WfPt pp) : RdI l yX1_lawfulMoveCount cX1_lawfulMoveCount 5 (some .int) 4 D cI cJ [.ref po] M (nI (kCnt K pp w bk wa)) := by
  refine rd_start (by decide) (Nat.le_of_ble_eq_true rfl) ?_
  intro p e s m args below meth c hx hb hr hml hown hts hlk hK hM ls hl
  have hl : lv_has ls 5 [(0, .ref po)] := hl
  refine lv_aload_n hx hb dX1_lawfulMoveCount_0 rfl (lv_at hl 0 rfl) ?_
  refine rd_goL (rd_runV (As := []) (rest := []) hx hb hml hown hts hK hM okV_RX1_138_X1_delicateSquares (met_X1_delicateSquares l po okk pt K w bk wa hpo hokk) hpo rfl rfl rfl ⟨Nat.le_of_ble_eq_true rfl, Nat.le_of_ble_eq_true rfl⟩ hl.1 rfl (Nat.le_of_ble_eq_true rfl) dX1_lawfulMoveCount_1 ⟨Nat.le_refl _, Nat.le_refl _⟩) ?_
  refine lv_lstore_n (lv' := [(1, .long (bL (kDel K w bk wa))), (0, .ref po)]) hx hb dX1_lawfulMoveCount_4 rfl hl (by decide) rfl (fun ls hl => ?_)
  refine lv_iconst (v := nI 0) hx hb dX1_lawfulMoveCount_5 (by decide) ?_
  refine lv_istore_n (lv' := [(3, .int (nI 0)), (1, .long (bL (kDel K w bk wa))), (0, .ref po)]) hx hb dX1_lawfulMoveCount_6 rfl hl (by decide) rfl (fun ls hl => ?_)
  refine lv_iconst (v := nI 0) hx hb dX1_lawfulMoveCount_7 (by decide) ?_
  refine lv_istore (lv' := [(4, .int (nI 0)), (3, .int (nI 0)), (1, .long (bL (kDel K w bk wa))), (0, .ref po)]) hx hb dX1_lawfulMoveCount_8 hl (by decide) rfl (fun ls hl => ?_)
  refine loopR (pcH := 10) (st := []) (ι := Nat × Nat) (fun ξ => [(4, .int (nI (ξ.2))), (3, .int (nI (ξ.1))), (1, .long (bL (kDel K w bk wa))), (0, .ref po)]) (fun n ξ => (ξ.2) + n = 64 ∧ kCnt K pp w bk wa = mFoldL (kCnt1 K pp w bk wa) n (ξ.2) (ξ.1)) ?_ ?_ 64 (0, 0) (⟨by first | omega | (dsimp only <;> omega), rfl⟩) ls (lv_sub hl [0,1,2,3] rfl)
  · rintro ⟨r, i⟩ ⟨hin, hres⟩ ls hl
    try dsimp only at hl hin hres
    refine lv_iload hx hb dX1_lawfulMoveCount_10 (lv_at hl 0 rfl) ?_
    refine lv_bipush (v := nI 64) hx hb dX1_lawfulMoveCount_12 (by decide) ?_
    refine ni_ge (tgt := 48) hx hb i 64 (by omega) (by omega) dX1_lawfulMoveCount_14 (by decide) (fun c_14 => ?_) (fun c_14 => ?_)
    · skip
      refine lv_iload_n hx hb dX1_lawfulMoveCount_48 rfl (lv_at hl 1 rfl) ?_
      exact rd_ireturn hx hb hr hlk (by rw [hres]; simp [-BitVec.getLsbD_eq_getElem, -BitVec.getLsbD_and, mFoldL, kCnt1, bI_t, bI_f, c_14, Nat.not_lt.mpr c_14]) dX1_lawfulMoveCount_49
    · skip
      exfalso; omega
  · rintro n ih ⟨r, i⟩ ⟨hin, hres⟩ ls hl
    try dsimp only at hl hin hres
    refine lv_iload hx hb dX1_lawfulMoveCount_10 (lv_at hl 0 rfl) ?_
    refine lv_bipush (v := nI 64) hx hb dX1_lawfulMoveCount_12 (by decide) ?_
    refine ni_ge (tgt := 48) hx hb i 64 (by omega) (by omega) dX1_lawfulMoveCount_14 (by decide) (fun c_14 => ?_) (fun c_14 => ?_)
    · skip
      exfalso; omega
    · skip
      refine lv_aload_n hx hb dX1_lawfulMoveCount_17 rfl (lv_at hl 3 rfl) ?_
      refine rd_goL (rd_runV (As := []) (rest := []) hx hb hml hown hts hK hM okV_RX1_121_X1_acting (met_X1_acting l po okk pt w bk wa hpo) hpo rfl rfl rfl ⟨Nat.le_of_ble_eq_true rfl, Nat.le_of_ble_eq_true rfl⟩ hl.1 rfl (Nat.le_of_ble_eq_true rfl) dX1_lawfulMoveCount_18 ⟨Nat.le_refl _, Nat.le_refl _⟩) ?_
      refine lv_iload hx hb dX1_lawfulMoveCount_21 (lv_at hl 0 rfl) ?_
      refine rd_goI (rd_runN (As := [.long (bL (kSide w bk wa)), .int (nI i)]) (rest := []) hx hb hml hown hts hK hM hK.2.2.2.2 okN_X3_has (met_X3_has l (kSide w bk wa) i (by omega)) rfl ⟨Nat.le_of_ble_eq_true rfl, Nat.le_of_ble_eq_true rfl⟩ hl.1 rfl (Nat.le_of_ble_eq_true rfl) dX1_lawfulMoveCount_23 ⟨Nat.le_refl _, Nat.le_refl _⟩) ?_
      refine zb_eq (tgt := 42) hx hb ((kSide w bk wa).getLsbD i) dX1_lawfulMoveCount_26 (by decide) (fun c_26 => ?_) (fun c_26 => ?_)
      · skip
        refine ni_iinc (lv' := [(4, .int (nI (i + 1))), (3, .int (nI r)), (1, .long (bL (kDel K w bk wa))), (0, .ref po)]) hx hb i 1 dX1_lawfulMoveCount_42 hl (k := 0) rfl (by decide) (by decide) rfl (fun ls hl => ?_)
        refine lv_goto (tgt := 10) hx hb dX1_lawfulMoveCount_45 (by decide) ?_
        exact ih (r, i + 1) ⟨by first | omega | (dsimp only <;> omega), by rw [hres]; simp [-BitVec.getLsbD_eq_getElem, -BitVec.getLsbD_and, mFoldL, kCnt1, c_14, Nat.not_le.mpr c_14, Nat.le_of_lt c_14, c_26]⟩ ls (lv_sub hl [0,1,2,3] rfl)
      · skip
        refine lv_iload_n hx hb dX1_lawfulMoveCount_29 rfl (lv_at hl 1 rfl) ?_
        refine lv_aload_n hx hb dX1_lawfulMoveCount_30 rfl (lv_at hl 3 rfl) ?_
        refine lv_iload hx hb dX1_lawfulMoveCount_31 (lv_at hl 0 rfl) ?_
        refine lv_lload_n hx hb dX1_lawfulMoveCount_33 rfl (lv_at hl 2 rfl) ?_
        refine rd_goL (rd_runV (As := [.int (nI i), .long (bL (kDel K w bk wa))]) (rest := [.int (nI r)]) hx hb hml hown hts hK hM okV_RX1_141_X1_lawfulTargets (met_X1_lawfulTargets l po okk pt K pp w bk wa i (kDel K w bk wa) hpo hokk hpt (by omega) hW) hpo rfl rfl rfl ⟨Nat.le_of_ble_eq_true rfl, Nat.le_of_ble_eq_true rfl⟩ hl.1 rfl (Nat.le_of_ble_eq_true rfl) dX1_lawfulMoveCount_34 ⟨Nat.le_refl _, Nat.le_refl _⟩) ?_
        refine rd_goI (rd_runS (As := [.long (bL (kLaw K pp w bk wa i (kDel K w bk wa)))]) (rest := [.int (nI r)]) hx hb hml hown hts hK hM okS_RX1_145_J13_bitCount_95d88 (met_J13_bitCount_95d88 l (kLaw K pp w bk wa i (kDel K w bk wa))) rfl ⟨Nat.le_of_ble_eq_true rfl, Nat.le_of_ble_eq_true rfl⟩ hl.1 rfl (Nat.le_of_ble_eq_true rfl) dX1_lawfulMoveCount_37 ⟨Nat.le_refl _, Nat.le_refl _⟩) ?_
        have hf37_0 := pcnt_le (kLaw K pp w bk wa i (kDel K w bk wa))
        refine ni_add hx hb r (pcnt (kLaw K pp w bk wa i (kDel K w bk wa))) dX1_lawfulMoveCount_40 ?_
        refine lv_istore_n (lv' := [(3, .int (nI (r + (pcnt (kLaw K pp w bk wa i (kDel K w bk wa)))))), (4, .int (nI i)), (1, .long (bL (kDel K w bk wa))), (0, .ref po)]) hx hb dX1_lawfulMoveCount_41 rfl hl (by decide) rfl (fun ls hl => ?_)
        refine ni_iinc (lv' := [(4, .int (nI (i + 1))), (3, .int (nI (r + (pcnt (kLaw K pp w bk wa i (kDel K w bk wa)))))), (1, .long (bL (kDel K w bk wa))), (0, .ref po)]) hx hb i 1 dX1_lawfulMoveCount_42 hl (k := 1) rfl (by decide) (by decide) rfl (fun ls hl => ?_)
        refine lv_goto (tgt := 10) hx hb dX1_lawfulMoveCount_45 (by decide) ?_
        exact ih (r + (pcnt (kLaw K pp w bk wa i (kDel K w bk wa))), i + 1) ⟨by first | omega | (dsimp only <;> omega), by rw [hres]; simp [-BitVec.getLsbD_eq_getElem, -BitVec.getLsbD_and, mFoldL, kCnt1, c_14, Nat.not_le.mpr c_14, Nat.le_of_lt c_14, c_26]⟩ ls (lv_sub hl [0,1,2,3] rfl)
set_option maxHeartbeats 4000000 in
set_option maxRecDepth 100000 in
theorem met_X1_hasLawfulMove (l : Launch) {D : va_G} {cI cJ : ClassId} {M : MP} (po okk pt : Nat) (K : Nat → BitVec 64) (pp : Nat → Int32) (w bk : BitVec 64) (wa : Bool) (hpo : M po = some (.inr (1, [.ref okk, .ref pt, .long (bL w), .long (bL bk), .int (bI wa)]))) (hokk : M okk = some (eJ cJ 7 (fun ζ => bL (K ζ)))) (hpt : M pt = some (eI cI 64 pp)) (hW : WfPt pp) : RdI l yX1_hasLawfulMove cX1_hasLawfulMove 4 (some .boolean) 4 D cI cJ [.ref po] M (bI (kHas K pp w bk wa)) := by
  refine rd_start (by decide) (Nat.le_of_ble_eq_true rfl) ?_
  intro p e s m args below meth c hx hb hr hml hown hts hlk hK hM ls hl
  have hl : lv_has ls 4 [(0, .ref po)] := hl
  refine lv_aload_n hx hb dX1_hasLawfulMove_0 rfl (lv_at hl 0 rfl) ?_
  refine rd_goL (rd_runV (As := []) (rest := []) hx hb hml hown hts hK hM okV_RX1_138_X1_delicateSquares (met_X1_delicateSquares l po okk pt K w bk wa hpo hokk) hpo rfl rfl rfl ⟨Nat.le_of_ble_eq_true rfl, Nat.le_of_ble_eq_true rfl⟩ hl.1 rfl (Nat.le_of_ble_eq_true rfl) dX1_hasLawfulMove_1 ⟨Nat.le_refl _, Nat.le_refl _⟩) ?_
  refine lv_lstore_n (lv' := [(1, .long (bL (kDel K w bk wa))), (0, .ref po)]) hx hb dX1_hasLawfulMove_4 rfl hl (by decide) rfl (fun ls hl => ?_)
  refine lv_iconst (v := nI 0) hx hb dX1_hasLawfulMove_5 (by decide) ?_
  refine lv_istore_n (lv' := [(3, .int (nI 0)), (1, .long (bL (kDel K w bk wa))), (0, .ref po)]) hx hb dX1_hasLawfulMove_6 rfl hl (by decide) rfl (fun ls hl => ?_)
  refine loopR (pcH := 7) (st := []) (ι := Nat) (fun ξ => [(3, .int (nI (ξ))), (1, .long (bL (kDel K w bk wa))), (0, .ref po)]) (fun n ξ => (ξ) + n = 64 ∧ kHas K pp w bk wa = mAnyL (fun j => (kSide w bk wa).getLsbD j && !decide (kLaw K pp w bk wa j (kDel K w bk wa) = 0#64)) n (ξ)) ?_ ?_ 64 0 (⟨by first | omega | (dsimp only <;> omega), rfl⟩) ls (lv_sub hl [0,1,2] rfl)
  · rintro i ⟨hin, hres⟩ ls hl
    try dsimp only at hl hin hres
    refine lv_iload_n hx hb dX1_hasLawfulMove_7 rfl (lv_at hl 0 rfl) ?_
    refine lv_bipush (v := nI 64) hx hb dX1_hasLawfulMove_8 (by decide) ?_
    refine ni_ge (tgt := 43) hx hb i 64 (by omega) (by omega) dX1_hasLawfulMove_10 (by decide) (fun c_10 => ?_) (fun c_10 => ?_)
    · skip
      refine lv_iconst (v := nI 0) hx hb dX1_hasLawfulMove_43 (by decide) ?_
      exact rd_zreturn hx hb hr hlk (by rw [hres]; first | (simp [-BitVec.getLsbD_eq_getElem, -BitVec.getLsbD_and, mAnyL, bI_t, bI_f, c_10, Nat.not_lt.mpr c_10]; done) | exact bI_f0 (by simp only [-BitVec.getLsbD_eq_getElem, -BitVec.getLsbD_and, mAnyL, c_10, Nat.not_lt.mpr c_10, Bool.and_eq_true, Bool.or_eq_true, decide_eq_true_eq, Bool.and_eq_false_iff, Bool.or_eq_false_iff, decide_eq_false_iff_not, Bool.not_eq_true, if_true, if_false]; omega)) dX1_hasLawfulMove_44
    · skip
      exfalso; omega
  · rintro n ih i ⟨hin, hres⟩ ls hl
    try dsimp only at hl hin hres
    refine lv_iload_n hx hb dX1_hasLawfulMove_7 rfl (lv_at hl 0 rfl) ?_
    refine lv_bipush (v := nI 64) hx hb dX1_hasLawfulMove_8 (by decide) ?_
    refine ni_ge (tgt := 43) hx hb i 64 (by omega) (by omega) dX1_hasLawfulMove_10 (by decide) (fun c_10 => ?_) (fun c_10 => ?_)
    · skip
      exfalso; omega
    · skip
      refine lv_aload_n hx hb dX1_hasLawfulMove_13 rfl (lv_at hl 2 rfl) ?_
      refine rd_goL (rd_runV (As := []) (rest := []) hx hb hml hown hts hK hM okV_RX1_121_X1_acting (met_X1_acting l po okk pt w bk wa hpo) hpo rfl rfl rfl ⟨Nat.le_of_ble_eq_true rfl, Nat.le_of_ble_eq_true rfl⟩ hl.1 rfl (Nat.le_of_ble_eq_true rfl) dX1_hasLawfulMove_14 ⟨Nat.le_refl _, Nat.le_refl _⟩) ?_
      refine lv_iload_n hx hb dX1_hasLawfulMove_17 rfl (lv_at hl 0 rfl) ?_
      refine rd_goI (rd_runN (As := [.long (bL (kSide w bk wa)), .int (nI i)]) (rest := []) hx hb hml hown hts hK hM hK.2.2.2.2 okN_X3_has (met_X3_has l (kSide w bk wa) i (by omega)) rfl ⟨Nat.le_of_ble_eq_true rfl, Nat.le_of_ble_eq_true rfl⟩ hl.1 rfl (Nat.le_of_ble_eq_true rfl) dX1_hasLawfulMove_18 ⟨Nat.le_refl _, Nat.le_refl _⟩) ?_
      refine zb_eq (tgt := 37) hx hb ((kSide w bk wa).getLsbD i) dX1_hasLawfulMove_21 (by decide) (fun c_21 => ?_) (fun c_21 => ?_)
      · skip
        refine ni_iinc (lv' := [(3, .int (nI (i + 1))), (1, .long (bL (kDel K w bk wa))), (0, .ref po)]) hx hb i 1 dX1_hasLawfulMove_37 hl (k := 0) rfl (by decide) (by decide) rfl (fun ls hl => ?_)
        refine lv_goto (tgt := 7) hx hb dX1_hasLawfulMove_40 (by decide) ?_
        exact ih (i + 1) ⟨by first | omega | (dsimp only <;> omega), by rw [hres]; simp [-BitVec.getLsbD_eq_getElem, -BitVec.getLsbD_and, mAnyL, c_10, Nat.not_le.mpr c_10, Nat.le_of_lt c_10, c_21]⟩ ls (lv_sub hl [0,1,2] rfl)
      · skip
        refine lv_aload_n hx hb dX1_hasLawfulMove_24 rfl (lv_at hl 2 rfl) ?_
        refine lv_iload_n hx hb dX1_hasLawfulMove_25 rfl (lv_at hl 0 rfl) ?_
        refine lv_lload_n hx hb dX1_hasLawfulMove_26 rfl (lv_at hl 1 rfl) ?_
        refine rd_goL (rd_runV (As := [.int (nI i), .long (bL (kDel K w bk wa))]) (rest := []) hx hb hml hown hts hK hM okV_RX1_141_X1_lawfulTargets (met_X1_lawfulTargets l po okk pt K pp w bk wa i (kDel K w bk wa) hpo hokk hpt (by omega) hW) hpo rfl rfl rfl ⟨Nat.le_of_ble_eq_true rfl, Nat.le_of_ble_eq_true rfl⟩ hl.1 rfl (Nat.le_of_ble_eq_true rfl) dX1_hasLawfulMove_27 ⟨Nat.le_refl _, Nat.le_refl _⟩) ?_
        refine lb_const hx hb 0#64 dX1_hasLawfulMove_30 rfl ?_
        refine lb_ceq (tgt := 37) hx hb dX1_hasLawfulMove_31 dX1_hasLawfulMove_32 (by decide) (fun c_32 => ?_) (fun c_32 => ?_)
        · skip
          refine ni_iinc (lv' := [(3, .int (nI (i + 1))), (1, .long (bL (kDel K w bk wa))), (0, .ref po)]) hx hb i 1 dX1_hasLawfulMove_37 hl (k := 0) rfl (by decide) (by decide) rfl (fun ls hl => ?_)
          refine lv_goto (tgt := 7) hx hb dX1_hasLawfulMove_40 (by decide) ?_
          exact ih (i + 1) ⟨by first | omega | (dsimp only <;> omega), by rw [hres]; simp [-BitVec.getLsbD_eq_getElem, -BitVec.getLsbD_and, mAnyL, c_10, Nat.not_le.mpr c_10, Nat.le_of_lt c_10, c_21, c_32]⟩ ls (lv_sub hl [0,1,2] rfl)
        · skip
          refine lv_iconst (v := nI 1) hx hb dX1_hasLawfulMove_35 (by decide) ?_
          exact rd_zreturn hx hb hr hlk (by rw [hres]; first | (simp [-BitVec.getLsbD_eq_getElem, -BitVec.getLsbD_and, mAnyL, bI_t, bI_f, c_10, Nat.not_le.mpr c_10, Nat.le_of_lt c_10, c_21, c_32]; done) | exact bI_1 (by simp only [-BitVec.getLsbD_eq_getElem, -BitVec.getLsbD_and, mAnyL, c_10, Nat.not_le.mpr c_10, Nat.le_of_lt c_10, c_21, c_32, Bool.and_eq_true, Bool.or_eq_true, decide_eq_true_eq, Bool.and_eq_false_iff, Bool.or_eq_false_iff, decide_eq_false_iff_not, Bool.not_eq_true, if_true, if_false]; omega)) dX1_hasLawfulMove_36
set_option maxHeartbeats 4000000 in
set_option maxRecDepth 100000 in
theorem met_X1_hasBondAction (l : Launch) {D : va_G} {cI cJ : ClassId} {M : MP} (po okk pt : Nat) (K : Nat → BitVec 64) (pp : Nat → Int32) (w bk : BitVec 64) (wa : Bool) (hpo : M po = some (.inr (1, [.ref okk, .ref pt, .long (bL w), .long (bL bk), .int (bI wa)]))) (hokk : M okk = some (eJ cJ 7 (fun ζ => bL (K ζ)))) (hpt : M pt = some (eI cI 64 pp)) : RdI l yX1_hasBondAction cX1_hasBondAction 6 (some .boolean) 2 D cI cJ [.ref po] M (bI (kBAct K pp w bk wa)) := by
  refine rd_start (by decide) (Nat.le_of_ble_eq_true rfl) ?_
  intro p e s m args below meth c hx hb hr hml hown hts hlk hK hM ls hl
  have hl : lv_has ls 6 [(0, .ref po)] := hl
  refine lv_aload_n hx hb dX1_hasBondAction_0 rfl (lv_at hl 0 rfl) ?_
  refine lv_aload_n hx hb dX1_hasBondAction_1 rfl (lv_at hl 0 rfl) ?_
  refine w_get (C := RX1) (T := TX1) (N := 5) (ci := 1) hx hb hts hown hK hM inX1 rfl 4 (by decide) qw_1_47 rfl hpo rfl dX1_hasBondAction_2 ?_
  refine rd_goL (rd_runV (As := [.int (bI wa)]) (rest := []) hx hb hml hown hts hK hM okV_RX1_151_X1_bondedKnights (met_X1_bondedKnights l po okk pt pp w bk wa wa hpo hpt) hpo rfl rfl rfl ⟨Nat.le_of_ble_eq_true rfl, Nat.le_of_ble_eq_true rfl⟩ hl.1 rfl (Nat.le_of_ble_eq_true rfl) dX1_hasBondAction_5 ⟨Nat.le_refl _, Nat.le_refl _⟩) ?_
  refine lb_const hx hb 0#64 dX1_hasBondAction_8 rfl ?_
  refine lb_ceq (tgt := 15) hx hb dX1_hasBondAction_9 dX1_hasBondAction_10 (by decide) (fun c_10 => ?_) (fun c_10 => ?_)
  · skip
    refine lv_aload_n hx hb dX1_hasBondAction_15 rfl (lv_at hl 0 rfl) ?_
    refine lv_iconst (v := nI 5) hx hb dX1_hasBondAction_16 (by decide) ?_
    refine lv_aload_n hx hb dX1_hasBondAction_17 rfl (lv_at hl 0 rfl) ?_
    refine w_get (C := RX1) (T := TX1) (N := 5) (ci := 1) hx hb hts hown hK hM inX1 rfl 4 (by decide) qw_1_47 rfl hpo rfl dX1_hasBondAction_18 ?_
    refine rd_goL (rd_runV (As := [.int (nI 5), .int (bI wa)]) (rest := []) hx hb hml hown hts hK hM okV_RX1_61_X1_piecesOfKind (met_X1_piecesOfKind l po okk pt K w bk wa 5 wa hpo hokk (by omega) (by omega)) hpo rfl rfl rfl ⟨Nat.le_of_ble_eq_true rfl, Nat.le_of_ble_eq_true rfl⟩ hl.1 rfl (Nat.le_of_ble_eq_true rfl) dX1_hasBondAction_21 ⟨Nat.le_refl _, Nat.le_refl _⟩) ?_
    refine lv_lstore_n (lv' := [(1, .long (bL (K 5 &&& kSide w bk wa))), (0, .ref po)]) hx hb dX1_hasBondAction_24 rfl hl (by decide) rfl (fun ls hl => ?_)
    refine lv_iconst (v := nI 0) hx hb dX1_hasBondAction_25 (by decide) ?_
    refine lv_istore_n (lv' := [(3, .int (nI 0)), (1, .long (bL (K 5 &&& kSide w bk wa))), (0, .ref po)]) hx hb dX1_hasBondAction_26 rfl hl (by decide) rfl (fun ls hl => ?_)
    refine loopR (pcH := 27) (st := []) (ι := Nat) (fun ξ => [(3, .int (nI (ξ))), (1, .long (bL (K 5 &&& kSide w bk wa))), (0, .ref po)]) (fun n ξ => (ξ) + n = 64 ∧ kBAct K pp w bk wa = mAnyL (fun j => (K 5 &&& kSide w bk wa).getLsbD j && !decide (hopIt 3 (kB j) &&& ((K 5 &&& kSide w bk wa) &&& kNot (kB j)) = 0#64)) n (ξ)) ?_ ?_ 64 0 (⟨by omega, by unfold kBAct; rw [if_pos c_10]⟩) ls (lv_sub hl [0,1,2] rfl)
    · rintro i ⟨hin, hres⟩ ls hl
      try dsimp only at hl hin hres
      refine lv_iload_n hx hb dX1_hasBondAction_27 rfl (lv_at hl 0 rfl) ?_
      refine lv_bipush (v := nI 64) hx hb dX1_hasBondAction_28 (by decide) ?_
      refine ni_ge (tgt := 77) hx hb i 64 (by omega) (by omega) dX1_hasBondAction_30 (by decide) (fun c_30 => ?_) (fun c_30 => ?_)
      · skip
        refine lv_iconst (v := nI 0) hx hb dX1_hasBondAction_77 (by decide) ?_
        exact rd_zreturn hx hb hr hlk (by rw [hres]; first | (simp [-BitVec.getLsbD_eq_getElem, -BitVec.getLsbD_and, mAnyL, kNot, bI_t, bI_f, c_10, c_30, Nat.not_lt.mpr c_30]; done) | exact bI_f0 (by simp only [-BitVec.getLsbD_eq_getElem, -BitVec.getLsbD_and, mAnyL, kNot, c_10, c_30, Nat.not_lt.mpr c_30, Bool.and_eq_true, Bool.or_eq_true, decide_eq_true_eq, Bool.and_eq_false_iff, Bool.or_eq_false_iff, decide_eq_false_iff_not, Bool.not_eq_true, if_true, if_false]; omega)) dX1_hasBondAction_78
      · skip
        exfalso; omega
    · rintro n ih i ⟨hin, hres⟩ ls hl
      try dsimp only at hl hin hres
      refine lv_iload_n hx hb dX1_hasBondAction_27 rfl (lv_at hl 0 rfl) ?_
      refine lv_bipush (v := nI 64) hx hb dX1_hasBondAction_28 (by decide) ?_
      refine ni_ge (tgt := 77) hx hb i 64 (by omega) (by omega) dX1_hasBondAction_30 (by decide) (fun c_30 => ?_) (fun c_30 => ?_)
      · skip
        exfalso; omega
      · skip
        refine lv_lload_n hx hb dX1_hasBondAction_33 rfl (lv_at hl 1 rfl) ?_
        refine lv_iload_n hx hb dX1_hasBondAction_34 rfl (lv_at hl 0 rfl) ?_
        refine rd_goL (rd_runN (As := [.int (nI i)]) (rest := [.long (bL (K 5 &&& kSide w bk wa))]) hx hb hml hown hts hK hM hK.2.1 okN_X3_bit (met_X3_bit l i (by omega)) rfl ⟨Nat.le_of_ble_eq_true rfl, Nat.le_of_ble_eq_true rfl⟩ hl.1 rfl (Nat.le_of_ble_eq_true rfl) dX1_hasBondAction_35 ⟨Nat.le_refl _, Nat.le_refl _⟩) ?_
        refine lv_ldc2 (v := bL 18446744073709551615#64) hx hb hown (hts _ qw_2_34) dX1_hasBondAction_38 ?_
        refine lb_xor hx hb dX1_hasBondAction_41 ?_
        refine lb_and hx hb dX1_hasBondAction_42 ?_
        refine lv_lstore (lv' := [(4, .long (bL ((K 5 &&& kSide w bk wa) &&& ((kB i) ^^^ (18446744073709551615#64))))), (3, .int (nI i)), (1, .long (bL (K 5 &&& kSide w bk wa))), (0, .ref po)]) hx hb dX1_hasBondAction_43 hl (by decide) rfl (fun ls hl => ?_)
        refine lv_lload_n hx hb dX1_hasBondAction_45 rfl (lv_at hl 2 rfl) ?_
        refine lv_iload_n hx hb dX1_hasBondAction_46 rfl (lv_at hl 1 rfl) ?_
        refine rd_goI (rd_runN (As := [.long (bL (K 5 &&& kSide w bk wa)), .int (nI i)]) (rest := []) hx hb hml hown hts hK hM hK.2.2.2.2 okN_X3_has (met_X3_has l (K 5 &&& kSide w bk wa) i (by omega)) rfl ⟨Nat.le_of_ble_eq_true rfl, Nat.le_of_ble_eq_true rfl⟩ hl.1 rfl (Nat.le_of_ble_eq_true rfl) dX1_hasBondAction_47 ⟨Nat.le_refl _, Nat.le_refl _⟩) ?_
        refine zb_eq (tgt := 71) hx hb ((K 5 &&& kSide w bk wa).getLsbD i) dX1_hasBondAction_50 (by decide) (fun c_50 => ?_) (fun c_50 => ?_)
        · skip
          refine ni_iinc (lv' := [(3, .int (nI (i + 1))), (4, .long (bL ((K 5 &&& kSide w bk wa) &&& ((kB i) ^^^ (18446744073709551615#64))))), (1, .long (bL (K 5 &&& kSide w bk wa))), (0, .ref po)]) hx hb i 1 dX1_hasBondAction_71 hl (k := 1) rfl (by decide) (by decide) rfl (fun ls hl => ?_)
          refine lv_goto (tgt := 27) hx hb dX1_hasBondAction_74 (by decide) ?_
          exact ih (i + 1) ⟨by first | omega | (dsimp only <;> omega), by rw [hres]; simp [-BitVec.getLsbD_eq_getElem, -BitVec.getLsbD_and, mAnyL, kNot, c_10, c_30, Nat.not_le.mpr c_30, Nat.le_of_lt c_30, c_50]⟩ ls (lv_sub hl [0,2,3] rfl)
        · skip
          refine lv_iload_n hx hb dX1_hasBondAction_53 rfl (lv_at hl 1 rfl) ?_
          refine rd_goL (rd_runN (As := [.int (nI i)]) (rest := []) hx hb hml hown hts hK hM hK.2.1 okN_X3_bit (met_X3_bit l i (by omega)) rfl ⟨Nat.le_of_ble_eq_true rfl, Nat.le_of_ble_eq_true rfl⟩ hl.1 rfl (Nat.le_of_ble_eq_true rfl) dX1_hasBondAction_54 ⟨Nat.le_refl _, Nat.le_refl _⟩) ?_
          refine lv_iconst (v := nI 3) hx hb dX1_hasBondAction_57 (by decide) ?_
          refine rd_goL (rd_runS (As := [.long (bL (kB i)), .int (nI 3)]) (rest := []) hx hb hml hown hts hK hM okS_RX1_124_X2_withinHops (met_X2_withinHops l (kB i) 3 (by omega)) rfl ⟨Nat.le_of_ble_eq_true rfl, Nat.le_of_ble_eq_true rfl⟩ hl.1 rfl (Nat.le_of_ble_eq_true rfl) dX1_hasBondAction_58 ⟨Nat.le_refl _, Nat.le_refl _⟩) ?_
          refine lv_lload hx hb dX1_hasBondAction_61 (lv_at hl 0 rfl) ?_
          refine lb_and hx hb dX1_hasBondAction_63 ?_
          refine lb_const hx hb 0#64 dX1_hasBondAction_64 rfl ?_
          refine lb_ceq (tgt := 71) hx hb dX1_hasBondAction_65 dX1_hasBondAction_66 (by decide) (fun c_66 => ?_) (fun c_66 => ?_)
          · skip
            refine ni_iinc (lv' := [(3, .int (nI (i + 1))), (4, .long (bL ((K 5 &&& kSide w bk wa) &&& ((kB i) ^^^ (18446744073709551615#64))))), (1, .long (bL (K 5 &&& kSide w bk wa))), (0, .ref po)]) hx hb i 1 dX1_hasBondAction_71 hl (k := 1) rfl (by decide) (by decide) rfl (fun ls hl => ?_)
            refine lv_goto (tgt := 27) hx hb dX1_hasBondAction_74 (by decide) ?_
            exact ih (i + 1) ⟨by first | omega | (dsimp only <;> omega), by rw [hres]; simp [-BitVec.getLsbD_eq_getElem, -BitVec.getLsbD_and, mAnyL, kNot, c_10, c_30, Nat.not_le.mpr c_30, Nat.le_of_lt c_30, c_50, c_66]⟩ ls (lv_sub hl [0,2,3] rfl)
          · skip
            refine lv_iconst (v := nI 1) hx hb dX1_hasBondAction_69 (by decide) ?_
            exact rd_zreturn hx hb hr hlk (by rw [hres]; first | (simp [-BitVec.getLsbD_eq_getElem, -BitVec.getLsbD_and, mAnyL, kNot, bI_t, bI_f, c_10, c_30, Nat.not_le.mpr c_30, Nat.le_of_lt c_30, c_50, c_66]; done) | exact bI_1 (by simp only [-BitVec.getLsbD_eq_getElem, -BitVec.getLsbD_and, mAnyL, kNot, c_10, c_30, Nat.not_le.mpr c_30, Nat.le_of_lt c_30, c_50, c_66, Bool.and_eq_true, Bool.or_eq_true, decide_eq_true_eq, Bool.and_eq_false_iff, Bool.or_eq_false_iff, decide_eq_false_iff_not, Bool.not_eq_true, if_true, if_false]; omega)) dX1_hasBondAction_70
  · skip
    refine lv_iconst (v := nI 1) hx hb dX1_hasBondAction_13 (by decide) ?_
    exact rd_zreturn hx hb hr hlk (bI_1 (by unfold kBAct; rw [if_neg c_10])) dX1_hasBondAction_14
set_option maxHeartbeats 4000000 in
set_option maxRecDepth 100000 in
theorem met_X1_isMated (l : Launch) {D : va_G} {cI cJ : ClassId} {M : MP} (po okk pt : Nat) (K : Nat → BitVec 64) (pp : Nat → Int32) (w bk : BitVec 64) (wa : Bool) (hpo : M po = some (.inr (1, [.ref okk, .ref pt, .long (bL w), .long (bL bk), .int (bI wa)]))) (hokk : M okk = some (eJ cJ 7 (fun ζ => bL (K ζ)))) (hpt : M pt = some (eI cI 64 pp)) (hW : WfPt pp) : RdI l yX1_isMated cX1_isMated 1 (some .boolean) 5 D cI cJ [.ref po] M (bI (kMated K pp w bk wa)) := by
  refine rd_start (by decide) (Nat.le_of_ble_eq_true rfl) ?_
  intro p e s m args below meth c hx hb hr hml hown hts hlk hK hM ls hl
  have hl : lv_has ls 1 [(0, .ref po)] := hl
  refine lv_aload_n hx hb dX1_isMated_0 rfl (lv_at hl 0 rfl) ?_
  refine lv_aload_n hx hb dX1_isMated_1 rfl (lv_at hl 0 rfl) ?_
  refine w_get (C := RX1) (T := TX1) (N := 5) (ci := 1) hx hb hts hown hK hM inX1 rfl 4 (by decide) qw_1_47 rfl hpo rfl dX1_isMated_2 ?_
  refine rd_goI (rd_runV (As := [.int (bI wa)]) (rest := []) hx hb hml hown hts hK hM okV_RX1_65_X1_isChecked (met_X1_isChecked l po okk pt K w bk wa wa hpo hokk) hpo rfl rfl rfl ⟨Nat.le_of_ble_eq_true rfl, Nat.le_of_ble_eq_true rfl⟩ hl.1 rfl (Nat.le_of_ble_eq_true rfl) dX1_isMated_5 ⟨Nat.le_refl _, Nat.le_refl _⟩) ?_
  refine zb_eq (tgt := 22) hx hb (kChk K w bk wa) dX1_isMated_8 (by decide) (fun c_8 => ?_) (fun c_8 => ?_)
  · skip
    refine lv_iconst (v := nI 0) hx hb dX1_isMated_22 (by decide) ?_
    exact rd_zreturn hx hb hr hlk (by first | (simp [kMated, bI_t, bI_f, c_8]; done) | exact bI_f0 (by simp only [kMated, c_8, Bool.and_eq_true, Bool.or_eq_true, decide_eq_true_eq, Bool.and_eq_false_iff, Bool.or_eq_false_iff, decide_eq_false_iff_not, Bool.not_eq_true, if_true, if_false]; omega)) dX1_isMated_23
  · skip
    refine lv_aload_n hx hb dX1_isMated_11 rfl (lv_at hl 0 rfl) ?_
    refine rd_goI (rd_runV (As := []) (rest := []) hx hb hml hown hts hK hM okV_RX1_154_X1_hasLawfulMove (met_X1_hasLawfulMove l po okk pt K pp w bk wa hpo hokk hpt hW) hpo rfl rfl rfl ⟨Nat.le_of_ble_eq_true rfl, Nat.le_of_ble_eq_true rfl⟩ hl.1 rfl (Nat.le_of_ble_eq_true rfl) dX1_isMated_12 ⟨Nat.le_refl _, Nat.le_refl _⟩) ?_
    refine zb_ne (tgt := 22) hx hb (kHas K pp w bk wa) dX1_isMated_15 (by decide) (fun c_15 => ?_) (fun c_15 => ?_)
    · skip
      refine lv_iconst (v := nI 0) hx hb dX1_isMated_22 (by decide) ?_
      exact rd_zreturn hx hb hr hlk (by first | (simp [kMated, bI_t, bI_f, c_8, c_15]; done) | exact bI_f0 (by simp only [kMated, c_8, c_15, Bool.and_eq_true, Bool.or_eq_true, decide_eq_true_eq, Bool.and_eq_false_iff, Bool.or_eq_false_iff, decide_eq_false_iff_not, Bool.not_eq_true, if_true, if_false]; omega)) dX1_isMated_23
    · skip
      refine lv_iconst (v := nI 1) hx hb dX1_isMated_18 (by decide) ?_
      refine lv_goto (tgt := 23) hx hb dX1_isMated_19 (by decide) ?_
      exact rd_zreturn hx hb hr hlk (by first | (simp [kMated, bI_t, bI_f, c_8, c_15]; done) | exact bI_1 (by simp only [kMated, c_8, c_15, Bool.and_eq_true, Bool.or_eq_true, decide_eq_true_eq, Bool.and_eq_false_iff, Bool.or_eq_false_iff, decide_eq_false_iff_not, Bool.not_eq_true, if_true, if_false]; omega)) dX1_isMated_23
set_option maxHeartbeats 4000000 in
set_option maxRecDepth 100000 in
theorem met_X1_matches (l : Launch) {D : va_G} {cI cJ : ClassId} {M : MP} (po okk pt po2 okk2 pt2 : Nat) (K K2 : Nat → BitVec 64) (pp pp2 : Nat → Int32) (w bk w2 bk2 : BitVec 64) (wa wa2 : Bool) (hpo : M po = some (.inr (1, [.ref okk, .ref pt, .long (bL w), .long (bL bk), .int (bI wa)]))) (hokk : M okk = some (eJ cJ 7 (fun ζ => bL (K ζ)))) (hpt : M pt = some (eI cI 64 pp)) (hpo2 : M po2 = some (.inr (1, [.ref okk2, .ref pt2, .long (bL w2), .long (bL bk2), .int (bI wa2)]))) (hokk2 : M okk2 = some (eJ cJ 7 (fun ζ => bL (K2 ζ)))) (hpt2 : M pt2 = some (eI cI 64 pp2)) : RdI l yX1_matches cX1_matches 3 (some .boolean) 0 D cI cJ [.ref po, .ref po2] M (bI (kEq K K2 pp pp2 w bk w2 bk2 wa wa2)) := by
  refine rd_start (by decide) (Nat.le_of_ble_eq_true rfl) ?_
  intro p e s m args below meth c hx hb hr hml hown hts hlk hK hM ls hl
  have hl : lv_has ls 3 [(0, .ref po), (1, .ref po2)] := hl
  refine lv_aload_n hx hb dX1_matches_0 rfl (lv_at hl 0 rfl) ?_
  refine w_get (C := RX1) (T := TX1) (N := 5) (ci := 1) hx hb hts hown hK hM inX1 rfl 2 (by decide) qw_1_45 rfl hpo rfl dX1_matches_1 ?_
  refine lv_aload_n hx hb dX1_matches_4 rfl (lv_at hl 1 rfl) ?_
  refine w_get (C := RX1) (T := TX1) (N := 5) (ci := 1) hx hb hts hown hK hM inX1 rfl 2 (by decide) qw_1_45 rfl hpo2 rfl dX1_matches_5 ?_
  refine lb_cne (tgt := 35) hx hb dX1_matches_8 dX1_matches_9 (by decide) (fun c_9 => ?_) (fun c_9 => ?_)
  · skip
    refine lv_iconst (v := nI 0) hx hb dX1_matches_35 (by decide) ?_
    exact rd_zreturn hx hb hr hlk (by first | (simp [kEq, bI_t, bI_f, c_9]; done) | exact bI_f0 (by simp only [kEq, c_9, Bool.and_eq_true, Bool.or_eq_true, decide_eq_true_eq, Bool.and_eq_false_iff, Bool.or_eq_false_iff, decide_eq_false_iff_not, Bool.not_eq_true, if_true, if_false]; omega)) dX1_matches_36
  · skip
    refine lv_aload_n hx hb dX1_matches_12 rfl (lv_at hl 0 rfl) ?_
    refine w_get (C := RX1) (T := TX1) (N := 5) (ci := 1) hx hb hts hown hK hM inX1 rfl 3 (by decide) qw_1_46 rfl hpo rfl dX1_matches_13 ?_
    refine lv_aload_n hx hb dX1_matches_16 rfl (lv_at hl 1 rfl) ?_
    refine w_get (C := RX1) (T := TX1) (N := 5) (ci := 1) hx hb hts hown hK hM inX1 rfl 3 (by decide) qw_1_46 rfl hpo2 rfl dX1_matches_17 ?_
    refine lb_cne (tgt := 35) hx hb dX1_matches_20 dX1_matches_21 (by decide) (fun c_21 => ?_) (fun c_21 => ?_)
    · skip
      refine lv_iconst (v := nI 0) hx hb dX1_matches_35 (by decide) ?_
      exact rd_zreturn hx hb hr hlk (by first | (simp [kEq, bI_t, bI_f, c_9, c_21]; done) | exact bI_f0 (by simp only [kEq, c_9, c_21, Bool.and_eq_true, Bool.or_eq_true, decide_eq_true_eq, Bool.and_eq_false_iff, Bool.or_eq_false_iff, decide_eq_false_iff_not, Bool.not_eq_true, if_true, if_false]; omega)) dX1_matches_36
    · skip
      refine lv_aload_n hx hb dX1_matches_24 rfl (lv_at hl 0 rfl) ?_
      refine w_get (C := RX1) (T := TX1) (N := 5) (ci := 1) hx hb hts hown hK hM inX1 rfl 4 (by decide) qw_1_47 rfl hpo rfl dX1_matches_25 ?_
      refine lv_aload_n hx hb dX1_matches_28 rfl (lv_at hl 1 rfl) ?_
      refine w_get (C := RX1) (T := TX1) (N := 5) (ci := 1) hx hb hts hown hK hM inX1 rfl 4 (by decide) qw_1_47 rfl hpo2 rfl dX1_matches_29 ?_
      refine zz_eq (tgt := 37) hx hb wa wa2 dX1_matches_32 (by decide) (fun c_32 => ?_) (fun c_32 => ?_)
      · skip
        refine lv_iconst (v := nI 1) hx hb dX1_matches_37 (by decide) ?_
        refine lv_istore_n (lv' := [(2, .int (nI 1)), (0, .ref po), (1, .ref po2)]) hx hb dX1_matches_38 rfl hl (by decide) rfl (fun ls hl => ?_)
        refine loopR (pcH := 39) (st := []) (ι := Nat) (fun ξ => [(2, .int (nI (ξ))), (0, .ref po), (1, .ref po2)]) (fun n ξ => (ξ) + n = 7 ∧ kEq K K2 pp pp2 w bk w2 bk2 wa wa2 = (mAllL (fun k => decide (K k = K2 k)) n (ξ) && mAllL (fun j => decide (pp j = pp2 j)) 64 0)) ?_ ?_ 6 1 (⟨by omega, by simp [kEq, c_9, c_21, c_32]⟩) ls (lv_sub hl [0,1,2] rfl)
        · rintro i ⟨hin, hres⟩ ls hl
          try dsimp only at hl hin hres
          refine lv_iload_n hx hb dX1_matches_39 rfl (lv_at hl 0 rfl) ?_
          refine lv_bipush (v := nI 7) hx hb dX1_matches_40 (by decide) ?_
          refine ni_ge (tgt := 69) hx hb i 7 (by omega) (by omega) dX1_matches_42 (by decide) (fun c_42 => ?_) (fun c_42 => ?_)
          · skip
            refine lv_iconst (v := nI 0) hx hb dX1_matches_69 (by decide) ?_
            refine lv_istore_n (lv' := [(2, .int (nI 0)), (0, .ref po), (1, .ref po2)]) hx hb dX1_matches_70 rfl hl (by decide) rfl (fun ls hl => ?_)
            refine loopR (pcH := 71) (st := []) (ι := Nat) (fun ξ => [(2, .int (nI (ξ))), (0, .ref po), (1, .ref po2)]) (fun n ξ => (ξ) + n = 64 ∧ kEq K K2 pp pp2 w bk w2 bk2 wa wa2 = mAllL (fun j => decide (pp j = pp2 j)) n (ξ)) ?_ ?_ 64 0 (⟨by omega, by rw [hres]; simp [mAllL]⟩) ls (lv_sub hl [0,1,2] rfl)
            · rintro q ⟨hin2, hres2⟩ ls hl
              try dsimp only at hl hin2 hres2
              refine lv_iload_n hx hb dX1_matches_71 rfl (lv_at hl 0 rfl) ?_
              refine lv_bipush (v := nI 64) hx hb dX1_matches_72 (by decide) ?_
              refine ni_ge (tgt := 100) hx hb q 64 (by omega) (by omega) dX1_matches_74 (by decide) (fun c_74 => ?_) (fun c_74 => ?_)
              · skip
                refine lv_iconst (v := nI 1) hx hb dX1_matches_100 (by decide) ?_
                exact rd_zreturn hx hb hr hlk (by rw [hres2]; first | (simp [mAllL, bI_t, bI_f, c_9, c_21, c_32, c_42, Nat.not_lt.mpr c_42, c_74, Nat.not_lt.mpr c_74]; done) | exact bI_1 (by simp only [mAllL, c_9, c_21, c_32, c_42, Nat.not_lt.mpr c_42, c_74, Nat.not_lt.mpr c_74, Bool.and_eq_true, Bool.or_eq_true, decide_eq_true_eq, Bool.and_eq_false_iff, Bool.or_eq_false_iff, decide_eq_false_iff_not, Bool.not_eq_true, if_true, if_false]; omega)) dX1_matches_101
              · skip
                exfalso; omega
            · rintro n ih2 q ⟨hin2, hres2⟩ ls hl
              try dsimp only at hl hin2 hres2
              refine lv_iload_n hx hb dX1_matches_71 rfl (lv_at hl 0 rfl) ?_
              refine lv_bipush (v := nI 64) hx hb dX1_matches_72 (by decide) ?_
              refine ni_ge (tgt := 100) hx hb q 64 (by omega) (by omega) dX1_matches_74 (by decide) (fun c_74 => ?_) (fun c_74 => ?_)
              · skip
                exfalso; omega
              · skip
                refine lv_aload_n hx hb dX1_matches_77 rfl (lv_at hl 1 rfl) ?_
                refine w_get (C := RX1) (T := TX1) (N := 5) (ci := 1) hx hb hts hown hK hM inX1 rfl 1 (by decide) qw_1_44 rfl hpo rfl dX1_matches_78 ?_
                refine lv_iload_n hx hb dX1_matches_81 rfl (lv_at hl 0 rfl) ?_
                refine w_iald hx hb hK hM hpt q (by omega) (by decide) dX1_matches_82 ?_
                refine lv_aload_n hx hb dX1_matches_83 rfl (lv_at hl 2 rfl) ?_
                refine w_get (C := RX1) (T := TX1) (N := 5) (ci := 1) hx hb hts hown hK hM inX1 rfl 1 (by decide) qw_1_44 rfl hpo2 rfl dX1_matches_84 ?_
                refine lv_iload_n hx hb dX1_matches_87 rfl (lv_at hl 0 rfl) ?_
                refine w_iald hx hb hK hM hpt2 q (by omega) (by decide) dX1_matches_88 ?_
                refine lv_icmp_eq (tgt := 94) hx hb dX1_matches_89 (by decide) (fun c_89 => ?_) (fun c_89 => ?_)
                · skip
                  refine ni_iinc (lv' := [(2, .int (nI (q + 1))), (0, .ref po), (1, .ref po2)]) hx hb q 1 dX1_matches_94 hl (k := 0) rfl (by decide) (by decide) rfl (fun ls hl => ?_)
                  refine lv_goto (tgt := 71) hx hb dX1_matches_97 (by decide) ?_
                  exact ih2 (q + 1) ⟨by first | omega | (dsimp only <;> omega), by rw [hres2]; simp [mAllL, c_9, c_21, c_32, c_42, Nat.not_lt.mpr c_42, c_74, Nat.not_le.mpr c_74, Nat.le_of_lt c_74, c_89]⟩ ls (lv_sub hl [0,1,2] rfl)
                · skip
                  refine lv_iconst (v := nI 0) hx hb dX1_matches_92 (by decide) ?_
                  exact rd_zreturn hx hb hr hlk (by rw [hres2]; first | (simp [mAllL, bI_t, bI_f, c_9, c_21, c_32, c_42, Nat.not_lt.mpr c_42, c_74, Nat.not_le.mpr c_74, Nat.le_of_lt c_74, c_89]; done) | exact bI_f0 (by simp only [mAllL, c_9, c_21, c_32, c_42, Nat.not_lt.mpr c_42, c_74, Nat.not_le.mpr c_74, Nat.le_of_lt c_74, c_89, Bool.and_eq_true, Bool.or_eq_true, decide_eq_true_eq, Bool.and_eq_false_iff, Bool.or_eq_false_iff, decide_eq_false_iff_not, Bool.not_eq_true, if_true, if_false]; omega)) dX1_matches_93
          · skip
            exfalso; omega
        · rintro n ih i ⟨hin, hres⟩ ls hl
          try dsimp only at hl hin hres
          refine lv_iload_n hx hb dX1_matches_39 rfl (lv_at hl 0 rfl) ?_
          refine lv_bipush (v := nI 7) hx hb dX1_matches_40 (by decide) ?_
          refine ni_ge (tgt := 69) hx hb i 7 (by omega) (by omega) dX1_matches_42 (by decide) (fun c_42 => ?_) (fun c_42 => ?_)
          · skip
            exfalso; omega
          · skip
            refine lv_aload_n hx hb dX1_matches_45 rfl (lv_at hl 1 rfl) ?_
            refine w_get (C := RX1) (T := TX1) (N := 5) (ci := 1) hx hb hts hown hK hM inX1 rfl 0 (by decide) qw_1_43 rfl hpo rfl dX1_matches_46 ?_
            refine lv_iload_n hx hb dX1_matches_49 rfl (lv_at hl 0 rfl) ?_
            refine w_lald hx hb hK hM hokk i (by omega) (by decide) dX1_matches_50 ?_
            refine lv_aload_n hx hb dX1_matches_51 rfl (lv_at hl 2 rfl) ?_
            refine w_get (C := RX1) (T := TX1) (N := 5) (ci := 1) hx hb hts hown hK hM inX1 rfl 0 (by decide) qw_1_43 rfl hpo2 rfl dX1_matches_52 ?_
            refine lv_iload_n hx hb dX1_matches_55 rfl (lv_at hl 0 rfl) ?_
            refine w_lald hx hb hK hM hokk2 i (by omega) (by decide) dX1_matches_56 ?_
            refine lb_ceq (tgt := 63) hx hb dX1_matches_57 dX1_matches_58 (by decide) (fun c_58 => ?_) (fun c_58 => ?_)
            · skip
              refine ni_iinc (lv' := [(2, .int (nI (i + 1))), (0, .ref po), (1, .ref po2)]) hx hb i 1 dX1_matches_63 hl (k := 0) rfl (by decide) (by decide) rfl (fun ls hl => ?_)
              refine lv_goto (tgt := 39) hx hb dX1_matches_66 (by decide) ?_
              exact ih (i + 1) ⟨by first | omega | (dsimp only <;> omega), by rw [hres]; simp [mAllL, c_9, c_21, c_32, c_42, Nat.not_le.mpr c_42, Nat.le_of_lt c_42, c_58]⟩ ls (lv_sub hl [0,1,2] rfl)
            · skip
              refine lv_iconst (v := nI 0) hx hb dX1_matches_61 (by decide) ?_
              exact rd_zreturn hx hb hr hlk (by rw [hres]; first | (simp [mAllL, bI_t, bI_f, c_9, c_21, c_32, c_42, Nat.not_le.mpr c_42, Nat.le_of_lt c_42, c_58]; done) | exact bI_f0 (by simp only [mAllL, c_9, c_21, c_32, c_42, Nat.not_le.mpr c_42, Nat.le_of_lt c_42, c_58, Bool.and_eq_true, Bool.or_eq_true, decide_eq_true_eq, Bool.and_eq_false_iff, Bool.or_eq_false_iff, decide_eq_false_iff_not, Bool.not_eq_true, if_true, if_false]; omega)) dX1_matches_62
      · skip
        refine lv_iconst (v := nI 0) hx hb dX1_matches_35 (by decide) ?_
        exact rd_zreturn hx hb hr hlk (by first | (simp [kEq, bI_t, bI_f, c_9, c_21, c_32]; done) | exact bI_f0 (by simp only [kEq, c_9, c_21, c_32, Bool.and_eq_true, Bool.or_eq_true, decide_eq_true_eq, Bool.and_eq_false_iff, Bool.or_eq_false_iff, decide_eq_false_iff_not, Bool.not_eq_true, if_true, if_false]; omega)) dX1_matches_36
