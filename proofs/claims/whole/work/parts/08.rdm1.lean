theorem okS_RX4_48_X4_away : okS RX4 48 yX4_away cX4_away 2 (some .int) 2 := okS_of qw_3_221 qw_3_222 qw_1_5 qw_3_223 (by decide +kernel)
theorem okS_RX4_56_X4_isOwn : okS RX4 56 yX4_isOwn cX4_isOwn 4 (some .boolean) 4 := okS_of qw_4_12 qw_4_13 qw_1_5 qw_4_14 (by decide +kernel)
theorem okS_RX4_60_J6_compare_7cf53 : okS RX4 60 yJ6_compare_7cf53 cJ6_compare_7cf53 2 (some .int) 2 := okS_of qw_4_30 qw_4_31 qw_1_7 qw_4_32 (by decide +kernel)
theorem okS_RX4_65_X4_kind : okS RX4 65 yX4_kind cX4_kind 2 (some .int) 2 := okS_of qw_4_24 qw_4_25 qw_1_5 qw_4_26 (by decide +kernel)
theorem okS_RX4_69_X4_isClear : okS RX4 69 yX4_isClear cX4_isClear 5 (some .boolean) 3 := okS_of qw_4_27 qw_4_28 qw_1_5 qw_4_29 (by decide +kernel)
theorem okS_RX4_73_X4_ahead : okS RX4 73 yX4_ahead cX4_ahead 2 (some .int) 2 := okS_of qw_4_33 qw_4_34 qw_1_5 qw_4_35 (by decide +kernel)
theorem okS_RX4_76_X4_isOf : okS RX4 76 yX4_isOf cX4_isOf 3 (some .boolean) 3 := okS_of qw_4_18 qw_4_19 qw_1_5 qw_4_20 (by decide +kernel)
theorem okS_RX4_79_X4_attacks : okS RX4 79 yX4_attacks cX4_attacks 7 (some .boolean) 3 := okS_of qw_4_21 qw_4_22 qw_1_5 qw_4_23 (by decide +kernel)
theorem okS_RX4_82_X4_king : okS RX4 82 yX4_king cX4_king 3 (some .int) 2 := okS_of qw_4_9 qw_4_10 qw_1_5 qw_4_11 (by decide +kernel)
theorem okS_RX4_85_X4_isAttacked : okS RX4 85 yX4_isAttacked cX4_isAttacked 4 (some .boolean) 3 := okS_of qw_4_15 qw_4_16 qw_1_5 qw_4_17 (by decide +kernel)
set_option maxHeartbeats 4000000 in
set_option maxRecDepth 100000 in
theorem met_J6_compare_7cf53 (l : Launch) {D : va_G} {cI cJ : ClassId} {M : MP} (a b : Nat) (ha : a < 2 ^ 31) (hb2 : b < 2 ^ 31) : RdI l yJ6_compare_7cf53 cJ6_compare_7cf53 2 (some .int) 0 D cI cJ [.int (nI a), .int (nI b)] M (cmpI a b) := by
  refine rd_start (by decide) (Nat.le_of_ble_eq_true rfl) ?_
  intro p e s m args below meth c hx hb hr hml hown hts hlk hK hM ls hl
  have hl : lv_has ls 2 [(0, .int (nI a)), (1, .int (nI b))] := hl
  refine lv_iload_n hx hb dJ6_compare_7cf53_0 rfl (lv_at hl 0 rfl) ?_
  refine lv_iload_n hx hb dJ6_compare_7cf53_1 rfl (lv_at hl 1 rfl) ?_
  refine ni_ge (tgt := 9) hx hb a b (by omega) (by omega) dJ6_compare_7cf53_2 (by decide) (fun c_2 => ?_) (fun c_2 => ?_)
  · skip
    refine lv_iload_n hx hb dJ6_compare_7cf53_9 rfl (lv_at hl 0 rfl) ?_
    refine lv_iload_n hx hb dJ6_compare_7cf53_10 rfl (lv_at hl 1 rfl) ?_
    refine ni_ne (tgt := 18) hx hb a b (by omega) (by omega) dJ6_compare_7cf53_11 (by decide) (fun c_11 => ?_) (fun c_11 => ?_)
    · skip
      refine lv_iconst (v := nI 1) hx hb dJ6_compare_7cf53_18 (by decide) ?_
      exact rd_ireturn hx hb hr hlk (by simp [cmpI, bI_t, bI_f, c_2, Nat.not_lt.mpr c_2, c_11]) dJ6_compare_7cf53_19
    · skip
      refine lv_iconst (v := nI 0) hx hb dJ6_compare_7cf53_14 (by decide) ?_
      refine lv_goto (tgt := 19) hx hb dJ6_compare_7cf53_15 (by decide) ?_
      exact rd_ireturn hx hb hr hlk (by simp [cmpI, bI_t, bI_f, c_2, Nat.not_lt.mpr c_2, c_11]) dJ6_compare_7cf53_19
  · skip
    refine lv_iconst (v := (-1)) hx hb dJ6_compare_7cf53_5 (by decide) ?_
    refine lv_goto (tgt := 19) hx hb dJ6_compare_7cf53_6 (by decide) ?_
    exact rd_ireturn hx hb hr hlk (by simp [cmpI, bI_t, bI_f, c_2, Nat.not_le.mpr c_2, Nat.le_of_lt c_2]) dJ6_compare_7cf53_19
set_option maxHeartbeats 4000000 in
set_option maxRecDepth 100000 in
theorem met_X4_isSquare (l : Launch) {D : va_G} {cI cJ : ClassId} {M : MP} (x : Int32) : RdI l yX4_isSquare cX4_isSquare 1 (some .boolean) 0 D cI cJ [.int x] M (bI (mIsSq x)) := by
  refine rd_start (by decide) (Nat.le_of_ble_eq_true rfl) ?_
  intro p e s m args below meth c hx hb hr hml hown hts hlk hK hM ls hl
  have hl : lv_has ls 1 [(0, .int x)] := hl
  refine lv_iload_n hx hb dX4_isSquare_0 rfl (lv_at hl 0 rfl) ?_
  refine lv_if_lt (tgt := 14) hx hb dX4_isSquare_1 (by decide) (fun c_1 => ?_) (fun c_1 => ?_)
  · skip
    refine lv_iconst (v := nI 0) hx hb dX4_isSquare_14 (by decide) ?_
    exact rd_zreturn hx hb hr hlk (by first | (simp [mIsSq, bI_t, bI_f, c_1]; done) | exact bI_f0 (by simp only [mIsSq, c_1, Bool.and_eq_true, Bool.or_eq_true, decide_eq_true_eq, Bool.and_eq_false_iff, Bool.or_eq_false_iff, decide_eq_false_iff_not, Bool.not_eq_true, if_true, if_false]; omega)) dX4_isSquare_15
  · skip
    refine lv_iload_n hx hb dX4_isSquare_4 rfl (lv_at hl 0 rfl) ?_
    refine lv_bipush (v := nI 64) hx hb dX4_isSquare_5 (by decide) ?_
    refine lv_icmp_ge (tgt := 14) hx hb dX4_isSquare_7 (by decide) (fun c_7 => ?_) (fun c_7 => ?_)
    · skip
      refine lv_iconst (v := nI 0) hx hb dX4_isSquare_14 (by decide) ?_
      exact rd_zreturn hx hb hr hlk (by first | (simp [mIsSq, bI_t, bI_f, c_1, c_7]; done) | exact bI_f0 (by simp only [mIsSq, c_1, c_7, Bool.and_eq_true, Bool.or_eq_true, decide_eq_true_eq, Bool.and_eq_false_iff, Bool.or_eq_false_iff, decide_eq_false_iff_not, Bool.not_eq_true, if_true, if_false]; omega)) dX4_isSquare_15
    · skip
      refine lv_iconst (v := nI 1) hx hb dX4_isSquare_10 (by decide) ?_
      refine lv_goto (tgt := 15) hx hb dX4_isSquare_11 (by decide) ?_
      exact rd_zreturn hx hb hr hlk (by first | (simp [mIsSq, bI_t, bI_f, c_1, c_7]; done) | exact bI_1 (by simp only [mIsSq, c_1, c_7, Bool.and_eq_true, Bool.or_eq_true, decide_eq_true_eq, Bool.and_eq_false_iff, Bool.or_eq_false_iff, decide_eq_false_iff_not, Bool.not_eq_true, if_true, if_false]; omega)) dX4_isSquare_15
set_option maxHeartbeats 4000000 in
set_option maxRecDepth 100000 in
theorem met_X4_side (l : Launch) {D : va_G} {cI cJ : ClassId} {M : MP} (b : Bool) : RdI l yX4_side cX4_side 1 (some .int) 0 D cI cJ [.int (bI b)] M (nI (sdN b)) := by
  refine rd_start (by decide) (Nat.le_of_ble_eq_true rfl) ?_
  intro p e s m args below meth c hx hb hr hml hown hts hlk hK hM ls hl
  have hl : lv_has ls 1 [(0, .int (bI b))] := hl
  refine lv_iload_n hx hb dX4_side_0 rfl (lv_at hl 0 rfl) ?_
  refine zb_eq (tgt := 9) hx hb b dX4_side_1 (by decide) (fun c_1 => ?_) (fun c_1 => ?_)
  · skip
    refine lv_iconst (v := nI 0) hx hb dX4_side_9 (by decide) ?_
    exact rd_ireturn hx hb hr hlk (by simp [sdN, bI_t, bI_f, c_1]) dX4_side_10
  · skip
    refine lv_bipush (v := nI 8) hx hb dX4_side_4 (by decide) ?_
    refine lv_goto (tgt := 10) hx hb dX4_side_6 (by decide) ?_
    exact rd_ireturn hx hb hr hlk (by simp [sdN, bI_t, bI_f, c_1]) dX4_side_10
set_option maxHeartbeats 4000000 in
set_option maxRecDepth 100000 in
theorem met_X4_away (l : Launch) {D : va_G} {cI cJ : ClassId} {M : MP} (a b : Nat) (ha : a < 2 ^ 31) (hb2 : b < 2 ^ 31) : RdI l yX4_away cX4_away 2 (some .int) 0 D cI cJ [.int (nI a), .int (nI b)] M (nI (mAway a b)) := by
  refine rd_start (by decide) (Nat.le_of_ble_eq_true rfl) ?_
  intro p e s m args below meth c hx hb hr hml hown hts hlk hK hM ls hl
  have hl : lv_has ls 2 [(0, .int (nI a)), (1, .int (nI b))] := hl
  refine lv_iload_n hx hb dX4_away_0 rfl (lv_at hl 0 rfl) ?_
  refine lv_iload_n hx hb dX4_away_1 rfl (lv_at hl 1 rfl) ?_
  refine ni_le (tgt := 11) hx hb a b (by omega) (by omega) dX4_away_2 (by decide) (fun c_2 => ?_) (fun c_2 => ?_)
  · skip
    refine lv_iload_n hx hb dX4_away_11 rfl (lv_at hl 1 rfl) ?_
    refine lv_iload_n hx hb dX4_away_12 rfl (lv_at hl 0 rfl) ?_
    refine ni_sub hx hb b a (by omega) dX4_away_13 ?_
    exact rd_ireturn hx hb hr hlk (by simp [mAway, bI_t, bI_f, c_2, Nat.not_lt.mpr c_2]) dX4_away_14
  · skip
    refine lv_iload_n hx hb dX4_away_5 rfl (lv_at hl 0 rfl) ?_
    refine lv_iload_n hx hb dX4_away_6 rfl (lv_at hl 1 rfl) ?_
    refine ni_sub hx hb a b (by omega) dX4_away_7 ?_
    refine lv_goto (tgt := 14) hx hb dX4_away_8 (by decide) ?_
    exact rd_ireturn hx hb hr hlk (by simp [mAway, bI_t, bI_f, c_2, Nat.not_le.mpr c_2, Nat.le_of_lt c_2]) dX4_away_14
set_option maxHeartbeats 4000000 in
set_option maxRecDepth 100000 in
theorem met_X4_isLeap (l : Launch) {D : va_G} {cI cJ : ClassId} {M : MP} (a b : Nat) (ha : a < 64) (hb2 : b < 64) : RdI l yX4_isLeap cX4_isLeap 2 (some .boolean) 1 D cI cJ [.int (nI a), .int (nI b)] M (bI (mLeap a b)) := by
  refine rd_start (by decide) (Nat.le_of_ble_eq_true rfl) ?_
  intro p e s m args below meth c hx hb hr hml hown hts hlk hK hM ls hl
  have hl : lv_has ls 2 [(0, .int (nI a)), (1, .int (nI b))] := hl
  have hm := mLeap_in a b ha hb2
  refine lv_iload_n hx hb dX4_isLeap_0 rfl (lv_at hl 0 rfl) ?_
  refine lv_bipush (v := nI 8) hx hb dX4_isLeap_1 (by decide) ?_
  refine ni_rem hx hb a 8 (by omega) (by decide) (by decide) dX4_isLeap_3 ?_
  refine lv_iload_n hx hb dX4_isLeap_4 rfl (lv_at hl 1 rfl) ?_
  refine lv_bipush (v := nI 8) hx hb dX4_isLeap_5 (by decide) ?_
  refine ni_rem hx hb b 8 (by omega) (by decide) (by decide) dX4_isLeap_7 ?_
  refine rd_goI (rd_runS (As := [.int (nI (a % 8)), .int (nI (b % 8))]) (rest := []) hx hb hml hown hts hK hM okS_RX4_48_X4_away (met_X4_away l (a % 8) (b % 8) (by omega) (by omega)) rfl ⟨Nat.le_of_ble_eq_true rfl, Nat.le_of_ble_eq_true rfl⟩ hl.1 rfl (Nat.le_of_ble_eq_true rfl) dX4_isLeap_8 ⟨Nat.le_refl _, Nat.le_refl _⟩) ?_
  refine lv_iload_n hx hb dX4_isLeap_11 rfl (lv_at hl 0 rfl) ?_
  refine lv_bipush (v := nI 8) hx hb dX4_isLeap_12 (by decide) ?_
  refine ni_div hx hb a 8 (by omega) (by decide) (by decide) dX4_isLeap_14 ?_
  refine lv_iload_n hx hb dX4_isLeap_15 rfl (lv_at hl 1 rfl) ?_
  refine lv_bipush (v := nI 8) hx hb dX4_isLeap_16 (by decide) ?_
  refine ni_div hx hb b 8 (by omega) (by decide) (by decide) dX4_isLeap_18 ?_
  refine rd_goI (rd_runS (As := [.int (nI (a / 8)), .int (nI (b / 8))]) (rest := [.int (nI (mAway (a % 8) (b % 8)))]) hx hb hml hown hts hK hM okS_RX4_48_X4_away (met_X4_away l (a / 8) (b / 8) (by omega) (by omega)) rfl ⟨Nat.le_of_ble_eq_true rfl, Nat.le_of_ble_eq_true rfl⟩ hl.1 rfl (Nat.le_of_ble_eq_true rfl) dX4_isLeap_19 ⟨Nat.le_refl _, Nat.le_refl _⟩) ?_
  refine ni_mul hx hb (mAway (a % 8) (b % 8)) (mAway (a / 8) (b / 8)) dX4_isLeap_22 ?_
  refine lv_iconst (v := nI 2) hx hb dX4_isLeap_23 (by decide) ?_
  refine ni_ne (tgt := 31) hx hb ((mAway (a % 8) (b % 8)) * (mAway (a / 8) (b / 8))) 2 (by omega) (by omega) dX4_isLeap_24 (by decide) (fun c_24 => ?_) (fun c_24 => ?_)
  · skip
    refine lv_iconst (v := nI 0) hx hb dX4_isLeap_31 (by decide) ?_
    exact rd_zreturn hx hb hr hlk (by first | (simp [mLeap, bI_t, bI_f, c_24]; done) | exact bI_f0 (by simp only [mLeap, c_24, Bool.and_eq_true, Bool.or_eq_true, decide_eq_true_eq, Bool.and_eq_false_iff, Bool.or_eq_false_iff, decide_eq_false_iff_not, Bool.not_eq_true, if_true, if_false]; omega)) dX4_isLeap_32
  · skip
    refine lv_iconst (v := nI 1) hx hb dX4_isLeap_27 (by decide) ?_
    refine lv_goto (tgt := 32) hx hb dX4_isLeap_28 (by decide) ?_
    exact rd_zreturn hx hb hr hlk (by first | (simp [mLeap, bI_t, bI_f, c_24]; done) | exact bI_1 (by simp only [mLeap, c_24, Bool.and_eq_true, Bool.or_eq_true, decide_eq_true_eq, Bool.and_eq_false_iff, Bool.or_eq_false_iff, decide_eq_false_iff_not, Bool.not_eq_true, if_true, if_false]; omega)) dX4_isLeap_32
set_option maxHeartbeats 4000000 in
set_option maxRecDepth 100000 in
theorem met_X4_kind (l : Launch) {D : va_G} {cI cJ : ClassId} {M : MP} (w j : Nat) (f : Nat → Int32) (hw : M w = some (eI cI 146 f)) (hj : j < 64) : RdI l yX4_kind cX4_kind 2 (some .int) 0 D cI cJ [.ref w, .int (nI j)] M (nI (mKindN f j)) := by
  refine rd_start (by decide) (Nat.le_of_ble_eq_true rfl) ?_
  intro p e s m args below meth c hx hb hr hml hown hts hlk hK hM ls hl
  have hl : lv_has ls 2 [(0, .ref w), (1, .int (nI j))] := hl
  refine lv_aload_n hx hb dX4_kind_0 rfl (lv_at hl 0 rfl) ?_
  refine lv_iload_n hx hb dX4_kind_1 rfl (lv_at hl 1 rfl) ?_
  refine w_iald hx hb hK hM hw j (by omega) (by decide) dX4_kind_2 ?_
  refine lv_bipush (v := nI 7) hx hb dX4_kind_3 (by decide) ?_
  refine lv_iand hx hb dX4_kind_5 ?_
  exact rd_ireturn hx hb hr hlk (mKind_eq f j) dX4_kind_6
set_option maxHeartbeats 4000000 in
set_option maxRecDepth 100000 in
theorem met_X4_isOf (l : Launch) {D : va_G} {cI cJ : ClassId} {M : MP} (w j sd : Nat) (f : Nat → Int32) (hw : M w = some (eI cI 146 f)) (hj : j < 64) (hsd : sd ≤ 8) : RdI l yX4_isOf cX4_isOf 3 (some .boolean) 0 D cI cJ [.ref w, .int (nI j), .int (nI sd)] M (bI (mIsOf f j sd)) := by
  refine rd_start (by decide) (Nat.le_of_ble_eq_true rfl) ?_
  intro p e s m args below meth c hx hb hr hml hown hts hlk hK hM ls hl
  have hl : lv_has ls 3 [(0, .ref w), (1, .int (nI j)), (2, .int (nI sd))] := hl
  refine lv_aload_n hx hb dX4_isOf_0 rfl (lv_at hl 0 rfl) ?_
  refine lv_iload_n hx hb dX4_isOf_1 rfl (lv_at hl 1 rfl) ?_
  refine w_iald hx hb hK hM hw j (by omega) (by decide) dX4_isOf_2 ?_
  refine lv_if_eq (tgt := 20) hx hb dX4_isOf_3 (by decide) (fun c_3 => ?_) (fun c_3 => ?_)
  · skip
    refine lv_iconst (v := nI 0) hx hb dX4_isOf_20 (by decide) ?_
    exact rd_zreturn hx hb hr hlk (by first | (simp [mIsOf, bI_t, bI_f, c_3]; done) | exact bI_f0 (by simp only [mIsOf, c_3, Bool.and_eq_true, Bool.or_eq_true, decide_eq_true_eq, Bool.and_eq_false_iff, Bool.or_eq_false_iff, decide_eq_false_iff_not, Bool.not_eq_true, if_true, if_false]; omega)) dX4_isOf_21
  · skip
    refine lv_aload_n hx hb dX4_isOf_6 rfl (lv_at hl 0 rfl) ?_
    refine lv_iload_n hx hb dX4_isOf_7 rfl (lv_at hl 1 rfl) ?_
    refine w_iald hx hb hK hM hw j (by omega) (by decide) dX4_isOf_8 ?_
    refine lv_bipush (v := nI 8) hx hb dX4_isOf_9 (by decide) ?_
    refine lv_iand hx hb dX4_isOf_11 ?_
    refine lv_iload_n hx hb dX4_isOf_12 rfl (lv_at hl 2 rfl) ?_
    refine lv_icmp_ne (tgt := 20) hx hb dX4_isOf_13 (by decide) (fun c_13 => ?_) (fun c_13 => ?_)
    · skip
      refine lv_iconst (v := nI 0) hx hb dX4_isOf_20 (by decide) ?_
      exact rd_zreturn hx hb hr hlk (by first | (simp [mIsOf, bI_t, bI_f, c_3, c_13]; done) | exact bI_f0 (by simp only [mIsOf, c_3, c_13, Bool.and_eq_true, Bool.or_eq_true, decide_eq_true_eq, Bool.and_eq_false_iff, Bool.or_eq_false_iff, decide_eq_false_iff_not, Bool.not_eq_true, if_true, if_false]; omega)) dX4_isOf_21
    · skip
      refine lv_iconst (v := nI 1) hx hb dX4_isOf_16 (by decide) ?_
      refine lv_goto (tgt := 21) hx hb dX4_isOf_17 (by decide) ?_
      exact rd_zreturn hx hb hr hlk (by first | (simp [mIsOf, bI_t, bI_f, c_3, c_13]; done) | exact bI_1 (by simp only [mIsOf, c_3, c_13, Bool.and_eq_true, Bool.or_eq_true, decide_eq_true_eq, Bool.and_eq_false_iff, Bool.or_eq_false_iff, decide_eq_false_iff_not, Bool.not_eq_true, if_true, if_false]; omega)) dX4_isOf_21
set_option maxHeartbeats 4000000 in
set_option maxRecDepth 100000 in
theorem met_X4_isOwn (l : Launch) {D : va_G} {cI cJ : ClassId} {M : MP} (w j k sd : Nat) (f : Nat → Int32) (hw : M w = some (eI cI 146 f)) (hj : j < 64) : RdI l yX4_isOwn cX4_isOwn 4 (some .boolean) 0 D cI cJ [.ref w, .int (nI j), .int (nI k), .int (nI sd)] M (bI (mIsOwn f j k sd)) := by
  refine rd_start (by decide) (Nat.le_of_ble_eq_true rfl) ?_
  intro p e s m args below meth c hx hb hr hml hown hts hlk hK hM ls hl
  have hl : lv_has ls 4 [(0, .ref w), (1, .int (nI j)), (2, .int (nI k)), (3, .int (nI sd))] := hl
  refine lv_aload_n hx hb dX4_isOwn_0 rfl (lv_at hl 0 rfl) ?_
  refine lv_iload_n hx hb dX4_isOwn_1 rfl (lv_at hl 1 rfl) ?_
  refine w_iald hx hb hK hM hw j (by omega) (by decide) dX4_isOwn_2 ?_
  refine lv_iload_n hx hb dX4_isOwn_3 rfl (lv_at hl 3 rfl) ?_
  refine lv_iload_n hx hb dX4_isOwn_4 rfl (lv_at hl 2 rfl) ?_
  refine ni_add hx hb sd k dX4_isOwn_5 ?_
  refine lv_icmp_ne (tgt := 13) hx hb dX4_isOwn_6 (by decide) (fun c_6 => ?_) (fun c_6 => ?_)
  · skip
    refine lv_iconst (v := nI 0) hx hb dX4_isOwn_13 (by decide) ?_
    exact rd_zreturn hx hb hr hlk (by first | (simp [mIsOwn, bI_t, bI_f, c_6]; done) | exact bI_f0 (by simp only [mIsOwn, c_6, Bool.and_eq_true, Bool.or_eq_true, decide_eq_true_eq, Bool.and_eq_false_iff, Bool.or_eq_false_iff, decide_eq_false_iff_not, Bool.not_eq_true, if_true, if_false]; omega)) dX4_isOwn_14
  · skip
    refine lv_iconst (v := nI 1) hx hb dX4_isOwn_9 (by decide) ?_
    refine lv_goto (tgt := 14) hx hb dX4_isOwn_10 (by decide) ?_
    exact rd_zreturn hx hb hr hlk (by first | (simp [mIsOwn, bI_t, bI_f, c_6]; done) | exact bI_1 (by simp only [mIsOwn, c_6, Bool.and_eq_true, Bool.or_eq_true, decide_eq_true_eq, Bool.and_eq_false_iff, Bool.or_eq_false_iff, decide_eq_false_iff_not, Bool.not_eq_true, if_true, if_false]; omega)) dX4_isOwn_14
set_option maxHeartbeats 4000000 in
set_option maxRecDepth 100000 in
theorem met_X4_king (l : Launch) {D : va_G} {cI cJ : ClassId} {M : MP} (w sd : Nat) (f : Nat → Int32) (hw : M w = some (eI cI 146 f)) : RdI l yX4_king cX4_king 3 (some .int) 1 D cI cJ [.ref w, .int (nI sd)] M (oI (mKing f sd)) := by
  refine rd_start (by decide) (Nat.le_of_ble_eq_true rfl) ?_
  intro p e s m args below meth c hx hb hr hml hown hts hlk hK hM ls hl
  have hl : lv_has ls 3 [(0, .ref w), (1, .int (nI sd))] := hl
  refine lv_iconst (v := nI 0) hx hb dX4_king_0 (by decide) ?_
  refine lv_istore_n (lv' := [(2, .int (nI 0)), (0, .ref w), (1, .int (nI sd))]) hx hb dX4_king_1 rfl hl (by decide) rfl (fun ls hl => ?_)
  refine loopR (pcH := 2) (st := []) (ι := Nat) (fun ξ => [(2, .int (nI (ξ))), (0, .ref w), (1, .int (nI sd))]) (fun n ξ => (ξ) + n = 64 ∧ mKing f sd = mFirst (fun j => mIsOwn f j 1 sd) n (ξ)) ?_ ?_ 64 0 (⟨by first | omega | (dsimp only <;> omega), rfl⟩) ls (lv_sub hl [0,1,2] rfl)
  · rintro i ⟨hin, hres⟩ ls hl
    try dsimp only at hl hin hres
    refine lv_iload_n hx hb dX4_king_2 rfl (lv_at hl 0 rfl) ?_
    refine lv_bipush (v := nI 64) hx hb dX4_king_3 (by decide) ?_
    refine ni_ge (tgt := 26) hx hb i 64 (by omega) (by omega) dX4_king_5 (by decide) (fun c_5 => ?_) (fun c_5 => ?_)
    · skip
      refine lv_iconst (v := (-1)) hx hb dX4_king_26 (by decide) ?_
      exact rd_ireturn hx hb hr hlk (by rw [hres]; simp [mFirst, oI_n, oI_s, bI_t, bI_f, c_5, Nat.not_lt.mpr c_5]) dX4_king_27
    · skip
      exfalso; omega
  · rintro n ih i ⟨hin, hres⟩ ls hl
    try dsimp only at hl hin hres
    refine lv_iload_n hx hb dX4_king_2 rfl (lv_at hl 0 rfl) ?_
    refine lv_bipush (v := nI 64) hx hb dX4_king_3 (by decide) ?_
    refine ni_ge (tgt := 26) hx hb i 64 (by omega) (by omega) dX4_king_5 (by decide) (fun c_5 => ?_) (fun c_5 => ?_)
    · skip
      exfalso; omega
    · skip
      refine lv_aload_n hx hb dX4_king_8 rfl (lv_at hl 1 rfl) ?_
      refine lv_iload_n hx hb dX4_king_9 rfl (lv_at hl 0 rfl) ?_
      refine lv_iconst (v := nI 1) hx hb dX4_king_10 (by decide) ?_
      refine lv_iload_n hx hb dX4_king_11 rfl (lv_at hl 2 rfl) ?_
      refine rd_goI (rd_runS (As := [.ref w, .int (nI i), .int (nI 1), .int (nI sd)]) (rest := []) hx hb hml hown hts hK hM okS_RX4_56_X4_isOwn (met_X4_isOwn l w i 1 sd f hw (by omega)) rfl ⟨Nat.le_of_ble_eq_true rfl, Nat.le_of_ble_eq_true rfl⟩ hl.1 rfl (Nat.le_of_ble_eq_true rfl) dX4_king_12 ⟨Nat.le_refl _, Nat.le_refl _⟩) ?_
      refine zb_eq (tgt := 20) hx hb (mIsOwn f i 1 sd) dX4_king_15 (by decide) (fun c_15 => ?_) (fun c_15 => ?_)
      · skip
        refine ni_iinc (lv' := [(2, .int (nI (i + 1))), (0, .ref w), (1, .int (nI sd))]) hx hb i 1 dX4_king_20 hl (k := 0) rfl (by decide) (by decide) rfl (fun ls hl => ?_)
        refine lv_goto (tgt := 2) hx hb dX4_king_23 (by decide) ?_
        exact ih (i + 1) ⟨by first | omega | (dsimp only <;> omega), by rw [hres]; simp [mFirst, oI_n, oI_s, c_5, Nat.not_le.mpr c_5, Nat.le_of_lt c_5, c_15]⟩ ls (lv_sub hl [0,1,2] rfl)
      · skip
        refine lv_iload_n hx hb dX4_king_18 rfl (lv_at hl 0 rfl) ?_
        exact rd_ireturn hx hb hr hlk (by rw [hres]; simp [mFirst, oI_n, oI_s, bI_t, bI_f, c_5, Nat.not_le.mpr c_5, Nat.le_of_lt c_5, c_15]) dX4_king_19
set_option maxHeartbeats 4000000 in
set_option maxRecDepth 100000 in
theorem met_X4_ahead (l : Launch) {D : va_G} {cI cJ : ClassId} {M : MP} (w j : Nat) (f : Nat → Int32) (hw : M w = some (eI cI 146 f)) (hj : j < 64) : RdI l yX4_ahead cX4_ahead 2 (some .int) 0 D cI cJ [.ref w, .int (nI j)] M (mAhead f j) := by
  refine rd_start (by decide) (Nat.le_of_ble_eq_true rfl) ?_
  intro p e s m args below meth c hx hb hr hml hown hts hlk hK hM ls hl
  have hl : lv_has ls 2 [(0, .ref w), (1, .int (nI j))] := hl
  refine lv_iload_n hx hb dX4_ahead_0 rfl (lv_at hl 1 rfl) ?_
  refine lv_bipush (v := nI 8) hx hb dX4_ahead_1 (by decide) ?_
  refine ni_div hx hb j 8 (by omega) (by decide) (by decide) dX4_ahead_3 ?_
  refine lv_aload_n hx hb dX4_ahead_4 rfl (lv_at hl 0 rfl) ?_
  refine lv_iload_n hx hb dX4_ahead_5 rfl (lv_at hl 1 rfl) ?_
  refine w_iald hx hb hK hM hw j (by omega) (by decide) dX4_ahead_6 ?_
  refine lv_bipush (v := nI 8) hx hb dX4_ahead_7 (by decide) ?_
  refine lv_iand hx hb dX4_ahead_9 ?_
  refine lv_bipush (v := nI 8) hx hb dX4_ahead_10 (by decide) ?_
  refine lv_icmp_ne (tgt := 19) hx hb dX4_ahead_12 (by decide) (fun c_12 => ?_) (fun c_12 => ?_)
  · skip
    refine lv_iconst (v := (-1)) hx hb dX4_ahead_19 (by decide) ?_
    refine lv_iadd hx hb dX4_ahead_20 ?_
    exact rd_ireturn hx hb hr hlk (by simp [mAhead, nI_add, bI_t, bI_f, c_12]) dX4_ahead_21
  · skip
    refine lv_iconst (v := nI 1) hx hb dX4_ahead_15 (by decide) ?_
    refine lv_goto (tgt := 20) hx hb dX4_ahead_16 (by decide) ?_
    refine ni_add hx hb (j / 8) 1 dX4_ahead_20 ?_
    exact rd_ireturn hx hb hr hlk (by simp [mAhead, nI_add, bI_t, bI_f, c_12]) dX4_ahead_21
set_option maxHeartbeats 4000000 in
set_option maxRecDepth 100000 in
theorem met_X4_isClear (l : Launch) {D : va_G} {cI cJ : ClassId} {M : MP} (w a b : Nat) (f : Nat → Int32) (hw : M w = some (eI cI 146 f)) (ha : a < 64) (hb2 : b < 64) (hal : mAl a b = true) : RdI l yX4_isClear cX4_isClear 5 (some .boolean) 1 D cI cJ [.ref w, .int (nI a), .int (nI b)] M (bI (mClear f a b)) := by
  refine rd_start (by decide) (Nat.le_of_ble_eq_true rfl) ?_
  intro p e s m args below meth c hx hb hr hml hown hts hlk hK hM ls hl
  have hl : lv_has ls 5 [(0, .ref w), (1, .int (nI a)), (2, .int (nI b))] := hl
  obtain ⟨t1, t2, t3, t4, t5⟩ := pth_tab a ha b hb2 hal
  refine lv_iload_n hx hb dX4_isClear_0 rfl (lv_at hl 2 rfl) ?_
  refine lv_bipush (v := nI 8) hx hb dX4_isClear_1 (by decide) ?_
  refine ni_rem hx hb b 8 (by omega) (by decide) (by decide) dX4_isClear_3 ?_
  refine lv_iload_n hx hb dX4_isClear_4 rfl (lv_at hl 1 rfl) ?_
  refine lv_bipush (v := nI 8) hx hb dX4_isClear_5 (by decide) ?_
  refine ni_rem hx hb a 8 (by omega) (by decide) (by decide) dX4_isClear_7 ?_
  refine rd_goI (rd_runS (As := [.int (nI (b % 8)), .int (nI (a % 8))]) (rest := []) hx hb hml hown hts hK hM okS_RX4_60_J6_compare_7cf53 (met_J6_compare_7cf53 l (b % 8) (a % 8) (by omega) (by omega)) rfl ⟨Nat.le_of_ble_eq_true rfl, Nat.le_of_ble_eq_true rfl⟩ hl.1 rfl (Nat.le_of_ble_eq_true rfl) dX4_isClear_8 ⟨Nat.le_refl _, Nat.le_refl _⟩) ?_
  refine lv_bipush (v := nI 8) hx hb dX4_isClear_11 (by decide) ?_
  refine lv_iload_n hx hb dX4_isClear_13 rfl (lv_at hl 2 rfl) ?_
  refine lv_bipush (v := nI 8) hx hb dX4_isClear_14 (by decide) ?_
  refine ni_div hx hb b 8 (by omega) (by decide) (by decide) dX4_isClear_16 ?_
  refine lv_iload_n hx hb dX4_isClear_17 rfl (lv_at hl 1 rfl) ?_
  refine lv_bipush (v := nI 8) hx hb dX4_isClear_18 (by decide) ?_
  refine ni_div hx hb a 8 (by omega) (by decide) (by decide) dX4_isClear_20 ?_
  refine rd_goI (rd_runS (As := [.int (nI (b / 8)), .int (nI (a / 8))]) (rest := [.int (nI 8), .int (cmpI (b % 8) (a % 8))]) hx hb hml hown hts hK hM okS_RX4_60_J6_compare_7cf53 (met_J6_compare_7cf53 l (b / 8) (a / 8) (by omega) (by omega)) rfl ⟨Nat.le_of_ble_eq_true rfl, Nat.le_of_ble_eq_true rfl⟩ hl.1 rfl (Nat.le_of_ble_eq_true rfl) dX4_isClear_21 ⟨Nat.le_refl _, Nat.le_refl _⟩) ?_
  refine lv_imul hx hb dX4_isClear_24 ?_
  refine lv_iadd hx hb dX4_isClear_25 ?_
  refine topi (mStep a b) rfl ?_
  refine lv_istore_n (lv' := [(3, .int (mStep a b)), (0, .ref w), (1, .int (nI a)), (2, .int (nI b))]) hx hb dX4_isClear_26 rfl hl (by decide) rfl (fun ls hl => ?_)
  refine lv_iload_n hx hb dX4_isClear_27 rfl (lv_at hl 2 rfl) ?_
  refine lv_iload_n hx hb dX4_isClear_28 rfl (lv_at hl 0 rfl) ?_
  refine lv_iadd hx hb dX4_isClear_29 ?_
  refine topi (nI (mPth a b 1)) (by have h0 := (t5 0 t2).2.2; rw [t4] at h0; exact h0) ?_
  refine lv_istore (lv' := [(4, .int (nI (mPth a b 1))), (3, .int (mStep a b)), (0, .ref w), (1, .int (nI a)), (2, .int (nI b))]) hx hb dX4_isClear_30 hl (by decide) rfl (fun ls hl => ?_)
  refine loopR (pcH := 32) (st := []) (ι := Nat) (fun ξ => [(4, .int (nI (mPth a b (ξ)))), (3, .int (mStep a b)), (0, .ref w), (1, .int (nI a)), (2, .int (nI b))]) (fun n ξ => (ξ) + n = mDist a b ∧ 1 ≤ (ξ) ∧ mClear f a b = mClearL f a b n (ξ)) ?_ ?_ (mDist a b - 1) 1 (⟨by omega, Nat.le_refl _, rfl⟩) ls (lv_sub hl [0,1,2,3,4] rfl)
  · rintro k ⟨hin, hk1, hres⟩ ls hl
    try dsimp only at hl hin hk1 hres
    have hkd : mPth a b k = b := by rw [show k = mDist a b by omega]; exact t1
    refine lv_iload hx hb dX4_isClear_32 (lv_at hl 0 rfl) ?_
    refine lv_iload_n hx hb dX4_isClear_34 rfl (lv_at hl 4 rfl) ?_
    refine ni_eq (tgt := 54) hx hb (mPth a b k) b (by omega) (by omega) dX4_isClear_35 (by decide) (fun c_35 => ?_) (fun c_35 => ?_)
    · skip
      refine lv_iload hx hb dX4_isClear_54 (lv_at hl 0 rfl) ?_
      refine lv_iload_n hx hb dX4_isClear_56 rfl (lv_at hl 4 rfl) ?_
      refine ni_ne (tgt := 64) hx hb (mPth a b k) b (by omega) (by omega) dX4_isClear_57 (by decide) (fun c_57 => ?_) (fun c_57 => ?_)
      · skip
        refine lv_iconst (v := nI 0) hx hb dX4_isClear_64 (by decide) ?_
        exact rd_zreturn hx hb hr hlk (by rw [hres]; first | (simp [mClearL, bI_t, bI_f, c_35, c_57]; done) | exact bI_f0 (by simp only [mClearL, c_35, c_57, Bool.and_eq_true, Bool.or_eq_true, decide_eq_true_eq, Bool.and_eq_false_iff, Bool.or_eq_false_iff, decide_eq_false_iff_not, Bool.not_eq_true, if_true, if_false]; omega)) dX4_isClear_65
      · skip
        refine lv_iconst (v := nI 1) hx hb dX4_isClear_60 (by decide) ?_
        refine lv_goto (tgt := 65) hx hb dX4_isClear_61 (by decide) ?_
        exact rd_zreturn hx hb hr hlk (by rw [hres]; first | (simp [mClearL, bI_t, bI_f, c_35, c_57]; done) | exact bI_1 (by simp only [mClearL, c_35, c_57, Bool.and_eq_true, Bool.or_eq_true, decide_eq_true_eq, Bool.and_eq_false_iff, Bool.or_eq_false_iff, decide_eq_false_iff_not, Bool.not_eq_true, if_true, if_false]; omega)) dX4_isClear_65
    · skip
      exfalso; omega
  · rintro n ih k ⟨hin, hk1, hres⟩ ls hl
    try dsimp only at hl hin hk1 hres
    have hkd : k < mDist a b := by omega
    have hk2 := (t5 k hkd).1
    have hk3 := (t5 k hkd).2.1
    refine lv_iload hx hb dX4_isClear_32 (lv_at hl 0 rfl) ?_
    refine lv_iload_n hx hb dX4_isClear_34 rfl (lv_at hl 4 rfl) ?_
    refine ni_eq (tgt := 54) hx hb (mPth a b k) b (by omega) (by omega) dX4_isClear_35 (by decide) (fun c_35 => ?_) (fun c_35 => ?_)
    · skip
      exfalso; omega
    · skip
      refine lv_aload_n hx hb dX4_isClear_38 rfl (lv_at hl 2 rfl) ?_
      refine lv_iload hx hb dX4_isClear_39 (lv_at hl 0 rfl) ?_
      refine w_iald hx hb hK hM hw (mPth a b k) (by omega) (by decide) dX4_isClear_41 ?_
      refine lv_if_ne (tgt := 54) hx hb dX4_isClear_42 (by decide) (fun c_42 => ?_) (fun c_42 => ?_)
      · skip
        refine lv_iload hx hb dX4_isClear_54 (lv_at hl 0 rfl) ?_
        refine lv_iload_n hx hb dX4_isClear_56 rfl (lv_at hl 4 rfl) ?_
        refine ni_ne (tgt := 64) hx hb (mPth a b k) b (by omega) (by omega) dX4_isClear_57 (by decide) (fun c_57 => ?_) (fun c_57 => ?_)
        · skip
          refine lv_iconst (v := nI 0) hx hb dX4_isClear_64 (by decide) ?_
          exact rd_zreturn hx hb hr hlk (by rw [hres]; first | (simp [mClearL, bI_t, bI_f, c_35, c_42, c_57]; done) | exact bI_f0 (by simp only [mClearL, c_35, c_42, c_57, Bool.and_eq_true, Bool.or_eq_true, decide_eq_true_eq, Bool.and_eq_false_iff, Bool.or_eq_false_iff, decide_eq_false_iff_not, Bool.not_eq_true, if_true, if_false]; omega)) dX4_isClear_65
        · skip
          refine lv_iconst (v := nI 1) hx hb dX4_isClear_60 (by decide) ?_
          refine lv_goto (tgt := 65) hx hb dX4_isClear_61 (by decide) ?_
          exact rd_zreturn hx hb hr hlk (by rw [hres]; first | (simp [mClearL, bI_t, bI_f, c_35, c_42, c_57]; done) | exact bI_1 (by simp only [mClearL, c_35, c_42, c_57, Bool.and_eq_true, Bool.or_eq_true, decide_eq_true_eq, Bool.and_eq_false_iff, Bool.or_eq_false_iff, decide_eq_false_iff_not, Bool.not_eq_true, if_true, if_false]; omega)) dX4_isClear_65
      · skip
        refine lv_iload hx hb dX4_isClear_45 (lv_at hl 0 rfl) ?_
        refine lv_iload_n hx hb dX4_isClear_47 rfl (lv_at hl 1 rfl) ?_
        refine lv_iadd hx hb dX4_isClear_48 ?_
        refine topi (nI (mPth a b (k + 1))) ((t5 k hkd).2.2) ?_
        refine lv_istore (lv' := [(4, .int (nI (mPth a b (k + 1)))), (3, .int (mStep a b)), (0, .ref w), (1, .int (nI a)), (2, .int (nI b))]) hx hb dX4_isClear_49 hl (by decide) rfl (fun ls hl => ?_)
        refine lv_goto (tgt := 32) hx hb dX4_isClear_51 (by decide) ?_
        exact ih (k + 1) ⟨by omega, by omega, by rw [hres]; simp [mClearL, c_35, c_42]⟩ ls (lv_sub hl [0,1,2,3,4] rfl)
set_option maxHeartbeats 4000000 in
set_option maxRecDepth 100000 in
theorem met_X4_attacks (l : Launch) {D : va_G} {cI cJ : ClassId} {M : MP} (w a b : Nat) (f : Nat → Int32) (hw : M w = some (eI cI 146 f)) (ha : a < 64) (hb2 : b < 64) : RdI l yX4_attacks cX4_attacks 7 (some .boolean) 2 D cI cJ [.ref w, .int (nI a), .int (nI b)] M (bI (mAtt f a b)) := by
  refine rd_start (by decide) (Nat.le_of_ble_eq_true rfl) ?_
  intro p e s m args below meth c hx hb hr hml hown hts hlk hK hM ls hl
  have hl : lv_has ls 7 [(0, .ref w), (1, .int (nI a)), (2, .int (nI b))] := hl
  have hm := mLeap_in a b ha hb2
  have hk8 := mKindN_lt f a
  have hfl : mAway (a % 8) (b % 8) ≤ 7 := mAway_le (by omega) (by omega)
  have hrk : mAway (a / 8) (b / 8) ≤ 7 := mAway_le (by omega) (by omega)
  refine lv_iload_n hx hb dX4_attacks_0 rfl (lv_at hl 1 rfl) ?_
  refine lv_bipush (v := nI 8) hx hb dX4_attacks_1 (by decide) ?_
  refine ni_rem hx hb a 8 (by omega) (by decide) (by decide) dX4_attacks_3 ?_
  refine lv_iload_n hx hb dX4_attacks_4 rfl (lv_at hl 2 rfl) ?_
  refine lv_bipush (v := nI 8) hx hb dX4_attacks_5 (by decide) ?_
  refine ni_rem hx hb b 8 (by omega) (by decide) (by decide) dX4_attacks_7 ?_
  refine rd_goI (rd_runS (As := [.int (nI (a % 8)), .int (nI (b % 8))]) (rest := []) hx hb hml hown hts hK hM okS_RX4_48_X4_away (met_X4_away l (a % 8) (b % 8) (by omega) (by omega)) rfl ⟨Nat.le_of_ble_eq_true rfl, Nat.le_of_ble_eq_true rfl⟩ hl.1 rfl (Nat.le_of_ble_eq_true rfl) dX4_attacks_8 ⟨Nat.le_refl _, Nat.le_refl _⟩) ?_
  refine lv_istore_n (lv' := [(3, .int (nI (mAway (a % 8) (b % 8)))), (0, .ref w), (1, .int (nI a)), (2, .int (nI b))]) hx hb dX4_attacks_11 rfl hl (by decide) rfl (fun ls hl => ?_)
  refine lv_iload_n hx hb dX4_attacks_12 rfl (lv_at hl 2 rfl) ?_
  refine lv_bipush (v := nI 8) hx hb dX4_attacks_13 (by decide) ?_
  refine ni_div hx hb a 8 (by omega) (by decide) (by decide) dX4_attacks_15 ?_
  refine lv_iload_n hx hb dX4_attacks_16 rfl (lv_at hl 3 rfl) ?_
  refine lv_bipush (v := nI 8) hx hb dX4_attacks_17 (by decide) ?_
  refine ni_div hx hb b 8 (by omega) (by decide) (by decide) dX4_attacks_19 ?_
  refine rd_goI (rd_runS (As := [.int (nI (a / 8)), .int (nI (b / 8))]) (rest := []) hx hb hml hown hts hK hM okS_RX4_48_X4_away (met_X4_away l (a / 8) (b / 8) (by omega) (by omega)) rfl ⟨Nat.le_of_ble_eq_true rfl, Nat.le_of_ble_eq_true rfl⟩ hl.1 rfl (Nat.le_of_ble_eq_true rfl) dX4_attacks_20 ⟨Nat.le_refl _, Nat.le_refl _⟩) ?_
  refine lv_istore (lv' := [(4, .int (nI (mAway (a / 8) (b / 8)))), (3, .int (nI (mAway (a % 8) (b % 8)))), (0, .ref w), (1, .int (nI a)), (2, .int (nI b))]) hx hb dX4_attacks_23 hl (by decide) rfl (fun ls hl => ?_)
  refine lv_iload_n hx hb dX4_attacks_25 rfl (lv_at hl 1 rfl) ?_
  refine meet (ls := ls) (pcJ := 34) (st := [.int (bI (decide (mAway (a % 8) (b % 8) = 0)))]) ?_ (fun hJ34 => ?_)
  · skip
    refine lv_iload hx hb dX4_attacks_34 (lv_at hl 0 rfl) ?_
    refine meet (ls := ls) (pcJ := 44) (st := [.int (bI (decide (mAway (a / 8) (b / 8) = 0))), .int (bI (decide (mAway (a % 8) (b % 8) = 0)))]) ?_ (fun hJ44 => ?_)
    · skip
      refine meet (ls := ls) (pcJ := 52) (st := [.int (bI (mStr a b))]) ?_ (fun hJ52 => ?_)
      · skip
        refine lv_istore (lv' := [(5, .int (bI (mStr a b))), (4, .int (nI (mAway (a / 8) (b / 8)))), (3, .int (nI (mAway (a % 8) (b % 8)))), (0, .ref w), (1, .int (nI a)), (2, .int (nI b))]) hx hb dX4_attacks_52 hl (by decide) rfl (fun ls hl => ?_)
        refine lv_iload_n hx hb dX4_attacks_54 rfl (lv_at hl 2 rfl) ?_
        refine lv_iload hx hb dX4_attacks_55 (lv_at hl 1 rfl) ?_
        refine meet (ls := ls) (pcJ := 69) (st := [.int (bI (mDia a b))]) ?_ (fun hJ69 => ?_)
        · skip
          refine lv_istore (lv' := [(6, .int (bI (mDia a b))), (5, .int (bI (mStr a b))), (4, .int (nI (mAway (a / 8) (b / 8)))), (3, .int (nI (mAway (a % 8) (b % 8)))), (0, .ref w), (1, .int (nI a)), (2, .int (nI b))]) hx hb dX4_attacks_69 hl (by decide) rfl (fun ls hl => ?_)
          refine lv_aload_n hx hb dX4_attacks_71 rfl (lv_at hl 4 rfl) ?_
          refine lv_iload_n hx hb dX4_attacks_72 rfl (lv_at hl 5 rfl) ?_
          refine rd_goI (rd_runS (As := [.ref w, .int (nI a)]) (rest := []) hx hb hml hown hts hK hM okS_RX4_65_X4_kind (met_X4_kind l w a f hw (by omega)) rfl ⟨Nat.le_of_ble_eq_true rfl, Nat.le_of_ble_eq_true rfl⟩ hl.1 rfl (Nat.le_of_ble_eq_true rfl) dX4_attacks_73 ⟨Nat.le_refl _, Nat.le_refl _⟩) ?_
          rcases (show (mKindN f a) = 1 ∨ (mKindN f a) = 2 ∨ (mKindN f a) = 3 ∨ (mKindN f a) = 4 ∨ (mKindN f a) = 5 ∨ (mKindN f a) = 6 ∨ ((mKindN f a) < 1 ∨ 6 < (mKindN f a)) from by omega) with c_76 | c_76 | c_76 | c_76 | c_76 | c_76 | c_76
          · refine sw_at c_76 ?_
            refine lv_tableIn (tgt := 116) (off := 40) hx hb dX4_attacks_76 (by decide) (by decide) (by decide) (by decide) ?_
            refine lv_iload_n hx hb dX4_attacks_116 rfl (lv_at hl 3 rfl) ?_
            refine lv_iconst (v := nI 1) hx hb dX4_attacks_117 (by decide) ?_
            refine ni_gt (tgt := 138) hx hb (mAway (a % 8) (b % 8)) 1 (by omega) (by omega) dX4_attacks_118 (by decide) (fun c_118 => ?_) (fun c_118 => ?_)
            · skip
              refine lv_iconst (v := nI 0) hx hb dX4_attacks_138 (by decide) ?_
              exact rd_zreturn hx hb hr hlk (by first | (simp [mAtt, bI_t, bI_f, c_76, c_118, Nat.not_le.mpr c_118, Nat.le_of_lt c_118]; done) | exact bI_f0 (by simp only [mAtt, c_76, c_118, Nat.not_le.mpr c_118, Nat.le_of_lt c_118, Bool.and_eq_true, Bool.or_eq_true, decide_eq_true_eq, Bool.and_eq_false_iff, Bool.or_eq_false_iff, decide_eq_false_iff_not, Bool.not_eq_true, if_true, if_false]; omega)) dX4_attacks_139
            · skip
              refine lv_iload hx hb dX4_attacks_121 (lv_at hl 2 rfl) ?_
              refine lv_iconst (v := nI 1) hx hb dX4_attacks_123 (by decide) ?_
              refine ni_gt (tgt := 138) hx hb (mAway (a / 8) (b / 8)) 1 (by omega) (by omega) dX4_attacks_124 (by decide) (fun c_124 => ?_) (fun c_124 => ?_)
              · skip
                refine lv_iconst (v := nI 0) hx hb dX4_attacks_138 (by decide) ?_
                exact rd_zreturn hx hb hr hlk (by first | (simp [mAtt, bI_t, bI_f, c_76, c_118, Nat.not_lt.mpr c_118, c_124, Nat.not_le.mpr c_124, Nat.le_of_lt c_124]; done) | exact bI_f0 (by simp only [mAtt, c_76, c_118, Nat.not_lt.mpr c_118, c_124, Nat.not_le.mpr c_124, Nat.le_of_lt c_124, Bool.and_eq_true, Bool.or_eq_true, decide_eq_true_eq, Bool.and_eq_false_iff, Bool.or_eq_false_iff, decide_eq_false_iff_not, Bool.not_eq_true, if_true, if_false]; omega)) dX4_attacks_139
              · skip
                refine lv_iload_n hx hb dX4_attacks_127 rfl (lv_at hl 3 rfl) ?_
                refine lv_iload hx hb dX4_attacks_128 (lv_at hl 2 rfl) ?_
                refine ni_add hx hb (mAway (a % 8) (b % 8)) (mAway (a / 8) (b / 8)) dX4_attacks_130 ?_
                refine n0_le (tgt := 138) hx hb ((mAway (a % 8) (b % 8)) + (mAway (a / 8) (b / 8))) (by omega) dX4_attacks_131 (by decide) (fun c_131 => ?_) (fun c_131 => ?_)
                · skip
                  refine lv_iconst (v := nI 0) hx hb dX4_attacks_138 (by decide) ?_
                  exact rd_zreturn hx hb hr hlk (by first | (simp [mAtt, bI_t, bI_f, c_76, c_118, Nat.not_lt.mpr c_118, c_124, Nat.not_lt.mpr c_124, c_131]; done) | exact bI_f0 (by simp only [mAtt, c_76, c_118, Nat.not_lt.mpr c_118, c_124, Nat.not_lt.mpr c_124, c_131, Bool.and_eq_true, Bool.or_eq_true, decide_eq_true_eq, Bool.and_eq_false_iff, Bool.or_eq_false_iff, decide_eq_false_iff_not, Bool.not_eq_true, if_true, if_false]; omega)) dX4_attacks_139
                · skip
                  refine lv_iconst (v := nI 1) hx hb dX4_attacks_134 (by decide) ?_
                  refine lv_goto (tgt := 139) hx hb dX4_attacks_135 (by decide) ?_
                  exact rd_zreturn hx hb hr hlk (by first | (simp [mAtt, bI_t, bI_f, c_76, c_118, Nat.not_lt.mpr c_118, c_124, Nat.not_lt.mpr c_124, c_131]; done) | exact bI_1 (by simp only [mAtt, c_76, c_118, Nat.not_lt.mpr c_118, c_124, Nat.not_lt.mpr c_124, c_131, Bool.and_eq_true, Bool.or_eq_true, decide_eq_true_eq, Bool.and_eq_false_iff, Bool.or_eq_false_iff, decide_eq_false_iff_not, Bool.not_eq_true, if_true, if_false]; omega)) dX4_attacks_139
          · refine sw_at c_76 ?_
            refine lv_tableIn (tgt := 140) (off := 64) hx hb dX4_attacks_76 (by decide) (by decide) (by decide) (by decide) ?_
            refine lv_iload hx hb dX4_attacks_140 (lv_at hl 1 rfl) ?_
            refine zb_ne (tgt := 150) hx hb (mStr a b) dX4_attacks_142 (by decide) (fun c_142 => ?_) (fun c_142 => ?_)
            · skip
              refine lv_aload_n hx hb dX4_attacks_150 rfl (lv_at hl 4 rfl) ?_
              refine lv_iload_n hx hb dX4_attacks_151 rfl (lv_at hl 5 rfl) ?_
              refine lv_iload_n hx hb dX4_attacks_152 rfl (lv_at hl 6 rfl) ?_
              refine rd_goI (rd_runS (As := [.ref w, .int (nI a), .int (nI b)]) (rest := []) hx hb hml hown hts hK hM okS_RX4_69_X4_isClear (met_X4_isClear l w a b f hw (by omega) (by omega) (by unfold mAl; simp [c_76, c_142])) rfl ⟨Nat.le_of_ble_eq_true rfl, Nat.le_of_ble_eq_true rfl⟩ hl.1 rfl (Nat.le_of_ble_eq_true rfl) dX4_attacks_153 ⟨Nat.le_refl _, Nat.le_refl _⟩) ?_
              refine zb_eq (tgt := 163) hx hb (mClear f a b) dX4_attacks_156 (by decide) (fun c_156 => ?_) (fun c_156 => ?_)
              · skip
                refine lv_iconst (v := nI 0) hx hb dX4_attacks_163 (by decide) ?_
                exact rd_zreturn hx hb hr hlk (by first | (simp [mAtt, bI_t, bI_f, c_76, c_142, c_156]; done) | exact bI_f0 (by simp only [mAtt, c_76, c_142, c_156, Bool.and_eq_true, Bool.or_eq_true, decide_eq_true_eq, Bool.and_eq_false_iff, Bool.or_eq_false_iff, decide_eq_false_iff_not, Bool.not_eq_true, if_true, if_false]; omega)) dX4_attacks_164
              · skip
                refine lv_iconst (v := nI 1) hx hb dX4_attacks_159 (by decide) ?_
                refine lv_goto (tgt := 164) hx hb dX4_attacks_160 (by decide) ?_
                exact rd_zreturn hx hb hr hlk (by first | (simp [mAtt, bI_t, bI_f, c_76, c_142, c_156]; done) | exact bI_1 (by simp only [mAtt, c_76, c_142, c_156, Bool.and_eq_true, Bool.or_eq_true, decide_eq_true_eq, Bool.and_eq_false_iff, Bool.or_eq_false_iff, decide_eq_false_iff_not, Bool.not_eq_true, if_true, if_false]; omega)) dX4_attacks_164
            · skip
              refine lv_iload hx hb dX4_attacks_145 (lv_at hl 0 rfl) ?_
              refine zb_eq (tgt := 163) hx hb (mDia a b) dX4_attacks_147 (by decide) (fun c_147 => ?_) (fun c_147 => ?_)
              · skip
                refine lv_iconst (v := nI 0) hx hb dX4_attacks_163 (by decide) ?_
                exact rd_zreturn hx hb hr hlk (by first | (simp [mAtt, bI_t, bI_f, c_76, c_142, c_147]; done) | exact bI_f0 (by simp only [mAtt, c_76, c_142, c_147, Bool.and_eq_true, Bool.or_eq_true, decide_eq_true_eq, Bool.and_eq_false_iff, Bool.or_eq_false_iff, decide_eq_false_iff_not, Bool.not_eq_true, if_true, if_false]; omega)) dX4_attacks_164
              · skip
                refine lv_aload_n hx hb dX4_attacks_150 rfl (lv_at hl 4 rfl) ?_
                refine lv_iload_n hx hb dX4_attacks_151 rfl (lv_at hl 5 rfl) ?_
                refine lv_iload_n hx hb dX4_attacks_152 rfl (lv_at hl 6 rfl) ?_
                refine rd_goI (rd_runS (As := [.ref w, .int (nI a), .int (nI b)]) (rest := []) hx hb hml hown hts hK hM okS_RX4_69_X4_isClear (met_X4_isClear l w a b f hw (by omega) (by omega) (by unfold mAl; simp [c_76, c_142, c_147])) rfl ⟨Nat.le_of_ble_eq_true rfl, Nat.le_of_ble_eq_true rfl⟩ hl.1 rfl (Nat.le_of_ble_eq_true rfl) dX4_attacks_153 ⟨Nat.le_refl _, Nat.le_refl _⟩) ?_
                refine zb_eq (tgt := 163) hx hb (mClear f a b) dX4_attacks_156 (by decide) (fun c_156 => ?_) (fun c_156 => ?_)
                · skip
                  refine lv_iconst (v := nI 0) hx hb dX4_attacks_163 (by decide) ?_
                  exact rd_zreturn hx hb hr hlk (by first | (simp [mAtt, bI_t, bI_f, c_76, c_142, c_147, c_156]; done) | exact bI_f0 (by simp only [mAtt, c_76, c_142, c_147, c_156, Bool.and_eq_true, Bool.or_eq_true, decide_eq_true_eq, Bool.and_eq_false_iff, Bool.or_eq_false_iff, decide_eq_false_iff_not, Bool.not_eq_true, if_true, if_false]; omega)) dX4_attacks_164
                · skip
                  refine lv_iconst (v := nI 1) hx hb dX4_attacks_159 (by decide) ?_
                  refine lv_goto (tgt := 164) hx hb dX4_attacks_160 (by decide) ?_
                  exact rd_zreturn hx hb hr hlk (by first | (simp [mAtt, bI_t, bI_f, c_76, c_142, c_147, c_156]; done) | exact bI_1 (by simp only [mAtt, c_76, c_142, c_147, c_156, Bool.and_eq_true, Bool.or_eq_true, decide_eq_true_eq, Bool.and_eq_false_iff, Bool.or_eq_false_iff, decide_eq_false_iff_not, Bool.not_eq_true, if_true, if_false]; omega)) dX4_attacks_164
          · refine sw_at c_76 ?_
            refine lv_tableIn (tgt := 165) (off := 89) hx hb dX4_attacks_76 (by decide) (by decide) (by decide) (by decide) ?_
            refine lv_iload hx hb dX4_attacks_165 (lv_at hl 1 rfl) ?_
            refine zb_eq (tgt := 183) hx hb (mStr a b) dX4_attacks_167 (by decide) (fun c_167 => ?_) (fun c_167 => ?_)
            · skip
              refine lv_iconst (v := nI 0) hx hb dX4_attacks_183 (by decide) ?_
              exact rd_zreturn hx hb hr hlk (by first | (simp [mAtt, bI_t, bI_f, c_76, c_167]; done) | exact bI_f0 (by simp only [mAtt, c_76, c_167, Bool.and_eq_true, Bool.or_eq_true, decide_eq_true_eq, Bool.and_eq_false_iff, Bool.or_eq_false_iff, decide_eq_false_iff_not, Bool.not_eq_true, if_true, if_false]; omega)) dX4_attacks_184
            · skip
              refine lv_aload_n hx hb dX4_attacks_170 rfl (lv_at hl 4 rfl) ?_
              refine lv_iload_n hx hb dX4_attacks_171 rfl (lv_at hl 5 rfl) ?_
              refine lv_iload_n hx hb dX4_attacks_172 rfl (lv_at hl 6 rfl) ?_
              refine rd_goI (rd_runS (As := [.ref w, .int (nI a), .int (nI b)]) (rest := []) hx hb hml hown hts hK hM okS_RX4_69_X4_isClear (met_X4_isClear l w a b f hw (by omega) (by omega) (by unfold mAl; simp [c_76, c_167])) rfl ⟨Nat.le_of_ble_eq_true rfl, Nat.le_of_ble_eq_true rfl⟩ hl.1 rfl (Nat.le_of_ble_eq_true rfl) dX4_attacks_173 ⟨Nat.le_refl _, Nat.le_refl _⟩) ?_
              refine zb_eq (tgt := 183) hx hb (mClear f a b) dX4_attacks_176 (by decide) (fun c_176 => ?_) (fun c_176 => ?_)
              · skip
                refine lv_iconst (v := nI 0) hx hb dX4_attacks_183 (by decide) ?_
                exact rd_zreturn hx hb hr hlk (by first | (simp [mAtt, bI_t, bI_f, c_76, c_167, c_176]; done) | exact bI_f0 (by simp only [mAtt, c_76, c_167, c_176, Bool.and_eq_true, Bool.or_eq_true, decide_eq_true_eq, Bool.and_eq_false_iff, Bool.or_eq_false_iff, decide_eq_false_iff_not, Bool.not_eq_true, if_true, if_false]; omega)) dX4_attacks_184
              · skip
                refine lv_iconst (v := nI 1) hx hb dX4_attacks_179 (by decide) ?_
                refine lv_goto (tgt := 184) hx hb dX4_attacks_180 (by decide) ?_
                exact rd_zreturn hx hb hr hlk (by first | (simp [mAtt, bI_t, bI_f, c_76, c_167, c_176]; done) | exact bI_1 (by simp only [mAtt, c_76, c_167, c_176, Bool.and_eq_true, Bool.or_eq_true, decide_eq_true_eq, Bool.and_eq_false_iff, Bool.or_eq_false_iff, decide_eq_false_iff_not, Bool.not_eq_true, if_true, if_false]; omega)) dX4_attacks_184
          · refine sw_at c_76 ?_
            refine lv_tableIn (tgt := 185) (off := 109) hx hb dX4_attacks_76 (by decide) (by decide) (by decide) (by decide) ?_
            refine lv_iload hx hb dX4_attacks_185 (lv_at hl 0 rfl) ?_
            refine zb_eq (tgt := 203) hx hb (mDia a b) dX4_attacks_187 (by decide) (fun c_187 => ?_) (fun c_187 => ?_)
            · skip
              refine lv_iconst (v := nI 0) hx hb dX4_attacks_203 (by decide) ?_
              exact rd_zreturn hx hb hr hlk (by first | (simp [mAtt, bI_t, bI_f, c_76, c_187]; done) | exact bI_f0 (by simp only [mAtt, c_76, c_187, Bool.and_eq_true, Bool.or_eq_true, decide_eq_true_eq, Bool.and_eq_false_iff, Bool.or_eq_false_iff, decide_eq_false_iff_not, Bool.not_eq_true, if_true, if_false]; omega)) dX4_attacks_204
            · skip
              refine lv_aload_n hx hb dX4_attacks_190 rfl (lv_at hl 4 rfl) ?_
              refine lv_iload_n hx hb dX4_attacks_191 rfl (lv_at hl 5 rfl) ?_
              refine lv_iload_n hx hb dX4_attacks_192 rfl (lv_at hl 6 rfl) ?_
              refine rd_goI (rd_runS (As := [.ref w, .int (nI a), .int (nI b)]) (rest := []) hx hb hml hown hts hK hM okS_RX4_69_X4_isClear (met_X4_isClear l w a b f hw (by omega) (by omega) (by unfold mAl; simp [c_76, c_187])) rfl ⟨Nat.le_of_ble_eq_true rfl, Nat.le_of_ble_eq_true rfl⟩ hl.1 rfl (Nat.le_of_ble_eq_true rfl) dX4_attacks_193 ⟨Nat.le_refl _, Nat.le_refl _⟩) ?_
              refine zb_eq (tgt := 203) hx hb (mClear f a b) dX4_attacks_196 (by decide) (fun c_196 => ?_) (fun c_196 => ?_)
              · skip
                refine lv_iconst (v := nI 0) hx hb dX4_attacks_203 (by decide) ?_
                exact rd_zreturn hx hb hr hlk (by first | (simp [mAtt, bI_t, bI_f, c_76, c_187, c_196]; done) | exact bI_f0 (by simp only [mAtt, c_76, c_187, c_196, Bool.and_eq_true, Bool.or_eq_true, decide_eq_true_eq, Bool.and_eq_false_iff, Bool.or_eq_false_iff, decide_eq_false_iff_not, Bool.not_eq_true, if_true, if_false]; omega)) dX4_attacks_204
              · skip
                refine lv_iconst (v := nI 1) hx hb dX4_attacks_199 (by decide) ?_
                refine lv_goto (tgt := 204) hx hb dX4_attacks_200 (by decide) ?_
                exact rd_zreturn hx hb hr hlk (by first | (simp [mAtt, bI_t, bI_f, c_76, c_187, c_196]; done) | exact bI_1 (by simp only [mAtt, c_76, c_187, c_196, Bool.and_eq_true, Bool.or_eq_true, decide_eq_true_eq, Bool.and_eq_false_iff, Bool.or_eq_false_iff, decide_eq_false_iff_not, Bool.not_eq_true, if_true, if_false]; omega)) dX4_attacks_204
          · refine sw_at c_76 ?_
            refine lv_tableIn (tgt := 205) (off := 129) hx hb dX4_attacks_76 (by decide) (by decide) (by decide) (by decide) ?_
            refine lv_iload_n hx hb dX4_attacks_205 rfl (lv_at hl 3 rfl) ?_
            refine lv_iload hx hb dX4_attacks_206 (lv_at hl 2 rfl) ?_
            refine ni_mul hx hb (mAway (a % 8) (b % 8)) (mAway (a / 8) (b / 8)) dX4_attacks_208 ?_
            refine lv_iconst (v := nI 2) hx hb dX4_attacks_209 (by decide) ?_
            refine ni_ne (tgt := 217) hx hb ((mAway (a % 8) (b % 8)) * (mAway (a / 8) (b / 8))) 2 (by omega) (by omega) dX4_attacks_210 (by decide) (fun c_210 => ?_) (fun c_210 => ?_)
            · skip
              refine lv_iconst (v := nI 0) hx hb dX4_attacks_217 (by decide) ?_
              exact rd_zreturn hx hb hr hlk (by first | (simp [mAtt, bI_t, bI_f, c_76, c_210]; done) | exact bI_f0 (by simp only [mAtt, c_76, c_210, Bool.and_eq_true, Bool.or_eq_true, decide_eq_true_eq, Bool.and_eq_false_iff, Bool.or_eq_false_iff, decide_eq_false_iff_not, Bool.not_eq_true, if_true, if_false]; omega)) dX4_attacks_218
            · skip
              refine lv_iconst (v := nI 1) hx hb dX4_attacks_213 (by decide) ?_
              refine lv_goto (tgt := 218) hx hb dX4_attacks_214 (by decide) ?_
              exact rd_zreturn hx hb hr hlk (by first | (simp [mAtt, bI_t, bI_f, c_76, c_210]; done) | exact bI_1 (by simp only [mAtt, c_76, c_210, Bool.and_eq_true, Bool.or_eq_true, decide_eq_true_eq, Bool.and_eq_false_iff, Bool.or_eq_false_iff, decide_eq_false_iff_not, Bool.not_eq_true, if_true, if_false]; omega)) dX4_attacks_218
          · refine sw_at c_76 ?_
            refine lv_tableIn (tgt := 219) (off := 143) hx hb dX4_attacks_76 (by decide) (by decide) (by decide) (by decide) ?_
            refine lv_iload_n hx hb dX4_attacks_219 rfl (lv_at hl 3 rfl) ?_
            refine lv_iconst (v := nI 1) hx hb dX4_attacks_220 (by decide) ?_
            refine ni_ne (tgt := 240) hx hb (mAway (a % 8) (b % 8)) 1 (by omega) (by omega) dX4_attacks_221 (by decide) (fun c_221 => ?_) (fun c_221 => ?_)
            · skip
              refine lv_iconst (v := nI 0) hx hb dX4_attacks_240 (by decide) ?_
              exact rd_zreturn hx hb hr hlk (by first | (simp [mAtt, bI_t, bI_f, c_76, c_221]; done) | exact bI_f0 (by simp only [mAtt, c_76, c_221, Bool.and_eq_true, Bool.or_eq_true, decide_eq_true_eq, Bool.and_eq_false_iff, Bool.or_eq_false_iff, decide_eq_false_iff_not, Bool.not_eq_true, if_true, if_false]; omega)) dX4_attacks_241
            · skip
              refine lv_iload_n hx hb dX4_attacks_224 rfl (lv_at hl 6 rfl) ?_
              refine lv_bipush (v := nI 8) hx hb dX4_attacks_225 (by decide) ?_
              refine ni_div hx hb b 8 (by omega) (by decide) (by decide) dX4_attacks_227 ?_
              refine lv_aload_n hx hb dX4_attacks_228 rfl (lv_at hl 4 rfl) ?_
              refine lv_iload_n hx hb dX4_attacks_229 rfl (lv_at hl 5 rfl) ?_
              refine rd_goI (rd_runS (As := [.ref w, .int (nI a)]) (rest := [.int (nI (b / 8))]) hx hb hml hown hts hK hM okS_RX4_73_X4_ahead (met_X4_ahead l w a f hw (by omega)) rfl ⟨Nat.le_of_ble_eq_true rfl, Nat.le_of_ble_eq_true rfl⟩ hl.1 rfl (Nat.le_of_ble_eq_true rfl) dX4_attacks_230 ⟨Nat.le_refl _, Nat.le_refl _⟩) ?_
              refine lv_icmp_ne (tgt := 240) hx hb dX4_attacks_233 (by decide) (fun c_233 => ?_) (fun c_233 => ?_)
              · skip
                refine lv_iconst (v := nI 0) hx hb dX4_attacks_240 (by decide) ?_
                exact rd_zreturn hx hb hr hlk (by first | (simp [mAtt, bI_t, bI_f, c_76, c_221, c_233]; done) | exact bI_f0 (by simp only [mAtt, c_76, c_221, c_233, Bool.and_eq_true, Bool.or_eq_true, decide_eq_true_eq, Bool.and_eq_false_iff, Bool.or_eq_false_iff, decide_eq_false_iff_not, Bool.not_eq_true, if_true, if_false]; omega)) dX4_attacks_241
              · skip
                refine lv_iconst (v := nI 1) hx hb dX4_attacks_236 (by decide) ?_
                refine lv_goto (tgt := 241) hx hb dX4_attacks_237 (by decide) ?_
                exact rd_zreturn hx hb hr hlk (by first | (simp [mAtt, bI_t, bI_f, c_76, c_221, c_233]; done) | exact bI_1 (by simp only [mAtt, c_76, c_221, c_233, Bool.and_eq_true, Bool.or_eq_true, decide_eq_true_eq, Bool.and_eq_false_iff, Bool.or_eq_false_iff, decide_eq_false_iff_not, Bool.not_eq_true, if_true, if_false]; omega)) dX4_attacks_241
          · refine lv_tableOut (tgt := 242) hx hb dX4_attacks_76 (sw_out (by omega) c_76) (by decide) ?_
            refine lv_iconst (v := nI 0) hx hb dX4_attacks_242 (by decide) ?_
            exact rd_zreturn hx hb hr hlk (by first | (simp [mAtt, bI_t, bI_f, show ¬ (mKindN f a) = 1 by omega, show ¬ (mKindN f a) = 2 by omega, show ¬ (mKindN f a) = 3 by omega, show ¬ (mKindN f a) = 4 by omega, show ¬ (mKindN f a) = 5 by omega, show ¬ (mKindN f a) = 6 by omega]; done) | exact bI_f0 (by simp only [mAtt, show ¬ (mKindN f a) = 1 by omega, show ¬ (mKindN f a) = 2 by omega, show ¬ (mKindN f a) = 3 by omega, show ¬ (mKindN f a) = 4 by omega, show ¬ (mKindN f a) = 5 by omega, show ¬ (mKindN f a) = 6 by omega, Bool.and_eq_true, Bool.or_eq_true, decide_eq_true_eq, Bool.and_eq_false_iff, Bool.or_eq_false_iff, decide_eq_false_iff_not, Bool.not_eq_true, if_true, if_false]; omega)) dX4_attacks_243
        · skip
          refine ni_ne (tgt := 68) hx hb (mAway (a % 8) (b % 8)) (mAway (a / 8) (b / 8)) (by omega) (by omega) dX4_attacks_57 (by decide) (fun c_57 => ?_) (fun c_57 => ?_)
          · skip
            refine lv_iconst (v := nI 0) hx hb dX4_attacks_68 (by decide) ?_
            exact topi (bI (mDia a b)) (by first | exact bI_1 (by simp only [mDia, Bool.and_eq_true, decide_eq_true_eq]; omega) | exact bI_f0 (by simp only [mDia, Bool.and_eq_false_iff, decide_eq_false_iff_not]; omega)) hJ69
          · skip
            refine lv_iload_n hx hb dX4_attacks_60 rfl (lv_at hl 2 rfl) ?_
            refine n0_le (tgt := 68) hx hb (mAway (a % 8) (b % 8)) (by omega) dX4_attacks_61 (by decide) (fun c_61 => ?_) (fun c_61 => ?_)
            · skip
              refine lv_iconst (v := nI 0) hx hb dX4_attacks_68 (by decide) ?_
              exact topi (bI (mDia a b)) (by first | exact bI_1 (by simp only [mDia, Bool.and_eq_true, decide_eq_true_eq]; omega) | exact bI_f0 (by simp only [mDia, Bool.and_eq_false_iff, decide_eq_false_iff_not]; omega)) hJ69
            · skip
              refine lv_iconst (v := nI 1) hx hb dX4_attacks_64 (by decide) ?_
              refine lv_goto (tgt := 69) hx hb dX4_attacks_65 (by decide) ?_
              exact topi (bI (mDia a b)) (by first | exact bI_1 (by simp only [mDia, Bool.and_eq_true, decide_eq_true_eq]; omega) | exact bI_f0 (by simp only [mDia, Bool.and_eq_false_iff, decide_eq_false_iff_not]; omega)) hJ69
      · skip
        refine zz_eq (tgt := 51) hx hb (decide (mAway (a % 8) (b % 8) = 0)) (decide (mAway (a / 8) (b / 8) = 0)) dX4_attacks_44 (by decide) (fun c_44 => ?_) (fun c_44 => ?_)
        · skip
          refine lv_iconst (v := nI 0) hx hb dX4_attacks_51 (by decide) ?_
          exact topi (bI (mStr a b)) (by first | exact bI_1 (mStr_t c_44) | exact bI_f0 (mStr_f c_44)) hJ52
        · skip
          refine lv_iconst (v := nI 1) hx hb dX4_attacks_47 (by decide) ?_
          refine lv_goto (tgt := 52) hx hb dX4_attacks_48 (by decide) ?_
          exact topi (bI (mStr a b)) (by first | exact bI_1 (mStr_t c_44) | exact bI_f0 (mStr_f c_44)) hJ52
    · skip
      refine n0_ne (tgt := 43) hx hb (mAway (a / 8) (b / 8)) (by omega) dX4_attacks_36 (by decide) (fun c_36 => ?_) (fun c_36 => ?_)
      · skip
        refine lv_iconst (v := nI 0) hx hb dX4_attacks_43 (by decide) ?_
        exact topi (bI (decide (mAway (a / 8) (b / 8) = 0))) (by first | (simp [c_36, bI_t, bI_f]; done) | exact bI_1 (by simp only [mDia, c_36, Bool.and_eq_true, decide_eq_true_eq]; omega) | exact bI_f0 (by simp only [mDia, c_36, Bool.and_eq_false_iff, decide_eq_false_iff_not]; omega)) hJ44
      · skip
        refine lv_iconst (v := nI 1) hx hb dX4_attacks_39 (by decide) ?_
        refine lv_goto (tgt := 44) hx hb dX4_attacks_40 (by decide) ?_
        exact topi (bI (decide (mAway (a / 8) (b / 8) = 0))) (by first | (simp [c_36, bI_t, bI_f]; done) | exact bI_1 (by simp only [mDia, c_36, Bool.and_eq_true, decide_eq_true_eq]; omega) | exact bI_f0 (by simp only [mDia, c_36, Bool.and_eq_false_iff, decide_eq_false_iff_not]; omega)) hJ44
  · skip
    refine n0_ne (tgt := 33) hx hb (mAway (a % 8) (b % 8)) (by omega) dX4_attacks_26 (by decide) (fun c_26 => ?_) (fun c_26 => ?_)
    · skip
      refine lv_iconst (v := nI 0) hx hb dX4_attacks_33 (by decide) ?_
      exact topi (bI (decide (mAway (a % 8) (b % 8) = 0))) (by first | (simp [c_26, bI_t, bI_f]; done) | exact bI_1 (by simp only [mDia, c_26, Bool.and_eq_true, decide_eq_true_eq]; omega) | exact bI_f0 (by simp only [mDia, c_26, Bool.and_eq_false_iff, decide_eq_false_iff_not]; omega)) hJ34
    · skip
      refine lv_iconst (v := nI 1) hx hb dX4_attacks_29 (by decide) ?_
      refine lv_goto (tgt := 34) hx hb dX4_attacks_30 (by decide) ?_
      exact topi (bI (decide (mAway (a % 8) (b % 8) = 0))) (by first | (simp [c_26, bI_t, bI_f]; done) | exact bI_1 (by simp only [mDia, c_26, Bool.and_eq_true, decide_eq_true_eq]; omega) | exact bI_f0 (by simp only [mDia, c_26, Bool.and_eq_false_iff, decide_eq_false_iff_not]; omega)) hJ34
set_option maxHeartbeats 4000000 in
set_option maxRecDepth 100000 in
theorem met_X4_isAttacked (l : Launch) {D : va_G} {cI cJ : ClassId} {M : MP} (w q sd : Nat) (f : Nat → Int32) (hw : M w = some (eI cI 146 f)) (hq : q < 64) (hsd : sd ≤ 8) : RdI l yX4_isAttacked cX4_isAttacked 4 (some .boolean) 3 D cI cJ [.ref w, .int (nI q), .int (nI sd)] M (bI (mIsAtt f q sd)) := by
  refine rd_start (by decide) (Nat.le_of_ble_eq_true rfl) ?_
  intro p e s m args below meth c hx hb hr hml hown hts hlk hK hM ls hl
  have hl : lv_has ls 4 [(0, .ref w), (1, .int (nI q)), (2, .int (nI sd))] := hl
  refine lv_iconst (v := nI 0) hx hb dX4_isAttacked_0 (by decide) ?_
  refine lv_istore_n (lv' := [(3, .int (nI 0)), (0, .ref w), (1, .int (nI q)), (2, .int (nI sd))]) hx hb dX4_isAttacked_1 rfl hl (by decide) rfl (fun ls hl => ?_)
  refine loopR (pcH := 2) (st := []) (ι := Nat) (fun ξ => [(3, .int (nI (ξ))), (0, .ref w), (1, .int (nI q)), (2, .int (nI sd))]) (fun n ξ => (ξ) + n = 64 ∧ mIsAtt f q sd = mAnyL (fun j => mIsOf f j sd && mAtt f j q) n (ξ)) ?_ ?_ 64 0 (⟨by first | omega | (dsimp only <;> omega), rfl⟩) ls (lv_sub hl [0,1,2,3] rfl)
  · rintro i ⟨hin, hres⟩ ls hl
    try dsimp only at hl hin hres
    refine lv_iload_n hx hb dX4_isAttacked_2 rfl (lv_at hl 0 rfl) ?_
    refine lv_bipush (v := nI 64) hx hb dX4_isAttacked_3 (by decide) ?_
    refine ni_ge (tgt := 34) hx hb i 64 (by omega) (by omega) dX4_isAttacked_5 (by decide) (fun c_5 => ?_) (fun c_5 => ?_)
    · skip
      refine lv_iconst (v := nI 0) hx hb dX4_isAttacked_34 (by decide) ?_
      exact rd_zreturn hx hb hr hlk (by rw [hres]; first | (simp [mAnyL, bI_t, bI_f, c_5, Nat.not_lt.mpr c_5]; done) | exact bI_f0 (by simp only [mAnyL, c_5, Nat.not_lt.mpr c_5, Bool.and_eq_true, Bool.or_eq_true, decide_eq_true_eq, Bool.and_eq_false_iff, Bool.or_eq_false_iff, decide_eq_false_iff_not, Bool.not_eq_true, if_true, if_false]; omega)) dX4_isAttacked_35
    · skip
      exfalso; omega
  · rintro n ih i ⟨hin, hres⟩ ls hl
    try dsimp only at hl hin hres
    refine lv_iload_n hx hb dX4_isAttacked_2 rfl (lv_at hl 0 rfl) ?_
    refine lv_bipush (v := nI 64) hx hb dX4_isAttacked_3 (by decide) ?_
    refine ni_ge (tgt := 34) hx hb i 64 (by omega) (by omega) dX4_isAttacked_5 (by decide) (fun c_5 => ?_) (fun c_5 => ?_)
    · skip
      exfalso; omega
    · skip
      refine lv_aload_n hx hb dX4_isAttacked_8 rfl (lv_at hl 1 rfl) ?_
      refine lv_iload_n hx hb dX4_isAttacked_9 rfl (lv_at hl 0 rfl) ?_
      refine lv_iload_n hx hb dX4_isAttacked_10 rfl (lv_at hl 3 rfl) ?_
      refine rd_goI (rd_runS (As := [.ref w, .int (nI i), .int (nI sd)]) (rest := []) hx hb hml hown hts hK hM okS_RX4_76_X4_isOf (met_X4_isOf l w i sd f hw (by omega) (by omega)) rfl ⟨Nat.le_of_ble_eq_true rfl, Nat.le_of_ble_eq_true rfl⟩ hl.1 rfl (Nat.le_of_ble_eq_true rfl) dX4_isAttacked_11 ⟨Nat.le_refl _, Nat.le_refl _⟩) ?_
      refine zb_eq (tgt := 28) hx hb (mIsOf f i sd) dX4_isAttacked_14 (by decide) (fun c_14 => ?_) (fun c_14 => ?_)
      · skip
        refine ni_iinc (lv' := [(3, .int (nI (i + 1))), (0, .ref w), (1, .int (nI q)), (2, .int (nI sd))]) hx hb i 1 dX4_isAttacked_28 hl (k := 0) rfl (by decide) (by decide) rfl (fun ls hl => ?_)
        refine lv_goto (tgt := 2) hx hb dX4_isAttacked_31 (by decide) ?_
        exact ih (i + 1) ⟨by first | omega | (dsimp only <;> omega), by rw [hres]; simp [mAnyL, c_5, Nat.not_le.mpr c_5, Nat.le_of_lt c_5, c_14]⟩ ls (lv_sub hl [0,1,2,3] rfl)
      · skip
        refine lv_aload_n hx hb dX4_isAttacked_17 rfl (lv_at hl 1 rfl) ?_
        refine lv_iload_n hx hb dX4_isAttacked_18 rfl (lv_at hl 0 rfl) ?_
        refine lv_iload_n hx hb dX4_isAttacked_19 rfl (lv_at hl 2 rfl) ?_
        refine rd_goI (rd_runS (As := [.ref w, .int (nI i), .int (nI q)]) (rest := []) hx hb hml hown hts hK hM okS_RX4_79_X4_attacks (met_X4_attacks l w i q f hw (by omega) (by omega)) rfl ⟨Nat.le_of_ble_eq_true rfl, Nat.le_of_ble_eq_true rfl⟩ hl.1 rfl (Nat.le_of_ble_eq_true rfl) dX4_isAttacked_20 ⟨Nat.le_refl _, Nat.le_refl _⟩) ?_
        refine zb_eq (tgt := 28) hx hb (mAtt f i q) dX4_isAttacked_23 (by decide) (fun c_23 => ?_) (fun c_23 => ?_)
        · skip
          refine ni_iinc (lv' := [(3, .int (nI (i + 1))), (0, .ref w), (1, .int (nI q)), (2, .int (nI sd))]) hx hb i 1 dX4_isAttacked_28 hl (k := 0) rfl (by decide) (by decide) rfl (fun ls hl => ?_)
          refine lv_goto (tgt := 2) hx hb dX4_isAttacked_31 (by decide) ?_
          exact ih (i + 1) ⟨by first | omega | (dsimp only <;> omega), by rw [hres]; simp [mAnyL, c_5, Nat.not_le.mpr c_5, Nat.le_of_lt c_5, c_14, c_23]⟩ ls (lv_sub hl [0,1,2,3] rfl)
        · skip
          refine lv_iconst (v := nI 1) hx hb dX4_isAttacked_26 (by decide) ?_
          exact rd_zreturn hx hb hr hlk (by rw [hres]; first | (simp [mAnyL, bI_t, bI_f, c_5, Nat.not_le.mpr c_5, Nat.le_of_lt c_5, c_14, c_23]; done) | exact bI_1 (by simp only [mAnyL, c_5, Nat.not_le.mpr c_5, Nat.le_of_lt c_5, c_14, c_23, Bool.and_eq_true, Bool.or_eq_true, decide_eq_true_eq, Bool.and_eq_false_iff, Bool.or_eq_false_iff, decide_eq_false_iff_not, Bool.not_eq_true, if_true, if_false]; omega)) dX4_isAttacked_27
set_option maxHeartbeats 4000000 in
set_option maxRecDepth 100000 in
theorem met_X4_inCheck (l : Launch) {D : va_G} {cI cJ : ClassId} {M : MP} (w sd : Nat) (f : Nat → Int32) (hw : M w = some (eI cI 146 f)) (hsd : sd ≤ 8) : RdI l yX4_inCheck cX4_inCheck 3 (some .boolean) 4 D cI cJ [.ref w, .int (nI sd)] M (bI (mInCheck f sd)) := by
  refine rd_start (by decide) (Nat.le_of_ble_eq_true rfl) ?_
  intro p e s m args below meth c hx hb hr hml hown hts hlk hK hM ls hl
  have hl : lv_has ls 3 [(0, .ref w), (1, .int (nI sd))] := hl
  refine lv_aload_n hx hb dX4_inCheck_0 rfl (lv_at hl 0 rfl) ?_
  refine lv_iload_n hx hb dX4_inCheck_1 rfl (lv_at hl 1 rfl) ?_
  refine rd_goI (rd_runS (As := [.ref w, .int (nI sd)]) (rest := []) hx hb hml hown hts hK hM okS_RX4_82_X4_king (met_X4_king l w sd f hw) rfl ⟨Nat.le_of_ble_eq_true rfl, Nat.le_of_ble_eq_true rfl⟩ hl.1 rfl (Nat.le_of_ble_eq_true rfl) dX4_inCheck_2 ⟨Nat.le_refl _, Nat.le_refl _⟩) ?_
  rcases hkq : mKing f sd with _ | kq
  · refine topi (-1) oI_n ?_
    refine lv_istore_n (lv' := [(2, .int (-1)), (0, .ref w), (1, .int (nI sd))]) hx hb dX4_inCheck_5 rfl hl (by decide) rfl (fun ls hl => ?_)
    refine lv_iload_n hx hb dX4_inCheck_6 rfl (lv_at hl 0 rfl) ?_
    refine lv_iconst (v := (-1)) hx hb dX4_inCheck_7 (by decide) ?_
    refine mm_eq (tgt := 27) hx hb (-1) dX4_inCheck_8 (by decide) ?_
    refine lv_iconst (v := nI 0) hx hb dX4_inCheck_27 (by decide) ?_
    exact rd_zreturn hx hb hr hlk (by first | (simp [mInCheck, bI_t, bI_f, hkq]; done) | exact bI_f0 (by simp only [mInCheck, hkq, Bool.and_eq_true, Bool.or_eq_true, decide_eq_true_eq, Bool.and_eq_false_iff, Bool.or_eq_false_iff, decide_eq_false_iff_not, Bool.not_eq_true, if_true, if_false]; omega)) dX4_inCheck_28
  · refine topi (nI kq) (oI_s kq) ?_
    have hkb := mKing_lt hkq
    refine lv_istore_n (lv' := [(2, .int (nI kq)), (0, .ref w), (1, .int (nI sd))]) hx hb dX4_inCheck_5 rfl hl (by decide) rfl (fun ls hl => ?_)
    refine lv_iload_n hx hb dX4_inCheck_6 rfl (lv_at hl 0 rfl) ?_
    refine lv_iconst (v := (-1)) hx hb dX4_inCheck_7 (by decide) ?_
    refine nm_eq (tgt := 27) hx hb kq (by omega) dX4_inCheck_8 (by decide) ?_
    refine lv_aload_n hx hb dX4_inCheck_11 rfl (lv_at hl 1 rfl) ?_
    refine lv_iload_n hx hb dX4_inCheck_12 rfl (lv_at hl 0 rfl) ?_
    refine lv_bipush (v := nI 8) hx hb dX4_inCheck_13 (by decide) ?_
    refine lv_iload_n hx hb dX4_inCheck_15 rfl (lv_at hl 2 rfl) ?_
    refine ni_sub hx hb 8 sd (by omega) dX4_inCheck_16 ?_
    refine rd_goI (rd_runS (As := [.ref w, .int (nI kq), .int (nI (8 - sd))]) (rest := []) hx hb hml hown hts hK hM okS_RX4_85_X4_isAttacked (met_X4_isAttacked l w kq (8 - sd) f hw (by omega) (by omega)) rfl ⟨Nat.le_of_ble_eq_true rfl, Nat.le_of_ble_eq_true rfl⟩ hl.1 rfl (Nat.le_of_ble_eq_true rfl) dX4_inCheck_17 ⟨Nat.le_refl _, Nat.le_refl _⟩) ?_
    refine zb_eq (tgt := 27) hx hb (mIsAtt f kq (8 - sd)) dX4_inCheck_20 (by decide) (fun c_20 => ?_) (fun c_20 => ?_)
    · skip
      refine lv_iconst (v := nI 0) hx hb dX4_inCheck_27 (by decide) ?_
      exact rd_zreturn hx hb hr hlk (by first | (simp [mInCheck, bI_t, bI_f, hkq, c_20]; done) | exact bI_f0 (by simp only [mInCheck, hkq, c_20, Bool.and_eq_true, Bool.or_eq_true, decide_eq_true_eq, Bool.and_eq_false_iff, Bool.or_eq_false_iff, decide_eq_false_iff_not, Bool.not_eq_true, if_true, if_false]; omega)) dX4_inCheck_28
    · skip
      refine lv_iconst (v := nI 1) hx hb dX4_inCheck_23 (by decide) ?_
      refine lv_goto (tgt := 28) hx hb dX4_inCheck_24 (by decide) ?_
      exact rd_zreturn hx hb hr hlk (by first | (simp [mInCheck, bI_t, bI_f, hkq, c_20]; done) | exact bI_1 (by simp only [mInCheck, hkq, c_20, Bool.and_eq_true, Bool.or_eq_true, decide_eq_true_eq, Bool.and_eq_false_iff, Bool.or_eq_false_iff, decide_eq_false_iff_not, Bool.not_eq_true, if_true, if_false]; omega)) dX4_inCheck_28
set_option maxHeartbeats 4000000 in
set_option maxRecDepth 100000 in
theorem met_X4_canMove (l : Launch) {D : va_G} {cI cJ : ClassId} {M : MP} (w a b : Nat) (f : Nat → Int32) (hw : M w = some (eI cI 146 f)) (ha : a < 64) (hb2 : b < 64) : RdI l yX4_canMove cX4_canMove 5 (some .boolean) 3 D cI cJ [.ref w, .int (nI a), .int (nI b)] M (bI (mCanMove f a b)) := by
  refine rd_start (by decide) (Nat.le_of_ble_eq_true rfl) ?_
  intro p e s m args below meth c hx hb hr hml hown hts hlk hK hM ls hl
  have hl : lv_has ls 5 [(0, .ref w), (1, .int (nI a)), (2, .int (nI b))] := hl
  have hk8 := mKindN_lt f a
  have hs8 := sdX_le (f a)
  refine lv_aload_n hx hb dX4_canMove_0 rfl (lv_at hl 0 rfl) ?_
  refine lv_iload_n hx hb dX4_canMove_1 rfl (lv_at hl 1 rfl) ?_
  refine w_iald hx hb hK hM hw a (by omega) (by decide) dX4_canMove_2 ?_
  refine lv_bipush (v := nI 8) hx hb dX4_canMove_3 (by decide) ?_
  refine lv_iand hx hb dX4_canMove_5 ?_
  refine topi (nI (sdX (f a))) (and8 _) ?_
  refine lv_istore_n (lv' := [(3, .int (nI (sdX (f a)))), (0, .ref w), (1, .int (nI a)), (2, .int (nI b))]) hx hb dX4_canMove_6 rfl hl (by decide) rfl (fun ls hl => ?_)
  refine lv_aload_n hx hb dX4_canMove_7 rfl (lv_at hl 1 rfl) ?_
  refine lv_iload_n hx hb dX4_canMove_8 rfl (lv_at hl 3 rfl) ?_
  refine lv_iload_n hx hb dX4_canMove_9 rfl (lv_at hl 0 rfl) ?_
  refine rd_goI (rd_runS (As := [.ref w, .int (nI b), .int (nI (sdX (f a)))]) (rest := []) hx hb hml hown hts hK hM okS_RX4_76_X4_isOf (met_X4_isOf l w b (sdX (f a)) f hw (by omega) (by omega)) rfl ⟨Nat.le_of_ble_eq_true rfl, Nat.le_of_ble_eq_true rfl⟩ hl.1 rfl (Nat.le_of_ble_eq_true rfl) dX4_canMove_10 ⟨Nat.le_refl _, Nat.le_refl _⟩) ?_
  refine zb_eq (tgt := 18) hx hb (mIsOf f b (sdX (f a))) dX4_canMove_13 (by decide) (fun c_13 => ?_) (fun c_13 => ?_)
  · skip
    refine lv_aload_n hx hb dX4_canMove_18 rfl (lv_at hl 1 rfl) ?_
    refine lv_iload_n hx hb dX4_canMove_19 rfl (lv_at hl 2 rfl) ?_
    refine rd_goI (rd_runS (As := [.ref w, .int (nI a)]) (rest := []) hx hb hml hown hts hK hM okS_RX4_65_X4_kind (met_X4_kind l w a f hw (by omega)) rfl ⟨Nat.le_of_ble_eq_true rfl, Nat.le_of_ble_eq_true rfl⟩ hl.1 rfl (Nat.le_of_ble_eq_true rfl) dX4_canMove_20 ⟨Nat.le_refl _, Nat.le_refl _⟩) ?_
    refine lv_bipush (v := nI 6) hx hb dX4_canMove_23 (by decide) ?_
    refine ni_eq (tgt := 35) hx hb (mKindN f a) 6 (by omega) (by omega) dX4_canMove_25 (by decide) (fun c_25 => ?_) (fun c_25 => ?_)
    · skip
      refine lv_iload_n hx hb dX4_canMove_35 rfl (lv_at hl 2 rfl) ?_
      refine lv_bipush (v := nI 8) hx hb dX4_canMove_36 (by decide) ?_
      refine ni_rem hx hb a 8 (by omega) (by decide) (by decide) dX4_canMove_38 ?_
      refine lv_iload_n hx hb dX4_canMove_39 rfl (lv_at hl 3 rfl) ?_
      refine lv_bipush (v := nI 8) hx hb dX4_canMove_40 (by decide) ?_
      refine ni_rem hx hb b 8 (by omega) (by decide) (by decide) dX4_canMove_42 ?_
      refine meet (ls := ls) (pcJ := 63) (st := [.int (bI (mFwd f a b))]) ?_ (fun hJ63 => ?_)
      · skip
        refine lv_istore (lv' := [(4, .int (bI (mFwd f a b))), (3, .int (nI (sdX (f a)))), (0, .ref w), (1, .int (nI a)), (2, .int (nI b))]) hx hb dX4_canMove_63 hl (by decide) rfl (fun ls hl => ?_)
        refine lv_aload_n hx hb dX4_canMove_65 rfl (lv_at hl 2 rfl) ?_
        refine lv_iload_n hx hb dX4_canMove_66 rfl (lv_at hl 4 rfl) ?_
        refine w_iald hx hb hK hM hw b (by omega) (by decide) dX4_canMove_67 ?_
        refine lv_if_ne (tgt := 76) hx hb dX4_canMove_68 (by decide) (fun c_68 => ?_) (fun c_68 => ?_)
        · skip
          refine lv_aload_n hx hb dX4_canMove_76 rfl (lv_at hl 2 rfl) ?_
          refine lv_iload_n hx hb dX4_canMove_77 rfl (lv_at hl 3 rfl) ?_
          refine lv_iload_n hx hb dX4_canMove_78 rfl (lv_at hl 4 rfl) ?_
          refine rd_goI (rd_runS (As := [.ref w, .int (nI a), .int (nI b)]) (rest := []) hx hb hml hown hts hK hM okS_RX4_79_X4_attacks (met_X4_attacks l w a b f hw (by omega) (by omega)) rfl ⟨Nat.le_of_ble_eq_true rfl, Nat.le_of_ble_eq_true rfl⟩ hl.1 rfl (Nat.le_of_ble_eq_true rfl) dX4_canMove_79 ⟨Nat.le_refl _, Nat.le_refl _⟩) ?_
          exact rd_zreturn hx hb hr hlk (by simp [mCanMove, bI_t, bI_f, c_13, c_25, c_68]) dX4_canMove_82
        · skip
          refine lv_iload hx hb dX4_canMove_71 (lv_at hl 0 rfl) ?_
          refine lv_goto (tgt := 82) hx hb dX4_canMove_73 (by decide) ?_
          exact rd_zreturn hx hb hr hlk (by simp [mCanMove, bI_t, bI_f, c_13, c_25, c_68]) dX4_canMove_82
      · skip
        refine ni_ne (tgt := 62) hx hb (a % 8) (b % 8) (by omega) (by omega) dX4_canMove_43 (by decide) (fun c_43 => ?_) (fun c_43 => ?_)
        · skip
          refine lv_iconst (v := nI 0) hx hb dX4_canMove_62 (by decide) ?_
          exact topi (bI (mFwd f a b)) (by simp [mFwd, c_13, c_25, c_43, bI_t, bI_f]) hJ63
        · skip
          refine lv_iload_n hx hb dX4_canMove_46 rfl (lv_at hl 3 rfl) ?_
          refine lv_bipush (v := nI 8) hx hb dX4_canMove_47 (by decide) ?_
          refine ni_div hx hb b 8 (by omega) (by decide) (by decide) dX4_canMove_49 ?_
          refine lv_aload_n hx hb dX4_canMove_50 rfl (lv_at hl 1 rfl) ?_
          refine lv_iload_n hx hb dX4_canMove_51 rfl (lv_at hl 2 rfl) ?_
          refine rd_goI (rd_runS (As := [.ref w, .int (nI a)]) (rest := [.int (nI (b / 8))]) hx hb hml hown hts hK hM okS_RX4_73_X4_ahead (met_X4_ahead l w a f hw (by omega)) rfl ⟨Nat.le_of_ble_eq_true rfl, Nat.le_of_ble_eq_true rfl⟩ hl.1 rfl (Nat.le_of_ble_eq_true rfl) dX4_canMove_52 ⟨Nat.le_refl _, Nat.le_refl _⟩) ?_
          refine lv_icmp_ne (tgt := 62) hx hb dX4_canMove_55 (by decide) (fun c_55 => ?_) (fun c_55 => ?_)
          · skip
            refine lv_iconst (v := nI 0) hx hb dX4_canMove_62 (by decide) ?_
            exact topi (bI (mFwd f a b)) (by simp [mFwd, c_13, c_25, c_43, c_55, bI_t, bI_f]) hJ63
          · skip
            refine lv_iconst (v := nI 1) hx hb dX4_canMove_58 (by decide) ?_
            refine lv_goto (tgt := 63) hx hb dX4_canMove_59 (by decide) ?_
            exact topi (bI (mFwd f a b)) (by simp [mFwd, c_13, c_25, c_43, c_55, bI_t, bI_f]) hJ63
    · skip
      refine lv_aload_n hx hb dX4_canMove_28 rfl (lv_at hl 1 rfl) ?_
      refine lv_iload_n hx hb dX4_canMove_29 rfl (lv_at hl 2 rfl) ?_
      refine lv_iload_n hx hb dX4_canMove_30 rfl (lv_at hl 3 rfl) ?_
      refine rd_goI (rd_runS (As := [.ref w, .int (nI a), .int (nI b)]) (rest := []) hx hb hml hown hts hK hM okS_RX4_79_X4_attacks (met_X4_attacks l w a b f hw (by omega) (by omega)) rfl ⟨Nat.le_of_ble_eq_true rfl, Nat.le_of_ble_eq_true rfl⟩ hl.1 rfl (Nat.le_of_ble_eq_true rfl) dX4_canMove_31 ⟨Nat.le_refl _, Nat.le_refl _⟩) ?_
      exact rd_zreturn hx hb hr hlk (by simp [mCanMove, bI_t, bI_f, c_13, c_25]) dX4_canMove_34
  · skip
    refine lv_iconst (v := nI 0) hx hb dX4_canMove_16 (by decide) ?_
    exact rd_zreturn hx hb hr hlk (by first | (simp [mCanMove, bI_t, bI_f, c_13]; done) | exact bI_f0 (by simp only [mCanMove, c_13, Bool.and_eq_true, Bool.or_eq_true, decide_eq_true_eq, Bool.and_eq_false_iff, Bool.or_eq_false_iff, decide_eq_false_iff_not, Bool.not_eq_true, if_true, if_false]; omega)) dX4_canMove_17
set_option maxHeartbeats 4000000 in
set_option maxRecDepth 100000 in
theorem met_X4_pieces (l : Launch) {D : va_G} {cI cJ : ClassId} {M : MP} (w : Nat) (f : Nat → Int32) (hw : M w = some (eI cI 146 f)) : RdI l yX4_pieces cX4_pieces 3 (some .int) 0 D cI cJ [.ref w] M (nI (mPieces f)) := by
  refine rd_start (by decide) (Nat.le_of_ble_eq_true rfl) ?_
  intro p e s m args below meth c hx hb hr hml hown hts hlk hK hM ls hl
  have hl : lv_has ls 3 [(0, .ref w)] := hl
  refine lv_iconst (v := nI 0) hx hb dX4_pieces_0 (by decide) ?_
  refine lv_istore_n (lv' := [(1, .int (nI 0)), (0, .ref w)]) hx hb dX4_pieces_1 rfl hl (by decide) rfl (fun ls hl => ?_)
  refine lv_iconst (v := nI 0) hx hb dX4_pieces_2 (by decide) ?_
  refine lv_istore_n (lv' := [(2, .int (nI 0)), (1, .int (nI 0)), (0, .ref w)]) hx hb dX4_pieces_3 rfl hl (by decide) rfl (fun ls hl => ?_)
  refine loopR (pcH := 4) (st := []) (ι := Nat × Nat) (fun ξ => [(2, .int (nI (ξ.2))), (1, .int (nI (ξ.1))), (0, .ref w)]) (fun n ξ => (ξ.2) + n = 64 ∧ mPieces f = mCntL (fun j => !decide (f j = 0)) n (ξ.2) (ξ.1)) ?_ ?_ 64 (0, 0) (⟨by first | omega | (dsimp only <;> omega), rfl⟩) ls (lv_sub hl [0,1,2] rfl)
  · rintro ⟨r, i⟩ ⟨hin, hres⟩ ls hl
    try dsimp only at hl hin hres
    refine lv_iload_n hx hb dX4_pieces_4 rfl (lv_at hl 0 rfl) ?_
    refine lv_bipush (v := nI 64) hx hb dX4_pieces_5 (by decide) ?_
    refine ni_ge (tgt := 30) hx hb i 64 (by omega) (by omega) dX4_pieces_7 (by decide) (fun c_7 => ?_) (fun c_7 => ?_)
    · skip
      refine lv_iload_n hx hb dX4_pieces_30 rfl (lv_at hl 1 rfl) ?_
      exact rd_ireturn hx hb hr hlk (by rw [hres]; simp [mCntL, bI_t, bI_f, c_7, Nat.not_lt.mpr c_7]) dX4_pieces_31
    · skip
      exfalso; omega
  · rintro n ih ⟨r, i⟩ ⟨hin, hres⟩ ls hl
    try dsimp only at hl hin hres
    refine lv_iload_n hx hb dX4_pieces_4 rfl (lv_at hl 0 rfl) ?_
    refine lv_bipush (v := nI 64) hx hb dX4_pieces_5 (by decide) ?_
    refine ni_ge (tgt := 30) hx hb i 64 (by omega) (by omega) dX4_pieces_7 (by decide) (fun c_7 => ?_) (fun c_7 => ?_)
    · skip
      exfalso; omega
    · skip
      refine lv_iload_n hx hb dX4_pieces_10 rfl (lv_at hl 1 rfl) ?_
      refine lv_aload_n hx hb dX4_pieces_11 rfl (lv_at hl 2 rfl) ?_
      refine lv_iload_n hx hb dX4_pieces_12 rfl (lv_at hl 0 rfl) ?_
      refine w_iald hx hb hK hM hw i (by omega) (by decide) dX4_pieces_13 ?_
      refine lv_if_ne (tgt := 21) hx hb dX4_pieces_14 (by decide) (fun c_14 => ?_) (fun c_14 => ?_)
      · skip
        refine lv_iconst (v := nI 1) hx hb dX4_pieces_21 (by decide) ?_
        refine ni_add hx hb r 1 dX4_pieces_22 ?_
        refine lv_istore_n (lv' := [(1, .int (nI (r + 1))), (2, .int (nI i)), (0, .ref w)]) hx hb dX4_pieces_23 rfl hl (by decide) rfl (fun ls hl => ?_)
        refine ni_iinc (lv' := [(2, .int (nI (i + 1))), (1, .int (nI (r + 1))), (0, .ref w)]) hx hb i 1 dX4_pieces_24 hl (k := 1) rfl (by decide) (by decide) rfl (fun ls hl => ?_)
        refine lv_goto (tgt := 4) hx hb dX4_pieces_27 (by decide) ?_
        exact ih (r + 1, i + 1) ⟨by first | omega | (dsimp only <;> omega), by rw [hres]; simp [mCntL, c_7, Nat.not_le.mpr c_7, Nat.le_of_lt c_7, c_14]⟩ ls (lv_sub hl [0,1,2] rfl)
      · skip
        refine lv_iconst (v := nI 0) hx hb dX4_pieces_17 (by decide) ?_
        refine lv_goto (tgt := 22) hx hb dX4_pieces_18 (by decide) ?_
        refine ni_add hx hb r 0 dX4_pieces_22 ?_
        refine lv_istore_n (lv' := [(1, .int (nI (r + 0))), (2, .int (nI i)), (0, .ref w)]) hx hb dX4_pieces_23 rfl hl (by decide) rfl (fun ls hl => ?_)
        refine ni_iinc (lv' := [(2, .int (nI (i + 1))), (1, .int (nI (r + 0))), (0, .ref w)]) hx hb i 1 dX4_pieces_24 hl (k := 1) rfl (by decide) (by decide) rfl (fun ls hl => ?_)
        refine lv_goto (tgt := 4) hx hb dX4_pieces_27 (by decide) ?_
        exact ih (r + 0, i + 1) ⟨by first | omega | (dsimp only <;> omega), by rw [hres]; simp [mCntL, c_7, Nat.not_le.mpr c_7, Nat.le_of_lt c_7, c_14]⟩ ls (lv_sub hl [0,1,2] rfl)
