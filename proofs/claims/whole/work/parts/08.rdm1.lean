theorem okS_RX4_48_X4_away : okS RX4 48 yX4_away cX4_away 2 (some .int) 2 := okS_of qw_3_221 qw_3_222 qw_1_5 qw_3_223 (by decide +kernel)
theorem okS_RX4_56_X4_isOwn : okS RX4 56 yX4_isOwn cX4_isOwn 4 (some .boolean) 4 := okS_of qw_4_12 qw_4_13 qw_1_5 qw_4_14 (by decide +kernel)
set_option maxHeartbeats 4000000 in
set_option maxRecDepth 100000 in
theorem met_X4_isSquare (l : Launch) {D : va_G} {cI cJ : ClassId} {M : MP} (x : Int32) : RdI l yX4_isSquare cX4_isSquare 1 (some .boolean) 0 D cI cJ [.int x] M (bI (mIsSq x)) := by
  refine rd_start (by decide) (Nat.le_of_ble_eq_true rfl) ?_
  intro p e s m args below meth c hx hb hr hml hown hts hlk hK hM ls hl
  have hl : lv_has ls 1 [(0, .int x)] := hl
  refine lv_iload_n hx hb dX4_isSquare_0 rfl (lv_at hl 0 rfl) ?_
  refine lv_if_lt (tgt := 14) hx hb dX4_isSquare_1 (by decide) (fun c_1 => ?_) (fun c_1 => ?_)
  · skip
    refine lv_iconst (v := nI 0) hx hb dX4_isSquare_14 (by decide) ?_
    exact rd_zreturn hx hb hr hlk (by simp [mIsSq, bI_t, bI_f, c_1]) dX4_isSquare_15
  · skip
    refine lv_iload_n hx hb dX4_isSquare_4 rfl (lv_at hl 0 rfl) ?_
    refine lv_bipush (v := nI 64) hx hb dX4_isSquare_5 (by decide) ?_
    refine lv_icmp_ge (tgt := 14) hx hb dX4_isSquare_7 (by decide) (fun c_7 => ?_) (fun c_7 => ?_)
    · skip
      refine lv_iconst (v := nI 0) hx hb dX4_isSquare_14 (by decide) ?_
      exact rd_zreturn hx hb hr hlk (by simp [mIsSq, bI_t, bI_f, c_1, c_7]) dX4_isSquare_15
    · skip
      refine lv_iconst (v := nI 1) hx hb dX4_isSquare_10 (by decide) ?_
      refine lv_goto (tgt := 15) hx hb dX4_isSquare_11 (by decide) ?_
      exact rd_zreturn hx hb hr hlk (by simp [mIsSq, bI_t, bI_f, c_1, c_7]) dX4_isSquare_15
set_option maxHeartbeats 4000000 in
set_option maxRecDepth 100000 in
theorem met_X4_side (l : Launch) {D : va_G} {cI cJ : ClassId} {M : MP} (b : Bool) : RdI l yX4_side cX4_side 1 (some .int) 0 D cI cJ [.int (bI b)] M (nI (sdN b)) := by
  refine rd_start (by decide) (Nat.le_of_ble_eq_true rfl) ?_
  intro p e s m args below meth c hx hb hr hml hown hts hlk hK hM ls hl
  have hl : lv_has ls 1 [(0, .int (bI b))] := hl
  refine lv_iload_n hx hb dX4_side_0 rfl (lv_at hl 0 rfl) ?_
  refine zb_eq (tgt := 9) hx hb b dX4_side_1 (by decide) (fun c_1 => ?_) (fun c_1 => ?_)
  · skip
    refine lv_iconst (v := nI 0) hx hb dX4_side_9 (by decide) ?_
    exact rd_ireturn hx hb hr hlk (by simp [sdN, bI_t, bI_f, c_1]) dX4_side_10
  · skip
    refine lv_bipush (v := nI 8) hx hb dX4_side_4 (by decide) ?_
    refine lv_goto (tgt := 10) hx hb dX4_side_6 (by decide) ?_
    exact rd_ireturn hx hb hr hlk (by simp [sdN, bI_t, bI_f, c_1]) dX4_side_10
set_option maxHeartbeats 4000000 in
set_option maxRecDepth 100000 in
theorem met_X4_away (l : Launch) {D : va_G} {cI cJ : ClassId} {M : MP} (a b : Nat) (ha : a < 2 ^ 31) (hb2 : b < 2 ^ 31) : RdI l yX4_away cX4_away 2 (some .int) 0 D cI cJ [.int (nI a), .int (nI b)] M (nI (mAway a b)) := by
  refine rd_start (by decide) (Nat.le_of_ble_eq_true rfl) ?_
  intro p e s m args below meth c hx hb hr hml hown hts hlk hK hM ls hl
  have hl : lv_has ls 2 [(0, .int (nI a)), (1, .int (nI b))] := hl
  refine lv_iload_n hx hb dX4_away_0 rfl (lv_at hl 0 rfl) ?_
  refine lv_iload_n hx hb dX4_away_1 rfl (lv_at hl 1 rfl) ?_
  refine ni_le (tgt := 11) hx hb a b (by omega) (by omega) dX4_away_2 (by decide) (fun c_2 => ?_) (fun c_2 => ?_)
  · skip
    refine lv_iload_n hx hb dX4_away_11 rfl (lv_at hl 1 rfl) ?_
    refine lv_iload_n hx hb dX4_away_12 rfl (lv_at hl 0 rfl) ?_
    refine ni_sub hx hb b a (by omega) dX4_away_13 ?_
    exact rd_ireturn hx hb hr hlk (by simp [mAway, bI_t, bI_f, c_2, Nat.not_lt.mpr c_2]) dX4_away_14
  · skip
    refine lv_iload_n hx hb dX4_away_5 rfl (lv_at hl 0 rfl) ?_
    refine lv_iload_n hx hb dX4_away_6 rfl (lv_at hl 1 rfl) ?_
    refine ni_sub hx hb a b (by omega) dX4_away_7 ?_
    refine lv_goto (tgt := 14) hx hb dX4_away_8 (by decide) ?_
    exact rd_ireturn hx hb hr hlk (by simp [mAway, bI_t, bI_f, c_2, Nat.not_le.mpr c_2, Nat.le_of_lt c_2]) dX4_away_14
set_option maxHeartbeats 4000000 in
set_option maxRecDepth 100000 in
theorem met_X4_isLeap (l : Launch) {D : va_G} {cI cJ : ClassId} {M : MP} (a b : Nat) (ha : a < 64) (hb2 : b < 64) : RdI l yX4_isLeap cX4_isLeap 2 (some .boolean) 1 D cI cJ [.int (nI a), .int (nI b)] M (bI (mLeap a b)) := by
  refine rd_start (by decide) (Nat.le_of_ble_eq_true rfl) ?_
  intro p e s m args below meth c hx hb hr hml hown hts hlk hK hM ls hl
  have hl : lv_has ls 2 [(0, .int (nI a)), (1, .int (nI b))] := hl
  have hm := mLeap_in a b ha hb2
  refine lv_iload_n hx hb dX4_isLeap_0 rfl (lv_at hl 0 rfl) ?_
  refine lv_bipush (v := nI 8) hx hb dX4_isLeap_1 (by decide) ?_
  refine ni_rem hx hb a 8 (by omega) (by decide) (by decide) dX4_isLeap_3 ?_
  refine lv_iload_n hx hb dX4_isLeap_4 rfl (lv_at hl 1 rfl) ?_
  refine lv_bipush (v := nI 8) hx hb dX4_isLeap_5 (by decide) ?_
  refine ni_rem hx hb b 8 (by omega) (by decide) (by decide) dX4_isLeap_7 ?_
  refine rd_goI (rd_runS (As := [.int (nI (a % 8)), .int (nI (b % 8))]) (rest := []) hx hb hml hown hts hK hM okS_RX4_48_X4_away (met_X4_away l (a % 8) (b % 8) (by omega) (by omega)) rfl ⟨Nat.le_of_ble_eq_true rfl, Nat.le_of_ble_eq_true rfl⟩ hl.1 rfl (Nat.le_of_ble_eq_true rfl) dX4_isLeap_8 ⟨Nat.le_refl _, Nat.le_refl _⟩) ?_
  refine lv_iload_n hx hb dX4_isLeap_11 rfl (lv_at hl 0 rfl) ?_
  refine lv_bipush (v := nI 8) hx hb dX4_isLeap_12 (by decide) ?_
  refine ni_div hx hb a 8 (by omega) (by decide) (by decide) dX4_isLeap_14 ?_
  refine lv_iload_n hx hb dX4_isLeap_15 rfl (lv_at hl 1 rfl) ?_
  refine lv_bipush (v := nI 8) hx hb dX4_isLeap_16 (by decide) ?_
  refine ni_div hx hb b 8 (by omega) (by decide) (by decide) dX4_isLeap_18 ?_
  refine rd_goI (rd_runS (As := [.int (nI (a / 8)), .int (nI (b / 8))]) (rest := [.int (nI (mAway (a % 8) (b % 8)))]) hx hb hml hown hts hK hM okS_RX4_48_X4_away (met_X4_away l (a / 8) (b / 8) (by omega) (by omega)) rfl ⟨Nat.le_of_ble_eq_true rfl, Nat.le_of_ble_eq_true rfl⟩ hl.1 rfl (Nat.le_of_ble_eq_true rfl) dX4_isLeap_19 ⟨Nat.le_refl _, Nat.le_refl _⟩) ?_
  refine ni_mul hx hb (mAway (a % 8) (b % 8)) (mAway (a / 8) (b / 8)) dX4_isLeap_22 ?_
  refine lv_iconst (v := nI 2) hx hb dX4_isLeap_23 (by decide) ?_
  refine ni_ne (tgt := 31) hx hb ((mAway (a % 8) (b % 8)) * (mAway (a / 8) (b / 8))) 2 (by omega) (by omega) dX4_isLeap_24 (by decide) (fun c_24 => ?_) (fun c_24 => ?_)
  · skip
    refine lv_iconst (v := nI 0) hx hb dX4_isLeap_31 (by decide) ?_
    exact rd_zreturn hx hb hr hlk (by simp [mLeap, bI_t, bI_f, c_24]) dX4_isLeap_32
  · skip
    refine lv_iconst (v := nI 1) hx hb dX4_isLeap_27 (by decide) ?_
    refine lv_goto (tgt := 32) hx hb dX4_isLeap_28 (by decide) ?_
    exact rd_zreturn hx hb hr hlk (by simp [mLeap, bI_t, bI_f, c_24]) dX4_isLeap_32
set_option maxHeartbeats 4000000 in
set_option maxRecDepth 100000 in
theorem met_X4_kind (l : Launch) {D : va_G} {cI cJ : ClassId} {M : MP} (w j : Nat) (f : Nat → Int32) (hw : M w = some (eI cI 146 f)) (hj : j < 64) : RdI l yX4_kind cX4_kind 2 (some .int) 0 D cI cJ [.ref w, .int (nI j)] M (mKind f j) := by
  refine rd_start (by decide) (Nat.le_of_ble_eq_true rfl) ?_
  intro p e s m args below meth c hx hb hr hml hown hts hlk hK hM ls hl
  have hl : lv_has ls 2 [(0, .ref w), (1, .int (nI j))] := hl
  refine lv_aload_n hx hb dX4_kind_0 rfl (lv_at hl 0 rfl) ?_
  refine lv_iload_n hx hb dX4_kind_1 rfl (lv_at hl 1 rfl) ?_
  refine w_iald hx hb hK hM hw j (by omega) (by decide) dX4_kind_2 ?_
  refine lv_bipush (v := nI 7) hx hb dX4_kind_3 (by decide) ?_
  refine lv_iand hx hb dX4_kind_5 ?_
  exact rd_ireturn hx hb hr hlk (by simp [mKind, bI_t, bI_f]) dX4_kind_6
set_option maxHeartbeats 4000000 in
set_option maxRecDepth 100000 in
theorem met_X4_isOf (l : Launch) {D : va_G} {cI cJ : ClassId} {M : MP} (w j sd : Nat) (f : Nat → Int32) (hw : M w = some (eI cI 146 f)) (hj : j < 64) (hsd : sd ≤ 8) : RdI l yX4_isOf cX4_isOf 3 (some .boolean) 0 D cI cJ [.ref w, .int (nI j), .int (nI sd)] M (bI (mIsOf f j sd)) := by
  refine rd_start (by decide) (Nat.le_of_ble_eq_true rfl) ?_
  intro p e s m args below meth c hx hb hr hml hown hts hlk hK hM ls hl
  have hl : lv_has ls 3 [(0, .ref w), (1, .int (nI j)), (2, .int (nI sd))] := hl
  refine lv_aload_n hx hb dX4_isOf_0 rfl (lv_at hl 0 rfl) ?_
  refine lv_iload_n hx hb dX4_isOf_1 rfl (lv_at hl 1 rfl) ?_
  refine w_iald hx hb hK hM hw j (by omega) (by decide) dX4_isOf_2 ?_
  refine lv_if_eq (tgt := 20) hx hb dX4_isOf_3 (by decide) (fun c_3 => ?_) (fun c_3 => ?_)
  · skip
    refine lv_iconst (v := nI 0) hx hb dX4_isOf_20 (by decide) ?_
    exact rd_zreturn hx hb hr hlk (by simp [mIsOf, bI_t, bI_f, c_3]) dX4_isOf_21
  · skip
    refine lv_aload_n hx hb dX4_isOf_6 rfl (lv_at hl 0 rfl) ?_
    refine lv_iload_n hx hb dX4_isOf_7 rfl (lv_at hl 1 rfl) ?_
    refine w_iald hx hb hK hM hw j (by omega) (by decide) dX4_isOf_8 ?_
    refine lv_bipush (v := nI 8) hx hb dX4_isOf_9 (by decide) ?_
    refine lv_iand hx hb dX4_isOf_11 ?_
    refine lv_iload_n hx hb dX4_isOf_12 rfl (lv_at hl 2 rfl) ?_
    refine lv_icmp_ne (tgt := 20) hx hb dX4_isOf_13 (by decide) (fun c_13 => ?_) (fun c_13 => ?_)
    · skip
      refine lv_iconst (v := nI 0) hx hb dX4_isOf_20 (by decide) ?_
      exact rd_zreturn hx hb hr hlk (by simp [mIsOf, bI_t, bI_f, c_3, c_13]) dX4_isOf_21
    · skip
      refine lv_iconst (v := nI 1) hx hb dX4_isOf_16 (by decide) ?_
      refine lv_goto (tgt := 21) hx hb dX4_isOf_17 (by decide) ?_
      exact rd_zreturn hx hb hr hlk (by simp [mIsOf, bI_t, bI_f, c_3, c_13]) dX4_isOf_21
set_option maxHeartbeats 4000000 in
set_option maxRecDepth 100000 in
theorem met_X4_isOwn (l : Launch) {D : va_G} {cI cJ : ClassId} {M : MP} (w j k sd : Nat) (f : Nat → Int32) (hw : M w = some (eI cI 146 f)) (hj : j < 64) : RdI l yX4_isOwn cX4_isOwn 4 (some .boolean) 0 D cI cJ [.ref w, .int (nI j), .int (nI k), .int (nI sd)] M (bI (mIsOwn f j k sd)) := by
  refine rd_start (by decide) (Nat.le_of_ble_eq_true rfl) ?_
  intro p e s m args below meth c hx hb hr hml hown hts hlk hK hM ls hl
  have hl : lv_has ls 4 [(0, .ref w), (1, .int (nI j)), (2, .int (nI k)), (3, .int (nI sd))] := hl
  refine lv_aload_n hx hb dX4_isOwn_0 rfl (lv_at hl 0 rfl) ?_
  refine lv_iload_n hx hb dX4_isOwn_1 rfl (lv_at hl 1 rfl) ?_
  refine w_iald hx hb hK hM hw j (by omega) (by decide) dX4_isOwn_2 ?_
  refine lv_iload_n hx hb dX4_isOwn_3 rfl (lv_at hl 3 rfl) ?_
  refine lv_iload_n hx hb dX4_isOwn_4 rfl (lv_at hl 2 rfl) ?_
  refine ni_add hx hb sd k dX4_isOwn_5 ?_
  refine lv_icmp_ne (tgt := 13) hx hb dX4_isOwn_6 (by decide) (fun c_6 => ?_) (fun c_6 => ?_)
  · skip
    refine lv_iconst (v := nI 0) hx hb dX4_isOwn_13 (by decide) ?_
    exact rd_zreturn hx hb hr hlk (by simp [mIsOwn, bI_t, bI_f, c_6]) dX4_isOwn_14
  · skip
    refine lv_iconst (v := nI 1) hx hb dX4_isOwn_9 (by decide) ?_
    refine lv_goto (tgt := 14) hx hb dX4_isOwn_10 (by decide) ?_
    exact rd_zreturn hx hb hr hlk (by simp [mIsOwn, bI_t, bI_f, c_6]) dX4_isOwn_14
set_option maxHeartbeats 4000000 in
set_option maxRecDepth 100000 in
theorem met_X4_king (l : Launch) {D : va_G} {cI cJ : ClassId} {M : MP} (w sd : Nat) (f : Nat → Int32) (hw : M w = some (eI cI 146 f)) : RdI l yX4_king cX4_king 3 (some .int) 1 D cI cJ [.ref w, .int (nI sd)] M (oI (mKing f sd)) := by
  refine rd_start (by decide) (Nat.le_of_ble_eq_true rfl) ?_
  intro p e s m args below meth c hx hb hr hml hown hts hlk hK hM ls hl
  have hl : lv_has ls 3 [(0, .ref w), (1, .int (nI sd))] := hl
  refine lv_iconst (v := nI 0) hx hb dX4_king_0 (by decide) ?_
  refine lv_istore_n (lv' := [(2, .int (nI 0)), (0, .ref w), (1, .int (nI sd))]) hx hb dX4_king_1 rfl hl (by decide) rfl (fun ls hl => ?_)
  refine loopR (pcH := 2) (st := []) (ι := Nat) (fun x => [(2, .int (nI x)), (0, .ref w), (1, .int (nI sd))]) (fun n x => x + n = 64 ∧ mKing f sd = mFirst (fun j => mIsOwn f j 1 sd) n x) ?_ ?_ 64 0 (⟨by omega, rfl⟩) ls (lv_sub hl [0,1,2] rfl)
  · rintro i ⟨hin, hres⟩ ls hl
    try dsimp only at hl hin hres
    refine lv_iload_n hx hb dX4_king_2 rfl (lv_at hl 0 rfl) ?_
    refine lv_bipush (v := nI 64) hx hb dX4_king_3 (by decide) ?_
    refine ni_ge (tgt := 26) hx hb i 64 (by omega) (by omega) dX4_king_5 (by decide) (fun c_5 => ?_) (fun c_5 => ?_)
    · skip
      refine lv_iconst (v := (-1)) hx hb dX4_king_26 (by decide) ?_
      exact rd_ireturn hx hb hr hlk (by rw [hres]; simp [mFirst, oI_n, oI_s, bI_t, bI_f, c_5, Nat.not_lt.mpr c_5]) dX4_king_27
    · skip
      exfalso; omega
  · rintro n ih i ⟨hin, hres⟩ ls hl
    try dsimp only at hl hin hres
    refine lv_iload_n hx hb dX4_king_2 rfl (lv_at hl 0 rfl) ?_
    refine lv_bipush (v := nI 64) hx hb dX4_king_3 (by decide) ?_
    refine ni_ge (tgt := 26) hx hb i 64 (by omega) (by omega) dX4_king_5 (by decide) (fun c_5 => ?_) (fun c_5 => ?_)
    · skip
      exfalso; omega
    · skip
      refine lv_aload_n hx hb dX4_king_8 rfl (lv_at hl 1 rfl) ?_
      refine lv_iload_n hx hb dX4_king_9 rfl (lv_at hl 0 rfl) ?_
      refine lv_iconst (v := nI 1) hx hb dX4_king_10 (by decide) ?_
      refine lv_iload_n hx hb dX4_king_11 rfl (lv_at hl 2 rfl) ?_
      refine rd_goI (rd_runS (As := [.ref w, .int (nI i), .int (nI 1), .int (nI sd)]) (rest := []) hx hb hml hown hts hK hM okS_RX4_56_X4_isOwn (met_X4_isOwn l w i 1 sd f hw (by omega)) rfl ⟨Nat.le_of_ble_eq_true rfl, Nat.le_of_ble_eq_true rfl⟩ hl.1 rfl (Nat.le_of_ble_eq_true rfl) dX4_king_12 ⟨Nat.le_refl _, Nat.le_refl _⟩) ?_
      refine zb_eq (tgt := 20) hx hb (mIsOwn f i 1 sd) dX4_king_15 (by decide) (fun c_15 => ?_) (fun c_15 => ?_)
      · skip
        refine ni_iinc (lv' := [(2, .int (nI (i + 1))), (0, .ref w), (1, .int (nI sd))]) hx hb i 1 dX4_king_20 hl (k := 0) rfl (by decide) (by decide) rfl (fun ls hl => ?_)
        refine lv_goto (tgt := 2) hx hb dX4_king_23 (by decide) ?_
        exact ih (i + 1) ⟨by omega, by rw [hres]; simp [mFirst, oI_n, oI_s, c_5, Nat.not_le.mpr c_5, Nat.le_of_lt c_5, c_15]⟩ ls (lv_sub hl [0,1,2] rfl)
      · skip
        refine lv_iload_n hx hb dX4_king_18 rfl (lv_at hl 0 rfl) ?_
        exact rd_ireturn hx hb hr hlk (by rw [hres]; simp [mFirst, oI_n, oI_s, bI_t, bI_f, c_5, Nat.not_le.mpr c_5, Nat.le_of_lt c_5, c_15]) dX4_king_19
