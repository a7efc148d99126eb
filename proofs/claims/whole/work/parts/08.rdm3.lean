theorem okS_RX4_102_X4_apply : okS RX4 102 yX4_apply cX4_apply 7 (some .int) 3 := okS_of qw_4_47 qw_4_48 qw_1_5 qw_4_49 (by decide +kernel)
theorem okS_RX4_106_X4_inCheck : okS RX4 106 yX4_inCheck cX4_inCheck 3 (some .boolean) 2 := okS_of qw_4_6 qw_4_7 qw_1_5 qw_4_8 (by decide +kernel)
theorem okS_RX4_95_X4_canMove : okS RX4 95 yX4_canMove cX4_canMove 5 (some .boolean) 3 := okS_of qw_4_44 qw_4_45 qw_1_5 qw_4_46 (by decide +kernel)
theorem okS_RX4_98_X4_copyRow : okS RX4 98 yX4_copyRow cX4_copyRow 5 none 4 := okS_of qw_3_239 qw_4_0 qw_1_5 qw_4_1 (by decide +kernel)
theorem okV_RX4_110_X4_isFar : okV RX4 110 yX4_isFar cX4_isFar 4 (some .boolean) 2 := okV_of qw_4_53 qw_4_55 qw_0_15 qw_1_5 qw_4_56 (by decide +kernel)
theorem okV_RX4_113_X4_reason : okV RX4 113 yX4_reason cX4_reason 6 (some .int) 4 := okV_of qw_4_40 qw_4_42 qw_0_14 qw_1_5 qw_4_43 (by decide +kernel)
theorem okV_RX4_117_X4_dissolveReason : okV RX4 117 yX4_dissolveReason cX4_dissolveReason 2 (some .int) 1 := okV_of qw_4_65 qw_4_67 qw_0_18 qw_1_5 qw_4_68 (by decide +kernel)
theorem okV_RX4_121_X4_bondReason : okV RX4 121 yX4_bondReason cX4_bondReason 4 (some .int) 2 := okV_of qw_4_69 qw_4_71 qw_0_19 qw_1_5 qw_4_72 (by decide +kernel)
theorem okV_RX4_127_X4_isSame : okV RX4 127 yX4_isSame cX4_isSame 4 (some .boolean) 1 := okV_of qw_4_80 qw_4_82 qw_0_21 qw_1_5 qw_4_83 (by decide +kernel)
theorem okV_RX4_92_X4_leapsOf : okV RX4 92 yX4_leapsOf cX4_leapsOf 3 (some .int) 2 := okV_of qw_4_57 qw_4_59 qw_0_16 qw_1_5 qw_4_60 (by decide +kernel)
set_option maxHeartbeats 4000000 in
set_option maxRecDepth 100000 in
theorem met_X4_leapsOf (l : Launch) {D : va_G} {cI cJ : ClassId} {M : MP} (mo ro no fi se t3 le od th ac oc : Nat) (su : Bool) (a b : Nat) (lf : Nat → Int32) (hmo : M mo = some (.inr (3, [.int (nI th), .int (bI su), .ref ro, .int (nI ac), .int (nI oc), .ref no, .ref fi, .ref se, .ref t3, .ref le, .ref od]))) (hle : M le = some (eI cI 4096 lf)) (ha : a < 64) (hb2 : b < 64) (hL : WfL lf) : RdI l yX4_leapsOf cX4_leapsOf 3 (some .int) 0 D cI cJ [.ref mo, .int (nI a), .int (nI b)] M (nI (mHop a b)) := by
  refine rd_start (by decide) (Nat.le_of_ble_eq_true rfl) ?_
  intro p e s m args below meth c hx hb hr hml hown hts hlk hK hM ls hl
  have hl : lv_has ls 3 [(0, .ref mo), (1, .int (nI a)), (2, .int (nI b))] := hl
  refine lv_aload_n hx hb dX4_leapsOf_0 rfl (lv_at hl 0 rfl) ?_
  refine w_get (C := RX4) (T := TX4) (N := 11) (ci := 3) hx hb hts hown hK hM inX4 rfl 9 (by decide) qw_4_93 rfl hmo rfl dX4_leapsOf_1 ?_
  refine lv_bipush (v := nI 64) hx hb dX4_leapsOf_4 (by decide) ?_
  refine lv_iload_n hx hb dX4_leapsOf_6 rfl (lv_at hl 1 rfl) ?_
  refine ni_mul hx hb 64 a dX4_leapsOf_7 ?_
  refine lv_iload_n hx hb dX4_leapsOf_8 rfl (lv_at hl 2 rfl) ?_
  refine ni_add hx hb (64 * a) b dX4_leapsOf_9 ?_
  refine w_iald hx hb hK hM hle ((64 * a) + b) (by omega) (by decide) dX4_leapsOf_10 ?_
  exact rd_ireturn hx hb hr hlk (hL a b ha hb2) dX4_leapsOf_11
set_option maxHeartbeats 4000000 in
set_option maxRecDepth 100000 in
theorem met_X4_isFar (l : Launch) {D : va_G} {cI cJ : ClassId} {M : MP} (mo ro no fi se t3 le od th ac oc : Nat) (su : Bool) (w sd : Nat) (f lf : Nat → Int32) (hmo : M mo = some (.inr (3, [.int (nI th), .int (bI su), .ref ro, .int (nI ac), .int (nI oc), .ref no, .ref fi, .ref se, .ref t3, .ref le, .ref od]))) (hle : M le = some (eI cI 4096 lf)) (hw : M w = some (eI cI 146 f)) (hsd : sd ≤ 8) (hB : WfB f) (hL : WfL lf) : RdI l yX4_isFar cX4_isFar 4 (some .boolean) 1 D cI cJ [.ref mo, .ref w, .int (nI sd)] M (bI (mFar f sd)) := by
  refine rd_start (by decide) (Nat.le_of_ble_eq_true rfl) ?_
  intro p e s m args below meth c hx hb hr hml hown hts hlk hK hM ls hl
  have hl : lv_has ls 4 [(0, .ref mo), (1, .ref w), (2, .int (nI sd))] := hl
  refine lv_iconst (v := nI 0) hx hb dX4_isFar_0 (by decide) ?_
  refine lv_istore_n (lv' := [(3, .int (nI 0)), (0, .ref mo), (1, .ref w), (2, .int (nI sd))]) hx hb dX4_isFar_1 rfl hl (by decide) rfl (fun ls hl => ?_)
  refine loopR (pcH := 2) (st := []) (ι := Nat) (fun ξ => [(3, .int (nI (ξ))), (0, .ref mo), (1, .ref w), (2, .int (nI sd))]) (fun n ξ => (ξ) + n = 64 ∧ mFar f sd = mAnyL (fun j => mIsOf f j sd && mFarAt f j) n (ξ)) ?_ ?_ 64 0 (⟨by first | omega | (dsimp only <;> omega), rfl⟩) ls (lv_sub hl [0,1,2,3] rfl)
  · rintro i ⟨hin, hres⟩ ls hl
    try dsimp only at hl hin hres
    refine lv_iload_n hx hb dX4_isFar_2 rfl (lv_at hl 0 rfl) ?_
    refine lv_bipush (v := nI 64) hx hb dX4_isFar_3 (by decide) ?_
    refine ni_ge (tgt := 50) hx hb i 64 (by omega) (by omega) dX4_isFar_5 (by decide) (fun c_5 => ?_) (fun c_5 => ?_)
    · skip
      refine lv_iconst (v := nI 0) hx hb dX4_isFar_50 (by decide) ?_
      exact rd_zreturn hx hb hr hlk (by rw [hres]; first | (simp [mAnyL, mFarAt, bI_t, bI_f, c_5, Nat.not_lt.mpr c_5]; done) | exact bI_f0 (by simp only [mAnyL, mFarAt, c_5, Nat.not_lt.mpr c_5, Bool.and_eq_true, Bool.or_eq_true, decide_eq_true_eq, Bool.and_eq_false_iff, Bool.or_eq_false_iff, decide_eq_false_iff_not, Bool.not_eq_true, if_true, if_false]; omega)) dX4_isFar_51
    · skip
      exfalso; omega
  · rintro n ih i ⟨hin, hres⟩ ls hl
    try dsimp only at hl hin hres
    refine lv_iload_n hx hb dX4_isFar_2 rfl (lv_at hl 0 rfl) ?_
    refine lv_bipush (v := nI 64) hx hb dX4_isFar_3 (by decide) ?_
    refine ni_ge (tgt := 50) hx hb i 64 (by omega) (by omega) dX4_isFar_5 (by decide) (fun c_5 => ?_) (fun c_5 => ?_)
    · skip
      exfalso; omega
    · skip
      refine lv_aload_n hx hb dX4_isFar_8 rfl (lv_at hl 2 rfl) ?_
      refine lv_iload_n hx hb dX4_isFar_9 rfl (lv_at hl 0 rfl) ?_
      refine lv_iload_n hx hb dX4_isFar_10 rfl (lv_at hl 3 rfl) ?_
      refine rd_goI (rd_runS (As := [.ref w, .int (nI i), .int (nI sd)]) (rest := []) hx hb hml hown hts hK hM okS_RX4_76_X4_isOf (met_X4_isOf l w i sd f hw (by omega) (by omega)) rfl ⟨Nat.le_of_ble_eq_true rfl, Nat.le_of_ble_eq_true rfl⟩ hl.1 rfl (Nat.le_of_ble_eq_true rfl) dX4_isFar_11 ⟨Nat.le_refl _, Nat.le_refl _⟩) ?_
      refine zb_eq (tgt := 44) hx hb (mIsOf f i sd) dX4_isFar_14 (by decide) (fun c_14 => ?_) (fun c_14 => ?_)
      · skip
        refine ni_iinc (lv' := [(3, .int (nI (i + 1))), (0, .ref mo), (1, .ref w), (2, .int (nI sd))]) hx hb i 1 dX4_isFar_44 hl (k := 0) rfl (by decide) (by decide) rfl (fun ls hl => ?_)
        refine lv_goto (tgt := 2) hx hb dX4_isFar_47 (by decide) ?_
        exact ih (i + 1) ⟨by first | omega | (dsimp only <;> omega), by rw [hres]; simp [mAnyL, mFarAt, c_5, Nat.not_le.mpr c_5, Nat.le_of_lt c_5, c_14]⟩ ls (lv_sub hl [0,1,2,3] rfl)
      · skip
        refine lv_aload_n hx hb dX4_isFar_17 rfl (lv_at hl 2 rfl) ?_
        refine lv_bipush (v := nI 64) hx hb dX4_isFar_18 (by decide) ?_
        refine lv_iload_n hx hb dX4_isFar_20 rfl (lv_at hl 0 rfl) ?_
        refine ni_add hx hb 64 i dX4_isFar_21 ?_
        refine w_iald hx hb hK hM hw (64 + i) (by omega) (by decide) dX4_isFar_22 ?_
        rcases hB i (by omega) with eo | ⟨o, ho, eo⟩
        · refine topi (-1) eo ?_
          refine lv_iconst (v := (-1)) hx hb dX4_isFar_23 (by decide) ?_
          refine mm_eq (tgt := 44) hx hb (-1) dX4_isFar_24 (by decide) ?_
          refine ni_iinc (lv' := [(3, .int (nI (i + 1))), (0, .ref mo), (1, .ref w), (2, .int (nI sd))]) hx hb i 1 dX4_isFar_44 hl (k := 0) rfl (by decide) (by decide) rfl (fun ls hl => ?_)
          refine lv_goto (tgt := 2) hx hb dX4_isFar_47 (by decide) ?_
          exact ih (i + 1) ⟨by first | omega | (dsimp only <;> omega), by rw [hres]; simp [mAnyL, mFarAt, c_5, Nat.not_le.mpr c_5, Nat.le_of_lt c_5, c_14, eo]⟩ ls (lv_sub hl [0,1,2,3] rfl)
        · refine topi (nI o) eo ?_
          have hnego := nI_m1 ho
          have hclo := nI_cl ho
          refine lv_iconst (v := (-1)) hx hb dX4_isFar_23 (by decide) ?_
          refine nm_eq (tgt := 44) hx hb o (by omega) dX4_isFar_24 (by decide) ?_
          refine lv_aload_n hx hb dX4_isFar_27 rfl (lv_at hl 1 rfl) ?_
          refine lv_iload_n hx hb dX4_isFar_28 rfl (lv_at hl 0 rfl) ?_
          refine lv_aload_n hx hb dX4_isFar_29 rfl (lv_at hl 2 rfl) ?_
          refine lv_bipush (v := nI 64) hx hb dX4_isFar_30 (by decide) ?_
          refine lv_iload_n hx hb dX4_isFar_32 rfl (lv_at hl 0 rfl) ?_
          refine ni_add hx hb 64 i dX4_isFar_33 ?_
          refine w_iald hx hb hK hM hw (64 + i) (by omega) (by decide) dX4_isFar_34 ?_
          refine topi (nI o) eo ?_
          refine rd_goI (rd_runV (As := [.int (nI i), .int (nI o)]) (rest := []) hx hb hml hown hts hK hM okV_RX4_92_X4_leapsOf (met_X4_leapsOf l mo ro no fi se t3 le od th ac oc su i o lf hmo hle (by omega) (by omega) hL) hmo rfl rfl rfl ⟨Nat.le_of_ble_eq_true rfl, Nat.le_of_ble_eq_true rfl⟩ hl.1 rfl (Nat.le_of_ble_eq_true rfl) dX4_isFar_35 ⟨Nat.le_refl _, Nat.le_refl _⟩) ?_
          have hf35_0 := mHop_le i o
          have hhop := mHop_le i o
          refine lv_iconst (v := nI 3) hx hb dX4_isFar_38 (by decide) ?_
          refine ni_le (tgt := 44) hx hb (mHop i o) 3 (by omega) (by omega) dX4_isFar_39 (by decide) (fun c_39 => ?_) (fun c_39 => ?_)
          · skip
            refine ni_iinc (lv' := [(3, .int (nI (i + 1))), (0, .ref mo), (1, .ref w), (2, .int (nI sd))]) hx hb i 1 dX4_isFar_44 hl (k := 0) rfl (by decide) (by decide) rfl (fun ls hl => ?_)
            refine lv_goto (tgt := 2) hx hb dX4_isFar_47 (by decide) ?_
            exact ih (i + 1) ⟨by first | omega | (dsimp only <;> omega), by rw [hres]; simp [mAnyL, mFarAt, c_5, Nat.not_le.mpr c_5, Nat.le_of_lt c_5, c_14, eo, hnego, hclo, c_39, Nat.not_lt.mpr c_39]⟩ ls (lv_sub hl [0,1,2,3] rfl)
          · skip
            refine lv_iconst (v := nI 1) hx hb dX4_isFar_42 (by decide) ?_
            exact rd_zreturn hx hb hr hlk (by rw [hres]; first | (simp [mAnyL, mFarAt, bI_t, bI_f, c_5, Nat.not_le.mpr c_5, Nat.le_of_lt c_5, c_14, eo, hnego, hclo, c_39, Nat.not_le.mpr c_39, Nat.le_of_lt c_39]; done) | exact bI_1 (by simp only [mAnyL, mFarAt, c_5, Nat.not_le.mpr c_5, Nat.le_of_lt c_5, c_14, eo, hnego, hclo, c_39, Nat.not_le.mpr c_39, Nat.le_of_lt c_39, Bool.and_eq_true, Bool.or_eq_true, decide_eq_true_eq, Bool.and_eq_false_iff, Bool.or_eq_false_iff, decide_eq_false_iff_not, Bool.not_eq_true, if_true, if_false]; omega)) dX4_isFar_43
set_option maxHeartbeats 4000000 in
set_option maxRecDepth 100000 in
theorem met_X4_reason (l : Launch) {D : va_G} {cI cJ : ClassId} {M : MP} {A : Nat → Prop} {sz : Nat} (mo ro no fi se t3 le od th ac oc : Nat) (su : Bool) (w a b af : Nat) (f g lf : Nat → Int32) (hmo : M mo = some (.inr (3, [.int (nI th), .int (bI su), .ref ro, .int (nI ac), .int (nI oc), .ref no, .ref fi, .ref se, .ref t3, .ref le, .ref od]))) (hle : M le = some (eI cI 4096 lf)) (hw : M w = some (eI cI 146 f)) (haf : M af = some (eI cI 146 g)) (ha : a < 64) (hb2 : b < 64) (hP : WfP f) (hB : WfB f) (hs : WfS f) (hL : WfL lf) (hwa : w ≠ af) (hla : le ≠ af) (hA_af : A af) : Wr l yX4_reason cX4_reason 6 (some .int) 5 0 0 D cI cJ [.ref mo, .ref w, .int (nI a), .int (nI b), .ref af] M sz A (some (.int (nI (mReason f a b)))) (fun M' => M' = mu M af (eI cI 146 (mAft f g a b))) := by
  refine wr_start (by decide) (Nat.le_of_ble_eq_true rfl) ?_
  intro p e s m args below meth c hx hb hr hml hown hts hlk hini hK hsz H hH0 hM hS ls hl
  clear hH0
  have hl : lv_has ls 6 [(0, .ref mo), (1, .ref w), (2, .int (nI a)), (3, .int (nI b)), (4, .ref af)] := hl
  have hs8 := mSide_le f
  have hBa := WfB_apply hB ha hb2
  refine lv_aload_n hx hb dX4_reason_0 rfl (lv_at hl 1 rfl) ?_
  refine lv_sipush (v := nI 128) hx hb dX4_reason_1 (by decide) ?_
  refine w_iald hx hb hK hM hw 128 (by omega) (by decide) dX4_reason_4 ?_
  refine topi (nI (mSide f)) hs ?_
  refine lv_istore (lv' := [(5, .int (nI (mSide f))), (0, .ref mo), (1, .ref w), (2, .int (nI a)), (3, .int (nI b)), (4, .ref af)]) hx hb dX4_reason_5 hl (by decide) rfl (fun ls hl => ?_)
  refine lv_aload_n hx hb dX4_reason_7 rfl (lv_at hl 2 rfl) ?_
  refine lv_iload_n hx hb dX4_reason_8 rfl (lv_at hl 3 rfl) ?_
  refine lv_iload hx hb dX4_reason_9 (lv_at hl 0 rfl) ?_
  refine rd_goI (rd_runS (As := [.ref w, .int (nI a), .int (nI (mSide f))]) (rest := []) hx hb hml hown hts hK hM okS_RX4_76_X4_isOf (met_X4_isOf l w a (mSide f) f hw (by omega) (by omega)) rfl ⟨Nat.le_of_ble_eq_true rfl, Nat.le_of_ble_eq_true rfl⟩ hl.1 rfl (Nat.le_of_ble_eq_true rfl) dX4_reason_11 ⟨Nat.le_refl _, Nat.le_refl _⟩) ?_
  refine zb_ne (tgt := 19) hx hb (mIsOf f a (mSide f)) dX4_reason_14 (by decide) (fun c_14 => ?_) (fun c_14 => ?_)
  · skip
    refine lv_aload_n hx hb dX4_reason_19 rfl (lv_at hl 2 rfl) ?_
    refine lv_iload_n hx hb dX4_reason_20 rfl (lv_at hl 3 rfl) ?_
    refine lv_iload_n hx hb dX4_reason_21 rfl (lv_at hl 4 rfl) ?_
    refine rd_goI (rd_runS (As := [.ref w, .int (nI a), .int (nI b)]) (rest := []) hx hb hml hown hts hK hM okS_RX4_95_X4_canMove (met_X4_canMove l w a b f hw (by omega) (by omega)) rfl ⟨Nat.le_of_ble_eq_true rfl, Nat.le_of_ble_eq_true rfl⟩ hl.1 rfl (Nat.le_of_ble_eq_true rfl) dX4_reason_22 ⟨Nat.le_refl _, Nat.le_refl _⟩) ?_
    refine zb_ne (tgt := 30) hx hb (mCanMove f a b) dX4_reason_25 (by decide) (fun c_25 => ?_) (fun c_25 => ?_)
    · skip
      refine lv_aload_n hx hb dX4_reason_30 rfl (lv_at hl 2 rfl) ?_
      refine lv_iconst (v := nI 0) hx hb dX4_reason_31 (by decide) ?_
      refine lv_aload hx hb dX4_reason_32 (lv_at hl 5 rfl) ?_
      refine lv_iconst (v := nI 0) hx hb dX4_reason_34 (by decide) ?_
      refine wr_go0 (wr_runS (As := [.ref w, .int (nI 0), .ref af, .int (nI 0)]) (rest := []) hx hb hml hown hts hK hM okS_RX4_98_X4_copyRow (met_X4_copyRow l w 0 af 0 146 146 f g hw haf (by omega) (by omega) (by omega) (by omega) hwa hA_af) rfl ⟨Nat.le_of_ble_eq_true rfl, Nat.le_of_ble_eq_true rfl⟩ hl.1 rfl (Nat.le_of_ble_eq_true rfl) dX4_reason_35 ⟨Nat.le_refl _, Nat.le_refl _⟩) hS (fun M1 H locs hR hM hS => ?_)
      obtain rfl := hR
      replace hM := HM.cg (g := f) hM (fun k hk => cpy0 hk)
      refine lv_aload hx hb dX4_reason_38 (lv_at hl 5 rfl) ?_
      refine lv_iload_n hx hb dX4_reason_40 rfl (lv_at hl 3 rfl) ?_
      refine lv_iload_n hx hb dX4_reason_41 rfl (lv_at hl 4 rfl) ?_
      refine wr_go0 (wr_runS (As := [.ref af, .int (nI a), .int (nI b)]) (rest := []) hx hb hml hown hts hK hM okS_RX4_102_X4_apply (met_X4_apply l af a b f mu_s (by omega) (by omega) hP hB hA_af) rfl ⟨Nat.le_of_ble_eq_true rfl, Nat.le_of_ble_eq_true rfl⟩ hl.1 rfl (Nat.le_of_ble_eq_true rfl) dX4_reason_42 ⟨Nat.le_refl _, Nat.le_refl _⟩) hS (fun M1 H locs hR hM hS => ?_)
      obtain rfl := hR
      rw [mu_mu] at hM
      refine lv_pop hx hb dX4_reason_45 rfl ?_
      refine lv_aload hx hb dX4_reason_46 (lv_at hl 5 rfl) ?_
      refine lv_iload hx hb dX4_reason_48 (lv_at hl 0 rfl) ?_
      refine rd_goI (rd_runS (As := [.ref af, .int (nI (mSide f))]) (rest := []) hx hb hml hown hts hK hM okS_RX4_106_X4_inCheck (met_X4_inCheck l af (mSide f) (mApply f a b) mu_s (by omega)) rfl ⟨Nat.le_of_ble_eq_true rfl, Nat.le_of_ble_eq_true rfl⟩ hl.1 rfl (Nat.le_of_ble_eq_true rfl) dX4_reason_50 ⟨Nat.le_refl _, Nat.le_refl _⟩) ?_
      refine zb_eq (tgt := 58) hx hb (mInCheck (mApply f a b) (mSide f)) dX4_reason_53 (by decide) (fun c_53 => ?_) (fun c_53 => ?_)
      · skip
        refine lv_aload_n hx hb dX4_reason_58 rfl (lv_at hl 1 rfl) ?_
        refine lv_aload hx hb dX4_reason_59 (lv_at hl 5 rfl) ?_
        refine lv_iload hx hb dX4_reason_61 (lv_at hl 0 rfl) ?_
        refine rd_goI (rd_runV (As := [.ref af, .int (nI (mSide f))]) (rest := []) hx hb hml hown hts hK hM okV_RX4_110_X4_isFar (met_X4_isFar l mo ro no fi se t3 le od th ac oc su af (mSide f) (mApply f a b) lf (mu_g (ne_oi hmo haf) hmo) (mu_g hla hle) mu_s (by omega) hBa hL) (mu_g (ne_oi hmo haf) hmo) rfl rfl rfl ⟨Nat.le_of_ble_eq_true rfl, Nat.le_of_ble_eq_true rfl⟩ hl.1 rfl (Nat.le_of_ble_eq_true rfl) dX4_reason_63 ⟨Nat.le_refl _, Nat.le_refl _⟩) ?_
        refine zb_eq (tgt := 73) hx hb (mFar (mApply f a b) (mSide f)) dX4_reason_66 (by decide) (fun c_66 => ?_) (fun c_66 => ?_)
        · skip
          refine lv_iconst (v := nI 0) hx hb dX4_reason_73 (by decide) ?_
          exact wr_ireturn hx hb hr hlk hM hS (Nat.le_refl _) (Nat.le_refl _) (by simp [mReason, bI_t, bI_f, c_14, c_25, c_53, c_66]) (by rw [show mAft f g a b = mApply f a b from (by simp [mAft, c_14, c_25, c_53, c_66])]) dX4_reason_74
        · skip
          refine lv_iconst (v := nI 5) hx hb dX4_reason_69 (by decide) ?_
          refine lv_goto (tgt := 74) hx hb dX4_reason_70 (by decide) ?_
          exact wr_ireturn hx hb hr hlk hM hS (Nat.le_refl _) (Nat.le_refl _) (by simp [mReason, bI_t, bI_f, c_14, c_25, c_53, c_66]) (by rw [show mAft f g a b = mApply f a b from (by simp [mAft, c_14, c_25, c_53, c_66])]) dX4_reason_74
      · skip
        refine lv_iconst (v := nI 4) hx hb dX4_reason_56 (by decide) ?_
        exact wr_ireturn hx hb hr hlk hM hS (Nat.le_refl _) (Nat.le_refl _) (by simp [mReason, bI_t, bI_f, c_14, c_25, c_53]) (by rw [show mAft f g a b = mApply f a b from (by simp [mAft, c_14, c_25, c_53])]) dX4_reason_57
    · skip
      refine lv_iconst (v := nI 3) hx hb dX4_reason_28 (by decide) ?_
      rw [← mu_id (a := af) (e := eI cI 146 g) haf] at hM
      exact wr_ireturn hx hb hr hlk hM hS (Nat.le_refl _) (Nat.le_refl _) (by simp [mReason, bI_t, bI_f, c_14, c_25]) (by rw [show mAft f g a b = g from (by simp [mAft, c_14, c_25])]) dX4_reason_29
  · skip
    refine lv_iconst (v := nI 2) hx hb dX4_reason_17 (by decide) ?_
    rw [← mu_id (a := af) (e := eI cI 146 g) haf] at hM
    exact wr_ireturn hx hb hr hlk hM hS (Nat.le_refl _) (Nat.le_refl _) (by simp [mReason, bI_t, bI_f, c_14]) (by rw [show mAft f g a b = g from (by simp [mAft, c_14])]) dX4_reason_18
set_option maxHeartbeats 4000000 in
set_option maxRecDepth 100000 in
theorem met_X4_countMoves (l : Launch) {D : va_G} {cI cJ : ClassId} {M : MP} {A : Nat → Prop} {sz : Nat} (mo ro no fi se t3 le od th ac oc : Nat) (su : Bool) (w af : Nat) (f g lf : Nat → Int32) (hmo : M mo = some (.inr (3, [.int (nI th), .int (bI su), .ref ro, .int (nI ac), .int (nI oc), .ref no, .ref fi, .ref se, .ref t3, .ref le, .ref od]))) (hle : M le = some (eI cI 4096 lf)) (hw : M w = some (eI cI 146 f)) (haf : M af = some (eI cI 146 g)) (hP : WfP f) (hB : WfB f) (hs : WfS f) (hL : WfL lf) (hwa : w ≠ af) (hla : le ≠ af) (hA_af : A af) : Wr l yX4_countMoves cX4_countMoves 5 (some .int) 6 0 0 D cI cJ [.ref mo, .ref w, .ref af] M sz A (some (.int (nI (mMoves f)))) (fun M' => ∃ g1 : Nat → Int32, M' = mu M af (eI cI 146 g1)) := by
  refine wr_start (by decide) (Nat.le_of_ble_eq_true rfl) ?_
  intro p e s m args below meth c hx hb hr hml hown hts hlk hini hK hsz H hH0 hM hS ls hl
  clear hH0
  have hl : lv_has ls 5 [(0, .ref mo), (1, .ref w), (2, .ref af)] := hl
  have hs8 := mSide_le f
  refine lv_iconst (v := nI 0) hx hb dX4_countMoves_0 (by decide) ?_
  refine lv_istore_n (lv' := [(3, .int (nI 0)), (0, .ref mo), (1, .ref w), (2, .ref af)]) hx hb dX4_countMoves_1 rfl hl (by decide) rfl (fun ls hl => ?_)
  refine lv_iconst (v := nI 0) hx hb dX4_countMoves_2 (by decide) ?_
  refine lv_istore (lv' := [(4, .int (nI 0)), (3, .int (nI 0)), (0, .ref mo), (1, .ref w), (2, .ref af)]) hx hb dX4_countMoves_3 hl (by decide) rfl (fun ls hl => ?_)
  rw [← mu_id (a := af) (e := eI cI 146 g) haf] at hM
  refine loopW (pcH := 5) (st := []) (ι := Nat × Nat × (Nat → Int32)) (fun ξ => mu M af (eI cI 146 (ξ.2.2))) (fun ξ => [(4, .int (nI (ξ.2.1))), (3, .int (nI (ξ.1))), (0, .ref mo), (1, .ref w), (2, .ref af)]) (fun n ξ => (ξ.2.1) + n = 4096 ∧ mMoves f = mCntL (mOkMove f) n (ξ.2.1) (ξ.1)) ?_ ?_ 4096 (0, 0, g) ⟨by first | omega | (dsimp only <;> omega), rfl⟩ hM hS ls (lv_sub hl [0,1,2,3,4] rfl)
  · rintro ⟨r, i, g2⟩ ⟨hin, hres⟩ H locs hM hS ls hl
    try dsimp only at hl hin hres hM
    refine lv_iload hx hb dX4_countMoves_5 (lv_at hl 0 rfl) ?_
    refine lv_sipush (v := nI 4096) hx hb dX4_countMoves_7 (by decide) ?_
    refine ni_ge (tgt := 63) hx hb i 4096 (by omega) (by omega) dX4_countMoves_10 (by decide) (fun c_10 => ?_) (fun c_10 => ?_)
    · skip
      refine lv_iload_n hx hb dX4_countMoves_63 rfl (lv_at hl 1 rfl) ?_
      exact wr_ireturn hx hb hr hlk hM hS (Nat.le_refl _) (Nat.le_refl _) (by rw [hres]; simp [mCntL, mOkMove, bI_t, bI_f, c_10, Nat.not_lt.mpr c_10]) ⟨g2, rfl⟩ dX4_countMoves_64
    · skip
      exfalso; omega
  · rintro n ih ⟨r, i, g2⟩ ⟨hin, hres⟩ H locs hM hS ls hl
    try dsimp only at hl hin hres hM
    refine lv_iload hx hb dX4_countMoves_5 (lv_at hl 0 rfl) ?_
    refine lv_sipush (v := nI 4096) hx hb dX4_countMoves_7 (by decide) ?_
    refine ni_ge (tgt := 63) hx hb i 4096 (by omega) (by omega) dX4_countMoves_10 (by decide) (fun c_10 => ?_) (fun c_10 => ?_)
    · skip
      exfalso; omega
    · skip
      refine lv_iload_n hx hb dX4_countMoves_13 rfl (lv_at hl 1 rfl) ?_
      refine lv_aload_n hx hb dX4_countMoves_14 rfl (lv_at hl 3 rfl) ?_
      refine lv_iload hx hb dX4_countMoves_15 (lv_at hl 0 rfl) ?_
      refine lv_bipush (v := nI 64) hx hb dX4_countMoves_17 (by decide) ?_
      refine ni_div hx hb i 64 (by omega) (by decide) (by decide) dX4_countMoves_19 ?_
      refine lv_aload_n hx hb dX4_countMoves_20 rfl (lv_at hl 3 rfl) ?_
      refine lv_sipush (v := nI 128) hx hb dX4_countMoves_21 (by decide) ?_
      refine w_iald hx hb hK hM (mu_g hwa hw) 128 (by omega) (by decide) dX4_countMoves_24 ?_
      refine topi (nI (mSide f)) hs ?_
      refine rd_goI (rd_runS (As := [.ref w, .int (nI (i / 64)), .int (nI (mSide f))]) (rest := [.int (nI r)]) hx hb hml hown hts hK hM okS_RX4_76_X4_isOf (met_X4_isOf l w (i / 64) (mSide f) f (mu_g hwa hw) (by omega) (by omega)) rfl ⟨Nat.le_of_ble_eq_true rfl, Nat.le_of_ble_eq_true rfl⟩ hl.1 rfl (Nat.le_of_ble_eq_true rfl) dX4_countMoves_25 ⟨Nat.le_refl _, Nat.le_refl _⟩) ?_
      refine zb_eq (tgt := 54) hx hb (mIsOf f (i / 64) (mSide f)) dX4_countMoves_28 (by decide) (fun c_28 => ?_) (fun c_28 => ?_)
      · skip
        refine lv_iconst (v := nI 0) hx hb dX4_countMoves_54 (by decide) ?_
        refine ni_add hx hb r 0 dX4_countMoves_55 ?_
        refine lv_istore_n (lv' := [(3, .int (nI (r + 0))), (4, .int (nI i)), (0, .ref mo), (1, .ref w), (2, .ref af)]) hx hb dX4_countMoves_56 rfl hl (by decide) rfl (fun ls hl => ?_)
        refine ni_iinc (lv' := [(4, .int (nI (i + 1))), (3, .int (nI (r + 0))), (0, .ref mo), (1, .ref w), (2, .ref af)]) hx hb i 1 dX4_countMoves_57 hl (k := 1) rfl (by decide) (by decide) rfl (fun ls hl => ?_)
        refine lv_goto (tgt := 5) hx hb dX4_countMoves_60 (by decide) ?_
        exact ih (r + 0, i + 1, g2) ⟨by first | omega | (dsimp only <;> omega), by rw [hres]; simp [mCntL, mOkMove, c_10, Nat.not_le.mpr c_10, Nat.le_of_lt c_10, c_28]⟩ _ _ hM hS ls (lv_sub hl [0,1,2,3,4] rfl)
      · skip
        refine lv_aload_n hx hb dX4_countMoves_31 rfl (lv_at hl 2 rfl) ?_
        refine lv_aload_n hx hb dX4_countMoves_32 rfl (lv_at hl 3 rfl) ?_
        refine lv_iload hx hb dX4_countMoves_33 (lv_at hl 0 rfl) ?_
        refine lv_bipush (v := nI 64) hx hb dX4_countMoves_35 (by decide) ?_
        refine ni_div hx hb i 64 (by omega) (by decide) (by decide) dX4_countMoves_37 ?_
        refine lv_iload hx hb dX4_countMoves_38 (lv_at hl 0 rfl) ?_
        refine lv_bipush (v := nI 64) hx hb dX4_countMoves_40 (by decide) ?_
        refine ni_rem hx hb i 64 (by omega) (by decide) (by decide) dX4_countMoves_42 ?_
        refine lv_aload_n hx hb dX4_countMoves_43 rfl (lv_at hl 4 rfl) ?_
        refine wr_go0 (wr_runV (As := [.ref w, .int (nI (i / 64)), .int (nI (i % 64)), .ref af]) (rest := [.int (nI r)]) hx hb hml hown hts hK hM okV_RX4_113_X4_reason (met_X4_reason l mo ro no fi se t3 le od th ac oc su w (i / 64) (i % 64) af f g2 lf (mu_g (ne_oi hmo haf) hmo) (mu_g hla hle) (mu_g hwa hw) mu_s (by omega) (by omega) hP hB hs hL hwa hla hA_af) (mu_g (ne_oi hmo haf) hmo) rfl rfl rfl ⟨Nat.le_of_ble_eq_true rfl, Nat.le_of_ble_eq_true rfl⟩ hl.1 rfl (Nat.le_of_ble_eq_true rfl) dX4_countMoves_44 ⟨Nat.le_refl _, Nat.le_refl _⟩) hS (fun M1 H locs hR hM hS => ?_)
        obtain rfl := hR
        rw [mu_mu] at hM
        have hf44_0 := mReason_le f (i / 64) (i % 64)
        refine n0_ne (tgt := 54) hx hb (mReason f (i / 64) (i % 64)) (by omega) dX4_countMoves_47 (by decide) (fun c_47 => ?_) (fun c_47 => ?_)
        · skip
          refine lv_iconst (v := nI 0) hx hb dX4_countMoves_54 (by decide) ?_
          refine ni_add hx hb r 0 dX4_countMoves_55 ?_
          refine lv_istore_n (lv' := [(3, .int (nI (r + 0))), (4, .int (nI i)), (0, .ref mo), (1, .ref w), (2, .ref af)]) hx hb dX4_countMoves_56 rfl hl (by decide) rfl (fun ls hl => ?_)
          refine ni_iinc (lv' := [(4, .int (nI (i + 1))), (3, .int (nI (r + 0))), (0, .ref mo), (1, .ref w), (2, .ref af)]) hx hb i 1 dX4_countMoves_57 hl (k := 1) rfl (by decide) (by decide) rfl (fun ls hl => ?_)
          refine lv_goto (tgt := 5) hx hb dX4_countMoves_60 (by decide) ?_
          exact ih (r + 0, i + 1, mAft f g2 (i / 64) (i % 64)) ⟨by first | omega | (dsimp only <;> omega), by rw [hres]; simp [mCntL, mOkMove, c_10, Nat.not_le.mpr c_10, Nat.le_of_lt c_10, c_28, c_47]⟩ _ _ hM hS ls (lv_sub hl [0,1,2,3,4] rfl)
        · skip
          refine lv_iconst (v := nI 1) hx hb dX4_countMoves_50 (by decide) ?_
          refine lv_goto (tgt := 55) hx hb dX4_countMoves_51 (by decide) ?_
          refine ni_add hx hb r 1 dX4_countMoves_55 ?_
          refine lv_istore_n (lv' := [(3, .int (nI (r + 1))), (4, .int (nI i)), (0, .ref mo), (1, .ref w), (2, .ref af)]) hx hb dX4_countMoves_56 rfl hl (by decide) rfl (fun ls hl => ?_)
          refine ni_iinc (lv' := [(4, .int (nI (i + 1))), (3, .int (nI (r + 1))), (0, .ref mo), (1, .ref w), (2, .ref af)]) hx hb i 1 dX4_countMoves_57 hl (k := 1) rfl (by decide) (by decide) rfl (fun ls hl => ?_)
          refine lv_goto (tgt := 5) hx hb dX4_countMoves_60 (by decide) ?_
          exact ih (r + 1, i + 1, mAft f g2 (i / 64) (i % 64)) ⟨by first | omega | (dsimp only <;> omega), by rw [hres]; simp [mCntL, mOkMove, c_10, Nat.not_le.mpr c_10, Nat.le_of_lt c_10, c_28, c_47]⟩ _ _ hM hS ls (lv_sub hl [0,1,2,3,4] rfl)
set_option maxHeartbeats 4000000 in
set_option maxRecDepth 100000 in
theorem met_X4_hasMove (l : Launch) {D : va_G} {cI cJ : ClassId} {M : MP} {A : Nat → Prop} {sz : Nat} (mo ro no fi se t3 le od th ac oc : Nat) (su : Bool) (w af : Nat) (f g lf : Nat → Int32) (hmo : M mo = some (.inr (3, [.int (nI th), .int (bI su), .ref ro, .int (nI ac), .int (nI oc), .ref no, .ref fi, .ref se, .ref t3, .ref le, .ref od]))) (hle : M le = some (eI cI 4096 lf)) (hw : M w = some (eI cI 146 f)) (haf : M af = some (eI cI 146 g)) (hP : WfP f) (hB : WfB f) (hs : WfS f) (hL : WfL lf) (hwa : w ≠ af) (hla : le ≠ af) (hA_af : A af) : Wr l yX4_hasMove cX4_hasMove 4 (some .boolean) 6 0 0 D cI cJ [.ref mo, .ref w, .ref af] M sz A (some (.int (bI (mHas f)))) (fun M' => ∃ g1 : Nat → Int32, M' = mu M af (eI cI 146 g1)) := by
  refine wr_start (by decide) (Nat.le_of_ble_eq_true rfl) ?_
  intro p e s m args below meth c hx hb hr hml hown hts hlk hini hK hsz H hH0 hM hS ls hl
  clear hH0
  have hl : lv_has ls 4 [(0, .ref mo), (1, .ref w), (2, .ref af)] := hl
  have hs8 := mSide_le f
  refine lv_iconst (v := nI 0) hx hb dX4_hasMove_0 (by decide) ?_
  refine lv_istore_n (lv' := [(3, .int (nI 0)), (0, .ref mo), (1, .ref w), (2, .ref af)]) hx hb dX4_hasMove_1 rfl hl (by decide) rfl (fun ls hl => ?_)
  rw [← mu_id (a := af) (e := eI cI 146 g) haf] at hM
  refine loopW (pcH := 2) (st := []) (ι := Nat × (Nat → Int32)) (fun ξ => mu M af (eI cI 146 (ξ.2))) (fun ξ => [(3, .int (nI (ξ.1))), (0, .ref mo), (1, .ref w), (2, .ref af)]) (fun n ξ => (ξ.1) + n = 4096 ∧ mHas f = mAnyL (mOkMove f) n (ξ.1)) ?_ ?_ 4096 (0, g) ⟨by first | omega | (dsimp only <;> omega), rfl⟩ hM hS ls (lv_sub hl [0,1,2,3] rfl)
  · rintro ⟨i, g2⟩ ⟨hin, hres⟩ H locs hM hS ls hl
    try dsimp only at hl hin hres hM
    refine lv_iload_n hx hb dX4_hasMove_2 rfl (lv_at hl 0 rfl) ?_
    refine lv_sipush (v := nI 4096) hx hb dX4_hasMove_3 (by decide) ?_
    refine ni_ge (tgt := 50) hx hb i 4096 (by omega) (by omega) dX4_hasMove_6 (by decide) (fun c_6 => ?_) (fun c_6 => ?_)
    · skip
      refine lv_iconst (v := nI 0) hx hb dX4_hasMove_50 (by decide) ?_
      exact wr_zreturn hx hb hr hlk hM hS (Nat.le_refl _) (Nat.le_refl _) (by rw [hres]; first | (simp [mAnyL, mOkMove, bI_t, bI_f, c_6, Nat.not_lt.mpr c_6]; done) | exact bI_f0 (by simp only [mAnyL, mOkMove, c_6, Nat.not_lt.mpr c_6, Bool.and_eq_true, Bool.or_eq_true, decide_eq_true_eq, Bool.and_eq_false_iff, Bool.or_eq_false_iff, decide_eq_false_iff_not, Bool.not_eq_true, if_true, if_false]; omega)) ⟨g2, rfl⟩ dX4_hasMove_51
    · skip
      exfalso; omega
  · rintro n ih ⟨i, g2⟩ ⟨hin, hres⟩ H locs hM hS ls hl
    try dsimp only at hl hin hres hM
    refine lv_iload_n hx hb dX4_hasMove_2 rfl (lv_at hl 0 rfl) ?_
    refine lv_sipush (v := nI 4096) hx hb dX4_hasMove_3 (by decide) ?_
    refine ni_ge (tgt := 50) hx hb i 4096 (by omega) (by omega) dX4_hasMove_6 (by decide) (fun c_6 => ?_) (fun c_6 => ?_)
    · skip
      exfalso; omega
    · skip
      refine lv_aload_n hx hb dX4_hasMove_9 rfl (lv_at hl 2 rfl) ?_
      refine lv_iload_n hx hb dX4_hasMove_10 rfl (lv_at hl 0 rfl) ?_
      refine lv_bipush (v := nI 64) hx hb dX4_hasMove_11 (by decide) ?_
      refine ni_div hx hb i 64 (by omega) (by decide) (by decide) dX4_hasMove_13 ?_
      refine lv_aload_n hx hb dX4_hasMove_14 rfl (lv_at hl 2 rfl) ?_
      refine lv_sipush (v := nI 128) hx hb dX4_hasMove_15 (by decide) ?_
      refine w_iald hx hb hK hM (mu_g hwa hw) 128 (by omega) (by decide) dX4_hasMove_18 ?_
      refine topi (nI (mSide f)) hs ?_
      refine rd_goI (rd_runS (As := [.ref w, .int (nI (i / 64)), .int (nI (mSide f))]) (rest := []) hx hb hml hown hts hK hM okS_RX4_76_X4_isOf (met_X4_isOf l w (i / 64) (mSide f) f (mu_g hwa hw) (by omega) (by omega)) rfl ⟨Nat.le_of_ble_eq_true rfl, Nat.le_of_ble_eq_true rfl⟩ hl.1 rfl (Nat.le_of_ble_eq_true rfl) dX4_hasMove_19 ⟨Nat.le_refl _, Nat.le_refl _⟩) ?_
      refine zb_eq (tgt := 44) hx hb (mIsOf f (i / 64) (mSide f)) dX4_hasMove_22 (by decide) (fun c_22 => ?_) (fun c_22 => ?_)
      · skip
        refine ni_iinc (lv' := [(3, .int (nI (i + 1))), (0, .ref mo), (1, .ref w), (2, .ref af)]) hx hb i 1 dX4_hasMove_44 hl (k := 0) rfl (by decide) (by decide) rfl (fun ls hl => ?_)
        refine lv_goto (tgt := 2) hx hb dX4_hasMove_47 (by decide) ?_
        exact ih (i + 1, g2) ⟨by first | omega | (dsimp only <;> omega), by rw [hres]; simp [mAnyL, mOkMove, c_6, Nat.not_le.mpr c_6, Nat.le_of_lt c_6, c_22]⟩ _ _ hM hS ls (lv_sub hl [0,1,2,3] rfl)
      · skip
        refine lv_aload_n hx hb dX4_hasMove_25 rfl (lv_at hl 1 rfl) ?_
        refine lv_aload_n hx hb dX4_hasMove_26 rfl (lv_at hl 2 rfl) ?_
        refine lv_iload_n hx hb dX4_hasMove_27 rfl (lv_at hl 0 rfl) ?_
        refine lv_bipush (v := nI 64) hx hb dX4_hasMove_28 (by decide) ?_
        refine ni_div hx hb i 64 (by omega) (by decide) (by decide) dX4_hasMove_30 ?_
        refine lv_iload_n hx hb dX4_hasMove_31 rfl (lv_at hl 0 rfl) ?_
        refine lv_bipush (v := nI 64) hx hb dX4_hasMove_32 (by decide) ?_
        refine ni_rem hx hb i 64 (by omega) (by decide) (by decide) dX4_hasMove_34 ?_
        refine lv_aload_n hx hb dX4_hasMove_35 rfl (lv_at hl 3 rfl) ?_
        refine wr_go0 (wr_runV (As := [.ref w, .int (nI (i / 64)), .int (nI (i % 64)), .ref af]) (rest := []) hx hb hml hown hts hK hM okV_RX4_113_X4_reason (met_X4_reason l mo ro no fi se t3 le od th ac oc su w (i / 64) (i % 64) af f g2 lf (mu_g (ne_oi hmo haf) hmo) (mu_g hla hle) (mu_g hwa hw) mu_s (by omega) (by omega) hP hB hs hL hwa hla hA_af) (mu_g (ne_oi hmo haf) hmo) rfl rfl rfl ⟨Nat.le_of_ble_eq_true rfl, Nat.le_of_ble_eq_true rfl⟩ hl.1 rfl (Nat.le_of_ble_eq_true rfl) dX4_hasMove_36 ⟨Nat.le_refl _, Nat.le_refl _⟩) hS (fun M1 H locs hR hM hS => ?_)
        obtain rfl := hR
        rw [mu_mu] at hM
        have hf36_0 := mReason_le f (i / 64) (i % 64)
        refine n0_ne (tgt := 44) hx hb (mReason f (i / 64) (i % 64)) (by omega) dX4_hasMove_39 (by decide) (fun c_39 => ?_) (fun c_39 => ?_)
        · skip
          refine ni_iinc (lv' := [(3, .int (nI (i + 1))), (0, .ref mo), (1, .ref w), (2, .ref af)]) hx hb i 1 dX4_hasMove_44 hl (k := 0) rfl (by decide) (by decide) rfl (fun ls hl => ?_)
          refine lv_goto (tgt := 2) hx hb dX4_hasMove_47 (by decide) ?_
          exact ih (i + 1, mAft f g2 (i / 64) (i % 64)) ⟨by first | omega | (dsimp only <;> omega), by rw [hres]; simp [mAnyL, mOkMove, c_6, Nat.not_le.mpr c_6, Nat.le_of_lt c_6, c_22, c_39]⟩ _ _ hM hS ls (lv_sub hl [0,1,2,3] rfl)
        · skip
          refine lv_iconst (v := nI 1) hx hb dX4_hasMove_42 (by decide) ?_
          exact wr_zreturn hx hb hr hlk hM hS (Nat.le_refl _) (Nat.le_refl _) (by rw [hres]; first | (simp [mAnyL, mOkMove, bI_t, bI_f, c_6, Nat.not_le.mpr c_6, Nat.le_of_lt c_6, c_22, c_39]; done) | exact bI_1 (by simp only [mAnyL, mOkMove, c_6, Nat.not_le.mpr c_6, Nat.le_of_lt c_6, c_22, c_39, Bool.and_eq_true, Bool.or_eq_true, decide_eq_true_eq, Bool.and_eq_false_iff, Bool.or_eq_false_iff, decide_eq_false_iff_not, Bool.not_eq_true, if_true, if_false]; omega)) ⟨(mAft f g2 (i / 64) (i % 64)), rfl⟩ dX4_hasMove_43
set_option maxHeartbeats 4000000 in
set_option maxRecDepth 100000 in
theorem met_X4_bondReason (l : Launch) {D : va_G} {cI cJ : ClassId} {M : MP} (mo ro no fi se t3 le od th ac oc : Nat) (su : Bool) (a b : Nat) (f lf : Nat → Int32) (hmo : M mo = some (.inr (3, [.int (nI th), .int (bI su), .ref ro, .int (nI ac), .int (nI oc), .ref no, .ref fi, .ref se, .ref t3, .ref le, .ref od]))) (hle : M le = some (eI cI 4096 lf)) (hno : M no = some (eI cI 146 f)) (ha : a < 64) (hb2 : b < 64) (hs : WfS f) (hL : WfL lf) : RdI l yX4_bondReason cX4_bondReason 4 (some .int) 5 D cI cJ [.ref mo, .int (nI a), .int (nI b)] M (nI (mBondR f a b)) := by
  refine rd_start (by decide) (Nat.le_of_ble_eq_true rfl) ?_
  intro p e s m args below meth c hx hb hr hml hown hts hlk hK hM ls hl
  have hl : lv_has ls 4 [(0, .ref mo), (1, .int (nI a)), (2, .int (nI b))] := hl
  have hs8 := mSide_le f
  have hhop := mHop_le a b
  refine lv_aload_n hx hb dX4_bondReason_0 rfl (lv_at hl 0 rfl) ?_
  refine w_get (C := RX4) (T := TX4) (N := 11) (ci := 3) hx hb hts hown hK hM inX4 rfl 5 (by decide) qw_4_89 rfl hmo rfl dX4_bondReason_1 ?_
  refine lv_sipush (v := nI 128) hx hb dX4_bondReason_4 (by decide) ?_
  refine w_iald hx hb hK hM hno 128 (by omega) (by decide) dX4_bondReason_7 ?_
  refine topi (nI (mSide f)) hs ?_
  refine lv_istore_n (lv' := [(3, .int (nI (mSide f))), (0, .ref mo), (1, .int (nI a)), (2, .int (nI b))]) hx hb dX4_bondReason_8 rfl hl (by decide) rfl (fun ls hl => ?_)
  refine lv_iload_n hx hb dX4_bondReason_9 rfl (lv_at hl 2 rfl) ?_
  refine lv_iload_n hx hb dX4_bondReason_10 rfl (lv_at hl 3 rfl) ?_
  refine ni_eq (tgt := 40) hx hb a b (by omega) (by omega) dX4_bondReason_11 (by decide) (fun c_11 => ?_) (fun c_11 => ?_)
  · skip
    refine lv_iconst (v := nI 2) hx hb dX4_bondReason_40 (by decide) ?_
    exact rd_ireturn hx hb hr hlk (by simp [mBondR, bI_t, bI_f, c_11]) dX4_bondReason_41
  · skip
    refine lv_aload_n hx hb dX4_bondReason_14 rfl (lv_at hl 1 rfl) ?_
    refine w_get (C := RX4) (T := TX4) (N := 11) (ci := 3) hx hb hts hown hK hM inX4 rfl 5 (by decide) qw_4_89 rfl hmo rfl dX4_bondReason_15 ?_
    refine lv_iload_n hx hb dX4_bondReason_18 rfl (lv_at hl 2 rfl) ?_
    refine lv_iconst (v := nI 5) hx hb dX4_bondReason_19 (by decide) ?_
    refine lv_iload_n hx hb dX4_bondReason_20 rfl (lv_at hl 0 rfl) ?_
    refine rd_goI (rd_runS (As := [.ref no, .int (nI a), .int (nI 5), .int (nI (mSide f))]) (rest := []) hx hb hml hown hts hK hM okS_RX4_56_X4_isOwn (met_X4_isOwn l no a 5 (mSide f) f hno (by omega)) rfl ⟨Nat.le_of_ble_eq_true rfl, Nat.le_of_ble_eq_true rfl⟩ hl.1 rfl (Nat.le_of_ble_eq_true rfl) dX4_bondReason_21 ⟨Nat.le_refl _, Nat.le_refl _⟩) ?_
    refine zb_eq (tgt := 40) hx hb (mIsOwn f a 5 (mSide f)) dX4_bondReason_24 (by decide) (fun c_24 => ?_) (fun c_24 => ?_)
    · skip
      refine lv_iconst (v := nI 2) hx hb dX4_bondReason_40 (by decide) ?_
      exact rd_ireturn hx hb hr hlk (by simp [mBondR, bI_t, bI_f, c_11, c_24]) dX4_bondReason_41
    · skip
      refine lv_aload_n hx hb dX4_bondReason_27 rfl (lv_at hl 1 rfl) ?_
      refine w_get (C := RX4) (T := TX4) (N := 11) (ci := 3) hx hb hts hown hK hM inX4 rfl 5 (by decide) qw_4_89 rfl hmo rfl dX4_bondReason_28 ?_
      refine lv_iload_n hx hb dX4_bondReason_31 rfl (lv_at hl 3 rfl) ?_
      refine lv_iconst (v := nI 5) hx hb dX4_bondReason_32 (by decide) ?_
      refine lv_iload_n hx hb dX4_bondReason_33 rfl (lv_at hl 0 rfl) ?_
      refine rd_goI (rd_runS (As := [.ref no, .int (nI b), .int (nI 5), .int (nI (mSide f))]) (rest := []) hx hb hml hown hts hK hM okS_RX4_56_X4_isOwn (met_X4_isOwn l no b 5 (mSide f) f hno (by omega)) rfl ⟨Nat.le_of_ble_eq_true rfl, Nat.le_of_ble_eq_true rfl⟩ hl.1 rfl (Nat.le_of_ble_eq_true rfl) dX4_bondReason_34 ⟨Nat.le_refl _, Nat.le_refl _⟩) ?_
      refine zb_ne (tgt := 42) hx hb (mIsOwn f b 5 (mSide f)) dX4_bondReason_37 (by decide) (fun c_37 => ?_) (fun c_37 => ?_)
      · skip
        refine lv_aload_n hx hb dX4_bondReason_42 rfl (lv_at hl 1 rfl) ?_
        refine w_get (C := RX4) (T := TX4) (N := 11) (ci := 3) hx hb hts hown hK hM inX4 rfl 5 (by decide) qw_4_89 rfl hmo rfl dX4_bondReason_43 ?_
        refine lv_bipush (v := nI 64) hx hb dX4_bondReason_46 (by decide) ?_
        refine lv_iload_n hx hb dX4_bondReason_48 rfl (lv_at hl 2 rfl) ?_
        refine ni_add hx hb 64 a dX4_bondReason_49 ?_
        refine w_iald hx hb hK hM hno (64 + a) (by omega) (by decide) dX4_bondReason_50 ?_
        refine lv_iconst (v := (-1)) hx hb dX4_bondReason_51 (by decide) ?_
        refine lv_icmp_ne (tgt := 68) hx hb dX4_bondReason_52 (by decide) (fun c_52 => ?_) (fun c_52 => ?_)
        · skip
          refine lv_bipush (v := nI 6) hx hb dX4_bondReason_68 (by decide) ?_
          exact rd_ireturn hx hb hr hlk (by simp [mBondR, bI_t, bI_f, c_11, c_24, c_37, c_52]) dX4_bondReason_70
        · skip
          refine lv_aload_n hx hb dX4_bondReason_55 rfl (lv_at hl 1 rfl) ?_
          refine w_get (C := RX4) (T := TX4) (N := 11) (ci := 3) hx hb hts hown hK hM inX4 rfl 5 (by decide) qw_4_89 rfl hmo rfl dX4_bondReason_56 ?_
          refine lv_bipush (v := nI 64) hx hb dX4_bondReason_59 (by decide) ?_
          refine lv_iload_n hx hb dX4_bondReason_61 rfl (lv_at hl 3 rfl) ?_
          refine ni_add hx hb 64 b dX4_bondReason_62 ?_
          refine w_iald hx hb hK hM hno (64 + b) (by omega) (by decide) dX4_bondReason_63 ?_
          refine lv_iconst (v := (-1)) hx hb dX4_bondReason_64 (by decide) ?_
          refine lv_icmp_eq (tgt := 71) hx hb dX4_bondReason_65 (by decide) (fun c_65 => ?_) (fun c_65 => ?_)
          · skip
            refine lv_aload_n hx hb dX4_bondReason_71 rfl (lv_at hl 1 rfl) ?_
            refine lv_iload_n hx hb dX4_bondReason_72 rfl (lv_at hl 2 rfl) ?_
            refine lv_iload_n hx hb dX4_bondReason_73 rfl (lv_at hl 3 rfl) ?_
            refine rd_goI (rd_runV (As := [.int (nI a), .int (nI b)]) (rest := []) hx hb hml hown hts hK hM okV_RX4_92_X4_leapsOf (met_X4_leapsOf l mo ro no fi se t3 le od th ac oc su a b lf hmo hle (by omega) (by omega) hL) hmo rfl rfl rfl ⟨Nat.le_of_ble_eq_true rfl, Nat.le_of_ble_eq_true rfl⟩ hl.1 rfl (Nat.le_of_ble_eq_true rfl) dX4_bondReason_74 ⟨Nat.le_refl _, Nat.le_refl _⟩) ?_
            have hf74_0 := mHop_le a b
            refine lv_iconst (v := nI 3) hx hb dX4_bondReason_77 (by decide) ?_
            refine ni_le (tgt := 83) hx hb (mHop a b) 3 (by omega) (by omega) dX4_bondReason_78 (by decide) (fun c_78 => ?_) (fun c_78 => ?_)
            · skip
              refine lv_aload_n hx hb dX4_bondReason_83 rfl (lv_at hl 1 rfl) ?_
              refine w_get (C := RX4) (T := TX4) (N := 11) (ci := 3) hx hb hts hown hK hM inX4 rfl 5 (by decide) qw_4_89 rfl hmo rfl dX4_bondReason_84 ?_
              refine lv_iload_n hx hb dX4_bondReason_87 rfl (lv_at hl 0 rfl) ?_
              refine rd_goI (rd_runS (As := [.ref no, .int (nI (mSide f))]) (rest := []) hx hb hml hown hts hK hM okS_RX4_106_X4_inCheck (met_X4_inCheck l no (mSide f) f hno (by omega)) rfl ⟨Nat.le_of_ble_eq_true rfl, Nat.le_of_ble_eq_true rfl⟩ hl.1 rfl (Nat.le_of_ble_eq_true rfl) dX4_bondReason_88 ⟨Nat.le_refl _, Nat.le_refl _⟩) ?_
              refine zb_eq (tgt := 98) hx hb (mInCheck f (mSide f)) dX4_bondReason_91 (by decide) (fun c_91 => ?_) (fun c_91 => ?_)
              · skip
                refine lv_iconst (v := nI 0) hx hb dX4_bondReason_98 (by decide) ?_
                exact rd_ireturn hx hb hr hlk (by simp [mBondR, bI_t, bI_f, c_11, c_24, c_37, c_52, c_65, c_78, Nat.not_lt.mpr c_78, c_91]) dX4_bondReason_99
              · skip
                refine lv_iconst (v := nI 4) hx hb dX4_bondReason_94 (by decide) ?_
                refine lv_goto (tgt := 99) hx hb dX4_bondReason_95 (by decide) ?_
                exact rd_ireturn hx hb hr hlk (by simp [mBondR, bI_t, bI_f, c_11, c_24, c_37, c_52, c_65, c_78, Nat.not_lt.mpr c_78, c_91]) dX4_bondReason_99
            · skip
              refine lv_iconst (v := nI 5) hx hb dX4_bondReason_81 (by decide) ?_
              exact rd_ireturn hx hb hr hlk (by simp [mBondR, bI_t, bI_f, c_11, c_24, c_37, c_52, c_65, c_78, Nat.not_le.mpr c_78, Nat.le_of_lt c_78]) dX4_bondReason_82
          · skip
            refine lv_bipush (v := nI 6) hx hb dX4_bondReason_68 (by decide) ?_
            exact rd_ireturn hx hb hr hlk (by simp [mBondR, bI_t, bI_f, c_11, c_24, c_37, c_52, c_65]) dX4_bondReason_70
      · skip
        refine lv_iconst (v := nI 2) hx hb dX4_bondReason_40 (by decide) ?_
        exact rd_ireturn hx hb hr hlk (by simp [mBondR, bI_t, bI_f, c_11, c_24, c_37]) dX4_bondReason_41
set_option maxHeartbeats 4000000 in
set_option maxRecDepth 100000 in
theorem met_X4_dissolveReason (l : Launch) {D : va_G} {cI cJ : ClassId} {M : MP} (mo ro no fi se t3 le od th ac oc : Nat) (su : Bool) (a : Nat) (f : Nat → Int32) (hmo : M mo = some (.inr (3, [.int (nI th), .int (bI su), .ref ro, .int (nI ac), .int (nI oc), .ref no, .ref fi, .ref se, .ref t3, .ref le, .ref od]))) (hno : M no = some (eI cI 146 f)) (ha : a < 64) (hs : WfS f) : RdI l yX4_dissolveReason cX4_dissolveReason 2 (some .int) 5 D cI cJ [.ref mo, .int (nI a)] M (nI (mDissR f a)) := by
  refine rd_start (by decide) (Nat.le_of_ble_eq_true rfl) ?_
  intro p e s m args below meth c hx hb hr hml hown hts hlk hK hM ls hl
  have hl : lv_has ls 2 [(0, .ref mo), (1, .int (nI a))] := hl
  have hs8 := mSide_le f
  refine lv_aload_n hx hb dX4_dissolveReason_0 rfl (lv_at hl 0 rfl) ?_
  refine w_get (C := RX4) (T := TX4) (N := 11) (ci := 3) hx hb hts hown hK hM inX4 rfl 5 (by decide) qw_4_89 rfl hmo rfl dX4_dissolveReason_1 ?_
  refine lv_iload_n hx hb dX4_dissolveReason_4 rfl (lv_at hl 1 rfl) ?_
  refine lv_iconst (v := nI 5) hx hb dX4_dissolveReason_5 (by decide) ?_
  refine lv_aload_n hx hb dX4_dissolveReason_6 rfl (lv_at hl 0 rfl) ?_
  refine w_get (C := RX4) (T := TX4) (N := 11) (ci := 3) hx hb hts hown hK hM inX4 rfl 5 (by decide) qw_4_89 rfl hmo rfl dX4_dissolveReason_7 ?_
  refine lv_sipush (v := nI 128) hx hb dX4_dissolveReason_10 (by decide) ?_
  refine w_iald hx hb hK hM hno 128 (by omega) (by decide) dX4_dissolveReason_13 ?_
  refine topi (nI (mSide f)) hs ?_
  refine rd_goI (rd_runS (As := [.ref no, .int (nI a), .int (nI 5), .int (nI (mSide f))]) (rest := []) hx hb hml hown hts hK hM okS_RX4_56_X4_isOwn (met_X4_isOwn l no a 5 (mSide f) f hno (by omega)) rfl ⟨Nat.le_of_ble_eq_true rfl, Nat.le_of_ble_eq_true rfl⟩ hl.1 rfl (Nat.le_of_ble_eq_true rfl) dX4_dissolveReason_14 ⟨Nat.le_refl _, Nat.le_refl _⟩) ?_
  refine zb_ne (tgt := 22) hx hb (mIsOwn f a 5 (mSide f)) dX4_dissolveReason_17 (by decide) (fun c_17 => ?_) (fun c_17 => ?_)
  · skip
    refine lv_aload_n hx hb dX4_dissolveReason_22 rfl (lv_at hl 0 rfl) ?_
    refine w_get (C := RX4) (T := TX4) (N := 11) (ci := 3) hx hb hts hown hK hM inX4 rfl 5 (by decide) qw_4_89 rfl hmo rfl dX4_dissolveReason_23 ?_
    refine lv_bipush (v := nI 64) hx hb dX4_dissolveReason_26 (by decide) ?_
    refine lv_iload_n hx hb dX4_dissolveReason_28 rfl (lv_at hl 1 rfl) ?_
    refine ni_add hx hb 64 a dX4_dissolveReason_29 ?_
    refine w_iald hx hb hK hM hno (64 + a) (by omega) (by decide) dX4_dissolveReason_30 ?_
    refine lv_iconst (v := (-1)) hx hb dX4_dissolveReason_31 (by decide) ?_
    refine lv_icmp_ne (tgt := 38) hx hb dX4_dissolveReason_32 (by decide) (fun c_32 => ?_) (fun c_32 => ?_)
    · skip
      refine lv_aload_n hx hb dX4_dissolveReason_38 rfl (lv_at hl 0 rfl) ?_
      refine w_get (C := RX4) (T := TX4) (N := 11) (ci := 3) hx hb hts hown hK hM inX4 rfl 5 (by decide) qw_4_89 rfl hmo rfl dX4_dissolveReason_39 ?_
      refine lv_aload_n hx hb dX4_dissolveReason_42 rfl (lv_at hl 0 rfl) ?_
      refine w_get (C := RX4) (T := TX4) (N := 11) (ci := 3) hx hb hts hown hK hM inX4 rfl 5 (by decide) qw_4_89 rfl hmo rfl dX4_dissolveReason_43 ?_
      refine lv_sipush (v := nI 128) hx hb dX4_dissolveReason_46 (by decide) ?_
      refine w_iald hx hb hK hM hno 128 (by omega) (by decide) dX4_dissolveReason_49 ?_
      refine topi (nI (mSide f)) hs ?_
      refine rd_goI (rd_runS (As := [.ref no, .int (nI (mSide f))]) (rest := []) hx hb hml hown hts hK hM okS_RX4_106_X4_inCheck (met_X4_inCheck l no (mSide f) f hno (by omega)) rfl ⟨Nat.le_of_ble_eq_true rfl, Nat.le_of_ble_eq_true rfl⟩ hl.1 rfl (Nat.le_of_ble_eq_true rfl) dX4_dissolveReason_50 ⟨Nat.le_refl _, Nat.le_refl _⟩) ?_
      refine zb_eq (tgt := 60) hx hb (mInCheck f (mSide f)) dX4_dissolveReason_53 (by decide) (fun c_53 => ?_) (fun c_53 => ?_)
      · skip
        refine lv_iconst (v := nI 0) hx hb dX4_dissolveReason_60 (by decide) ?_
        exact rd_ireturn hx hb hr hlk (by simp [mDissR, bI_t, bI_f, c_17, c_32, c_53]) dX4_dissolveReason_61
      · skip
        refine lv_iconst (v := nI 4) hx hb dX4_dissolveReason_56 (by decide) ?_
        refine lv_goto (tgt := 61) hx hb dX4_dissolveReason_57 (by decide) ?_
        exact rd_ireturn hx hb hr hlk (by simp [mDissR, bI_t, bI_f, c_17, c_32, c_53]) dX4_dissolveReason_61
    · skip
      refine lv_bipush (v := nI 7) hx hb dX4_dissolveReason_35 (by decide) ?_
      exact rd_ireturn hx hb hr hlk (by simp [mDissR, bI_t, bI_f, c_17, c_32]) dX4_dissolveReason_37
  · skip
    refine lv_iconst (v := nI 2) hx hb dX4_dissolveReason_20 (by decide) ?_
    exact rd_ireturn hx hb hr hlk (by simp [mDissR, bI_t, bI_f, c_17]) dX4_dissolveReason_21
set_option maxHeartbeats 4000000 in
set_option maxRecDepth 100000 in
theorem met_X4_hasBondAction (l : Launch) {D : va_G} {cI cJ : ClassId} {M : MP} (mo ro no fi se t3 le od th ac oc : Nat) (su : Bool) (f lf : Nat → Int32) (hmo : M mo = some (.inr (3, [.int (nI th), .int (bI su), .ref ro, .int (nI ac), .int (nI oc), .ref no, .ref fi, .ref se, .ref t3, .ref le, .ref od]))) (hle : M le = some (eI cI 4096 lf)) (hno : M no = some (eI cI 146 f)) (hs : WfS f) (hL : WfL lf) : RdI l yX4_hasBondAction cX4_hasBondAction 3 (some .boolean) 6 D cI cJ [.ref mo] M (bI (mBondAct f)) := by
  refine rd_start (by decide) (Nat.le_of_ble_eq_true rfl) ?_
  intro p e s m args below meth c hx hb hr hml hown hts hlk hK hM ls hl
  have hl : lv_has ls 3 [(0, .ref mo)] := hl
  refine lv_iconst (v := nI 0) hx hb dX4_hasBondAction_0 (by decide) ?_
  refine lv_istore_n (lv' := [(1, .int (nI 0)), (0, .ref mo)]) hx hb dX4_hasBondAction_1 rfl hl (by decide) rfl (fun ls hl => ?_)
  refine loopR (pcH := 2) (st := []) (ι := Nat) (fun ξ => [(1, .int (nI (ξ))), (0, .ref mo)]) (fun n ξ => (ξ) + n = 64 ∧ mBondAct f = mAnyL (fun a => decide (mDissR f a = 0) || mAnyL (fun b => decide (mBondR f a b = 0)) a 0) n (ξ)) ?_ ?_ 64 0 (⟨by first | omega | (dsimp only <;> omega), rfl⟩) ls (lv_sub hl [0,1] rfl)
  · rintro i ⟨hin, hres⟩ ls hl
    try dsimp only at hl hin hres
    refine lv_iload_n hx hb dX4_hasBondAction_2 rfl (lv_at hl 0 rfl) ?_
    refine lv_bipush (v := nI 64) hx hb dX4_hasBondAction_3 (by decide) ?_
    refine ni_ge (tgt := 48) hx hb i 64 (by omega) (by omega) dX4_hasBondAction_5 (by decide) (fun c_5 => ?_) (fun c_5 => ?_)
    · skip
      refine lv_iconst (v := nI 0) hx hb dX4_hasBondAction_48 (by decide) ?_
      exact rd_zreturn hx hb hr hlk (by rw [hres]; first | (simp [mAnyL, bI_t, bI_f, c_5, Nat.not_lt.mpr c_5]; done) | exact bI_f0 (by simp only [mAnyL, c_5, Nat.not_lt.mpr c_5, Bool.and_eq_true, Bool.or_eq_true, decide_eq_true_eq, Bool.and_eq_false_iff, Bool.or_eq_false_iff, decide_eq_false_iff_not, Bool.not_eq_true, if_true, if_false]; omega)) dX4_hasBondAction_49
    · skip
      exfalso; omega
  · rintro n ih i ⟨hin, hres⟩ ls hl
    try dsimp only at hl hin hres
    refine lv_iload_n hx hb dX4_hasBondAction_2 rfl (lv_at hl 0 rfl) ?_
    refine lv_bipush (v := nI 64) hx hb dX4_hasBondAction_3 (by decide) ?_
    refine ni_ge (tgt := 48) hx hb i 64 (by omega) (by omega) dX4_hasBondAction_5 (by decide) (fun c_5 => ?_) (fun c_5 => ?_)
    · skip
      exfalso; omega
    · skip
      refine lv_aload_n hx hb dX4_hasBondAction_8 rfl (lv_at hl 1 rfl) ?_
      refine lv_iload_n hx hb dX4_hasBondAction_9 rfl (lv_at hl 0 rfl) ?_
      refine rd_goI (rd_runV (As := [.int (nI i)]) (rest := []) hx hb hml hown hts hK hM okV_RX4_117_X4_dissolveReason (met_X4_dissolveReason l mo ro no fi se t3 le od th ac oc su i f hmo hno (by omega) hs) hmo rfl rfl rfl ⟨Nat.le_of_ble_eq_true rfl, Nat.le_of_ble_eq_true rfl⟩ hl.1 rfl (Nat.le_of_ble_eq_true rfl) dX4_hasBondAction_10 ⟨Nat.le_refl _, Nat.le_refl _⟩) ?_
      have hf10_0 := mDissR_le f i
      refine n0_ne (tgt := 18) hx hb (mDissR f i) (by omega) dX4_hasBondAction_13 (by decide) (fun c_13 => ?_) (fun c_13 => ?_)
      · skip
        refine lv_iconst (v := nI 0) hx hb dX4_hasBondAction_18 (by decide) ?_
        refine lv_istore_n (lv' := [(2, .int (nI 0)), (1, .int (nI i)), (0, .ref mo)]) hx hb dX4_hasBondAction_19 rfl hl (by decide) rfl (fun ls hl => ?_)
        refine loopR (pcH := 20) (st := []) (ι := Nat) (fun ξ => [(2, .int (nI (ξ))), (1, .int (nI i)), (0, .ref mo)]) (fun n ξ => (ξ) + n = i ∧ mAnyL (fun b => decide (mBondR f i b = 0)) i 0 = mAnyL (fun b => decide (mBondR f i b = 0)) n (ξ)) ?_ ?_ i 0 (⟨by first | omega | (dsimp only <;> omega), rfl⟩) ls (lv_sub hl [0,1,2] rfl)
        · rintro j ⟨hin2, hres2⟩ ls hl
          try dsimp only at hl hin2 hres2
          refine lv_iload_n hx hb dX4_hasBondAction_20 rfl (lv_at hl 0 rfl) ?_
          refine lv_iload_n hx hb dX4_hasBondAction_21 rfl (lv_at hl 1 rfl) ?_
          refine ni_ge (tgt := 42) hx hb j i (by omega) (by omega) dX4_hasBondAction_22 (by decide) (fun c_22 => ?_) (fun c_22 => ?_)
          · skip
            refine ni_iinc (lv' := [(1, .int (nI (i + 1))), (2, .int (nI j)), (0, .ref mo)]) hx hb i 1 dX4_hasBondAction_42 hl (k := 1) rfl (by decide) (by decide) rfl (fun ls hl => ?_)
            refine lv_goto (tgt := 2) hx hb dX4_hasBondAction_45 (by decide) ?_
            exact ih (i + 1) ⟨by first | omega | (dsimp only <;> omega), by rw [hres]; simp [mAnyL, c_5, Nat.not_le.mpr c_5, Nat.le_of_lt c_5, c_13, hres2, c_22, Nat.not_lt.mpr c_22]⟩ ls (lv_sub hl [0,2] rfl)
          · skip
            exfalso; omega
        · rintro n ih2 j ⟨hin2, hres2⟩ ls hl
          try dsimp only at hl hin2 hres2
          refine lv_iload_n hx hb dX4_hasBondAction_20 rfl (lv_at hl 0 rfl) ?_
          refine lv_iload_n hx hb dX4_hasBondAction_21 rfl (lv_at hl 1 rfl) ?_
          refine ni_ge (tgt := 42) hx hb j i (by omega) (by omega) dX4_hasBondAction_22 (by decide) (fun c_22 => ?_) (fun c_22 => ?_)
          · skip
            exfalso; omega
          · skip
            refine lv_aload_n hx hb dX4_hasBondAction_25 rfl (lv_at hl 2 rfl) ?_
            refine lv_iload_n hx hb dX4_hasBondAction_26 rfl (lv_at hl 1 rfl) ?_
            refine lv_iload_n hx hb dX4_hasBondAction_27 rfl (lv_at hl 0 rfl) ?_
            refine rd_goI (rd_runV (As := [.int (nI i), .int (nI j)]) (rest := []) hx hb hml hown hts hK hM okV_RX4_121_X4_bondReason (met_X4_bondReason l mo ro no fi se t3 le od th ac oc su i j f lf hmo hle hno (by omega) (by omega) hs hL) hmo rfl rfl rfl ⟨Nat.le_of_ble_eq_true rfl, Nat.le_of_ble_eq_true rfl⟩ hl.1 rfl (Nat.le_of_ble_eq_true rfl) dX4_hasBondAction_28 ⟨Nat.le_refl _, Nat.le_refl _⟩) ?_
            have hf28_0 := mBondR_le f i j
            refine n0_ne (tgt := 36) hx hb (mBondR f i j) (by omega) dX4_hasBondAction_31 (by decide) (fun c_31 => ?_) (fun c_31 => ?_)
            · skip
              refine ni_iinc (lv' := [(2, .int (nI (j + 1))), (1, .int (nI i)), (0, .ref mo)]) hx hb j 1 dX4_hasBondAction_36 hl (k := 0) rfl (by decide) (by decide) rfl (fun ls hl => ?_)
              refine lv_goto (tgt := 20) hx hb dX4_hasBondAction_39 (by decide) ?_
              exact ih2 (j + 1) ⟨by omega, by rw [hres2]; simp [mAnyL, c_5, Nat.not_le.mpr c_5, Nat.le_of_lt c_5, c_13, hres2, c_22, Nat.not_le.mpr c_22, Nat.le_of_lt c_22, c_31]⟩ ls (lv_sub hl [0,1,2] rfl)
            · skip
              refine lv_iconst (v := nI 1) hx hb dX4_hasBondAction_34 (by decide) ?_
              exact rd_zreturn hx hb hr hlk (by rw [hres]; first | (simp [mAnyL, bI_t, bI_f, c_5, Nat.not_le.mpr c_5, Nat.le_of_lt c_5, c_13, hres2, c_22, Nat.not_le.mpr c_22, Nat.le_of_lt c_22, c_31]; done) | exact bI_1 (by simp only [mAnyL, c_5, Nat.not_le.mpr c_5, Nat.le_of_lt c_5, c_13, hres2, c_22, Nat.not_le.mpr c_22, Nat.le_of_lt c_22, c_31, Bool.and_eq_true, Bool.or_eq_true, decide_eq_true_eq, Bool.and_eq_false_iff, Bool.or_eq_false_iff, decide_eq_false_iff_not, Bool.not_eq_true, if_true, if_false]; omega)) dX4_hasBondAction_35
      · skip
        refine lv_iconst (v := nI 1) hx hb dX4_hasBondAction_16 (by decide) ?_
        exact rd_zreturn hx hb hr hlk (by rw [hres]; first | (simp [mAnyL, bI_t, bI_f, c_5, Nat.not_le.mpr c_5, Nat.le_of_lt c_5, c_13]; done) | exact bI_1 (by simp only [mAnyL, c_5, Nat.not_le.mpr c_5, Nat.le_of_lt c_5, c_13, Bool.and_eq_true, Bool.or_eq_true, decide_eq_true_eq, Bool.and_eq_false_iff, Bool.or_eq_false_iff, decide_eq_false_iff_not, Bool.not_eq_true, if_true, if_false]; omega)) dX4_hasBondAction_17
set_option maxHeartbeats 4000000 in
set_option maxRecDepth 100000 in
theorem met_X4_isSame (l : Launch) {D : va_G} {cI cJ : ClassId} {M : MP} (mo ro no fi se t3 le od th ac oc : Nat) (su : Bool) (r nr : Nat) (f rw : Nat → Int32) (hmo : M mo = some (.inr (3, [.int (nI th), .int (bI su), .ref ro, .int (nI ac), .int (nI oc), .ref no, .ref fi, .ref se, .ref t3, .ref le, .ref od]))) (hno : M no = some (eI cI 146 f)) (hro : M ro = some (eI cI nr rw)) (hr1 : 146 * (r + 1) ≤ nr) (hnr : nr < 2 ^ 31) : RdI l yX4_isSame cX4_isSame 4 (some .boolean) 0 D cI cJ [.ref mo, .int (nI r)] M (bI (mSame rw f r)) := by
  refine rd_start (by decide) (Nat.le_of_ble_eq_true rfl) ?_
  intro p e s m args below meth c hx hb hr hml hown hts hlk hK hM ls hl
  have hl : lv_has ls 4 [(0, .ref mo), (1, .int (nI r))] := hl
  refine lv_iconst (v := nI 1) hx hb dX4_isSame_0 (by decide) ?_
  refine lv_istore_n (lv' := [(2, .int (nI 1)), (0, .ref mo), (1, .int (nI r))]) hx hb dX4_isSame_1 rfl hl (by decide) rfl (fun ls hl => ?_)
  refine lv_iconst (v := nI 0) hx hb dX4_isSame_2 (by decide) ?_
  refine lv_istore_n (lv' := [(3, .int (nI 0)), (2, .int (nI 1)), (0, .ref mo), (1, .int (nI r))]) hx hb dX4_isSame_3 rfl hl (by decide) rfl (fun ls hl => ?_)
  refine loopR (pcH := 4) (st := []) (ι := Bool × Nat) (fun ξ => [(3, .int (nI (ξ.2))), (2, .int (bI (ξ.1))), (0, .ref mo), (1, .int (nI r))]) (fun n ξ => (ξ.2) + n = 129 ∧ mSame rw f r = mSameL rw f r n (ξ.2) (ξ.1)) ?_ ?_ 129 (true, 0) (⟨by first | omega | (dsimp only <;> omega), rfl⟩) ls (lv_sub hl [0,1,2,3] rfl)
  · rintro ⟨acc, i⟩ ⟨hin, hres⟩ ls hl
    try dsimp only at hl hin hres
    refine lv_iload_n hx hb dX4_isSame_4 rfl (lv_at hl 0 rfl) ?_
    refine lv_sipush (v := nI 128) hx hb dX4_isSame_5 (by decide) ?_
    refine ni_gt (tgt := 48) hx hb i 128 (by omega) (by omega) dX4_isSame_8 (by decide) (fun c_8 => ?_) (fun c_8 => ?_)
    · skip
      refine lv_iload_n hx hb dX4_isSame_48 rfl (lv_at hl 1 rfl) ?_
      exact rd_zreturn hx hb hr hlk (by rw [hres]; simp [mSameL, bI_t, bI_f, c_8, Nat.not_le.mpr c_8, Nat.le_of_lt c_8]) dX4_isSame_49
    · skip
      exfalso; omega
  · rintro n ih ⟨acc, i⟩ ⟨hin, hres⟩ ls hl
    try dsimp only at hl hin hres
    refine lv_iload_n hx hb dX4_isSame_4 rfl (lv_at hl 0 rfl) ?_
    refine lv_sipush (v := nI 128) hx hb dX4_isSame_5 (by decide) ?_
    refine ni_gt (tgt := 48) hx hb i 128 (by omega) (by omega) dX4_isSame_8 (by decide) (fun c_8 => ?_) (fun c_8 => ?_)
    · skip
      exfalso; omega
    · skip
      refine lv_iload_n hx hb dX4_isSame_11 rfl (lv_at hl 1 rfl) ?_
      refine meet (ls := ls) (pcJ := 41) (st := [.int (bI (acc && decide (rw (146 * r + i) = f i)))]) ?_ (fun hJ41 => ?_)
      · skip
        refine lv_istore_n (lv' := [(2, .int (bI (acc && decide (rw (146 * r + i) = f i)))), (3, .int (nI i)), (0, .ref mo), (1, .int (nI r))]) hx hb dX4_isSame_41 rfl hl (by decide) rfl (fun ls hl => ?_)
        refine ni_iinc (lv' := [(3, .int (nI (i + 1))), (2, .int (bI (acc && decide (rw (146 * r + i) = f i)))), (0, .ref mo), (1, .int (nI r))]) hx hb i 1 dX4_isSame_42 hl (k := 1) rfl (by decide) (by decide) rfl (fun ls hl => ?_)
        refine lv_goto (tgt := 4) hx hb dX4_isSame_45 (by decide) ?_
        exact ih (acc && decide (rw (146 * r + i) = f i), i + 1) ⟨by first | omega | (dsimp only <;> omega), by rw [hres]; simp [mSameL, c_8, Nat.not_lt.mpr c_8]⟩ ls (lv_sub hl [0,1,2,3] rfl)
      · skip
        refine zb_eq (tgt := 40) hx hb acc dX4_isSame_12 (by decide) (fun c_12 => ?_) (fun c_12 => ?_)
        · skip
          refine lv_iconst (v := nI 0) hx hb dX4_isSame_40 (by decide) ?_
          exact topi (bI (acc && decide (rw (146 * r + i) = f i))) (by simp [c_8, Nat.not_lt.mpr c_8, c_12, bI_t, bI_f]) hJ41
        · skip
          refine lv_aload_n hx hb dX4_isSame_15 rfl (lv_at hl 2 rfl) ?_
          refine w_get (C := RX4) (T := TX4) (N := 11) (ci := 3) hx hb hts hown hK hM inX4 rfl 2 (by decide) qw_4_86 rfl hmo rfl dX4_isSame_16 ?_
          refine lv_sipush (v := nI 146) hx hb dX4_isSame_19 (by decide) ?_
          refine lv_iload_n hx hb dX4_isSame_22 rfl (lv_at hl 3 rfl) ?_
          refine ni_mul hx hb 146 r dX4_isSame_23 ?_
          refine lv_iload_n hx hb dX4_isSame_24 rfl (lv_at hl 0 rfl) ?_
          refine ni_add hx hb (146 * r) i dX4_isSame_25 ?_
          refine w_iald hx hb hK hM hro ((146 * r) + i) (by omega) (by omega) dX4_isSame_26 ?_
          refine lv_aload_n hx hb dX4_isSame_27 rfl (lv_at hl 2 rfl) ?_
          refine w_get (C := RX4) (T := TX4) (N := 11) (ci := 3) hx hb hts hown hK hM inX4 rfl 5 (by decide) qw_4_89 rfl hmo rfl dX4_isSame_28 ?_
          refine lv_iload_n hx hb dX4_isSame_31 rfl (lv_at hl 0 rfl) ?_
          refine w_iald hx hb hK hM hno i (by omega) (by decide) dX4_isSame_32 ?_
          refine lv_icmp_ne (tgt := 40) hx hb dX4_isSame_33 (by decide) (fun c_33 => ?_) (fun c_33 => ?_)
          · skip
            refine lv_iconst (v := nI 0) hx hb dX4_isSame_40 (by decide) ?_
            exact topi (bI (acc && decide (rw (146 * r + i) = f i))) (by simp [c_8, Nat.not_lt.mpr c_8, c_12, c_33, bI_t, bI_f]) hJ41
          · skip
            refine lv_iconst (v := nI 1) hx hb dX4_isSame_36 (by decide) ?_
            refine lv_goto (tgt := 41) hx hb dX4_isSame_37 (by decide) ?_
            exact topi (bI (acc && decide (rw (146 * r + i) = f i))) (by simp [c_8, Nat.not_lt.mpr c_8, c_12, c_33, bI_t, bI_f]) hJ41
set_option maxHeartbeats 4000000 in
set_option maxRecDepth 100000 in
theorem met_X4_occurred (l : Launch) {D : va_G} {cI cJ : ClassId} {M : MP} (mo ro no fi se t3 le od th ac oc : Nat) (su : Bool) (nr : Nat) (f rw : Nat → Int32) (hmo : M mo = some (.inr (3, [.int (nI th), .int (bI su), .ref ro, .int (nI ac), .int (nI oc), .ref no, .ref fi, .ref se, .ref t3, .ref le, .ref od]))) (hno : M no = some (eI cI 146 f)) (hro : M ro = some (eI cI nr rw)) (hr1 : 146 * (ac + 1) ≤ nr) (hnr : nr < 2 ^ 31) : RdI l yX4_occurred cX4_occurred 3 (some .int) 1 D cI cJ [.ref mo] M (nI (mOcc rw f ac)) := by
  refine rd_start (by decide) (Nat.le_of_ble_eq_true rfl) ?_
  intro p e s m args below meth c hx hb hr hml hown hts hlk hK hM ls hl
  have hl : lv_has ls 3 [(0, .ref mo)] := hl
  refine lv_iconst (v := nI 0) hx hb dX4_occurred_0 (by decide) ?_
  refine lv_istore_n (lv' := [(1, .int (nI 0)), (0, .ref mo)]) hx hb dX4_occurred_1 rfl hl (by decide) rfl (fun ls hl => ?_)
  refine lv_iconst (v := nI 0) hx hb dX4_occurred_2 (by decide) ?_
  refine lv_istore_n (lv' := [(2, .int (nI 0)), (1, .int (nI 0)), (0, .ref mo)]) hx hb dX4_occurred_3 rfl hl (by decide) rfl (fun ls hl => ?_)
  refine loopR (pcH := 4) (st := []) (ι := Nat × Nat) (fun ξ => [(2, .int (nI (ξ.2))), (1, .int (nI (ξ.1))), (0, .ref mo)]) (fun n ξ => (ξ.2) + n = ac + 1 ∧ mOcc rw f ac = mCntL (fun z => mSame rw f z) n (ξ.2) (ξ.1)) ?_ ?_ (ac + 1) (0, 0) (⟨by first | omega | (dsimp only <;> omega), rfl⟩) ls (lv_sub hl [0,1,2] rfl)
  · rintro ⟨r, i⟩ ⟨hin, hres⟩ ls hl
    try dsimp only at hl hin hres
    refine lv_iload_n hx hb dX4_occurred_4 rfl (lv_at hl 0 rfl) ?_
    refine lv_aload_n hx hb dX4_occurred_5 rfl (lv_at hl 2 rfl) ?_
    refine w_get (C := RX4) (T := TX4) (N := 11) (ci := 3) hx hb hts hown hK hM inX4 rfl 3 (by decide) qw_4_87 rfl hmo rfl dX4_occurred_6 ?_
    refine ni_gt (tgt := 34) hx hb i ac (by omega) (by omega) dX4_occurred_9 (by decide) (fun c_9 => ?_) (fun c_9 => ?_)
    · skip
      refine lv_iload_n hx hb dX4_occurred_34 rfl (lv_at hl 1 rfl) ?_
      exact rd_ireturn hx hb hr hlk (by rw [hres]; simp [mCntL, bI_t, bI_f, c_9, Nat.not_le.mpr c_9, Nat.le_of_lt c_9]) dX4_occurred_35
    · skip
      exfalso; omega
  · rintro n ih ⟨r, i⟩ ⟨hin, hres⟩ ls hl
    try dsimp only at hl hin hres
    refine lv_iload_n hx hb dX4_occurred_4 rfl (lv_at hl 0 rfl) ?_
    refine lv_aload_n hx hb dX4_occurred_5 rfl (lv_at hl 2 rfl) ?_
    refine w_get (C := RX4) (T := TX4) (N := 11) (ci := 3) hx hb hts hown hK hM inX4 rfl 3 (by decide) qw_4_87 rfl hmo rfl dX4_occurred_6 ?_
    refine ni_gt (tgt := 34) hx hb i ac (by omega) (by omega) dX4_occurred_9 (by decide) (fun c_9 => ?_) (fun c_9 => ?_)
    · skip
      exfalso; omega
    · skip
      refine lv_iload_n hx hb dX4_occurred_12 rfl (lv_at hl 1 rfl) ?_
      refine lv_aload_n hx hb dX4_occurred_13 rfl (lv_at hl 2 rfl) ?_
      refine lv_iload_n hx hb dX4_occurred_14 rfl (lv_at hl 0 rfl) ?_
      refine rd_goI (rd_runV (As := [.int (nI i)]) (rest := [.int (nI r)]) hx hb hml hown hts hK hM okV_RX4_127_X4_isSame (met_X4_isSame l mo ro no fi se t3 le od th ac oc su i nr f rw hmo hno hro (by omega) (by omega)) hmo rfl rfl rfl ⟨Nat.le_of_ble_eq_true rfl, Nat.le_of_ble_eq_true rfl⟩ hl.1 rfl (Nat.le_of_ble_eq_true rfl) dX4_occurred_15 ⟨Nat.le_refl _, Nat.le_refl _⟩) ?_
      refine zb_eq (tgt := 25) hx hb (mSame rw f i) dX4_occurred_18 (by decide) (fun c_18 => ?_) (fun c_18 => ?_)
      · skip
        refine lv_iconst (v := nI 0) hx hb dX4_occurred_25 (by decide) ?_
        refine ni_add hx hb r 0 dX4_occurred_26 ?_
        refine lv_istore_n (lv' := [(1, .int (nI (r + 0))), (2, .int (nI i)), (0, .ref mo)]) hx hb dX4_occurred_27 rfl hl (by decide) rfl (fun ls hl => ?_)
        refine ni_iinc (lv' := [(2, .int (nI (i + 1))), (1, .int (nI (r + 0))), (0, .ref mo)]) hx hb i 1 dX4_occurred_28 hl (k := 1) rfl (by decide) (by decide) rfl (fun ls hl => ?_)
        refine lv_goto (tgt := 4) hx hb dX4_occurred_31 (by decide) ?_
        exact ih (r + 0, i + 1) ⟨by first | omega | (dsimp only <;> omega), by rw [hres]; simp [mCntL, c_9, Nat.not_lt.mpr c_9, c_18]⟩ ls (lv_sub hl [0,1,2] rfl)
      · skip
        refine lv_iconst (v := nI 1) hx hb dX4_occurred_21 (by decide) ?_
        refine lv_goto (tgt := 26) hx hb dX4_occurred_22 (by decide) ?_
        refine ni_add hx hb r 1 dX4_occurred_26 ?_
        refine lv_istore_n (lv' := [(1, .int (nI (r + 1))), (2, .int (nI i)), (0, .ref mo)]) hx hb dX4_occurred_27 rfl hl (by decide) rfl (fun ls hl => ?_)
        refine ni_iinc (lv' := [(2, .int (nI (i + 1))), (1, .int (nI (r + 1))), (0, .ref mo)]) hx hb i 1 dX4_occurred_28 hl (k := 1) rfl (by decide) (by decide) rfl (fun ls hl => ?_)
        refine lv_goto (tgt := 4) hx hb dX4_occurred_31 (by decide) ?_
        exact ih (r + 1, i + 1) ⟨by first | omega | (dsimp only <;> omega), by rw [hres]; simp [mCntL, c_9, Nat.not_lt.mpr c_9, c_18]⟩ ls (lv_sub hl [0,1,2] rfl)
