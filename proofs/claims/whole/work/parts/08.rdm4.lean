theorem okS_RX4_142_X4_pieces : okS RX4 142 yX4_pieces cX4_pieces 3 (some .int) 1 := okS_of qw_4_73 qw_4_74 qw_1_5 qw_4_75 (by decide +kernel)
theorem okS_RX4_160_X4_isSquare : okS RX4 160 yX4_isSquare cX4_isSquare 1 (some .boolean) 1 := okS_of qw_4_130 qw_4_131 qw_1_5 qw_4_132 (by decide +kernel)
theorem okV_RX4_131_X4_hasMove : okV RX4 131 yX4_hasMove cX4_hasMove 4 (some .boolean) 2 := okV_of qw_4_36 qw_4_38 qw_0_13 qw_1_5 qw_4_39 (by decide +kernel)
theorem okV_RX4_138_X4_hasBondAction : okV RX4 138 yX4_hasBondAction cX4_hasBondAction 3 (some .boolean) 0 := okV_of qw_4_61 qw_4_63 qw_0_17 qw_1_5 qw_4_64 (by decide +kernel)
theorem okV_RX4_146_X4_occurred : okV RX4 146 yX4_occurred cX4_occurred 3 (some .int) 0 := okV_of qw_4_76 qw_4_78 qw_0_20 qw_1_5 qw_4_79 (by decide +kernel)
theorem okV_RX4_163_X4_isGood : okV RX4 163 yX4_isGood cX4_isGood 2 (some .boolean) 1 := okV_of qw_4_133 qw_4_135 qw_0_22 qw_1_5 qw_4_136 (by decide +kernel)
set_option maxHeartbeats 4000000 in
set_option maxRecDepth 100000 in
theorem met_X4_isGood (l : Launch) {D : va_G} {cI cJ : ClassId} {M : MP} {A : Nat → Prop} {sz : Nat} (mo ro no fi se t3 le od th ac oc : Nat) (su : Bool) (b : Bool) (hmo : M mo = some (.inr (3, [.int (nI th), .int (bI su), .ref ro, .int (nI ac), .int (nI oc), .ref no, .ref fi, .ref se, .ref t3, .ref le, .ref od]))) (hA_mo : A mo) : Wr l yX4_isGood cX4_isGood 2 (some .boolean) 0 0 0 D cI cJ [.ref mo, .int (bI b)] M sz A (some (.int (bI b))) (fun M' => M' = mu M mo (.inr (3, [.int (nI (gN b)), .int (bI su), .ref ro, .int (nI ac), .int (nI oc), .ref no, .ref fi, .ref se, .ref t3, .ref le, .ref od]))) := by
  refine wr_start (by decide) (Nat.le_of_ble_eq_true rfl) ?_
  intro p e s m args below meth c hx hb hr hml hown hts hlk hini hK hsz H hH0 hM hS ls hl
  clear hH0
  have hl : lv_has ls 2 [(0, .ref mo), (1, .int (bI b))] := hl
  refine lv_aload_n hx hb dX4_isGood_0 rfl (lv_at hl 0 rfl) ?_
  refine lv_iload_n hx hb dX4_isGood_1 rfl (lv_at hl 1 rfl) ?_
  refine meet (ls := ls) (pcJ := 10) (st := [.int (nI (gN b)), .ref mo]) ?_ (fun hJ10 => ?_)
  · skip
    refine w_put (C := RX4) (T := TX4) (N := 11) (ci := 3) hx hb hts hown hK hM hS inX4 rfl tyX4 tyX4_ok nmX4 0 (by decide) qw_4_84 rfl rfl hmo hA_mo rfl rfl (Nat.le_of_ble_eq_true rfl) dX4_isGood_10 (fun H locs hM hS => ?_)
    replace hM : HM D (mu M mo (.inr (3, [.int (nI (gN b)), .int (bI su), .ref ro, .int (nI ac), .int (nI oc), .ref no, .ref fi, .ref se, .ref t3, .ref le, .ref od]))) H := hM
    refine lv_iload_n hx hb dX4_isGood_13 rfl (lv_at hl 1 rfl) ?_
    exact wr_zreturn hx hb hr hlk hM hS (Nat.le_refl _) (Nat.le_refl _) rfl rfl dX4_isGood_14
  · skip
    refine zb_eq (tgt := 9) hx hb b dX4_isGood_2 (by decide) (fun c_2 => ?_) (fun c_2 => ?_)
    · skip
      refine lv_iconst (v := nI 1) hx hb dX4_isGood_9 (by decide) ?_
      exact topi (nI (gN b)) (by simp [gN, c_2]) hJ10
    · skip
      refine lv_iconst (v := nI 0) hx hb dX4_isGood_5 (by decide) ?_
      refine lv_goto (tgt := 10) hx hb dX4_isGood_6 (by decide) ?_
      exact topi (nI (gN b)) (by simp [gN, c_2]) hJ10
set_option maxHeartbeats 4000000 in
set_option maxRecDepth 100000 in
theorem met_X4_fail (l : Launch) {D : va_G} {cI cJ : ClassId} {M : MP} {A : Nat → Prop} {sz : Nat} (mo ro no fi se t3 le od th ac oc : Nat) (su : Bool) (k : Nat) (hmo : M mo = some (.inr (3, [.int (nI th), .int (bI su), .ref ro, .int (nI ac), .int (nI oc), .ref no, .ref fi, .ref se, .ref t3, .ref le, .ref od]))) (hA_mo : A mo) : Wr l yX4_fail cX4_fail 2 (some .int) 0 0 0 D cI cJ [.ref mo, .int (nI k)] M sz A (some (.int (nI 0))) (fun M' => M' = mu M mo (.inr (3, [.int (nI k), .int (bI su), .ref ro, .int (nI ac), .int (nI oc), .ref no, .ref fi, .ref se, .ref t3, .ref le, .ref od]))) := by
  refine wr_start (by decide) (Nat.le_of_ble_eq_true rfl) ?_
  intro p e s m args below meth c hx hb hr hml hown hts hlk hini hK hsz H hH0 hM hS ls hl
  clear hH0
  have hl : lv_has ls 2 [(0, .ref mo), (1, .int (nI k))] := hl
  refine lv_aload_n hx hb dX4_fail_0 rfl (lv_at hl 0 rfl) ?_
  refine lv_iload_n hx hb dX4_fail_1 rfl (lv_at hl 1 rfl) ?_
  refine w_put (C := RX4) (T := TX4) (N := 11) (ci := 3) hx hb hts hown hK hM hS inX4 rfl tyX4 tyX4_ok nmX4 0 (by decide) qw_4_84 rfl rfl hmo hA_mo rfl rfl (Nat.le_of_ble_eq_true rfl) dX4_fail_2 (fun H locs hM hS => ?_)
  replace hM : HM D (mu M mo (.inr (3, [.int (nI k), .int (bI su), .ref ro, .int (nI ac), .int (nI oc), .ref no, .ref fi, .ref se, .ref t3, .ref le, .ref od]))) H := hM
  refine lv_iconst (v := nI 0) hx hb dX4_fail_5 (by decide) ?_
  exact wr_ireturn hx hb hr hlk hM hS (Nat.le_refl _) (Nat.le_refl _) rfl rfl dX4_fail_6
set_option maxHeartbeats 4000000 in
set_option maxRecDepth 100000 in
theorem met_X4_isPlayed (l : Launch) {D : va_G} {cI cJ : ClassId} {M : MP} (mo ro no fi se t3 le od th ac oc : Nat) (su : Bool) (hmo : M mo = some (.inr (3, [.int (nI th), .int (bI su), .ref ro, .int (nI ac), .int (nI oc), .ref no, .ref fi, .ref se, .ref t3, .ref le, .ref od]))) (hoc : oc < 2 ^ 31) : RdI l yX4_isPlayed cX4_isPlayed 1 (some .boolean) 0 D cI cJ [.ref mo] M (bI (!su && decide (oc = 0))) := by
  refine rd_start (by decide) (Nat.le_of_ble_eq_true rfl) ?_
  intro p e s m args below meth c hx hb hr hml hown hts hlk hK hM ls hl
  have hl : lv_has ls 1 [(0, .ref mo)] := hl
  refine lv_aload_n hx hb dX4_isPlayed_0 rfl (lv_at hl 0 rfl) ?_
  refine w_get (C := RX4) (T := TX4) (N := 11) (ci := 3) hx hb hts hown hK hM inX4 rfl 1 (by decide) qw_4_85 rfl hmo rfl dX4_isPlayed_1 ?_
  refine zb_ne (tgt := 18) hx hb su dX4_isPlayed_4 (by decide) (fun c_4 => ?_) (fun c_4 => ?_)
  · skip
    refine lv_iconst (v := nI 0) hx hb dX4_isPlayed_18 (by decide) ?_
    exact rd_zreturn hx hb hr hlk (by first | (simp [bI_t, bI_f, c_4]; done) | exact bI_f0 (by simp only [c_4, Bool.and_eq_true, Bool.or_eq_true, decide_eq_true_eq, Bool.and_eq_false_iff, Bool.or_eq_false_iff, decide_eq_false_iff_not, Bool.not_eq_true, if_true, if_false]; omega)) dX4_isPlayed_19
  · skip
    refine lv_aload_n hx hb dX4_isPlayed_7 rfl (lv_at hl 0 rfl) ?_
    refine w_get (C := RX4) (T := TX4) (N := 11) (ci := 3) hx hb hts hown hK hM inX4 rfl 4 (by decide) qw_4_88 rfl hmo rfl dX4_isPlayed_8 ?_
    refine n0_ne (tgt := 18) hx hb oc (by omega) dX4_isPlayed_11 (by decide) (fun c_11 => ?_) (fun c_11 => ?_)
    · skip
      refine lv_iconst (v := nI 0) hx hb dX4_isPlayed_18 (by decide) ?_
      exact rd_zreturn hx hb hr hlk (by first | (simp [bI_t, bI_f, c_4, c_11]; done) | exact bI_f0 (by simp only [c_4, c_11, Bool.and_eq_true, Bool.or_eq_true, decide_eq_true_eq, Bool.and_eq_false_iff, Bool.or_eq_false_iff, decide_eq_false_iff_not, Bool.not_eq_true, if_true, if_false]; omega)) dX4_isPlayed_19
    · skip
      refine lv_iconst (v := nI 1) hx hb dX4_isPlayed_14 (by decide) ?_
      refine lv_goto (tgt := 19) hx hb dX4_isPlayed_15 (by decide) ?_
      exact rd_zreturn hx hb hr hlk (by first | (simp [bI_t, bI_f, c_4, c_11]; done) | exact bI_1 (by simp only [c_4, c_11, Bool.and_eq_true, Bool.or_eq_true, decide_eq_true_eq, Bool.and_eq_false_iff, Bool.or_eq_false_iff, decide_eq_false_iff_not, Bool.not_eq_true, if_true, if_false]; omega)) dX4_isPlayed_19
set_option maxHeartbeats 4000000 in
set_option maxRecDepth 100000 in
theorem met_X4_areSquares (l : Launch) {D : va_G} {cI cJ : ClassId} {M : MP} {A : Nat → Prop} {sz : Nat} (mo ro no fi se t3 le od th ac oc : Nat) (su : Bool) (x y : Int32) (hmo : M mo = some (.inr (3, [.int (nI th), .int (bI su), .ref ro, .int (nI ac), .int (nI oc), .ref no, .ref fi, .ref se, .ref t3, .ref le, .ref od]))) (hA_mo : A mo) : Wr l yX4_areSquares cX4_areSquares 3 (some .boolean) 1 0 0 D cI cJ [.ref mo, .int x, .int y] M sz A (some (.int (bI (mIsSq x && mIsSq y)))) (fun M' => M' = mu M mo (.inr (3, [.int (nI (gN (mIsSq x && mIsSq y))), .int (bI su), .ref ro, .int (nI ac), .int (nI oc), .ref no, .ref fi, .ref se, .ref t3, .ref le, .ref od]))) := by
  refine wr_start (by decide) (Nat.le_of_ble_eq_true rfl) ?_
  intro p e s m args below meth c hx hb hr hml hown hts hlk hini hK hsz H hH0 hM hS ls hl
  clear hH0
  have hl : lv_has ls 3 [(0, .ref mo), (1, .int x), (2, .int y)] := hl
  refine lv_aload_n hx hb dX4_areSquares_0 rfl (lv_at hl 0 rfl) ?_
  refine lv_iload_n hx hb dX4_areSquares_1 rfl (lv_at hl 1 rfl) ?_
  refine rd_goI (rd_runS (As := [.int x]) (rest := [.ref mo]) hx hb hml hown hts hK hM okS_RX4_160_X4_isSquare (met_X4_isSquare l x) rfl ⟨Nat.le_of_ble_eq_true rfl, Nat.le_of_ble_eq_true rfl⟩ hl.1 rfl (Nat.le_of_ble_eq_true rfl) dX4_areSquares_2 ⟨Nat.le_refl _, Nat.le_refl _⟩) ?_
  refine meet (ls := ls) (pcJ := 20) (st := [.int (bI (mIsSq x && mIsSq y)), .ref mo]) ?_ (fun hJ20 => ?_)
  · skip
    refine wr_go0 (wr_runV (As := [.int (bI (mIsSq x && mIsSq y))]) (rest := []) hx hb hml hown hts hK hM okV_RX4_163_X4_isGood (met_X4_isGood l mo ro no fi se t3 le od th ac oc su (mIsSq x && mIsSq y) hmo hA_mo) hmo rfl rfl rfl ⟨Nat.le_of_ble_eq_true rfl, Nat.le_of_ble_eq_true rfl⟩ hl.1 rfl (Nat.le_of_ble_eq_true rfl) dX4_areSquares_20 ⟨Nat.le_refl _, Nat.le_refl _⟩) hS (fun M1 H locs hR hM hS => ?_)
    obtain rfl := hR
    exact wr_zreturn hx hb hr hlk hM hS (Nat.le_refl _) (Nat.le_refl _) rfl rfl dX4_areSquares_23
  · skip
    refine zb_eq (tgt := 19) hx hb (mIsSq x) dX4_areSquares_5 (by decide) (fun c_5 => ?_) (fun c_5 => ?_)
    · skip
      refine lv_iconst (v := nI 0) hx hb dX4_areSquares_19 (by decide) ?_
      exact topi (bI (mIsSq x && mIsSq y)) (by simp [c_5, bI_t, bI_f]) hJ20
    · skip
      refine lv_iload_n hx hb dX4_areSquares_8 rfl (lv_at hl 2 rfl) ?_
      refine rd_goI (rd_runS (As := [.int y]) (rest := [.ref mo]) hx hb hml hown hts hK hM okS_RX4_160_X4_isSquare (met_X4_isSquare l y) rfl ⟨Nat.le_of_ble_eq_true rfl, Nat.le_of_ble_eq_true rfl⟩ hl.1 rfl (Nat.le_of_ble_eq_true rfl) dX4_areSquares_9 ⟨Nat.le_refl _, Nat.le_refl _⟩) ?_
      refine zb_eq (tgt := 19) hx hb (mIsSq y) dX4_areSquares_12 (by decide) (fun c_12 => ?_) (fun c_12 => ?_)
      · skip
        refine lv_iconst (v := nI 0) hx hb dX4_areSquares_19 (by decide) ?_
        exact topi (bI (mIsSq x && mIsSq y)) (by simp [c_5, c_12, bI_t, bI_f]) hJ20
      · skip
        refine lv_iconst (v := nI 1) hx hb dX4_areSquares_15 (by decide) ?_
        refine lv_goto (tgt := 20) hx hb dX4_areSquares_16 (by decide) ?_
        exact topi (bI (mIsSq x && mIsSq y)) (by simp [c_5, c_12, bI_t, bI_f]) hJ20
set_option maxHeartbeats 4000000 in
set_option maxRecDepth 100000 in
theorem met_X4_attacked (l : Launch) {D : va_G} {cI cJ : ClassId} {M : MP} (mo ro no fi se t3 le od th ac oc : Nat) (su : Bool) (sd : Nat) (f : Nat → Int32) (hmo : M mo = some (.inr (3, [.int (nI th), .int (bI su), .ref ro, .int (nI ac), .int (nI oc), .ref no, .ref fi, .ref se, .ref t3, .ref le, .ref od]))) (hno : M no = some (eI cI 146 f)) (hsd : sd ≤ 8) : RdL l yX4_attacked cX4_attacked 5 (some .long) 4 D cI cJ [.ref mo, .int (nI sd)] M (bL (mAttSet f sd)) := by
  refine rd_start (by decide) (Nat.le_of_ble_eq_true rfl) ?_
  intro p e s m args below meth c hx hb hr hml hown hts hlk hK hM ls hl
  have hl : lv_has ls 5 [(0, .ref mo), (1, .int (nI sd))] := hl
  refine lb_const hx hb 0#64 dX4_attacked_0 rfl ?_
  refine lv_lstore_n (lv' := [(2, .long (bL (0#64))), (0, .ref mo), (1, .int (nI sd))]) hx hb dX4_attacked_1 rfl hl (by decide) rfl (fun ls hl => ?_)
  refine lv_iconst (v := nI 0) hx hb dX4_attacked_2 (by decide) ?_
  refine lv_istore (lv' := [(4, .int (nI 0)), (2, .long (bL (0#64))), (0, .ref mo), (1, .int (nI sd))]) hx hb dX4_attacked_3 hl (by decide) rfl (fun ls hl => ?_)
  refine loopR (pcH := 5) (st := []) (ι := BitVec 64 × Nat) (fun ξ => [(4, .int (nI (ξ.2))), (2, .long (bL (ξ.1))), (0, .ref mo), (1, .int (nI sd))]) (fun n ξ => (ξ.2) + n = 64 ∧ mAttSet f sd = mSetL (fun j => mIsAtt f j sd) n (ξ.2) (ξ.1)) ?_ ?_ 64 (0#64, 0) (⟨by first | omega | (dsimp only <;> omega), rfl⟩) ls (lv_sub hl [0,1,2,3] rfl)
  · rintro ⟨r, i⟩ ⟨hin, hres⟩ ls hl
    try dsimp only at hl hin hres
    refine lv_iload hx hb dX4_attacked_5 (lv_at hl 0 rfl) ?_
    refine lv_bipush (v := nI 64) hx hb dX4_attacked_7 (by decide) ?_
    refine ni_ge (tgt := 42) hx hb i 64 (by omega) (by omega) dX4_attacked_9 (by decide) (fun c_9 => ?_) (fun c_9 => ?_)
    · skip
      refine lv_lload_n hx hb dX4_attacked_42 rfl (lv_at hl 1 rfl) ?_
      exact rd_lreturn hx hb hr hlk (by rw [hres]; simp [mSetL, bI_t, bI_f, c_9, Nat.not_lt.mpr c_9]) dX4_attacked_43
    · skip
      exfalso; omega
  · rintro n ih ⟨r, i⟩ ⟨hin, hres⟩ ls hl
    try dsimp only at hl hin hres
    refine lv_iload hx hb dX4_attacked_5 (lv_at hl 0 rfl) ?_
    refine lv_bipush (v := nI 64) hx hb dX4_attacked_7 (by decide) ?_
    refine ni_ge (tgt := 42) hx hb i 64 (by omega) (by omega) dX4_attacked_9 (by decide) (fun c_9 => ?_) (fun c_9 => ?_)
    · skip
      exfalso; omega
    · skip
      refine lv_lload_n hx hb dX4_attacked_12 rfl (lv_at hl 1 rfl) ?_
      refine lv_aload_n hx hb dX4_attacked_13 rfl (lv_at hl 2 rfl) ?_
      refine w_get (C := RX4) (T := TX4) (N := 11) (ci := 3) hx hb hts hown hK hM inX4 rfl 5 (by decide) qw_4_89 rfl hmo rfl dX4_attacked_14 ?_
      refine lv_iload hx hb dX4_attacked_17 (lv_at hl 0 rfl) ?_
      refine lv_iload_n hx hb dX4_attacked_19 rfl (lv_at hl 3 rfl) ?_
      refine rd_goI (rd_runS (As := [.ref no, .int (nI i), .int (nI sd)]) (rest := [.long (bL r)]) hx hb hml hown hts hK hM okS_RX4_85_X4_isAttacked (met_X4_isAttacked l no i sd f hno (by omega) (by omega)) rfl ⟨Nat.le_of_ble_eq_true rfl, Nat.le_of_ble_eq_true rfl⟩ hl.1 rfl (Nat.le_of_ble_eq_true rfl) dX4_attacked_20 ⟨Nat.le_refl _, Nat.le_refl _⟩) ?_
      refine zb_eq (tgt := 33) hx hb (mIsAtt f i sd) dX4_attacked_23 (by decide) (fun c_23 => ?_) (fun c_23 => ?_)
      · skip
        refine lb_const hx hb 0#64 dX4_attacked_33 rfl ?_
        refine lb_or hx hb dX4_attacked_34 ?_
        refine lv_lstore_n (lv' := [(2, .long (bL (r ||| (0#64)))), (4, .int (nI i)), (0, .ref mo), (1, .int (nI sd))]) hx hb dX4_attacked_35 rfl hl (by decide) rfl (fun ls hl => ?_)
        refine ni_iinc (lv' := [(4, .int (nI (i + 1))), (2, .long (bL (r ||| (0#64)))), (0, .ref mo), (1, .int (nI sd))]) hx hb i 1 dX4_attacked_36 hl (k := 1) rfl (by decide) (by decide) rfl (fun ls hl => ?_)
        refine lv_goto (tgt := 5) hx hb dX4_attacked_39 (by decide) ?_
        exact ih (r ||| (0#64), i + 1) ⟨by first | omega | (dsimp only <;> omega), by rw [hres]; simp [mSetL, c_9, Nat.not_le.mpr c_9, Nat.le_of_lt c_9, c_23]⟩ ls (lv_sub hl [0,1,2,3] rfl)
      · skip
        refine lb_const hx hb 1#64 dX4_attacked_26 rfl ?_
        refine lv_iload hx hb dX4_attacked_27 (lv_at hl 0 rfl) ?_
        refine lb_shl hx hb i (by omega) dX4_attacked_29 ?_
        refine lv_goto (tgt := 34) hx hb dX4_attacked_30 (by decide) ?_
        refine lb_or hx hb dX4_attacked_34 ?_
        refine lv_lstore_n (lv' := [(2, .long (bL (r ||| ((1#64) <<< i)))), (4, .int (nI i)), (0, .ref mo), (1, .int (nI sd))]) hx hb dX4_attacked_35 rfl hl (by decide) rfl (fun ls hl => ?_)
        refine ni_iinc (lv' := [(4, .int (nI (i + 1))), (2, .long (bL (r ||| ((1#64) <<< i)))), (0, .ref mo), (1, .int (nI sd))]) hx hb i 1 dX4_attacked_36 hl (k := 1) rfl (by decide) (by decide) rfl (fun ls hl => ?_)
        refine lv_goto (tgt := 5) hx hb dX4_attacked_39 (by decide) ?_
        exact ih (r ||| ((1#64) <<< i), i + 1) ⟨by first | omega | (dsimp only <;> omega), by rw [hres]; simp [mSetL, c_9, Nat.not_le.mpr c_9, Nat.le_of_lt c_9, c_23]⟩ ls (lv_sub hl [0,1,2,3] rfl)
set_option maxHeartbeats 4000000 in
set_option maxRecDepth 100000 in
theorem met_X4_findOutcome (l : Launch) {D : va_G} {cI cJ : ClassId} {M : MP} {A : Nat → Prop} {sz : Nat} (mo ro no fi se t3 le od th ac oc : Nat) (su : Bool) (nr : Nat) (f g lf rw : Nat → Int32) (hmo : M mo = some (.inr (3, [.int (nI th), .int (bI su), .ref ro, .int (nI ac), .int (nI oc), .ref no, .ref fi, .ref se, .ref t3, .ref le, .ref od]))) (hle : M le = some (eI cI 4096 lf)) (hno : M no = some (eI cI 146 f)) (hfi : M fi = some (eI cI 146 g)) (hro : M ro = some (eI cI nr rw)) (hP : WfP f) (hB : WfB f) (hs : WfS f) (hL : WfL lf) (hr1 : 146 * (ac + 1) ≤ nr) (hnr : nr < 2 ^ 31) (hnf : no ≠ fi) (hlf : le ≠ fi) (hrf : ro ≠ fi) (hA_mo : A mo) (hA_fi : A fi) : Wr l yX4_findOutcome cX4_findOutcome 3 none 7 0 0 D cI cJ [.ref mo] M sz A none (fun M' => ∃ g1 : Nat → Int32, M' = mu (mu M mo (.inr (3, [.int (nI th), .int (bI su), .ref ro, .int (nI ac), .int (nI (mOutc rw f ac)), .ref no, .ref fi, .ref se, .ref t3, .ref le, .ref od]))) fi (eI cI 146 g1)) := by
  refine wr_start (by decide) (Nat.le_of_ble_eq_true rfl) ?_
  intro p e s m args below meth c hx hb hr hml hown hts hlk hini hK hsz H hH0 hM hS ls hl
  clear hH0
  have hl : lv_has ls 3 [(0, .ref mo)] := hl
  have hs8 := mSide_le f
  refine lv_aload_n hx hb dX4_findOutcome_0 rfl (lv_at hl 0 rfl) ?_
  refine w_get (C := RX4) (T := TX4) (N := 11) (ci := 3) hx hb hts hown hK hM inX4 rfl 5 (by decide) qw_4_89 rfl hmo rfl dX4_findOutcome_1 ?_
  refine lv_aload_n hx hb dX4_findOutcome_4 rfl (lv_at hl 0 rfl) ?_
  refine w_get (C := RX4) (T := TX4) (N := 11) (ci := 3) hx hb hts hown hK hM inX4 rfl 5 (by decide) qw_4_89 rfl hmo rfl dX4_findOutcome_5 ?_
  refine lv_sipush (v := nI 128) hx hb dX4_findOutcome_8 (by decide) ?_
  refine w_iald hx hb hK hM hno 128 (by omega) (by decide) dX4_findOutcome_11 ?_
  refine topi (nI (mSide f)) hs ?_
  refine rd_goI (rd_runS (As := [.ref no, .int (nI (mSide f))]) (rest := []) hx hb hml hown hts hK hM okS_RX4_106_X4_inCheck (met_X4_inCheck l no (mSide f) f hno (by omega)) rfl ⟨Nat.le_of_ble_eq_true rfl, Nat.le_of_ble_eq_true rfl⟩ hl.1 rfl (Nat.le_of_ble_eq_true rfl) dX4_findOutcome_12 ⟨Nat.le_refl _, Nat.le_refl _⟩) ?_
  refine lv_istore_n (lv' := [(1, .int (bI (mInCheck f (mSide f)))), (0, .ref mo)]) hx hb dX4_findOutcome_15 rfl hl (by decide) rfl (fun ls hl => ?_)
  refine lv_aload_n hx hb dX4_findOutcome_16 rfl (lv_at hl 1 rfl) ?_
  refine lv_aload_n hx hb dX4_findOutcome_17 rfl (lv_at hl 1 rfl) ?_
  refine w_get (C := RX4) (T := TX4) (N := 11) (ci := 3) hx hb hts hown hK hM inX4 rfl 5 (by decide) qw_4_89 rfl hmo rfl dX4_findOutcome_18 ?_
  refine lv_aload_n hx hb dX4_findOutcome_21 rfl (lv_at hl 1 rfl) ?_
  refine w_get (C := RX4) (T := TX4) (N := 11) (ci := 3) hx hb hts hown hK hM inX4 rfl 6 (by decide) qw_4_90 rfl hmo rfl dX4_findOutcome_22 ?_
  refine wr_go0 (wr_runV (As := [.ref no, .ref fi]) (rest := []) hx hb hml hown hts hK hM okV_RX4_131_X4_hasMove (met_X4_hasMove l mo ro no fi se t3 le od th ac oc su no fi f g lf hmo hle hno hfi hP hB hs hL hnf hlf hA_fi) hmo rfl rfl rfl ⟨Nat.le_of_ble_eq_true rfl, Nat.le_of_ble_eq_true rfl⟩ hl.1 rfl (Nat.le_of_ble_eq_true rfl) dX4_findOutcome_25 ⟨Nat.le_refl _, Nat.le_refl _⟩) hS (fun M1 H locs hR hM hS => ?_)
  obtain ⟨g1_25, rfl⟩ := hR
  refine lv_istore_n (lv' := [(2, .int (bI (mHas f))), (1, .int (bI (mInCheck f (mSide f)))), (0, .ref mo)]) hx hb dX4_findOutcome_28 rfl hl (by decide) rfl (fun ls hl => ?_)
  refine lv_iload_n hx hb dX4_findOutcome_29 rfl (lv_at hl 1 rfl) ?_
  refine zb_eq (tgt := 45) hx hb (mInCheck f (mSide f)) dX4_findOutcome_30 (by decide) (fun c_30 => ?_) (fun c_30 => ?_)
  · skip
    refine lv_iload_n hx hb dX4_findOutcome_45 rfl (lv_at hl 1 rfl) ?_
    refine zb_ne (tgt := 68) hx hb (mInCheck f (mSide f)) dX4_findOutcome_46 (by decide) (fun h => absurd (h.symm.trans c_30) (by decide)) (fun _ => ?_)
    refine lv_iload_n hx hb dX4_findOutcome_49 rfl (lv_at hl 0 rfl) ?_
    refine zb_ne (tgt := 68) hx hb (mHas f) dX4_findOutcome_50 (by decide) (fun c_50 => ?_) (fun c_50 => ?_)
    · skip
      refine lv_aload_n hx hb dX4_findOutcome_68 rfl (lv_at hl 2 rfl) ?_
      refine w_get (C := RX4) (T := TX4) (N := 11) (ci := 3) hx hb hts hown hK hM inX4 rfl 5 (by decide) qw_4_89 rfl (mu_g (ne_oi hmo hfi) hmo) rfl dX4_findOutcome_69 ?_
      refine rd_goI (rd_runS (As := [.ref no]) (rest := []) hx hb hml hown hts hK hM okS_RX4_142_X4_pieces (met_X4_pieces l no f (mu_g hnf hno)) rfl ⟨Nat.le_of_ble_eq_true rfl, Nat.le_of_ble_eq_true rfl⟩ hl.1 rfl (Nat.le_of_ble_eq_true rfl) dX4_findOutcome_72 ⟨Nat.le_refl _, Nat.le_refl _⟩) ?_
      have hf72_0 := mPieces_le f
      refine lv_iconst (v := nI 2) hx hb dX4_findOutcome_75 (by decide) ?_
      refine ni_ne (tgt := 87) hx hb (mPieces f) 2 (by omega) (by omega) dX4_findOutcome_76 (by decide) (fun c_76 => ?_) (fun c_76 => ?_)
      · skip
        refine lv_aload_n hx hb dX4_findOutcome_87 rfl (lv_at hl 2 rfl) ?_
        refine rd_goI (rd_runV (As := []) (rest := []) hx hb hml hown hts hK hM okV_RX4_146_X4_occurred (met_X4_occurred l mo ro no fi se t3 le od th ac oc su nr f rw (mu_g (ne_oi hmo hfi) hmo) (mu_g hnf hno) (mu_g hrf hro) (by omega) (by omega)) (mu_g (ne_oi hmo hfi) hmo) rfl rfl rfl ⟨Nat.le_of_ble_eq_true rfl, Nat.le_of_ble_eq_true rfl⟩ hl.1 rfl (Nat.le_of_ble_eq_true rfl) dX4_findOutcome_88 ⟨Nat.le_refl _, Nat.le_refl _⟩) ?_
        have hf88_0 := mOcc_le rw f ac
        refine lv_iconst (v := nI 3) hx hb dX4_findOutcome_91 (by decide) ?_
        refine ni_lt (tgt := 103) hx hb (mOcc rw f ac) 3 (by omega) (by omega) dX4_findOutcome_92 (by decide) (fun c_92 => ?_) (fun c_92 => ?_)
        · skip
          refine lv_aload_n hx hb dX4_findOutcome_103 rfl (lv_at hl 2 rfl) ?_
          refine lv_aload_n hx hb dX4_findOutcome_104 rfl (lv_at hl 2 rfl) ?_
          refine w_get (C := RX4) (T := TX4) (N := 11) (ci := 3) hx hb hts hown hK hM inX4 rfl 5 (by decide) qw_4_89 rfl (mu_g (ne_oi hmo hfi) hmo) rfl dX4_findOutcome_105 ?_
          refine lv_sipush (v := nI 129) hx hb dX4_findOutcome_108 (by decide) ?_
          refine w_iald hx hb hK hM (mu_g hnf hno) 129 (by omega) (by decide) dX4_findOutcome_111 ?_
          refine lv_bipush (v := nI 40) hx hb dX4_findOutcome_112 (by decide) ?_
          refine lv_icmp_lt (tgt := 121) hx hb dX4_findOutcome_114 (by decide) (fun c_114 => ?_) (fun c_114 => ?_)
          · skip
            refine lv_iconst (v := nI 0) hx hb dX4_findOutcome_121 (by decide) ?_
            refine w_put (C := RX4) (T := TX4) (N := 11) (ci := 3) hx hb hts hown hK hM hS inX4 rfl tyX4 tyX4_ok nmX4 4 (by decide) qw_4_88 rfl rfl (mu_g (ne_oi hmo hfi) hmo) hA_mo rfl rfl (Nat.le_of_ble_eq_true rfl) dX4_findOutcome_122 (fun H locs hM hS => ?_)
            replace hM : HM D (mu (mu M fi (eI cI 146 g1_25)) mo (.inr (3, [.int (nI th), .int (bI su), .ref ro, .int (nI ac), .int (nI 0), .ref no, .ref fi, .ref se, .ref t3, .ref le, .ref od]))) H := hM
            rw [mu_comm (ne_io hfi hmo) (e := eI cI 146 g1_25) (e' := .inr (3, [.int (nI th), .int (bI su), .ref ro, .int (nI ac), .int (nI 0), .ref no, .ref fi, .ref se, .ref t3, .ref le, .ref od]))] at hM
            exact wr_return hx hb hr hlk hM hS (Nat.le_refl _) (Nat.le_refl _) ⟨g1_25, (by rw [show nI (mOutc rw f ac) = nI 0 from (by simp [mOutc, c_30, c_50, c_76, c_92, Nat.not_le.mpr c_92, Nat.le_of_lt c_92, c_114])])⟩ dX4_findOutcome_125
          · skip
            refine lv_iconst (v := nI 5) hx hb dX4_findOutcome_117 (by decide) ?_
            refine lv_goto (tgt := 122) hx hb dX4_findOutcome_118 (by decide) ?_
            refine w_put (C := RX4) (T := TX4) (N := 11) (ci := 3) hx hb hts hown hK hM hS inX4 rfl tyX4 tyX4_ok nmX4 4 (by decide) qw_4_88 rfl rfl (mu_g (ne_oi hmo hfi) hmo) hA_mo rfl rfl (Nat.le_of_ble_eq_true rfl) dX4_findOutcome_122 (fun H locs hM hS => ?_)
            replace hM : HM D (mu (mu M fi (eI cI 146 g1_25)) mo (.inr (3, [.int (nI th), .int (bI su), .ref ro, .int (nI ac), .int (nI 5), .ref no, .ref fi, .ref se, .ref t3, .ref le, .ref od]))) H := hM
            rw [mu_comm (ne_io hfi hmo) (e := eI cI 146 g1_25) (e' := .inr (3, [.int (nI th), .int (bI su), .ref ro, .int (nI ac), .int (nI 5), .ref no, .ref fi, .ref se, .ref t3, .ref le, .ref od]))] at hM
            exact wr_return hx hb hr hlk hM hS (Nat.le_refl _) (Nat.le_refl _) ⟨g1_25, (by rw [show nI (mOutc rw f ac) = nI 5 from (by simp [mOutc, c_30, c_50, c_76, c_92, Nat.not_le.mpr c_92, Nat.le_of_lt c_92, c_114])])⟩ dX4_findOutcome_125
        · skip
          refine lv_aload_n hx hb dX4_findOutcome_95 rfl (lv_at hl 2 rfl) ?_
          refine lv_iconst (v := nI 4) hx hb dX4_findOutcome_96 (by decide) ?_
          refine w_put (C := RX4) (T := TX4) (N := 11) (ci := 3) hx hb hts hown hK hM hS inX4 rfl tyX4 tyX4_ok nmX4 4 (by decide) qw_4_88 rfl rfl (mu_g (ne_oi hmo hfi) hmo) hA_mo rfl rfl (Nat.le_of_ble_eq_true rfl) dX4_findOutcome_97 (fun H locs hM hS => ?_)
          replace hM : HM D (mu (mu M fi (eI cI 146 g1_25)) mo (.inr (3, [.int (nI th), .int (bI su), .ref ro, .int (nI ac), .int (nI 4), .ref no, .ref fi, .ref se, .ref t3, .ref le, .ref od]))) H := hM
          refine lv_goto (tgt := 125) hx hb dX4_findOutcome_100 (by decide) ?_
          rw [mu_comm (ne_io hfi hmo) (e := eI cI 146 g1_25) (e' := .inr (3, [.int (nI th), .int (bI su), .ref ro, .int (nI ac), .int (nI 4), .ref no, .ref fi, .ref se, .ref t3, .ref le, .ref od]))] at hM
          exact wr_return hx hb hr hlk hM hS (Nat.le_refl _) (Nat.le_refl _) ⟨g1_25, (by rw [show nI (mOutc rw f ac) = nI 4 from (by simp [mOutc, c_30, c_50, c_76, c_92, Nat.not_lt.mpr c_92])])⟩ dX4_findOutcome_125
      · skip
        refine lv_aload_n hx hb dX4_findOutcome_79 rfl (lv_at hl 2 rfl) ?_
        refine lv_iconst (v := nI 3) hx hb dX4_findOutcome_80 (by decide) ?_
        refine w_put (C := RX4) (T := TX4) (N := 11) (ci := 3) hx hb hts hown hK hM hS inX4 rfl tyX4 tyX4_ok nmX4 4 (by decide) qw_4_88 rfl rfl (mu_g (ne_oi hmo hfi) hmo) hA_mo rfl rfl (Nat.le_of_ble_eq_true rfl) dX4_findOutcome_81 (fun H locs hM hS => ?_)
        replace hM : HM D (mu (mu M fi (eI cI 146 g1_25)) mo (.inr (3, [.int (nI th), .int (bI su), .ref ro, .int (nI ac), .int (nI 3), .ref no, .ref fi, .ref se, .ref t3, .ref le, .ref od]))) H := hM
        refine lv_goto (tgt := 125) hx hb dX4_findOutcome_84 (by decide) ?_
        rw [mu_comm (ne_io hfi hmo) (e := eI cI 146 g1_25) (e' := .inr (3, [.int (nI th), .int (bI su), .ref ro, .int (nI ac), .int (nI 3), .ref no, .ref fi, .ref se, .ref t3, .ref le, .ref od]))] at hM
        exact wr_return hx hb hr hlk hM hS (Nat.le_refl _) (Nat.le_refl _) ⟨g1_25, (by rw [show nI (mOutc rw f ac) = nI 3 from (by simp [mOutc, c_30, c_50, c_76])])⟩ dX4_findOutcome_125
    · skip
      refine lv_aload_n hx hb dX4_findOutcome_53 rfl (lv_at hl 2 rfl) ?_
      refine rd_goI (rd_runV (As := []) (rest := []) hx hb hml hown hts hK hM okV_RX4_138_X4_hasBondAction (met_X4_hasBondAction l mo ro no fi se t3 le od th ac oc su f lf (mu_g (ne_oi hmo hfi) hmo) (mu_g hlf hle) (mu_g hnf hno) hs hL) (mu_g (ne_oi hmo hfi) hmo) rfl rfl rfl ⟨Nat.le_of_ble_eq_true rfl, Nat.le_of_ble_eq_true rfl⟩ hl.1 rfl (Nat.le_of_ble_eq_true rfl) dX4_findOutcome_54 ⟨Nat.le_refl _, Nat.le_refl _⟩) ?_
      refine zb_ne (tgt := 68) hx hb (mBondAct f) dX4_findOutcome_57 (by decide) (fun c_57 => ?_) (fun c_57 => ?_)
      · skip
        refine lv_aload_n hx hb dX4_findOutcome_68 rfl (lv_at hl 2 rfl) ?_
        refine w_get (C := RX4) (T := TX4) (N := 11) (ci := 3) hx hb hts hown hK hM inX4 rfl 5 (by decide) qw_4_89 rfl (mu_g (ne_oi hmo hfi) hmo) rfl dX4_findOutcome_69 ?_
        refine rd_goI (rd_runS (As := [.ref no]) (rest := []) hx hb hml hown hts hK hM okS_RX4_142_X4_pieces (met_X4_pieces l no f (mu_g hnf hno)) rfl ⟨Nat.le_of_ble_eq_true rfl, Nat.le_of_ble_eq_true rfl⟩ hl.1 rfl (Nat.le_of_ble_eq_true rfl) dX4_findOutcome_72 ⟨Nat.le_refl _, Nat.le_refl _⟩) ?_
        have hf72_0 := mPieces_le f
        refine lv_iconst (v := nI 2) hx hb dX4_findOutcome_75 (by decide) ?_
        refine ni_ne (tgt := 87) hx hb (mPieces f) 2 (by omega) (by omega) dX4_findOutcome_76 (by decide) (fun c_76 => ?_) (fun c_76 => ?_)
        · skip
          refine lv_aload_n hx hb dX4_findOutcome_87 rfl (lv_at hl 2 rfl) ?_
          refine rd_goI (rd_runV (As := []) (rest := []) hx hb hml hown hts hK hM okV_RX4_146_X4_occurred (met_X4_occurred l mo ro no fi se t3 le od th ac oc su nr f rw (mu_g (ne_oi hmo hfi) hmo) (mu_g hnf hno) (mu_g hrf hro) (by omega) (by omega)) (mu_g (ne_oi hmo hfi) hmo) rfl rfl rfl ⟨Nat.le_of_ble_eq_true rfl, Nat.le_of_ble_eq_true rfl⟩ hl.1 rfl (Nat.le_of_ble_eq_true rfl) dX4_findOutcome_88 ⟨Nat.le_refl _, Nat.le_refl _⟩) ?_
          have hf88_0 := mOcc_le rw f ac
          refine lv_iconst (v := nI 3) hx hb dX4_findOutcome_91 (by decide) ?_
          refine ni_lt (tgt := 103) hx hb (mOcc rw f ac) 3 (by omega) (by omega) dX4_findOutcome_92 (by decide) (fun c_92 => ?_) (fun c_92 => ?_)
          · skip
            refine lv_aload_n hx hb dX4_findOutcome_103 rfl (lv_at hl 2 rfl) ?_
            refine lv_aload_n hx hb dX4_findOutcome_104 rfl (lv_at hl 2 rfl) ?_
            refine w_get (C := RX4) (T := TX4) (N := 11) (ci := 3) hx hb hts hown hK hM inX4 rfl 5 (by decide) qw_4_89 rfl (mu_g (ne_oi hmo hfi) hmo) rfl dX4_findOutcome_105 ?_
            refine lv_sipush (v := nI 129) hx hb dX4_findOutcome_108 (by decide) ?_
            refine w_iald hx hb hK hM (mu_g hnf hno) 129 (by omega) (by decide) dX4_findOutcome_111 ?_
            refine lv_bipush (v := nI 40) hx hb dX4_findOutcome_112 (by decide) ?_
            refine lv_icmp_lt (tgt := 121) hx hb dX4_findOutcome_114 (by decide) (fun c_114 => ?_) (fun c_114 => ?_)
            · skip
              refine lv_iconst (v := nI 0) hx hb dX4_findOutcome_121 (by decide) ?_
              refine w_put (C := RX4) (T := TX4) (N := 11) (ci := 3) hx hb hts hown hK hM hS inX4 rfl tyX4 tyX4_ok nmX4 4 (by decide) qw_4_88 rfl rfl (mu_g (ne_oi hmo hfi) hmo) hA_mo rfl rfl (Nat.le_of_ble_eq_true rfl) dX4_findOutcome_122 (fun H locs hM hS => ?_)
              replace hM : HM D (mu (mu M fi (eI cI 146 g1_25)) mo (.inr (3, [.int (nI th), .int (bI su), .ref ro, .int (nI ac), .int (nI 0), .ref no, .ref fi, .ref se, .ref t3, .ref le, .ref od]))) H := hM
              rw [mu_comm (ne_io hfi hmo) (e := eI cI 146 g1_25) (e' := .inr (3, [.int (nI th), .int (bI su), .ref ro, .int (nI ac), .int (nI 0), .ref no, .ref fi, .ref se, .ref t3, .ref le, .ref od]))] at hM
              exact wr_return hx hb hr hlk hM hS (Nat.le_refl _) (Nat.le_refl _) ⟨g1_25, (by rw [show nI (mOutc rw f ac) = nI 0 from (by simp [mOutc, c_30, c_50, c_57, c_76, c_92, Nat.not_le.mpr c_92, Nat.le_of_lt c_92, c_114])])⟩ dX4_findOutcome_125
            · skip
              refine lv_iconst (v := nI 5) hx hb dX4_findOutcome_117 (by decide) ?_
              refine lv_goto (tgt := 122) hx hb dX4_findOutcome_118 (by decide) ?_
              refine w_put (C := RX4) (T := TX4) (N := 11) (ci := 3) hx hb hts hown hK hM hS inX4 rfl tyX4 tyX4_ok nmX4 4 (by decide) qw_4_88 rfl rfl (mu_g (ne_oi hmo hfi) hmo) hA_mo rfl rfl (Nat.le_of_ble_eq_true rfl) dX4_findOutcome_122 (fun H locs hM hS => ?_)
              replace hM : HM D (mu (mu M fi (eI cI 146 g1_25)) mo (.inr (3, [.int (nI th), .int (bI su), .ref ro, .int (nI ac), .int (nI 5), .ref no, .ref fi, .ref se, .ref t3, .ref le, .ref od]))) H := hM
              rw [mu_comm (ne_io hfi hmo) (e := eI cI 146 g1_25) (e' := .inr (3, [.int (nI th), .int (bI su), .ref ro, .int (nI ac), .int (nI 5), .ref no, .ref fi, .ref se, .ref t3, .ref le, .ref od]))] at hM
              exact wr_return hx hb hr hlk hM hS (Nat.le_refl _) (Nat.le_refl _) ⟨g1_25, (by rw [show nI (mOutc rw f ac) = nI 5 from (by simp [mOutc, c_30, c_50, c_57, c_76, c_92, Nat.not_le.mpr c_92, Nat.le_of_lt c_92, c_114])])⟩ dX4_findOutcome_125
          · skip
            refine lv_aload_n hx hb dX4_findOutcome_95 rfl (lv_at hl 2 rfl) ?_
            refine lv_iconst (v := nI 4) hx hb dX4_findOutcome_96 (by decide) ?_
            refine w_put (C := RX4) (T := TX4) (N := 11) (ci := 3) hx hb hts hown hK hM hS inX4 rfl tyX4 tyX4_ok nmX4 4 (by decide) qw_4_88 rfl rfl (mu_g (ne_oi hmo hfi) hmo) hA_mo rfl rfl (Nat.le_of_ble_eq_true rfl) dX4_findOutcome_97 (fun H locs hM hS => ?_)
            replace hM : HM D (mu (mu M fi (eI cI 146 g1_25)) mo (.inr (3, [.int (nI th), .int (bI su), .ref ro, .int (nI ac), .int (nI 4), .ref no, .ref fi, .ref se, .ref t3, .ref le, .ref od]))) H := hM
            refine lv_goto (tgt := 125) hx hb dX4_findOutcome_100 (by decide) ?_
            rw [mu_comm (ne_io hfi hmo) (e := eI cI 146 g1_25) (e' := .inr (3, [.int (nI th), .int (bI su), .ref ro, .int (nI ac), .int (nI 4), .ref no, .ref fi, .ref se, .ref t3, .ref le, .ref od]))] at hM
            exact wr_return hx hb hr hlk hM hS (Nat.le_refl _) (Nat.le_refl _) ⟨g1_25, (by rw [show nI (mOutc rw f ac) = nI 4 from (by simp [mOutc, c_30, c_50, c_57, c_76, c_92, Nat.not_lt.mpr c_92])])⟩ dX4_findOutcome_125
        · skip
          refine lv_aload_n hx hb dX4_findOutcome_79 rfl (lv_at hl 2 rfl) ?_
          refine lv_iconst (v := nI 3) hx hb dX4_findOutcome_80 (by decide) ?_
          refine w_put (C := RX4) (T := TX4) (N := 11) (ci := 3) hx hb hts hown hK hM hS inX4 rfl tyX4 tyX4_ok nmX4 4 (by decide) qw_4_88 rfl rfl (mu_g (ne_oi hmo hfi) hmo) hA_mo rfl rfl (Nat.le_of_ble_eq_true rfl) dX4_findOutcome_81 (fun H locs hM hS => ?_)
          replace hM : HM D (mu (mu M fi (eI cI 146 g1_25)) mo (.inr (3, [.int (nI th), .int (bI su), .ref ro, .int (nI ac), .int (nI 3), .ref no, .ref fi, .ref se, .ref t3, .ref le, .ref od]))) H := hM
          refine lv_goto (tgt := 125) hx hb dX4_findOutcome_84 (by decide) ?_
          rw [mu_comm (ne_io hfi hmo) (e := eI cI 146 g1_25) (e' := .inr (3, [.int (nI th), .int (bI su), .ref ro, .int (nI ac), .int (nI 3), .ref no, .ref fi, .ref se, .ref t3, .ref le, .ref od]))] at hM
          exact wr_return hx hb hr hlk hM hS (Nat.le_refl _) (Nat.le_refl _) ⟨g1_25, (by rw [show nI (mOutc rw f ac) = nI 3 from (by simp [mOutc, c_30, c_50, c_57, c_76])])⟩ dX4_findOutcome_125
      · skip
        refine lv_aload_n hx hb dX4_findOutcome_60 rfl (lv_at hl 2 rfl) ?_
        refine lv_iconst (v := nI 2) hx hb dX4_findOutcome_61 (by decide) ?_
        refine w_put (C := RX4) (T := TX4) (N := 11) (ci := 3) hx hb hts hown hK hM hS inX4 rfl tyX4 tyX4_ok nmX4 4 (by decide) qw_4_88 rfl rfl (mu_g (ne_oi hmo hfi) hmo) hA_mo rfl rfl (Nat.le_of_ble_eq_true rfl) dX4_findOutcome_62 (fun H locs hM hS => ?_)
        replace hM : HM D (mu (mu M fi (eI cI 146 g1_25)) mo (.inr (3, [.int (nI th), .int (bI su), .ref ro, .int (nI ac), .int (nI 2), .ref no, .ref fi, .ref se, .ref t3, .ref le, .ref od]))) H := hM
        refine lv_goto (tgt := 125) hx hb dX4_findOutcome_65 (by decide) ?_
        rw [mu_comm (ne_io hfi hmo) (e := eI cI 146 g1_25) (e' := .inr (3, [.int (nI th), .int (bI su), .ref ro, .int (nI ac), .int (nI 2), .ref no, .ref fi, .ref se, .ref t3, .ref le, .ref od]))] at hM
        exact wr_return hx hb hr hlk hM hS (Nat.le_refl _) (Nat.le_refl _) ⟨g1_25, (by rw [show nI (mOutc rw f ac) = nI 2 from (by simp [mOutc, c_30, c_50, c_57])])⟩ dX4_findOutcome_125
  · skip
    refine lv_iload_n hx hb dX4_findOutcome_33 rfl (lv_at hl 0 rfl) ?_
    refine zb_ne (tgt := 45) hx hb (mHas f) dX4_findOutcome_34 (by decide) (fun c_34 => ?_) (fun c_34 => ?_)
    · skip
      refine lv_iload_n hx hb dX4_findOutcome_45 rfl (lv_at hl 1 rfl) ?_
      refine zb_ne (tgt := 68) hx hb (mInCheck f (mSide f)) dX4_findOutcome_46 (by decide) (fun _ => ?_) (fun h => absurd (h.symm.trans c_30) (by decide))
      refine lv_aload_n hx hb dX4_findOutcome_68 rfl (lv_at hl 2 rfl) ?_
      refine w_get (C := RX4) (T := TX4) (N := 11) (ci := 3) hx hb hts hown hK hM inX4 rfl 5 (by decide) qw_4_89 rfl (mu_g (ne_oi hmo hfi) hmo) rfl dX4_findOutcome_69 ?_
      refine rd_goI (rd_runS (As := [.ref no]) (rest := []) hx hb hml hown hts hK hM okS_RX4_142_X4_pieces (met_X4_pieces l no f (mu_g hnf hno)) rfl ⟨Nat.le_of_ble_eq_true rfl, Nat.le_of_ble_eq_true rfl⟩ hl.1 rfl (Nat.le_of_ble_eq_true rfl) dX4_findOutcome_72 ⟨Nat.le_refl _, Nat.le_refl _⟩) ?_
      have hf72_0 := mPieces_le f
      refine lv_iconst (v := nI 2) hx hb dX4_findOutcome_75 (by decide) ?_
      refine ni_ne (tgt := 87) hx hb (mPieces f) 2 (by omega) (by omega) dX4_findOutcome_76 (by decide) (fun c_76 => ?_) (fun c_76 => ?_)
      · skip
        refine lv_aload_n hx hb dX4_findOutcome_87 rfl (lv_at hl 2 rfl) ?_
        refine rd_goI (rd_runV (As := []) (rest := []) hx hb hml hown hts hK hM okV_RX4_146_X4_occurred (met_X4_occurred l mo ro no fi se t3 le od th ac oc su nr f rw (mu_g (ne_oi hmo hfi) hmo) (mu_g hnf hno) (mu_g hrf hro) (by omega) (by omega)) (mu_g (ne_oi hmo hfi) hmo) rfl rfl rfl ⟨Nat.le_of_ble_eq_true rfl, Nat.le_of_ble_eq_true rfl⟩ hl.1 rfl (Nat.le_of_ble_eq_true rfl) dX4_findOutcome_88 ⟨Nat.le_refl _, Nat.le_refl _⟩) ?_
        have hf88_0 := mOcc_le rw f ac
        refine lv_iconst (v := nI 3) hx hb dX4_findOutcome_91 (by decide) ?_
        refine ni_lt (tgt := 103) hx hb (mOcc rw f ac) 3 (by omega) (by omega) dX4_findOutcome_92 (by decide) (fun c_92 => ?_) (fun c_92 => ?_)
        · skip
          refine lv_aload_n hx hb dX4_findOutcome_103 rfl (lv_at hl 2 rfl) ?_
          refine lv_aload_n hx hb dX4_findOutcome_104 rfl (lv_at hl 2 rfl) ?_
          refine w_get (C := RX4) (T := TX4) (N := 11) (ci := 3) hx hb hts hown hK hM inX4 rfl 5 (by decide) qw_4_89 rfl (mu_g (ne_oi hmo hfi) hmo) rfl dX4_findOutcome_105 ?_
          refine lv_sipush (v := nI 129) hx hb dX4_findOutcome_108 (by decide) ?_
          refine w_iald hx hb hK hM (mu_g hnf hno) 129 (by omega) (by decide) dX4_findOutcome_111 ?_
          refine lv_bipush (v := nI 40) hx hb dX4_findOutcome_112 (by decide) ?_
          refine lv_icmp_lt (tgt := 121) hx hb dX4_findOutcome_114 (by decide) (fun c_114 => ?_) (fun c_114 => ?_)
          · skip
            refine lv_iconst (v := nI 0) hx hb dX4_findOutcome_121 (by decide) ?_
            refine w_put (C := RX4) (T := TX4) (N := 11) (ci := 3) hx hb hts hown hK hM hS inX4 rfl tyX4 tyX4_ok nmX4 4 (by decide) qw_4_88 rfl rfl (mu_g (ne_oi hmo hfi) hmo) hA_mo rfl rfl (Nat.le_of_ble_eq_true rfl) dX4_findOutcome_122 (fun H locs hM hS => ?_)
            replace hM : HM D (mu (mu M fi (eI cI 146 g1_25)) mo (.inr (3, [.int (nI th), .int (bI su), .ref ro, .int (nI ac), .int (nI 0), .ref no, .ref fi, .ref se, .ref t3, .ref le, .ref od]))) H := hM
            rw [mu_comm (ne_io hfi hmo) (e := eI cI 146 g1_25) (e' := .inr (3, [.int (nI th), .int (bI su), .ref ro, .int (nI ac), .int (nI 0), .ref no, .ref fi, .ref se, .ref t3, .ref le, .ref od]))] at hM
            exact wr_return hx hb hr hlk hM hS (Nat.le_refl _) (Nat.le_refl _) ⟨g1_25, (by rw [show nI (mOutc rw f ac) = nI 0 from (by simp [mOutc, c_30, c_34, c_76, c_92, Nat.not_le.mpr c_92, Nat.le_of_lt c_92, c_114])])⟩ dX4_findOutcome_125
          · skip
            refine lv_iconst (v := nI 5) hx hb dX4_findOutcome_117 (by decide) ?_
            refine lv_goto (tgt := 122) hx hb dX4_findOutcome_118 (by decide) ?_
            refine w_put (C := RX4) (T := TX4) (N := 11) (ci := 3) hx hb hts hown hK hM hS inX4 rfl tyX4 tyX4_ok nmX4 4 (by decide) qw_4_88 rfl rfl (mu_g (ne_oi hmo hfi) hmo) hA_mo rfl rfl (Nat.le_of_ble_eq_true rfl) dX4_findOutcome_122 (fun H locs hM hS => ?_)
            replace hM : HM D (mu (mu M fi (eI cI 146 g1_25)) mo (.inr (3, [.int (nI th), .int (bI su), .ref ro, .int (nI ac), .int (nI 5), .ref no, .ref fi, .ref se, .ref t3, .ref le, .ref od]))) H := hM
            rw [mu_comm (ne_io hfi hmo) (e := eI cI 146 g1_25) (e' := .inr (3, [.int (nI th), .int (bI su), .ref ro, .int (nI ac), .int (nI 5), .ref no, .ref fi, .ref se, .ref t3, .ref le, .ref od]))] at hM
            exact wr_return hx hb hr hlk hM hS (Nat.le_refl _) (Nat.le_refl _) ⟨g1_25, (by rw [show nI (mOutc rw f ac) = nI 5 from (by simp [mOutc, c_30, c_34, c_76, c_92, Nat.not_le.mpr c_92, Nat.le_of_lt c_92, c_114])])⟩ dX4_findOutcome_125
        · skip
          refine lv_aload_n hx hb dX4_findOutcome_95 rfl (lv_at hl 2 rfl) ?_
          refine lv_iconst (v := nI 4) hx hb dX4_findOutcome_96 (by decide) ?_
          refine w_put (C := RX4) (T := TX4) (N := 11) (ci := 3) hx hb hts hown hK hM hS inX4 rfl tyX4 tyX4_ok nmX4 4 (by decide) qw_4_88 rfl rfl (mu_g (ne_oi hmo hfi) hmo) hA_mo rfl rfl (Nat.le_of_ble_eq_true rfl) dX4_findOutcome_97 (fun H locs hM hS => ?_)
          replace hM : HM D (mu (mu M fi (eI cI 146 g1_25)) mo (.inr (3, [.int (nI th), .int (bI su), .ref ro, .int (nI ac), .int (nI 4), .ref no, .ref fi, .ref se, .ref t3, .ref le, .ref od]))) H := hM
          refine lv_goto (tgt := 125) hx hb dX4_findOutcome_100 (by decide) ?_
          rw [mu_comm (ne_io hfi hmo) (e := eI cI 146 g1_25) (e' := .inr (3, [.int (nI th), .int (bI su), .ref ro, .int (nI ac), .int (nI 4), .ref no, .ref fi, .ref se, .ref t3, .ref le, .ref od]))] at hM
          exact wr_return hx hb hr hlk hM hS (Nat.le_refl _) (Nat.le_refl _) ⟨g1_25, (by rw [show nI (mOutc rw f ac) = nI 4 from (by simp [mOutc, c_30, c_34, c_76, c_92, Nat.not_lt.mpr c_92])])⟩ dX4_findOutcome_125
      · skip
        refine lv_aload_n hx hb dX4_findOutcome_79 rfl (lv_at hl 2 rfl) ?_
        refine lv_iconst (v := nI 3) hx hb dX4_findOutcome_80 (by decide) ?_
        refine w_put (C := RX4) (T := TX4) (N := 11) (ci := 3) hx hb hts hown hK hM hS inX4 rfl tyX4 tyX4_ok nmX4 4 (by decide) qw_4_88 rfl rfl (mu_g (ne_oi hmo hfi) hmo) hA_mo rfl rfl (Nat.le_of_ble_eq_true rfl) dX4_findOutcome_81 (fun H locs hM hS => ?_)
        replace hM : HM D (mu (mu M fi (eI cI 146 g1_25)) mo (.inr (3, [.int (nI th), .int (bI su), .ref ro, .int (nI ac), .int (nI 3), .ref no, .ref fi, .ref se, .ref t3, .ref le, .ref od]))) H := hM
        refine lv_goto (tgt := 125) hx hb dX4_findOutcome_84 (by decide) ?_
        rw [mu_comm (ne_io hfi hmo) (e := eI cI 146 g1_25) (e' := .inr (3, [.int (nI th), .int (bI su), .ref ro, .int (nI ac), .int (nI 3), .ref no, .ref fi, .ref se, .ref t3, .ref le, .ref od]))] at hM
        exact wr_return hx hb hr hlk hM hS (Nat.le_refl _) (Nat.le_refl _) ⟨g1_25, (by rw [show nI (mOutc rw f ac) = nI 3 from (by simp [mOutc, c_30, c_34, c_76])])⟩ dX4_findOutcome_125
    · skip
      refine lv_aload_n hx hb dX4_findOutcome_37 rfl (lv_at hl 2 rfl) ?_
      refine lv_iconst (v := nI 1) hx hb dX4_findOutcome_38 (by decide) ?_
      refine w_put (C := RX4) (T := TX4) (N := 11) (ci := 3) hx hb hts hown hK hM hS inX4 rfl tyX4 tyX4_ok nmX4 4 (by decide) qw_4_88 rfl rfl (mu_g (ne_oi hmo hfi) hmo) hA_mo rfl rfl (Nat.le_of_ble_eq_true rfl) dX4_findOutcome_39 (fun H locs hM hS => ?_)
      replace hM : HM D (mu (mu M fi (eI cI 146 g1_25)) mo (.inr (3, [.int (nI th), .int (bI su), .ref ro, .int (nI ac), .int (nI 1), .ref no, .ref fi, .ref se, .ref t3, .ref le, .ref od]))) H := hM
      refine lv_goto (tgt := 125) hx hb dX4_findOutcome_42 (by decide) ?_
      rw [mu_comm (ne_io hfi hmo) (e := eI cI 146 g1_25) (e' := .inr (3, [.int (nI th), .int (bI su), .ref ro, .int (nI ac), .int (nI 1), .ref no, .ref fi, .ref se, .ref t3, .ref le, .ref od]))] at hM
      exact wr_return hx hb hr hlk hM hS (Nat.le_refl _) (Nat.le_refl _) ⟨g1_25, (by rw [show nI (mOutc rw f ac) = nI 1 from (by simp [mOutc, c_30, c_34])])⟩ dX4_findOutcome_125
set_option maxHeartbeats 4000000 in
set_option maxRecDepth 100000 in
theorem met_X4_clear (l : Launch) {D : va_G} {cI cJ : ClassId} {M : MP} {A : Nat → Prop} {sz : Nat} (mo ro no fi se t3 le od th ac oc : Nat) (su : Bool) (f : Nat → Int32) (hmo : M mo = some (.inr (3, [.int (nI th), .int (bI su), .ref ro, .int (nI ac), .int (nI oc), .ref no, .ref fi, .ref se, .ref t3, .ref le, .ref od]))) (hno : M no = some (eI cI 146 f)) (hA_no : A no) : Wr l yX4_clear cX4_clear 2 none 0 0 0 D cI cJ [.ref mo] M sz A none (fun M' => M' = mu M no (eI cI 146 (mClr f 146))) := by
  refine wr_start (by decide) (Nat.le_of_ble_eq_true rfl) ?_
  intro p e s m args below meth c hx hb hr hml hown hts hlk hini hK hsz H hH0 hM hS ls hl
  clear hH0
  have hl : lv_has ls 2 [(0, .ref mo)] := hl
  refine lv_iconst (v := nI 0) hx hb dX4_clear_0 (by decide) ?_
  refine lv_istore_n (lv' := [(1, .int (nI 0)), (0, .ref mo)]) hx hb dX4_clear_1 rfl hl (by decide) rfl (fun ls hl => ?_)
  rw [← mu_id (a := no) (e := eI cI 146 f) hno] at hM
  rw [← mClr_0 f] at hM
  refine loopW (pcH := 2) (st := []) (ι := Nat) (fun ξ => mu M no (eI cI 146 (mClr f (ξ)))) (fun ξ => [(1, .int (nI (ξ))), (0, .ref mo)]) (fun n ξ => (ξ) + n = 146) ?_ ?_ 146 0 rfl hM hS ls (lv_sub hl [0,1] rfl)
  · rintro i hin H locs hM hS ls hl
    try dsimp only at hl hin hM
    refine lv_iload_n hx hb dX4_clear_2 rfl (lv_at hl 0 rfl) ?_
    refine lv_sipush (v := nI 146) hx hb dX4_clear_3 (by decide) ?_
    refine ni_ge (tgt := 39) hx hb i 146 (by omega) (by omega) dX4_clear_6 (by decide) (fun c_6 => ?_) (fun c_6 => ?_)
    · skip
      exact wr_return hx hb hr hlk hM hS (Nat.le_refl _) (Nat.le_refl _) (by rw [show mClr f 146 = mClr f i from (by rw [show i = 146 by omega])]) dX4_clear_39
    · skip
      exfalso; omega
  · rintro n ih i hin H locs hM hS ls hl
    try dsimp only at hl hin hM
    refine lv_iload_n hx hb dX4_clear_2 rfl (lv_at hl 0 rfl) ?_
    refine lv_sipush (v := nI 146) hx hb dX4_clear_3 (by decide) ?_
    refine ni_ge (tgt := 39) hx hb i 146 (by omega) (by omega) dX4_clear_6 (by decide) (fun c_6 => ?_) (fun c_6 => ?_)
    · skip
      exfalso; omega
    · skip
      refine lv_aload_n hx hb dX4_clear_9 rfl (lv_at hl 1 rfl) ?_
      refine w_get (C := RX4) (T := TX4) (N := 11) (ci := 3) hx hb hts hown hK hM inX4 rfl 5 (by decide) qw_4_89 rfl (mu_g (ne_oi hmo hno) hmo) rfl dX4_clear_10 ?_
      refine lv_iload_n hx hb dX4_clear_13 rfl (lv_at hl 0 rfl) ?_
      refine lv_iload_n hx hb dX4_clear_14 rfl (lv_at hl 0 rfl) ?_
      refine lv_bipush (v := nI 64) hx hb dX4_clear_15 (by decide) ?_
      refine meet (ls := ls) (pcJ := 32) (st := [.int (mClrV i), .int (nI i), .ref no]) ?_ (fun hJ32 => ?_)
      · skip
        refine w_iast hx hb hK hM hS mu_s hA_no i (by omega) (by decide) dX4_clear_32 (fun H locs hM hS => ?_)
        rw [mu_mu] at hM
        refine ni_iinc (lv' := [(1, .int (nI (i + 1))), (0, .ref mo)]) hx hb i 1 dX4_clear_33 hl (k := 0) rfl (by decide) (by decide) rfl (fun ls hl => ?_)
        refine lv_goto (tgt := 2) hx hb dX4_clear_36 (by decide) ?_
        rw [mClr_step] at hM
        exact ih (i + 1) (by omega) _ _ hM hS ls (lv_sub hl [0,1] rfl)
      · skip
        refine ni_lt (tgt := 31) hx hb i 64 (by omega) (by omega) dX4_clear_17 (by decide) (fun c_17 => ?_) (fun c_17 => ?_)
        · skip
          refine lv_iconst (v := nI 0) hx hb dX4_clear_31 (by decide) ?_
          exact topi (mClrV i) (by simp [mClrV, c_6, Nat.not_le.mpr c_6, Nat.le_of_lt c_6, c_17, Nat.not_le.mpr c_17, Nat.le_of_lt c_17]) hJ32
        · skip
          refine lv_iload_n hx hb dX4_clear_20 rfl (lv_at hl 0 rfl) ?_
          refine lv_sipush (v := nI 128) hx hb dX4_clear_21 (by decide) ?_
          refine ni_ge (tgt := 31) hx hb i 128 (by omega) (by omega) dX4_clear_24 (by decide) (fun c_24 => ?_) (fun c_24 => ?_)
          · skip
            refine lv_iconst (v := nI 0) hx hb dX4_clear_31 (by decide) ?_
            exact topi (mClrV i) (by simp [mClrV, c_6, Nat.not_le.mpr c_6, Nat.le_of_lt c_6, c_17, Nat.not_lt.mpr c_17, c_24, Nat.not_lt.mpr c_24]) hJ32
          · skip
            refine lv_iconst (v := (-1)) hx hb dX4_clear_27 (by decide) ?_
            refine lv_goto (tgt := 32) hx hb dX4_clear_28 (by decide) ?_
            exact topi (mClrV i) (by simp [mClrV, c_6, Nat.not_le.mpr c_6, Nat.le_of_lt c_6, c_17, Nat.not_lt.mpr c_17, c_24, Nat.not_le.mpr c_24, Nat.le_of_lt c_24]) hJ32
