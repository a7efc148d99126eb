theorem okS_RX4_170_X4_side : okS RX4 170 yX4_side cX4_side 1 (some .int) 1 := okS_of qw_4_141 qw_4_142 qw_1_5 qw_4_143 (by decide +kernel)
theorem okV_RX4_167_X4_fail : okV RX4 167 yX4_fail cX4_fail 2 (some .int) 1 := okV_of qw_4_137 qw_4_139 qw_0_23 qw_1_5 qw_4_140 (by decide +kernel)
theorem okV_RX4_179_X4_attacked : okV RX4 179 yX4_attacked cX4_attacked 5 (some .long) 1 := okV_of qw_4_201 qw_4_203 qw_0_24 qw_1_5 qw_4_204 (by decide +kernel)
theorem okV_RX4_183_X4_isPlayed : okV RX4 183 yX4_isPlayed cX4_isPlayed 1 (some .boolean) 0 := okV_of qw_4_213 qw_4_215 qw_0_25 qw_1_5 qw_4_216 (by decide +kernel)
theorem okV_RX4_186_X4_countMoves : okV RX4 186 yX4_countMoves cX4_countMoves 5 (some .int) 2 := okV_of qw_4_221 qw_4_223 qw_0_26 qw_1_5 qw_4_224 (by decide +kernel)
theorem okV_RX4_190_X4_areSquares : okV RX4 190 yX4_areSquares cX4_areSquares 3 (some .boolean) 2 := okV_of qw_4_229 qw_4_231 qw_0_27 qw_1_5 qw_4_232 (by decide +kernel)
theorem okV_RX4_34_X4_clear : okV RX4 34 yX4_clear cX4_clear 2 none 0 := okV_of qw_3_224 qw_3_226 qw_0_9 qw_1_5 qw_3_227 (by decide +kernel)
set_option maxHeartbeats 4000000 in
set_option maxRecDepth 100000 in
theorem met_X4_beginSetup (l : Launch) {D : va_G} {cI cJ : ClassId} {M : MP} {A : Nat → Prop} {sz : Nat} (mo ro no fi se t3 le od th ac oc : Nat) (su : Bool) (f : Nat → Int32) (hmo : M mo = some (.inr (3, [.int (nI th), .int (bI su), .ref ro, .int (nI ac), .int (nI oc), .ref no, .ref fi, .ref se, .ref t3, .ref le, .ref od]))) (hno : M no = some (eI cI 146 f)) (hA_mo : A mo) (hA_no : A no) : Wr l yX4_beginSetup cX4_beginSetup 1 none 1 0 0 D cI cJ [.ref mo] M sz A none (fun M' => M' = mu (mu M mo (.inr (3, [.int (nI 0), .int (bI true), .ref ro, .int (nI 0), .int (nI 0), .ref no, .ref fi, .ref se, .ref t3, .ref le, .ref od]))) no (eI cI 146 (mBeg f))) := by
  refine wr_start (by decide) (Nat.le_of_ble_eq_true rfl) ?_
  intro p e s m args below meth c hx hb hr hml hown hts hlk hini hK hsz H hH0 hM hS ls hl
  clear hH0
  have hl : lv_has ls 1 [(0, .ref mo)] := hl
  refine lv_aload_n hx hb dX4_beginSetup_0 rfl (lv_at hl 0 rfl) ?_
  refine lv_iconst (v := nI 0) hx hb dX4_beginSetup_1 (by decide) ?_
  refine w_put (C := RX4) (T := TX4) (N := 11) (ci := 3) hx hb hts hown hK hM hS inX4 rfl tyX4 tyX4_ok nmX4 0 (by decide) qw_4_84 rfl rfl hmo hA_mo rfl rfl (Nat.le_of_ble_eq_true rfl) dX4_beginSetup_2 (fun H locs hM hS => ?_)
  replace hM : HM D (mu M mo (.inr (3, [.int (nI 0), .int (bI su), .ref ro, .int (nI ac), .int (nI oc), .ref no, .ref fi, .ref se, .ref t3, .ref le, .ref od]))) H := hM
  refine lv_aload_n hx hb dX4_beginSetup_5 rfl (lv_at hl 0 rfl) ?_
  refine lv_iconst (v := nI 1) hx hb dX4_beginSetup_6 (by decide) ?_
  refine topi (bI true) rfl ?_
  refine w_put (C := RX4) (T := TX4) (N := 11) (ci := 3) hx hb hts hown hK hM hS inX4 rfl tyX4 tyX4_ok nmX4 1 (by decide) qw_4_85 rfl rfl mu_s hA_mo (bI_nar _) rfl (Nat.le_of_ble_eq_true rfl) dX4_beginSetup_7 (fun H locs hM hS => ?_)
  rw [mu_mu] at hM
  replace hM : HM D (mu M mo (.inr (3, [.int (nI 0), .int (bI true), .ref ro, .int (nI ac), .int (nI oc), .ref no, .ref fi, .ref se, .ref t3, .ref le, .ref od]))) H := hM
  refine lv_aload_n hx hb dX4_beginSetup_10 rfl (lv_at hl 0 rfl) ?_
  refine wr_go0 (wr_runV (As := []) (rest := []) hx hb hml hown hts hK hM okV_RX4_34_X4_clear (met_X4_clear l mo ro no fi se t3 le od 0 ac oc true f mu_s (mu_g (ne_io hno hmo) hno) hA_no) mu_s rfl rfl rfl ⟨Nat.le_of_ble_eq_true rfl, Nat.le_of_ble_eq_true rfl⟩ hl.1 rfl (Nat.le_of_ble_eq_true rfl) dX4_beginSetup_11 ⟨Nat.le_refl _, Nat.le_refl _⟩) hS (fun M1 H locs hR hM hS => ?_)
  obtain rfl := hR
  refine lv_aload_n hx hb dX4_beginSetup_14 rfl (lv_at hl 0 rfl) ?_
  refine w_get (C := RX4) (T := TX4) (N := 11) (ci := 3) hx hb hts hown hK hM inX4 rfl 5 (by decide) qw_4_89 rfl (mu_g (ne_oi hmo hno) mu_s) rfl dX4_beginSetup_15 ?_
  refine lv_sipush (v := nI 128) hx hb dX4_beginSetup_18 (by decide) ?_
  refine lv_bipush (v := nI 8) hx hb dX4_beginSetup_21 (by decide) ?_
  refine w_iast hx hb hK hM hS mu_s hA_no 128 (by omega) (by decide) dX4_beginSetup_23 (fun H locs hM hS => ?_)
  rw [mu_mu] at hM
  refine lv_aload_n hx hb dX4_beginSetup_24 rfl (lv_at hl 0 rfl) ?_
  refine lv_iconst (v := nI 0) hx hb dX4_beginSetup_25 (by decide) ?_
  refine w_put (C := RX4) (T := TX4) (N := 11) (ci := 3) hx hb hts hown hK hM hS inX4 rfl tyX4 tyX4_ok nmX4 3 (by decide) qw_4_87 rfl rfl (mu_g (ne_oi hmo hno) mu_s) hA_mo rfl rfl (Nat.le_of_ble_eq_true rfl) dX4_beginSetup_26 (fun H locs hM hS => ?_)
  rw [mu_comm (ne_io hno hmo), mu_mu] at hM
  replace hM : HM D (mu (mu M mo (.inr (3, [.int (nI 0), .int (bI true), .ref ro, .int (nI 0), .int (nI oc), .ref no, .ref fi, .ref se, .ref t3, .ref le, .ref od]))) no (eI cI 146 (upd (mClr f 146) 128 (nI 8)))) H := hM
  refine lv_aload_n hx hb dX4_beginSetup_29 rfl (lv_at hl 0 rfl) ?_
  refine lv_iconst (v := nI 0) hx hb dX4_beginSetup_30 (by decide) ?_
  refine w_put (C := RX4) (T := TX4) (N := 11) (ci := 3) hx hb hts hown hK hM hS inX4 rfl tyX4 tyX4_ok nmX4 4 (by decide) qw_4_88 rfl rfl (mu_g (ne_oi hmo hno) mu_s) hA_mo rfl rfl (Nat.le_of_ble_eq_true rfl) dX4_beginSetup_31 (fun H locs hM hS => ?_)
  rw [mu_comm (ne_io hno hmo), mu_mu] at hM
  replace hM : HM D (mu (mu M mo (.inr (3, [.int (nI 0), .int (bI true), .ref ro, .int (nI 0), .int (nI 0), .ref no, .ref fi, .ref se, .ref t3, .ref le, .ref od]))) no (eI cI 146 (upd (mClr f 146) 128 (nI 8)))) H := hM
  exact wr_return hx hb hr hlk hM hS (Nat.le_refl _) (Nat.le_refl _) (by rw [show mBeg f = upd (mClr f 146) 128 (nI 8) from rfl]) dX4_beginSetup_34
set_option maxHeartbeats 4000000 in
set_option maxRecDepth 100000 in
theorem met_X4_place_b (l : Launch) {D : va_G} {cI cJ : ClassId} {M : MP} {A : Nat → Prop} {sz : Nat} (mo ro no fi se t3 le od th ac oc : Nat) (su : Bool) (x y : Int32) (b : Bool) (hmo : M mo = some (.inr (3, [.int (nI th), .int (bI su), .ref ro, .int (nI ac), .int (nI oc), .ref no, .ref fi, .ref se, .ref t3, .ref le, .ref od]))) (hbx : mIsSq x = false) (hA_mo : A mo) : Wr l yX4_place cX4_place 6 (some .int) 2 0 0 D cI cJ [.ref mo, .int x, .int y, .int (bI b)] M sz A (some (.int (nI 0))) (fun M' => M' = mu M mo (.inr (3, [.int (nI 1), .int (bI su), .ref ro, .int (nI ac), .int (nI oc), .ref no, .ref fi, .ref se, .ref t3, .ref le, .ref od]))) := by
  refine wr_start (by decide) (Nat.le_of_ble_eq_true rfl) ?_
  intro p e s m args below meth c hx hb hr hml hown hts hlk hini hK hsz H hH0 hM hS ls hl
  clear hH0
  have hl : lv_has ls 6 [(0, .ref mo), (1, .int x), (2, .int y), (3, .int (bI b))] := hl
  refine lv_aload_n hx hb dX4_place_0 rfl (lv_at hl 0 rfl) ?_
  refine lv_iload_n hx hb dX4_place_1 rfl (lv_at hl 1 rfl) ?_
  refine rd_goI (rd_runS (As := [.int x]) (rest := [.ref mo]) hx hb hml hown hts hK hM okS_RX4_160_X4_isSquare (met_X4_isSquare l x) rfl ⟨Nat.le_of_ble_eq_true rfl, Nat.le_of_ble_eq_true rfl⟩ hl.1 rfl (Nat.le_of_ble_eq_true rfl) dX4_place_2 ⟨Nat.le_refl _, Nat.le_refl _⟩) ?_
  refine topi (bI false) (by rw [hbx]) ?_
  refine wr_go0 (wr_runV (As := [.int (bI false)]) (rest := []) hx hb hml hown hts hK hM okV_RX4_163_X4_isGood (met_X4_isGood l mo ro no fi se t3 le od th ac oc su false hmo hA_mo) hmo rfl rfl rfl ⟨Nat.le_of_ble_eq_true rfl, Nat.le_of_ble_eq_true rfl⟩ hl.1 rfl (Nat.le_of_ble_eq_true rfl) dX4_place_5 ⟨Nat.le_refl _, Nat.le_refl _⟩) hS (fun M1 H locs hR hM hS => ?_)
  obtain rfl := hR
  refine zb_ne (tgt := 13) hx hb false dX4_place_8 (by decide) (fun h => absurd (h.symm.trans (rfl : false = false)) (by decide)) (fun _ => ?_)
  refine lv_iconst (v := nI 0) hx hb dX4_place_11 (by decide) ?_
  exact wr_ireturn hx hb hr hlk hM hS (Nat.le_refl _) (Nat.le_refl _) rfl (by rw [show nI 1 = nI (gN false) from rfl]) dX4_place_12
set_option maxHeartbeats 4000000 in
set_option maxRecDepth 100000 in
theorem met_X4_place_k (l : Launch) {D : va_G} {cI cJ : ClassId} {M : MP} {A : Nat → Prop} {sz : Nat} (mo ro no fi se t3 le od th ac oc : Nat) (su : Bool) (j : Nat) (y : Int32) (b : Bool) (hmo : M mo = some (.inr (3, [.int (nI th), .int (bI su), .ref ro, .int (nI ac), .int (nI oc), .ref no, .ref fi, .ref se, .ref t3, .ref le, .ref od]))) (hj : j < 64) (hy : mIsKd y = false) (hA_mo : A mo) : Wr l yX4_place cX4_place 6 (some .int) 2 0 0 D cI cJ [.ref mo, .int (nI j), .int y, .int (bI b)] M sz A (some (.int (nI 0))) (fun M' => M' = mu M mo (.inr (3, [.int (nI 2), .int (bI su), .ref ro, .int (nI ac), .int (nI oc), .ref no, .ref fi, .ref se, .ref t3, .ref le, .ref od]))) := by
  refine wr_start (by decide) (Nat.le_of_ble_eq_true rfl) ?_
  intro p e s m args below meth c hx hb hr hml hown hts hlk hini hK hsz H hH0 hM hS ls hl
  clear hH0
  have hl : lv_has ls 6 [(0, .ref mo), (1, .int (nI j)), (2, .int y), (3, .int (bI b))] := hl
  refine lv_aload_n hx hb dX4_place_0 rfl (lv_at hl 0 rfl) ?_
  refine lv_iload_n hx hb dX4_place_1 rfl (lv_at hl 1 rfl) ?_
  refine rd_goI (rd_runS (As := [.int (nI j)]) (rest := [.ref mo]) hx hb hml hown hts hK hM okS_RX4_160_X4_isSquare (met_X4_isSquare l (nI j)) rfl ⟨Nat.le_of_ble_eq_true rfl, Nat.le_of_ble_eq_true rfl⟩ hl.1 rfl (Nat.le_of_ble_eq_true rfl) dX4_place_2 ⟨Nat.le_refl _, Nat.le_refl _⟩) ?_
  refine topi (bI true) (by rw [mIsSq_n hj]) ?_
  refine wr_go0 (wr_runV (As := [.int (bI true)]) (rest := []) hx hb hml hown hts hK hM okV_RX4_163_X4_isGood (met_X4_isGood l mo ro no fi se t3 le od th ac oc su true hmo hA_mo) hmo rfl rfl rfl ⟨Nat.le_of_ble_eq_true rfl, Nat.le_of_ble_eq_true rfl⟩ hl.1 rfl (Nat.le_of_ble_eq_true rfl) dX4_place_5 ⟨Nat.le_refl _, Nat.le_refl _⟩) hS (fun M1 H locs hR hM hS => ?_)
  obtain rfl := hR
  refine zb_ne (tgt := 13) hx hb true dX4_place_8 (by decide) (fun _ => ?_) (fun h => absurd (h.symm.trans (rfl : true = true)) (by decide))
  refine lv_iload_n hx hb dX4_place_13 rfl (lv_at hl 2 rfl) ?_
  refine lv_iconst (v := nI 1) hx hb dX4_place_14 (by decide) ?_
  refine lv_icmp_lt (tgt := 24) hx hb dX4_place_15 (by decide) (fun c_15 => ?_) (fun c_15 => ?_)
  · skip
    refine lv_aload_n hx hb dX4_place_24 rfl (lv_at hl 0 rfl) ?_
    refine lv_iconst (v := nI 2) hx hb dX4_place_25 (by decide) ?_
    refine wr_go0 (wr_runV (As := [.int (nI 2)]) (rest := []) hx hb hml hown hts hK hM okV_RX4_167_X4_fail (met_X4_fail l mo ro no fi se t3 le od (gN true) ac oc su 2 mu_s hA_mo) mu_s rfl rfl rfl ⟨Nat.le_of_ble_eq_true rfl, Nat.le_of_ble_eq_true rfl⟩ hl.1 rfl (Nat.le_of_ble_eq_true rfl) dX4_place_26 ⟨Nat.le_refl _, Nat.le_refl _⟩) hS (fun M1 H locs hR hM hS => ?_)
    obtain rfl := hR
    rw [mu_mu] at hM
    exact wr_ireturn hx hb hr hlk hM hS (Nat.le_refl _) (Nat.le_refl _) rfl rfl dX4_place_29
  · skip
    refine lv_iload_n hx hb dX4_place_18 rfl (lv_at hl 2 rfl) ?_
    refine lv_bipush (v := nI 6) hx hb dX4_place_19 (by decide) ?_
    refine lv_icmp_le (tgt := 30) hx hb dX4_place_21 (by decide) (fun c_21 => ?_) (fun c_21 => ?_)
    · skip
      exact absurd hy (by simp [mIsKd, c_15, c_21])
    · skip
      refine lv_aload_n hx hb dX4_place_24 rfl (lv_at hl 0 rfl) ?_
      refine lv_iconst (v := nI 2) hx hb dX4_place_25 (by decide) ?_
      refine wr_go0 (wr_runV (As := [.int (nI 2)]) (rest := []) hx hb hml hown hts hK hM okV_RX4_167_X4_fail (met_X4_fail l mo ro no fi se t3 le od (gN true) ac oc su 2 mu_s hA_mo) mu_s rfl rfl rfl ⟨Nat.le_of_ble_eq_true rfl, Nat.le_of_ble_eq_true rfl⟩ hl.1 rfl (Nat.le_of_ble_eq_true rfl) dX4_place_26 ⟨Nat.le_refl _, Nat.le_refl _⟩) hS (fun M1 H locs hR hM hS => ?_)
      obtain rfl := hR
      rw [mu_mu] at hM
      exact wr_ireturn hx hb hr hlk hM hS (Nat.le_refl _) (Nat.le_refl _) rfl rfl dX4_place_29
set_option maxHeartbeats 4000000 in
set_option maxRecDepth 100000 in
theorem met_X4_place (l : Launch) {D : va_G} {cI cJ : ClassId} {M : MP} {A : Nat → Prop} {sz : Nat} (mo ro no fi se t3 le od th ac oc : Nat) (su : Bool) (j k : Nat) (b : Bool) (f : Nat → Int32) (hmo : M mo = some (.inr (3, [.int (nI th), .int (bI su), .ref ro, .int (nI ac), .int (nI oc), .ref no, .ref fi, .ref se, .ref t3, .ref le, .ref od]))) (hno : M no = some (eI cI 146 f)) (hj : j < 64) (hk1 : 1 ≤ k) (hk6 : k ≤ 6) (hA_mo : A mo) (hA_no : A no) : Wr l yX4_place cX4_place 6 (some .int) 2 0 0 D cI cJ [.ref mo, .int (nI j), .int (nI k), .int (bI b)] M sz A (some (.int (nI (mPlcV su f j k b)))) (fun M' => M' = mu (mu M mo (.inr (3, [.int (nI (mPlcT su f j k b)), .int (bI su), .ref ro, .int (nI ac), .int (nI oc), .ref no, .ref fi, .ref se, .ref t3, .ref le, .ref od]))) no (eI cI 146 (mPlcN su f j k b))) := by
  refine wr_start (by decide) (Nat.le_of_ble_eq_true rfl) ?_
  intro p e s m args below meth c hx hb hr hml hown hts hlk hini hK hsz H hH0 hM hS ls hl
  clear hH0
  have hl : lv_has ls 6 [(0, .ref mo), (1, .int (nI j)), (2, .int (nI k)), (3, .int (bI b))] := hl
  have hsd1 := sdN_le b
  refine lv_aload_n hx hb dX4_place_0 rfl (lv_at hl 0 rfl) ?_
  refine lv_iload_n hx hb dX4_place_1 rfl (lv_at hl 1 rfl) ?_
  refine rd_goI (rd_runS (As := [.int (nI j)]) (rest := [.ref mo]) hx hb hml hown hts hK hM okS_RX4_160_X4_isSquare (met_X4_isSquare l (nI j)) rfl ⟨Nat.le_of_ble_eq_true rfl, Nat.le_of_ble_eq_true rfl⟩ hl.1 rfl (Nat.le_of_ble_eq_true rfl) dX4_place_2 ⟨Nat.le_refl _, Nat.le_refl _⟩) ?_
  refine topi (bI true) (by rw [mIsSq_n hj]) ?_
  refine wr_go0 (wr_runV (As := [.int (bI true)]) (rest := []) hx hb hml hown hts hK hM okV_RX4_163_X4_isGood (met_X4_isGood l mo ro no fi se t3 le od th ac oc su true hmo hA_mo) hmo rfl rfl rfl ⟨Nat.le_of_ble_eq_true rfl, Nat.le_of_ble_eq_true rfl⟩ hl.1 rfl (Nat.le_of_ble_eq_true rfl) dX4_place_5 ⟨Nat.le_refl _, Nat.le_refl _⟩) hS (fun M1 H locs hR hM hS => ?_)
  obtain rfl := hR
  refine zb_ne (tgt := 13) hx hb true dX4_place_8 (by decide) (fun _ => ?_) (fun h => absurd (h.symm.trans (rfl : true = true)) (by decide))
  refine lv_iload_n hx hb dX4_place_13 rfl (lv_at hl 2 rfl) ?_
  refine lv_iconst (v := nI 1) hx hb dX4_place_14 (by decide) ?_
  refine ni_lt (tgt := 24) hx hb k 1 (by omega) (by omega) dX4_place_15 (by decide) (fun c_15 => ?_) (fun c_15 => ?_)
  · skip
    exfalso; omega
  · skip
    refine lv_iload_n hx hb dX4_place_18 rfl (lv_at hl 2 rfl) ?_
    refine lv_bipush (v := nI 6) hx hb dX4_place_19 (by decide) ?_
    refine ni_le (tgt := 30) hx hb k 6 (by omega) (by omega) dX4_place_21 (by decide) (fun c_21 => ?_) (fun c_21 => ?_)
    · skip
      refine lv_iload_n hx hb dX4_place_30 rfl (lv_at hl 2 rfl) ?_
      refine lv_iconst (v := nI 1) hx hb dX4_place_31 (by decide) ?_
      refine meet (ls := ls) (pcJ := 55) (st := [.int (bI (mSec f k b))]) ?_ (fun hJ55 => ?_)
      · skip
        refine lv_istore (lv' := [(4, .int (bI (mSec f k b))), (0, .ref mo), (1, .int (nI j)), (2, .int (nI k)), (3, .int (bI b))]) hx hb dX4_place_55 hl (by decide) rfl (fun ls hl => ?_)
        refine lv_iload_n hx hb dX4_place_57 rfl (lv_at hl 3 rfl) ?_
        refine lv_bipush (v := nI 6) hx hb dX4_place_58 (by decide) ?_
        refine meet (ls := ls) (pcJ := 80) (st := [.int (bI (mEdge j k))]) ?_ (fun hJ80 => ?_)
        · skip
          refine lv_istore (lv' := [(5, .int (bI (mEdge j k))), (4, .int (bI (mSec f k b))), (0, .ref mo), (1, .int (nI j)), (2, .int (nI k)), (3, .int (bI b))]) hx hb dX4_place_80 hl (by decide) rfl (fun ls hl => ?_)
          refine lv_aload_n hx hb dX4_place_82 rfl (lv_at hl 2 rfl) ?_
          refine w_get (C := RX4) (T := TX4) (N := 11) (ci := 3) hx hb hts hown hK hM inX4 rfl 1 (by decide) qw_4_85 rfl mu_s rfl dX4_place_83 ?_
          refine zb_eq (tgt := 108) hx hb su dX4_place_86 (by decide) (fun c_86 => ?_) (fun c_86 => ?_)
          · skip
            refine lv_aload_n hx hb dX4_place_108 rfl (lv_at hl 2 rfl) ?_
            refine lv_iconst (v := nI 3) hx hb dX4_place_109 (by decide) ?_
            refine wr_go0 (wr_runV (As := [.int (nI 3)]) (rest := []) hx hb hml hown hts hK hM okV_RX4_167_X4_fail (met_X4_fail l mo ro no fi se t3 le od (gN true) ac oc su 3 mu_s hA_mo) mu_s rfl rfl rfl ⟨Nat.le_of_ble_eq_true rfl, Nat.le_of_ble_eq_true rfl⟩ hl.1 rfl (Nat.le_of_ble_eq_true rfl) dX4_place_110 ⟨Nat.le_refl _, Nat.le_refl _⟩) hS (fun M1 H locs hR hM hS => ?_)
            obtain rfl := hR
            rw [mu_mu] at hM
            rw [← mu_id (a := no) (e := eI cI 146 f) (mu_g (ne_io hno hmo) hno)] at hM
            exact wr_ireturn hx hb hr hlk hM hS (Nat.le_refl _) (Nat.le_refl _) (by simp [mPlcV, mPlcT, mPlcN, mPlcOk, mPlc, gN, bI_t, bI_f, c_15, Nat.not_lt.mpr c_15, c_21, Nat.not_lt.mpr c_21, c_86]) (by rw [show nI (mPlcT su f j k b) = nI 3 from (by simp [mPlcV, mPlcT, mPlcN, mPlcOk, mPlc, gN, c_15, Nat.not_lt.mpr c_15, c_21, Nat.not_lt.mpr c_21, c_86]), show mPlcN su f j k b = f from (by simp [mPlcV, mPlcT, mPlcN, mPlcOk, mPlc, gN, c_15, Nat.not_lt.mpr c_15, c_21, Nat.not_lt.mpr c_21, c_86])]) dX4_place_113
          · skip
            refine lv_aload_n hx hb dX4_place_89 rfl (lv_at hl 2 rfl) ?_
            refine w_get (C := RX4) (T := TX4) (N := 11) (ci := 3) hx hb hts hown hK hM inX4 rfl 5 (by decide) qw_4_89 rfl mu_s rfl dX4_place_90 ?_
            refine lv_iload_n hx hb dX4_place_93 rfl (lv_at hl 3 rfl) ?_
            refine w_iald hx hb hK hM (mu_g (ne_io hno hmo) hno) j (by omega) (by decide) dX4_place_94 ?_
            refine lv_if_ne (tgt := 108) hx hb dX4_place_95 (by decide) (fun c_95 => ?_) (fun c_95 => ?_)
            · skip
              refine lv_aload_n hx hb dX4_place_108 rfl (lv_at hl 2 rfl) ?_
              refine lv_iconst (v := nI 3) hx hb dX4_place_109 (by decide) ?_
              refine wr_go0 (wr_runV (As := [.int (nI 3)]) (rest := []) hx hb hml hown hts hK hM okV_RX4_167_X4_fail (met_X4_fail l mo ro no fi se t3 le od (gN true) ac oc su 3 mu_s hA_mo) mu_s rfl rfl rfl ⟨Nat.le_of_ble_eq_true rfl, Nat.le_of_ble_eq_true rfl⟩ hl.1 rfl (Nat.le_of_ble_eq_true rfl) dX4_place_110 ⟨Nat.le_refl _, Nat.le_refl _⟩) hS (fun M1 H locs hR hM hS => ?_)
              obtain rfl := hR
              rw [mu_mu] at hM
              rw [← mu_id (a := no) (e := eI cI 146 f) (mu_g (ne_io hno hmo) hno)] at hM
              exact wr_ireturn hx hb hr hlk hM hS (Nat.le_refl _) (Nat.le_refl _) (by simp [mPlcV, mPlcT, mPlcN, mPlcOk, mPlc, gN, bI_t, bI_f, c_15, Nat.not_lt.mpr c_15, c_21, Nat.not_lt.mpr c_21, c_86, c_95]) (by rw [show nI (mPlcT su f j k b) = nI 3 from (by simp [mPlcV, mPlcT, mPlcN, mPlcOk, mPlc, gN, c_15, Nat.not_lt.mpr c_15, c_21, Nat.not_lt.mpr c_21, c_86, c_95]), show mPlcN su f j k b = f from (by simp [mPlcV, mPlcT, mPlcN, mPlcOk, mPlc, gN, c_15, Nat.not_lt.mpr c_15, c_21, Nat.not_lt.mpr c_21, c_86, c_95])]) dX4_place_113
            · skip
              refine lv_iload hx hb dX4_place_98 (lv_at hl 1 rfl) ?_
              refine zb_ne (tgt := 108) hx hb (mSec f k b) dX4_place_100 (by decide) (fun c_100 => ?_) (fun c_100 => ?_)
              · skip
                refine lv_aload_n hx hb dX4_place_108 rfl (lv_at hl 2 rfl) ?_
                refine lv_iconst (v := nI 3) hx hb dX4_place_109 (by decide) ?_
                refine wr_go0 (wr_runV (As := [.int (nI 3)]) (rest := []) hx hb hml hown hts hK hM okV_RX4_167_X4_fail (met_X4_fail l mo ro no fi se t3 le od (gN true) ac oc su 3 mu_s hA_mo) mu_s rfl rfl rfl ⟨Nat.le_of_ble_eq_true rfl, Nat.le_of_ble_eq_true rfl⟩ hl.1 rfl (Nat.le_of_ble_eq_true rfl) dX4_place_110 ⟨Nat.le_refl _, Nat.le_refl _⟩) hS (fun M1 H locs hR hM hS => ?_)
                obtain rfl := hR
                rw [mu_mu] at hM
                rw [← mu_id (a := no) (e := eI cI 146 f) (mu_g (ne_io hno hmo) hno)] at hM
                exact wr_ireturn hx hb hr hlk hM hS (Nat.le_refl _) (Nat.le_refl _) (by simp [mPlcV, mPlcT, mPlcN, mPlcOk, mPlc, gN, bI_t, bI_f, c_15, Nat.not_lt.mpr c_15, c_21, Nat.not_lt.mpr c_21, c_86, c_95, c_100]) (by rw [show nI (mPlcT su f j k b) = nI 3 from (by simp [mPlcV, mPlcT, mPlcN, mPlcOk, mPlc, gN, c_15, Nat.not_lt.mpr c_15, c_21, Nat.not_lt.mpr c_21, c_86, c_95, c_100]), show mPlcN su f j k b = f from (by simp [mPlcV, mPlcT, mPlcN, mPlcOk, mPlc, gN, c_15, Nat.not_lt.mpr c_15, c_21, Nat.not_lt.mpr c_21, c_86, c_95, c_100])]) dX4_place_113
              · skip
                refine lv_iload hx hb dX4_place_103 (lv_at hl 0 rfl) ?_
                refine zb_eq (tgt := 114) hx hb (mEdge j k) dX4_place_105 (by decide) (fun c_105 => ?_) (fun c_105 => ?_)
                · skip
                  refine lv_aload_n hx hb dX4_place_114 rfl (lv_at hl 2 rfl) ?_
                  refine w_get (C := RX4) (T := TX4) (N := 11) (ci := 3) hx hb hts hown hK hM inX4 rfl 5 (by decide) qw_4_89 rfl mu_s rfl dX4_place_115 ?_
                  refine lv_iload_n hx hb dX4_place_118 rfl (lv_at hl 3 rfl) ?_
                  refine lv_iload_n hx hb dX4_place_119 rfl (lv_at hl 5 rfl) ?_
                  refine rd_goI (rd_runS (As := [.int (bI b)]) (rest := [.int (nI j), .ref no]) hx hb hml hown hts hK hM okS_RX4_170_X4_side (met_X4_side l b) rfl ⟨Nat.le_of_ble_eq_true rfl, Nat.le_of_ble_eq_true rfl⟩ hl.1 rfl (Nat.le_of_ble_eq_true rfl) dX4_place_120 ⟨Nat.le_refl _, Nat.le_refl _⟩) ?_
                  refine lv_iload_n hx hb dX4_place_123 rfl (lv_at hl 4 rfl) ?_
                  refine ni_add hx hb (sdN b) k dX4_place_124 ?_
                  refine w_iast hx hb hK hM hS (mu_g (ne_io hno hmo) hno) hA_no j (by omega) (by decide) dX4_place_125 (fun H locs hM hS => ?_)
                  refine lv_aload_n hx hb dX4_place_126 rfl (lv_at hl 2 rfl) ?_
                  refine w_get (C := RX4) (T := TX4) (N := 11) (ci := 3) hx hb hts hown hK hM inX4 rfl 5 (by decide) qw_4_89 rfl (mu_g (ne_oi hmo hno) mu_s) rfl dX4_place_127 ?_
                  refine rd_goI (rd_runS (As := [.ref no]) (rest := []) hx hb hml hown hts hK hM okS_RX4_142_X4_pieces (met_X4_pieces l no (upd f j (nI ((sdN b) + k))) mu_s) rfl ⟨Nat.le_of_ble_eq_true rfl, Nat.le_of_ble_eq_true rfl⟩ hl.1 rfl (Nat.le_of_ble_eq_true rfl) dX4_place_130 ⟨Nat.le_refl _, Nat.le_refl _⟩) ?_
                  have hf130_0 := mPieces_le (upd f j (nI ((sdN b) + k)))
                  exact wr_ireturn hx hb hr hlk hM hS (Nat.le_refl _) (Nat.le_refl _) (by simp [mPlcV, mPlcT, mPlcN, mPlcOk, mPlc, gN, bI_t, bI_f, c_15, Nat.not_lt.mpr c_15, c_21, Nat.not_lt.mpr c_21, c_86, c_95, c_100, c_105]) (by rw [show nI (mPlcT su f j k b) = nI (gN true) from (by simp [mPlcV, mPlcT, mPlcN, mPlcOk, mPlc, gN, c_15, Nat.not_lt.mpr c_15, c_21, Nat.not_lt.mpr c_21, c_86, c_95, c_100, c_105]), show mPlcN su f j k b = upd f j (nI ((sdN b) + k)) from (by simp [mPlcV, mPlcT, mPlcN, mPlcOk, mPlc, gN, c_15, Nat.not_lt.mpr c_15, c_21, Nat.not_lt.mpr c_21, c_86, c_95, c_100, c_105])]) dX4_place_133
                · skip
                  refine lv_aload_n hx hb dX4_place_108 rfl (lv_at hl 2 rfl) ?_
                  refine lv_iconst (v := nI 3) hx hb dX4_place_109 (by decide) ?_
                  refine wr_go0 (wr_runV (As := [.int (nI 3)]) (rest := []) hx hb hml hown hts hK hM okV_RX4_167_X4_fail (met_X4_fail l mo ro no fi se t3 le od (gN true) ac oc su 3 mu_s hA_mo) mu_s rfl rfl rfl ⟨Nat.le_of_ble_eq_true rfl, Nat.le_of_ble_eq_true rfl⟩ hl.1 rfl (Nat.le_of_ble_eq_true rfl) dX4_place_110 ⟨Nat.le_refl _, Nat.le_refl _⟩) hS (fun M1 H locs hR hM hS => ?_)
                  obtain rfl := hR
                  rw [mu_mu] at hM
                  rw [← mu_id (a := no) (e := eI cI 146 f) (mu_g (ne_io hno hmo) hno)] at hM
                  exact wr_ireturn hx hb hr hlk hM hS (Nat.le_refl _) (Nat.le_refl _) (by simp [mPlcV, mPlcT, mPlcN, mPlcOk, mPlc, gN, bI_t, bI_f, c_15, Nat.not_lt.mpr c_15, c_21, Nat.not_lt.mpr c_21, c_86, c_95, c_100, c_105]) (by rw [show nI (mPlcT su f j k b) = nI 3 from (by simp [mPlcV, mPlcT, mPlcN, mPlcOk, mPlc, gN, c_15, Nat.not_lt.mpr c_15, c_21, Nat.not_lt.mpr c_21, c_86, c_95, c_100, c_105]), show mPlcN su f j k b = f from (by simp [mPlcV, mPlcT, mPlcN, mPlcOk, mPlc, gN, c_15, Nat.not_lt.mpr c_15, c_21, Nat.not_lt.mpr c_21, c_86, c_95, c_100, c_105])]) dX4_place_113
        · skip
          refine ni_ne (tgt := 79) hx hb k 6 (by omega) (by omega) dX4_place_60 (by decide) (fun c_60 => ?_) (fun c_60 => ?_)
          · skip
            refine lv_iconst (v := nI 0) hx hb dX4_place_79 (by decide) ?_
            exact topi (bI (mEdge j k)) (by simp [mEdge, c_15, Nat.not_lt.mpr c_15, c_21, Nat.not_lt.mpr c_21, c_60, bI_t, bI_f]) hJ80
          · skip
            refine lv_iload_n hx hb dX4_place_63 rfl (lv_at hl 2 rfl) ?_
            refine lv_bipush (v := nI 8) hx hb dX4_place_64 (by decide) ?_
            refine ni_lt (tgt := 75) hx hb j 8 (by omega) (by omega) dX4_place_66 (by decide) (fun c_66 => ?_) (fun c_66 => ?_)
            · skip
              refine lv_iconst (v := nI 1) hx hb dX4_place_75 (by decide) ?_
              refine lv_goto (tgt := 80) hx hb dX4_place_76 (by decide) ?_
              exact topi (bI (mEdge j k)) (by simp [mEdge, c_15, Nat.not_lt.mpr c_15, c_21, Nat.not_lt.mpr c_21, c_60, c_66, Nat.not_le.mpr c_66, Nat.le_of_lt c_66, bI_t, bI_f]) hJ80
            · skip
              refine lv_iload_n hx hb dX4_place_69 rfl (lv_at hl 2 rfl) ?_
              refine lv_bipush (v := nI 55) hx hb dX4_place_70 (by decide) ?_
              refine ni_le (tgt := 79) hx hb j 55 (by omega) (by omega) dX4_place_72 (by decide) (fun c_72 => ?_) (fun c_72 => ?_)
              · skip
                refine lv_iconst (v := nI 0) hx hb dX4_place_79 (by decide) ?_
                exact topi (bI (mEdge j k)) (by simp [mEdge, c_15, Nat.not_lt.mpr c_15, c_21, Nat.not_lt.mpr c_21, c_60, c_66, Nat.not_lt.mpr c_66, c_72, Nat.not_lt.mpr c_72, bI_t, bI_f]) hJ80
              · skip
                refine lv_iconst (v := nI 1) hx hb dX4_place_75 (by decide) ?_
                refine lv_goto (tgt := 80) hx hb dX4_place_76 (by decide) ?_
                exact topi (bI (mEdge j k)) (by simp [mEdge, c_15, Nat.not_lt.mpr c_15, c_21, Nat.not_lt.mpr c_21, c_60, c_66, Nat.not_lt.mpr c_66, c_72, Nat.not_le.mpr c_72, Nat.le_of_lt c_72, bI_t, bI_f]) hJ80
      · skip
        refine ni_ne (tgt := 54) hx hb k 1 (by omega) (by omega) dX4_place_32 (by decide) (fun c_32 => ?_) (fun c_32 => ?_)
        · skip
          refine lv_iconst (v := nI 0) hx hb dX4_place_54 (by decide) ?_
          exact topi (bI (mSec f k b)) (by simp [mSec, c_15, Nat.not_lt.mpr c_15, c_21, Nat.not_lt.mpr c_21, c_32, bI_t, bI_f]) hJ55
        · skip
          refine lv_aload_n hx hb dX4_place_35 rfl (lv_at hl 0 rfl) ?_
          refine w_get (C := RX4) (T := TX4) (N := 11) (ci := 3) hx hb hts hown hK hM inX4 rfl 5 (by decide) qw_4_89 rfl mu_s rfl dX4_place_36 ?_
          refine lv_iload_n hx hb dX4_place_39 rfl (lv_at hl 3 rfl) ?_
          refine rd_goI (rd_runS (As := [.int (bI b)]) (rest := [.ref no]) hx hb hml hown hts hK hM okS_RX4_170_X4_side (met_X4_side l b) rfl ⟨Nat.le_of_ble_eq_true rfl, Nat.le_of_ble_eq_true rfl⟩ hl.1 rfl (Nat.le_of_ble_eq_true rfl) dX4_place_40 ⟨Nat.le_refl _, Nat.le_refl _⟩) ?_
          refine rd_goI (rd_runS (As := [.ref no, .int (nI (sdN b))]) (rest := []) hx hb hml hown hts hK hM okS_RX4_82_X4_king (met_X4_king l no (sdN b) f (mu_g (ne_io hno hmo) hno)) rfl ⟨Nat.le_of_ble_eq_true rfl, Nat.le_of_ble_eq_true rfl⟩ hl.1 rfl (Nat.le_of_ble_eq_true rfl) dX4_place_43 ⟨Nat.le_refl _, Nat.le_refl _⟩) ?_
          rcases hkq : mKing f (sdN b) with _ | kq
          · refine topi (-1) oI_n ?_
            refine lv_iconst (v := (-1)) hx hb dX4_place_46 (by decide) ?_
            refine mm_eq (tgt := 54) hx hb (-1) dX4_place_47 (by decide) ?_
            refine lv_iconst (v := nI 0) hx hb dX4_place_54 (by decide) ?_
            exact topi (bI (mSec f k b)) (by simp [mSec, c_15, Nat.not_lt.mpr c_15, c_21, Nat.not_lt.mpr c_21, c_32, hkq, bI_t, bI_f]) hJ55
          · refine topi (nI kq) (oI_s kq) ?_
            have hkb := mKing_lt hkq
            refine lv_iconst (v := (-1)) hx hb dX4_place_46 (by decide) ?_
            refine nm_eq (tgt := 54) hx hb kq (by omega) dX4_place_47 (by decide) ?_
            refine lv_iconst (v := nI 1) hx hb dX4_place_50 (by decide) ?_
            refine lv_goto (tgt := 55) hx hb dX4_place_51 (by decide) ?_
            exact topi (bI (mSec f k b)) (by simp [mSec, c_15, Nat.not_lt.mpr c_15, c_21, Nat.not_lt.mpr c_21, c_32, hkq, bI_t, bI_f]) hJ55
    · skip
      exfalso; omega
set_option maxHeartbeats 4000000 in
set_option maxRecDepth 100000 in
theorem met_X4_remove_b (l : Launch) {D : va_G} {cI cJ : ClassId} {M : MP} {A : Nat → Prop} {sz : Nat} (mo ro no fi se t3 le od th ac oc : Nat) (su : Bool) (x : Int32) (hmo : M mo = some (.inr (3, [.int (nI th), .int (bI su), .ref ro, .int (nI ac), .int (nI oc), .ref no, .ref fi, .ref se, .ref t3, .ref le, .ref od]))) (hbx : mIsSq x = false) (hA_mo : A mo) : Wr l yX4_remove cX4_remove 3 (some .int) 1 0 0 D cI cJ [.ref mo, .int x] M sz A (some (.int (nI 0))) (fun M' => M' = mu M mo (.inr (3, [.int (nI 1), .int (bI su), .ref ro, .int (nI ac), .int (nI oc), .ref no, .ref fi, .ref se, .ref t3, .ref le, .ref od]))) := by
  refine wr_start (by decide) (Nat.le_of_ble_eq_true rfl) ?_
  intro p e s m args below meth c hx hb hr hml hown hts hlk hini hK hsz H hH0 hM hS ls hl
  clear hH0
  have hl : lv_has ls 3 [(0, .ref mo), (1, .int x)] := hl
  refine lv_aload_n hx hb dX4_remove_0 rfl (lv_at hl 0 rfl) ?_
  refine lv_iload_n hx hb dX4_remove_1 rfl (lv_at hl 1 rfl) ?_
  refine rd_goI (rd_runS (As := [.int x]) (rest := [.ref mo]) hx hb hml hown hts hK hM okS_RX4_160_X4_isSquare (met_X4_isSquare l x) rfl ⟨Nat.le_of_ble_eq_true rfl, Nat.le_of_ble_eq_true rfl⟩ hl.1 rfl (Nat.le_of_ble_eq_true rfl) dX4_remove_2 ⟨Nat.le_refl _, Nat.le_refl _⟩) ?_
  refine topi (bI false) (by rw [hbx]) ?_
  refine wr_go0 (wr_runV (As := [.int (bI false)]) (rest := []) hx hb hml hown hts hK hM okV_RX4_163_X4_isGood (met_X4_isGood l mo ro no fi se t3 le od th ac oc su false hmo hA_mo) hmo rfl rfl rfl ⟨Nat.le_of_ble_eq_true rfl, Nat.le_of_ble_eq_true rfl⟩ hl.1 rfl (Nat.le_of_ble_eq_true rfl) dX4_remove_5 ⟨Nat.le_refl _, Nat.le_refl _⟩) hS (fun M1 H locs hR hM hS => ?_)
  obtain rfl := hR
  refine zb_ne (tgt := 13) hx hb false dX4_remove_8 (by decide) (fun h => absurd (h.symm.trans (rfl : false = false)) (by decide)) (fun _ => ?_)
  refine lv_iconst (v := nI 0) hx hb dX4_remove_11 (by decide) ?_
  exact wr_ireturn hx hb hr hlk hM hS (Nat.le_refl _) (Nat.le_refl _) rfl (by rw [show nI 1 = nI (gN false) from rfl]) dX4_remove_12
set_option maxHeartbeats 4000000 in
set_option maxRecDepth 100000 in
theorem met_X4_remove (l : Launch) {D : va_G} {cI cJ : ClassId} {M : MP} {A : Nat → Prop} {sz : Nat} (mo ro no fi se t3 le od th ac oc : Nat) (su : Bool) (j : Nat) (f : Nat → Int32) (hmo : M mo = some (.inr (3, [.int (nI th), .int (bI su), .ref ro, .int (nI ac), .int (nI oc), .ref no, .ref fi, .ref se, .ref t3, .ref le, .ref od]))) (hno : M no = some (eI cI 146 f)) (hj : j < 64) (hA_mo : A mo) (hA_no : A no) : Wr l yX4_remove cX4_remove 3 (some .int) 1 0 0 D cI cJ [.ref mo, .int (nI j)] M sz A (some (.int (nI (mRemV su f j)))) (fun M' => M' = mu (mu M mo (.inr (3, [.int (nI (mRemT su f j)), .int (bI su), .ref ro, .int (nI ac), .int (nI oc), .ref no, .ref fi, .ref se, .ref t3, .ref le, .ref od]))) no (eI cI 146 (mRemN su f j))) := by
  refine wr_start (by decide) (Nat.le_of_ble_eq_true rfl) ?_
  intro p e s m args below meth c hx hb hr hml hown hts hlk hini hK hsz H hH0 hM hS ls hl
  clear hH0
  have hl : lv_has ls 3 [(0, .ref mo), (1, .int (nI j))] := hl
  refine lv_aload_n hx hb dX4_remove_0 rfl (lv_at hl 0 rfl) ?_
  refine lv_iload_n hx hb dX4_remove_1 rfl (lv_at hl 1 rfl) ?_
  refine rd_goI (rd_runS (As := [.int (nI j)]) (rest := [.ref mo]) hx hb hml hown hts hK hM okS_RX4_160_X4_isSquare (met_X4_isSquare l (nI j)) rfl ⟨Nat.le_of_ble_eq_true rfl, Nat.le_of_ble_eq_true rfl⟩ hl.1 rfl (Nat.le_of_ble_eq_true rfl) dX4_remove_2 ⟨Nat.le_refl _, Nat.le_refl _⟩) ?_
  refine topi (bI true) (by rw [mIsSq_n hj]) ?_
  refine wr_go0 (wr_runV (As := [.int (bI true)]) (rest := []) hx hb hml hown hts hK hM okV_RX4_163_X4_isGood (met_X4_isGood l mo ro no fi se t3 le od th ac oc su true hmo hA_mo) hmo rfl rfl rfl ⟨Nat.le_of_ble_eq_true rfl, Nat.le_of_ble_eq_true rfl⟩ hl.1 rfl (Nat.le_of_ble_eq_true rfl) dX4_remove_5 ⟨Nat.le_refl _, Nat.le_refl _⟩) hS (fun M1 H locs hR hM hS => ?_)
  obtain rfl := hR
  refine zb_ne (tgt := 13) hx hb true dX4_remove_8 (by decide) (fun _ => ?_) (fun h => absurd (h.symm.trans (rfl : true = true)) (by decide))
  refine lv_aload_n hx hb dX4_remove_13 rfl (lv_at hl 0 rfl) ?_
  refine w_get (C := RX4) (T := TX4) (N := 11) (ci := 3) hx hb hts hown hK hM inX4 rfl 1 (by decide) qw_4_85 rfl mu_s rfl dX4_remove_14 ?_
  refine zb_eq (tgt := 29) hx hb su dX4_remove_17 (by decide) (fun c_17 => ?_) (fun c_17 => ?_)
  · skip
    refine lv_aload_n hx hb dX4_remove_29 rfl (lv_at hl 0 rfl) ?_
    refine lv_iconst (v := nI 2) hx hb dX4_remove_30 (by decide) ?_
    refine wr_go0 (wr_runV (As := [.int (nI 2)]) (rest := []) hx hb hml hown hts hK hM okV_RX4_167_X4_fail (met_X4_fail l mo ro no fi se t3 le od (gN true) ac oc su 2 mu_s hA_mo) mu_s rfl rfl rfl ⟨Nat.le_of_ble_eq_true rfl, Nat.le_of_ble_eq_true rfl⟩ hl.1 rfl (Nat.le_of_ble_eq_true rfl) dX4_remove_31 ⟨Nat.le_refl _, Nat.le_refl _⟩) hS (fun M1 H locs hR hM hS => ?_)
    obtain rfl := hR
    rw [mu_mu] at hM
    rw [← mu_id (a := no) (e := eI cI 146 f) (mu_g (ne_io hno hmo) hno)] at hM
    exact wr_ireturn hx hb hr hlk hM hS (Nat.le_refl _) (Nat.le_refl _) (by simp [mRemV, mRemT, mRemN, mRemOk, gN, bI_t, bI_f, c_17]) (by rw [show nI (mRemT su f j) = nI 2 from (by simp [mRemV, mRemT, mRemN, mRemOk, gN, c_17]), show mRemN su f j = f from (by simp [mRemV, mRemT, mRemN, mRemOk, gN, c_17])]) dX4_remove_34
  · skip
    refine lv_aload_n hx hb dX4_remove_20 rfl (lv_at hl 0 rfl) ?_
    refine w_get (C := RX4) (T := TX4) (N := 11) (ci := 3) hx hb hts hown hK hM inX4 rfl 5 (by decide) qw_4_89 rfl mu_s rfl dX4_remove_21 ?_
    refine lv_iload_n hx hb dX4_remove_24 rfl (lv_at hl 1 rfl) ?_
    refine w_iald hx hb hK hM (mu_g (ne_io hno hmo) hno) j (by omega) (by decide) dX4_remove_25 ?_
    refine lv_if_ne (tgt := 35) hx hb dX4_remove_26 (by decide) (fun c_26 => ?_) (fun c_26 => ?_)
    · skip
      refine lv_aload_n hx hb dX4_remove_35 rfl (lv_at hl 0 rfl) ?_
      refine w_get (C := RX4) (T := TX4) (N := 11) (ci := 3) hx hb hts hown hK hM inX4 rfl 5 (by decide) qw_4_89 rfl mu_s rfl dX4_remove_36 ?_
      refine lv_iload_n hx hb dX4_remove_39 rfl (lv_at hl 1 rfl) ?_
      refine rd_goI (rd_runS (As := [.ref no, .int (nI j)]) (rest := []) hx hb hml hown hts hK hM okS_RX4_65_X4_kind (met_X4_kind l no j f (mu_g (ne_io hno hmo) hno) (by omega)) rfl ⟨Nat.le_of_ble_eq_true rfl, Nat.le_of_ble_eq_true rfl⟩ hl.1 rfl (Nat.le_of_ble_eq_true rfl) dX4_remove_40 ⟨Nat.le_refl _, Nat.le_refl _⟩) ?_
      have hf40_0 := mKindN_lt f j
      refine lv_istore_n (lv' := [(2, .int (nI (mKindN f j))), (0, .ref mo), (1, .int (nI j))]) hx hb dX4_remove_43 rfl hl (by decide) rfl (fun ls hl => ?_)
      refine lv_aload_n hx hb dX4_remove_44 rfl (lv_at hl 1 rfl) ?_
      refine w_get (C := RX4) (T := TX4) (N := 11) (ci := 3) hx hb hts hown hK hM inX4 rfl 5 (by decide) qw_4_89 rfl mu_s rfl dX4_remove_45 ?_
      refine lv_iload_n hx hb dX4_remove_48 rfl (lv_at hl 2 rfl) ?_
      refine lv_iconst (v := nI 0) hx hb dX4_remove_49 (by decide) ?_
      refine w_iast hx hb hK hM hS (mu_g (ne_io hno hmo) hno) hA_no j (by omega) (by decide) dX4_remove_50 (fun H locs hM hS => ?_)
      refine lv_iload_n hx hb dX4_remove_51 rfl (lv_at hl 0 rfl) ?_
      exact wr_ireturn hx hb hr hlk hM hS (Nat.le_refl _) (Nat.le_refl _) (by simp [mRemV, mRemT, mRemN, mRemOk, gN, bI_t, bI_f, c_17, c_26]) (by rw [show nI (mRemT su f j) = nI (gN true) from (by simp [mRemV, mRemT, mRemN, mRemOk, gN, c_17, c_26]), show mRemN su f j = upd f j (nI 0) from (by simp [mRemV, mRemT, mRemN, mRemOk, gN, c_17, c_26])]) dX4_remove_52
    · skip
      refine lv_aload_n hx hb dX4_remove_29 rfl (lv_at hl 0 rfl) ?_
      refine lv_iconst (v := nI 2) hx hb dX4_remove_30 (by decide) ?_
      refine wr_go0 (wr_runV (As := [.int (nI 2)]) (rest := []) hx hb hml hown hts hK hM okV_RX4_167_X4_fail (met_X4_fail l mo ro no fi se t3 le od (gN true) ac oc su 2 mu_s hA_mo) mu_s rfl rfl rfl ⟨Nat.le_of_ble_eq_true rfl, Nat.le_of_ble_eq_true rfl⟩ hl.1 rfl (Nat.le_of_ble_eq_true rfl) dX4_remove_31 ⟨Nat.le_refl _, Nat.le_refl _⟩) hS (fun M1 H locs hR hM hS => ?_)
      obtain rfl := hR
      rw [mu_mu] at hM
      rw [← mu_id (a := no) (e := eI cI 146 f) (mu_g (ne_io hno hmo) hno)] at hM
      exact wr_ireturn hx hb hr hlk hM hS (Nat.le_refl _) (Nat.le_refl _) (by simp [mRemV, mRemT, mRemN, mRemOk, gN, bI_t, bI_f, c_17, c_26]) (by rw [show nI (mRemT su f j) = nI 2 from (by simp [mRemV, mRemT, mRemN, mRemOk, gN, c_17, c_26]), show mRemN su f j = f from (by simp [mRemV, mRemT, mRemN, mRemOk, gN, c_17, c_26])]) dX4_remove_34
set_option maxHeartbeats 4000000 in
set_option maxRecDepth 100000 in
theorem met_X4_isSetup (l : Launch) {D : va_G} {cI cJ : ClassId} {M : MP} {A : Nat → Prop} {sz : Nat} (mo ro no fi se t3 le od th ac oc : Nat) (su : Bool)  (hmo : M mo = some (.inr (3, [.int (nI th), .int (bI su), .ref ro, .int (nI ac), .int (nI oc), .ref no, .ref fi, .ref se, .ref t3, .ref le, .ref od]))) (hA_mo : A mo) : Wr l yX4_isSetup cX4_isSetup 1 (some .boolean) 0 0 0 D cI cJ [.ref mo] M sz A (some (.int (bI su))) (fun M' => M' = mu M mo (.inr (3, [.int (nI 0), .int (bI su), .ref ro, .int (nI ac), .int (nI oc), .ref no, .ref fi, .ref se, .ref t3, .ref le, .ref od]))) := by
  refine wr_start (by decide) (Nat.le_of_ble_eq_true rfl) ?_
  intro p e s m args below meth c hx hb hr hml hown hts hlk hini hK hsz H hH0 hM hS ls hl
  clear hH0
  have hl : lv_has ls 1 [(0, .ref mo)] := hl
  refine lv_aload_n hx hb dX4_isSetup_0 rfl (lv_at hl 0 rfl) ?_
  refine lv_iconst (v := nI 0) hx hb dX4_isSetup_1 (by decide) ?_
  refine w_put (C := RX4) (T := TX4) (N := 11) (ci := 3) hx hb hts hown hK hM hS inX4 rfl tyX4 tyX4_ok nmX4 0 (by decide) qw_4_84 rfl rfl hmo hA_mo rfl rfl (Nat.le_of_ble_eq_true rfl) dX4_isSetup_2 (fun H locs hM hS => ?_)
  replace hM : HM D (mu M mo (.inr (3, [.int (nI 0), .int (bI su), .ref ro, .int (nI ac), .int (nI oc), .ref no, .ref fi, .ref se, .ref t3, .ref le, .ref od]))) H := hM
  refine lv_aload_n hx hb dX4_isSetup_5 rfl (lv_at hl 0 rfl) ?_
  refine w_get (C := RX4) (T := TX4) (N := 11) (ci := 3) hx hb hts hown hK hM inX4 rfl 1 (by decide) qw_4_85 rfl mu_s rfl dX4_isSetup_6 ?_
  exact wr_zreturn hx hb hr hlk hM hS (Nat.le_refl _) (Nat.le_refl _) rfl rfl dX4_isSetup_9
set_option maxHeartbeats 4000000 in
set_option maxRecDepth 100000 in
theorem met_X4_whiteToAct (l : Launch) {D : va_G} {cI cJ : ClassId} {M : MP} {A : Nat → Prop} {sz : Nat} (mo ro no fi se t3 le od th ac oc : Nat) (su : Bool) (f : Nat → Int32) (hmo : M mo = some (.inr (3, [.int (nI th), .int (bI su), .ref ro, .int (nI ac), .int (nI oc), .ref no, .ref fi, .ref se, .ref t3, .ref le, .ref od]))) (hno : M no = some (eI cI 146 f)) (hA_mo : A mo) : Wr l yX4_whiteToAct cX4_whiteToAct 1 (some .boolean) 0 0 0 D cI cJ [.ref mo] M sz A (some (.int (bI (decide (f 128 = nI 8))))) (fun M' => M' = mu M mo (.inr (3, [.int (nI 0), .int (bI su), .ref ro, .int (nI ac), .int (nI oc), .ref no, .ref fi, .ref se, .ref t3, .ref le, .ref od]))) := by
  refine wr_start (by decide) (Nat.le_of_ble_eq_true rfl) ?_
  intro p e s m args below meth c hx hb hr hml hown hts hlk hini hK hsz H hH0 hM hS ls hl
  clear hH0
  have hl : lv_has ls 1 [(0, .ref mo)] := hl
  refine lv_aload_n hx hb dX4_whiteToAct_0 rfl (lv_at hl 0 rfl) ?_
  refine lv_iconst (v := nI 0) hx hb dX4_whiteToAct_1 (by decide) ?_
  refine w_put (C := RX4) (T := TX4) (N := 11) (ci := 3) hx hb hts hown hK hM hS inX4 rfl tyX4 tyX4_ok nmX4 0 (by decide) qw_4_84 rfl rfl hmo hA_mo rfl rfl (Nat.le_of_ble_eq_true rfl) dX4_whiteToAct_2 (fun H locs hM hS => ?_)
  replace hM : HM D (mu M mo (.inr (3, [.int (nI 0), .int (bI su), .ref ro, .int (nI ac), .int (nI oc), .ref no, .ref fi, .ref se, .ref t3, .ref le, .ref od]))) H := hM
  refine lv_aload_n hx hb dX4_whiteToAct_5 rfl (lv_at hl 0 rfl) ?_
  refine w_get (C := RX4) (T := TX4) (N := 11) (ci := 3) hx hb hts hown hK hM inX4 rfl 5 (by decide) qw_4_89 rfl mu_s rfl dX4_whiteToAct_6 ?_
  refine lv_sipush (v := nI 128) hx hb dX4_whiteToAct_9 (by decide) ?_
  refine w_iald hx hb hK hM (mu_g (ne_io hno hmo) hno) 128 (by omega) (by decide) dX4_whiteToAct_12 ?_
  refine lv_bipush (v := nI 8) hx hb dX4_whiteToAct_13 (by decide) ?_
  refine lv_icmp_ne (tgt := 22) hx hb dX4_whiteToAct_15 (by decide) (fun c_15 => ?_) (fun c_15 => ?_)
  · skip
    refine lv_iconst (v := nI 0) hx hb dX4_whiteToAct_22 (by decide) ?_
    exact wr_zreturn hx hb hr hlk hM hS (Nat.le_refl _) (Nat.le_refl _) (by first | (simp [bI_t, bI_f, c_15]; done) | exact bI_f0 (by simp only [c_15, Bool.and_eq_true, Bool.or_eq_true, decide_eq_true_eq, Bool.and_eq_false_iff, Bool.or_eq_false_iff, decide_eq_false_iff_not, Bool.not_eq_true, if_true, if_false]; omega)) rfl dX4_whiteToAct_23
  · skip
    refine lv_iconst (v := nI 1) hx hb dX4_whiteToAct_18 (by decide) ?_
    refine lv_goto (tgt := 23) hx hb dX4_whiteToAct_19 (by decide) ?_
    exact wr_zreturn hx hb hr hlk hM hS (Nat.le_refl _) (Nat.le_refl _) (by first | (simp [bI_t, bI_f, c_15]; done) | exact bI_1 (by simp only [c_15, Bool.and_eq_true, Bool.or_eq_true, decide_eq_true_eq, Bool.and_eq_false_iff, Bool.or_eq_false_iff, decide_eq_false_iff_not, Bool.not_eq_true, if_true, if_false]; omega)) rfl dX4_whiteToAct_23
set_option maxHeartbeats 4000000 in
set_option maxRecDepth 100000 in
theorem met_X4_pieceAt_b (l : Launch) {D : va_G} {cI cJ : ClassId} {M : MP} {A : Nat → Prop} {sz : Nat} (mo ro no fi se t3 le od th ac oc : Nat) (su : Bool) (x : Int32) (hmo : M mo = some (.inr (3, [.int (nI th), .int (bI su), .ref ro, .int (nI ac), .int (nI oc), .ref no, .ref fi, .ref se, .ref t3, .ref le, .ref od]))) (hbx : mIsSq x = false) (hA_mo : A mo) : Wr l yX4_pieceAt cX4_pieceAt 2 (some .int) 1 0 0 D cI cJ [.ref mo, .int x] M sz A (some (.int (nI 0))) (fun M' => M' = mu M mo (.inr (3, [.int (nI 1), .int (bI su), .ref ro, .int (nI ac), .int (nI oc), .ref no, .ref fi, .ref se, .ref t3, .ref le, .ref od]))) := by
  refine wr_start (by decide) (Nat.le_of_ble_eq_true rfl) ?_
  intro p e s m args below meth c hx hb hr hml hown hts hlk hini hK hsz H hH0 hM hS ls hl
  clear hH0
  have hl : lv_has ls 2 [(0, .ref mo), (1, .int x)] := hl
  refine lv_aload_n hx hb dX4_pieceAt_0 rfl (lv_at hl 0 rfl) ?_
  refine lv_iload_n hx hb dX4_pieceAt_1 rfl (lv_at hl 1 rfl) ?_
  refine rd_goI (rd_runS (As := [.int x]) (rest := [.ref mo]) hx hb hml hown hts hK hM okS_RX4_160_X4_isSquare (met_X4_isSquare l x) rfl ⟨Nat.le_of_ble_eq_true rfl, Nat.le_of_ble_eq_true rfl⟩ hl.1 rfl (Nat.le_of_ble_eq_true rfl) dX4_pieceAt_2 ⟨Nat.le_refl _, Nat.le_refl _⟩) ?_
  refine topi (bI false) (by rw [hbx]) ?_
  refine wr_go0 (wr_runV (As := [.int (bI false)]) (rest := []) hx hb hml hown hts hK hM okV_RX4_163_X4_isGood (met_X4_isGood l mo ro no fi se t3 le od th ac oc su false hmo hA_mo) hmo rfl rfl rfl ⟨Nat.le_of_ble_eq_true rfl, Nat.le_of_ble_eq_true rfl⟩ hl.1 rfl (Nat.le_of_ble_eq_true rfl) dX4_pieceAt_5 ⟨Nat.le_refl _, Nat.le_refl _⟩) hS (fun M1 H locs hR hM hS => ?_)
  obtain rfl := hR
  refine zb_eq (tgt := 22) hx hb false dX4_pieceAt_8 (by decide) (fun _ => ?_) (fun h => absurd (h.symm.trans (rfl : false = false)) (by decide))
  refine lv_iconst (v := nI 0) hx hb dX4_pieceAt_22 (by decide) ?_
  exact wr_ireturn hx hb hr hlk hM hS (Nat.le_refl _) (Nat.le_refl _) rfl (by rw [show nI 1 = nI (gN false) from rfl]) dX4_pieceAt_23
set_option maxHeartbeats 4000000 in
set_option maxRecDepth 100000 in
theorem met_X4_pieceAt (l : Launch) {D : va_G} {cI cJ : ClassId} {M : MP} {A : Nat → Prop} {sz : Nat} (mo ro no fi se t3 le od th ac oc : Nat) (su : Bool) (j : Nat) (f : Nat → Int32) (hmo : M mo = some (.inr (3, [.int (nI th), .int (bI su), .ref ro, .int (nI ac), .int (nI oc), .ref no, .ref fi, .ref se, .ref t3, .ref le, .ref od]))) (hno : M no = some (eI cI 146 f)) (hj : j < 64) (hA_mo : A mo) : Wr l yX4_pieceAt cX4_pieceAt 2 (some .int) 1 0 0 D cI cJ [.ref mo, .int (nI j)] M sz A (some (.int (nI (mKindN f j)))) (fun M' => M' = mu M mo (.inr (3, [.int (nI 0), .int (bI su), .ref ro, .int (nI ac), .int (nI oc), .ref no, .ref fi, .ref se, .ref t3, .ref le, .ref od]))) := by
  refine wr_start (by decide) (Nat.le_of_ble_eq_true rfl) ?_
  intro p e s m args below meth c hx hb hr hml hown hts hlk hini hK hsz H hH0 hM hS ls hl
  clear hH0
  have hl : lv_has ls 2 [(0, .ref mo), (1, .int (nI j))] := hl
  refine lv_aload_n hx hb dX4_pieceAt_0 rfl (lv_at hl 0 rfl) ?_
  refine lv_iload_n hx hb dX4_pieceAt_1 rfl (lv_at hl 1 rfl) ?_
  refine rd_goI (rd_runS (As := [.int (nI j)]) (rest := [.ref mo]) hx hb hml hown hts hK hM okS_RX4_160_X4_isSquare (met_X4_isSquare l (nI j)) rfl ⟨Nat.le_of_ble_eq_true rfl, Nat.le_of_ble_eq_true rfl⟩ hl.1 rfl (Nat.le_of_ble_eq_true rfl) dX4_pieceAt_2 ⟨Nat.le_refl _, Nat.le_refl _⟩) ?_
  refine topi (bI true) (by rw [mIsSq_n hj]) ?_
  refine wr_go0 (wr_runV (As := [.int (bI true)]) (rest := []) hx hb hml hown hts hK hM okV_RX4_163_X4_isGood (met_X4_isGood l mo ro no fi se t3 le od th ac oc su true hmo hA_mo) hmo rfl rfl rfl ⟨Nat.le_of_ble_eq_true rfl, Nat.le_of_ble_eq_true rfl⟩ hl.1 rfl (Nat.le_of_ble_eq_true rfl) dX4_pieceAt_5 ⟨Nat.le_refl _, Nat.le_refl _⟩) hS (fun M1 H locs hR hM hS => ?_)
  obtain rfl := hR
  refine zb_eq (tgt := 22) hx hb true dX4_pieceAt_8 (by decide) (fun h => absurd (h.symm.trans (rfl : true = true)) (by decide)) (fun _ => ?_)
  refine lv_aload_n hx hb dX4_pieceAt_11 rfl (lv_at hl 0 rfl) ?_
  refine w_get (C := RX4) (T := TX4) (N := 11) (ci := 3) hx hb hts hown hK hM inX4 rfl 5 (by decide) qw_4_89 rfl mu_s rfl dX4_pieceAt_12 ?_
  refine lv_iload_n hx hb dX4_pieceAt_15 rfl (lv_at hl 1 rfl) ?_
  refine rd_goI (rd_runS (As := [.ref no, .int (nI j)]) (rest := []) hx hb hml hown hts hK hM okS_RX4_65_X4_kind (met_X4_kind l no j f (mu_g (ne_io hno hmo) hno) (by omega)) rfl ⟨Nat.le_of_ble_eq_true rfl, Nat.le_of_ble_eq_true rfl⟩ hl.1 rfl (Nat.le_of_ble_eq_true rfl) dX4_pieceAt_16 ⟨Nat.le_refl _, Nat.le_refl _⟩) ?_
  have hf16_0 := mKindN_lt f j
  refine lv_goto (tgt := 23) hx hb dX4_pieceAt_19 (by decide) ?_
  exact wr_ireturn hx hb hr hlk hM hS (Nat.le_refl _) (Nat.le_refl _) rfl (by rw [show nI 0 = nI (gN true) from rfl]) dX4_pieceAt_23
set_option maxHeartbeats 4000000 in
set_option maxRecDepth 100000 in
theorem met_X4_isWhite_b (l : Launch) {D : va_G} {cI cJ : ClassId} {M : MP} {A : Nat → Prop} {sz : Nat} (mo ro no fi se t3 le od th ac oc : Nat) (su : Bool) (x : Int32) (hmo : M mo = some (.inr (3, [.int (nI th), .int (bI su), .ref ro, .int (nI ac), .int (nI oc), .ref no, .ref fi, .ref se, .ref t3, .ref le, .ref od]))) (hbx : mIsSq x = false) (hA_mo : A mo) : Wr l yX4_isWhite cX4_isWhite 2 (some .boolean) 1 0 0 D cI cJ [.ref mo, .int x] M sz A (some (.int (bI false))) (fun M' => M' = mu M mo (.inr (3, [.int (nI 1), .int (bI su), .ref ro, .int (nI ac), .int (nI oc), .ref no, .ref fi, .ref se, .ref t3, .ref le, .ref od]))) := by
  refine wr_start (by decide) (Nat.le_of_ble_eq_true rfl) ?_
  intro p e s m args below meth c hx hb hr hml hown hts hlk hini hK hsz H hH0 hM hS ls hl
  clear hH0
  have hl : lv_has ls 2 [(0, .ref mo), (1, .int x)] := hl
  refine lv_aload_n hx hb dX4_isWhite_0 rfl (lv_at hl 0 rfl) ?_
  refine lv_iload_n hx hb dX4_isWhite_1 rfl (lv_at hl 1 rfl) ?_
  refine rd_goI (rd_runS (As := [.int x]) (rest := [.ref mo]) hx hb hml hown hts hK hM okS_RX4_160_X4_isSquare (met_X4_isSquare l x) rfl ⟨Nat.le_of_ble_eq_true rfl, Nat.le_of_ble_eq_true rfl⟩ hl.1 rfl (Nat.le_of_ble_eq_true rfl) dX4_isWhite_2 ⟨Nat.le_refl _, Nat.le_refl _⟩) ?_
  refine topi (bI false) (by rw [hbx]) ?_
  refine wr_go0 (wr_runV (As := [.int (bI false)]) (rest := []) hx hb hml hown hts hK hM okV_RX4_163_X4_isGood (met_X4_isGood l mo ro no fi se t3 le od th ac oc su false hmo hA_mo) hmo rfl rfl rfl ⟨Nat.le_of_ble_eq_true rfl, Nat.le_of_ble_eq_true rfl⟩ hl.1 rfl (Nat.le_of_ble_eq_true rfl) dX4_isWhite_5 ⟨Nat.le_refl _, Nat.le_refl _⟩) hS (fun M1 H locs hR hM hS => ?_)
  obtain rfl := hR
  refine zb_ne (tgt := 13) hx hb false dX4_isWhite_8 (by decide) (fun h => absurd (h.symm.trans (rfl : false = false)) (by decide)) (fun _ => ?_)
  refine lv_iconst (v := nI 0) hx hb dX4_isWhite_11 (by decide) ?_
  exact wr_zreturn hx hb hr hlk hM hS (Nat.le_refl _) (Nat.le_refl _) (by first | (simp [gN, bI_t, bI_f]; done) | exact bI_f0 (by simp only [gN, Bool.and_eq_true, Bool.or_eq_true, decide_eq_true_eq, Bool.and_eq_false_iff, Bool.or_eq_false_iff, decide_eq_false_iff_not, Bool.not_eq_true, if_true, if_false]; omega)) (by rw [show nI 1 = nI (gN false) from rfl]) dX4_isWhite_12
set_option maxHeartbeats 4000000 in
set_option maxRecDepth 100000 in
theorem met_X4_isWhite (l : Launch) {D : va_G} {cI cJ : ClassId} {M : MP} {A : Nat → Prop} {sz : Nat} (mo ro no fi se t3 le od th ac oc : Nat) (su : Bool) (j : Nat) (f : Nat → Int32) (hmo : M mo = some (.inr (3, [.int (nI th), .int (bI su), .ref ro, .int (nI ac), .int (nI oc), .ref no, .ref fi, .ref se, .ref t3, .ref le, .ref od]))) (hno : M no = some (eI cI 146 f)) (hj : j < 64) (hA_mo : A mo) : Wr l yX4_isWhite cX4_isWhite 2 (some .boolean) 1 0 0 D cI cJ [.ref mo, .int (nI j)] M sz A (some (.int (bI (mIsOf f j 8)))) (fun M' => M' = mu M mo (.inr (3, [.int (nI (mWhT f j)), .int (bI su), .ref ro, .int (nI ac), .int (nI oc), .ref no, .ref fi, .ref se, .ref t3, .ref le, .ref od]))) := by
  refine wr_start (by decide) (Nat.le_of_ble_eq_true rfl) ?_
  intro p e s m args below meth c hx hb hr hml hown hts hlk hini hK hsz H hH0 hM hS ls hl
  clear hH0
  have hl : lv_has ls 2 [(0, .ref mo), (1, .int (nI j))] := hl
  refine lv_aload_n hx hb dX4_isWhite_0 rfl (lv_at hl 0 rfl) ?_
  refine lv_iload_n hx hb dX4_isWhite_1 rfl (lv_at hl 1 rfl) ?_
  refine rd_goI (rd_runS (As := [.int (nI j)]) (rest := [.ref mo]) hx hb hml hown hts hK hM okS_RX4_160_X4_isSquare (met_X4_isSquare l (nI j)) rfl ⟨Nat.le_of_ble_eq_true rfl, Nat.le_of_ble_eq_true rfl⟩ hl.1 rfl (Nat.le_of_ble_eq_true rfl) dX4_isWhite_2 ⟨Nat.le_refl _, Nat.le_refl _⟩) ?_
  refine topi (bI true) (by rw [mIsSq_n hj]) ?_
  refine wr_go0 (wr_runV (As := [.int (bI true)]) (rest := []) hx hb hml hown hts hK hM okV_RX4_163_X4_isGood (met_X4_isGood l mo ro no fi se t3 le od th ac oc su true hmo hA_mo) hmo rfl rfl rfl ⟨Nat.le_of_ble_eq_true rfl, Nat.le_of_ble_eq_true rfl⟩ hl.1 rfl (Nat.le_of_ble_eq_true rfl) dX4_isWhite_5 ⟨Nat.le_refl _, Nat.le_refl _⟩) hS (fun M1 H locs hR hM hS => ?_)
  obtain rfl := hR
  refine zb_ne (tgt := 13) hx hb true dX4_isWhite_8 (by decide) (fun _ => ?_) (fun h => absurd (h.symm.trans (rfl : true = true)) (by decide))
  refine lv_aload_n hx hb dX4_isWhite_13 rfl (lv_at hl 0 rfl) ?_
  refine w_get (C := RX4) (T := TX4) (N := 11) (ci := 3) hx hb hts hown hK hM inX4 rfl 5 (by decide) qw_4_89 rfl mu_s rfl dX4_isWhite_14 ?_
  refine lv_iload_n hx hb dX4_isWhite_17 rfl (lv_at hl 1 rfl) ?_
  refine w_iald hx hb hK hM (mu_g (ne_io hno hmo) hno) j (by omega) (by decide) dX4_isWhite_18 ?_
  refine lv_if_ne (tgt := 39) hx hb dX4_isWhite_19 (by decide) (fun c_19 => ?_) (fun c_19 => ?_)
  · skip
    refine lv_aload_n hx hb dX4_isWhite_39 rfl (lv_at hl 0 rfl) ?_
    refine w_get (C := RX4) (T := TX4) (N := 11) (ci := 3) hx hb hts hown hK hM inX4 rfl 5 (by decide) qw_4_89 rfl mu_s rfl dX4_isWhite_40 ?_
    refine lv_iload_n hx hb dX4_isWhite_43 rfl (lv_at hl 1 rfl) ?_
    refine lv_bipush (v := nI 8) hx hb dX4_isWhite_44 (by decide) ?_
    refine rd_goI (rd_runS (As := [.ref no, .int (nI j), .int (nI 8)]) (rest := []) hx hb hml hown hts hK hM okS_RX4_76_X4_isOf (met_X4_isOf l no j 8 f (mu_g (ne_io hno hmo) hno) (by omega) (by omega)) rfl ⟨Nat.le_of_ble_eq_true rfl, Nat.le_of_ble_eq_true rfl⟩ hl.1 rfl (Nat.le_of_ble_eq_true rfl) dX4_isWhite_46 ⟨Nat.le_refl _, Nat.le_refl _⟩) ?_
    exact wr_zreturn hx hb hr hlk hM hS (Nat.le_refl _) (Nat.le_refl _) rfl (by rw [show nI (mWhT f j) = nI (gN true) from (by simp [mIsOf, mWhT, gN, c_19])]) dX4_isWhite_49
  · skip
    refine lv_aload_n hx hb dX4_isWhite_22 rfl (lv_at hl 0 rfl) ?_
    refine lv_iconst (v := nI 2) hx hb dX4_isWhite_23 (by decide) ?_
    refine wr_go0 (wr_runV (As := [.int (nI 2)]) (rest := []) hx hb hml hown hts hK hM okV_RX4_167_X4_fail (met_X4_fail l mo ro no fi se t3 le od (gN true) ac oc su 2 mu_s hA_mo) mu_s rfl rfl rfl ⟨Nat.le_of_ble_eq_true rfl, Nat.le_of_ble_eq_true rfl⟩ hl.1 rfl (Nat.le_of_ble_eq_true rfl) dX4_isWhite_24 ⟨Nat.le_refl _, Nat.le_refl _⟩) hS (fun M1 H locs hR hM hS => ?_)
    obtain rfl := hR
    rw [mu_mu] at hM
    refine lv_iconst (v := nI 1) hx hb dX4_isWhite_27 (by decide) ?_
    refine ni_ne (tgt := 35) hx hb 0 1 (by omega) (by omega) dX4_isWhite_28 (by decide) (fun c_28 => ?_) (fun c_28 => ?_)
    · skip
      refine lv_iconst (v := nI 0) hx hb dX4_isWhite_35 (by decide) ?_
      refine lv_goto (tgt := 49) hx hb dX4_isWhite_36 (by decide) ?_
      exact wr_zreturn hx hb hr hlk hM hS (Nat.le_refl _) (Nat.le_refl _) (by first | (simp [mIsOf, mWhT, gN, bI_t, bI_f, c_19, c_28]; done) | exact bI_f0 (by simp only [mIsOf, mWhT, gN, c_19, c_28, Bool.and_eq_true, Bool.or_eq_true, decide_eq_true_eq, Bool.and_eq_false_iff, Bool.or_eq_false_iff, decide_eq_false_iff_not, Bool.not_eq_true, if_true, if_false]; omega)) (by rw [show nI (mWhT f j) = nI 2 from (by simp [mIsOf, mWhT, gN, c_19, c_28])]) dX4_isWhite_49
    · skip
      exfalso; omega
set_option maxHeartbeats 4000000 in
set_option maxRecDepth 100000 in
theorem met_X4_piecesOf (l : Launch) {D : va_G} {cI cJ : ClassId} {M : MP} {A : Nat → Prop} {sz : Nat} (mo ro no fi se t3 le od th ac oc : Nat) (su : Bool) (b : Bool) (f : Nat → Int32) (hmo : M mo = some (.inr (3, [.int (nI th), .int (bI su), .ref ro, .int (nI ac), .int (nI oc), .ref no, .ref fi, .ref se, .ref t3, .ref le, .ref od]))) (hno : M no = some (eI cI 146 f)) (hA_mo : A mo) : Wr l yX4_piecesOf cX4_piecesOf 5 (some .long) 1 0 0 D cI cJ [.ref mo, .int (bI b)] M sz A (some (.long (bL (mOfSet f (sdN b))))) (fun M' => M' = mu M mo (.inr (3, [.int (nI 0), .int (bI su), .ref ro, .int (nI ac), .int (nI oc), .ref no, .ref fi, .ref se, .ref t3, .ref le, .ref od]))) := by
  refine wr_start (by decide) (Nat.le_of_ble_eq_true rfl) ?_
  intro p e s m args below meth c hx hb hr hml hown hts hlk hini hK hsz H hH0 hM hS ls hl
  clear hH0
  have hl : lv_has ls 5 [(0, .ref mo), (1, .int (bI b))] := hl
  have hsd1 := sdN_le b
  refine lv_aload_n hx hb dX4_piecesOf_0 rfl (lv_at hl 0 rfl) ?_
  refine lv_iconst (v := nI 0) hx hb dX4_piecesOf_1 (by decide) ?_
  refine w_put (C := RX4) (T := TX4) (N := 11) (ci := 3) hx hb hts hown hK hM hS inX4 rfl tyX4 tyX4_ok nmX4 0 (by decide) qw_4_84 rfl rfl hmo hA_mo rfl rfl (Nat.le_of_ble_eq_true rfl) dX4_piecesOf_2 (fun H locs hM hS => ?_)
  replace hM : HM D (mu M mo (.inr (3, [.int (nI 0), .int (bI su), .ref ro, .int (nI ac), .int (nI oc), .ref no, .ref fi, .ref se, .ref t3, .ref le, .ref od]))) H := hM
  refine lb_const hx hb 0#64 dX4_piecesOf_5 rfl ?_
  refine lv_lstore_n (lv' := [(2, .long (bL (0#64))), (0, .ref mo), (1, .int (bI b))]) hx hb dX4_piecesOf_6 rfl hl (by decide) rfl (fun ls hl => ?_)
  refine lv_iconst (v := nI 0) hx hb dX4_piecesOf_7 (by decide) ?_
  refine lv_istore (lv' := [(4, .int (nI 0)), (2, .long (bL (0#64))), (0, .ref mo), (1, .int (bI b))]) hx hb dX4_piecesOf_8 hl (by decide) rfl (fun ls hl => ?_)
  refine loopR (pcH := 10) (st := []) (ι := BitVec 64 × Nat) (fun ξ => [(4, .int (nI (ξ.2))), (2, .long (bL (ξ.1))), (0, .ref mo), (1, .int (bI b))]) (fun n ξ => (ξ.2) + n = 64 ∧ mOfSet f (sdN b) = mSetL (fun j => mIsOf f j (sdN b)) n (ξ.2) (ξ.1)) ?_ ?_ 64 (0#64, 0) (⟨by first | omega | (dsimp only <;> omega), rfl⟩) ls (lv_sub hl [0,1,2,3] rfl)
  · rintro ⟨r, i⟩ ⟨hin, hres⟩ ls hl
    try dsimp only at hl hin hres
    refine lv_iload hx hb dX4_piecesOf_10 (lv_at hl 0 rfl) ?_
    refine lv_bipush (v := nI 64) hx hb dX4_piecesOf_12 (by decide) ?_
    refine ni_ge (tgt := 50) hx hb i 64 (by omega) (by omega) dX4_piecesOf_14 (by decide) (fun c_14 => ?_) (fun c_14 => ?_)
    · skip
      refine lv_lload_n hx hb dX4_piecesOf_50 rfl (lv_at hl 1 rfl) ?_
      exact wr_lreturn hx hb hr hlk hM hS (Nat.le_refl _) (Nat.le_refl _) (by rw [hres]; simp [mSetL, bI_t, bI_f, c_14, Nat.not_lt.mpr c_14]) rfl dX4_piecesOf_51
    · skip
      exfalso; omega
  · rintro n ih ⟨r, i⟩ ⟨hin, hres⟩ ls hl
    try dsimp only at hl hin hres
    refine lv_iload hx hb dX4_piecesOf_10 (lv_at hl 0 rfl) ?_
    refine lv_bipush (v := nI 64) hx hb dX4_piecesOf_12 (by decide) ?_
    refine ni_ge (tgt := 50) hx hb i 64 (by omega) (by omega) dX4_piecesOf_14 (by decide) (fun c_14 => ?_) (fun c_14 => ?_)
    · skip
      exfalso; omega
    · skip
      refine lv_lload_n hx hb dX4_piecesOf_17 rfl (lv_at hl 1 rfl) ?_
      refine lv_aload_n hx hb dX4_piecesOf_18 rfl (lv_at hl 2 rfl) ?_
      refine w_get (C := RX4) (T := TX4) (N := 11) (ci := 3) hx hb hts hown hK hM inX4 rfl 5 (by decide) qw_4_89 rfl mu_s rfl dX4_piecesOf_19 ?_
      refine lv_iload hx hb dX4_piecesOf_22 (lv_at hl 0 rfl) ?_
      refine lv_iload_n hx hb dX4_piecesOf_24 rfl (lv_at hl 3 rfl) ?_
      refine rd_goI (rd_runS (As := [.int (bI b)]) (rest := [.int (nI i), .ref no, .long (bL r)]) hx hb hml hown hts hK hM okS_RX4_170_X4_side (met_X4_side l b) rfl ⟨Nat.le_of_ble_eq_true rfl, Nat.le_of_ble_eq_true rfl⟩ hl.1 rfl (Nat.le_of_ble_eq_true rfl) dX4_piecesOf_25 ⟨Nat.le_refl _, Nat.le_refl _⟩) ?_
      refine rd_goI (rd_runS (As := [.ref no, .int (nI i), .int (nI (sdN b))]) (rest := [.long (bL r)]) hx hb hml hown hts hK hM okS_RX4_76_X4_isOf (met_X4_isOf l no i (sdN b) f (mu_g (ne_io hno hmo) hno) (by omega) (by omega)) rfl ⟨Nat.le_of_ble_eq_true rfl, Nat.le_of_ble_eq_true rfl⟩ hl.1 rfl (Nat.le_of_ble_eq_true rfl) dX4_piecesOf_28 ⟨Nat.le_refl _, Nat.le_refl _⟩) ?_
      refine zb_eq (tgt := 41) hx hb (mIsOf f i (sdN b)) dX4_piecesOf_31 (by decide) (fun c_31 => ?_) (fun c_31 => ?_)
      · skip
        refine lb_const hx hb 0#64 dX4_piecesOf_41 rfl ?_
        refine lb_or hx hb dX4_piecesOf_42 ?_
        refine lv_lstore_n (lv' := [(2, .long (bL (r ||| (0#64)))), (4, .int (nI i)), (0, .ref mo), (1, .int (bI b))]) hx hb dX4_piecesOf_43 rfl hl (by decide) rfl (fun ls hl => ?_)
        refine ni_iinc (lv' := [(4, .int (nI (i + 1))), (2, .long (bL (r ||| (0#64)))), (0, .ref mo), (1, .int (bI b))]) hx hb i 1 dX4_piecesOf_44 hl (k := 1) rfl (by decide) (by decide) rfl (fun ls hl => ?_)
        refine lv_goto (tgt := 10) hx hb dX4_piecesOf_47 (by decide) ?_
        exact ih (r ||| (0#64), i + 1) ⟨by first | omega | (dsimp only <;> omega), by rw [hres]; simp [mSetL, c_14, Nat.not_le.mpr c_14, Nat.le_of_lt c_14, c_31]⟩ ls (lv_sub hl [0,1,2,3] rfl)
      · skip
        refine lb_const hx hb 1#64 dX4_piecesOf_34 rfl ?_
        refine lv_iload hx hb dX4_piecesOf_35 (lv_at hl 0 rfl) ?_
        refine lb_shl hx hb i (by omega) dX4_piecesOf_37 ?_
        refine lv_goto (tgt := 42) hx hb dX4_piecesOf_38 (by decide) ?_
        refine lb_or hx hb dX4_piecesOf_42 ?_
        refine lv_lstore_n (lv' := [(2, .long (bL (r ||| ((1#64) <<< i)))), (4, .int (nI i)), (0, .ref mo), (1, .int (bI b))]) hx hb dX4_piecesOf_43 rfl hl (by decide) rfl (fun ls hl => ?_)
        refine ni_iinc (lv' := [(4, .int (nI (i + 1))), (2, .long (bL (r ||| ((1#64) <<< i)))), (0, .ref mo), (1, .int (bI b))]) hx hb i 1 dX4_piecesOf_44 hl (k := 1) rfl (by decide) (by decide) rfl (fun ls hl => ?_)
        refine lv_goto (tgt := 10) hx hb dX4_piecesOf_47 (by decide) ?_
        exact ih (r ||| ((1#64) <<< i), i + 1) ⟨by first | omega | (dsimp only <;> omega), by rw [hres]; simp [mSetL, c_14, Nat.not_le.mpr c_14, Nat.le_of_lt c_14, c_31]⟩ ls (lv_sub hl [0,1,2,3] rfl)
set_option maxHeartbeats 4000000 in
set_option maxRecDepth 100000 in
theorem met_X4_kingSquare (l : Launch) {D : va_G} {cI cJ : ClassId} {M : MP} {A : Nat → Prop} {sz : Nat} (mo ro no fi se t3 le od th ac oc : Nat) (su : Bool) (b : Bool) (f : Nat → Int32) (hmo : M mo = some (.inr (3, [.int (nI th), .int (bI su), .ref ro, .int (nI ac), .int (nI oc), .ref no, .ref fi, .ref se, .ref t3, .ref le, .ref od]))) (hno : M no = some (eI cI 146 f)) (hA_mo : A mo) : Wr l yX4_kingSquare cX4_kingSquare 2 (some .int) 2 0 0 D cI cJ [.ref mo, .int (bI b)] M sz A (some (.int (oI (mKing f (sdN b))))) (fun M' => M' = mu M mo (.inr (3, [.int (nI 0), .int (bI su), .ref ro, .int (nI ac), .int (nI oc), .ref no, .ref fi, .ref se, .ref t3, .ref le, .ref od]))) := by
  refine wr_start (by decide) (Nat.le_of_ble_eq_true rfl) ?_
  intro p e s m args below meth c hx hb hr hml hown hts hlk hini hK hsz H hH0 hM hS ls hl
  clear hH0
  have hl : lv_has ls 2 [(0, .ref mo), (1, .int (bI b))] := hl
  refine lv_aload_n hx hb dX4_kingSquare_0 rfl (lv_at hl 0 rfl) ?_
  refine lv_iconst (v := nI 0) hx hb dX4_kingSquare_1 (by decide) ?_
  refine w_put (C := RX4) (T := TX4) (N := 11) (ci := 3) hx hb hts hown hK hM hS inX4 rfl tyX4 tyX4_ok nmX4 0 (by decide) qw_4_84 rfl rfl hmo hA_mo rfl rfl (Nat.le_of_ble_eq_true rfl) dX4_kingSquare_2 (fun H locs hM hS => ?_)
  replace hM : HM D (mu M mo (.inr (3, [.int (nI 0), .int (bI su), .ref ro, .int (nI ac), .int (nI oc), .ref no, .ref fi, .ref se, .ref t3, .ref le, .ref od]))) H := hM
  refine lv_aload_n hx hb dX4_kingSquare_5 rfl (lv_at hl 0 rfl) ?_
  refine w_get (C := RX4) (T := TX4) (N := 11) (ci := 3) hx hb hts hown hK hM inX4 rfl 5 (by decide) qw_4_89 rfl mu_s rfl dX4_kingSquare_6 ?_
  refine lv_iload_n hx hb dX4_kingSquare_9 rfl (lv_at hl 1 rfl) ?_
  refine rd_goI (rd_runS (As := [.int (bI b)]) (rest := [.ref no]) hx hb hml hown hts hK hM okS_RX4_170_X4_side (met_X4_side l b) rfl ⟨Nat.le_of_ble_eq_true rfl, Nat.le_of_ble_eq_true rfl⟩ hl.1 rfl (Nat.le_of_ble_eq_true rfl) dX4_kingSquare_10 ⟨Nat.le_refl _, Nat.le_refl _⟩) ?_
  refine rd_goI (rd_runS (As := [.ref no, .int (nI (sdN b))]) (rest := []) hx hb hml hown hts hK hM okS_RX4_82_X4_king (met_X4_king l no (sdN b) f (mu_g (ne_io hno hmo) hno)) rfl ⟨Nat.le_of_ble_eq_true rfl, Nat.le_of_ble_eq_true rfl⟩ hl.1 rfl (Nat.le_of_ble_eq_true rfl) dX4_kingSquare_13 ⟨Nat.le_refl _, Nat.le_refl _⟩) ?_
  exact wr_ireturn hx hb hr hlk hM hS (Nat.le_refl _) (Nat.le_refl _) rfl rfl dX4_kingSquare_16
set_option maxHeartbeats 4000000 in
set_option maxRecDepth 100000 in
theorem met_X4_bondOf_b (l : Launch) {D : va_G} {cI cJ : ClassId} {M : MP} {A : Nat → Prop} {sz : Nat} (mo ro no fi se t3 le od th ac oc : Nat) (su : Bool) (x : Int32) (hmo : M mo = some (.inr (3, [.int (nI th), .int (bI su), .ref ro, .int (nI ac), .int (nI oc), .ref no, .ref fi, .ref se, .ref t3, .ref le, .ref od]))) (hbx : mIsSq x = false) (hA_mo : A mo) : Wr l yX4_bondOf cX4_bondOf 2 (some .int) 1 0 0 D cI cJ [.ref mo, .int x] M sz A (some (.int (nI 0))) (fun M' => M' = mu M mo (.inr (3, [.int (nI 1), .int (bI su), .ref ro, .int (nI ac), .int (nI oc), .ref no, .ref fi, .ref se, .ref t3, .ref le, .ref od]))) := by
  refine wr_start (by decide) (Nat.le_of_ble_eq_true rfl) ?_
  intro p e s m args below meth c hx hb hr hml hown hts hlk hini hK hsz H hH0 hM hS ls hl
  clear hH0
  have hl : lv_has ls 2 [(0, .ref mo), (1, .int x)] := hl
  refine lv_aload_n hx hb dX4_bondOf_0 rfl (lv_at hl 0 rfl) ?_
  refine lv_iload_n hx hb dX4_bondOf_1 rfl (lv_at hl 1 rfl) ?_
  refine rd_goI (rd_runS (As := [.int x]) (rest := [.ref mo]) hx hb hml hown hts hK hM okS_RX4_160_X4_isSquare (met_X4_isSquare l x) rfl ⟨Nat.le_of_ble_eq_true rfl, Nat.le_of_ble_eq_true rfl⟩ hl.1 rfl (Nat.le_of_ble_eq_true rfl) dX4_bondOf_2 ⟨Nat.le_refl _, Nat.le_refl _⟩) ?_
  refine topi (bI false) (by rw [hbx]) ?_
  refine wr_go0 (wr_runV (As := [.int (bI false)]) (rest := []) hx hb hml hown hts hK hM okV_RX4_163_X4_isGood (met_X4_isGood l mo ro no fi se t3 le od th ac oc su false hmo hA_mo) hmo rfl rfl rfl ⟨Nat.le_of_ble_eq_true rfl, Nat.le_of_ble_eq_true rfl⟩ hl.1 rfl (Nat.le_of_ble_eq_true rfl) dX4_bondOf_5 ⟨Nat.le_refl _, Nat.le_refl _⟩) hS (fun M1 H locs hR hM hS => ?_)
  obtain rfl := hR
  refine zb_eq (tgt := 23) hx hb false dX4_bondOf_8 (by decide) (fun _ => ?_) (fun h => absurd (h.symm.trans (rfl : false = false)) (by decide))
  refine lv_iconst (v := nI 0) hx hb dX4_bondOf_23 (by decide) ?_
  exact wr_ireturn hx hb hr hlk hM hS (Nat.le_refl _) (Nat.le_refl _) rfl (by rw [show nI 1 = nI (gN false) from rfl]) dX4_bondOf_24
set_option maxHeartbeats 4000000 in
set_option maxRecDepth 100000 in
theorem met_X4_bondOf (l : Launch) {D : va_G} {cI cJ : ClassId} {M : MP} {A : Nat → Prop} {sz : Nat} (mo ro no fi se t3 le od th ac oc : Nat) (su : Bool) (j : Nat) (f : Nat → Int32) (hmo : M mo = some (.inr (3, [.int (nI th), .int (bI su), .ref ro, .int (nI ac), .int (nI oc), .ref no, .ref fi, .ref se, .ref t3, .ref le, .ref od]))) (hno : M no = some (eI cI 146 f)) (hj : j < 64) (hA_mo : A mo) : Wr l yX4_bondOf cX4_bondOf 2 (some .int) 1 0 0 D cI cJ [.ref mo, .int (nI j)] M sz A (some (.int (f (64 + j)))) (fun M' => M' = mu M mo (.inr (3, [.int (nI 0), .int (bI su), .ref ro, .int (nI ac), .int (nI oc), .ref no, .ref fi, .ref se, .ref t3, .ref le, .ref od]))) := by
  refine wr_start (by decide) (Nat.le_of_ble_eq_true rfl) ?_
  intro p e s m args below meth c hx hb hr hml hown hts hlk hini hK hsz H hH0 hM hS ls hl
  clear hH0
  have hl : lv_has ls 2 [(0, .ref mo), (1, .int (nI j))] := hl
  refine lv_aload_n hx hb dX4_bondOf_0 rfl (lv_at hl 0 rfl) ?_
  refine lv_iload_n hx hb dX4_bondOf_1 rfl (lv_at hl 1 rfl) ?_
  refine rd_goI (rd_runS (As := [.int (nI j)]) (rest := [.ref mo]) hx hb hml hown hts hK hM okS_RX4_160_X4_isSquare (met_X4_isSquare l (nI j)) rfl ⟨Nat.le_of_ble_eq_true rfl, Nat.le_of_ble_eq_true rfl⟩ hl.1 rfl (Nat.le_of_ble_eq_true rfl) dX4_bondOf_2 ⟨Nat.le_refl _, Nat.le_refl _⟩) ?_
  refine topi (bI true) (by rw [mIsSq_n hj]) ?_
  refine wr_go0 (wr_runV (As := [.int (bI true)]) (rest := []) hx hb hml hown hts hK hM okV_RX4_163_X4_isGood (met_X4_isGood l mo ro no fi se t3 le od th ac oc su true hmo hA_mo) hmo rfl rfl rfl ⟨Nat.le_of_ble_eq_true rfl, Nat.le_of_ble_eq_true rfl⟩ hl.1 rfl (Nat.le_of_ble_eq_true rfl) dX4_bondOf_5 ⟨Nat.le_refl _, Nat.le_refl _⟩) hS (fun M1 H locs hR hM hS => ?_)
  obtain rfl := hR
  refine zb_eq (tgt := 23) hx hb true dX4_bondOf_8 (by decide) (fun h => absurd (h.symm.trans (rfl : true = true)) (by decide)) (fun _ => ?_)
  refine lv_aload_n hx hb dX4_bondOf_11 rfl (lv_at hl 0 rfl) ?_
  refine w_get (C := RX4) (T := TX4) (N := 11) (ci := 3) hx hb hts hown hK hM inX4 rfl 5 (by decide) qw_4_89 rfl mu_s rfl dX4_bondOf_12 ?_
  refine lv_bipush (v := nI 64) hx hb dX4_bondOf_15 (by decide) ?_
  refine lv_iload_n hx hb dX4_bondOf_17 rfl (lv_at hl 1 rfl) ?_
  refine ni_add hx hb 64 j dX4_bondOf_18 ?_
  refine w_iald hx hb hK hM (mu_g (ne_io hno hmo) hno) (64 + j) (by omega) (by decide) dX4_bondOf_19 ?_
  refine lv_goto (tgt := 24) hx hb dX4_bondOf_20 (by decide) ?_
  exact wr_ireturn hx hb hr hlk hM hS (Nat.le_refl _) (Nat.le_refl _) rfl (by rw [show nI 0 = nI (gN true) from rfl]) dX4_bondOf_24
set_option maxHeartbeats 4000000 in
set_option maxRecDepth 100000 in
theorem met_X4_bondCount (l : Launch) {D : va_G} {cI cJ : ClassId} {M : MP} {A : Nat → Prop} {sz : Nat} (mo ro no fi se t3 le od th ac oc : Nat) (su : Bool) (b : Bool) (f : Nat → Int32) (hmo : M mo = some (.inr (3, [.int (nI th), .int (bI su), .ref ro, .int (nI ac), .int (nI oc), .ref no, .ref fi, .ref se, .ref t3, .ref le, .ref od]))) (hno : M no = some (eI cI 146 f)) (hA_mo : A mo) : Wr l yX4_bondCount cX4_bondCount 4 (some .int) 1 0 0 D cI cJ [.ref mo, .int (bI b)] M sz A (some (.int (nI (mBonds f (sdN b))))) (fun M' => M' = mu M mo (.inr (3, [.int (nI 0), .int (bI su), .ref ro, .int (nI ac), .int (nI oc), .ref no, .ref fi, .ref se, .ref t3, .ref le, .ref od]))) := by
  refine wr_start (by decide) (Nat.le_of_ble_eq_true rfl) ?_
  intro p e s m args below meth c hx hb hr hml hown hts hlk hini hK hsz H hH0 hM hS ls hl
  clear hH0
  have hl : lv_has ls 4 [(0, .ref mo), (1, .int (bI b))] := hl
  have hsd1 := sdN_le b
  refine lv_aload_n hx hb dX4_bondCount_0 rfl (lv_at hl 0 rfl) ?_
  refine lv_iconst (v := nI 0) hx hb dX4_bondCount_1 (by decide) ?_
  refine w_put (C := RX4) (T := TX4) (N := 11) (ci := 3) hx hb hts hown hK hM hS inX4 rfl tyX4 tyX4_ok nmX4 0 (by decide) qw_4_84 rfl rfl hmo hA_mo rfl rfl (Nat.le_of_ble_eq_true rfl) dX4_bondCount_2 (fun H locs hM hS => ?_)
  replace hM : HM D (mu M mo (.inr (3, [.int (nI 0), .int (bI su), .ref ro, .int (nI ac), .int (nI oc), .ref no, .ref fi, .ref se, .ref t3, .ref le, .ref od]))) H := hM
  refine lv_iconst (v := nI 0) hx hb dX4_bondCount_5 (by decide) ?_
  refine lv_istore_n (lv' := [(2, .int (nI 0)), (0, .ref mo), (1, .int (bI b))]) hx hb dX4_bondCount_6 rfl hl (by decide) rfl (fun ls hl => ?_)
  refine lv_iconst (v := nI 0) hx hb dX4_bondCount_7 (by decide) ?_
  refine lv_istore_n (lv' := [(3, .int (nI 0)), (2, .int (nI 0)), (0, .ref mo), (1, .int (bI b))]) hx hb dX4_bondCount_8 rfl hl (by decide) rfl (fun ls hl => ?_)
  refine loopR (pcH := 9) (st := []) (ι := Nat × Nat) (fun ξ => [(3, .int (nI (ξ.2))), (2, .int (nI (ξ.1))), (0, .ref mo), (1, .int (bI b))]) (fun n ξ => (ξ.2) + n = 64 ∧ mBonds f (sdN b) = mCntL (fun j => mIsOf f j (sdN b) && !decide (f (64 + j) ≤ nI j)) n (ξ.2) (ξ.1)) ?_ ?_ 64 (0, 0) (⟨by first | omega | (dsimp only <;> omega), rfl⟩) ls (lv_sub hl [0,1,2,3] rfl)
  · rintro ⟨r, i⟩ ⟨hin, hres⟩ ls hl
    try dsimp only at hl hin hres
    refine lv_iload_n hx hb dX4_bondCount_9 rfl (lv_at hl 0 rfl) ?_
    refine lv_bipush (v := nI 64) hx hb dX4_bondCount_10 (by decide) ?_
    refine ni_ge (tgt := 57) hx hb i 64 (by omega) (by omega) dX4_bondCount_12 (by decide) (fun c_12 => ?_) (fun c_12 => ?_)
    · skip
      refine lv_iload_n hx hb dX4_bondCount_57 rfl (lv_at hl 1 rfl) ?_
      exact wr_ireturn hx hb hr hlk hM hS (Nat.le_refl _) (Nat.le_refl _) (by rw [hres]; simp [mCntL, bI_t, bI_f, c_12, Nat.not_lt.mpr c_12]) rfl dX4_bondCount_58
    · skip
      exfalso; omega
  · rintro n ih ⟨r, i⟩ ⟨hin, hres⟩ ls hl
    try dsimp only at hl hin hres
    refine lv_iload_n hx hb dX4_bondCount_9 rfl (lv_at hl 0 rfl) ?_
    refine lv_bipush (v := nI 64) hx hb dX4_bondCount_10 (by decide) ?_
    refine ni_ge (tgt := 57) hx hb i 64 (by omega) (by omega) dX4_bondCount_12 (by decide) (fun c_12 => ?_) (fun c_12 => ?_)
    · skip
      exfalso; omega
    · skip
      refine lv_iload_n hx hb dX4_bondCount_15 rfl (lv_at hl 1 rfl) ?_
      refine lv_aload_n hx hb dX4_bondCount_16 rfl (lv_at hl 2 rfl) ?_
      refine w_get (C := RX4) (T := TX4) (N := 11) (ci := 3) hx hb hts hown hK hM inX4 rfl 5 (by decide) qw_4_89 rfl mu_s rfl dX4_bondCount_17 ?_
      refine lv_iload_n hx hb dX4_bondCount_20 rfl (lv_at hl 0 rfl) ?_
      refine lv_iload_n hx hb dX4_bondCount_21 rfl (lv_at hl 3 rfl) ?_
      refine rd_goI (rd_runS (As := [.int (bI b)]) (rest := [.int (nI i), .ref no, .int (nI r)]) hx hb hml hown hts hK hM okS_RX4_170_X4_side (met_X4_side l b) rfl ⟨Nat.le_of_ble_eq_true rfl, Nat.le_of_ble_eq_true rfl⟩ hl.1 rfl (Nat.le_of_ble_eq_true rfl) dX4_bondCount_22 ⟨Nat.le_refl _, Nat.le_refl _⟩) ?_
      refine rd_goI (rd_runS (As := [.ref no, .int (nI i), .int (nI (sdN b))]) (rest := [.int (nI r)]) hx hb hml hown hts hK hM okS_RX4_76_X4_isOf (met_X4_isOf l no i (sdN b) f (mu_g (ne_io hno hmo) hno) (by omega) (by omega)) rfl ⟨Nat.le_of_ble_eq_true rfl, Nat.le_of_ble_eq_true rfl⟩ hl.1 rfl (Nat.le_of_ble_eq_true rfl) dX4_bondCount_25 ⟨Nat.le_refl _, Nat.le_refl _⟩) ?_
      refine zb_eq (tgt := 48) hx hb (mIsOf f i (sdN b)) dX4_bondCount_28 (by decide) (fun c_28 => ?_) (fun c_28 => ?_)
      · skip
        refine lv_iconst (v := nI 0) hx hb dX4_bondCount_48 (by decide) ?_
        refine ni_add hx hb r 0 dX4_bondCount_49 ?_
        refine lv_istore_n (lv' := [(2, .int (nI (r + 0))), (3, .int (nI i)), (0, .ref mo), (1, .int (bI b))]) hx hb dX4_bondCount_50 rfl hl (by decide) rfl (fun ls hl => ?_)
        refine ni_iinc (lv' := [(3, .int (nI (i + 1))), (2, .int (nI (r + 0))), (0, .ref mo), (1, .int (bI b))]) hx hb i 1 dX4_bondCount_51 hl (k := 1) rfl (by decide) (by decide) rfl (fun ls hl => ?_)
        refine lv_goto (tgt := 9) hx hb dX4_bondCount_54 (by decide) ?_
        exact ih (r + 0, i + 1) ⟨by first | omega | (dsimp only <;> omega), by rw [hres]; simp [mCntL, c_12, Nat.not_le.mpr c_12, Nat.le_of_lt c_12, c_28]⟩ ls (lv_sub hl [0,1,2,3] rfl)
      · skip
        refine lv_aload_n hx hb dX4_bondCount_31 rfl (lv_at hl 2 rfl) ?_
        refine w_get (C := RX4) (T := TX4) (N := 11) (ci := 3) hx hb hts hown hK hM inX4 rfl 5 (by decide) qw_4_89 rfl mu_s rfl dX4_bondCount_32 ?_
        refine lv_bipush (v := nI 64) hx hb dX4_bondCount_35 (by decide) ?_
        refine lv_iload_n hx hb dX4_bondCount_37 rfl (lv_at hl 0 rfl) ?_
        refine ni_add hx hb 64 i dX4_bondCount_38 ?_
        refine w_iald hx hb hK hM (mu_g (ne_io hno hmo) hno) (64 + i) (by omega) (by decide) dX4_bondCount_39 ?_
        refine lv_iload_n hx hb dX4_bondCount_40 rfl (lv_at hl 0 rfl) ?_
        refine lv_icmp_le (tgt := 48) hx hb dX4_bondCount_41 (by decide) (fun c_41 => ?_) (fun c_41 => ?_)
        · skip
          refine lv_iconst (v := nI 0) hx hb dX4_bondCount_48 (by decide) ?_
          refine ni_add hx hb r 0 dX4_bondCount_49 ?_
          refine lv_istore_n (lv' := [(2, .int (nI (r + 0))), (3, .int (nI i)), (0, .ref mo), (1, .int (bI b))]) hx hb dX4_bondCount_50 rfl hl (by decide) rfl (fun ls hl => ?_)
          refine ni_iinc (lv' := [(3, .int (nI (i + 1))), (2, .int (nI (r + 0))), (0, .ref mo), (1, .int (bI b))]) hx hb i 1 dX4_bondCount_51 hl (k := 1) rfl (by decide) (by decide) rfl (fun ls hl => ?_)
          refine lv_goto (tgt := 9) hx hb dX4_bondCount_54 (by decide) ?_
          exact ih (r + 0, i + 1) ⟨by first | omega | (dsimp only <;> omega), by rw [hres]; simp [mCntL, c_12, Nat.not_le.mpr c_12, Nat.le_of_lt c_12, c_28, c_41]⟩ ls (lv_sub hl [0,1,2,3] rfl)
        · skip
          refine lv_iconst (v := nI 1) hx hb dX4_bondCount_44 (by decide) ?_
          refine lv_goto (tgt := 49) hx hb dX4_bondCount_45 (by decide) ?_
          refine ni_add hx hb r 1 dX4_bondCount_49 ?_
          refine lv_istore_n (lv' := [(2, .int (nI (r + 1))), (3, .int (nI i)), (0, .ref mo), (1, .int (bI b))]) hx hb dX4_bondCount_50 rfl hl (by decide) rfl (fun ls hl => ?_)
          refine ni_iinc (lv' := [(3, .int (nI (i + 1))), (2, .int (nI (r + 1))), (0, .ref mo), (1, .int (bI b))]) hx hb i 1 dX4_bondCount_51 hl (k := 1) rfl (by decide) (by decide) rfl (fun ls hl => ?_)
          refine lv_goto (tgt := 9) hx hb dX4_bondCount_54 (by decide) ?_
          exact ih (r + 1, i + 1) ⟨by first | omega | (dsimp only <;> omega), by rw [hres]; simp [mCntL, c_12, Nat.not_le.mpr c_12, Nat.le_of_lt c_12, c_28, c_41]⟩ ls (lv_sub hl [0,1,2,3] rfl)
set_option maxHeartbeats 4000000 in
set_option maxRecDepth 100000 in
theorem met_X4_longestBond (l : Launch) {D : va_G} {cI cJ : ClassId} {M : MP} {A : Nat → Prop} {sz : Nat} (mo ro no fi se t3 le od th ac oc : Nat) (su : Bool) (b : Bool) (f lf : Nat → Int32) (hmo : M mo = some (.inr (3, [.int (nI th), .int (bI su), .ref ro, .int (nI ac), .int (nI oc), .ref no, .ref fi, .ref se, .ref t3, .ref le, .ref od]))) (hno : M no = some (eI cI 146 f)) (hle : M le = some (eI cI 4096 lf)) (hB : WfB f) (hL : WfL lf) (hA_mo : A mo) : Wr l yX4_longestBond cX4_longestBond 4 (some .int) 1 0 0 D cI cJ [.ref mo, .int (bI b)] M sz A (some (.int (nI (mLong f (sdN b))))) (fun M' => M' = mu M mo (.inr (3, [.int (nI 0), .int (bI su), .ref ro, .int (nI ac), .int (nI oc), .ref no, .ref fi, .ref se, .ref t3, .ref le, .ref od]))) := by
  refine wr_start (by decide) (Nat.le_of_ble_eq_true rfl) ?_
  intro p e s m args below meth c hx hb hr hml hown hts hlk hini hK hsz H hH0 hM hS ls hl
  clear hH0
  have hl : lv_has ls 4 [(0, .ref mo), (1, .int (bI b))] := hl
  have hsd1 := sdN_le b
  refine lv_aload_n hx hb dX4_longestBond_0 rfl (lv_at hl 0 rfl) ?_
  refine lv_iconst (v := nI 0) hx hb dX4_longestBond_1 (by decide) ?_
  refine w_put (C := RX4) (T := TX4) (N := 11) (ci := 3) hx hb hts hown hK hM hS inX4 rfl tyX4 tyX4_ok nmX4 0 (by decide) qw_4_84 rfl rfl hmo hA_mo rfl rfl (Nat.le_of_ble_eq_true rfl) dX4_longestBond_2 (fun H locs hM hS => ?_)
  replace hM : HM D (mu M mo (.inr (3, [.int (nI 0), .int (bI su), .ref ro, .int (nI ac), .int (nI oc), .ref no, .ref fi, .ref se, .ref t3, .ref le, .ref od]))) H := hM
  refine lv_iconst (v := nI 0) hx hb dX4_longestBond_5 (by decide) ?_
  refine lv_istore_n (lv' := [(2, .int (nI 0)), (0, .ref mo), (1, .int (bI b))]) hx hb dX4_longestBond_6 rfl hl (by decide) rfl (fun ls hl => ?_)
  refine lv_iconst (v := nI 0) hx hb dX4_longestBond_7 (by decide) ?_
  refine lv_istore_n (lv' := [(3, .int (nI 0)), (2, .int (nI 0)), (0, .ref mo), (1, .int (bI b))]) hx hb dX4_longestBond_8 rfl hl (by decide) rfl (fun ls hl => ?_)
  refine loopR (pcH := 9) (st := []) (ι := Nat × Nat) (fun ξ => [(3, .int (nI (ξ.2))), (2, .int (nI (ξ.1))), (0, .ref mo), (1, .int (bI b))]) (fun n ξ => (ξ.2) + n = 64 ∧ ((ξ.1) ≤ 6 ∧ mLong f (sdN b) = mFoldL (mLng1 f (sdN b)) n (ξ.2) (ξ.1))) ?_ ?_ 64 (0, 0) (⟨by omega, by omega, rfl⟩) ls (lv_sub hl [0,1,2,3] rfl)
  · rintro ⟨r, i⟩ ⟨hin, hr6, hres⟩ ls hl
    try dsimp only at hl hin hr6 hres
    refine lv_iload_n hx hb dX4_longestBond_9 rfl (lv_at hl 0 rfl) ?_
    refine lv_bipush (v := nI 64) hx hb dX4_longestBond_10 (by decide) ?_
    refine ni_ge (tgt := 68) hx hb i 64 (by omega) (by omega) dX4_longestBond_12 (by decide) (fun c_12 => ?_) (fun c_12 => ?_)
    · skip
      refine lv_iload_n hx hb dX4_longestBond_68 rfl (lv_at hl 1 rfl) ?_
      exact wr_ireturn hx hb hr hlk hM hS (Nat.le_refl _) (Nat.le_refl _) (by rw [hres]; simp [mFoldL, mLng1, bI_t, bI_f, c_12, Nat.not_lt.mpr c_12]) rfl dX4_longestBond_69
    · skip
      exfalso; omega
  · rintro n ih ⟨r, i⟩ ⟨hin, hr6, hres⟩ ls hl
    try dsimp only at hl hin hr6 hres
    refine lv_iload_n hx hb dX4_longestBond_9 rfl (lv_at hl 0 rfl) ?_
    refine lv_bipush (v := nI 64) hx hb dX4_longestBond_10 (by decide) ?_
    refine ni_ge (tgt := 68) hx hb i 64 (by omega) (by omega) dX4_longestBond_12 (by decide) (fun c_12 => ?_) (fun c_12 => ?_)
    · skip
      exfalso; omega
    · skip
      refine lv_aload_n hx hb dX4_longestBond_15 rfl (lv_at hl 2 rfl) ?_
      refine w_get (C := RX4) (T := TX4) (N := 11) (ci := 3) hx hb hts hown hK hM inX4 rfl 5 (by decide) qw_4_89 rfl mu_s rfl dX4_longestBond_16 ?_
      refine lv_iload_n hx hb dX4_longestBond_19 rfl (lv_at hl 0 rfl) ?_
      refine lv_iload_n hx hb dX4_longestBond_20 rfl (lv_at hl 3 rfl) ?_
      refine rd_goI (rd_runS (As := [.int (bI b)]) (rest := [.int (nI i), .ref no]) hx hb hml hown hts hK hM okS_RX4_170_X4_side (met_X4_side l b) rfl ⟨Nat.le_of_ble_eq_true rfl, Nat.le_of_ble_eq_true rfl⟩ hl.1 rfl (Nat.le_of_ble_eq_true rfl) dX4_longestBond_21 ⟨Nat.le_refl _, Nat.le_refl _⟩) ?_
      refine rd_goI (rd_runS (As := [.ref no, .int (nI i), .int (nI (sdN b))]) (rest := []) hx hb hml hown hts hK hM okS_RX4_76_X4_isOf (met_X4_isOf l no i (sdN b) f (mu_g (ne_io hno hmo) hno) (by omega) (by omega)) rfl ⟨Nat.le_of_ble_eq_true rfl, Nat.le_of_ble_eq_true rfl⟩ hl.1 rfl (Nat.le_of_ble_eq_true rfl) dX4_longestBond_24 ⟨Nat.le_refl _, Nat.le_refl _⟩) ?_
      refine zb_eq (tgt := 62) hx hb (mIsOf f i (sdN b)) dX4_longestBond_27 (by decide) (fun c_27 => ?_) (fun c_27 => ?_)
      · skip
        refine ni_iinc (lv' := [(3, .int (nI (i + 1))), (2, .int (nI r)), (0, .ref mo), (1, .int (bI b))]) hx hb i 1 dX4_longestBond_62 hl (k := 0) rfl (by decide) (by decide) rfl (fun ls hl => ?_)
        refine lv_goto (tgt := 9) hx hb dX4_longestBond_65 (by decide) ?_
        exact ih (r, i + 1) ⟨by omega, by first | omega | exact mMax_le hr6 (mHop_le _ _), by rw [hres]; simp [mFoldL, mLng1, c_12, Nat.not_le.mpr c_12, Nat.le_of_lt c_12, c_27]⟩ ls (lv_sub hl [0,1,2,3] rfl)
      · skip
        refine lv_aload_n hx hb dX4_longestBond_30 rfl (lv_at hl 2 rfl) ?_
        refine w_get (C := RX4) (T := TX4) (N := 11) (ci := 3) hx hb hts hown hK hM inX4 rfl 5 (by decide) qw_4_89 rfl mu_s rfl dX4_longestBond_31 ?_
        refine lv_bipush (v := nI 64) hx hb dX4_longestBond_34 (by decide) ?_
        refine lv_iload_n hx hb dX4_longestBond_36 rfl (lv_at hl 0 rfl) ?_
        refine ni_add hx hb 64 i dX4_longestBond_37 ?_
        refine w_iald hx hb hK hM (mu_g (ne_io hno hmo) hno) (64 + i) (by omega) (by decide) dX4_longestBond_38 ?_
        rcases hB i (by omega) with eo | ⟨o, ho, eo⟩
        · refine topi (-1) eo ?_
          refine lv_iconst (v := (-1)) hx hb dX4_longestBond_39 (by decide) ?_
          refine mm_eq (tgt := 62) hx hb (-1) dX4_longestBond_40 (by decide) ?_
          refine ni_iinc (lv' := [(3, .int (nI (i + 1))), (2, .int (nI r)), (0, .ref mo), (1, .int (bI b))]) hx hb i 1 dX4_longestBond_62 hl (k := 0) rfl (by decide) (by decide) rfl (fun ls hl => ?_)
          refine lv_goto (tgt := 9) hx hb dX4_longestBond_65 (by decide) ?_
          exact ih (r, i + 1) ⟨by omega, by first | omega | exact mMax_le hr6 (mHop_le _ _), by rw [hres]; simp [mFoldL, mLng1, c_12, Nat.not_le.mpr c_12, Nat.le_of_lt c_12, c_27, eo]⟩ ls (lv_sub hl [0,1,2,3] rfl)
        · refine topi (nI o) eo ?_
          have hnego := nI_m1 ho
          have hclo := nI_cl ho
          refine lv_iconst (v := (-1)) hx hb dX4_longestBond_39 (by decide) ?_
          refine nm_eq (tgt := 62) hx hb o (by omega) dX4_longestBond_40 (by decide) ?_
          refine lv_iload_n hx hb dX4_longestBond_43 rfl (lv_at hl 1 rfl) ?_
          refine lv_aload_n hx hb dX4_longestBond_44 rfl (lv_at hl 2 rfl) ?_
          refine lv_iload_n hx hb dX4_longestBond_45 rfl (lv_at hl 0 rfl) ?_
          refine lv_aload_n hx hb dX4_longestBond_46 rfl (lv_at hl 2 rfl) ?_
          refine w_get (C := RX4) (T := TX4) (N := 11) (ci := 3) hx hb hts hown hK hM inX4 rfl 5 (by decide) qw_4_89 rfl mu_s rfl dX4_longestBond_47 ?_
          refine lv_bipush (v := nI 64) hx hb dX4_longestBond_50 (by decide) ?_
          refine lv_iload_n hx hb dX4_longestBond_52 rfl (lv_at hl 0 rfl) ?_
          refine ni_add hx hb 64 i dX4_longestBond_53 ?_
          refine w_iald hx hb hK hM (mu_g (ne_io hno hmo) hno) (64 + i) (by omega) (by decide) dX4_longestBond_54 ?_
          refine topi (nI o) eo ?_
          refine rd_goI (rd_runV (As := [.int (nI i), .int (nI o)]) (rest := [.int (nI r)]) hx hb hml hown hts hK hM okV_RX4_92_X4_leapsOf (met_X4_leapsOf l mo ro no fi se t3 le od 0 ac oc su i o lf mu_s (mu_g (ne_io hle hmo) hle) (by omega) (by omega) hL) mu_s rfl rfl rfl ⟨Nat.le_of_ble_eq_true rfl, Nat.le_of_ble_eq_true rfl⟩ hl.1 rfl (Nat.le_of_ble_eq_true rfl) dX4_longestBond_55 ⟨Nat.le_refl _, Nat.le_refl _⟩) ?_
          have hf55_0 := mHop_le i o
          have hhop := mHop_le i o
          refine w_max hx hb hml hl.1 hown hts qw_4_188 r (mHop i o) (by omega) (by omega) (Nat.le_of_ble_eq_true rfl) (Nat.le_of_ble_eq_true rfl) (Nat.le_refl _) (Nat.le_refl _) dX4_longestBond_58 ?_
          refine lv_istore_n (lv' := [(2, .int (nI (mMax r (mHop i o)))), (3, .int (nI i)), (0, .ref mo), (1, .int (bI b))]) hx hb dX4_longestBond_61 rfl hl (by decide) rfl (fun ls hl => ?_)
          refine ni_iinc (lv' := [(3, .int (nI (i + 1))), (2, .int (nI (mMax r (mHop i o)))), (0, .ref mo), (1, .int (bI b))]) hx hb i 1 dX4_longestBond_62 hl (k := 1) rfl (by decide) (by decide) rfl (fun ls hl => ?_)
          refine lv_goto (tgt := 9) hx hb dX4_longestBond_65 (by decide) ?_
          exact ih (mMax r (mHop i o), i + 1) ⟨by omega, by first | omega | exact mMax_le hr6 (mHop_le _ _), by rw [hres]; simp [mFoldL, mLng1, c_12, Nat.not_le.mpr c_12, Nat.le_of_lt c_12, c_27, eo, hnego, hclo]⟩ ls (lv_sub hl [0,1,2,3] rfl)
set_option maxHeartbeats 4000000 in
set_option maxRecDepth 100000 in
theorem met_X4_knightDistance_b (l : Launch) {D : va_G} {cI cJ : ClassId} {M : MP} {A : Nat → Prop} {sz : Nat} (mo ro no fi se t3 le od th ac oc : Nat) (su : Bool) (x y : Int32) (hmo : M mo = some (.inr (3, [.int (nI th), .int (bI su), .ref ro, .int (nI ac), .int (nI oc), .ref no, .ref fi, .ref se, .ref t3, .ref le, .ref od]))) (hbx : (mIsSq x && mIsSq y) = false) (hA_mo : A mo) : Wr l yX4_knightDistance cX4_knightDistance 3 (some .int) 1 0 0 D cI cJ [.ref mo, .int x, .int y] M sz A (some (.int (nI 0))) (fun M' => M' = mu M mo (.inr (3, [.int (nI 1), .int (bI su), .ref ro, .int (nI ac), .int (nI oc), .ref no, .ref fi, .ref se, .ref t3, .ref le, .ref od]))) := by
  refine wr_start (by decide) (Nat.le_of_ble_eq_true rfl) ?_
  intro p e s m args below meth c hx hb hr hml hown hts hlk hini hK hsz H hH0 hM hS ls hl
  clear hH0
  have hl : lv_has ls 3 [(0, .ref mo), (1, .int x), (2, .int y)] := hl
  refine lv_aload_n hx hb dX4_knightDistance_0 rfl (lv_at hl 0 rfl) ?_
  refine lv_iload_n hx hb dX4_knightDistance_1 rfl (lv_at hl 1 rfl) ?_
  refine rd_goI (rd_runS (As := [.int x]) (rest := [.ref mo]) hx hb hml hown hts hK hM okS_RX4_160_X4_isSquare (met_X4_isSquare l x) rfl ⟨Nat.le_of_ble_eq_true rfl, Nat.le_of_ble_eq_true rfl⟩ hl.1 rfl (Nat.le_of_ble_eq_true rfl) dX4_knightDistance_2 ⟨Nat.le_refl _, Nat.le_refl _⟩) ?_
  refine meet (ls := ls) (pcJ := 20) (st := [.int (bI (mIsSq x && mIsSq y)), .ref mo]) ?_ (fun hJ20 => ?_)
  · skip
    refine topi (bI false) (by rw [hbx]) ?_
    refine wr_go0 (wr_runV (As := [.int (bI false)]) (rest := []) hx hb hml hown hts hK hM okV_RX4_163_X4_isGood (met_X4_isGood l mo ro no fi se t3 le od th ac oc su false hmo hA_mo) hmo rfl rfl rfl ⟨Nat.le_of_ble_eq_true rfl, Nat.le_of_ble_eq_true rfl⟩ hl.1 rfl (Nat.le_of_ble_eq_true rfl) dX4_knightDistance_20 ⟨Nat.le_refl _, Nat.le_refl _⟩) hS (fun M1 H locs hR hM hS => ?_)
    obtain rfl := hR
    refine zb_eq (tgt := 35) hx hb false dX4_knightDistance_23 (by decide) (fun _ => ?_) (fun h => absurd (h.symm.trans (rfl : false = false)) (by decide))
    refine lv_iconst (v := nI 0) hx hb dX4_knightDistance_35 (by decide) ?_
    exact wr_ireturn hx hb hr hlk hM hS (Nat.le_refl _) (Nat.le_refl _) rfl (by rw [show nI 1 = nI (gN false) from rfl]) dX4_knightDistance_36
  · skip
    refine zb_eq (tgt := 19) hx hb (mIsSq x) dX4_knightDistance_5 (by decide) (fun c_5 => ?_) (fun c_5 => ?_)
    · skip
      refine lv_iconst (v := nI 0) hx hb dX4_knightDistance_19 (by decide) ?_
      exact topi (bI (mIsSq x && mIsSq y)) (by simp [c_5, bI_t, bI_f]) hJ20
    · skip
      refine lv_iload_n hx hb dX4_knightDistance_8 rfl (lv_at hl 2 rfl) ?_
      refine rd_goI (rd_runS (As := [.int y]) (rest := [.ref mo]) hx hb hml hown hts hK hM okS_RX4_160_X4_isSquare (met_X4_isSquare l y) rfl ⟨Nat.le_of_ble_eq_true rfl, Nat.le_of_ble_eq_true rfl⟩ hl.1 rfl (Nat.le_of_ble_eq_true rfl) dX4_knightDistance_9 ⟨Nat.le_refl _, Nat.le_refl _⟩) ?_
      refine zb_eq (tgt := 19) hx hb (mIsSq y) dX4_knightDistance_12 (by decide) (fun c_12 => ?_) (fun c_12 => ?_)
      · skip
        refine lv_iconst (v := nI 0) hx hb dX4_knightDistance_19 (by decide) ?_
        exact topi (bI (mIsSq x && mIsSq y)) (by simp [c_5, c_12, bI_t, bI_f]) hJ20
      · skip
        refine lv_iconst (v := nI 1) hx hb dX4_knightDistance_15 (by decide) ?_
        refine lv_goto (tgt := 20) hx hb dX4_knightDistance_16 (by decide) ?_
        exact topi (bI (mIsSq x && mIsSq y)) (by simp [c_5, c_12, bI_t, bI_f]) hJ20
set_option maxHeartbeats 4000000 in
set_option maxRecDepth 100000 in
theorem met_X4_knightDistance (l : Launch) {D : va_G} {cI cJ : ClassId} {M : MP} {A : Nat → Prop} {sz : Nat} (mo ro no fi se t3 le od th ac oc : Nat) (su : Bool) (j k : Nat) (lf : Nat → Int32) (hmo : M mo = some (.inr (3, [.int (nI th), .int (bI su), .ref ro, .int (nI ac), .int (nI oc), .ref no, .ref fi, .ref se, .ref t3, .ref le, .ref od]))) (hle : M le = some (eI cI 4096 lf)) (hj : j < 64) (hk : k < 64) (hL : WfL lf) (hA_mo : A mo) : Wr l yX4_knightDistance cX4_knightDistance 3 (some .int) 1 0 0 D cI cJ [.ref mo, .int (nI j), .int (nI k)] M sz A (some (.int (nI (mHop j k)))) (fun M' => M' = mu M mo (.inr (3, [.int (nI 0), .int (bI su), .ref ro, .int (nI ac), .int (nI oc), .ref no, .ref fi, .ref se, .ref t3, .ref le, .ref od]))) := by
  refine wr_start (by decide) (Nat.le_of_ble_eq_true rfl) ?_
  intro p e s m args below meth c hx hb hr hml hown hts hlk hini hK hsz H hH0 hM hS ls hl
  clear hH0
  have hl : lv_has ls 3 [(0, .ref mo), (1, .int (nI j)), (2, .int (nI k))] := hl
  refine lv_aload_n hx hb dX4_knightDistance_0 rfl (lv_at hl 0 rfl) ?_
  refine lv_iload_n hx hb dX4_knightDistance_1 rfl (lv_at hl 1 rfl) ?_
  refine rd_goI (rd_runS (As := [.int (nI j)]) (rest := [.ref mo]) hx hb hml hown hts hK hM okS_RX4_160_X4_isSquare (met_X4_isSquare l (nI j)) rfl ⟨Nat.le_of_ble_eq_true rfl, Nat.le_of_ble_eq_true rfl⟩ hl.1 rfl (Nat.le_of_ble_eq_true rfl) dX4_knightDistance_2 ⟨Nat.le_refl _, Nat.le_refl _⟩) ?_
  refine topi (bI true) (by rw [mIsSq_n hj]) ?_
  refine zb_eq (tgt := 19) hx hb true dX4_knightDistance_5 (by decide) (fun h => absurd (h.symm.trans (rfl : true = true)) (by decide)) (fun _ => ?_)
  refine lv_iload_n hx hb dX4_knightDistance_8 rfl (lv_at hl 2 rfl) ?_
  refine rd_goI (rd_runS (As := [.int (nI k)]) (rest := [.ref mo]) hx hb hml hown hts hK hM okS_RX4_160_X4_isSquare (met_X4_isSquare l (nI k)) rfl ⟨Nat.le_of_ble_eq_true rfl, Nat.le_of_ble_eq_true rfl⟩ hl.1 rfl (Nat.le_of_ble_eq_true rfl) dX4_knightDistance_9 ⟨Nat.le_refl _, Nat.le_refl _⟩) ?_
  refine topi (bI true) (by rw [mIsSq_n hk]) ?_
  refine zb_eq (tgt := 19) hx hb true dX4_knightDistance_12 (by decide) (fun h => absurd (h.symm.trans (rfl : true = true)) (by decide)) (fun _ => ?_)
  refine lv_iconst (v := nI 1) hx hb dX4_knightDistance_15 (by decide) ?_
  refine lv_goto (tgt := 20) hx hb dX4_knightDistance_16 (by decide) ?_
  refine topi (bI true) rfl ?_
  refine wr_go0 (wr_runV (As := [.int (bI true)]) (rest := []) hx hb hml hown hts hK hM okV_RX4_163_X4_isGood (met_X4_isGood l mo ro no fi se t3 le od th ac oc su true hmo hA_mo) hmo rfl rfl rfl ⟨Nat.le_of_ble_eq_true rfl, Nat.le_of_ble_eq_true rfl⟩ hl.1 rfl (Nat.le_of_ble_eq_true rfl) dX4_knightDistance_20 ⟨Nat.le_refl _, Nat.le_refl _⟩) hS (fun M1 H locs hR hM hS => ?_)
  obtain rfl := hR
  refine zb_eq (tgt := 35) hx hb true dX4_knightDistance_23 (by decide) (fun h => absurd (h.symm.trans (rfl : true = true)) (by decide)) (fun _ => ?_)
  refine lv_aload_n hx hb dX4_knightDistance_26 rfl (lv_at hl 0 rfl) ?_
  refine lv_iload_n hx hb dX4_knightDistance_27 rfl (lv_at hl 1 rfl) ?_
  refine lv_iload_n hx hb dX4_knightDistance_28 rfl (lv_at hl 2 rfl) ?_
  refine rd_goI (rd_runV (As := [.int (nI j), .int (nI k)]) (rest := []) hx hb hml hown hts hK hM okV_RX4_92_X4_leapsOf (met_X4_leapsOf l mo ro no fi se t3 le od (gN true) ac oc su j k lf mu_s (mu_g (ne_io hle hmo) hle) (by omega) (by omega) hL) mu_s rfl rfl rfl ⟨Nat.le_of_ble_eq_true rfl, Nat.le_of_ble_eq_true rfl⟩ hl.1 rfl (Nat.le_of_ble_eq_true rfl) dX4_knightDistance_29 ⟨Nat.le_refl _, Nat.le_refl _⟩) ?_
  have hf29_0 := mHop_le j k
  refine lv_goto (tgt := 36) hx hb dX4_knightDistance_32 (by decide) ?_
  exact wr_ireturn hx hb hr hlk hM hS (Nat.le_refl _) (Nat.le_refl _) rfl (by rw [show nI 0 = nI (gN true) from rfl]) dX4_knightDistance_36
set_option maxHeartbeats 4000000 in
set_option maxRecDepth 100000 in
theorem met_X4_attackers_b (l : Launch) {D : va_G} {cI cJ : ClassId} {M : MP} {A : Nat → Prop} {sz : Nat} (mo ro no fi se t3 le od th ac oc : Nat) (su : Bool) (x : Int32) (b : Bool) (hmo : M mo = some (.inr (3, [.int (nI th), .int (bI su), .ref ro, .int (nI ac), .int (nI oc), .ref no, .ref fi, .ref se, .ref t3, .ref le, .ref od]))) (hbx : mIsSq x = false) (hA_mo : A mo) : Wr l yX4_attackers cX4_attackers 6 (some .long) 3 0 0 D cI cJ [.ref mo, .int x, .int (bI b)] M sz A (some (.long (bL (0#64)))) (fun M' => M' = mu M mo (.inr (3, [.int (nI 1), .int (bI su), .ref ro, .int (nI ac), .int (nI oc), .ref no, .ref fi, .ref se, .ref t3, .ref le, .ref od]))) := by
  refine wr_start (by decide) (Nat.le_of_ble_eq_true rfl) ?_
  intro p e s m args below meth c hx hb hr hml hown hts hlk hini hK hsz H hH0 hM hS ls hl
  clear hH0
  have hl : lv_has ls 6 [(0, .ref mo), (1, .int x), (2, .int (bI b))] := hl
  refine lv_aload_n hx hb dX4_attackers_0 rfl (lv_at hl 0 rfl) ?_
  refine lv_iload_n hx hb dX4_attackers_1 rfl (lv_at hl 1 rfl) ?_
  refine rd_goI (rd_runS (As := [.int x]) (rest := [.ref mo]) hx hb hml hown hts hK hM okS_RX4_160_X4_isSquare (met_X4_isSquare l x) rfl ⟨Nat.le_of_ble_eq_true rfl, Nat.le_of_ble_eq_true rfl⟩ hl.1 rfl (Nat.le_of_ble_eq_true rfl) dX4_attackers_2 ⟨Nat.le_refl _, Nat.le_refl _⟩) ?_
  refine topi (bI false) (by rw [hbx]) ?_
  refine wr_go0 (wr_runV (As := [.int (bI false)]) (rest := []) hx hb hml hown hts hK hM okV_RX4_163_X4_isGood (met_X4_isGood l mo ro no fi se t3 le od th ac oc su false hmo hA_mo) hmo rfl rfl rfl ⟨Nat.le_of_ble_eq_true rfl, Nat.le_of_ble_eq_true rfl⟩ hl.1 rfl (Nat.le_of_ble_eq_true rfl) dX4_attackers_5 ⟨Nat.le_refl _, Nat.le_refl _⟩) hS (fun M1 H locs hR hM hS => ?_)
  obtain rfl := hR
  refine zb_ne (tgt := 13) hx hb false dX4_attackers_8 (by decide) (fun h => absurd (h.symm.trans (rfl : false = false)) (by decide)) (fun _ => ?_)
  refine lb_const hx hb 0#64 dX4_attackers_11 rfl ?_
  exact wr_lreturn hx hb hr hlk hM hS (Nat.le_refl _) (Nat.le_refl _) rfl (by rw [show nI 1 = nI (gN false) from rfl]) dX4_attackers_12
set_option maxHeartbeats 4000000 in
set_option maxRecDepth 100000 in
theorem met_X4_attackers (l : Launch) {D : va_G} {cI cJ : ClassId} {M : MP} {A : Nat → Prop} {sz : Nat} (mo ro no fi se t3 le od th ac oc : Nat) (su : Bool) (j : Nat) (b : Bool) (f : Nat → Int32) (hmo : M mo = some (.inr (3, [.int (nI th), .int (bI su), .ref ro, .int (nI ac), .int (nI oc), .ref no, .ref fi, .ref se, .ref t3, .ref le, .ref od]))) (hno : M no = some (eI cI 146 f)) (hj : j < 64) (hA_mo : A mo) : Wr l yX4_attackers cX4_attackers 6 (some .long) 3 0 0 D cI cJ [.ref mo, .int (nI j), .int (bI b)] M sz A (some (.long (bL (mAtts f j (sdN b))))) (fun M' => M' = mu M mo (.inr (3, [.int (nI 0), .int (bI su), .ref ro, .int (nI ac), .int (nI oc), .ref no, .ref fi, .ref se, .ref t3, .ref le, .ref od]))) := by
  refine wr_start (by decide) (Nat.le_of_ble_eq_true rfl) ?_
  intro p e s m args below meth c hx hb hr hml hown hts hlk hini hK hsz H hH0 hM hS ls hl
  clear hH0
  have hl : lv_has ls 6 [(0, .ref mo), (1, .int (nI j)), (2, .int (bI b))] := hl
  have hsd1 := sdN_le b
  refine lv_aload_n hx hb dX4_attackers_0 rfl (lv_at hl 0 rfl) ?_
  refine lv_iload_n hx hb dX4_attackers_1 rfl (lv_at hl 1 rfl) ?_
  refine rd_goI (rd_runS (As := [.int (nI j)]) (rest := [.ref mo]) hx hb hml hown hts hK hM okS_RX4_160_X4_isSquare (met_X4_isSquare l (nI j)) rfl ⟨Nat.le_of_ble_eq_true rfl, Nat.le_of_ble_eq_true rfl⟩ hl.1 rfl (Nat.le_of_ble_eq_true rfl) dX4_attackers_2 ⟨Nat.le_refl _, Nat.le_refl _⟩) ?_
  refine topi (bI true) (by rw [mIsSq_n hj]) ?_
  refine wr_go0 (wr_runV (As := [.int (bI true)]) (rest := []) hx hb hml hown hts hK hM okV_RX4_163_X4_isGood (met_X4_isGood l mo ro no fi se t3 le od th ac oc su true hmo hA_mo) hmo rfl rfl rfl ⟨Nat.le_of_ble_eq_true rfl, Nat.le_of_ble_eq_true rfl⟩ hl.1 rfl (Nat.le_of_ble_eq_true rfl) dX4_attackers_5 ⟨Nat.le_refl _, Nat.le_refl _⟩) hS (fun M1 H locs hR hM hS => ?_)
  obtain rfl := hR
  refine zb_ne (tgt := 13) hx hb true dX4_attackers_8 (by decide) (fun _ => ?_) (fun h => absurd (h.symm.trans (rfl : true = true)) (by decide))
  refine lb_const hx hb 0#64 dX4_attackers_13 rfl ?_
  refine lv_lstore_n (lv' := [(3, .long (bL (0#64))), (0, .ref mo), (1, .int (nI j)), (2, .int (bI b))]) hx hb dX4_attackers_14 rfl hl (by decide) rfl (fun ls hl => ?_)
  refine lv_iconst (v := nI 0) hx hb dX4_attackers_15 (by decide) ?_
  refine lv_istore (lv' := [(5, .int (nI 0)), (3, .long (bL (0#64))), (0, .ref mo), (1, .int (nI j)), (2, .int (bI b))]) hx hb dX4_attackers_16 hl (by decide) rfl (fun ls hl => ?_)
  refine loopR (pcH := 18) (st := []) (ι := BitVec 64 × Nat) (fun ξ => [(5, .int (nI (ξ.2))), (3, .long (bL (ξ.1))), (0, .ref mo), (1, .int (nI j)), (2, .int (bI b))]) (fun n ξ => (ξ.2) + n = 64 ∧ mAtts f j (sdN b) = mSetL (fun a => mIsOf f a (sdN b) && mAtt f a j) n (ξ.2) (ξ.1)) ?_ ?_ 64 (0#64, 0) (⟨by first | omega | (dsimp only <;> omega), rfl⟩) ls (lv_sub hl [0,1,2,3,4] rfl)
  · rintro ⟨r, i⟩ ⟨hin, hres⟩ ls hl
    try dsimp only at hl hin hres
    refine lv_iload hx hb dX4_attackers_18 (lv_at hl 0 rfl) ?_
    refine lv_bipush (v := nI 64) hx hb dX4_attackers_20 (by decide) ?_
    refine ni_ge (tgt := 71) hx hb i 64 (by omega) (by omega) dX4_attackers_22 (by decide) (fun c_22 => ?_) (fun c_22 => ?_)
    · skip
      refine lv_lload_n hx hb dX4_attackers_71 rfl (lv_at hl 1 rfl) ?_
      exact wr_lreturn hx hb hr hlk hM hS (Nat.le_refl _) (Nat.le_refl _) (by rw [hres]; simp [mSetL, bI_t, bI_f, c_22, Nat.not_lt.mpr c_22]) (by rw [show nI 0 = nI (gN true) from rfl]) dX4_attackers_72
    · skip
      exfalso; omega
  · rintro n ih ⟨r, i⟩ ⟨hin, hres⟩ ls hl
    try dsimp only at hl hin hres
    refine lv_iload hx hb dX4_attackers_18 (lv_at hl 0 rfl) ?_
    refine lv_bipush (v := nI 64) hx hb dX4_attackers_20 (by decide) ?_
    refine ni_ge (tgt := 71) hx hb i 64 (by omega) (by omega) dX4_attackers_22 (by decide) (fun c_22 => ?_) (fun c_22 => ?_)
    · skip
      exfalso; omega
    · skip
      refine lv_lload_n hx hb dX4_attackers_25 rfl (lv_at hl 1 rfl) ?_
      refine lv_aload_n hx hb dX4_attackers_26 rfl (lv_at hl 2 rfl) ?_
      refine w_get (C := RX4) (T := TX4) (N := 11) (ci := 3) hx hb hts hown hK hM inX4 rfl 5 (by decide) qw_4_89 rfl mu_s rfl dX4_attackers_27 ?_
      refine lv_iload hx hb dX4_attackers_30 (lv_at hl 0 rfl) ?_
      refine lv_iload_n hx hb dX4_attackers_32 rfl (lv_at hl 4 rfl) ?_
      refine rd_goI (rd_runS (As := [.int (bI b)]) (rest := [.int (nI i), .ref no, .long (bL r)]) hx hb hml hown hts hK hM okS_RX4_170_X4_side (met_X4_side l b) rfl ⟨Nat.le_of_ble_eq_true rfl, Nat.le_of_ble_eq_true rfl⟩ hl.1 rfl (Nat.le_of_ble_eq_true rfl) dX4_attackers_33 ⟨Nat.le_refl _, Nat.le_refl _⟩) ?_
      refine rd_goI (rd_runS (As := [.ref no, .int (nI i), .int (nI (sdN b))]) (rest := [.long (bL r)]) hx hb hml hown hts hK hM okS_RX4_76_X4_isOf (met_X4_isOf l no i (sdN b) f (mu_g (ne_io hno hmo) hno) (by omega) (by omega)) rfl ⟨Nat.le_of_ble_eq_true rfl, Nat.le_of_ble_eq_true rfl⟩ hl.1 rfl (Nat.le_of_ble_eq_true rfl) dX4_attackers_36 ⟨Nat.le_refl _, Nat.le_refl _⟩) ?_
      refine zb_eq (tgt := 62) hx hb (mIsOf f i (sdN b)) dX4_attackers_39 (by decide) (fun c_39 => ?_) (fun c_39 => ?_)
      · skip
        refine lb_const hx hb 0#64 dX4_attackers_62 rfl ?_
        refine lb_or hx hb dX4_attackers_63 ?_
        refine lv_lstore_n (lv' := [(3, .long (bL (r ||| (0#64)))), (5, .int (nI i)), (0, .ref mo), (1, .int (nI j)), (2, .int (bI b))]) hx hb dX4_attackers_64 rfl hl (by decide) rfl (fun ls hl => ?_)
        refine ni_iinc (lv' := [(5, .int (nI (i + 1))), (3, .long (bL (r ||| (0#64)))), (0, .ref mo), (1, .int (nI j)), (2, .int (bI b))]) hx hb i 1 dX4_attackers_65 hl (k := 1) rfl (by decide) (by decide) rfl (fun ls hl => ?_)
        refine lv_goto (tgt := 18) hx hb dX4_attackers_68 (by decide) ?_
        exact ih (r ||| (0#64), i + 1) ⟨by first | omega | (dsimp only <;> omega), by rw [hres]; simp [mSetL, c_22, Nat.not_le.mpr c_22, Nat.le_of_lt c_22, c_39]⟩ ls (lv_sub hl [0,1,2,3,4] rfl)
      · skip
        refine lv_aload_n hx hb dX4_attackers_42 rfl (lv_at hl 2 rfl) ?_
        refine w_get (C := RX4) (T := TX4) (N := 11) (ci := 3) hx hb hts hown hK hM inX4 rfl 5 (by decide) qw_4_89 rfl mu_s rfl dX4_attackers_43 ?_
        refine lv_iload hx hb dX4_attackers_46 (lv_at hl 0 rfl) ?_
        refine lv_iload_n hx hb dX4_attackers_48 rfl (lv_at hl 3 rfl) ?_
        refine rd_goI (rd_runS (As := [.ref no, .int (nI i), .int (nI j)]) (rest := [.long (bL r)]) hx hb hml hown hts hK hM okS_RX4_79_X4_attacks (met_X4_attacks l no i j f (mu_g (ne_io hno hmo) hno) (by omega) (by omega)) rfl ⟨Nat.le_of_ble_eq_true rfl, Nat.le_of_ble_eq_true rfl⟩ hl.1 rfl (Nat.le_of_ble_eq_true rfl) dX4_attackers_49 ⟨Nat.le_refl _, Nat.le_refl _⟩) ?_
        refine zb_eq (tgt := 62) hx hb (mAtt f i j) dX4_attackers_52 (by decide) (fun c_52 => ?_) (fun c_52 => ?_)
        · skip
          refine lb_const hx hb 0#64 dX4_attackers_62 rfl ?_
          refine lb_or hx hb dX4_attackers_63 ?_
          refine lv_lstore_n (lv' := [(3, .long (bL (r ||| (0#64)))), (5, .int (nI i)), (0, .ref mo), (1, .int (nI j)), (2, .int (bI b))]) hx hb dX4_attackers_64 rfl hl (by decide) rfl (fun ls hl => ?_)
          refine ni_iinc (lv' := [(5, .int (nI (i + 1))), (3, .long (bL (r ||| (0#64)))), (0, .ref mo), (1, .int (nI j)), (2, .int (bI b))]) hx hb i 1 dX4_attackers_65 hl (k := 1) rfl (by decide) (by decide) rfl (fun ls hl => ?_)
          refine lv_goto (tgt := 18) hx hb dX4_attackers_68 (by decide) ?_
          exact ih (r ||| (0#64), i + 1) ⟨by first | omega | (dsimp only <;> omega), by rw [hres]; simp [mSetL, c_22, Nat.not_le.mpr c_22, Nat.le_of_lt c_22, c_39, c_52]⟩ ls (lv_sub hl [0,1,2,3,4] rfl)
        · skip
          refine lb_const hx hb 1#64 dX4_attackers_55 rfl ?_
          refine lv_iload hx hb dX4_attackers_56 (lv_at hl 0 rfl) ?_
          refine lb_shl hx hb i (by omega) dX4_attackers_58 ?_
          refine lv_goto (tgt := 63) hx hb dX4_attackers_59 (by decide) ?_
          refine lb_or hx hb dX4_attackers_63 ?_
          refine lv_lstore_n (lv' := [(3, .long (bL (r ||| ((1#64) <<< i)))), (5, .int (nI i)), (0, .ref mo), (1, .int (nI j)), (2, .int (bI b))]) hx hb dX4_attackers_64 rfl hl (by decide) rfl (fun ls hl => ?_)
          refine ni_iinc (lv' := [(5, .int (nI (i + 1))), (3, .long (bL (r ||| ((1#64) <<< i)))), (0, .ref mo), (1, .int (nI j)), (2, .int (bI b))]) hx hb i 1 dX4_attackers_65 hl (k := 1) rfl (by decide) (by decide) rfl (fun ls hl => ?_)
          refine lv_goto (tgt := 18) hx hb dX4_attackers_68 (by decide) ?_
          exact ih (r ||| ((1#64) <<< i), i + 1) ⟨by first | omega | (dsimp only <;> omega), by rw [hres]; simp [mSetL, c_22, Nat.not_le.mpr c_22, Nat.le_of_lt c_22, c_39, c_52]⟩ ls (lv_sub hl [0,1,2,3,4] rfl)
set_option maxHeartbeats 4000000 in
set_option maxRecDepth 100000 in
theorem met_X4_attackedSquares (l : Launch) {D : va_G} {cI cJ : ClassId} {M : MP} {A : Nat → Prop} {sz : Nat} (mo ro no fi se t3 le od th ac oc : Nat) (su : Bool) (b : Bool) (f : Nat → Int32) (hmo : M mo = some (.inr (3, [.int (nI th), .int (bI su), .ref ro, .int (nI ac), .int (nI oc), .ref no, .ref fi, .ref se, .ref t3, .ref le, .ref od]))) (hno : M no = some (eI cI 146 f)) (hA_mo : A mo) : Wr l yX4_attackedSquares cX4_attackedSquares 2 (some .long) 5 0 0 D cI cJ [.ref mo, .int (bI b)] M sz A (some (.long (bL (mAttSet f (sdN b))))) (fun M' => M' = mu M mo (.inr (3, [.int (nI 0), .int (bI su), .ref ro, .int (nI ac), .int (nI oc), .ref no, .ref fi, .ref se, .ref t3, .ref le, .ref od]))) := by
  refine wr_start (by decide) (Nat.le_of_ble_eq_true rfl) ?_
  intro p e s m args below meth c hx hb hr hml hown hts hlk hini hK hsz H hH0 hM hS ls hl
  clear hH0
  have hl : lv_has ls 2 [(0, .ref mo), (1, .int (bI b))] := hl
  have hsd1 := sdN_le b
  refine lv_aload_n hx hb dX4_attackedSquares_0 rfl (lv_at hl 0 rfl) ?_
  refine lv_iconst (v := nI 0) hx hb dX4_attackedSquares_1 (by decide) ?_
  refine w_put (C := RX4) (T := TX4) (N := 11) (ci := 3) hx hb hts hown hK hM hS inX4 rfl tyX4 tyX4_ok nmX4 0 (by decide) qw_4_84 rfl rfl hmo hA_mo rfl rfl (Nat.le_of_ble_eq_true rfl) dX4_attackedSquares_2 (fun H locs hM hS => ?_)
  replace hM : HM D (mu M mo (.inr (3, [.int (nI 0), .int (bI su), .ref ro, .int (nI ac), .int (nI oc), .ref no, .ref fi, .ref se, .ref t3, .ref le, .ref od]))) H := hM
  refine lv_aload_n hx hb dX4_attackedSquares_5 rfl (lv_at hl 0 rfl) ?_
  refine lv_iload_n hx hb dX4_attackedSquares_6 rfl (lv_at hl 1 rfl) ?_
  refine rd_goI (rd_runS (As := [.int (bI b)]) (rest := [.ref mo]) hx hb hml hown hts hK hM okS_RX4_170_X4_side (met_X4_side l b) rfl ⟨Nat.le_of_ble_eq_true rfl, Nat.le_of_ble_eq_true rfl⟩ hl.1 rfl (Nat.le_of_ble_eq_true rfl) dX4_attackedSquares_7 ⟨Nat.le_refl _, Nat.le_refl _⟩) ?_
  refine rd_goL (rd_runV (As := [.int (nI (sdN b))]) (rest := []) hx hb hml hown hts hK hM okV_RX4_179_X4_attacked (met_X4_attacked l mo ro no fi se t3 le od 0 ac oc su (sdN b) f mu_s (mu_g (ne_io hno hmo) hno) (by omega)) mu_s rfl rfl rfl ⟨Nat.le_of_ble_eq_true rfl, Nat.le_of_ble_eq_true rfl⟩ hl.1 rfl (Nat.le_of_ble_eq_true rfl) dX4_attackedSquares_10 ⟨Nat.le_refl _, Nat.le_refl _⟩) ?_
  exact wr_lreturn hx hb hr hlk hM hS (Nat.le_refl _) (Nat.le_refl _) rfl rfl dX4_attackedSquares_13
set_option maxHeartbeats 4000000 in
set_option maxRecDepth 100000 in
theorem met_X4_isInCheck (l : Launch) {D : va_G} {cI cJ : ClassId} {M : MP} {A : Nat → Prop} {sz : Nat} (mo ro no fi se t3 le od th ac oc : Nat) (su : Bool) (b : Bool) (f : Nat → Int32) (hmo : M mo = some (.inr (3, [.int (nI th), .int (bI su), .ref ro, .int (nI ac), .int (nI oc), .ref no, .ref fi, .ref se, .ref t3, .ref le, .ref od]))) (hno : M no = some (eI cI 146 f)) (hA_mo : A mo) : Wr l yX4_isInCheck cX4_isInCheck 2 (some .boolean) 5 0 0 D cI cJ [.ref mo, .int (bI b)] M sz A (some (.int (bI (mInCheck f (sdN b))))) (fun M' => M' = mu M mo (.inr (3, [.int (nI 0), .int (bI su), .ref ro, .int (nI ac), .int (nI oc), .ref no, .ref fi, .ref se, .ref t3, .ref le, .ref od]))) := by
  refine wr_start (by decide) (Nat.le_of_ble_eq_true rfl) ?_
  intro p e s m args below meth c hx hb hr hml hown hts hlk hini hK hsz H hH0 hM hS ls hl
  clear hH0
  have hl : lv_has ls 2 [(0, .ref mo), (1, .int (bI b))] := hl
  have hsd1 := sdN_le b
  refine lv_aload_n hx hb dX4_isInCheck_0 rfl (lv_at hl 0 rfl) ?_
  refine lv_iconst (v := nI 0) hx hb dX4_isInCheck_1 (by decide) ?_
  refine w_put (C := RX4) (T := TX4) (N := 11) (ci := 3) hx hb hts hown hK hM hS inX4 rfl tyX4 tyX4_ok nmX4 0 (by decide) qw_4_84 rfl rfl hmo hA_mo rfl rfl (Nat.le_of_ble_eq_true rfl) dX4_isInCheck_2 (fun H locs hM hS => ?_)
  replace hM : HM D (mu M mo (.inr (3, [.int (nI 0), .int (bI su), .ref ro, .int (nI ac), .int (nI oc), .ref no, .ref fi, .ref se, .ref t3, .ref le, .ref od]))) H := hM
  refine lv_aload_n hx hb dX4_isInCheck_5 rfl (lv_at hl 0 rfl) ?_
  refine w_get (C := RX4) (T := TX4) (N := 11) (ci := 3) hx hb hts hown hK hM inX4 rfl 5 (by decide) qw_4_89 rfl mu_s rfl dX4_isInCheck_6 ?_
  refine lv_iload_n hx hb dX4_isInCheck_9 rfl (lv_at hl 1 rfl) ?_
  refine rd_goI (rd_runS (As := [.int (bI b)]) (rest := [.ref no]) hx hb hml hown hts hK hM okS_RX4_170_X4_side (met_X4_side l b) rfl ⟨Nat.le_of_ble_eq_true rfl, Nat.le_of_ble_eq_true rfl⟩ hl.1 rfl (Nat.le_of_ble_eq_true rfl) dX4_isInCheck_10 ⟨Nat.le_refl _, Nat.le_refl _⟩) ?_
  refine rd_goI (rd_runS (As := [.ref no, .int (nI (sdN b))]) (rest := []) hx hb hml hown hts hK hM okS_RX4_106_X4_inCheck (met_X4_inCheck l no (sdN b) f (mu_g (ne_io hno hmo) hno) (by omega)) rfl ⟨Nat.le_of_ble_eq_true rfl, Nat.le_of_ble_eq_true rfl⟩ hl.1 rfl (Nat.le_of_ble_eq_true rfl) dX4_isInCheck_13 ⟨Nat.le_refl _, Nat.le_refl _⟩) ?_
  exact wr_zreturn hx hb hr hlk hM hS (Nat.le_refl _) (Nat.le_refl _) rfl rfl dX4_isInCheck_16
set_option maxHeartbeats 4000000 in
set_option maxRecDepth 100000 in
theorem met_X4_legalMoves_b (l : Launch) {D : va_G} {cI cJ : ClassId} {M : MP} {A : Nat → Prop} {sz : Nat} (mo ro no fi se t3 le od th ac oc : Nat) (su : Bool) (x : Int32) (hmo : M mo = some (.inr (3, [.int (nI th), .int (bI su), .ref ro, .int (nI ac), .int (nI oc), .ref no, .ref fi, .ref se, .ref t3, .ref le, .ref od]))) (hbx : mIsSq x = false) (hA_mo : A mo) : Wr l yX4_legalMoves cX4_legalMoves 5 (some .long) 6 0 0 D cI cJ [.ref mo, .int x] M sz A (some (.long (bL (0#64)))) (fun M' => M' = mu M mo (.inr (3, [.int (nI 1), .int (bI su), .ref ro, .int (nI ac), .int (nI oc), .ref no, .ref fi, .ref se, .ref t3, .ref le, .ref od]))) := by
  refine wr_start (by decide) (Nat.le_of_ble_eq_true rfl) ?_
  intro p e s m args below meth c hx hb hr hml hown hts hlk hini hK hsz H hH0 hM hS ls hl
  clear hH0
  have hl : lv_has ls 5 [(0, .ref mo), (1, .int x)] := hl
  refine lv_aload_n hx hb dX4_legalMoves_0 rfl (lv_at hl 0 rfl) ?_
  refine lv_iload_n hx hb dX4_legalMoves_1 rfl (lv_at hl 1 rfl) ?_
  refine rd_goI (rd_runS (As := [.int x]) (rest := [.ref mo]) hx hb hml hown hts hK hM okS_RX4_160_X4_isSquare (met_X4_isSquare l x) rfl ⟨Nat.le_of_ble_eq_true rfl, Nat.le_of_ble_eq_true rfl⟩ hl.1 rfl (Nat.le_of_ble_eq_true rfl) dX4_legalMoves_2 ⟨Nat.le_refl _, Nat.le_refl _⟩) ?_
  refine topi (bI false) (by rw [hbx]) ?_
  refine wr_go0 (wr_runV (As := [.int (bI false)]) (rest := []) hx hb hml hown hts hK hM okV_RX4_163_X4_isGood (met_X4_isGood l mo ro no fi se t3 le od th ac oc su false hmo hA_mo) hmo rfl rfl rfl ⟨Nat.le_of_ble_eq_true rfl, Nat.le_of_ble_eq_true rfl⟩ hl.1 rfl (Nat.le_of_ble_eq_true rfl) dX4_legalMoves_5 ⟨Nat.le_refl _, Nat.le_refl _⟩) hS (fun M1 H locs hR hM hS => ?_)
  obtain rfl := hR
  refine zb_ne (tgt := 13) hx hb false dX4_legalMoves_8 (by decide) (fun h => absurd (h.symm.trans (rfl : false = false)) (by decide)) (fun _ => ?_)
  refine lb_const hx hb 0#64 dX4_legalMoves_11 rfl ?_
  exact wr_lreturn hx hb hr hlk hM hS (Nat.le_refl _) (Nat.le_refl _) rfl (by rw [show nI 1 = nI (gN false) from rfl]) dX4_legalMoves_12
set_option maxHeartbeats 4000000 in
set_option maxRecDepth 100000 in
theorem met_X4_legalMoves_n (l : Launch) {D : va_G} {cI cJ : ClassId} {M : MP} {A : Nat → Prop} {sz : Nat} (mo ro no fi se t3 le od th ac oc : Nat) (su : Bool) (j : Nat) (hmo : M mo = some (.inr (3, [.int (nI th), .int (bI su), .ref ro, .int (nI ac), .int (nI oc), .ref no, .ref fi, .ref se, .ref t3, .ref le, .ref od]))) (hj : j < 64) (hoc : oc < 2 ^ 31) (hpl : mPl su oc = false) (hA_mo : A mo) : Wr l yX4_legalMoves cX4_legalMoves 5 (some .long) 6 0 0 D cI cJ [.ref mo, .int (nI j)] M sz A (some (.long (bL (0#64)))) (fun M' => M' = mu M mo (.inr (3, [.int (nI 0), .int (bI su), .ref ro, .int (nI ac), .int (nI oc), .ref no, .ref fi, .ref se, .ref t3, .ref le, .ref od]))) := by
  refine wr_start (by decide) (Nat.le_of_ble_eq_true rfl) ?_
  intro p e s m args below meth c hx hb hr hml hown hts hlk hini hK hsz H hH0 hM hS ls hl
  clear hH0
  have hl : lv_has ls 5 [(0, .ref mo), (1, .int (nI j))] := hl
  refine lv_aload_n hx hb dX4_legalMoves_0 rfl (lv_at hl 0 rfl) ?_
  refine lv_iload_n hx hb dX4_legalMoves_1 rfl (lv_at hl 1 rfl) ?_
  refine rd_goI (rd_runS (As := [.int (nI j)]) (rest := [.ref mo]) hx hb hml hown hts hK hM okS_RX4_160_X4_isSquare (met_X4_isSquare l (nI j)) rfl ⟨Nat.le_of_ble_eq_true rfl, Nat.le_of_ble_eq_true rfl⟩ hl.1 rfl (Nat.le_of_ble_eq_true rfl) dX4_legalMoves_2 ⟨Nat.le_refl _, Nat.le_refl _⟩) ?_
  refine topi (bI true) (by rw [mIsSq_n hj]) ?_
  refine wr_go0 (wr_runV (As := [.int (bI true)]) (rest := []) hx hb hml hown hts hK hM okV_RX4_163_X4_isGood (met_X4_isGood l mo ro no fi se t3 le od th ac oc su true hmo hA_mo) hmo rfl rfl rfl ⟨Nat.le_of_ble_eq_true rfl, Nat.le_of_ble_eq_true rfl⟩ hl.1 rfl (Nat.le_of_ble_eq_true rfl) dX4_legalMoves_5 ⟨Nat.le_refl _, Nat.le_refl _⟩) hS (fun M1 H locs hR hM hS => ?_)
  obtain rfl := hR
  refine zb_ne (tgt := 13) hx hb true dX4_legalMoves_8 (by decide) (fun _ => ?_) (fun h => absurd (h.symm.trans (rfl : true = true)) (by decide))
  refine lb_const hx hb 0#64 dX4_legalMoves_13 rfl ?_
  refine lv_lstore_n (lv' := [(2, .long (bL (0#64))), (0, .ref mo), (1, .int (nI j))]) hx hb dX4_legalMoves_14 rfl hl (by decide) rfl (fun ls hl => ?_)
  refine lv_iconst (v := nI 0) hx hb dX4_legalMoves_15 (by decide) ?_
  refine lv_istore (lv' := [(4, .int (nI 0)), (2, .long (bL (0#64))), (0, .ref mo), (1, .int (nI j))]) hx hb dX4_legalMoves_16 hl (by decide) rfl (fun ls hl => ?_)
  refine loopR (pcH := 18) (st := []) (ι := BitVec 64 × Nat) (fun ξ => [(4, .int (nI (ξ.2))), (2, .long (bL (ξ.1))), (0, .ref mo), (1, .int (nI j))]) (fun n ξ => (ξ.2) + n = 64 ∧ (ξ.1) = 0#64) ?_ ?_ 64 (0#64, 0) (⟨by first | omega | (dsimp only <;> omega), rfl⟩) ls (lv_sub hl [0,1,2,3] rfl)
  · rintro ⟨r, i⟩ ⟨hin, hres⟩ ls hl
    try dsimp only at hl hin hres
    refine lv_iload hx hb dX4_legalMoves_18 (lv_at hl 0 rfl) ?_
    refine lv_bipush (v := nI 64) hx hb dX4_legalMoves_20 (by decide) ?_
    refine ni_ge (tgt := 67) hx hb i 64 (by omega) (by omega) dX4_legalMoves_22 (by decide) (fun c_22 => ?_) (fun c_22 => ?_)
    · skip
      refine lv_lload_n hx hb dX4_legalMoves_67 rfl (lv_at hl 1 rfl) ?_
      exact wr_lreturn hx hb hr hlk hM hS (Nat.le_refl _) (Nat.le_refl _) (by rw [hres]) (by rw [show nI 0 = nI (gN true) from rfl]) dX4_legalMoves_68
    · skip
      exfalso; omega
  · rintro n ih ⟨r, i⟩ ⟨hin, hres⟩ ls hl
    try dsimp only at hl hin hres
    refine lv_iload hx hb dX4_legalMoves_18 (lv_at hl 0 rfl) ?_
    refine lv_bipush (v := nI 64) hx hb dX4_legalMoves_20 (by decide) ?_
    refine ni_ge (tgt := 67) hx hb i 64 (by omega) (by omega) dX4_legalMoves_22 (by decide) (fun c_22 => ?_) (fun c_22 => ?_)
    · skip
      exfalso; omega
    · skip
      refine lv_aload_n hx hb dX4_legalMoves_25 rfl (lv_at hl 2 rfl) ?_
      refine rd_goI (rd_runV (As := []) (rest := []) hx hb hml hown hts hK hM okV_RX4_183_X4_isPlayed (met_X4_isPlayed l mo ro no fi se t3 le od (gN true) ac oc su mu_s (by omega)) mu_s rfl rfl rfl ⟨Nat.le_of_ble_eq_true rfl, Nat.le_of_ble_eq_true rfl⟩ hl.1 rfl (Nat.le_of_ble_eq_true rfl) dX4_legalMoves_26 ⟨Nat.le_refl _, Nat.le_refl _⟩) ?_
      refine topi (bI false) (by rw [show (!su && decide (oc = 0)) = false from hpl]) ?_
      refine zb_eq (tgt := 67) hx hb false dX4_legalMoves_29 (by decide) (fun _ => ?_) (fun h => absurd (h.symm.trans (rfl : false = false)) (by decide))
      refine lv_lload_n hx hb dX4_legalMoves_67 rfl (lv_at hl 1 rfl) ?_
      exact wr_lreturn hx hb hr hlk hM hS (Nat.le_refl _) (Nat.le_refl _) (by rw [hres]) (by rw [show nI 0 = nI (gN true) from rfl]) dX4_legalMoves_68
set_option maxHeartbeats 4000000 in
set_option maxRecDepth 100000 in
theorem met_X4_legalMoves (l : Launch) {D : va_G} {cI cJ : ClassId} {M : MP} {A : Nat → Prop} {sz : Nat} (mo ro no fi se t3 le od th ac oc : Nat) (su : Bool) (j : Nat) (f g lf : Nat → Int32) (hmo : M mo = some (.inr (3, [.int (nI th), .int (bI su), .ref ro, .int (nI ac), .int (nI oc), .ref no, .ref fi, .ref se, .ref t3, .ref le, .ref od]))) (hno : M no = some (eI cI 146 f)) (hfi : M fi = some (eI cI 146 g)) (hle : M le = some (eI cI 4096 lf)) (hj : j < 64) (hoc : oc < 2 ^ 31) (hpl : mPl su oc = true) (hP : WfP f) (hB : WfB f) (hs : WfS f) (hL : WfL lf) (hnf : no ≠ fi) (hlf : le ≠ fi) (hA_mo : A mo) (hA_fi : A fi) : Wr l yX4_legalMoves cX4_legalMoves 5 (some .long) 6 0 0 D cI cJ [.ref mo, .int (nI j)] M sz A (some (.long (bL (mLegal f j)))) (fun M' => ∃ g1 : Nat → Int32, M' = mu (mu M mo (.inr (3, [.int (nI 0), .int (bI su), .ref ro, .int (nI ac), .int (nI oc), .ref no, .ref fi, .ref se, .ref t3, .ref le, .ref od]))) fi (eI cI 146 g1)) := by
  refine wr_start (by decide) (Nat.le_of_ble_eq_true rfl) ?_
  intro p e s m args below meth c hx hb hr hml hown hts hlk hini hK hsz H hH0 hM hS ls hl
  clear hH0
  have hl : lv_has ls 5 [(0, .ref mo), (1, .int (nI j))] := hl
  refine lv_aload_n hx hb dX4_legalMoves_0 rfl (lv_at hl 0 rfl) ?_
  refine lv_iload_n hx hb dX4_legalMoves_1 rfl (lv_at hl 1 rfl) ?_
  refine rd_goI (rd_runS (As := [.int (nI j)]) (rest := [.ref mo]) hx hb hml hown hts hK hM okS_RX4_160_X4_isSquare (met_X4_isSquare l (nI j)) rfl ⟨Nat.le_of_ble_eq_true rfl, Nat.le_of_ble_eq_true rfl⟩ hl.1 rfl (Nat.le_of_ble_eq_true rfl) dX4_legalMoves_2 ⟨Nat.le_refl _, Nat.le_refl _⟩) ?_
  refine topi (bI true) (by rw [mIsSq_n hj]) ?_
  refine wr_go0 (wr_runV (As := [.int (bI true)]) (rest := []) hx hb hml hown hts hK hM okV_RX4_163_X4_isGood (met_X4_isGood l mo ro no fi se t3 le od th ac oc su true hmo hA_mo) hmo rfl rfl rfl ⟨Nat.le_of_ble_eq_true rfl, Nat.le_of_ble_eq_true rfl⟩ hl.1 rfl (Nat.le_of_ble_eq_true rfl) dX4_legalMoves_5 ⟨Nat.le_refl _, Nat.le_refl _⟩) hS (fun M1 H locs hR hM hS => ?_)
  obtain rfl := hR
  refine zb_ne (tgt := 13) hx hb true dX4_legalMoves_8 (by decide) (fun _ => ?_) (fun h => absurd (h.symm.trans (rfl : true = true)) (by decide))
  refine lb_const hx hb 0#64 dX4_legalMoves_13 rfl ?_
  refine lv_lstore_n (lv' := [(2, .long (bL (0#64))), (0, .ref mo), (1, .int (nI j))]) hx hb dX4_legalMoves_14 rfl hl (by decide) rfl (fun ls hl => ?_)
  refine lv_iconst (v := nI 0) hx hb dX4_legalMoves_15 (by decide) ?_
  refine lv_istore (lv' := [(4, .int (nI 0)), (2, .long (bL (0#64))), (0, .ref mo), (1, .int (nI j))]) hx hb dX4_legalMoves_16 hl (by decide) rfl (fun ls hl => ?_)
  rw [← mu_id (a := fi) (e := eI cI 146 g) (mu_g (ne_io hfi hmo) hfi)] at hM
  refine loopW (pcH := 18) (st := []) (ι := BitVec 64 × Nat × (Nat → Int32)) (fun ξ => mu (mu M mo (.inr (3, [.int (nI (gN true)), .int (bI su), .ref ro, .int (nI ac), .int (nI oc), .ref no, .ref fi, .ref se, .ref t3, .ref le, .ref od]))) fi (eI cI 146 (ξ.2.2))) (fun ξ => [(4, .int (nI (ξ.2.1))), (2, .long (bL (ξ.1))), (0, .ref mo), (1, .int (nI j))]) (fun n ξ => (ξ.2.1) + n = 64 ∧ mLegal f j = mSetL (fun t => decide (mReason f j t = 0)) n (ξ.2.1) (ξ.1)) ?_ ?_ 64 (0#64, 0, g) ⟨by first | omega | (dsimp only <;> omega), rfl⟩ hM hS ls (lv_sub hl [0,1,2,3] rfl)
  · rintro ⟨r, i, ga⟩ ⟨hin, hres⟩ H locs hM hS ls hl
    try dsimp only at hl hin hres hM
    refine lv_iload hx hb dX4_legalMoves_18 (lv_at hl 0 rfl) ?_
    refine lv_bipush (v := nI 64) hx hb dX4_legalMoves_20 (by decide) ?_
    refine ni_ge (tgt := 67) hx hb i 64 (by omega) (by omega) dX4_legalMoves_22 (by decide) (fun c_22 => ?_) (fun c_22 => ?_)
    · skip
      refine lv_lload_n hx hb dX4_legalMoves_67 rfl (lv_at hl 1 rfl) ?_
      exact wr_lreturn hx hb hr hlk hM hS (Nat.le_refl _) (Nat.le_refl _) (by rw [hres]; simp [mSetL, bI_t, bI_f, c_22, Nat.not_lt.mpr c_22]) ⟨ga, (by rw [show nI 0 = nI (gN true) from rfl])⟩ dX4_legalMoves_68
    · skip
      exfalso; omega
  · rintro n ih ⟨r, i, ga⟩ ⟨hin, hres⟩ H locs hM hS ls hl
    try dsimp only at hl hin hres hM
    refine lv_iload hx hb dX4_legalMoves_18 (lv_at hl 0 rfl) ?_
    refine lv_bipush (v := nI 64) hx hb dX4_legalMoves_20 (by decide) ?_
    refine ni_ge (tgt := 67) hx hb i 64 (by omega) (by omega) dX4_legalMoves_22 (by decide) (fun c_22 => ?_) (fun c_22 => ?_)
    · skip
      exfalso; omega
    · skip
      refine lv_aload_n hx hb dX4_legalMoves_25 rfl (lv_at hl 2 rfl) ?_
      refine rd_goI (rd_runV (As := []) (rest := []) hx hb hml hown hts hK hM okV_RX4_183_X4_isPlayed (met_X4_isPlayed l mo ro no fi se t3 le od (gN true) ac oc su (mu_g (ne_oi hmo hfi) mu_s) (by omega)) (mu_g (ne_oi hmo hfi) mu_s) rfl rfl rfl ⟨Nat.le_of_ble_eq_true rfl, Nat.le_of_ble_eq_true rfl⟩ hl.1 rfl (Nat.le_of_ble_eq_true rfl) dX4_legalMoves_26 ⟨Nat.le_refl _, Nat.le_refl _⟩) ?_
      refine topi (bI true) (by rw [show (!su && decide (oc = 0)) = true from hpl]) ?_
      refine zb_eq (tgt := 67) hx hb true dX4_legalMoves_29 (by decide) (fun h => absurd (h.symm.trans (rfl : true = true)) (by decide)) (fun _ => ?_)
      refine lv_lload_n hx hb dX4_legalMoves_32 rfl (lv_at hl 1 rfl) ?_
      refine lv_aload_n hx hb dX4_legalMoves_33 rfl (lv_at hl 2 rfl) ?_
      refine lv_aload_n hx hb dX4_legalMoves_34 rfl (lv_at hl 2 rfl) ?_
      refine w_get (C := RX4) (T := TX4) (N := 11) (ci := 3) hx hb hts hown hK hM inX4 rfl 5 (by decide) qw_4_89 rfl (mu_g (ne_oi hmo hfi) mu_s) rfl dX4_legalMoves_35 ?_
      refine lv_iload_n hx hb dX4_legalMoves_38 rfl (lv_at hl 3 rfl) ?_
      refine lv_iload hx hb dX4_legalMoves_39 (lv_at hl 0 rfl) ?_
      refine lv_aload_n hx hb dX4_legalMoves_41 rfl (lv_at hl 2 rfl) ?_
      refine w_get (C := RX4) (T := TX4) (N := 11) (ci := 3) hx hb hts hown hK hM inX4 rfl 6 (by decide) qw_4_90 rfl (mu_g (ne_oi hmo hfi) mu_s) rfl dX4_legalMoves_42 ?_
      refine wr_go0 (wr_runV (As := [.ref no, .int (nI j), .int (nI i), .ref fi]) (rest := [.long (bL r)]) hx hb hml hown hts hK hM okV_RX4_113_X4_reason (met_X4_reason l mo ro no fi se t3 le od (gN true) ac oc su no j i fi f ga lf (mu_g (ne_oi hmo hfi) mu_s) (mu_g hlf (mu_g (ne_io hle hmo) hle)) (mu_g hnf (mu_g (ne_io hno hmo) hno)) mu_s (by omega) (by omega) hP hB hs hL hnf hlf hA_fi) (mu_g (ne_oi hmo hfi) mu_s) rfl rfl rfl ⟨Nat.le_of_ble_eq_true rfl, Nat.le_of_ble_eq_true rfl⟩ hl.1 rfl (Nat.le_of_ble_eq_true rfl) dX4_legalMoves_45 ⟨Nat.le_refl _, Nat.le_refl _⟩) hS (fun M1 H locs hR hM hS => ?_)
      obtain rfl := hR
      rw [mu_mu] at hM
      have hf45_0 := mReason_le f j i
      refine n0_ne (tgt := 58) hx hb (mReason f j i) (by omega) dX4_legalMoves_48 (by decide) (fun c_48 => ?_) (fun c_48 => ?_)
      · skip
        refine lb_const hx hb 0#64 dX4_legalMoves_58 rfl ?_
        refine lb_or hx hb dX4_legalMoves_59 ?_
        refine lv_lstore_n (lv' := [(2, .long (bL (r ||| (0#64)))), (4, .int (nI i)), (0, .ref mo), (1, .int (nI j))]) hx hb dX4_legalMoves_60 rfl hl (by decide) rfl (fun ls hl => ?_)
        refine ni_iinc (lv' := [(4, .int (nI (i + 1))), (2, .long (bL (r ||| (0#64)))), (0, .ref mo), (1, .int (nI j))]) hx hb i 1 dX4_legalMoves_61 hl (k := 1) rfl (by decide) (by decide) rfl (fun ls hl => ?_)
        refine lv_goto (tgt := 18) hx hb dX4_legalMoves_64 (by decide) ?_
        exact ih (r ||| (0#64), i + 1, mAft f ga j i) ⟨by first | omega | (dsimp only <;> omega), by rw [hres]; simp [mSetL, c_22, Nat.not_le.mpr c_22, Nat.le_of_lt c_22, c_48]⟩ _ _ hM hS ls (lv_sub hl [0,1,2,3] rfl)
      · skip
        refine lb_const hx hb 1#64 dX4_legalMoves_51 rfl ?_
        refine lv_iload hx hb dX4_legalMoves_52 (lv_at hl 0 rfl) ?_
        refine lb_shl hx hb i (by omega) dX4_legalMoves_54 ?_
        refine lv_goto (tgt := 59) hx hb dX4_legalMoves_55 (by decide) ?_
        refine lb_or hx hb dX4_legalMoves_59 ?_
        refine lv_lstore_n (lv' := [(2, .long (bL (r ||| ((1#64) <<< i)))), (4, .int (nI i)), (0, .ref mo), (1, .int (nI j))]) hx hb dX4_legalMoves_60 rfl hl (by decide) rfl (fun ls hl => ?_)
        refine ni_iinc (lv' := [(4, .int (nI (i + 1))), (2, .long (bL (r ||| ((1#64) <<< i)))), (0, .ref mo), (1, .int (nI j))]) hx hb i 1 dX4_legalMoves_61 hl (k := 1) rfl (by decide) (by decide) rfl (fun ls hl => ?_)
        refine lv_goto (tgt := 18) hx hb dX4_legalMoves_64 (by decide) ?_
        exact ih (r ||| ((1#64) <<< i), i + 1, mAft f ga j i) ⟨by first | omega | (dsimp only <;> omega), by rw [hres]; simp [mSetL, c_22, Nat.not_le.mpr c_22, Nat.le_of_lt c_22, c_48]⟩ _ _ hM hS ls (lv_sub hl [0,1,2,3] rfl)
set_option maxHeartbeats 4000000 in
set_option maxRecDepth 100000 in
theorem met_X4_legalMoveCount_n (l : Launch) {D : va_G} {cI cJ : ClassId} {M : MP} {A : Nat → Prop} {sz : Nat} (mo ro no fi se t3 le od th ac oc : Nat) (su : Bool)  (hmo : M mo = some (.inr (3, [.int (nI th), .int (bI su), .ref ro, .int (nI ac), .int (nI oc), .ref no, .ref fi, .ref se, .ref t3, .ref le, .ref od]))) (hoc : oc < 2 ^ 31) (hpl : mPl su oc = false) (hA_mo : A mo) : Wr l yX4_legalMoveCount cX4_legalMoveCount 1 (some .int) 7 0 0 D cI cJ [.ref mo] M sz A (some (.int (nI 0))) (fun M' => M' = mu M mo (.inr (3, [.int (nI 0), .int (bI su), .ref ro, .int (nI ac), .int (nI oc), .ref no, .ref fi, .ref se, .ref t3, .ref le, .ref od]))) := by
  refine wr_start (by decide) (Nat.le_of_ble_eq_true rfl) ?_
  intro p e s m args below meth c hx hb hr hml hown hts hlk hini hK hsz H hH0 hM hS ls hl
  clear hH0
  have hl : lv_has ls 1 [(0, .ref mo)] := hl
  refine lv_aload_n hx hb dX4_legalMoveCount_0 rfl (lv_at hl 0 rfl) ?_
  refine lv_iconst (v := nI 0) hx hb dX4_legalMoveCount_1 (by decide) ?_
  refine w_put (C := RX4) (T := TX4) (N := 11) (ci := 3) hx hb hts hown hK hM hS inX4 rfl tyX4 tyX4_ok nmX4 0 (by decide) qw_4_84 rfl rfl hmo hA_mo rfl rfl (Nat.le_of_ble_eq_true rfl) dX4_legalMoveCount_2 (fun H locs hM hS => ?_)
  replace hM : HM D (mu M mo (.inr (3, [.int (nI 0), .int (bI su), .ref ro, .int (nI ac), .int (nI oc), .ref no, .ref fi, .ref se, .ref t3, .ref le, .ref od]))) H := hM
  refine lv_aload_n hx hb dX4_legalMoveCount_5 rfl (lv_at hl 0 rfl) ?_
  refine rd_goI (rd_runV (As := []) (rest := []) hx hb hml hown hts hK hM okV_RX4_183_X4_isPlayed (met_X4_isPlayed l mo ro no fi se t3 le od 0 ac oc su mu_s (by omega)) mu_s rfl rfl rfl ⟨Nat.le_of_ble_eq_true rfl, Nat.le_of_ble_eq_true rfl⟩ hl.1 rfl (Nat.le_of_ble_eq_true rfl) dX4_legalMoveCount_6 ⟨Nat.le_refl _, Nat.le_refl _⟩) ?_
  refine topi (bI false) (by rw [show (!su && decide (oc = 0)) = false from hpl]) ?_
  refine zb_eq (tgt := 27) hx hb false dX4_legalMoveCount_9 (by decide) (fun _ => ?_) (fun h => absurd (h.symm.trans (rfl : false = false)) (by decide))
  refine lv_iconst (v := nI 0) hx hb dX4_legalMoveCount_27 (by decide) ?_
  exact wr_ireturn hx hb hr hlk hM hS (Nat.le_refl _) (Nat.le_refl _) rfl rfl dX4_legalMoveCount_28
set_option maxHeartbeats 4000000 in
set_option maxRecDepth 100000 in
theorem met_X4_legalMoveCount (l : Launch) {D : va_G} {cI cJ : ClassId} {M : MP} {A : Nat → Prop} {sz : Nat} (mo ro no fi se t3 le od th ac oc : Nat) (su : Bool) (f g lf : Nat → Int32) (hmo : M mo = some (.inr (3, [.int (nI th), .int (bI su), .ref ro, .int (nI ac), .int (nI oc), .ref no, .ref fi, .ref se, .ref t3, .ref le, .ref od]))) (hno : M no = some (eI cI 146 f)) (hfi : M fi = some (eI cI 146 g)) (hle : M le = some (eI cI 4096 lf)) (hoc : oc < 2 ^ 31) (hpl : mPl su oc = true) (hP : WfP f) (hB : WfB f) (hs : WfS f) (hL : WfL lf) (hnf : no ≠ fi) (hlf : le ≠ fi) (hA_mo : A mo) (hA_fi : A fi) : Wr l yX4_legalMoveCount cX4_legalMoveCount 1 (some .int) 7 0 0 D cI cJ [.ref mo] M sz A (some (.int (nI (mMoves f)))) (fun M' => ∃ g1 : Nat → Int32, M' = mu (mu M mo (.inr (3, [.int (nI 0), .int (bI su), .ref ro, .int (nI ac), .int (nI oc), .ref no, .ref fi, .ref se, .ref t3, .ref le, .ref od]))) fi (eI cI 146 g1)) := by
  refine wr_start (by decide) (Nat.le_of_ble_eq_true rfl) ?_
  intro p e s m args below meth c hx hb hr hml hown hts hlk hini hK hsz H hH0 hM hS ls hl
  clear hH0
  have hl : lv_has ls 1 [(0, .ref mo)] := hl
  refine lv_aload_n hx hb dX4_legalMoveCount_0 rfl (lv_at hl 0 rfl) ?_
  refine lv_iconst (v := nI 0) hx hb dX4_legalMoveCount_1 (by decide) ?_
  refine w_put (C := RX4) (T := TX4) (N := 11) (ci := 3) hx hb hts hown hK hM hS inX4 rfl tyX4 tyX4_ok nmX4 0 (by decide) qw_4_84 rfl rfl hmo hA_mo rfl rfl (Nat.le_of_ble_eq_true rfl) dX4_legalMoveCount_2 (fun H locs hM hS => ?_)
  replace hM : HM D (mu M mo (.inr (3, [.int (nI 0), .int (bI su), .ref ro, .int (nI ac), .int (nI oc), .ref no, .ref fi, .ref se, .ref t3, .ref le, .ref od]))) H := hM
  refine lv_aload_n hx hb dX4_legalMoveCount_5 rfl (lv_at hl 0 rfl) ?_
  refine rd_goI (rd_runV (As := []) (rest := []) hx hb hml hown hts hK hM okV_RX4_183_X4_isPlayed (met_X4_isPlayed l mo ro no fi se t3 le od 0 ac oc su mu_s (by omega)) mu_s rfl rfl rfl ⟨Nat.le_of_ble_eq_true rfl, Nat.le_of_ble_eq_true rfl⟩ hl.1 rfl (Nat.le_of_ble_eq_true rfl) dX4_legalMoveCount_6 ⟨Nat.le_refl _, Nat.le_refl _⟩) ?_
  refine topi (bI true) (by rw [show (!su && decide (oc = 0)) = true from hpl]) ?_
  refine zb_eq (tgt := 27) hx hb true dX4_legalMoveCount_9 (by decide) (fun h => absurd (h.symm.trans (rfl : true = true)) (by decide)) (fun _ => ?_)
  refine lv_aload_n hx hb dX4_legalMoveCount_12 rfl (lv_at hl 0 rfl) ?_
  refine lv_aload_n hx hb dX4_legalMoveCount_13 rfl (lv_at hl 0 rfl) ?_
  refine w_get (C := RX4) (T := TX4) (N := 11) (ci := 3) hx hb hts hown hK hM inX4 rfl 5 (by decide) qw_4_89 rfl mu_s rfl dX4_legalMoveCount_14 ?_
  refine lv_aload_n hx hb dX4_legalMoveCount_17 rfl (lv_at hl 0 rfl) ?_
  refine w_get (C := RX4) (T := TX4) (N := 11) (ci := 3) hx hb hts hown hK hM inX4 rfl 6 (by decide) qw_4_90 rfl mu_s rfl dX4_legalMoveCount_18 ?_
  refine wr_go0 (wr_runV (As := [.ref no, .ref fi]) (rest := []) hx hb hml hown hts hK hM okV_RX4_186_X4_countMoves (met_X4_countMoves l mo ro no fi se t3 le od 0 ac oc su no fi f g lf mu_s (mu_g (ne_io hle hmo) hle) (mu_g (ne_io hno hmo) hno) (mu_g (ne_io hfi hmo) hfi) hP hB hs hL hnf hlf hA_fi) mu_s rfl rfl rfl ⟨Nat.le_of_ble_eq_true rfl, Nat.le_of_ble_eq_true rfl⟩ hl.1 rfl (Nat.le_of_ble_eq_true rfl) dX4_legalMoveCount_21 ⟨Nat.le_refl _, Nat.le_refl _⟩) hS (fun M1 H locs hR hM hS => ?_)
  obtain ⟨g1_21, rfl⟩ := hR
  have hf21_0 := mMoves_le f
  refine lv_goto (tgt := 28) hx hb dX4_legalMoveCount_24 (by decide) ?_
  exact wr_ireturn hx hb hr hlk hM hS (Nat.le_refl _) (Nat.le_refl _) rfl ⟨g1_21, rfl⟩ dX4_legalMoveCount_28
set_option maxHeartbeats 4000000 in
set_option maxRecDepth 100000 in
theorem met_X4_moveRefusal_b (l : Launch) {D : va_G} {cI cJ : ClassId} {M : MP} {A : Nat → Prop} {sz : Nat} (mo ro no fi se t3 le od th ac oc : Nat) (su : Bool) (x y : Int32) (hmo : M mo = some (.inr (3, [.int (nI th), .int (bI su), .ref ro, .int (nI ac), .int (nI oc), .ref no, .ref fi, .ref se, .ref t3, .ref le, .ref od]))) (hbx : (mIsSq x && mIsSq y) = false) (hA_mo : A mo) : Wr l yX4_moveRefusal cX4_moveRefusal 3 (some .int) 6 0 0 D cI cJ [.ref mo, .int x, .int y] M sz A (some (.int (nI 0))) (fun M' => M' = mu M mo (.inr (3, [.int (nI 1), .int (bI su), .ref ro, .int (nI ac), .int (nI oc), .ref no, .ref fi, .ref se, .ref t3, .ref le, .ref od]))) := by
  refine wr_start (by decide) (Nat.le_of_ble_eq_true rfl) ?_
  intro p e s m args below meth c hx hb hr hml hown hts hlk hini hK hsz H hH0 hM hS ls hl
  clear hH0
  have hl : lv_has ls 3 [(0, .ref mo), (1, .int x), (2, .int y)] := hl
  refine lv_aload_n hx hb dX4_moveRefusal_0 rfl (lv_at hl 0 rfl) ?_
  refine lv_iload_n hx hb dX4_moveRefusal_1 rfl (lv_at hl 1 rfl) ?_
  refine lv_iload_n hx hb dX4_moveRefusal_2 rfl (lv_at hl 2 rfl) ?_
  refine wr_go0 (wr_runV (As := [.int x, .int y]) (rest := []) hx hb hml hown hts hK hM okV_RX4_190_X4_areSquares (met_X4_areSquares l mo ro no fi se t3 le od th ac oc su x y hmo hA_mo) hmo rfl rfl rfl ⟨Nat.le_of_ble_eq_true rfl, Nat.le_of_ble_eq_true rfl⟩ hl.1 rfl (Nat.le_of_ble_eq_true rfl) dX4_moveRefusal_3 ⟨Nat.le_refl _, Nat.le_refl _⟩) hS (fun M1 H locs hR hM hS => ?_)
  obtain rfl := hR
  refine topi (bI false) (by rw [hbx]) ?_
  refine zb_ne (tgt := 11) hx hb false dX4_moveRefusal_6 (by decide) (fun h => absurd (h.symm.trans (rfl : false = false)) (by decide)) (fun _ => ?_)
  refine lv_iconst (v := nI 0) hx hb dX4_moveRefusal_9 (by decide) ?_
  exact wr_ireturn hx hb hr hlk hM hS (Nat.le_refl _) (Nat.le_refl _) rfl (by rw [show nI 1 = nI (gN (mIsSq x && mIsSq y)) from (by rw [hbx]; rfl)]) dX4_moveRefusal_10
set_option maxHeartbeats 4000000 in
set_option maxRecDepth 100000 in
theorem met_X4_moveRefusal_n (l : Launch) {D : va_G} {cI cJ : ClassId} {M : MP} {A : Nat → Prop} {sz : Nat} (mo ro no fi se t3 le od th ac oc : Nat) (su : Bool) (j k : Nat) (hmo : M mo = some (.inr (3, [.int (nI th), .int (bI su), .ref ro, .int (nI ac), .int (nI oc), .ref no, .ref fi, .ref se, .ref t3, .ref le, .ref od]))) (hj : j < 64) (hk : k < 64) (hoc : oc < 2 ^ 31) (hpl : mPl su oc = false) (hA_mo : A mo) : Wr l yX4_moveRefusal cX4_moveRefusal 3 (some .int) 6 0 0 D cI cJ [.ref mo, .int (nI j), .int (nI k)] M sz A (some (.int (nI 1))) (fun M' => M' = mu M mo (.inr (3, [.int (nI 0), .int (bI su), .ref ro, .int (nI ac), .int (nI oc), .ref no, .ref fi, .ref se, .ref t3, .ref le, .ref od]))) := by
  refine wr_start (by decide) (Nat.le_of_ble_eq_true rfl) ?_
  intro p e s m args below meth c hx hb hr hml hown hts hlk hini hK hsz H hH0 hM hS ls hl
  clear hH0
  have hl : lv_has ls 3 [(0, .ref mo), (1, .int (nI j)), (2, .int (nI k))] := hl
  refine lv_aload_n hx hb dX4_moveRefusal_0 rfl (lv_at hl 0 rfl) ?_
  refine lv_iload_n hx hb dX4_moveRefusal_1 rfl (lv_at hl 1 rfl) ?_
  refine lv_iload_n hx hb dX4_moveRefusal_2 rfl (lv_at hl 2 rfl) ?_
  refine wr_go0 (wr_runV (As := [.int (nI j), .int (nI k)]) (rest := []) hx hb hml hown hts hK hM okV_RX4_190_X4_areSquares (met_X4_areSquares l mo ro no fi se t3 le od th ac oc su (nI j) (nI k) hmo hA_mo) hmo rfl rfl rfl ⟨Nat.le_of_ble_eq_true rfl, Nat.le_of_ble_eq_true rfl⟩ hl.1 rfl (Nat.le_of_ble_eq_true rfl) dX4_moveRefusal_3 ⟨Nat.le_refl _, Nat.le_refl _⟩) hS (fun M1 H locs hR hM hS => ?_)
  obtain rfl := hR
  refine topi (bI true) (by rw [mIsSq_n hj, mIsSq_n hk]; rfl) ?_
  refine zb_ne (tgt := 11) hx hb true dX4_moveRefusal_6 (by decide) (fun _ => ?_) (fun h => absurd (h.symm.trans (rfl : true = true)) (by decide))
  refine lv_aload_n hx hb dX4_moveRefusal_11 rfl (lv_at hl 0 rfl) ?_
  refine rd_goI (rd_runV (As := []) (rest := []) hx hb hml hown hts hK hM okV_RX4_183_X4_isPlayed (met_X4_isPlayed l mo ro no fi se t3 le od (gN (mIsSq (nI j) && mIsSq (nI k))) ac oc su mu_s (by omega)) mu_s rfl rfl rfl ⟨Nat.le_of_ble_eq_true rfl, Nat.le_of_ble_eq_true rfl⟩ hl.1 rfl (Nat.le_of_ble_eq_true rfl) dX4_moveRefusal_12 ⟨Nat.le_refl _, Nat.le_refl _⟩) ?_
  refine topi (bI false) (by rw [show (!su && decide (oc = 0)) = false from hpl]) ?_
  refine zb_eq (tgt := 35) hx hb false dX4_moveRefusal_15 (by decide) (fun _ => ?_) (fun h => absurd (h.symm.trans (rfl : false = false)) (by decide))
  refine lv_iconst (v := nI 1) hx hb dX4_moveRefusal_35 (by decide) ?_
  exact wr_ireturn hx hb hr hlk hM hS (Nat.le_refl _) (Nat.le_refl _) rfl (by rw [show nI 0 = nI (gN (mIsSq (nI j) && mIsSq (nI k))) from (by rw [mIsSq_n hj, mIsSq_n hk]; rfl)]) dX4_moveRefusal_36
set_option maxHeartbeats 4000000 in
set_option maxRecDepth 100000 in
theorem met_X4_moveRefusal (l : Launch) {D : va_G} {cI cJ : ClassId} {M : MP} {A : Nat → Prop} {sz : Nat} (mo ro no fi se t3 le od th ac oc : Nat) (su : Bool) (j k : Nat) (f g lf : Nat → Int32) (hmo : M mo = some (.inr (3, [.int (nI th), .int (bI su), .ref ro, .int (nI ac), .int (nI oc), .ref no, .ref fi, .ref se, .ref t3, .ref le, .ref od]))) (hno : M no = some (eI cI 146 f)) (hfi : M fi = some (eI cI 146 g)) (hle : M le = some (eI cI 4096 lf)) (hj : j < 64) (hk : k < 64) (hoc : oc < 2 ^ 31) (hpl : mPl su oc = true) (hP : WfP f) (hB : WfB f) (hs : WfS f) (hL : WfL lf) (hnf : no ≠ fi) (hlf : le ≠ fi) (hA_mo : A mo) (hA_fi : A fi) : Wr l yX4_moveRefusal cX4_moveRefusal 3 (some .int) 6 0 0 D cI cJ [.ref mo, .int (nI j), .int (nI k)] M sz A (some (.int (nI (mReason f j k)))) (fun M' => M' = mu (mu M mo (.inr (3, [.int (nI 0), .int (bI su), .ref ro, .int (nI ac), .int (nI oc), .ref no, .ref fi, .ref se, .ref t3, .ref le, .ref od]))) fi (eI cI 146 (mAft f g j k))) := by
  refine wr_start (by decide) (Nat.le_of_ble_eq_true rfl) ?_
  intro p e s m args below meth c hx hb hr hml hown hts hlk hini hK hsz H hH0 hM hS ls hl
  clear hH0
  have hl : lv_has ls 3 [(0, .ref mo), (1, .int (nI j)), (2, .int (nI k))] := hl
  refine lv_aload_n hx hb dX4_moveRefusal_0 rfl (lv_at hl 0 rfl) ?_
  refine lv_iload_n hx hb dX4_moveRefusal_1 rfl (lv_at hl 1 rfl) ?_
  refine lv_iload_n hx hb dX4_moveRefusal_2 rfl (lv_at hl 2 rfl) ?_
  refine wr_go0 (wr_runV (As := [.int (nI j), .int (nI k)]) (rest := []) hx hb hml hown hts hK hM okV_RX4_190_X4_areSquares (met_X4_areSquares l mo ro no fi se t3 le od th ac oc su (nI j) (nI k) hmo hA_mo) hmo rfl rfl rfl ⟨Nat.le_of_ble_eq_true rfl, Nat.le_of_ble_eq_true rfl⟩ hl.1 rfl (Nat.le_of_ble_eq_true rfl) dX4_moveRefusal_3 ⟨Nat.le_refl _, Nat.le_refl _⟩) hS (fun M1 H locs hR hM hS => ?_)
  obtain rfl := hR
  refine topi (bI true) (by rw [mIsSq_n hj, mIsSq_n hk]; rfl) ?_
  refine zb_ne (tgt := 11) hx hb true dX4_moveRefusal_6 (by decide) (fun _ => ?_) (fun h => absurd (h.symm.trans (rfl : true = true)) (by decide))
  refine lv_aload_n hx hb dX4_moveRefusal_11 rfl (lv_at hl 0 rfl) ?_
  refine rd_goI (rd_runV (As := []) (rest := []) hx hb hml hown hts hK hM okV_RX4_183_X4_isPlayed (met_X4_isPlayed l mo ro no fi se t3 le od (gN (mIsSq (nI j) && mIsSq (nI k))) ac oc su mu_s (by omega)) mu_s rfl rfl rfl ⟨Nat.le_of_ble_eq_true rfl, Nat.le_of_ble_eq_true rfl⟩ hl.1 rfl (Nat.le_of_ble_eq_true rfl) dX4_moveRefusal_12 ⟨Nat.le_refl _, Nat.le_refl _⟩) ?_
  refine topi (bI true) (by rw [show (!su && decide (oc = 0)) = true from hpl]) ?_
  refine zb_eq (tgt := 35) hx hb true dX4_moveRefusal_15 (by decide) (fun h => absurd (h.symm.trans (rfl : true = true)) (by decide)) (fun _ => ?_)
  refine lv_aload_n hx hb dX4_moveRefusal_18 rfl (lv_at hl 0 rfl) ?_
  refine lv_aload_n hx hb dX4_moveRefusal_19 rfl (lv_at hl 0 rfl) ?_
  refine w_get (C := RX4) (T := TX4) (N := 11) (ci := 3) hx hb hts hown hK hM inX4 rfl 5 (by decide) qw_4_89 rfl mu_s rfl dX4_moveRefusal_20 ?_
  refine lv_iload_n hx hb dX4_moveRefusal_23 rfl (lv_at hl 1 rfl) ?_
  refine lv_iload_n hx hb dX4_moveRefusal_24 rfl (lv_at hl 2 rfl) ?_
  refine lv_aload_n hx hb dX4_moveRefusal_25 rfl (lv_at hl 0 rfl) ?_
  refine w_get (C := RX4) (T := TX4) (N := 11) (ci := 3) hx hb hts hown hK hM inX4 rfl 6 (by decide) qw_4_90 rfl mu_s rfl dX4_moveRefusal_26 ?_
  refine wr_go0 (wr_runV (As := [.ref no, .int (nI j), .int (nI k), .ref fi]) (rest := []) hx hb hml hown hts hK hM okV_RX4_113_X4_reason (met_X4_reason l mo ro no fi se t3 le od (gN (mIsSq (nI j) && mIsSq (nI k))) ac oc su no j k fi f g lf mu_s (mu_g (ne_io hle hmo) hle) (mu_g (ne_io hno hmo) hno) (mu_g (ne_io hfi hmo) hfi) (by omega) (by omega) hP hB hs hL hnf hlf hA_fi) mu_s rfl rfl rfl ⟨Nat.le_of_ble_eq_true rfl, Nat.le_of_ble_eq_true rfl⟩ hl.1 rfl (Nat.le_of_ble_eq_true rfl) dX4_moveRefusal_29 ⟨Nat.le_refl _, Nat.le_refl _⟩) hS (fun M1 H locs hR hM hS => ?_)
  obtain rfl := hR
  have hf29_0 := mReason_le f j k
  refine lv_goto (tgt := 36) hx hb dX4_moveRefusal_32 (by decide) ?_
  exact wr_ireturn hx hb hr hlk hM hS (Nat.le_refl _) (Nat.le_refl _) rfl (by rw [show nI 0 = nI (gN (mIsSq (nI j) && mIsSq (nI k))) from (by rw [mIsSq_n hj, mIsSq_n hk]; rfl)]) dX4_moveRefusal_36
set_option maxHeartbeats 4000000 in
set_option maxRecDepth 100000 in
theorem met_X4_bondRefusal_b (l : Launch) {D : va_G} {cI cJ : ClassId} {M : MP} {A : Nat → Prop} {sz : Nat} (mo ro no fi se t3 le od th ac oc : Nat) (su : Bool) (x y : Int32) (hmo : M mo = some (.inr (3, [.int (nI th), .int (bI su), .ref ro, .int (nI ac), .int (nI oc), .ref no, .ref fi, .ref se, .ref t3, .ref le, .ref od]))) (hbx : (mIsSq x && mIsSq y) = false) (hA_mo : A mo) : Wr l yX4_bondRefusal cX4_bondRefusal 3 (some .int) 6 0 0 D cI cJ [.ref mo, .int x, .int y] M sz A (some (.int (nI 0))) (fun M' => M' = mu M mo (.inr (3, [.int (nI 1), .int (bI su), .ref ro, .int (nI ac), .int (nI oc), .ref no, .ref fi, .ref se, .ref t3, .ref le, .ref od]))) := by
  refine wr_start (by decide) (Nat.le_of_ble_eq_true rfl) ?_
  intro p e s m args below meth c hx hb hr hml hown hts hlk hini hK hsz H hH0 hM hS ls hl
  clear hH0
  have hl : lv_has ls 3 [(0, .ref mo), (1, .int x), (2, .int y)] := hl
  refine lv_aload_n hx hb dX4_bondRefusal_0 rfl (lv_at hl 0 rfl) ?_
  refine lv_iload_n hx hb dX4_bondRefusal_1 rfl (lv_at hl 1 rfl) ?_
  refine lv_iload_n hx hb dX4_bondRefusal_2 rfl (lv_at hl 2 rfl) ?_
  refine wr_go0 (wr_runV (As := [.int x, .int y]) (rest := []) hx hb hml hown hts hK hM okV_RX4_190_X4_areSquares (met_X4_areSquares l mo ro no fi se t3 le od th ac oc su x y hmo hA_mo) hmo rfl rfl rfl ⟨Nat.le_of_ble_eq_true rfl, Nat.le_of_ble_eq_true rfl⟩ hl.1 rfl (Nat.le_of_ble_eq_true rfl) dX4_bondRefusal_3 ⟨Nat.le_refl _, Nat.le_refl _⟩) hS (fun M1 H locs hR hM hS => ?_)
  obtain rfl := hR
  refine topi (bI false) (by rw [hbx]) ?_
  refine zb_ne (tgt := 11) hx hb false dX4_bondRefusal_6 (by decide) (fun h => absurd (h.symm.trans (rfl : false = false)) (by decide)) (fun _ => ?_)
  refine lv_iconst (v := nI 0) hx hb dX4_bondRefusal_9 (by decide) ?_
  exact wr_ireturn hx hb hr hlk hM hS (Nat.le_refl _) (Nat.le_refl _) rfl (by rw [show nI 1 = nI (gN (mIsSq x && mIsSq y)) from (by rw [hbx]; rfl)]) dX4_bondRefusal_10
set_option maxHeartbeats 4000000 in
set_option maxRecDepth 100000 in
theorem met_X4_bondRefusal_n (l : Launch) {D : va_G} {cI cJ : ClassId} {M : MP} {A : Nat → Prop} {sz : Nat} (mo ro no fi se t3 le od th ac oc : Nat) (su : Bool) (j k : Nat) (hmo : M mo = some (.inr (3, [.int (nI th), .int (bI su), .ref ro, .int (nI ac), .int (nI oc), .ref no, .ref fi, .ref se, .ref t3, .ref le, .ref od]))) (hj : j < 64) (hk : k < 64) (hoc : oc < 2 ^ 31) (hpl : mPl su oc = false) (hA_mo : A mo) : Wr l yX4_bondRefusal cX4_bondRefusal 3 (some .int) 6 0 0 D cI cJ [.ref mo, .int (nI j), .int (nI k)] M sz A (some (.int (nI 1))) (fun M' => M' = mu M mo (.inr (3, [.int (nI 0), .int (bI su), .ref ro, .int (nI ac), .int (nI oc), .ref no, .ref fi, .ref se, .ref t3, .ref le, .ref od]))) := by
  refine wr_start (by decide) (Nat.le_of_ble_eq_true rfl) ?_
  intro p e s m args below meth c hx hb hr hml hown hts hlk hini hK hsz H hH0 hM hS ls hl
  clear hH0
  have hl : lv_has ls 3 [(0, .ref mo), (1, .int (nI j)), (2, .int (nI k))] := hl
  refine lv_aload_n hx hb dX4_bondRefusal_0 rfl (lv_at hl 0 rfl) ?_
  refine lv_iload_n hx hb dX4_bondRefusal_1 rfl (lv_at hl 1 rfl) ?_
  refine lv_iload_n hx hb dX4_bondRefusal_2 rfl (lv_at hl 2 rfl) ?_
  refine wr_go0 (wr_runV (As := [.int (nI j), .int (nI k)]) (rest := []) hx hb hml hown hts hK hM okV_RX4_190_X4_areSquares (met_X4_areSquares l mo ro no fi se t3 le od th ac oc su (nI j) (nI k) hmo hA_mo) hmo rfl rfl rfl ⟨Nat.le_of_ble_eq_true rfl, Nat.le_of_ble_eq_true rfl⟩ hl.1 rfl (Nat.le_of_ble_eq_true rfl) dX4_bondRefusal_3 ⟨Nat.le_refl _, Nat.le_refl _⟩) hS (fun M1 H locs hR hM hS => ?_)
  obtain rfl := hR
  refine topi (bI true) (by rw [mIsSq_n hj, mIsSq_n hk]; rfl) ?_
  refine zb_ne (tgt := 11) hx hb true dX4_bondRefusal_6 (by decide) (fun _ => ?_) (fun h => absurd (h.symm.trans (rfl : true = true)) (by decide))
  refine lv_aload_n hx hb dX4_bondRefusal_11 rfl (lv_at hl 0 rfl) ?_
  refine rd_goI (rd_runV (As := []) (rest := []) hx hb hml hown hts hK hM okV_RX4_183_X4_isPlayed (met_X4_isPlayed l mo ro no fi se t3 le od (gN (mIsSq (nI j) && mIsSq (nI k))) ac oc su mu_s (by omega)) mu_s rfl rfl rfl ⟨Nat.le_of_ble_eq_true rfl, Nat.le_of_ble_eq_true rfl⟩ hl.1 rfl (Nat.le_of_ble_eq_true rfl) dX4_bondRefusal_12 ⟨Nat.le_refl _, Nat.le_refl _⟩) ?_
  refine topi (bI false) (by rw [show (!su && decide (oc = 0)) = false from hpl]) ?_
  refine zb_eq (tgt := 27) hx hb false dX4_bondRefusal_15 (by decide) (fun _ => ?_) (fun h => absurd (h.symm.trans (rfl : false = false)) (by decide))
  refine lv_iconst (v := nI 1) hx hb dX4_bondRefusal_27 (by decide) ?_
  exact wr_ireturn hx hb hr hlk hM hS (Nat.le_refl _) (Nat.le_refl _) rfl (by rw [show nI 0 = nI (gN (mIsSq (nI j) && mIsSq (nI k))) from (by rw [mIsSq_n hj, mIsSq_n hk]; rfl)]) dX4_bondRefusal_28
set_option maxHeartbeats 4000000 in
set_option maxRecDepth 100000 in
theorem met_X4_bondRefusal (l : Launch) {D : va_G} {cI cJ : ClassId} {M : MP} {A : Nat → Prop} {sz : Nat} (mo ro no fi se t3 le od th ac oc : Nat) (su : Bool) (j k : Nat) (f lf : Nat → Int32) (hmo : M mo = some (.inr (3, [.int (nI th), .int (bI su), .ref ro, .int (nI ac), .int (nI oc), .ref no, .ref fi, .ref se, .ref t3, .ref le, .ref od]))) (hno : M no = some (eI cI 146 f)) (hle : M le = some (eI cI 4096 lf)) (hj : j < 64) (hk : k < 64) (hoc : oc < 2 ^ 31) (hpl : mPl su oc = true) (hs : WfS f) (hL : WfL lf) (hA_mo : A mo) : Wr l yX4_bondRefusal cX4_bondRefusal 3 (some .int) 6 0 0 D cI cJ [.ref mo, .int (nI j), .int (nI k)] M sz A (some (.int (nI (mBondR f j k)))) (fun M' => M' = mu M mo (.inr (3, [.int (nI 0), .int (bI su), .ref ro, .int (nI ac), .int (nI oc), .ref no, .ref fi, .ref se, .ref t3, .ref le, .ref od]))) := by
  refine wr_start (by decide) (Nat.le_of_ble_eq_true rfl) ?_
  intro p e s m args below meth c hx hb hr hml hown hts hlk hini hK hsz H hH0 hM hS ls hl
  clear hH0
  have hl : lv_has ls 3 [(0, .ref mo), (1, .int (nI j)), (2, .int (nI k))] := hl
  refine lv_aload_n hx hb dX4_bondRefusal_0 rfl (lv_at hl 0 rfl) ?_
  refine lv_iload_n hx hb dX4_bondRefusal_1 rfl (lv_at hl 1 rfl) ?_
  refine lv_iload_n hx hb dX4_bondRefusal_2 rfl (lv_at hl 2 rfl) ?_
  refine wr_go0 (wr_runV (As := [.int (nI j), .int (nI k)]) (rest := []) hx hb hml hown hts hK hM okV_RX4_190_X4_areSquares (met_X4_areSquares l mo ro no fi se t3 le od th ac oc su (nI j) (nI k) hmo hA_mo) hmo rfl rfl rfl ⟨Nat.le_of_ble_eq_true rfl, Nat.le_of_ble_eq_true rfl⟩ hl.1 rfl (Nat.le_of_ble_eq_true rfl) dX4_bondRefusal_3 ⟨Nat.le_refl _, Nat.le_refl _⟩) hS (fun M1 H locs hR hM hS => ?_)
  obtain rfl := hR
  refine topi (bI true) (by rw [mIsSq_n hj, mIsSq_n hk]; rfl) ?_
  refine zb_ne (tgt := 11) hx hb true dX4_bondRefusal_6 (by decide) (fun _ => ?_) (fun h => absurd (h.symm.trans (rfl : true = true)) (by decide))
  refine lv_aload_n hx hb dX4_bondRefusal_11 rfl (lv_at hl 0 rfl) ?_
  refine rd_goI (rd_runV (As := []) (rest := []) hx hb hml hown hts hK hM okV_RX4_183_X4_isPlayed (met_X4_isPlayed l mo ro no fi se t3 le od (gN (mIsSq (nI j) && mIsSq (nI k))) ac oc su mu_s (by omega)) mu_s rfl rfl rfl ⟨Nat.le_of_ble_eq_true rfl, Nat.le_of_ble_eq_true rfl⟩ hl.1 rfl (Nat.le_of_ble_eq_true rfl) dX4_bondRefusal_12 ⟨Nat.le_refl _, Nat.le_refl _⟩) ?_
  refine topi (bI true) (by rw [show (!su && decide (oc = 0)) = true from hpl]) ?_
  refine zb_eq (tgt := 27) hx hb true dX4_bondRefusal_15 (by decide) (fun h => absurd (h.symm.trans (rfl : true = true)) (by decide)) (fun _ => ?_)
  refine lv_aload_n hx hb dX4_bondRefusal_18 rfl (lv_at hl 0 rfl) ?_
  refine lv_iload_n hx hb dX4_bondRefusal_19 rfl (lv_at hl 1 rfl) ?_
  refine lv_iload_n hx hb dX4_bondRefusal_20 rfl (lv_at hl 2 rfl) ?_
  refine rd_goI (rd_runV (As := [.int (nI j), .int (nI k)]) (rest := []) hx hb hml hown hts hK hM okV_RX4_121_X4_bondReason (met_X4_bondReason l mo ro no fi se t3 le od (gN (mIsSq (nI j) && mIsSq (nI k))) ac oc su j k f lf mu_s (mu_g (ne_io hle hmo) hle) (mu_g (ne_io hno hmo) hno) (by omega) (by omega) hs hL) mu_s rfl rfl rfl ⟨Nat.le_of_ble_eq_true rfl, Nat.le_of_ble_eq_true rfl⟩ hl.1 rfl (Nat.le_of_ble_eq_true rfl) dX4_bondRefusal_21 ⟨Nat.le_refl _, Nat.le_refl _⟩) ?_
  have hf21_0 := mBondR_le f j k
  refine lv_goto (tgt := 28) hx hb dX4_bondRefusal_24 (by decide) ?_
  exact wr_ireturn hx hb hr hlk hM hS (Nat.le_refl _) (Nat.le_refl _) rfl (by rw [show nI 0 = nI (gN (mIsSq (nI j) && mIsSq (nI k))) from (by rw [mIsSq_n hj, mIsSq_n hk]; rfl)]) dX4_bondRefusal_28
set_option maxHeartbeats 4000000 in
set_option maxRecDepth 100000 in
theorem met_X4_dissolveRefusal_b (l : Launch) {D : va_G} {cI cJ : ClassId} {M : MP} {A : Nat → Prop} {sz : Nat} (mo ro no fi se t3 le od th ac oc : Nat) (su : Bool) (x : Int32) (hmo : M mo = some (.inr (3, [.int (nI th), .int (bI su), .ref ro, .int (nI ac), .int (nI oc), .ref no, .ref fi, .ref se, .ref t3, .ref le, .ref od]))) (hbx : mIsSq x = false) (hA_mo : A mo) : Wr l yX4_dissolveRefusal cX4_dissolveRefusal 2 (some .int) 6 0 0 D cI cJ [.ref mo, .int x] M sz A (some (.int (nI 0))) (fun M' => M' = mu M mo (.inr (3, [.int (nI 1), .int (bI su), .ref ro, .int (nI ac), .int (nI oc), .ref no, .ref fi, .ref se, .ref t3, .ref le, .ref od]))) := by
  refine wr_start (by decide) (Nat.le_of_ble_eq_true rfl) ?_
  intro p e s m args below meth c hx hb hr hml hown hts hlk hini hK hsz H hH0 hM hS ls hl
  clear hH0
  have hl : lv_has ls 2 [(0, .ref mo), (1, .int x)] := hl
  refine lv_aload_n hx hb dX4_dissolveRefusal_0 rfl (lv_at hl 0 rfl) ?_
  refine lv_iload_n hx hb dX4_dissolveRefusal_1 rfl (lv_at hl 1 rfl) ?_
  refine rd_goI (rd_runS (As := [.int x]) (rest := [.ref mo]) hx hb hml hown hts hK hM okS_RX4_160_X4_isSquare (met_X4_isSquare l x) rfl ⟨Nat.le_of_ble_eq_true rfl, Nat.le_of_ble_eq_true rfl⟩ hl.1 rfl (Nat.le_of_ble_eq_true rfl) dX4_dissolveRefusal_2 ⟨Nat.le_refl _, Nat.le_refl _⟩) ?_
  refine topi (bI false) (by rw [hbx]) ?_
  refine wr_go0 (wr_runV (As := [.int (bI false)]) (rest := []) hx hb hml hown hts hK hM okV_RX4_163_X4_isGood (met_X4_isGood l mo ro no fi se t3 le od th ac oc su false hmo hA_mo) hmo rfl rfl rfl ⟨Nat.le_of_ble_eq_true rfl, Nat.le_of_ble_eq_true rfl⟩ hl.1 rfl (Nat.le_of_ble_eq_true rfl) dX4_dissolveRefusal_5 ⟨Nat.le_refl _, Nat.le_refl _⟩) hS (fun M1 H locs hR hM hS => ?_)
  obtain rfl := hR
  refine zb_ne (tgt := 13) hx hb false dX4_dissolveRefusal_8 (by decide) (fun h => absurd (h.symm.trans (rfl : false = false)) (by decide)) (fun _ => ?_)
  refine lv_iconst (v := nI 0) hx hb dX4_dissolveRefusal_11 (by decide) ?_
  exact wr_ireturn hx hb hr hlk hM hS (Nat.le_refl _) (Nat.le_refl _) rfl (by rw [show nI 1 = nI (gN false) from rfl]) dX4_dissolveRefusal_12
set_option maxHeartbeats 4000000 in
set_option maxRecDepth 100000 in
theorem met_X4_dissolveRefusal_n (l : Launch) {D : va_G} {cI cJ : ClassId} {M : MP} {A : Nat → Prop} {sz : Nat} (mo ro no fi se t3 le od th ac oc : Nat) (su : Bool) (j : Nat) (hmo : M mo = some (.inr (3, [.int (nI th), .int (bI su), .ref ro, .int (nI ac), .int (nI oc), .ref no, .ref fi, .ref se, .ref t3, .ref le, .ref od]))) (hj : j < 64) (hoc : oc < 2 ^ 31) (hpl : mPl su oc = false) (hA_mo : A mo) : Wr l yX4_dissolveRefusal cX4_dissolveRefusal 2 (some .int) 6 0 0 D cI cJ [.ref mo, .int (nI j)] M sz A (some (.int (nI 1))) (fun M' => M' = mu M mo (.inr (3, [.int (nI 0), .int (bI su), .ref ro, .int (nI ac), .int (nI oc), .ref no, .ref fi, .ref se, .ref t3, .ref le, .ref od]))) := by
  refine wr_start (by decide) (Nat.le_of_ble_eq_true rfl) ?_
  intro p e s m args below meth c hx hb hr hml hown hts hlk hini hK hsz H hH0 hM hS ls hl
  clear hH0
  have hl : lv_has ls 2 [(0, .ref mo), (1, .int (nI j))] := hl
  refine lv_aload_n hx hb dX4_dissolveRefusal_0 rfl (lv_at hl 0 rfl) ?_
  refine lv_iload_n hx hb dX4_dissolveRefusal_1 rfl (lv_at hl 1 rfl) ?_
  refine rd_goI (rd_runS (As := [.int (nI j)]) (rest := [.ref mo]) hx hb hml hown hts hK hM okS_RX4_160_X4_isSquare (met_X4_isSquare l (nI j)) rfl ⟨Nat.le_of_ble_eq_true rfl, Nat.le_of_ble_eq_true rfl⟩ hl.1 rfl (Nat.le_of_ble_eq_true rfl) dX4_dissolveRefusal_2 ⟨Nat.le_refl _, Nat.le_refl _⟩) ?_
  refine topi (bI true) (by rw [mIsSq_n hj]) ?_
  refine wr_go0 (wr_runV (As := [.int (bI true)]) (rest := []) hx hb hml hown hts hK hM okV_RX4_163_X4_isGood (met_X4_isGood l mo ro no fi se t3 le od th ac oc su true hmo hA_mo) hmo rfl rfl rfl ⟨Nat.le_of_ble_eq_true rfl, Nat.le_of_ble_eq_true rfl⟩ hl.1 rfl (Nat.le_of_ble_eq_true rfl) dX4_dissolveRefusal_5 ⟨Nat.le_refl _, Nat.le_refl _⟩) hS (fun M1 H locs hR hM hS => ?_)
  obtain rfl := hR
  refine zb_ne (tgt := 13) hx hb true dX4_dissolveRefusal_8 (by decide) (fun _ => ?_) (fun h => absurd (h.symm.trans (rfl : true = true)) (by decide))
  refine lv_aload_n hx hb dX4_dissolveRefusal_13 rfl (lv_at hl 0 rfl) ?_
  refine rd_goI (rd_runV (As := []) (rest := []) hx hb hml hown hts hK hM okV_RX4_183_X4_isPlayed (met_X4_isPlayed l mo ro no fi se t3 le od (gN true) ac oc su mu_s (by omega)) mu_s rfl rfl rfl ⟨Nat.le_of_ble_eq_true rfl, Nat.le_of_ble_eq_true rfl⟩ hl.1 rfl (Nat.le_of_ble_eq_true rfl) dX4_dissolveRefusal_14 ⟨Nat.le_refl _, Nat.le_refl _⟩) ?_
  refine topi (bI false) (by rw [show (!su && decide (oc = 0)) = false from hpl]) ?_
  refine zb_eq (tgt := 28) hx hb false dX4_dissolveRefusal_17 (by decide) (fun _ => ?_) (fun h => absurd (h.symm.trans (rfl : false = false)) (by decide))
  refine lv_iconst (v := nI 1) hx hb dX4_dissolveRefusal_28 (by decide) ?_
  exact wr_ireturn hx hb hr hlk hM hS (Nat.le_refl _) (Nat.le_refl _) rfl (by rw [show nI 0 = nI (gN true) from rfl]) dX4_dissolveRefusal_29
set_option maxHeartbeats 4000000 in
set_option maxRecDepth 100000 in
theorem met_X4_dissolveRefusal (l : Launch) {D : va_G} {cI cJ : ClassId} {M : MP} {A : Nat → Prop} {sz : Nat} (mo ro no fi se t3 le od th ac oc : Nat) (su : Bool) (j : Nat) (f : Nat → Int32) (hmo : M mo = some (.inr (3, [.int (nI th), .int (bI su), .ref ro, .int (nI ac), .int (nI oc), .ref no, .ref fi, .ref se, .ref t3, .ref le, .ref od]))) (hno : M no = some (eI cI 146 f)) (hj : j < 64) (hoc : oc < 2 ^ 31) (hpl : mPl su oc = true) (hs : WfS f) (hA_mo : A mo) : Wr l yX4_dissolveRefusal cX4_dissolveRefusal 2 (some .int) 6 0 0 D cI cJ [.ref mo, .int (nI j)] M sz A (some (.int (nI (mDissR f j)))) (fun M' => M' = mu M mo (.inr (3, [.int (nI 0), .int (bI su), .ref ro, .int (nI ac), .int (nI oc), .ref no, .ref fi, .ref se, .ref t3, .ref le, .ref od]))) := by
  refine wr_start (by decide) (Nat.le_of_ble_eq_true rfl) ?_
  intro p e s m args below meth c hx hb hr hml hown hts hlk hini hK hsz H hH0 hM hS ls hl
  clear hH0
  have hl : lv_has ls 2 [(0, .ref mo), (1, .int (nI j))] := hl
  refine lv_aload_n hx hb dX4_dissolveRefusal_0 rfl (lv_at hl 0 rfl) ?_
  refine lv_iload_n hx hb dX4_dissolveRefusal_1 rfl (lv_at hl 1 rfl) ?_
  refine rd_goI (rd_runS (As := [.int (nI j)]) (rest := [.ref mo]) hx hb hml hown hts hK hM okS_RX4_160_X4_isSquare (met_X4_isSquare l (nI j)) rfl ⟨Nat.le_of_ble_eq_true rfl, Nat.le_of_ble_eq_true rfl⟩ hl.1 rfl (Nat.le_of_ble_eq_true rfl) dX4_dissolveRefusal_2 ⟨Nat.le_refl _, Nat.le_refl _⟩) ?_
  refine topi (bI true) (by rw [mIsSq_n hj]) ?_
  refine wr_go0 (wr_runV (As := [.int (bI true)]) (rest := []) hx hb hml hown hts hK hM okV_RX4_163_X4_isGood (met_X4_isGood l mo ro no fi se t3 le od th ac oc su true hmo hA_mo) hmo rfl rfl rfl ⟨Nat.le_of_ble_eq_true rfl, Nat.le_of_ble_eq_true rfl⟩ hl.1 rfl (Nat.le_of_ble_eq_true rfl) dX4_dissolveRefusal_5 ⟨Nat.le_refl _, Nat.le_refl _⟩) hS (fun M1 H locs hR hM hS => ?_)
  obtain rfl := hR
  refine zb_ne (tgt := 13) hx hb true dX4_dissolveRefusal_8 (by decide) (fun _ => ?_) (fun h => absurd (h.symm.trans (rfl : true = true)) (by decide))
  refine lv_aload_n hx hb dX4_dissolveRefusal_13 rfl (lv_at hl 0 rfl) ?_
  refine rd_goI (rd_runV (As := []) (rest := []) hx hb hml hown hts hK hM okV_RX4_183_X4_isPlayed (met_X4_isPlayed l mo ro no fi se t3 le od (gN true) ac oc su mu_s (by omega)) mu_s rfl rfl rfl ⟨Nat.le_of_ble_eq_true rfl, Nat.le_of_ble_eq_true rfl⟩ hl.1 rfl (Nat.le_of_ble_eq_true rfl) dX4_dissolveRefusal_14 ⟨Nat.le_refl _, Nat.le_refl _⟩) ?_
  refine topi (bI true) (by rw [show (!su && decide (oc = 0)) = true from hpl]) ?_
  refine zb_eq (tgt := 28) hx hb true dX4_dissolveRefusal_17 (by decide) (fun h => absurd (h.symm.trans (rfl : true = true)) (by decide)) (fun _ => ?_)
  refine lv_aload_n hx hb dX4_dissolveRefusal_20 rfl (lv_at hl 0 rfl) ?_
  refine lv_iload_n hx hb dX4_dissolveRefusal_21 rfl (lv_at hl 1 rfl) ?_
  refine rd_goI (rd_runV (As := [.int (nI j)]) (rest := []) hx hb hml hown hts hK hM okV_RX4_117_X4_dissolveReason (met_X4_dissolveReason l mo ro no fi se t3 le od (gN true) ac oc su j f mu_s (mu_g (ne_io hno hmo) hno) (by omega) hs) mu_s rfl rfl rfl ⟨Nat.le_of_ble_eq_true rfl, Nat.le_of_ble_eq_true rfl⟩ hl.1 rfl (Nat.le_of_ble_eq_true rfl) dX4_dissolveRefusal_22 ⟨Nat.le_refl _, Nat.le_refl _⟩) ?_
  have hf22_0 := mDissR_le f j
  refine lv_goto (tgt := 29) hx hb dX4_dissolveRefusal_25 (by decide) ?_
  exact wr_ireturn hx hb hr hlk hM hS (Nat.le_refl _) (Nat.le_refl _) rfl (by rw [show nI 0 = nI (gN true) from rfl]) dX4_dissolveRefusal_29
