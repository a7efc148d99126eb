set_option maxHeartbeats 4000000 in
set_option maxRecDepth 100000 in
theorem met_X4_actionCount (l : Launch) {D : va_G} {cI cJ : ClassId} {M : MP} {A : Nat → Prop} {sz : Nat} (mo ro no fi se t3 le od th ac oc : Nat) (su : Bool)  (hmo : M mo = some (.inr (3, [.int (nI th), .int (bI su), .ref ro, .int (nI ac), .int (nI oc), .ref no, .ref fi, .ref se, .ref t3, .ref le, .ref od]))) (hA_mo : A mo) : Wr l yX4_actionCount cX4_actionCount 1 (some .int) 0 0 0 D cI cJ [.ref mo] M sz A (some (.int (nI ac))) (fun M' => M' = mu M mo (.inr (3, [.int (nI 0), .int (bI su), .ref ro, .int (nI ac), .int (nI oc), .ref no, .ref fi, .ref se, .ref t3, .ref le, .ref od]))) := by
  refine wr_start (by decide) (Nat.le_of_ble_eq_true rfl) ?_
  intro p e s m args below meth c hx hb hr hml hown hts hlk hini hK hsz H hH0 hM hS ls hl
  clear hH0
  have hl : lv_has ls 1 [(0, .ref mo)] := hl
  refine lv_aload_n hx hb dX4_actionCount_0 rfl (lv_at hl 0 rfl) ?_
  refine lv_iconst (v := nI 0) hx hb dX4_actionCount_1 (by decide) ?_
  refine w_put (C := RX4) (T := TX4) (N := 11) (ci := 3) hx hb hts hown hK hM hS inX4 rfl tyX4 tyX4_ok nmX4 0 (by decide) qw_4_84 rfl rfl hmo hA_mo rfl rfl (Nat.le_of_ble_eq_true rfl) dX4_actionCount_2 (fun H locs hM hS => ?_)
  replace hM : HM D (mu M mo (.inr (3, [.int (nI 0), .int (bI su), .ref ro, .int (nI ac), .int (nI oc), .ref no, .ref fi, .ref se, .ref t3, .ref le, .ref od]))) H := hM
  refine lv_aload_n hx hb dX4_actionCount_5 rfl (lv_at hl 0 rfl) ?_
  refine w_get (C := RX4) (T := TX4) (N := 11) (ci := 3) hx hb hts hown hK hM inX4 rfl 3 (by decide) qw_4_87 rfl mu_s rfl dX4_actionCount_6 ?_
  exact wr_ireturn hx hb hr hlk hM hS (Nat.le_refl _) (Nat.le_refl _) rfl rfl dX4_actionCount_9
set_option maxHeartbeats 4000000 in
set_option maxRecDepth 100000 in
theorem met_X4_outcome (l : Launch) {D : va_G} {cI cJ : ClassId} {M : MP} {A : Nat → Prop} {sz : Nat} (mo ro no fi se t3 le od th ac oc : Nat) (su : Bool)  (hmo : M mo = some (.inr (3, [.int (nI th), .int (bI su), .ref ro, .int (nI ac), .int (nI oc), .ref no, .ref fi, .ref se, .ref t3, .ref le, .ref od]))) (hA_mo : A mo) : Wr l yX4_outcome cX4_outcome 1 (some .int) 0 0 0 D cI cJ [.ref mo] M sz A (some (.int (nI oc))) (fun M' => M' = mu M mo (.inr (3, [.int (nI 0), .int (bI su), .ref ro, .int (nI ac), .int (nI oc), .ref no, .ref fi, .ref se, .ref t3, .ref le, .ref od]))) := by
  refine wr_start (by decide) (Nat.le_of_ble_eq_true rfl) ?_
  intro p e s m args below meth c hx hb hr hml hown hts hlk hini hK hsz H hH0 hM hS ls hl
  clear hH0
  have hl : lv_has ls 1 [(0, .ref mo)] := hl
  refine lv_aload_n hx hb dX4_outcome_0 rfl (lv_at hl 0 rfl) ?_
  refine lv_iconst (v := nI 0) hx hb dX4_outcome_1 (by decide) ?_
  refine w_put (C := RX4) (T := TX4) (N := 11) (ci := 3) hx hb hts hown hK hM hS inX4 rfl tyX4 tyX4_ok nmX4 0 (by decide) qw_4_84 rfl rfl hmo hA_mo rfl rfl (Nat.le_of_ble_eq_true rfl) dX4_outcome_2 (fun H locs hM hS => ?_)
  replace hM : HM D (mu M mo (.inr (3, [.int (nI 0), .int (bI su), .ref ro, .int (nI ac), .int (nI oc), .ref no, .ref fi, .ref se, .ref t3, .ref le, .ref od]))) H := hM
  refine lv_aload_n hx hb dX4_outcome_5 rfl (lv_at hl 0 rfl) ?_
  refine w_get (C := RX4) (T := TX4) (N := 11) (ci := 3) hx hb hts hown hK hM inX4 rfl 4 (by decide) qw_4_88 rfl mu_s rfl dX4_outcome_6 ?_
  exact wr_ireturn hx hb hr hlk hM hS (Nat.le_refl _) (Nat.le_refl _) rfl rfl dX4_outcome_9
set_option maxHeartbeats 4000000 in
set_option maxRecDepth 100000 in
theorem met_X4_quietActions (l : Launch) {D : va_G} {cI cJ : ClassId} {M : MP} {A : Nat → Prop} {sz : Nat} (mo ro no fi se t3 le od th ac oc : Nat) (su : Bool) (f : Nat → Int32) (hmo : M mo = some (.inr (3, [.int (nI th), .int (bI su), .ref ro, .int (nI ac), .int (nI oc), .ref no, .ref fi, .ref se, .ref t3, .ref le, .ref od]))) (hno : M no = some (eI cI 146 f)) (hA_mo : A mo) : Wr l yX4_quietActions cX4_quietActions 1 (some .int) 0 0 0 D cI cJ [.ref mo] M sz A (some (.int (f 129))) (fun M' => M' = mu M mo (.inr (3, [.int (nI 0), .int (bI su), .ref ro, .int (nI ac), .int (nI oc), .ref no, .ref fi, .ref se, .ref t3, .ref le, .ref od]))) := by
  refine wr_start (by decide) (Nat.le_of_ble_eq_true rfl) ?_
  intro p e s m args below meth c hx hb hr hml hown hts hlk hini hK hsz H hH0 hM hS ls hl
  clear hH0
  have hl : lv_has ls 1 [(0, .ref mo)] := hl
  refine lv_aload_n hx hb dX4_quietActions_0 rfl (lv_at hl 0 rfl) ?_
  refine lv_iconst (v := nI 0) hx hb dX4_quietActions_1 (by decide) ?_
  refine w_put (C := RX4) (T := TX4) (N := 11) (ci := 3) hx hb hts hown hK hM hS inX4 rfl tyX4 tyX4_ok nmX4 0 (by decide) qw_4_84 rfl rfl hmo hA_mo rfl rfl (Nat.le_of_ble_eq_true rfl) dX4_quietActions_2 (fun H locs hM hS => ?_)
  replace hM : HM D (mu M mo (.inr (3, [.int (nI 0), .int (bI su), .ref ro, .int (nI ac), .int (nI oc), .ref no, .ref fi, .ref se, .ref t3, .ref le, .ref od]))) H := hM
  refine lv_aload_n hx hb dX4_quietActions_5 rfl (lv_at hl 0 rfl) ?_
  refine w_get (C := RX4) (T := TX4) (N := 11) (ci := 3) hx hb hts hown hK hM inX4 rfl 5 (by decide) qw_4_89 rfl mu_s rfl dX4_quietActions_6 ?_
  refine lv_sipush (v := nI 129) hx hb dX4_quietActions_9 (by decide) ?_
  refine w_iald hx hb hK hM (mu_g (ne_io hno hmo) hno) 129 (by omega) (by decide) dX4_quietActions_12 ?_
  exact wr_ireturn hx hb hr hlk hM hS (Nat.le_refl _) (Nat.le_refl _) rfl rfl dX4_quietActions_13
set_option maxHeartbeats 4000000 in
set_option maxRecDepth 100000 in
theorem met_X4_occurrences (l : Launch) {D : va_G} {cI cJ : ClassId} {M : MP} {A : Nat → Prop} {sz : Nat} (mo ro no fi se t3 le od th ac oc : Nat) (su : Bool) (nr : Nat) (f rw : Nat → Int32) (hmo : M mo = some (.inr (3, [.int (nI th), .int (bI su), .ref ro, .int (nI ac), .int (nI oc), .ref no, .ref fi, .ref se, .ref t3, .ref le, .ref od]))) (hno : M no = some (eI cI 146 f)) (hro : M ro = some (eI cI nr rw)) (hr1 : 146 * (ac + 1) ≤ nr) (hnr : nr < 2 ^ 31) (hA_mo : A mo) : Wr l yX4_occurrences cX4_occurrences 1 (some .int) 2 0 0 D cI cJ [.ref mo] M sz A (some (.int (nI (if su then 0 else mOcc rw f ac)))) (fun M' => M' = mu M mo (.inr (3, [.int (nI 0), .int (bI su), .ref ro, .int (nI ac), .int (nI oc), .ref no, .ref fi, .ref se, .ref t3, .ref le, .ref od]))) := by
  refine wr_start (by decide) (Nat.le_of_ble_eq_true rfl) ?_
  intro p e s m args below meth c hx hb hr hml hown hts hlk hini hK hsz H hH0 hM hS ls hl
  clear hH0
  have hl : lv_has ls 1 [(0, .ref mo)] := hl
  refine lv_aload_n hx hb dX4_occurrences_0 rfl (lv_at hl 0 rfl) ?_
  refine lv_iconst (v := nI 0) hx hb dX4_occurrences_1 (by decide) ?_
  refine w_put (C := RX4) (T := TX4) (N := 11) (ci := 3) hx hb hts hown hK hM hS inX4 rfl tyX4 tyX4_ok nmX4 0 (by decide) qw_4_84 rfl rfl hmo hA_mo rfl rfl (Nat.le_of_ble_eq_true rfl) dX4_occurrences_2 (fun H locs hM hS => ?_)
  replace hM : HM D (mu M mo (.inr (3, [.int (nI 0), .int (bI su), .ref ro, .int (nI ac), .int (nI oc), .ref no, .ref fi, .ref se, .ref t3, .ref le, .ref od]))) H := hM
  refine lv_aload_n hx hb dX4_occurrences_5 rfl (lv_at hl 0 rfl) ?_
  refine w_get (C := RX4) (T := TX4) (N := 11) (ci := 3) hx hb hts hown hK hM inX4 rfl 1 (by decide) qw_4_85 rfl mu_s rfl dX4_occurrences_6 ?_
  refine zb_eq (tgt := 16) hx hb su dX4_occurrences_9 (by decide) (fun c_9 => ?_) (fun c_9 => ?_)
  · skip
    refine lv_aload_n hx hb dX4_occurrences_16 rfl (lv_at hl 0 rfl) ?_
    refine rd_goI (rd_runV (As := []) (rest := []) hx hb hml hown hts hK hM okV_RX4_146_X4_occurred (met_X4_occurred l mo ro no fi se t3 le od 0 ac oc su nr f rw mu_s (mu_g (ne_io hno hmo) hno) (mu_g (ne_io hro hmo) hro) (by omega) (by omega)) mu_s rfl rfl rfl ⟨Nat.le_of_ble_eq_true rfl, Nat.le_of_ble_eq_true rfl⟩ hl.1 rfl (Nat.le_of_ble_eq_true rfl) dX4_occurrences_17 ⟨Nat.le_refl _, Nat.le_refl _⟩) ?_
    have hf17_0 := mOcc_le rw f ac
    exact wr_ireturn hx hb hr hlk hM hS (Nat.le_refl _) (Nat.le_refl _) (by simp [bI_t, bI_f, c_9]) rfl dX4_occurrences_20
  · skip
    refine lv_iconst (v := nI 0) hx hb dX4_occurrences_12 (by decide) ?_
    refine lv_goto (tgt := 20) hx hb dX4_occurrences_13 (by decide) ?_
    exact wr_ireturn hx hb hr hlk hM hS (Nat.le_refl _) (Nat.le_refl _) (by simp [bI_t, bI_f, c_9]) rfl dX4_occurrences_20
set_option maxHeartbeats 4000000 in
set_option maxRecDepth 100000 in
theorem met_X4_capturedCount_b (l : Launch) {D : va_G} {cI cJ : ClassId} {M : MP} {A : Nat → Prop} {sz : Nat} (mo ro no fi se t3 le od th ac oc : Nat) (su : Bool) (y : Int32) (b : Bool) (hmo : M mo = some (.inr (3, [.int (nI th), .int (bI su), .ref ro, .int (nI ac), .int (nI oc), .ref no, .ref fi, .ref se, .ref t3, .ref le, .ref od]))) (hy : mIsKd y = false) (hA_mo : A mo) : Wr l yX4_capturedCount cX4_capturedCount 3 (some .int) 1 0 0 D cI cJ [.ref mo, .int y, .int (bI b)] M sz A (some (.int (nI 0))) (fun M' => M' = mu M mo (.inr (3, [.int (nI 1), .int (bI su), .ref ro, .int (nI ac), .int (nI oc), .ref no, .ref fi, .ref se, .ref t3, .ref le, .ref od]))) := by
  refine wr_start (by decide) (Nat.le_of_ble_eq_true rfl) ?_
  intro p e s m args below meth c hx hb hr hml hown hts hlk hini hK hsz H hH0 hM hS ls hl
  clear hH0
  have hl : lv_has ls 3 [(0, .ref mo), (1, .int y), (2, .int (bI b))] := hl
  refine lv_aload_n hx hb dX4_capturedCount_0 rfl (lv_at hl 0 rfl) ?_
  refine lv_iload_n hx hb dX4_capturedCount_1 rfl (lv_at hl 1 rfl) ?_
  refine lv_iconst (v := nI 1) hx hb dX4_capturedCount_2 (by decide) ?_
  refine lv_icmp_lt (tgt := 16) hx hb dX4_capturedCount_3 (by decide) (fun c_3 => ?_) (fun c_3 => ?_)
  · skip
    refine lv_iconst (v := nI 0) hx hb dX4_capturedCount_16 (by decide) ?_
    refine wr_go0 (wr_runV (As := [.int (bI false)]) (rest := []) hx hb hml hown hts hK hM okV_RX4_163_X4_isGood (met_X4_isGood l mo ro no fi se t3 le od th ac oc su false hmo hA_mo) hmo rfl rfl rfl ⟨Nat.le_of_ble_eq_true rfl, Nat.le_of_ble_eq_true rfl⟩ hl.1 rfl (Nat.le_of_ble_eq_true rfl) dX4_capturedCount_17 ⟨Nat.le_refl _, Nat.le_refl _⟩) hS (fun M1 H locs hR hM hS => ?_)
    obtain rfl := hR
    refine zb_eq (tgt := 41) hx hb false dX4_capturedCount_20 (by decide) (fun _ => ?_) (fun h => absurd (h.symm.trans (rfl : false = false)) (by decide))
    refine lv_iconst (v := nI 0) hx hb dX4_capturedCount_41 (by decide) ?_
    exact wr_ireturn hx hb hr hlk hM hS (Nat.le_refl _) (Nat.le_refl _) rfl (by rw [show nI 1 = nI (gN false) from rfl]) dX4_capturedCount_42
  · skip
    refine lv_iload_n hx hb dX4_capturedCount_6 rfl (lv_at hl 1 rfl) ?_
    refine lv_bipush (v := nI 6) hx hb dX4_capturedCount_7 (by decide) ?_
    refine lv_icmp_gt (tgt := 16) hx hb dX4_capturedCount_9 (by decide) (fun c_9 => ?_) (fun c_9 => ?_)
    · skip
      refine lv_iconst (v := nI 0) hx hb dX4_capturedCount_16 (by decide) ?_
      refine wr_go0 (wr_runV (As := [.int (bI false)]) (rest := []) hx hb hml hown hts hK hM okV_RX4_163_X4_isGood (met_X4_isGood l mo ro no fi se t3 le od th ac oc su false hmo hA_mo) hmo rfl rfl rfl ⟨Nat.le_of_ble_eq_true rfl, Nat.le_of_ble_eq_true rfl⟩ hl.1 rfl (Nat.le_of_ble_eq_true rfl) dX4_capturedCount_17 ⟨Nat.le_refl _, Nat.le_refl _⟩) hS (fun M1 H locs hR hM hS => ?_)
      obtain rfl := hR
      refine zb_eq (tgt := 41) hx hb false dX4_capturedCount_20 (by decide) (fun _ => ?_) (fun h => absurd (h.symm.trans (rfl : false = false)) (by decide))
      refine lv_iconst (v := nI 0) hx hb dX4_capturedCount_41 (by decide) ?_
      exact wr_ireturn hx hb hr hlk hM hS (Nat.le_refl _) (Nat.le_refl _) rfl (by rw [show nI 1 = nI (gN false) from rfl]) dX4_capturedCount_42
    · skip
      exact absurd hy (by simp [mIsKd, c_3, Int32.not_lt.mp c_3, Int32.not_lt.mp c_9])
set_option maxHeartbeats 4000000 in
set_option maxRecDepth 100000 in
theorem met_X4_capturedCount (l : Launch) {D : va_G} {cI cJ : ClassId} {M : MP} {A : Nat → Prop} {sz : Nat} (mo ro no fi se t3 le od th ac oc : Nat) (su : Bool) (k : Nat) (b : Bool) (f : Nat → Int32) (hmo : M mo = some (.inr (3, [.int (nI th), .int (bI su), .ref ro, .int (nI ac), .int (nI oc), .ref no, .ref fi, .ref se, .ref t3, .ref le, .ref od]))) (hno : M no = some (eI cI 146 f)) (hk1 : 1 ≤ k) (hk6 : k ≤ 6) (hA_mo : A mo) : Wr l yX4_capturedCount cX4_capturedCount 3 (some .int) 1 0 0 D cI cJ [.ref mo, .int (nI k), .int (bI b)] M sz A (some (.int (f (130 + sdN b + k)))) (fun M' => M' = mu M mo (.inr (3, [.int (nI 0), .int (bI su), .ref ro, .int (nI ac), .int (nI oc), .ref no, .ref fi, .ref se, .ref t3, .ref le, .ref od]))) := by
  refine wr_start (by decide) (Nat.le_of_ble_eq_true rfl) ?_
  intro p e s m args below meth c hx hb hr hml hown hts hlk hini hK hsz H hH0 hM hS ls hl
  clear hH0
  have hl : lv_has ls 3 [(0, .ref mo), (1, .int (nI k)), (2, .int (bI b))] := hl
  have hsd1 := sdN_le b
  refine lv_aload_n hx hb dX4_capturedCount_0 rfl (lv_at hl 0 rfl) ?_
  refine lv_iload_n hx hb dX4_capturedCount_1 rfl (lv_at hl 1 rfl) ?_
  refine lv_iconst (v := nI 1) hx hb dX4_capturedCount_2 (by decide) ?_
  refine ni_lt (tgt := 16) hx hb k 1 (by omega) (by omega) dX4_capturedCount_3 (by decide) (fun c_3 => ?_) (fun c_3 => ?_)
  · skip
    exfalso; omega
  · skip
    refine lv_iload_n hx hb dX4_capturedCount_6 rfl (lv_at hl 1 rfl) ?_
    refine lv_bipush (v := nI 6) hx hb dX4_capturedCount_7 (by decide) ?_
    refine ni_gt (tgt := 16) hx hb k 6 (by omega) (by omega) dX4_capturedCount_9 (by decide) (fun c_9 => ?_) (fun c_9 => ?_)
    · skip
      exfalso; omega
    · skip
      refine lv_iconst (v := nI 1) hx hb dX4_capturedCount_12 (by decide) ?_
      refine lv_goto (tgt := 17) hx hb dX4_capturedCount_13 (by decide) ?_
      refine topi (bI true) rfl ?_
      refine wr_go0 (wr_runV (As := [.int (bI true)]) (rest := []) hx hb hml hown hts hK hM okV_RX4_163_X4_isGood (met_X4_isGood l mo ro no fi se t3 le od th ac oc su true hmo hA_mo) hmo rfl rfl rfl ⟨Nat.le_of_ble_eq_true rfl, Nat.le_of_ble_eq_true rfl⟩ hl.1 rfl (Nat.le_of_ble_eq_true rfl) dX4_capturedCount_17 ⟨Nat.le_refl _, Nat.le_refl _⟩) hS (fun M1 H locs hR hM hS => ?_)
      obtain rfl := hR
      refine zb_eq (tgt := 41) hx hb true dX4_capturedCount_20 (by decide) (fun h => absurd (h.symm.trans (rfl : true = true)) (by decide)) (fun _ => ?_)
      refine lv_aload_n hx hb dX4_capturedCount_23 rfl (lv_at hl 0 rfl) ?_
      refine w_get (C := RX4) (T := TX4) (N := 11) (ci := 3) hx hb hts hown hK hM inX4 rfl 5 (by decide) qw_4_89 rfl mu_s rfl dX4_capturedCount_24 ?_
      refine lv_sipush (v := nI 130) hx hb dX4_capturedCount_27 (by decide) ?_
      refine lv_iload_n hx hb dX4_capturedCount_30 rfl (lv_at hl 2 rfl) ?_
      refine rd_goI (rd_runS (As := [.int (bI b)]) (rest := [.int (nI 130), .ref no]) hx hb hml hown hts hK hM okS_RX4_170_X4_side (met_X4_side l b) rfl ⟨Nat.le_of_ble_eq_true rfl, Nat.le_of_ble_eq_true rfl⟩ hl.1 rfl (Nat.le_of_ble_eq_true rfl) dX4_capturedCount_31 ⟨Nat.le_refl _, Nat.le_refl _⟩) ?_
      refine ni_add hx hb 130 (sdN b) dX4_capturedCount_34 ?_
      refine lv_iload_n hx hb dX4_capturedCount_35 rfl (lv_at hl 1 rfl) ?_
      refine ni_add hx hb (130 + (sdN b)) k dX4_capturedCount_36 ?_
      refine w_iald hx hb hK hM (mu_g (ne_io hno hmo) hno) ((130 + (sdN b)) + k) (by omega) (by decide) dX4_capturedCount_37 ?_
      refine lv_goto (tgt := 42) hx hb dX4_capturedCount_38 (by decide) ?_
      exact wr_ireturn hx hb hr hlk hM hS (Nat.le_refl _) (Nat.le_refl _) (by simp [bI_t, bI_f, c_3, Nat.not_lt.mpr c_3, c_9, Nat.not_lt.mpr c_9]) (by rw [show nI 0 = nI (gN true) from rfl]) dX4_capturedCount_42
set_option maxHeartbeats 4000000 in
set_option maxRecDepth 100000 in
theorem met_X4_matingMove_n (l : Launch) {D : va_G} {cI cJ : ClassId} {M : MP} {A : Nat → Prop} {sz : Nat} (mo ro no fi se t3 le od th ac oc : Nat) (su : Bool)  (hmo : M mo = some (.inr (3, [.int (nI th), .int (bI su), .ref ro, .int (nI ac), .int (nI oc), .ref no, .ref fi, .ref se, .ref t3, .ref le, .ref od]))) (hoc : oc < 2 ^ 31) (hpl : mPl su oc = false) (hA_mo : A mo) : Wr l yX4_matingMove cX4_matingMove 2 (some .int) 7 0 0 D cI cJ [.ref mo] M sz A (some (.int (-1))) (fun M' => M' = mu M mo (.inr (3, [.int (nI 0), .int (bI su), .ref ro, .int (nI ac), .int (nI oc), .ref no, .ref fi, .ref se, .ref t3, .ref le, .ref od]))) := by
  refine wr_start (by decide) (Nat.le_of_ble_eq_true rfl) ?_
  intro p e s m args below meth c hx hb hr hml hown hts hlk hini hK hsz H hH0 hM hS ls hl
  clear hH0
  have hl : lv_has ls 2 [(0, .ref mo)] := hl
  refine lv_aload_n hx hb dX4_matingMove_0 rfl (lv_at hl 0 rfl) ?_
  refine lv_iconst (v := nI 0) hx hb dX4_matingMove_1 (by decide) ?_
  refine w_put (C := RX4) (T := TX4) (N := 11) (ci := 3) hx hb hts hown hK hM hS inX4 rfl tyX4 tyX4_ok nmX4 0 (by decide) qw_4_84 rfl rfl hmo hA_mo rfl rfl (Nat.le_of_ble_eq_true rfl) dX4_matingMove_2 (fun H locs hM hS => ?_)
  replace hM : HM D (mu M mo (.inr (3, [.int (nI 0), .int (bI su), .ref ro, .int (nI ac), .int (nI oc), .ref no, .ref fi, .ref se, .ref t3, .ref le, .ref od]))) H := hM
  refine lv_iconst (v := nI 0) hx hb dX4_matingMove_5 (by decide) ?_
  refine lv_istore_n (lv' := [(1, .int (nI 0)), (0, .ref mo)]) hx hb dX4_matingMove_6 rfl hl (by decide) rfl (fun ls hl => ?_)
  refine loopR (pcH := 7) (st := []) (ι := Nat) (fun ξ => [(1, .int (nI (ξ))), (0, .ref mo)]) (fun n ξ => (ξ) + n = 4096) ?_ ?_ 4096 0 ((by omega)) ls (lv_sub hl [0,1] rfl)
  · rintro i hin ls hl
    try dsimp only at hl hin
    refine lv_iload_n hx hb dX4_matingMove_7 rfl (lv_at hl 0 rfl) ?_
    refine lv_sipush (v := nI 4096) hx hb dX4_matingMove_8 (by decide) ?_
    refine ni_ge (tgt := 107) hx hb i 4096 (by omega) (by omega) dX4_matingMove_11 (by decide) (fun c_11 => ?_) (fun c_11 => ?_)
    · skip
      refine lv_iconst (v := (-1)) hx hb dX4_matingMove_107 (by decide) ?_
      exact wr_ireturn hx hb hr hlk hM hS (Nat.le_refl _) (Nat.le_refl _) rfl rfl dX4_matingMove_108
    · skip
      exfalso; omega
  · rintro n ih i hin ls hl
    try dsimp only at hl hin
    refine lv_iload_n hx hb dX4_matingMove_7 rfl (lv_at hl 0 rfl) ?_
    refine lv_sipush (v := nI 4096) hx hb dX4_matingMove_8 (by decide) ?_
    refine ni_ge (tgt := 107) hx hb i 4096 (by omega) (by omega) dX4_matingMove_11 (by decide) (fun c_11 => ?_) (fun c_11 => ?_)
    · skip
      exfalso; omega
    · skip
      refine lv_aload_n hx hb dX4_matingMove_14 rfl (lv_at hl 1 rfl) ?_
      refine rd_goI (rd_runV (As := []) (rest := []) hx hb hml hown hts hK hM okV_RX4_183_X4_isPlayed (met_X4_isPlayed l mo ro no fi se t3 le od 0 ac oc su mu_s (by omega)) mu_s rfl rfl rfl ⟨Nat.le_of_ble_eq_true rfl, Nat.le_of_ble_eq_true rfl⟩ hl.1 rfl (Nat.le_of_ble_eq_true rfl) dX4_matingMove_15 ⟨Nat.le_refl _, Nat.le_refl _⟩) ?_
      refine topi (bI false) (by rw [show (!su && decide (oc = 0)) = false from hpl]) ?_
      refine zb_eq (tgt := 107) hx hb false dX4_matingMove_18 (by decide) (fun _ => ?_) (fun h => absurd (h.symm.trans (rfl : false = false)) (by decide))
      refine lv_iconst (v := (-1)) hx hb dX4_matingMove_107 (by decide) ?_
      exact wr_ireturn hx hb hr hlk hM hS (Nat.le_refl _) (Nat.le_refl _) rfl rfl dX4_matingMove_108
set_option maxHeartbeats 4000000 in
set_option maxRecDepth 100000 in
theorem met_X4_matingMove (l : Launch) {D : va_G} {cI cJ : ClassId} {M : MP} {A : Nat → Prop} {sz : Nat} (mo ro no fi se t3 le od th ac oc : Nat) (su : Bool) (f g g2 g3 lf : Nat → Int32) (hmo : M mo = some (.inr (3, [.int (nI th), .int (bI su), .ref ro, .int (nI ac), .int (nI oc), .ref no, .ref fi, .ref se, .ref t3, .ref le, .ref od]))) (hno : M no = some (eI cI 146 f)) (hfi : M fi = some (eI cI 146 g)) (hse : M se = some (eI cI 146 g2)) (hle : M le = some (eI cI 4096 lf)) (hoc : oc < 2 ^ 31) (hpl : mPl su oc = true) (hP : WfP f) (hB : WfB f) (hs : WfS f) (hL : WfL lf) (hap : Apart6 ro no fi se t3 le) (hA_mo : A mo) (hA_fi : A fi) (hA_se : A se) : Wr l yX4_matingMove cX4_matingMove 2 (some .int) 7 0 0 D cI cJ [.ref mo] M sz A (some (.int (oI (mMating f)))) (fun M' => ∃ g1 : Nat → Int32, ∃ g4 : Nat → Int32, M' = mu (mu (mu M mo (.inr (3, [.int (nI 0), .int (bI su), .ref ro, .int (nI ac), .int (nI oc), .ref no, .ref fi, .ref se, .ref t3, .ref le, .ref od]))) fi (eI cI 146 g1)) se (eI cI 146 g4)) := by
  refine wr_start (by decide) (Nat.le_of_ble_eq_true rfl) ?_
  intro p e s m args below meth c hx hb hr hml hown hts hlk hini hK hsz H hH0 hM hS ls hl
  clear hH0
  have hl : lv_has ls 2 [(0, .ref mo)] := hl
  have hap0 := hap
  obtain ⟨⟨n_ro_no, n_ro_fi, n_ro_se, n_ro_t3, n_ro_le⟩, ⟨n_no_fi, n_no_se, n_no_t3, n_no_le⟩, ⟨n_fi_se, n_fi_t3, n_fi_le⟩, ⟨n_se_t3, n_se_le⟩, n_t3_le⟩ := hap0
  have hs8 := mSide_le f
  refine lv_aload_n hx hb dX4_matingMove_0 rfl (lv_at hl 0 rfl) ?_
  refine lv_iconst (v := nI 0) hx hb dX4_matingMove_1 (by decide) ?_
  refine w_put (C := RX4) (T := TX4) (N := 11) (ci := 3) hx hb hts hown hK hM hS inX4 rfl tyX4 tyX4_ok nmX4 0 (by decide) qw_4_84 rfl rfl hmo hA_mo rfl rfl (Nat.le_of_ble_eq_true rfl) dX4_matingMove_2 (fun H locs hM hS => ?_)
  replace hM : HM D (mu M mo (.inr (3, [.int (nI 0), .int (bI su), .ref ro, .int (nI ac), .int (nI oc), .ref no, .ref fi, .ref se, .ref t3, .ref le, .ref od]))) H := hM
  refine lv_iconst (v := nI 0) hx hb dX4_matingMove_5 (by decide) ?_
  refine lv_istore_n (lv' := [(1, .int (nI 0)), (0, .ref mo)]) hx hb dX4_matingMove_6 rfl hl (by decide) rfl (fun ls hl => ?_)
  rw [← mu_id (a := fi) (e := eI cI 146 g) (mu_g (ne_io hfi hmo) hfi)] at hM
  rw [← mu_id (a := se) (e := eI cI 146 g2) (mu_g (Ne.symm n_fi_se) (mu_g (ne_io hse hmo) hse))] at hM
  refine loopW (pcH := 7) (st := []) (ι := Nat × (Nat → Int32) × (Nat → Int32)) (fun ξ => mu (mu (mu M mo (.inr (3, [.int (nI 0), .int (bI su), .ref ro, .int (nI ac), .int (nI oc), .ref no, .ref fi, .ref se, .ref t3, .ref le, .ref od]))) fi (eI cI 146 (ξ.2.1))) se (eI cI 146 (ξ.2.2))) (fun ξ => [(1, .int (nI (ξ.1))), (0, .ref mo)]) (fun n ξ => (ξ.1) + n = 4096 ∧ mMating f = mFirst (mMate f) n (ξ.1)) ?_ ?_ 4096 (0, g, g2) ⟨by first | omega | (dsimp only <;> omega), rfl⟩ hM hS ls (lv_sub hl [0,1] rfl)
  · rintro ⟨i, ga, gb⟩ ⟨hin, hres⟩ H locs hM hS ls hl
    try dsimp only at hl hin hres hM
    refine lv_iload_n hx hb dX4_matingMove_7 rfl (lv_at hl 0 rfl) ?_
    refine lv_sipush (v := nI 4096) hx hb dX4_matingMove_8 (by decide) ?_
    refine ni_ge (tgt := 107) hx hb i 4096 (by omega) (by omega) dX4_matingMove_11 (by decide) (fun c_11 => ?_) (fun c_11 => ?_)
    · skip
      refine lv_iconst (v := (-1)) hx hb dX4_matingMove_107 (by decide) ?_
      exact wr_ireturn hx hb hr hlk hM hS (Nat.le_refl _) (Nat.le_refl _) (by rw [hres]; simp [mFirst, mMate, mOkMove, oI_n, oI_s, bI_t, bI_f, c_11, Nat.not_lt.mpr c_11]) ⟨ga, gb, rfl⟩ dX4_matingMove_108
    · skip
      exfalso; omega
  · rintro n ih ⟨i, ga, gb⟩ ⟨hin, hres⟩ H locs hM hS ls hl
    try dsimp only at hl hin hres hM
    refine lv_iload_n hx hb dX4_matingMove_7 rfl (lv_at hl 0 rfl) ?_
    refine lv_sipush (v := nI 4096) hx hb dX4_matingMove_8 (by decide) ?_
    refine ni_ge (tgt := 107) hx hb i 4096 (by omega) (by omega) dX4_matingMove_11 (by decide) (fun c_11 => ?_) (fun c_11 => ?_)
    · skip
      exfalso; omega
    · skip
      refine lv_aload_n hx hb dX4_matingMove_14 rfl (lv_at hl 1 rfl) ?_
      refine rd_goI (rd_runV (As := []) (rest := []) hx hb hml hown hts hK hM okV_RX4_183_X4_isPlayed (met_X4_isPlayed l mo ro no fi se t3 le od 0 ac oc su (mu_g (ne_oi hmo hse) (mu_g (ne_oi hmo hfi) mu_s)) (by omega)) (mu_g (ne_oi hmo hse) (mu_g (ne_oi hmo hfi) mu_s)) rfl rfl rfl ⟨Nat.le_of_ble_eq_true rfl, Nat.le_of_ble_eq_true rfl⟩ hl.1 rfl (Nat.le_of_ble_eq_true rfl) dX4_matingMove_15 ⟨Nat.le_refl _, Nat.le_refl _⟩) ?_
      refine topi (bI true) (by rw [show (!su && decide (oc = 0)) = true from hpl]) ?_
      refine zb_eq (tgt := 107) hx hb true dX4_matingMove_18 (by decide) (fun h => absurd (h.symm.trans (rfl : true = true)) (by decide)) (fun _ => ?_)
      refine lv_aload_n hx hb dX4_matingMove_21 rfl (lv_at hl 1 rfl) ?_
      refine w_get (C := RX4) (T := TX4) (N := 11) (ci := 3) hx hb hts hown hK hM inX4 rfl 5 (by decide) qw_4_89 rfl (mu_g (ne_oi hmo hse) (mu_g (ne_oi hmo hfi) mu_s)) rfl dX4_matingMove_22 ?_
      refine lv_iload_n hx hb dX4_matingMove_25 rfl (lv_at hl 0 rfl) ?_
      refine lv_bipush (v := nI 64) hx hb dX4_matingMove_26 (by decide) ?_
      refine ni_div hx hb i 64 (by omega) (by decide) (by decide) dX4_matingMove_28 ?_
      refine lv_aload_n hx hb dX4_matingMove_29 rfl (lv_at hl 1 rfl) ?_
      refine w_get (C := RX4) (T := TX4) (N := 11) (ci := 3) hx hb hts hown hK hM inX4 rfl 5 (by decide) qw_4_89 rfl (mu_g (ne_oi hmo hse) (mu_g (ne_oi hmo hfi) mu_s)) rfl dX4_matingMove_30 ?_
      refine lv_sipush (v := nI 128) hx hb dX4_matingMove_33 (by decide) ?_
      refine w_iald hx hb hK hM (mu_g n_no_se (mu_g n_no_fi (mu_g (ne_io hno hmo) hno))) 128 (by omega) (by decide) dX4_matingMove_36 ?_
      refine topi (nI (mSide f)) hs ?_
      refine rd_goI (rd_runS (As := [.ref no, .int (nI (i / 64)), .int (nI (mSide f))]) (rest := []) hx hb hml hown hts hK hM okS_RX4_76_X4_isOf (met_X4_isOf l no (i / 64) (mSide f) f (mu_g n_no_se (mu_g n_no_fi (mu_g (ne_io hno hmo) hno))) (by omega) (by omega)) rfl ⟨Nat.le_of_ble_eq_true rfl, Nat.le_of_ble_eq_true rfl⟩ hl.1 rfl (Nat.le_of_ble_eq_true rfl) dX4_matingMove_37 ⟨Nat.le_refl _, Nat.le_refl _⟩) ?_
      refine zb_eq (tgt := 101) hx hb (mIsOf f (i / 64) (mSide f)) dX4_matingMove_40 (by decide) (fun c_40 => ?_) (fun c_40 => ?_)
      · skip
        refine ni_iinc (lv' := [(1, .int (nI (i + 1))), (0, .ref mo)]) hx hb i 1 dX4_matingMove_101 hl (k := 0) rfl (by decide) (by decide) rfl (fun ls hl => ?_)
        refine lv_goto (tgt := 7) hx hb dX4_matingMove_104 (by decide) ?_
        exact ih (i + 1, ga, gb) ⟨by first | omega | (dsimp only <;> omega), by rw [hres]; simp [mFirst, mMate, mOkMove, oI_n, oI_s, c_11, Nat.not_le.mpr c_11, Nat.le_of_lt c_11, c_40]⟩ _ _ hM hS ls (lv_sub hl [0,1] rfl)
      · skip
        refine lv_aload_n hx hb dX4_matingMove_43 rfl (lv_at hl 1 rfl) ?_
        refine lv_aload_n hx hb dX4_matingMove_44 rfl (lv_at hl 1 rfl) ?_
        refine w_get (C := RX4) (T := TX4) (N := 11) (ci := 3) hx hb hts hown hK hM inX4 rfl 5 (by decide) qw_4_89 rfl (mu_g (ne_oi hmo hse) (mu_g (ne_oi hmo hfi) mu_s)) rfl dX4_matingMove_45 ?_
        refine lv_iload_n hx hb dX4_matingMove_48 rfl (lv_at hl 0 rfl) ?_
        refine lv_bipush (v := nI 64) hx hb dX4_matingMove_49 (by decide) ?_
        refine ni_div hx hb i 64 (by omega) (by decide) (by decide) dX4_matingMove_51 ?_
        refine lv_iload_n hx hb dX4_matingMove_52 rfl (lv_at hl 0 rfl) ?_
        refine lv_bipush (v := nI 64) hx hb dX4_matingMove_53 (by decide) ?_
        refine ni_rem hx hb i 64 (by omega) (by decide) (by decide) dX4_matingMove_55 ?_
        refine lv_aload_n hx hb dX4_matingMove_56 rfl (lv_at hl 1 rfl) ?_
        refine w_get (C := RX4) (T := TX4) (N := 11) (ci := 3) hx hb hts hown hK hM inX4 rfl 6 (by decide) qw_4_90 rfl (mu_g (ne_oi hmo hse) (mu_g (ne_oi hmo hfi) mu_s)) rfl dX4_matingMove_57 ?_
        refine wr_go0 (wr_runV (As := [.ref no, .int (nI (i / 64)), .int (nI (i % 64)), .ref fi]) (rest := []) hx hb hml hown hts hK hM okV_RX4_113_X4_reason (met_X4_reason l mo ro no fi se t3 le od 0 ac oc su no (i / 64) (i % 64) fi f ga lf (mu_g (ne_oi hmo hse) (mu_g (ne_oi hmo hfi) mu_s)) (mu_g (Ne.symm n_se_le) (mu_g (Ne.symm n_fi_le) (mu_g (ne_io hle hmo) hle))) (mu_g n_no_se (mu_g n_no_fi (mu_g (ne_io hno hmo) hno))) (mu_g n_fi_se mu_s) (by omega) (by omega) hP hB hs hL n_no_fi (Ne.symm n_fi_le) hA_fi) (mu_g (ne_oi hmo hse) (mu_g (ne_oi hmo hfi) mu_s)) rfl rfl rfl ⟨Nat.le_of_ble_eq_true rfl, Nat.le_of_ble_eq_true rfl⟩ hl.1 rfl (Nat.le_of_ble_eq_true rfl) dX4_matingMove_60 ⟨Nat.le_refl _, Nat.le_refl _⟩) hS (fun M1 H locs hR hM hS => ?_)
        obtain rfl := hR
        rw [mu_comm (Ne.symm n_fi_se), mu_mu] at hM
        have hf60_0 := mReason_le f (i / 64) (i % 64)
        refine n0_ne (tgt := 101) hx hb (mReason f (i / 64) (i % 64)) (by omega) dX4_matingMove_63 (by decide) (fun c_63 => ?_) (fun c_63 => ?_)
        · skip
          refine ni_iinc (lv' := [(1, .int (nI (i + 1))), (0, .ref mo)]) hx hb i 1 dX4_matingMove_101 hl (k := 0) rfl (by decide) (by decide) rfl (fun ls hl => ?_)
          refine lv_goto (tgt := 7) hx hb dX4_matingMove_104 (by decide) ?_
          exact ih (i + 1, mAft f ga (i / 64) (i % 64), gb) ⟨by first | omega | (dsimp only <;> omega), by rw [hres]; simp [mFirst, mMate, mOkMove, oI_n, oI_s, c_11, Nat.not_le.mpr c_11, Nat.le_of_lt c_11, c_40, c_63]⟩ _ _ hM hS ls (lv_sub hl [0,1] rfl)
        · skip
          have hra := reason0 c_63
          rw [hra.2.2 ga] at hM
          have hwr := WfR_apply ⟨hP, hB, hs⟩ (show i / 64 < 64 by omega) (show i % 64 < 64 by omega)
          have hs9 := mSide_le (mApply f (i / 64) (i % 64))
          refine lv_aload_n hx hb dX4_matingMove_66 rfl (lv_at hl 1 rfl) ?_
          refine w_get (C := RX4) (T := TX4) (N := 11) (ci := 3) hx hb hts hown hK hM inX4 rfl 6 (by decide) qw_4_90 rfl (mu_g (ne_oi hmo hse) (mu_g (ne_oi hmo hfi) mu_s)) rfl dX4_matingMove_67 ?_
          refine lv_aload_n hx hb dX4_matingMove_70 rfl (lv_at hl 1 rfl) ?_
          refine w_get (C := RX4) (T := TX4) (N := 11) (ci := 3) hx hb hts hown hK hM inX4 rfl 6 (by decide) qw_4_90 rfl (mu_g (ne_oi hmo hse) (mu_g (ne_oi hmo hfi) mu_s)) rfl dX4_matingMove_71 ?_
          refine lv_sipush (v := nI 128) hx hb dX4_matingMove_74 (by decide) ?_
          refine w_iald hx hb hK hM (mu_g n_fi_se mu_s) 128 (by omega) (by decide) dX4_matingMove_77 ?_
          refine topi (nI (mSide (mApply f (i / 64) (i % 64)))) hwr.2.2 ?_
          refine rd_goI (rd_runS (As := [.ref fi, .int (nI (mSide (mApply f (i / 64) (i % 64))))]) (rest := []) hx hb hml hown hts hK hM okS_RX4_106_X4_inCheck (met_X4_inCheck l fi (mSide (mApply f (i / 64) (i % 64))) (mApply f (i / 64) (i % 64)) (mu_g n_fi_se mu_s) (by omega)) rfl ⟨Nat.le_of_ble_eq_true rfl, Nat.le_of_ble_eq_true rfl⟩ hl.1 rfl (Nat.le_of_ble_eq_true rfl) dX4_matingMove_78 ⟨Nat.le_refl _, Nat.le_refl _⟩) ?_
          refine zb_eq (tgt := 101) hx hb (mInCheck (mApply f (i / 64) (i % 64)) (mSide (mApply f (i / 64) (i % 64)))) dX4_matingMove_81 (by decide) (fun c_81 => ?_) (fun c_81 => ?_)
          · skip
            refine ni_iinc (lv' := [(1, .int (nI (i + 1))), (0, .ref mo)]) hx hb i 1 dX4_matingMove_101 hl (k := 0) rfl (by decide) (by decide) rfl (fun ls hl => ?_)
            refine lv_goto (tgt := 7) hx hb dX4_matingMove_104 (by decide) ?_
            exact ih (i + 1, mApply f (i / 64) (i % 64), gb) ⟨by first | omega | (dsimp only <;> omega), by rw [hres]; simp [mFirst, mMate, mOkMove, oI_n, oI_s, c_11, Nat.not_le.mpr c_11, Nat.le_of_lt c_11, c_40, c_63, c_81]⟩ _ _ hM hS ls (lv_sub hl [0,1] rfl)
          · skip
            refine lv_aload_n hx hb dX4_matingMove_84 rfl (lv_at hl 1 rfl) ?_
            refine lv_aload_n hx hb dX4_matingMove_85 rfl (lv_at hl 1 rfl) ?_
            refine w_get (C := RX4) (T := TX4) (N := 11) (ci := 3) hx hb hts hown hK hM inX4 rfl 6 (by decide) qw_4_90 rfl (mu_g (ne_oi hmo hse) (mu_g (ne_oi hmo hfi) mu_s)) rfl dX4_matingMove_86 ?_
            refine lv_aload_n hx hb dX4_matingMove_89 rfl (lv_at hl 1 rfl) ?_
            refine w_get (C := RX4) (T := TX4) (N := 11) (ci := 3) hx hb hts hown hK hM inX4 rfl 7 (by decide) qw_4_91 rfl (mu_g (ne_oi hmo hse) (mu_g (ne_oi hmo hfi) mu_s)) rfl dX4_matingMove_90 ?_
            refine wr_go0 (wr_runV (As := [.ref fi, .ref se]) (rest := []) hx hb hml hown hts hK hM okV_RX4_131_X4_hasMove (met_X4_hasMove l mo ro no fi se t3 le od 0 ac oc su fi se (mApply f (i / 64) (i % 64)) gb lf (mu_g (ne_oi hmo hse) (mu_g (ne_oi hmo hfi) mu_s)) (mu_g (Ne.symm n_se_le) (mu_g (Ne.symm n_fi_le) (mu_g (ne_io hle hmo) hle))) (mu_g n_fi_se mu_s) mu_s hwr.1 hwr.2.1 hwr.2.2 hL n_fi_se (Ne.symm n_se_le) hA_se) (mu_g (ne_oi hmo hse) (mu_g (ne_oi hmo hfi) mu_s)) rfl rfl rfl ⟨Nat.le_of_ble_eq_true rfl, Nat.le_of_ble_eq_true rfl⟩ hl.1 rfl (Nat.le_of_ble_eq_true rfl) dX4_matingMove_93 ⟨Nat.le_refl _, Nat.le_refl _⟩) hS (fun M1 H locs hR hM hS => ?_)
            obtain ⟨g1_93, rfl⟩ := hR
            rw [mu_mu] at hM
            refine zb_ne (tgt := 101) hx hb (mHas (mApply f (i / 64) (i % 64))) dX4_matingMove_96 (by decide) (fun c_96 => ?_) (fun c_96 => ?_)
            · skip
              refine ni_iinc (lv' := [(1, .int (nI (i + 1))), (0, .ref mo)]) hx hb i 1 dX4_matingMove_101 hl (k := 0) rfl (by decide) (by decide) rfl (fun ls hl => ?_)
              refine lv_goto (tgt := 7) hx hb dX4_matingMove_104 (by decide) ?_
              exact ih (i + 1, mApply f (i / 64) (i % 64), g1_93) ⟨by first | omega | (dsimp only <;> omega), by rw [hres]; simp [mFirst, mMate, mOkMove, oI_n, oI_s, c_11, Nat.not_le.mpr c_11, Nat.le_of_lt c_11, c_40, c_63, c_81, c_96]⟩ _ _ hM hS ls (lv_sub hl [0,1] rfl)
            · skip
              refine lv_iload_n hx hb dX4_matingMove_99 rfl (lv_at hl 0 rfl) ?_
              exact wr_ireturn hx hb hr hlk hM hS (Nat.le_refl _) (Nat.le_refl _) (by rw [hres]; simp [mFirst, mMate, mOkMove, oI_n, oI_s, bI_t, bI_f, c_11, Nat.not_le.mpr c_11, Nat.le_of_lt c_11, c_40, c_63, c_81, c_96]) ⟨(mApply f (i / 64) (i % 64)), g1_93, rfl⟩ dX4_matingMove_100
set_option maxHeartbeats 4000000 in
set_option maxRecDepth 100000 in
theorem met_X4_countSequences_b (l : Launch) {D : va_G} {cI cJ : ClassId} {M : MP} {A : Nat → Prop} {sz : Nat} (mo ro no fi se t3 le od th ac oc : Nat) (su : Bool) (x : Int32) (hmo : M mo = some (.inr (3, [.int (nI th), .int (bI su), .ref ro, .int (nI ac), .int (nI oc), .ref no, .ref fi, .ref se, .ref t3, .ref le, .ref od]))) (hbx : mIs12 x = false) (hA_mo : A mo) : Wr l yX4_countSequences cX4_countSequences 4 (some .int) 7 0 0 D cI cJ [.ref mo, .int x] M sz A (some (.int (nI 0))) (fun M' => M' = mu M mo (.inr (3, [.int (nI 1), .int (bI su), .ref ro, .int (nI ac), .int (nI oc), .ref no, .ref fi, .ref se, .ref t3, .ref le, .ref od]))) := by
  refine wr_start (by decide) (Nat.le_of_ble_eq_true rfl) ?_
  intro p e s m args below meth c hx hb hr hml hown hts hlk hini hK hsz H hH0 hM hS ls hl
  clear hH0
  have hl : lv_has ls 4 [(0, .ref mo), (1, .int x)] := hl
  refine lv_aload_n hx hb dX4_countSequences_0 rfl (lv_at hl 0 rfl) ?_
  refine lv_iload_n hx hb dX4_countSequences_1 rfl (lv_at hl 1 rfl) ?_
  refine lv_iconst (v := nI 1) hx hb dX4_countSequences_2 (by decide) ?_
  refine meet (ls := ls) (pcJ := 16) (st := [.int (bI (mIs12 x)), .ref mo]) ?_ (fun hJ16 => ?_)
  · skip
    refine topi (bI false) (by rw [hbx]) ?_
    refine wr_go0 (wr_runV (As := [.int (bI false)]) (rest := []) hx hb hml hown hts hK hM okV_RX4_163_X4_isGood (met_X4_isGood l mo ro no fi se t3 le od th ac oc su false hmo hA_mo) hmo rfl rfl rfl ⟨Nat.le_of_ble_eq_true rfl, Nat.le_of_ble_eq_true rfl⟩ hl.1 rfl (Nat.le_of_ble_eq_true rfl) dX4_countSequences_16 ⟨Nat.le_refl _, Nat.le_refl _⟩) hS (fun M1 H locs hR hM hS => ?_)
    obtain rfl := hR
    refine zb_ne (tgt := 24) hx hb false dX4_countSequences_19 (by decide) (fun h => absurd (h.symm.trans (rfl : false = false)) (by decide)) (fun _ => ?_)
    refine lv_iconst (v := nI 0) hx hb dX4_countSequences_22 (by decide) ?_
    exact wr_ireturn hx hb hr hlk hM hS (Nat.le_refl _) (Nat.le_refl _) rfl (by rw [show nI 1 = nI (gN false) from rfl]) dX4_countSequences_23
  · skip
    refine lv_icmp_eq (tgt := 11) hx hb dX4_countSequences_3 (by decide) (fun c_3 => ?_) (fun c_3 => ?_)
    · skip
      refine lv_iconst (v := nI 1) hx hb dX4_countSequences_11 (by decide) ?_
      refine lv_goto (tgt := 16) hx hb dX4_countSequences_12 (by decide) ?_
      exact topi (bI (mIs12 x)) (by simp [mIs12, c_3, bI_t, bI_f]) hJ16
    · skip
      refine lv_iload_n hx hb dX4_countSequences_6 rfl (lv_at hl 1 rfl) ?_
      refine lv_iconst (v := nI 2) hx hb dX4_countSequences_7 (by decide) ?_
      refine lv_icmp_ne (tgt := 15) hx hb dX4_countSequences_8 (by decide) (fun c_8 => ?_) (fun c_8 => ?_)
      · skip
        refine lv_iconst (v := nI 0) hx hb dX4_countSequences_15 (by decide) ?_
        exact topi (bI (mIs12 x)) (by simp [mIs12, c_3, c_8, bI_t, bI_f]) hJ16
      · skip
        refine lv_iconst (v := nI 1) hx hb dX4_countSequences_11 (by decide) ?_
        refine lv_goto (tgt := 16) hx hb dX4_countSequences_12 (by decide) ?_
        exact topi (bI (mIs12 x)) (by simp [mIs12, c_3, c_8, bI_t, bI_f]) hJ16
set_option maxHeartbeats 4000000 in
set_option maxRecDepth 100000 in
theorem met_X4_countSequences_s (l : Launch) {D : va_G} {cI cJ : ClassId} {M : MP} {A : Nat → Prop} {sz : Nat} (mo ro no fi se t3 le od th ac oc : Nat) (su : Bool) (k : Nat) (hmo : M mo = some (.inr (3, [.int (nI th), .int (bI su), .ref ro, .int (nI ac), .int (nI oc), .ref no, .ref fi, .ref se, .ref t3, .ref le, .ref od]))) (hk : k = 1 ∨ k = 2) (hsu : su = true) (hA_mo : A mo) : Wr l yX4_countSequences cX4_countSequences 4 (some .int) 7 0 0 D cI cJ [.ref mo, .int (nI k)] M sz A (some (.int (nI 0))) (fun M' => M' = mu M mo (.inr (3, [.int (nI 0), .int (bI su), .ref ro, .int (nI ac), .int (nI oc), .ref no, .ref fi, .ref se, .ref t3, .ref le, .ref od]))) := by
  refine wr_start (by decide) (Nat.le_of_ble_eq_true rfl) ?_
  intro p e s m args below meth c hx hb hr hml hown hts hlk hini hK hsz H hH0 hM hS ls hl
  clear hH0
  have hl : lv_has ls 4 [(0, .ref mo), (1, .int (nI k))] := hl
  refine lv_aload_n hx hb dX4_countSequences_0 rfl (lv_at hl 0 rfl) ?_
  refine lv_iload_n hx hb dX4_countSequences_1 rfl (lv_at hl 1 rfl) ?_
  refine lv_iconst (v := nI 1) hx hb dX4_countSequences_2 (by decide) ?_
  refine meet (ls := ls) (pcJ := 16) (st := [.int (bI true), .ref mo]) ?_ (fun hJ16 => ?_)
  · skip
    refine wr_go0 (wr_runV (As := [.int (bI true)]) (rest := []) hx hb hml hown hts hK hM okV_RX4_163_X4_isGood (met_X4_isGood l mo ro no fi se t3 le od th ac oc su true hmo hA_mo) hmo rfl rfl rfl ⟨Nat.le_of_ble_eq_true rfl, Nat.le_of_ble_eq_true rfl⟩ hl.1 rfl (Nat.le_of_ble_eq_true rfl) dX4_countSequences_16 ⟨Nat.le_refl _, Nat.le_refl _⟩) hS (fun M1 H locs hR hM hS => ?_)
    obtain rfl := hR
    refine zb_ne (tgt := 24) hx hb true dX4_countSequences_19 (by decide) (fun _ => ?_) (fun h => absurd (h.symm.trans (rfl : true = true)) (by decide))
    refine lv_aload_n hx hb dX4_countSequences_24 rfl (lv_at hl 0 rfl) ?_
    refine w_get (C := RX4) (T := TX4) (N := 11) (ci := 3) hx hb hts hown hK hM inX4 rfl 1 (by decide) qw_4_85 rfl mu_s rfl dX4_countSequences_25 ?_
    refine topi (bI true) (by rw [hsu]) ?_
    refine zb_ne (tgt := 36) hx hb true dX4_countSequences_28 (by decide) (fun _ => ?_) (fun h => absurd (h.symm.trans (rfl : true = true)) (by decide))
    refine lv_aload_n hx hb dX4_countSequences_36 rfl (lv_at hl 0 rfl) ?_
    refine w_get (C := RX4) (T := TX4) (N := 11) (ci := 3) hx hb hts hown hK hM inX4 rfl 1 (by decide) qw_4_85 rfl mu_s rfl dX4_countSequences_37 ?_
    refine topi (bI true) (by rw [hsu]) ?_
    refine zb_eq (tgt := 47) hx hb true dX4_countSequences_40 (by decide) (fun h => absurd (h.symm.trans (rfl : true = true)) (by decide)) (fun _ => ?_)
    refine lv_iconst (v := nI 0) hx hb dX4_countSequences_43 (by decide) ?_
    refine lv_goto (tgt := 59) hx hb dX4_countSequences_44 (by decide) ?_
    exact wr_ireturn hx hb hr hlk hM hS (Nat.le_refl _) (Nat.le_refl _) rfl (by rw [show nI 0 = nI (gN true) from rfl]) dX4_countSequences_59
  · skip
    refine ni_eq (tgt := 11) hx hb k 1 (by omega) (by omega) dX4_countSequences_3 (by decide) (fun c_3 => ?_) (fun c_3 => ?_)
    · skip
      refine lv_iconst (v := nI 1) hx hb dX4_countSequences_11 (by decide) ?_
      refine lv_goto (tgt := 16) hx hb dX4_countSequences_12 (by decide) ?_
      exact topi (bI true) (by first | rfl | (exfalso; omega)) hJ16
    · skip
      refine lv_iload_n hx hb dX4_countSequences_6 rfl (lv_at hl 1 rfl) ?_
      refine lv_iconst (v := nI 2) hx hb dX4_countSequences_7 (by decide) ?_
      refine ni_ne (tgt := 15) hx hb k 2 (by omega) (by omega) dX4_countSequences_8 (by decide) (fun c_8 => ?_) (fun c_8 => ?_)
      · skip
        refine lv_iconst (v := nI 0) hx hb dX4_countSequences_15 (by decide) ?_
        exact topi (bI true) (by first | rfl | (exfalso; omega)) hJ16
      · skip
        refine lv_iconst (v := nI 1) hx hb dX4_countSequences_11 (by decide) ?_
        refine lv_goto (tgt := 16) hx hb dX4_countSequences_12 (by decide) ?_
        exact topi (bI true) (by first | rfl | (exfalso; omega)) hJ16
set_option maxHeartbeats 4000000 in
set_option maxRecDepth 100000 in
theorem met_X4_countSequences_1 (l : Launch) {D : va_G} {cI cJ : ClassId} {M : MP} {A : Nat → Prop} {sz : Nat} (mo ro no fi se t3 le od th ac oc : Nat) (su : Bool) (f g lf : Nat → Int32) (hmo : M mo = some (.inr (3, [.int (nI th), .int (bI su), .ref ro, .int (nI ac), .int (nI oc), .ref no, .ref fi, .ref se, .ref t3, .ref le, .ref od]))) (hno : M no = some (eI cI 146 f)) (hfi : M fi = some (eI cI 146 g)) (hle : M le = some (eI cI 4096 lf)) (hsu : su = false) (hP : WfP f) (hB : WfB f) (hs : WfS f) (hL : WfL lf) (hnf : no ≠ fi) (hlf : le ≠ fi) (hA_mo : A mo) (hA_fi : A fi) : Wr l yX4_countSequences cX4_countSequences 4 (some .int) 7 0 0 D cI cJ [.ref mo, .int (nI 1)] M sz A (some (.int (nI (mMoves f)))) (fun M' => ∃ g1 : Nat → Int32, M' = mu (mu M mo (.inr (3, [.int (nI 0), .int (bI su), .ref ro, .int (nI ac), .int (nI oc), .ref no, .ref fi, .ref se, .ref t3, .ref le, .ref od]))) fi (eI cI 146 g1)) := by
  refine wr_start (by decide) (Nat.le_of_ble_eq_true rfl) ?_
  intro p e s m args below meth c hx hb hr hml hown hts hlk hini hK hsz H hH0 hM hS ls hl
  clear hH0
  have hl : lv_has ls 4 [(0, .ref mo), (1, .int (nI 1))] := hl
  refine lv_aload_n hx hb dX4_countSequences_0 rfl (lv_at hl 0 rfl) ?_
  refine lv_iload_n hx hb dX4_countSequences_1 rfl (lv_at hl 1 rfl) ?_
  refine lv_iconst (v := nI 1) hx hb dX4_countSequences_2 (by decide) ?_
  refine mm_eq (tgt := 11) hx hb (nI 1) dX4_countSequences_3 (by decide) ?_
  refine lv_iconst (v := nI 1) hx hb dX4_countSequences_11 (by decide) ?_
  refine lv_goto (tgt := 16) hx hb dX4_countSequences_12 (by decide) ?_
  refine topi (bI true) rfl ?_
  refine wr_go0 (wr_runV (As := [.int (bI true)]) (rest := []) hx hb hml hown hts hK hM okV_RX4_163_X4_isGood (met_X4_isGood l mo ro no fi se t3 le od th ac oc su true hmo hA_mo) hmo rfl rfl rfl ⟨Nat.le_of_ble_eq_true rfl, Nat.le_of_ble_eq_true rfl⟩ hl.1 rfl (Nat.le_of_ble_eq_true rfl) dX4_countSequences_16 ⟨Nat.le_refl _, Nat.le_refl _⟩) hS (fun M1 H locs hR hM hS => ?_)
  obtain rfl := hR
  refine zb_ne (tgt := 24) hx hb true dX4_countSequences_19 (by decide) (fun _ => ?_) (fun h => absurd (h.symm.trans (rfl : true = true)) (by decide))
  refine lv_aload_n hx hb dX4_countSequences_24 rfl (lv_at hl 0 rfl) ?_
  refine w_get (C := RX4) (T := TX4) (N := 11) (ci := 3) hx hb hts hown hK hM inX4 rfl 1 (by decide) qw_4_85 rfl mu_s rfl dX4_countSequences_25 ?_
  refine topi (bI false) (by rw [hsu]) ?_
  refine zb_ne (tgt := 36) hx hb false dX4_countSequences_28 (by decide) (fun h => absurd (h.symm.trans (rfl : false = false)) (by decide)) (fun _ => ?_)
  refine lv_iload_n hx hb dX4_countSequences_31 rfl (lv_at hl 1 rfl) ?_
  refine lv_iconst (v := nI 1) hx hb dX4_countSequences_32 (by decide) ?_
  refine mm_ne (tgt := 60) hx hb (nI 1) dX4_countSequences_33 (by decide) ?_
  refine lv_aload_n hx hb dX4_countSequences_36 rfl (lv_at hl 0 rfl) ?_
  refine w_get (C := RX4) (T := TX4) (N := 11) (ci := 3) hx hb hts hown hK hM inX4 rfl 1 (by decide) qw_4_85 rfl mu_s rfl dX4_countSequences_37 ?_
  refine topi (bI false) (by rw [hsu]) ?_
  refine zb_eq (tgt := 47) hx hb false dX4_countSequences_40 (by decide) (fun _ => ?_) (fun h => absurd (h.symm.trans (rfl : false = false)) (by decide))
  refine lv_aload_n hx hb dX4_countSequences_47 rfl (lv_at hl 0 rfl) ?_
  refine lv_aload_n hx hb dX4_countSequences_48 rfl (lv_at hl 0 rfl) ?_
  refine w_get (C := RX4) (T := TX4) (N := 11) (ci := 3) hx hb hts hown hK hM inX4 rfl 5 (by decide) qw_4_89 rfl mu_s rfl dX4_countSequences_49 ?_
  refine lv_aload_n hx hb dX4_countSequences_52 rfl (lv_at hl 0 rfl) ?_
  refine w_get (C := RX4) (T := TX4) (N := 11) (ci := 3) hx hb hts hown hK hM inX4 rfl 6 (by decide) qw_4_90 rfl mu_s rfl dX4_countSequences_53 ?_
  refine wr_go0 (wr_runV (As := [.ref no, .ref fi]) (rest := []) hx hb hml hown hts hK hM okV_RX4_186_X4_countMoves (met_X4_countMoves l mo ro no fi se t3 le od (gN true) ac oc su no fi f g lf mu_s (mu_g (ne_io hle hmo) hle) (mu_g (ne_io hno hmo) hno) (mu_g (ne_io hfi hmo) hfi) hP hB hs hL hnf hlf hA_fi) mu_s rfl rfl rfl ⟨Nat.le_of_ble_eq_true rfl, Nat.le_of_ble_eq_true rfl⟩ hl.1 rfl (Nat.le_of_ble_eq_true rfl) dX4_countSequences_56 ⟨Nat.le_refl _, Nat.le_refl _⟩) hS (fun M1 H locs hR hM hS => ?_)
  obtain ⟨g1_56, rfl⟩ := hR
  have hf56_0 := mMoves_le f
  exact wr_ireturn hx hb hr hlk hM hS (Nat.le_refl _) (Nat.le_refl _) rfl ⟨g1_56, (by rw [show nI 0 = nI (gN true) from rfl])⟩ dX4_countSequences_59
set_option maxHeartbeats 4000000 in
set_option maxRecDepth 100000 in
theorem met_X4_countSequences_2 (l : Launch) {D : va_G} {cI cJ : ClassId} {M : MP} {A : Nat → Prop} {sz : Nat} (mo ro no fi se t3 le od th ac oc : Nat) (su : Bool) (f g g2 g3 lf : Nat → Int32) (hmo : M mo = some (.inr (3, [.int (nI th), .int (bI su), .ref ro, .int (nI ac), .int (nI oc), .ref no, .ref fi, .ref se, .ref t3, .ref le, .ref od]))) (hno : M no = some (eI cI 146 f)) (hse : M se = some (eI cI 146 g2)) (ht3 : M t3 = some (eI cI 146 g3)) (hle : M le = some (eI cI 4096 lf)) (hsu : su = false) (hP : WfP f) (hB : WfB f) (hs : WfS f) (hL : WfL lf) (hap : Apart6 ro no fi se t3 le) (hA_mo : A mo) (hA_se : A se) (hA_t3 : A t3) : Wr l yX4_countSequences cX4_countSequences 4 (some .int) 7 0 0 D cI cJ [.ref mo, .int (nI 2)] M sz A (some (.int (nI (mSeqs f)))) (fun M' => ∃ g1 : Nat → Int32, ∃ g4 : Nat → Int32, M' = mu (mu (mu M mo (.inr (3, [.int (nI 0), .int (bI su), .ref ro, .int (nI ac), .int (nI oc), .ref no, .ref fi, .ref se, .ref t3, .ref le, .ref od]))) se (eI cI 146 g1)) t3 (eI cI 146 g4)) := by
  refine wr_start (by decide) (Nat.le_of_ble_eq_true rfl) ?_
  intro p e s m args below meth c hx hb hr hml hown hts hlk hini hK hsz H hH0 hM hS ls hl
  clear hH0
  have hl : lv_has ls 4 [(0, .ref mo), (1, .int (nI 2))] := hl
  have hap0 := hap
  obtain ⟨⟨n_ro_no, n_ro_fi, n_ro_se, n_ro_t3, n_ro_le⟩, ⟨n_no_fi, n_no_se, n_no_t3, n_no_le⟩, ⟨n_fi_se, n_fi_t3, n_fi_le⟩, ⟨n_se_t3, n_se_le⟩, n_t3_le⟩ := hap0
  have hs8 := mSide_le f
  refine lv_aload_n hx hb dX4_countSequences_0 rfl (lv_at hl 0 rfl) ?_
  refine lv_iload_n hx hb dX4_countSequences_1 rfl (lv_at hl 1 rfl) ?_
  refine lv_iconst (v := nI 1) hx hb dX4_countSequences_2 (by decide) ?_
  refine ni_eq (tgt := 11) hx hb 2 1 (by omega) (by omega) dX4_countSequences_3 (by decide) (fun c_3 => ?_) (fun c_3 => ?_)
  · skip
    exfalso; omega
  · skip
    refine lv_iload_n hx hb dX4_countSequences_6 rfl (lv_at hl 1 rfl) ?_
    refine lv_iconst (v := nI 2) hx hb dX4_countSequences_7 (by decide) ?_
    refine mm_ne (tgt := 15) hx hb (nI 2) dX4_countSequences_8 (by decide) ?_
    refine lv_iconst (v := nI 1) hx hb dX4_countSequences_11 (by decide) ?_
    refine lv_goto (tgt := 16) hx hb dX4_countSequences_12 (by decide) ?_
    refine topi (bI true) rfl ?_
    refine wr_go0 (wr_runV (As := [.int (bI true)]) (rest := []) hx hb hml hown hts hK hM okV_RX4_163_X4_isGood (met_X4_isGood l mo ro no fi se t3 le od th ac oc su true hmo hA_mo) hmo rfl rfl rfl ⟨Nat.le_of_ble_eq_true rfl, Nat.le_of_ble_eq_true rfl⟩ hl.1 rfl (Nat.le_of_ble_eq_true rfl) dX4_countSequences_16 ⟨Nat.le_refl _, Nat.le_refl _⟩) hS (fun M1 H locs hR hM hS => ?_)
    obtain rfl := hR
    refine zb_ne (tgt := 24) hx hb true dX4_countSequences_19 (by decide) (fun _ => ?_) (fun h => absurd (h.symm.trans (rfl : true = true)) (by decide))
    refine lv_aload_n hx hb dX4_countSequences_24 rfl (lv_at hl 0 rfl) ?_
    refine w_get (C := RX4) (T := TX4) (N := 11) (ci := 3) hx hb hts hown hK hM inX4 rfl 1 (by decide) qw_4_85 rfl mu_s rfl dX4_countSequences_25 ?_
    refine topi (bI false) (by rw [hsu]) ?_
    refine zb_ne (tgt := 36) hx hb false dX4_countSequences_28 (by decide) (fun h => absurd (h.symm.trans (rfl : false = false)) (by decide)) (fun _ => ?_)
    refine lv_iload_n hx hb dX4_countSequences_31 rfl (lv_at hl 1 rfl) ?_
    refine lv_iconst (v := nI 1) hx hb dX4_countSequences_32 (by decide) ?_
    refine ni_ne (tgt := 60) hx hb 2 1 (by omega) (by omega) dX4_countSequences_33 (by decide) (fun c_33 => ?_) (fun c_33 => ?_)
    · skip
      refine lv_iconst (v := nI 0) hx hb dX4_countSequences_60 (by decide) ?_
      refine lv_istore_n (lv' := [(2, .int (nI 0)), (0, .ref mo), (1, .int (nI 2))]) hx hb dX4_countSequences_61 rfl hl (by decide) rfl (fun ls hl => ?_)
      refine lv_iconst (v := nI 0) hx hb dX4_countSequences_62 (by decide) ?_
      refine lv_istore_n (lv' := [(3, .int (nI 0)), (2, .int (nI 0)), (0, .ref mo), (1, .int (nI 2))]) hx hb dX4_countSequences_63 rfl hl (by decide) rfl (fun ls hl => ?_)
      rw [← mu_id (a := se) (e := eI cI 146 g2) (mu_g (ne_io hse hmo) hse)] at hM
      rw [← mu_id (a := t3) (e := eI cI 146 g3) (mu_g (Ne.symm n_se_t3) (mu_g (ne_io ht3 hmo) ht3))] at hM
      refine loopW (pcH := 64) (st := []) (ι := Nat × Nat × (Nat → Int32) × (Nat → Int32)) (fun ξ => mu (mu (mu M mo (.inr (3, [.int (nI (gN true)), .int (bI su), .ref ro, .int (nI ac), .int (nI oc), .ref no, .ref fi, .ref se, .ref t3, .ref le, .ref od]))) se (eI cI 146 (ξ.2.2.1))) t3 (eI cI 146 (ξ.2.2.2))) (fun ξ => [(3, .int (nI (ξ.2.1))), (2, .int (nI (ξ.1))), (0, .ref mo), (1, .int (nI 2))]) (fun n ξ => (ξ.2.1) + n = 4096 ∧ mSeqs f = mFoldL (mSeq1 f) n (ξ.2.1) (ξ.1)) ?_ ?_ 4096 (0, 0, g2, g3) ⟨by first | omega | (dsimp only <;> omega), rfl⟩ hM hS ls (lv_sub hl [0,1,2,3] rfl)
      · rintro ⟨r, i, ga, gb⟩ ⟨hin, hres⟩ H locs hM hS ls hl
        try dsimp only at hl hin hres hM
        refine lv_iload_n hx hb dX4_countSequences_64 rfl (lv_at hl 0 rfl) ?_
        refine lv_sipush (v := nI 4096) hx hb dX4_countSequences_65 (by decide) ?_
        refine ni_ge (tgt := 137) hx hb i 4096 (by omega) (by omega) dX4_countSequences_68 (by decide) (fun c_68 => ?_) (fun c_68 => ?_)
        · skip
          refine lv_iload_n hx hb dX4_countSequences_137 rfl (lv_at hl 1 rfl) ?_
          exact wr_ireturn hx hb hr hlk hM hS (Nat.le_refl _) (Nat.le_refl _) (by rw [hres]; simp [mFoldL, mSeq1, mOkMove, bI_t, bI_f, c_3, c_33, c_68, Nat.not_lt.mpr c_68]) ⟨ga, gb, (by rw [show nI 0 = nI (gN true) from rfl])⟩ dX4_countSequences_138
        · skip
          exfalso; omega
      · rintro n ih ⟨r, i, ga, gb⟩ ⟨hin, hres⟩ H locs hM hS ls hl
        try dsimp only at hl hin hres hM
        refine lv_iload_n hx hb dX4_countSequences_64 rfl (lv_at hl 0 rfl) ?_
        refine lv_sipush (v := nI 4096) hx hb dX4_countSequences_65 (by decide) ?_
        refine ni_ge (tgt := 137) hx hb i 4096 (by omega) (by omega) dX4_countSequences_68 (by decide) (fun c_68 => ?_) (fun c_68 => ?_)
        · skip
          exfalso; omega
        · skip
          refine lv_aload_n hx hb dX4_countSequences_71 rfl (lv_at hl 2 rfl) ?_
          refine w_get (C := RX4) (T := TX4) (N := 11) (ci := 3) hx hb hts hown hK hM inX4 rfl 5 (by decide) qw_4_89 rfl (mu_g (ne_oi hmo ht3) (mu_g (ne_oi hmo hse) mu_s)) rfl dX4_countSequences_72 ?_
          refine lv_iload_n hx hb dX4_countSequences_75 rfl (lv_at hl 0 rfl) ?_
          refine lv_bipush (v := nI 64) hx hb dX4_countSequences_76 (by decide) ?_
          refine ni_div hx hb i 64 (by omega) (by decide) (by decide) dX4_countSequences_78 ?_
          refine lv_aload_n hx hb dX4_countSequences_79 rfl (lv_at hl 2 rfl) ?_
          refine w_get (C := RX4) (T := TX4) (N := 11) (ci := 3) hx hb hts hown hK hM inX4 rfl 5 (by decide) qw_4_89 rfl (mu_g (ne_oi hmo ht3) (mu_g (ne_oi hmo hse) mu_s)) rfl dX4_countSequences_80 ?_
          refine lv_sipush (v := nI 128) hx hb dX4_countSequences_83 (by decide) ?_
          refine w_iald hx hb hK hM (mu_g n_no_t3 (mu_g n_no_se (mu_g (ne_io hno hmo) hno))) 128 (by omega) (by decide) dX4_countSequences_86 ?_
          refine topi (nI (mSide f)) hs ?_
          refine rd_goI (rd_runS (As := [.ref no, .int (nI (i / 64)), .int (nI (mSide f))]) (rest := []) hx hb hml hown hts hK hM okS_RX4_76_X4_isOf (met_X4_isOf l no (i / 64) (mSide f) f (mu_g n_no_t3 (mu_g n_no_se (mu_g (ne_io hno hmo) hno))) (by omega) (by omega)) rfl ⟨Nat.le_of_ble_eq_true rfl, Nat.le_of_ble_eq_true rfl⟩ hl.1 rfl (Nat.le_of_ble_eq_true rfl) dX4_countSequences_87 ⟨Nat.le_refl _, Nat.le_refl _⟩) ?_
          refine zb_eq (tgt := 131) hx hb (mIsOf f (i / 64) (mSide f)) dX4_countSequences_90 (by decide) (fun c_90 => ?_) (fun c_90 => ?_)
          · skip
            refine ni_iinc (lv' := [(3, .int (nI (i + 1))), (2, .int (nI r)), (0, .ref mo), (1, .int (nI 2))]) hx hb i 1 dX4_countSequences_131 hl (k := 0) rfl (by decide) (by decide) rfl (fun ls hl => ?_)
            refine lv_goto (tgt := 64) hx hb dX4_countSequences_134 (by decide) ?_
            exact ih (r, i + 1, ga, gb) ⟨by first | omega | (dsimp only <;> omega), by rw [hres]; simp [mFoldL, mSeq1, mOkMove, c_3, c_33, c_68, Nat.not_le.mpr c_68, Nat.le_of_lt c_68, c_90]⟩ _ _ hM hS ls (lv_sub hl [0,1,2,3] rfl)
          · skip
            refine lv_aload_n hx hb dX4_countSequences_93 rfl (lv_at hl 2 rfl) ?_
            refine lv_aload_n hx hb dX4_countSequences_94 rfl (lv_at hl 2 rfl) ?_
            refine w_get (C := RX4) (T := TX4) (N := 11) (ci := 3) hx hb hts hown hK hM inX4 rfl 5 (by decide) qw_4_89 rfl (mu_g (ne_oi hmo ht3) (mu_g (ne_oi hmo hse) mu_s)) rfl dX4_countSequences_95 ?_
            refine lv_iload_n hx hb dX4_countSequences_98 rfl (lv_at hl 0 rfl) ?_
            refine lv_bipush (v := nI 64) hx hb dX4_countSequences_99 (by decide) ?_
            refine ni_div hx hb i 64 (by omega) (by decide) (by decide) dX4_countSequences_101 ?_
            refine lv_iload_n hx hb dX4_countSequences_102 rfl (lv_at hl 0 rfl) ?_
            refine lv_bipush (v := nI 64) hx hb dX4_countSequences_103 (by decide) ?_
            refine ni_rem hx hb i 64 (by omega) (by decide) (by decide) dX4_countSequences_105 ?_
            refine lv_aload_n hx hb dX4_countSequences_106 rfl (lv_at hl 2 rfl) ?_
            refine w_get (C := RX4) (T := TX4) (N := 11) (ci := 3) hx hb hts hown hK hM inX4 rfl 7 (by decide) qw_4_91 rfl (mu_g (ne_oi hmo ht3) (mu_g (ne_oi hmo hse) mu_s)) rfl dX4_countSequences_107 ?_
            refine wr_go0 (wr_runV (As := [.ref no, .int (nI (i / 64)), .int (nI (i % 64)), .ref se]) (rest := []) hx hb hml hown hts hK hM okV_RX4_113_X4_reason (met_X4_reason l mo ro no fi se t3 le od (gN true) ac oc su no (i / 64) (i % 64) se f ga lf (mu_g (ne_oi hmo ht3) (mu_g (ne_oi hmo hse) mu_s)) (mu_g (Ne.symm n_t3_le) (mu_g (Ne.symm n_se_le) (mu_g (ne_io hle hmo) hle))) (mu_g n_no_t3 (mu_g n_no_se (mu_g (ne_io hno hmo) hno))) (mu_g n_se_t3 mu_s) (by omega) (by omega) hP hB hs hL n_no_se (Ne.symm n_se_le) hA_se) (mu_g (ne_oi hmo ht3) (mu_g (ne_oi hmo hse) mu_s)) rfl rfl rfl ⟨Nat.le_of_ble_eq_true rfl, Nat.le_of_ble_eq_true rfl⟩ hl.1 rfl (Nat.le_of_ble_eq_true rfl) dX4_countSequences_110 ⟨Nat.le_refl _, Nat.le_refl _⟩) hS (fun M1 H locs hR hM hS => ?_)
            obtain rfl := hR
            rw [mu_comm (Ne.symm n_se_t3), mu_mu] at hM
            have hf110_0 := mReason_le f (i / 64) (i % 64)
            refine n0_ne (tgt := 131) hx hb (mReason f (i / 64) (i % 64)) (by omega) dX4_countSequences_113 (by decide) (fun c_113 => ?_) (fun c_113 => ?_)
            · skip
              refine ni_iinc (lv' := [(3, .int (nI (i + 1))), (2, .int (nI r)), (0, .ref mo), (1, .int (nI 2))]) hx hb i 1 dX4_countSequences_131 hl (k := 0) rfl (by decide) (by decide) rfl (fun ls hl => ?_)
              refine lv_goto (tgt := 64) hx hb dX4_countSequences_134 (by decide) ?_
              exact ih (r, i + 1, mAft f ga (i / 64) (i % 64), gb) ⟨by first | omega | (dsimp only <;> omega), by rw [hres]; simp [mFoldL, mSeq1, mOkMove, c_3, c_33, c_68, Nat.not_le.mpr c_68, Nat.le_of_lt c_68, c_90, c_113]⟩ _ _ hM hS ls (lv_sub hl [0,1,2,3] rfl)
            · skip
              have hra := reason0 c_113
              rw [hra.2.2 ga] at hM
              have hwr := WfR_apply ⟨hP, hB, hs⟩ (show i / 64 < 64 by omega) (show i % 64 < 64 by omega)
              have hs9 := mSide_le (mApply f (i / 64) (i % 64))
              refine lv_iload_n hx hb dX4_countSequences_116 rfl (lv_at hl 1 rfl) ?_
              refine lv_aload_n hx hb dX4_countSequences_117 rfl (lv_at hl 2 rfl) ?_
              refine lv_aload_n hx hb dX4_countSequences_118 rfl (lv_at hl 2 rfl) ?_
              refine w_get (C := RX4) (T := TX4) (N := 11) (ci := 3) hx hb hts hown hK hM inX4 rfl 7 (by decide) qw_4_91 rfl (mu_g (ne_oi hmo ht3) (mu_g (ne_oi hmo hse) mu_s)) rfl dX4_countSequences_119 ?_
              refine lv_aload_n hx hb dX4_countSequences_122 rfl (lv_at hl 2 rfl) ?_
              refine w_get (C := RX4) (T := TX4) (N := 11) (ci := 3) hx hb hts hown hK hM inX4 rfl 8 (by decide) qw_4_92 rfl (mu_g (ne_oi hmo ht3) (mu_g (ne_oi hmo hse) mu_s)) rfl dX4_countSequences_123 ?_
              refine wr_go0 (wr_runV (As := [.ref se, .ref t3]) (rest := [.int (nI r)]) hx hb hml hown hts hK hM okV_RX4_186_X4_countMoves (met_X4_countMoves l mo ro no fi se t3 le od (gN true) ac oc su se t3 (mApply f (i / 64) (i % 64)) gb lf (mu_g (ne_oi hmo ht3) (mu_g (ne_oi hmo hse) mu_s)) (mu_g (Ne.symm n_t3_le) (mu_g (Ne.symm n_se_le) (mu_g (ne_io hle hmo) hle))) (mu_g n_se_t3 mu_s) mu_s hwr.1 hwr.2.1 hwr.2.2 hL n_se_t3 (Ne.symm n_t3_le) hA_t3) (mu_g (ne_oi hmo ht3) (mu_g (ne_oi hmo hse) mu_s)) rfl rfl rfl ⟨Nat.le_of_ble_eq_true rfl, Nat.le_of_ble_eq_true rfl⟩ hl.1 rfl (Nat.le_of_ble_eq_true rfl) dX4_countSequences_126 ⟨Nat.le_refl _, Nat.le_refl _⟩) hS (fun M1 H locs hR hM hS => ?_)
              obtain ⟨g1_126, rfl⟩ := hR
              rw [mu_mu] at hM
              have hf126_0 := mMoves_le (mApply f (i / 64) (i % 64))
              refine ni_add hx hb r (mMoves (mApply f (i / 64) (i % 64))) dX4_countSequences_129 ?_
              refine lv_istore_n (lv' := [(2, .int (nI (r + (mMoves (mApply f (i / 64) (i % 64)))))), (3, .int (nI i)), (0, .ref mo), (1, .int (nI 2))]) hx hb dX4_countSequences_130 rfl hl (by decide) rfl (fun ls hl => ?_)
              refine ni_iinc (lv' := [(3, .int (nI (i + 1))), (2, .int (nI (r + (mMoves (mApply f (i / 64) (i % 64)))))), (0, .ref mo), (1, .int (nI 2))]) hx hb i 1 dX4_countSequences_131 hl (k := 1) rfl (by decide) (by decide) rfl (fun ls hl => ?_)
              refine lv_goto (tgt := 64) hx hb dX4_countSequences_134 (by decide) ?_
              exact ih (r + (mMoves (mApply f (i / 64) (i % 64))), i + 1, mApply f (i / 64) (i % 64), g1_126) ⟨by first | omega | (dsimp only <;> omega), by rw [hres]; simp [mFoldL, mSeq1, mOkMove, c_3, c_33, c_68, Nat.not_le.mpr c_68, Nat.le_of_lt c_68, c_90, c_113]⟩ _ _ hM hS ls (lv_sub hl [0,1,2,3] rfl)
    · skip
      exfalso; omega
set_option maxHeartbeats 4000000 in
set_option maxRecDepth 100000 in
theorem met_X4_takeBack_b (l : Launch) {D : va_G} {cI cJ : ClassId} {M : MP} {A : Nat → Prop} {sz : Nat} (mo ro no fi se t3 le od th ac oc : Nat) (su : Bool)  (hmo : M mo = some (.inr (3, [.int (nI th), .int (bI su), .ref ro, .int (nI ac), .int (nI oc), .ref no, .ref fi, .ref se, .ref t3, .ref le, .ref od]))) (hsu : (!su && decide (0 < ac)) = false) (hac : ac < 2 ^ 31) (hA_mo : A mo) : Wr l yX4_takeBack cX4_takeBack 1 (some .int) 8 0 0 D cI cJ [.ref mo] M sz A (some (.int (nI 0))) (fun M' => M' = mu M mo (.inr (3, [.int (nI 1), .int (bI su), .ref ro, .int (nI ac), .int (nI oc), .ref no, .ref fi, .ref se, .ref t3, .ref le, .ref od]))) := by
  refine wr_start (by decide) (Nat.le_of_ble_eq_true rfl) ?_
  intro p e s m args below meth c hx hb hr hml hown hts hlk hini hK hsz H hH0 hM hS ls hl
  clear hH0
  have hl : lv_has ls 1 [(0, .ref mo)] := hl
  refine lv_aload_n hx hb dX4_takeBack_0 rfl (lv_at hl 0 rfl) ?_
  refine lv_aload_n hx hb dX4_takeBack_1 rfl (lv_at hl 0 rfl) ?_
  refine w_get (C := RX4) (T := TX4) (N := 11) (ci := 3) hx hb hts hown hK hM inX4 rfl 1 (by decide) qw_4_85 rfl hmo rfl dX4_takeBack_2 ?_
  refine meet (ls := ls) (pcJ := 20) (st := [.int (bI (!su && decide (0 < ac))), .ref mo]) ?_ (fun hJ20 => ?_)
  · skip
    refine topi (bI false) (by rw [hsu]) ?_
    refine wr_go0 (wr_runV (As := [.int (bI false)]) (rest := []) hx hb hml hown hts hK hM okV_RX4_163_X4_isGood (met_X4_isGood l mo ro no fi se t3 le od th ac oc su false hmo hA_mo) hmo rfl rfl rfl ⟨Nat.le_of_ble_eq_true rfl, Nat.le_of_ble_eq_true rfl⟩ hl.1 rfl (Nat.le_of_ble_eq_true rfl) dX4_takeBack_20 ⟨Nat.le_refl _, Nat.le_refl _⟩) hS (fun M1 H locs hR hM hS => ?_)
    obtain rfl := hR
    refine zb_ne (tgt := 28) hx hb false dX4_takeBack_23 (by decide) (fun h => absurd (h.symm.trans (rfl : false = false)) (by decide)) (fun _ => ?_)
    refine lv_iconst (v := nI 0) hx hb dX4_takeBack_26 (by decide) ?_
    exact wr_ireturn hx hb hr hlk hM hS (Nat.le_refl _) (Nat.le_refl _) rfl (by rw [show nI 1 = nI (gN false) from rfl]) dX4_takeBack_27
  · skip
    refine zb_ne (tgt := 19) hx hb su dX4_takeBack_5 (by decide) (fun c_5 => ?_) (fun c_5 => ?_)
    · skip
      refine lv_iconst (v := nI 0) hx hb dX4_takeBack_19 (by decide) ?_
      exact topi (bI (!su && decide (0 < ac))) (by simp [bI_t, bI_f, c_5]) hJ20
    · skip
      refine lv_aload_n hx hb dX4_takeBack_8 rfl (lv_at hl 0 rfl) ?_
      refine w_get (C := RX4) (T := TX4) (N := 11) (ci := 3) hx hb hts hown hK hM inX4 rfl 3 (by decide) qw_4_87 rfl hmo rfl dX4_takeBack_9 ?_
      refine n0_le (tgt := 19) hx hb ac (by omega) dX4_takeBack_12 (by decide) (fun c_12 => ?_) (fun c_12 => ?_)
      · skip
        refine lv_iconst (v := nI 0) hx hb dX4_takeBack_19 (by decide) ?_
        exact topi (bI (!su && decide (0 < ac))) (by simp [bI_t, bI_f, c_5, c_12]) hJ20
      · skip
        refine lv_iconst (v := nI 1) hx hb dX4_takeBack_15 (by decide) ?_
        refine lv_goto (tgt := 20) hx hb dX4_takeBack_16 (by decide) ?_
        exact topi (bI (!su && decide (0 < ac))) (by simp [bI_t, bI_f, c_5, c_12]) hJ20
set_option maxHeartbeats 4000000 in
set_option maxRecDepth 100000 in
theorem met_X4_takeBack (l : Launch) {D : va_G} {cI cJ : ClassId} {M : MP} {A : Nat → Prop} {sz : Nat} (mo ro no fi se t3 le od th ac oc : Nat) (su : Bool) (nr : Nat) (f g lf rw g2 g3 : Nat → Int32) (hmo : M mo = some (.inr (3, [.int (nI th), .int (bI su), .ref ro, .int (nI ac), .int (nI oc), .ref no, .ref fi, .ref se, .ref t3, .ref le, .ref od]))) (hro : M ro = some (eI cI nr rw)) (hno : M no = some (eI cI 146 f)) (hfi : M fi = some (eI cI 146 g)) (hle : M le = some (eI cI 4096 lf)) (hsu : su = false) (hac : 0 < ac) (hr1 : 146 * (ac + 1) ≤ nr) (hnr : nr < 2 ^ 26) (hwr : WfR (rowN rw (ac - 1))) (hL : WfL lf) (hap : Apart6 ro no fi se t3 le) (hA_mo : A mo) (hA_no : A no) (hA_fi : A fi) : Wr l yX4_takeBack cX4_takeBack 1 (some .int) 8 0 0 D cI cJ [.ref mo] M sz A (some (.int (nI (ac - 1)))) (fun M' => ∃ g1 : Nat → Int32, M' = mu (mu (mu M mo (.inr (3, [.int (nI 0), .int (bI su), .ref ro, .int (nI (ac - 1)), .int (nI (mOutc rw (rowN rw (ac - 1)) (ac - 1))), .ref no, .ref fi, .ref se, .ref t3, .ref le, .ref od]))) no (eI cI 146 (rowN rw (ac - 1)))) fi (eI cI 146 g1)) := by
  refine wr_start (by decide) (Nat.le_of_ble_eq_true rfl) ?_
  intro p e s m args below meth c hx hb hr hml hown hts hlk hini hK hsz H hH0 hM hS ls hl
  clear hH0
  have hl : lv_has ls 1 [(0, .ref mo)] := hl
  have hap0 := hap
  obtain ⟨⟨n_ro_no, n_ro_fi, n_ro_se, n_ro_t3, n_ro_le⟩, ⟨n_no_fi, n_no_se, n_no_t3, n_no_le⟩, ⟨n_fi_se, n_fi_t3, n_fi_le⟩, ⟨n_se_t3, n_se_le⟩, n_t3_le⟩ := hap0
  refine lv_aload_n hx hb dX4_takeBack_0 rfl (lv_at hl 0 rfl) ?_
  refine lv_aload_n hx hb dX4_takeBack_1 rfl (lv_at hl 0 rfl) ?_
  refine w_get (C := RX4) (T := TX4) (N := 11) (ci := 3) hx hb hts hown hK hM inX4 rfl 1 (by decide) qw_4_85 rfl hmo rfl dX4_takeBack_2 ?_
  refine topi (bI false) (by rw [hsu]) ?_
  refine zb_ne (tgt := 19) hx hb false dX4_takeBack_5 (by decide) (fun h => absurd (h.symm.trans (rfl : false = false)) (by decide)) (fun _ => ?_)
  refine lv_aload_n hx hb dX4_takeBack_8 rfl (lv_at hl 0 rfl) ?_
  refine w_get (C := RX4) (T := TX4) (N := 11) (ci := 3) hx hb hts hown hK hM inX4 rfl 3 (by decide) qw_4_87 rfl hmo rfl dX4_takeBack_9 ?_
  refine n0_le (tgt := 19) hx hb ac (by omega) dX4_takeBack_12 (by decide) (fun c_12 => ?_) (fun c_12 => ?_)
  · skip
    exfalso; omega
  · skip
    refine lv_iconst (v := nI 1) hx hb dX4_takeBack_15 (by decide) ?_
    refine lv_goto (tgt := 20) hx hb dX4_takeBack_16 (by decide) ?_
    refine topi (bI true) rfl ?_
    refine wr_go0 (wr_runV (As := [.int (bI true)]) (rest := []) hx hb hml hown hts hK hM okV_RX4_163_X4_isGood (met_X4_isGood l mo ro no fi se t3 le od th ac oc su true hmo hA_mo) hmo rfl rfl rfl ⟨Nat.le_of_ble_eq_true rfl, Nat.le_of_ble_eq_true rfl⟩ hl.1 rfl (Nat.le_of_ble_eq_true rfl) dX4_takeBack_20 ⟨Nat.le_refl _, Nat.le_refl _⟩) hS (fun M1 H locs hR hM hS => ?_)
    obtain rfl := hR
    refine zb_ne (tgt := 28) hx hb true dX4_takeBack_23 (by decide) (fun _ => ?_) (fun h => absurd (h.symm.trans (rfl : true = true)) (by decide))
    refine lv_aload_n hx hb dX4_takeBack_28 rfl (lv_at hl 0 rfl) ?_
    refine lv_dup hx hb dX4_takeBack_29 rfl ?_
    refine w_get (C := RX4) (T := TX4) (N := 11) (ci := 3) hx hb hts hown hK hM inX4 rfl 3 (by decide) qw_4_87 rfl mu_s rfl dX4_takeBack_30 ?_
    refine lv_iconst (v := nI 1) hx hb dX4_takeBack_33 (by decide) ?_
    refine ni_sub hx hb ac 1 (by omega) dX4_takeBack_34 ?_
    refine w_put (C := RX4) (T := TX4) (N := 11) (ci := 3) hx hb hts hown hK hM hS inX4 rfl tyX4 tyX4_ok nmX4 3 (by decide) qw_4_87 rfl rfl mu_s hA_mo rfl rfl (Nat.le_of_ble_eq_true rfl) dX4_takeBack_35 (fun H locs hM hS => ?_)
    rw [mu_mu] at hM
    replace hM : HM D (mu M mo (.inr (3, [.int (nI (gN true)), .int (bI su), .ref ro, .int (nI (ac - 1)), .int (nI oc), .ref no, .ref fi, .ref se, .ref t3, .ref le, .ref od]))) H := hM
    refine lv_aload_n hx hb dX4_takeBack_38 rfl (lv_at hl 0 rfl) ?_
    refine w_get (C := RX4) (T := TX4) (N := 11) (ci := 3) hx hb hts hown hK hM inX4 rfl 2 (by decide) qw_4_86 rfl mu_s rfl dX4_takeBack_39 ?_
    refine lv_sipush (v := nI 146) hx hb dX4_takeBack_42 (by decide) ?_
    refine lv_aload_n hx hb dX4_takeBack_45 rfl (lv_at hl 0 rfl) ?_
    refine w_get (C := RX4) (T := TX4) (N := 11) (ci := 3) hx hb hts hown hK hM inX4 rfl 3 (by decide) qw_4_87 rfl mu_s rfl dX4_takeBack_46 ?_
    refine ni_mul hx hb 146 (ac - 1) dX4_takeBack_49 ?_
    refine lv_aload_n hx hb dX4_takeBack_50 rfl (lv_at hl 0 rfl) ?_
    refine w_get (C := RX4) (T := TX4) (N := 11) (ci := 3) hx hb hts hown hK hM inX4 rfl 5 (by decide) qw_4_89 rfl mu_s rfl dX4_takeBack_51 ?_
    refine lv_iconst (v := nI 0) hx hb dX4_takeBack_54 (by decide) ?_
    refine wr_go0 (wr_runS (As := [.ref ro, .int (nI (146 * (ac - 1))), .ref no, .int (nI 0)]) (rest := []) hx hb hml hown hts hK hM okS_RX4_98_X4_copyRow (met_X4_copyRow l ro (146 * (ac - 1)) no 0 nr 146 rw f (mu_g (ne_io hro hmo) hro) (mu_g (ne_io hno hmo) hno) (by omega) (by omega) (by omega) (by omega) n_ro_no hA_no) rfl ⟨Nat.le_of_ble_eq_true rfl, Nat.le_of_ble_eq_true rfl⟩ hl.1 rfl (Nat.le_of_ble_eq_true rfl) dX4_takeBack_55 ⟨Nat.le_refl _, Nat.le_refl _⟩) hS (fun M1 H locs hR hM hS => ?_)
    obtain rfl := hR
    replace hM := HM.cg (g := rowN rw (ac - 1)) hM (fun k hk => cpy_row hk)
    refine lv_aload_n hx hb dX4_takeBack_58 rfl (lv_at hl 0 rfl) ?_
    refine wr_go0 (wr_runV (As := []) (rest := []) hx hb hml hown hts hK hM okV_RX4_150_X4_findOutcome (met_X4_findOutcome l mo ro no fi se t3 le od (gN true) (ac - 1) oc su nr (rowN rw (ac - 1)) g lf rw (mu_g (ne_oi hmo hno) mu_s) (mu_g (Ne.symm n_no_le) (mu_g (ne_io hle hmo) hle)) mu_s (mu_g (Ne.symm n_no_fi) (mu_g (ne_io hfi hmo) hfi)) (mu_g n_ro_no (mu_g (ne_io hro hmo) hro)) hwr.1 hwr.2.1 hwr.2.2 hL (by omega) (by omega) n_no_fi (Ne.symm n_fi_le) n_ro_fi hA_mo hA_fi) (mu_g (ne_oi hmo hno) mu_s) rfl rfl rfl ⟨Nat.le_of_ble_eq_true rfl, Nat.le_of_ble_eq_true rfl⟩ hl.1 rfl (Nat.le_of_ble_eq_true rfl) dX4_takeBack_59 ⟨Nat.le_refl _, Nat.le_refl _⟩) hS (fun M1 H locs hR hM hS => ?_)
    obtain ⟨g1_59, rfl⟩ := hR
    rw [mu_comm (ne_io hno hmo), mu_mu] at hM
    refine lv_aload_n hx hb dX4_takeBack_62 rfl (lv_at hl 0 rfl) ?_
    refine w_get (C := RX4) (T := TX4) (N := 11) (ci := 3) hx hb hts hown hK hM inX4 rfl 3 (by decide) qw_4_87 rfl (mu_g (ne_oi hmo hfi) (mu_g (ne_oi hmo hno) mu_s)) rfl dX4_takeBack_63 ?_
    exact wr_ireturn hx hb hr hlk hM hS (Nat.le_refl _) (Nat.le_refl _) rfl ⟨g1_59, (by rw [show nI 0 = nI (gN true) from rfl])⟩ dX4_takeBack_66
