theorem okV_RX4_193_X4_endCalmly : okV RX4 193 yX4_endCalmly cX4_endCalmly 1 none 0 := okV_of qw_5_17 qw_5_19 qw_0_28 qw_1_5 qw_5_20 (by decide +kernel)
theorem okV_RX4_41_X4_begin : okV RX4 41 yX4_begin cX4_begin 1 none 0 := okV_of qw_3_231 qw_3_233 qw_0_10 qw_1_5 qw_3_234 (by decide +kernel)
set_option maxHeartbeats 4000000 in
set_option maxRecDepth 100000 in
theorem met_X4_endSetup_b (l : Launch) {D : va_G} {cI cJ : ClassId} {M : MP} {A : Nat → Prop} {sz : Nat} (mo ro no fi se t3 le od th ac oc : Nat) (su : Bool) (b : Bool) (f : Nat → Int32) (hmo : M mo = some (.inr (3, [.int (nI th), .int (bI su), .ref ro, .int (nI ac), .int (nI oc), .ref no, .ref fi, .ref se, .ref t3, .ref le, .ref od]))) (hno : M no = some (eI cI 146 f)) (hes : mEsOk su f b = false) (hA_mo : A mo) : Wr l yX4_endSetup cX4_endSetup 3 (some .int) 10 0 0 D cI cJ [.ref mo, .int (bI b)] M sz A (some (.int (nI 0))) (fun M' => M' = mu M mo (.inr (3, [.int (nI 1), .int (bI su), .ref ro, .int (nI ac), .int (nI oc), .ref no, .ref fi, .ref se, .ref t3, .ref le, .ref od]))) := by
  refine wr_start (by decide) (Nat.le_of_ble_eq_true rfl) ?_
  intro p e s m args below meth c hx hb hr hml hown hts hlk hini hK hsz H hH0 hM hS ls hl
  clear hH0
  have hl : lv_has ls 3 [(0, .ref mo), (1, .int (bI b))] := hl
  have hsd1 := sdN_le b
  have hsd2 := sdN_le (!b)
  refine lv_aload_n hx hb dX4_endSetup_0 rfl (lv_at hl 0 rfl) ?_
  refine w_get (C := RX4) (T := TX4) (N := 11) (ci := 3) hx hb hts hown hK hM inX4 rfl 5 (by decide) qw_4_89 rfl hmo rfl dX4_endSetup_1 ?_
  refine lv_iconst (v := nI 0) hx hb dX4_endSetup_4 (by decide) ?_
  refine meet (ls := ls) (pcJ := 30) (st := [.int (bI (mKings f))]) ?_ (fun hJ30 => ?_)
  · skip
    refine lv_istore_n (lv' := [(2, .int (bI (mKings f))), (0, .ref mo), (1, .int (bI b))]) hx hb dX4_endSetup_30 rfl hl (by decide) rfl (fun ls hl => ?_)
    refine lv_aload_n hx hb dX4_endSetup_31 rfl (lv_at hl 1 rfl) ?_
    refine lv_aload_n hx hb dX4_endSetup_32 rfl (lv_at hl 1 rfl) ?_
    refine w_get (C := RX4) (T := TX4) (N := 11) (ci := 3) hx hb hts hown hK hM inX4 rfl 1 (by decide) qw_4_85 rfl hmo rfl dX4_endSetup_33 ?_
    refine meet (ls := ls) (pcJ := 70) (st := [.int (bI (mEsOk su f b)), .ref mo]) ?_ (fun hJ70 => ?_)
    · skip
      refine topi (bI false) (by rw [hes]) ?_
      refine wr_go0 (wr_runV (As := [.int (bI false)]) (rest := []) hx hb hml hown hts hK hM okV_RX4_163_X4_isGood (met_X4_isGood l mo ro no fi se t3 le od th ac oc su false hmo hA_mo) hmo rfl rfl rfl ⟨Nat.le_of_ble_eq_true rfl, Nat.le_of_ble_eq_true rfl⟩ hl.1 rfl (Nat.le_of_ble_eq_true rfl) dX4_endSetup_70 ⟨Nat.le_refl _, Nat.le_refl _⟩) hS (fun M1 H locs hR hM hS => ?_)
      obtain rfl := hR
      refine zb_ne (tgt := 78) hx hb false dX4_endSetup_73 (by decide) (fun h => absurd (h.symm.trans (rfl : false = false)) (by decide)) (fun _ => ?_)
      refine lv_iconst (v := nI 0) hx hb dX4_endSetup_76 (by decide) ?_
      exact wr_ireturn hx hb hr hlk hM hS (Nat.le_refl _) (Nat.le_refl _) rfl (by rw [show nI 1 = nI (gN false) from rfl]) dX4_endSetup_77
    · skip
      refine zb_eq (tgt := 69) hx hb su dX4_endSetup_36 (by decide) (fun c_36 => ?_) (fun c_36 => ?_)
      · skip
        refine lv_iconst (v := nI 0) hx hb dX4_endSetup_69 (by decide) ?_
        exact topi (bI (mEsOk su f b)) (by simp [mEsOk, c_36, bI_t, bI_f]) hJ70
      · skip
        refine lv_iload_n hx hb dX4_endSetup_39 rfl (lv_at hl 0 rfl) ?_
        refine zb_eq (tgt := 69) hx hb (mKings f) dX4_endSetup_40 (by decide) (fun c_40 => ?_) (fun c_40 => ?_)
        · skip
          refine lv_iconst (v := nI 0) hx hb dX4_endSetup_69 (by decide) ?_
          exact topi (bI (mEsOk su f b)) (by simp [mEsOk, c_36, c_40, bI_t, bI_f]) hJ70
        · skip
          refine lv_aload_n hx hb dX4_endSetup_43 rfl (lv_at hl 1 rfl) ?_
          refine w_get (C := RX4) (T := TX4) (N := 11) (ci := 3) hx hb hts hown hK hM inX4 rfl 5 (by decide) qw_4_89 rfl hmo rfl dX4_endSetup_44 ?_
          refine lv_iload_n hx hb dX4_endSetup_47 rfl (lv_at hl 2 rfl) ?_
          refine meet (ls := ls) (pcJ := 56) (st := [.int (bI (!b)), .ref no, .ref mo]) ?_ (fun hJ56 => ?_)
          · skip
            refine rd_goI (rd_runS (As := [.int (bI (!b))]) (rest := [.ref no, .ref mo]) hx hb hml hown hts hK hM okS_RX4_170_X4_side (met_X4_side l (!b)) rfl ⟨Nat.le_of_ble_eq_true rfl, Nat.le_of_ble_eq_true rfl⟩ hl.1 rfl (Nat.le_of_ble_eq_true rfl) dX4_endSetup_56 ⟨Nat.le_refl _, Nat.le_refl _⟩) ?_
            refine rd_goI (rd_runS (As := [.ref no, .int (nI (sdN (!b)))]) (rest := [.ref mo]) hx hb hml hown hts hK hM okS_RX4_106_X4_inCheck (met_X4_inCheck l no (sdN (!b)) f hno (by omega)) rfl ⟨Nat.le_of_ble_eq_true rfl, Nat.le_of_ble_eq_true rfl⟩ hl.1 rfl (Nat.le_of_ble_eq_true rfl) dX4_endSetup_59 ⟨Nat.le_refl _, Nat.le_refl _⟩) ?_
            refine zb_ne (tgt := 69) hx hb (mInCheck f (sdN (!b))) dX4_endSetup_62 (by decide) (fun c_62 => ?_) (fun c_62 => ?_)
            · skip
              refine lv_iconst (v := nI 0) hx hb dX4_endSetup_69 (by decide) ?_
              exact topi (bI (mEsOk su f b)) (by simp [mEsOk, c_36, c_40, c_62, bI_t, bI_f]) hJ70
            · skip
              refine lv_iconst (v := nI 1) hx hb dX4_endSetup_65 (by decide) ?_
              refine lv_goto (tgt := 70) hx hb dX4_endSetup_66 (by decide) ?_
              exact topi (bI (mEsOk su f b)) (by simp [mEsOk, c_36, c_40, c_62, bI_t, bI_f]) hJ70
          · skip
            refine zb_ne (tgt := 55) hx hb b dX4_endSetup_48 (by decide) (fun c_48 => ?_) (fun c_48 => ?_)
            · skip
              refine lv_iconst (v := nI 0) hx hb dX4_endSetup_55 (by decide) ?_
              exact topi (bI (!b)) (by simp [c_36, c_40, c_48, bI_t, bI_f]) hJ56
            · skip
              refine lv_iconst (v := nI 1) hx hb dX4_endSetup_51 (by decide) ?_
              refine lv_goto (tgt := 56) hx hb dX4_endSetup_52 (by decide) ?_
              exact topi (bI (!b)) (by simp [c_36, c_40, c_48, bI_t, bI_f]) hJ56
  · skip
    refine rd_goI (rd_runS (As := [.ref no, .int (nI 0)]) (rest := []) hx hb hml hown hts hK hM okS_RX4_82_X4_king (met_X4_king l no 0 f hno) rfl ⟨Nat.le_of_ble_eq_true rfl, Nat.le_of_ble_eq_true rfl⟩ hl.1 rfl (Nat.le_of_ble_eq_true rfl) dX4_endSetup_5 ⟨Nat.le_refl _, Nat.le_refl _⟩) ?_
    rcases hkq : mKing f 0 with _ | kq
    · refine topi (-1) oI_n ?_
      refine lv_iconst (v := (-1)) hx hb dX4_endSetup_8 (by decide) ?_
      refine mm_eq (tgt := 29) hx hb (-1) dX4_endSetup_9 (by decide) ?_
      refine lv_iconst (v := nI 0) hx hb dX4_endSetup_29 (by decide) ?_
      exact topi (bI (mKings f)) (by simp [mKings, hkq, bI_t, bI_f]) hJ30
    · refine topi (nI kq) (oI_s kq) ?_
      have hkb := mKing_lt hkq
      refine lv_iconst (v := (-1)) hx hb dX4_endSetup_8 (by decide) ?_
      refine nm_eq (tgt := 29) hx hb kq (by omega) dX4_endSetup_9 (by decide) ?_
      refine lv_aload_n hx hb dX4_endSetup_12 rfl (lv_at hl 0 rfl) ?_
      refine w_get (C := RX4) (T := TX4) (N := 11) (ci := 3) hx hb hts hown hK hM inX4 rfl 5 (by decide) qw_4_89 rfl hmo rfl dX4_endSetup_13 ?_
      refine lv_bipush (v := nI 8) hx hb dX4_endSetup_16 (by decide) ?_
      refine rd_goI (rd_runS (As := [.ref no, .int (nI 8)]) (rest := []) hx hb hml hown hts hK hM okS_RX4_82_X4_king (met_X4_king l no 8 f hno) rfl ⟨Nat.le_of_ble_eq_true rfl, Nat.le_of_ble_eq_true rfl⟩ hl.1 rfl (Nat.le_of_ble_eq_true rfl) dX4_endSetup_18 ⟨Nat.le_refl _, Nat.le_refl _⟩) ?_
      rcases hkr : mKing f 8 with _ | kr
      · refine topi (-1) oI_n ?_
        refine lv_iconst (v := (-1)) hx hb dX4_endSetup_21 (by decide) ?_
        refine mm_eq (tgt := 29) hx hb (-1) dX4_endSetup_22 (by decide) ?_
        refine lv_iconst (v := nI 0) hx hb dX4_endSetup_29 (by decide) ?_
        exact topi (bI (mKings f)) (by simp [mKings, hkq, hkr, bI_t, bI_f]) hJ30
      · refine topi (nI kr) (oI_s kr) ?_
        have hkc := mKing_lt hkr
        refine lv_iconst (v := (-1)) hx hb dX4_endSetup_21 (by decide) ?_
        refine nm_eq (tgt := 29) hx hb kr (by omega) dX4_endSetup_22 (by decide) ?_
        refine lv_iconst (v := nI 1) hx hb dX4_endSetup_25 (by decide) ?_
        refine lv_goto (tgt := 30) hx hb dX4_endSetup_26 (by decide) ?_
        exact topi (bI (mKings f)) (by simp [mKings, hkq, hkr, bI_t, bI_f]) hJ30
set_option maxHeartbeats 4000000 in
set_option maxRecDepth 100000 in
theorem met_X4_endSetup (l : Launch) {D : va_G} {cI cJ : ClassId} {M : MP} {A : Nat → Prop} {sz : Nat} (mo ro no fi se t3 le od th ac oc : Nat) (su : Bool) (nr : Nat) (b : Bool) (f g g2 g3 lf rw : Nat → Int32) (hmo : M mo = some (.inr (3, [.int (nI th), .int (bI su), .ref ro, .int (nI ac), .int (nI oc), .ref no, .ref fi, .ref se, .ref t3, .ref le, .ref od]))) (hro : M ro = some (eI cI nr rw)) (hno : M no = some (eI cI 146 f)) (hfi : M fi = some (eI cI 146 g)) (hse : M se = some (eI cI 146 g2)) (ht3 : M t3 = some (eI cI 146 g3)) (hle : M le = some (eI cI 4096 lf)) (hP : WfP f) (hB : WfB f) (hs : WfS f) (hL : WfL lf) (hap : Apart6 ro no fi se t3 le) (hes : mEsOk su f b = true) (h3 : 146 ≤ nr) (hnr : nr < 2 ^ 26) (hA_mo : A mo) (hA_ro : A ro) (hA_no : A no) (hA_fi : A fi) (hAn : ∀ q, sz ≤ q → A q) : Wr l yX4_endSetup cX4_endSetup 3 (some .int) 10 (kpC nr 0) (kpS nr 0) D cI cJ [.ref mo, .int (bI b)] M sz A (some (.int (nI (mOutc (mEsN f b) (mEsN f b) 0)))) (fun M' => MoKept cI M M' A mo ro no fi se t3 le od 0 0 false nr rw (mEsN f b) g2 g3 lf) := by
  refine wr_start (by decide) (Nat.le_of_ble_eq_true rfl) ?_
  intro p e s m args below meth c hx hb hr hml hown hts hlk hini hK hsz H hH0 hM hS ls hl
  rw [← hsz] at hAn
  clear hH0
  have hl : lv_has ls 3 [(0, .ref mo), (1, .int (bI b))] := hl
  have hsd1 := sdN_le b
  have hsd2 := sdN_le (!b)
  have hap0 := hap
  obtain ⟨⟨n_ro_no, n_ro_fi, n_ro_se, n_ro_t3, n_ro_le⟩, ⟨n_no_fi, n_no_se, n_no_t3, n_no_le⟩, ⟨n_fi_se, n_fi_t3, n_fi_le⟩, ⟨n_se_t3, n_se_le⟩, n_t3_le⟩ := hap0
  refine lv_aload_n hx hb dX4_endSetup_0 rfl (lv_at hl 0 rfl) ?_
  refine w_get (C := RX4) (T := TX4) (N := 11) (ci := 3) hx hb hts hown hK hM inX4 rfl 5 (by decide) qw_4_89 rfl hmo rfl dX4_endSetup_1 ?_
  refine lv_iconst (v := nI 0) hx hb dX4_endSetup_4 (by decide) ?_
  refine meet (ls := ls) (pcJ := 30) (st := [.int (bI (mKings f))]) ?_ (fun hJ30 => ?_)
  · skip
    refine lv_istore_n (lv' := [(2, .int (bI (mKings f))), (0, .ref mo), (1, .int (bI b))]) hx hb dX4_endSetup_30 rfl hl (by decide) rfl (fun ls hl => ?_)
    refine lv_aload_n hx hb dX4_endSetup_31 rfl (lv_at hl 1 rfl) ?_
    refine lv_aload_n hx hb dX4_endSetup_32 rfl (lv_at hl 1 rfl) ?_
    refine w_get (C := RX4) (T := TX4) (N := 11) (ci := 3) hx hb hts hown hK hM inX4 rfl 1 (by decide) qw_4_85 rfl hmo rfl dX4_endSetup_33 ?_
    refine meet (ls := ls) (pcJ := 70) (st := [.int (bI (mEsOk su f b)), .ref mo]) ?_ (fun hJ70 => ?_)
    · skip
      refine topi (bI true) (by rw [hes]) ?_
      refine wr_go0 (wr_runV (As := [.int (bI true)]) (rest := []) hx hb hml hown hts hK hM okV_RX4_163_X4_isGood (met_X4_isGood l mo ro no fi se t3 le od th ac oc su true hmo hA_mo) hmo rfl rfl rfl ⟨Nat.le_of_ble_eq_true rfl, Nat.le_of_ble_eq_true rfl⟩ hl.1 rfl (Nat.le_of_ble_eq_true rfl) dX4_endSetup_70 ⟨by show 0 + 0 ≤ kpC nr 0; omega, by show 0 + 0 ≤ kpS nr 0; omega⟩) hS (fun M1 H locs hR hM hS => ?_)
      obtain rfl := hR
      refine zb_ne (tgt := 78) hx hb true dX4_endSetup_73 (by decide) (fun _ => ?_) (fun h => absurd (h.symm.trans (rfl : true = true)) (by decide))
      refine lv_aload_n hx hb dX4_endSetup_78 rfl (lv_at hl 1 rfl) ?_
      refine w_get (C := RX4) (T := TX4) (N := 11) (ci := 3) hx hb hts hown hK hM inX4 rfl 5 (by decide) qw_4_89 rfl mu_s rfl dX4_endSetup_79 ?_
      refine lv_sipush (v := nI 128) hx hb dX4_endSetup_82 (by decide) ?_
      refine lv_iload_n hx hb dX4_endSetup_85 rfl (lv_at hl 2 rfl) ?_
      refine rd_goI (rd_runS (As := [.int (bI b)]) (rest := [.int (nI 128), .ref no]) hx hb hml hown hts hK hM okS_RX4_170_X4_side (met_X4_side l b) rfl ⟨Nat.le_of_ble_eq_true rfl, Nat.le_of_ble_eq_true rfl⟩ hl.1 rfl (Nat.le_of_ble_eq_true rfl) dX4_endSetup_86 ⟨by show 0 ≤ kpC nr 0; omega, by show 0 ≤ kpS nr 0; omega⟩) ?_
      refine w_iast hx hb hK hM hS (mu_g (ne_io hno hmo) hno) hA_no 128 (by omega) (by decide) dX4_endSetup_89 (fun H locs hM hS => ?_)
      replace hM : HM D (mu (mu M mo (.inr (3, [.int (nI (gN true)), .int (bI su), .ref ro, .int (nI ac), .int (nI oc), .ref no, .ref fi, .ref se, .ref t3, .ref le, .ref od]))) no (eI cI 146 (mEsN f b))) H := hM
      refine lv_aload_n hx hb dX4_endSetup_90 rfl (lv_at hl 1 rfl) ?_
      refine wr_go (wr_runV (As := []) (rest := []) hx hb hml hown hts hK hM okV_RX4_41_X4_begin (met_X4_begin l mo ro no fi se t3 le od (gN true) ac oc su nr (mEsN f b) g g2 g3 lf rw (mu_g (ne_oi hmo hno) mu_s) (mu_g n_ro_no (mu_g (ne_io hro hmo) hro)) mu_s (mu_g (Ne.symm n_no_fi) (mu_g (ne_io hfi hmo) hfi)) (mu_g (Ne.symm n_no_se) (mu_g (ne_io hse hmo) hse)) (mu_g (Ne.symm n_no_t3) (mu_g (ne_io ht3 hmo) ht3)) (mu_g (Ne.symm n_no_le) (mu_g (ne_io hle hmo) hle)) (WfR_es b hP hB).1 (WfR_es b hP hB).2.1 (WfR_es b hP hB).2.2 hL hap (by omega) (by omega) hA_mo hA_ro hA_no hA_fi (fun q hq => hAn q (Nat.le_trans hS.1 hq))) (mu_g (ne_oi hmo hno) mu_s) rfl rfl rfl ⟨Nat.le_of_ble_eq_true rfl, Nat.le_of_ble_eq_true rfl⟩ hl.1 rfl (Nat.le_of_ble_eq_true rfl) dX4_endSetup_91 ⟨by show 0 + (kpC nr 0) ≤ kpC nr 0; omega, by show 0 + (kpS nr 0) ≤ kpS nr 0; omega⟩) hS (fun M1 H locs hR hHs hM hS => ?_)
      obtain ⟨ro_91, nr_91, rw_91, g1_91, ⟨hmo_91, hro_91, hno_91, hfi_91, hse_91, ht3_91, hle_91, hap_91⟩, hkp_91, hrr_91⟩ := id hR
      refine lv_aload_n hx hb dX4_endSetup_94 rfl (lv_at hl 1 rfl) ?_
      refine w_get (C := RX4) (T := TX4) (N := 11) (ci := 3) hx hb hts hown hK hM inX4 rfl 4 (by decide) qw_4_88 rfl hmo_91 rfl dX4_endSetup_95 ?_
      exact wr_ireturn hx hb hr hlk hM hS (by omega) (by omega) (by rw [out_0 hrr_91.2.2.1]) (MoKept.dn (MoKept.dn hR (Or.inr (Or.inr (Or.inl rfl)))) (Or.inl rfl)) dX4_endSetup_98
    · skip
      refine zb_eq (tgt := 69) hx hb su dX4_endSetup_36 (by decide) (fun c_36 => ?_) (fun c_36 => ?_)
      · skip
        refine lv_iconst (v := nI 0) hx hb dX4_endSetup_69 (by decide) ?_
        exact topi (bI (mEsOk su f b)) (by simp [mEsOk, c_36, bI_t, bI_f]) hJ70
      · skip
        refine lv_iload_n hx hb dX4_endSetup_39 rfl (lv_at hl 0 rfl) ?_
        refine zb_eq (tgt := 69) hx hb (mKings f) dX4_endSetup_40 (by decide) (fun c_40 => ?_) (fun c_40 => ?_)
        · skip
          refine lv_iconst (v := nI 0) hx hb dX4_endSetup_69 (by decide) ?_
          exact topi (bI (mEsOk su f b)) (by simp [mEsOk, c_36, c_40, bI_t, bI_f]) hJ70
        · skip
          refine lv_aload_n hx hb dX4_endSetup_43 rfl (lv_at hl 1 rfl) ?_
          refine w_get (C := RX4) (T := TX4) (N := 11) (ci := 3) hx hb hts hown hK hM inX4 rfl 5 (by decide) qw_4_89 rfl hmo rfl dX4_endSetup_44 ?_
          refine lv_iload_n hx hb dX4_endSetup_47 rfl (lv_at hl 2 rfl) ?_
          refine meet (ls := ls) (pcJ := 56) (st := [.int (bI (!b)), .ref no, .ref mo]) ?_ (fun hJ56 => ?_)
          · skip
            refine rd_goI (rd_runS (As := [.int (bI (!b))]) (rest := [.ref no, .ref mo]) hx hb hml hown hts hK hM okS_RX4_170_X4_side (met_X4_side l (!b)) rfl ⟨Nat.le_of_ble_eq_true rfl, Nat.le_of_ble_eq_true rfl⟩ hl.1 rfl (Nat.le_of_ble_eq_true rfl) dX4_endSetup_56 ⟨by show 0 ≤ kpC nr 0; omega, by show 0 ≤ kpS nr 0; omega⟩) ?_
            refine rd_goI (rd_runS (As := [.ref no, .int (nI (sdN (!b)))]) (rest := [.ref mo]) hx hb hml hown hts hK hM okS_RX4_106_X4_inCheck (met_X4_inCheck l no (sdN (!b)) f hno (by omega)) rfl ⟨Nat.le_of_ble_eq_true rfl, Nat.le_of_ble_eq_true rfl⟩ hl.1 rfl (Nat.le_of_ble_eq_true rfl) dX4_endSetup_59 ⟨by show 0 ≤ kpC nr 0; omega, by show 0 ≤ kpS nr 0; omega⟩) ?_
            refine zb_ne (tgt := 69) hx hb (mInCheck f (sdN (!b))) dX4_endSetup_62 (by decide) (fun c_62 => ?_) (fun c_62 => ?_)
            · skip
              refine lv_iconst (v := nI 0) hx hb dX4_endSetup_69 (by decide) ?_
              exact topi (bI (mEsOk su f b)) (by simp [mEsOk, c_36, c_40, c_62, bI_t, bI_f]) hJ70
            · skip
              refine lv_iconst (v := nI 1) hx hb dX4_endSetup_65 (by decide) ?_
              refine lv_goto (tgt := 70) hx hb dX4_endSetup_66 (by decide) ?_
              exact topi (bI (mEsOk su f b)) (by simp [mEsOk, c_36, c_40, c_62, bI_t, bI_f]) hJ70
          · skip
            refine zb_ne (tgt := 55) hx hb b dX4_endSetup_48 (by decide) (fun c_48 => ?_) (fun c_48 => ?_)
            · skip
              refine lv_iconst (v := nI 0) hx hb dX4_endSetup_55 (by decide) ?_
              exact topi (bI (!b)) (by simp [c_36, c_40, c_48, bI_t, bI_f]) hJ56
            · skip
              refine lv_iconst (v := nI 1) hx hb dX4_endSetup_51 (by decide) ?_
              refine lv_goto (tgt := 56) hx hb dX4_endSetup_52 (by decide) ?_
              exact topi (bI (!b)) (by simp [c_36, c_40, c_48, bI_t, bI_f]) hJ56
  · skip
    refine rd_goI (rd_runS (As := [.ref no, .int (nI 0)]) (rest := []) hx hb hml hown hts hK hM okS_RX4_82_X4_king (met_X4_king l no 0 f hno) rfl ⟨Nat.le_of_ble_eq_true rfl, Nat.le_of_ble_eq_true rfl⟩ hl.1 rfl (Nat.le_of_ble_eq_true rfl) dX4_endSetup_5 ⟨by show 0 ≤ kpC nr 0; omega, by show 0 ≤ kpS nr 0; omega⟩) ?_
    rcases hkq : mKing f 0 with _ | kq
    · refine topi (-1) oI_n ?_
      refine lv_iconst (v := (-1)) hx hb dX4_endSetup_8 (by decide) ?_
      refine mm_eq (tgt := 29) hx hb (-1) dX4_endSetup_9 (by decide) ?_
      refine lv_iconst (v := nI 0) hx hb dX4_endSetup_29 (by decide) ?_
      exact topi (bI (mKings f)) (by simp [mKings, hkq, bI_t, bI_f]) hJ30
    · refine topi (nI kq) (oI_s kq) ?_
      have hkb := mKing_lt hkq
      refine lv_iconst (v := (-1)) hx hb dX4_endSetup_8 (by decide) ?_
      refine nm_eq (tgt := 29) hx hb kq (by omega) dX4_endSetup_9 (by decide) ?_
      refine lv_aload_n hx hb dX4_endSetup_12 rfl (lv_at hl 0 rfl) ?_
      refine w_get (C := RX4) (T := TX4) (N := 11) (ci := 3) hx hb hts hown hK hM inX4 rfl 5 (by decide) qw_4_89 rfl hmo rfl dX4_endSetup_13 ?_
      refine lv_bipush (v := nI 8) hx hb dX4_endSetup_16 (by decide) ?_
      refine rd_goI (rd_runS (As := [.ref no, .int (nI 8)]) (rest := []) hx hb hml hown hts hK hM okS_RX4_82_X4_king (met_X4_king l no 8 f hno) rfl ⟨Nat.le_of_ble_eq_true rfl, Nat.le_of_ble_eq_true rfl⟩ hl.1 rfl (Nat.le_of_ble_eq_true rfl) dX4_endSetup_18 ⟨by show 0 ≤ kpC nr 0; omega, by show 0 ≤ kpS nr 0; omega⟩) ?_
      rcases hkr : mKing f 8 with _ | kr
      · refine topi (-1) oI_n ?_
        refine lv_iconst (v := (-1)) hx hb dX4_endSetup_21 (by decide) ?_
        refine mm_eq (tgt := 29) hx hb (-1) dX4_endSetup_22 (by decide) ?_
        refine lv_iconst (v := nI 0) hx hb dX4_endSetup_29 (by decide) ?_
        exact topi (bI (mKings f)) (by simp [mKings, hkq, hkr, bI_t, bI_f]) hJ30
      · refine topi (nI kr) (oI_s kr) ?_
        have hkc := mKing_lt hkr
        refine lv_iconst (v := (-1)) hx hb dX4_endSetup_21 (by decide) ?_
        refine nm_eq (tgt := 29) hx hb kr (by omega) dX4_endSetup_22 (by decide) ?_
        refine lv_iconst (v := nI 1) hx hb dX4_endSetup_25 (by decide) ?_
        refine lv_goto (tgt := 30) hx hb dX4_endSetup_26 (by decide) ?_
        exact topi (bI (mKings f)) (by simp [mKings, hkq, hkr, bI_t, bI_f]) hJ30
set_option maxHeartbeats 4000000 in
set_option maxRecDepth 100000 in
theorem met_X4_move_b (l : Launch) {D : va_G} {cI cJ : ClassId} {M : MP} {A : Nat → Prop} {sz : Nat} (mo ro no fi se t3 le od th ac oc : Nat) (su : Bool) (x y : Int32) (hmo : M mo = some (.inr (3, [.int (nI th), .int (bI su), .ref ro, .int (nI ac), .int (nI oc), .ref no, .ref fi, .ref se, .ref t3, .ref le, .ref od]))) (hbx : (mIsSq x && mIsSq y) = false) (hA_mo : A mo) : Wr l yX4_move cX4_move 4 (some .int) 9 0 0 D cI cJ [.ref mo, .int x, .int y] M sz A (some (.int (nI 0))) (fun M' => M' = mu M mo (.inr (3, [.int (nI 1), .int (bI su), .ref ro, .int (nI ac), .int (nI oc), .ref no, .ref fi, .ref se, .ref t3, .ref le, .ref od]))) := by
  refine wr_start (by decide) (Nat.le_of_ble_eq_true rfl) ?_
  intro p e s m args below meth c hx hb hr hml hown hts hlk hini hK hsz H hH0 hM hS ls hl
  clear hH0
  have hl : lv_has ls 4 [(0, .ref mo), (1, .int x), (2, .int y)] := hl
  refine lv_aload_n hx hb dX4_move_0 rfl (lv_at hl 0 rfl) ?_
  refine lv_iload_n hx hb dX4_move_1 rfl (lv_at hl 1 rfl) ?_
  refine lv_iload_n hx hb dX4_move_2 rfl (lv_at hl 2 rfl) ?_
  refine wr_go0 (wr_runV (As := [.int x, .int y]) (rest := []) hx hb hml hown hts hK hM okV_RX4_190_X4_areSquares (met_X4_areSquares l mo ro no fi se t3 le od th ac oc su x y hmo hA_mo) hmo rfl rfl rfl ⟨Nat.le_of_ble_eq_true rfl, Nat.le_of_ble_eq_true rfl⟩ hl.1 rfl (Nat.le_of_ble_eq_true rfl) dX4_move_3 ⟨Nat.le_refl _, Nat.le_refl _⟩) hS (fun M1 H locs hR hM hS => ?_)
  obtain rfl := hR
  refine topi (bI false) (by rw [hbx]) ?_
  refine zb_ne (tgt := 11) hx hb false dX4_move_6 (by decide) (fun h => absurd (h.symm.trans (rfl : false = false)) (by decide)) (fun _ => ?_)
  refine lv_iconst (v := nI 0) hx hb dX4_move_9 (by decide) ?_
  exact wr_ireturn hx hb hr hlk hM hS (Nat.le_refl _) (Nat.le_refl _) rfl (by rw [show nI 1 = nI (gN (mIsSq x && mIsSq y)) from (by rw [hbx]; rfl)]) dX4_move_10
set_option maxHeartbeats 4000000 in
set_option maxRecDepth 100000 in
theorem met_X4_move_r (l : Launch) {D : va_G} {cI cJ : ClassId} {M : MP} {A : Nat → Prop} {sz : Nat} (mo ro no fi se t3 le od th ac oc : Nat) (su : Bool) (j k : Nat) (f g lf : Nat → Int32) (hmo : M mo = some (.inr (3, [.int (nI th), .int (bI su), .ref ro, .int (nI ac), .int (nI oc), .ref no, .ref fi, .ref se, .ref t3, .ref le, .ref od]))) (hno : M no = some (eI cI 146 f)) (hfi : M fi = some (eI cI 146 g)) (hle : M le = some (eI cI 4096 lf)) (hj : j < 64) (hk : k < 64) (hoc : oc < 2 ^ 31) (hok : mMovOk su oc f j k = false) (hP : WfP f) (hB : WfB f) (hs : WfS f) (hL : WfL lf) (hnf : no ≠ fi) (hlf : le ≠ fi) (hA_mo : A mo) (hA_fi : A fi) : Wr l yX4_move cX4_move 4 (some .int) 9 0 0 D cI cJ [.ref mo, .int (nI j), .int (nI k)] M sz A (some (.int (nI 0))) (fun M' => ∃ g1 : Nat → Int32, M' = mu (mu M mo (.inr (3, [.int (nI 2), .int (bI su), .ref ro, .int (nI ac), .int (nI oc), .ref no, .ref fi, .ref se, .ref t3, .ref le, .ref od]))) fi (eI cI 146 g1)) := by
  refine wr_start (by decide) (Nat.le_of_ble_eq_true rfl) ?_
  intro p e s m args below meth c hx hb hr hml hown hts hlk hini hK hsz H hH0 hM hS ls hl
  clear hH0
  have hl : lv_has ls 4 [(0, .ref mo), (1, .int (nI j)), (2, .int (nI k))] := hl
  refine lv_aload_n hx hb dX4_move_0 rfl (lv_at hl 0 rfl) ?_
  refine lv_iload_n hx hb dX4_move_1 rfl (lv_at hl 1 rfl) ?_
  refine lv_iload_n hx hb dX4_move_2 rfl (lv_at hl 2 rfl) ?_
  refine wr_go0 (wr_runV (As := [.int (nI j), .int (nI k)]) (rest := []) hx hb hml hown hts hK hM okV_RX4_190_X4_areSquares (met_X4_areSquares l mo ro no fi se t3 le od th ac oc su (nI j) (nI k) hmo hA_mo) hmo rfl rfl rfl ⟨Nat.le_of_ble_eq_true rfl, Nat.le_of_ble_eq_true rfl⟩ hl.1 rfl (Nat.le_of_ble_eq_true rfl) dX4_move_3 ⟨Nat.le_refl _, Nat.le_refl _⟩) hS (fun M1 H locs hR hM hS => ?_)
  obtain rfl := hR
  refine topi (bI true) (by rw [mIsSq_n hj, mIsSq_n hk]; rfl) ?_
  refine zb_ne (tgt := 11) hx hb true dX4_move_6 (by decide) (fun _ => ?_) (fun h => absurd (h.symm.trans (rfl : true = true)) (by decide))
  refine lv_aload_n hx hb dX4_move_11 rfl (lv_at hl 0 rfl) ?_
  refine rd_goI (rd_runV (As := []) (rest := []) hx hb hml hown hts hK hM okV_RX4_183_X4_isPlayed (met_X4_isPlayed l mo ro no fi se t3 le od (gN (mIsSq (nI j) && mIsSq (nI k))) ac oc su mu_s (by omega)) mu_s rfl rfl rfl ⟨Nat.le_of_ble_eq_true rfl, Nat.le_of_ble_eq_true rfl⟩ hl.1 rfl (Nat.le_of_ble_eq_true rfl) dX4_move_12 ⟨Nat.le_refl _, Nat.le_refl _⟩) ?_
  refine topi (bI (mPl su oc)) rfl ?_
  refine zb_eq (tgt := 35) hx hb (mPl su oc) dX4_move_15 (by decide) (fun c_15 => ?_) (fun c_15 => ?_)
  · skip
    refine lv_aload_n hx hb dX4_move_35 rfl (lv_at hl 0 rfl) ?_
    refine lv_iconst (v := nI 2) hx hb dX4_move_36 (by decide) ?_
    refine wr_go0 (wr_runV (As := [.int (nI 2)]) (rest := []) hx hb hml hown hts hK hM okV_RX4_167_X4_fail (met_X4_fail l mo ro no fi se t3 le od (gN (mIsSq (nI j) && mIsSq (nI k))) ac oc su 2 mu_s hA_mo) mu_s rfl rfl rfl ⟨Nat.le_of_ble_eq_true rfl, Nat.le_of_ble_eq_true rfl⟩ hl.1 rfl (Nat.le_of_ble_eq_true rfl) dX4_move_37 ⟨Nat.le_refl _, Nat.le_refl _⟩) hS (fun M1 H locs hR hM hS => ?_)
    obtain rfl := hR
    rw [mu_mu] at hM
    rw [← mu_id (a := fi) (e := eI cI 146 g) (mu_g (ne_io hfi hmo) hfi)] at hM
    exact wr_ireturn hx hb hr hlk hM hS (Nat.le_refl _) (Nat.le_refl _) rfl ⟨g, rfl⟩ dX4_move_40
  · skip
    refine lv_aload_n hx hb dX4_move_18 rfl (lv_at hl 0 rfl) ?_
    refine lv_aload_n hx hb dX4_move_19 rfl (lv_at hl 0 rfl) ?_
    refine w_get (C := RX4) (T := TX4) (N := 11) (ci := 3) hx hb hts hown hK hM inX4 rfl 5 (by decide) qw_4_89 rfl mu_s rfl dX4_move_20 ?_
    refine lv_iload_n hx hb dX4_move_23 rfl (lv_at hl 1 rfl) ?_
    refine lv_iload_n hx hb dX4_move_24 rfl (lv_at hl 2 rfl) ?_
    refine lv_aload_n hx hb dX4_move_25 rfl (lv_at hl 0 rfl) ?_
    refine w_get (C := RX4) (T := TX4) (N := 11) (ci := 3) hx hb hts hown hK hM inX4 rfl 6 (by decide) qw_4_90 rfl mu_s rfl dX4_move_26 ?_
    refine wr_go0 (wr_runV (As := [.ref no, .int (nI j), .int (nI k), .ref fi]) (rest := []) hx hb hml hown hts hK hM okV_RX4_113_X4_reason (met_X4_reason l mo ro no fi se t3 le od (gN (mIsSq (nI j) && mIsSq (nI k))) ac oc su no j k fi f g lf mu_s (mu_g (ne_io hle hmo) hle) (mu_g (ne_io hno hmo) hno) (mu_g (ne_io hfi hmo) hfi) (by omega) (by omega) hP hB hs hL hnf hlf hA_fi) mu_s rfl rfl rfl ⟨Nat.le_of_ble_eq_true rfl, Nat.le_of_ble_eq_true rfl⟩ hl.1 rfl (Nat.le_of_ble_eq_true rfl) dX4_move_29 ⟨Nat.le_refl _, Nat.le_refl _⟩) hS (fun M1 H locs hR hM hS => ?_)
    obtain rfl := hR
    have hf29_0 := mReason_le f j k
    refine n0_eq (tgt := 41) hx hb (mReason f j k) (by omega) dX4_move_32 (by decide) (fun c_32 => ?_) (fun c_32 => ?_)
    · skip
      exact absurd hok (by simp [mMovOk, c_15, c_32])
    · skip
      refine lv_aload_n hx hb dX4_move_35 rfl (lv_at hl 0 rfl) ?_
      refine lv_iconst (v := nI 2) hx hb dX4_move_36 (by decide) ?_
      refine wr_go0 (wr_runV (As := [.int (nI 2)]) (rest := []) hx hb hml hown hts hK hM okV_RX4_167_X4_fail (met_X4_fail l mo ro no fi se t3 le od (gN (mIsSq (nI j) && mIsSq (nI k))) ac oc su 2 (mu_g (ne_oi hmo hfi) mu_s) hA_mo) (mu_g (ne_oi hmo hfi) mu_s) rfl rfl rfl ⟨Nat.le_of_ble_eq_true rfl, Nat.le_of_ble_eq_true rfl⟩ hl.1 rfl (Nat.le_of_ble_eq_true rfl) dX4_move_37 ⟨Nat.le_refl _, Nat.le_refl _⟩) hS (fun M1 H locs hR hM hS => ?_)
      obtain rfl := hR
      rw [mu_comm (ne_io hfi hmo), mu_mu] at hM
      exact wr_ireturn hx hb hr hlk hM hS (Nat.le_refl _) (Nat.le_refl _) rfl ⟨(mAft f g j k), rfl⟩ dX4_move_40
set_option maxHeartbeats 4000000 in
set_option maxRecDepth 100000 in
theorem met_X4_move (l : Launch) {D : va_G} {cI cJ : ClassId} {M : MP} {A : Nat → Prop} {sz : Nat} (mo ro no fi se t3 le od th ac oc : Nat) (su : Bool) (nr : Nat) (j k : Nat) (f g g2 g3 lf rw : Nat → Int32) (hmo : M mo = some (.inr (3, [.int (nI th), .int (bI su), .ref ro, .int (nI ac), .int (nI oc), .ref no, .ref fi, .ref se, .ref t3, .ref le, .ref od]))) (hro : M ro = some (eI cI nr rw)) (hno : M no = some (eI cI 146 f)) (hfi : M fi = some (eI cI 146 g)) (hse : M se = some (eI cI 146 g2)) (ht3 : M t3 = some (eI cI 146 g3)) (hle : M le = some (eI cI 4096 lf)) (hP : WfP f) (hB : WfB f) (hs : WfS f) (hL : WfL lf) (hap : Apart6 ro no fi se t3 le) (hj : j < 64) (hk : k < 64) (hoc : oc < 2 ^ 31) (hok : mMovOk su oc f j k = true) (hlo : 146 * (ac + 1) ≤ nr) (h3 : 146 ≤ nr) (hnr : nr < 2 ^ 26) (hA_mo : A mo) (hA_ro : A ro) (hA_no : A no) (hA_fi : A fi) (hAn : ∀ q, sz ≤ q → A q) : Wr l yX4_move cX4_move 4 (some .int) 9 (kpC nr (ac + 1)) (kpS nr (ac + 1)) D cI cJ [.ref mo, .int (nI j), .int (nI k)] M sz A (some (.int (nI (pcN f k % 8)))) (fun M' => MoKept cI M M' A mo ro no fi se t3 le od 0 (ac + 1) su nr rw (mApply f j k) g2 g3 lf) := by
  refine wr_start (by decide) (Nat.le_of_ble_eq_true rfl) ?_
  intro p e s m args below meth c hx hb hr hml hown hts hlk hini hK hsz H hH0 hM hS ls hl
  rw [← hsz] at hAn
  clear hH0
  have hl : lv_has ls 4 [(0, .ref mo), (1, .int (nI j)), (2, .int (nI k))] := hl
  have hap0 := hap
  obtain ⟨⟨n_ro_no, n_ro_fi, n_ro_se, n_ro_t3, n_ro_le⟩, ⟨n_no_fi, n_no_se, n_no_t3, n_no_le⟩, ⟨n_fi_se, n_fi_t3, n_fi_le⟩, ⟨n_se_t3, n_se_le⟩, n_t3_le⟩ := hap0
  have hok2 := hok
  unfold mMovOk at hok2
  rw [Bool.and_eq_true, decide_eq_true_eq] at hok2
  obtain ⟨hpl, hr0⟩ := hok2
  have hw := WfR_apply ⟨hP, hB, hs⟩ hj hk
  refine lv_aload_n hx hb dX4_move_0 rfl (lv_at hl 0 rfl) ?_
  refine lv_iload_n hx hb dX4_move_1 rfl (lv_at hl 1 rfl) ?_
  refine lv_iload_n hx hb dX4_move_2 rfl (lv_at hl 2 rfl) ?_
  refine wr_go0 (wr_runV (As := [.int (nI j), .int (nI k)]) (rest := []) hx hb hml hown hts hK hM okV_RX4_190_X4_areSquares (met_X4_areSquares l mo ro no fi se t3 le od th ac oc su (nI j) (nI k) hmo hA_mo) hmo rfl rfl rfl ⟨Nat.le_of_ble_eq_true rfl, Nat.le_of_ble_eq_true rfl⟩ hl.1 rfl (Nat.le_of_ble_eq_true rfl) dX4_move_3 ⟨by show 0 + 0 ≤ kpC nr (ac + 1); omega, by show 0 + 0 ≤ kpS nr (ac + 1); omega⟩) hS (fun M1 H locs hR hM hS => ?_)
  obtain rfl := hR
  rw [show gN (mIsSq (nI j) && mIsSq (nI k)) = 0 by rw [mIsSq_n hj, mIsSq_n hk]; rfl] at hM
  refine topi (bI true) (by rw [mIsSq_n hj, mIsSq_n hk]; rfl) ?_
  refine zb_ne (tgt := 11) hx hb true dX4_move_6 (by decide) (fun _ => ?_) (fun h => absurd (h.symm.trans (rfl : true = true)) (by decide))
  refine lv_aload_n hx hb dX4_move_11 rfl (lv_at hl 0 rfl) ?_
  refine rd_goI (rd_runV (As := []) (rest := []) hx hb hml hown hts hK hM okV_RX4_183_X4_isPlayed (met_X4_isPlayed l mo ro no fi se t3 le od 0 ac oc su mu_s (by omega)) mu_s rfl rfl rfl ⟨Nat.le_of_ble_eq_true rfl, Nat.le_of_ble_eq_true rfl⟩ hl.1 rfl (Nat.le_of_ble_eq_true rfl) dX4_move_12 ⟨by show 0 ≤ kpC nr (ac + 1); omega, by show 0 ≤ kpS nr (ac + 1); omega⟩) ?_
  refine topi (bI true) (by rw [show (!su && decide (oc = 0)) = true from hpl]) ?_
  refine zb_eq (tgt := 35) hx hb true dX4_move_15 (by decide) (fun h => absurd (h.symm.trans (rfl : true = true)) (by decide)) (fun _ => ?_)
  refine lv_aload_n hx hb dX4_move_18 rfl (lv_at hl 0 rfl) ?_
  refine lv_aload_n hx hb dX4_move_19 rfl (lv_at hl 0 rfl) ?_
  refine w_get (C := RX4) (T := TX4) (N := 11) (ci := 3) hx hb hts hown hK hM inX4 rfl 5 (by decide) qw_4_89 rfl mu_s rfl dX4_move_20 ?_
  refine lv_iload_n hx hb dX4_move_23 rfl (lv_at hl 1 rfl) ?_
  refine lv_iload_n hx hb dX4_move_24 rfl (lv_at hl 2 rfl) ?_
  refine lv_aload_n hx hb dX4_move_25 rfl (lv_at hl 0 rfl) ?_
  refine w_get (C := RX4) (T := TX4) (N := 11) (ci := 3) hx hb hts hown hK hM inX4 rfl 6 (by decide) qw_4_90 rfl mu_s rfl dX4_move_26 ?_
  refine wr_go0 (wr_runV (As := [.ref no, .int (nI j), .int (nI k), .ref fi]) (rest := []) hx hb hml hown hts hK hM okV_RX4_113_X4_reason (met_X4_reason l mo ro no fi se t3 le od 0 ac oc su no j k fi f g lf mu_s (mu_g (ne_io hle hmo) hle) (mu_g (ne_io hno hmo) hno) (mu_g (ne_io hfi hmo) hfi) (by omega) (by omega) hP hB hs hL n_no_fi (Ne.symm n_fi_le) hA_fi) mu_s rfl rfl rfl ⟨Nat.le_of_ble_eq_true rfl, Nat.le_of_ble_eq_true rfl⟩ hl.1 rfl (Nat.le_of_ble_eq_true rfl) dX4_move_29 ⟨by show 0 + 0 ≤ kpC nr (ac + 1); omega, by show 0 + 0 ≤ kpS nr (ac + 1); omega⟩) hS (fun M1 H locs hR hM hS => ?_)
  obtain rfl := hR
  have hf29_0 := mReason_le f j k
  refine n0_eq (tgt := 41) hx hb (mReason f j k) (by omega) dX4_move_32 (by decide) (fun c_32 => ?_) (fun c_32 => ?_)
  · skip
    refine lv_aload_n hx hb dX4_move_41 rfl (lv_at hl 0 rfl) ?_
    refine w_get (C := RX4) (T := TX4) (N := 11) (ci := 3) hx hb hts hown hK hM inX4 rfl 5 (by decide) qw_4_89 rfl (mu_g (ne_oi hmo hfi) mu_s) rfl dX4_move_42 ?_
    refine lv_iload_n hx hb dX4_move_45 rfl (lv_at hl 1 rfl) ?_
    refine lv_iload_n hx hb dX4_move_46 rfl (lv_at hl 2 rfl) ?_
    refine wr_go0 (wr_runS (As := [.ref no, .int (nI j), .int (nI k)]) (rest := []) hx hb hml hown hts hK hM okS_RX4_102_X4_apply (met_X4_apply l no j k f (mu_g n_no_fi (mu_g (ne_io hno hmo) hno)) (by omega) (by omega) hP hB hA_no) rfl ⟨Nat.le_of_ble_eq_true rfl, Nat.le_of_ble_eq_true rfl⟩ hl.1 rfl (Nat.le_of_ble_eq_true rfl) dX4_move_47 ⟨by show 0 + 0 ≤ kpC nr (ac + 1); omega, by show 0 + 0 ≤ kpS nr (ac + 1); omega⟩) hS (fun M1 H locs hR hM hS => ?_)
    obtain rfl := hR
    refine lv_istore_n (lv' := [(3, .int (nI (pcN f k % 8))), (0, .ref mo), (1, .int (nI j)), (2, .int (nI k))]) hx hb dX4_move_50 rfl hl (by decide) rfl (fun ls hl => ?_)
    refine lv_aload_n hx hb dX4_move_51 rfl (lv_at hl 1 rfl) ?_
    refine lv_dup hx hb dX4_move_52 rfl ?_
    refine w_get (C := RX4) (T := TX4) (N := 11) (ci := 3) hx hb hts hown hK hM inX4 rfl 3 (by decide) qw_4_87 rfl (mu_g (ne_oi hmo hno) (mu_g (ne_oi hmo hfi) mu_s)) rfl dX4_move_53 ?_
    refine lv_iconst (v := nI 1) hx hb dX4_move_56 (by decide) ?_
    refine ni_add hx hb ac 1 dX4_move_57 ?_
    refine w_put (C := RX4) (T := TX4) (N := 11) (ci := 3) hx hb hts hown hK hM hS inX4 rfl tyX4 tyX4_ok nmX4 3 (by decide) qw_4_87 rfl rfl (mu_g (ne_oi hmo hno) (mu_g (ne_oi hmo hfi) mu_s)) hA_mo rfl rfl (Nat.le_of_ble_eq_true rfl) dX4_move_58 (fun H locs hM hS => ?_)
    rw [mu_comm (ne_io hno hmo), mu_comm (ne_io hfi hmo), mu_mu] at hM
    replace hM : HM D (mu (mu (mu M mo (.inr (3, [.int (nI 0), .int (bI su), .ref ro, .int (nI (ac + 1)), .int (nI oc), .ref no, .ref fi, .ref se, .ref t3, .ref le, .ref od]))) fi (eI cI 146 (mAft f g j k))) no (eI cI 146 (mApply f j k))) H := hM
    refine lv_aload_n hx hb dX4_move_61 rfl (lv_at hl 1 rfl) ?_
    refine wr_go (wr_runV (As := []) (rest := []) hx hb hml hown hts hK hM okV_RX4_157_X4_keep (met_X4_keep l mo ro no fi se t3 le od 0 (ac + 1) oc su nr (mApply f j k) (mAft f g j k) g2 g3 lf rw (mu_g (ne_oi hmo hno) (mu_g (ne_oi hmo hfi) mu_s)) (mu_g n_ro_no (mu_g n_ro_fi (mu_g (ne_io hro hmo) hro))) mu_s (mu_g (Ne.symm n_no_fi) mu_s) (mu_g (Ne.symm n_no_se) (mu_g (Ne.symm n_fi_se) (mu_g (ne_io hse hmo) hse))) (mu_g (Ne.symm n_no_t3) (mu_g (Ne.symm n_fi_t3) (mu_g (ne_io ht3 hmo) ht3))) (mu_g (Ne.symm n_no_le) (mu_g (Ne.symm n_fi_le) (mu_g (ne_io hle hmo) hle))) hw.1 hw.2.1 hw.2.2 hL hap (by omega) (by omega) (by omega) hA_mo hA_ro hA_no hA_fi (fun q hq => hAn q (Nat.le_trans hS.1 hq))) (mu_g (ne_oi hmo hno) (mu_g (ne_oi hmo hfi) mu_s)) rfl rfl rfl ⟨Nat.le_of_ble_eq_true rfl, Nat.le_of_ble_eq_true rfl⟩ hl.1 rfl (Nat.le_of_ble_eq_true rfl) dX4_move_62 ⟨by show 0 + (kpC nr (ac + 1)) ≤ kpC nr (ac + 1); omega, by show 0 + (kpS nr (ac + 1)) ≤ kpS nr (ac + 1); omega⟩) hS (fun M1 H locs hR hHs hM hS => ?_)
    obtain ⟨ro_62, nr_62, rw_62, g1_62, ⟨hmo_62, hro_62, hno_62, hfi_62, hse_62, ht3_62, hle_62, hap_62⟩, hkp_62, hrr_62⟩ := id hR
    refine lv_iload_n hx hb dX4_move_65 rfl (lv_at hl 0 rfl) ?_
    exact wr_ireturn hx hb hr hlk hM hS (by omega) (by omega) rfl (MoKept.dn (MoKept.dn (MoKept.dn hR (Or.inr (Or.inr (Or.inl rfl)))) (Or.inr (Or.inr (Or.inr (Or.inl rfl))))) (Or.inl rfl)) dX4_move_66
  · skip
    exfalso; omega
set_option maxHeartbeats 4000000 in
set_option maxRecDepth 100000 in
theorem met_X4_bond_b (l : Launch) {D : va_G} {cI cJ : ClassId} {M : MP} {A : Nat → Prop} {sz : Nat} (mo ro no fi se t3 le od th ac oc : Nat) (su : Bool) (x y : Int32) (hmo : M mo = some (.inr (3, [.int (nI th), .int (bI su), .ref ro, .int (nI ac), .int (nI oc), .ref no, .ref fi, .ref se, .ref t3, .ref le, .ref od]))) (hbx : (mIsSq x && mIsSq y) = false) (hA_mo : A mo) : Wr l yX4_bond cX4_bond 3 (some .int) 10 0 0 D cI cJ [.ref mo, .int x, .int y] M sz A (some (.int (nI 0))) (fun M' => M' = mu M mo (.inr (3, [.int (nI 1), .int (bI su), .ref ro, .int (nI ac), .int (nI oc), .ref no, .ref fi, .ref se, .ref t3, .ref le, .ref od]))) := by
  refine wr_start (by decide) (Nat.le_of_ble_eq_true rfl) ?_
  intro p e s m args below meth c hx hb hr hml hown hts hlk hini hK hsz H hH0 hM hS ls hl
  clear hH0
  have hl : lv_has ls 3 [(0, .ref mo), (1, .int x), (2, .int y)] := hl
  refine lv_aload_n hx hb dX4_bond_0 rfl (lv_at hl 0 rfl) ?_
  refine lv_iload_n hx hb dX4_bond_1 rfl (lv_at hl 1 rfl) ?_
  refine lv_iload_n hx hb dX4_bond_2 rfl (lv_at hl 2 rfl) ?_
  refine wr_go0 (wr_runV (As := [.int x, .int y]) (rest := []) hx hb hml hown hts hK hM okV_RX4_190_X4_areSquares (met_X4_areSquares l mo ro no fi se t3 le od th ac oc su x y hmo hA_mo) hmo rfl rfl rfl ⟨Nat.le_of_ble_eq_true rfl, Nat.le_of_ble_eq_true rfl⟩ hl.1 rfl (Nat.le_of_ble_eq_true rfl) dX4_bond_3 ⟨Nat.le_refl _, Nat.le_refl _⟩) hS (fun M1 H locs hR hM hS => ?_)
  obtain rfl := hR
  refine topi (bI false) (by rw [hbx]) ?_
  refine zb_ne (tgt := 11) hx hb false dX4_bond_6 (by decide) (fun h => absurd (h.symm.trans (rfl : false = false)) (by decide)) (fun _ => ?_)
  refine lv_iconst (v := nI 0) hx hb dX4_bond_9 (by decide) ?_
  exact wr_ireturn hx hb hr hlk hM hS (Nat.le_refl _) (Nat.le_refl _) rfl (by rw [show nI 1 = nI (gN (mIsSq x && mIsSq y)) from (by rw [hbx]; rfl)]) dX4_bond_10
set_option maxHeartbeats 4000000 in
set_option maxRecDepth 100000 in
theorem met_X4_bond_r (l : Launch) {D : va_G} {cI cJ : ClassId} {M : MP} {A : Nat → Prop} {sz : Nat} (mo ro no fi se t3 le od th ac oc : Nat) (su : Bool) (j k : Nat) (f lf : Nat → Int32) (hmo : M mo = some (.inr (3, [.int (nI th), .int (bI su), .ref ro, .int (nI ac), .int (nI oc), .ref no, .ref fi, .ref se, .ref t3, .ref le, .ref od]))) (hno : M no = some (eI cI 146 f)) (hle : M le = some (eI cI 4096 lf)) (hj : j < 64) (hk : k < 64) (hoc : oc < 2 ^ 31) (hok : mBndOk su oc f j k = false) (hs : WfS f) (hL : WfL lf) (hA_mo : A mo) : Wr l yX4_bond cX4_bond 3 (some .int) 10 0 0 D cI cJ [.ref mo, .int (nI j), .int (nI k)] M sz A (some (.int (nI 0))) (fun M' => M' = mu M mo (.inr (3, [.int (nI 2), .int (bI su), .ref ro, .int (nI ac), .int (nI oc), .ref no, .ref fi, .ref se, .ref t3, .ref le, .ref od]))) := by
  refine wr_start (by decide) (Nat.le_of_ble_eq_true rfl) ?_
  intro p e s m args below meth c hx hb hr hml hown hts hlk hini hK hsz H hH0 hM hS ls hl
  clear hH0
  have hl : lv_has ls 3 [(0, .ref mo), (1, .int (nI j)), (2, .int (nI k))] := hl
  refine lv_aload_n hx hb dX4_bond_0 rfl (lv_at hl 0 rfl) ?_
  refine lv_iload_n hx hb dX4_bond_1 rfl (lv_at hl 1 rfl) ?_
  refine lv_iload_n hx hb dX4_bond_2 rfl (lv_at hl 2 rfl) ?_
  refine wr_go0 (wr_runV (As := [.int (nI j), .int (nI k)]) (rest := []) hx hb hml hown hts hK hM okV_RX4_190_X4_areSquares (met_X4_areSquares l mo ro no fi se t3 le od th ac oc su (nI j) (nI k) hmo hA_mo) hmo rfl rfl rfl ⟨Nat.le_of_ble_eq_true rfl, Nat.le_of_ble_eq_true rfl⟩ hl.1 rfl (Nat.le_of_ble_eq_true rfl) dX4_bond_3 ⟨Nat.le_refl _, Nat.le_refl _⟩) hS (fun M1 H locs hR hM hS => ?_)
  obtain rfl := hR
  refine topi (bI true) (by rw [mIsSq_n hj, mIsSq_n hk]; rfl) ?_
  refine zb_ne (tgt := 11) hx hb true dX4_bond_6 (by decide) (fun _ => ?_) (fun h => absurd (h.symm.trans (rfl : true = true)) (by decide))
  refine lv_aload_n hx hb dX4_bond_11 rfl (lv_at hl 0 rfl) ?_
  refine rd_goI (rd_runV (As := []) (rest := []) hx hb hml hown hts hK hM okV_RX4_183_X4_isPlayed (met_X4_isPlayed l mo ro no fi se t3 le od (gN (mIsSq (nI j) && mIsSq (nI k))) ac oc su mu_s (by omega)) mu_s rfl rfl rfl ⟨Nat.le_of_ble_eq_true rfl, Nat.le_of_ble_eq_true rfl⟩ hl.1 rfl (Nat.le_of_ble_eq_true rfl) dX4_bond_12 ⟨Nat.le_refl _, Nat.le_refl _⟩) ?_
  refine topi (bI (mPl su oc)) rfl ?_
  refine zb_eq (tgt := 27) hx hb (mPl su oc) dX4_bond_15 (by decide) (fun c_15 => ?_) (fun c_15 => ?_)
  · skip
    refine lv_aload_n hx hb dX4_bond_27 rfl (lv_at hl 0 rfl) ?_
    refine lv_iconst (v := nI 2) hx hb dX4_bond_28 (by decide) ?_
    refine wr_go0 (wr_runV (As := [.int (nI 2)]) (rest := []) hx hb hml hown hts hK hM okV_RX4_167_X4_fail (met_X4_fail l mo ro no fi se t3 le od (gN (mIsSq (nI j) && mIsSq (nI k))) ac oc su 2 mu_s hA_mo) mu_s rfl rfl rfl ⟨Nat.le_of_ble_eq_true rfl, Nat.le_of_ble_eq_true rfl⟩ hl.1 rfl (Nat.le_of_ble_eq_true rfl) dX4_bond_29 ⟨Nat.le_refl _, Nat.le_refl _⟩) hS (fun M1 H locs hR hM hS => ?_)
    obtain rfl := hR
    rw [mu_mu] at hM
    exact wr_ireturn hx hb hr hlk hM hS (Nat.le_refl _) (Nat.le_refl _) rfl rfl dX4_bond_32
  · skip
    refine lv_aload_n hx hb dX4_bond_18 rfl (lv_at hl 0 rfl) ?_
    refine lv_iload_n hx hb dX4_bond_19 rfl (lv_at hl 1 rfl) ?_
    refine lv_iload_n hx hb dX4_bond_20 rfl (lv_at hl 2 rfl) ?_
    refine rd_goI (rd_runV (As := [.int (nI j), .int (nI k)]) (rest := []) hx hb hml hown hts hK hM okV_RX4_121_X4_bondReason (met_X4_bondReason l mo ro no fi se t3 le od (gN (mIsSq (nI j) && mIsSq (nI k))) ac oc su j k f lf mu_s (mu_g (ne_io hle hmo) hle) (mu_g (ne_io hno hmo) hno) (by omega) (by omega) hs hL) mu_s rfl rfl rfl ⟨Nat.le_of_ble_eq_true rfl, Nat.le_of_ble_eq_true rfl⟩ hl.1 rfl (Nat.le_of_ble_eq_true rfl) dX4_bond_21 ⟨Nat.le_refl _, Nat.le_refl _⟩) ?_
    have hf21_0 := mBondR_le f j k
    refine n0_eq (tgt := 33) hx hb (mBondR f j k) (by omega) dX4_bond_24 (by decide) (fun c_24 => ?_) (fun c_24 => ?_)
    · skip
      exact absurd hok (by simp [mBndOk, c_15, c_24])
    · skip
      refine lv_aload_n hx hb dX4_bond_27 rfl (lv_at hl 0 rfl) ?_
      refine lv_iconst (v := nI 2) hx hb dX4_bond_28 (by decide) ?_
      refine wr_go0 (wr_runV (As := [.int (nI 2)]) (rest := []) hx hb hml hown hts hK hM okV_RX4_167_X4_fail (met_X4_fail l mo ro no fi se t3 le od (gN (mIsSq (nI j) && mIsSq (nI k))) ac oc su 2 mu_s hA_mo) mu_s rfl rfl rfl ⟨Nat.le_of_ble_eq_true rfl, Nat.le_of_ble_eq_true rfl⟩ hl.1 rfl (Nat.le_of_ble_eq_true rfl) dX4_bond_29 ⟨Nat.le_refl _, Nat.le_refl _⟩) hS (fun M1 H locs hR hM hS => ?_)
      obtain rfl := hR
      rw [mu_mu] at hM
      exact wr_ireturn hx hb hr hlk hM hS (Nat.le_refl _) (Nat.le_refl _) rfl rfl dX4_bond_32
set_option maxHeartbeats 4000000 in
set_option maxRecDepth 100000 in
theorem met_X4_bond (l : Launch) {D : va_G} {cI cJ : ClassId} {M : MP} {A : Nat → Prop} {sz : Nat} (mo ro no fi se t3 le od th ac oc : Nat) (su : Bool) (nr : Nat) (j k : Nat) (f g g2 g3 lf rw : Nat → Int32) (hmo : M mo = some (.inr (3, [.int (nI th), .int (bI su), .ref ro, .int (nI ac), .int (nI oc), .ref no, .ref fi, .ref se, .ref t3, .ref le, .ref od]))) (hro : M ro = some (eI cI nr rw)) (hno : M no = some (eI cI 146 f)) (hfi : M fi = some (eI cI 146 g)) (hse : M se = some (eI cI 146 g2)) (ht3 : M t3 = some (eI cI 146 g3)) (hle : M le = some (eI cI 4096 lf)) (hP : WfP f) (hB : WfB f) (hs : WfS f) (hL : WfL lf) (hap : Apart6 ro no fi se t3 le) (hj : j < 64) (hk : k < 64) (hoc : oc < 2 ^ 31) (hok : mBndOk su oc f j k = true) (hlo : 146 * (ac + 1) ≤ nr) (h3 : 146 ≤ nr) (hnr : nr < 2 ^ 26) (hA_mo : A mo) (hA_ro : A ro) (hA_no : A no) (hA_fi : A fi) (hAn : ∀ q, sz ≤ q → A q) : Wr l yX4_bond cX4_bond 3 (some .int) 10 (kpC nr (ac + 1)) (kpS nr (ac + 1)) D cI cJ [.ref mo, .int (nI j), .int (nI k)] M sz A (some (.int (nI (mHop j k)))) (fun M' => MoKept cI M M' A mo ro no fi se t3 le od 0 (ac + 1) su nr rw (mEnd (mTie f j k)) g2 g3 lf) := by
  refine wr_start (by decide) (Nat.le_of_ble_eq_true rfl) ?_
  intro p e s m args below meth c hx hb hr hml hown hts hlk hini hK hsz H hH0 hM hS ls hl
  rw [← hsz] at hAn
  clear hH0
  have hl : lv_has ls 3 [(0, .ref mo), (1, .int (nI j)), (2, .int (nI k))] := hl
  have hap0 := hap
  obtain ⟨⟨n_ro_no, n_ro_fi, n_ro_se, n_ro_t3, n_ro_le⟩, ⟨n_no_fi, n_no_se, n_no_t3, n_no_le⟩, ⟨n_fi_se, n_fi_t3, n_fi_le⟩, ⟨n_se_t3, n_se_le⟩, n_t3_le⟩ := hap0
  have hok2 := hok
  unfold mBndOk at hok2
  rw [Bool.and_eq_true, decide_eq_true_eq] at hok2
  obtain ⟨hpl, hr0⟩ := hok2
  have hw := WfR_tie ⟨hP, hB, hs⟩ hj hk
  refine lv_aload_n hx hb dX4_bond_0 rfl (lv_at hl 0 rfl) ?_
  refine lv_iload_n hx hb dX4_bond_1 rfl (lv_at hl 1 rfl) ?_
  refine lv_iload_n hx hb dX4_bond_2 rfl (lv_at hl 2 rfl) ?_
  refine wr_go0 (wr_runV (As := [.int (nI j), .int (nI k)]) (rest := []) hx hb hml hown hts hK hM okV_RX4_190_X4_areSquares (met_X4_areSquares l mo ro no fi se t3 le od th ac oc su (nI j) (nI k) hmo hA_mo) hmo rfl rfl rfl ⟨Nat.le_of_ble_eq_true rfl, Nat.le_of_ble_eq_true rfl⟩ hl.1 rfl (Nat.le_of_ble_eq_true rfl) dX4_bond_3 ⟨by show 0 + 0 ≤ kpC nr (ac + 1); omega, by show 0 + 0 ≤ kpS nr (ac + 1); omega⟩) hS (fun M1 H locs hR hM hS => ?_)
  obtain rfl := hR
  rw [show gN (mIsSq (nI j) && mIsSq (nI k)) = 0 by rw [mIsSq_n hj, mIsSq_n hk]; rfl] at hM
  refine topi (bI true) (by rw [mIsSq_n hj, mIsSq_n hk]; rfl) ?_
  refine zb_ne (tgt := 11) hx hb true dX4_bond_6 (by decide) (fun _ => ?_) (fun h => absurd (h.symm.trans (rfl : true = true)) (by decide))
  refine lv_aload_n hx hb dX4_bond_11 rfl (lv_at hl 0 rfl) ?_
  refine rd_goI (rd_runV (As := []) (rest := []) hx hb hml hown hts hK hM okV_RX4_183_X4_isPlayed (met_X4_isPlayed l mo ro no fi se t3 le od 0 ac oc su mu_s (by omega)) mu_s rfl rfl rfl ⟨Nat.le_of_ble_eq_true rfl, Nat.le_of_ble_eq_true rfl⟩ hl.1 rfl (Nat.le_of_ble_eq_true rfl) dX4_bond_12 ⟨by show 0 ≤ kpC nr (ac + 1); omega, by show 0 ≤ kpS nr (ac + 1); omega⟩) ?_
  refine topi (bI true) (by rw [show (!su && decide (oc = 0)) = true from hpl]) ?_
  refine zb_eq (tgt := 27) hx hb true dX4_bond_15 (by decide) (fun h => absurd (h.symm.trans (rfl : true = true)) (by decide)) (fun _ => ?_)
  refine lv_aload_n hx hb dX4_bond_18 rfl (lv_at hl 0 rfl) ?_
  refine lv_iload_n hx hb dX4_bond_19 rfl (lv_at hl 1 rfl) ?_
  refine lv_iload_n hx hb dX4_bond_20 rfl (lv_at hl 2 rfl) ?_
  refine rd_goI (rd_runV (As := [.int (nI j), .int (nI k)]) (rest := []) hx hb hml hown hts hK hM okV_RX4_121_X4_bondReason (met_X4_bondReason l mo ro no fi se t3 le od 0 ac oc su j k f lf mu_s (mu_g (ne_io hle hmo) hle) (mu_g (ne_io hno hmo) hno) (by omega) (by omega) hs hL) mu_s rfl rfl rfl ⟨Nat.le_of_ble_eq_true rfl, Nat.le_of_ble_eq_true rfl⟩ hl.1 rfl (Nat.le_of_ble_eq_true rfl) dX4_bond_21 ⟨by show 0 ≤ kpC nr (ac + 1); omega, by show 0 ≤ kpS nr (ac + 1); omega⟩) ?_
  have hf21_0 := mBondR_le f j k
  refine n0_eq (tgt := 33) hx hb (mBondR f j k) (by omega) dX4_bond_24 (by decide) (fun c_24 => ?_) (fun c_24 => ?_)
  · skip
    refine lv_aload_n hx hb dX4_bond_33 rfl (lv_at hl 0 rfl) ?_
    refine w_get (C := RX4) (T := TX4) (N := 11) (ci := 3) hx hb hts hown hK hM inX4 rfl 5 (by decide) qw_4_89 rfl mu_s rfl dX4_bond_34 ?_
    refine lv_iload_n hx hb dX4_bond_37 rfl (lv_at hl 1 rfl) ?_
    refine lv_iload_n hx hb dX4_bond_38 rfl (lv_at hl 2 rfl) ?_
    refine wr_go0 (wr_runS (As := [.ref no, .int (nI j), .int (nI k)]) (rest := []) hx hb hml hown hts hK hM okS_RX4_37_X4_tie (met_X4_tie l no j k f (mu_g (ne_io hno hmo) hno) (by omega) (by omega) hA_no) rfl ⟨Nat.le_of_ble_eq_true rfl, Nat.le_of_ble_eq_true rfl⟩ hl.1 rfl (Nat.le_of_ble_eq_true rfl) dX4_bond_39 ⟨by show 0 + 0 ≤ kpC nr (ac + 1); omega, by show 0 + 0 ≤ kpS nr (ac + 1); omega⟩) hS (fun M1 H locs hR hM hS => ?_)
    obtain rfl := hR
    refine lv_aload_n hx hb dX4_bond_42 rfl (lv_at hl 0 rfl) ?_
    refine wr_go (wr_runV (As := []) (rest := []) hx hb hml hown hts hK hM okV_RX4_193_X4_endCalmly (met_X4_endCalmly l mo ro no fi se t3 le od 0 ac oc su nr (mTie f j k) g g2 g3 lf rw (mu_g (ne_oi hmo hno) mu_s) (mu_g n_ro_no (mu_g (ne_io hro hmo) hro)) mu_s (mu_g (Ne.symm n_no_fi) (mu_g (ne_io hfi hmo) hfi)) (mu_g (Ne.symm n_no_se) (mu_g (ne_io hse hmo) hse)) (mu_g (Ne.symm n_no_t3) (mu_g (ne_io ht3 hmo) ht3)) (mu_g (Ne.symm n_no_le) (mu_g (ne_io hle hmo) hle)) hw.1 hw.2.1 hw.2.2 hL hap (by omega) (by omega) (by omega) hA_mo hA_ro hA_no hA_fi (fun q hq => hAn q (Nat.le_trans hS.1 hq))) (mu_g (ne_oi hmo hno) mu_s) rfl rfl rfl ⟨Nat.le_of_ble_eq_true rfl, Nat.le_of_ble_eq_true rfl⟩ hl.1 rfl (Nat.le_of_ble_eq_true rfl) dX4_bond_43 ⟨by show 0 + (kpC nr (ac + 1)) ≤ kpC nr (ac + 1); omega, by show 0 + (kpS nr (ac + 1)) ≤ kpS nr (ac + 1); omega⟩) hS (fun M1 H locs hR hHs hM hS => ?_)
    obtain ⟨ro_43, nr_43, rw_43, g1_43, ⟨hmo_43, hro_43, hno_43, hfi_43, hse_43, ht3_43, hle_43, hap_43⟩, hkp_43, hrr_43⟩ := id hR
    refine lv_aload_n hx hb dX4_bond_46 rfl (lv_at hl 0 rfl) ?_
    refine lv_iload_n hx hb dX4_bond_47 rfl (lv_at hl 1 rfl) ?_
    refine lv_iload_n hx hb dX4_bond_48 rfl (lv_at hl 2 rfl) ?_
    refine rd_goI (rd_runV (As := [.int (nI j), .int (nI k)]) (rest := []) hx hb hml hown hts hK hM okV_RX4_92_X4_leapsOf (met_X4_leapsOf l mo ro_43 no fi se t3 le od 0 (ac + 1) (mOutc rw_43 (mEnd (mTie f j k)) (ac + 1)) su j k lf hmo_43 hle_43 (by omega) (by omega) hL) hmo_43 rfl rfl rfl ⟨Nat.le_of_ble_eq_true rfl, Nat.le_of_ble_eq_true rfl⟩ hl.1 rfl (Nat.le_of_ble_eq_true rfl) dX4_bond_49 ⟨by show 0 + (kpC nr (ac + 1)) ≤ kpC nr (ac + 1); omega, by show 0 + (kpS nr (ac + 1)) ≤ kpS nr (ac + 1); omega⟩) ?_
    have hf49_0 := mHop_le j k
    exact wr_ireturn hx hb hr hlk hM hS (by omega) (by omega) rfl (MoKept.dn (MoKept.dn hR (Or.inr (Or.inr (Or.inl rfl)))) (Or.inl rfl)) dX4_bond_52
  · skip
    exfalso; omega
set_option maxHeartbeats 4000000 in
set_option maxRecDepth 100000 in
theorem met_X4_dissolve_b (l : Launch) {D : va_G} {cI cJ : ClassId} {M : MP} {A : Nat → Prop} {sz : Nat} (mo ro no fi se t3 le od th ac oc : Nat) (su : Bool) (x : Int32) (hmo : M mo = some (.inr (3, [.int (nI th), .int (bI su), .ref ro, .int (nI ac), .int (nI oc), .ref no, .ref fi, .ref se, .ref t3, .ref le, .ref od]))) (hbx : mIsSq x = false) (hA_mo : A mo) : Wr l yX4_dissolve cX4_dissolve 3 (some .int) 10 0 0 D cI cJ [.ref mo, .int x] M sz A (some (.int (nI 0))) (fun M' => M' = mu M mo (.inr (3, [.int (nI 1), .int (bI su), .ref ro, .int (nI ac), .int (nI oc), .ref no, .ref fi, .ref se, .ref t3, .ref le, .ref od]))) := by
  refine wr_start (by decide) (Nat.le_of_ble_eq_true rfl) ?_
  intro p e s m args below meth c hx hb hr hml hown hts hlk hini hK hsz H hH0 hM hS ls hl
  clear hH0
  have hl : lv_has ls 3 [(0, .ref mo), (1, .int x)] := hl
  refine lv_aload_n hx hb dX4_dissolve_0 rfl (lv_at hl 0 rfl) ?_
  refine lv_iload_n hx hb dX4_dissolve_1 rfl (lv_at hl 1 rfl) ?_
  refine rd_goI (rd_runS (As := [.int x]) (rest := [.ref mo]) hx hb hml hown hts hK hM okS_RX4_160_X4_isSquare (met_X4_isSquare l x) rfl ⟨Nat.le_of_ble_eq_true rfl, Nat.le_of_ble_eq_true rfl⟩ hl.1 rfl (Nat.le_of_ble_eq_true rfl) dX4_dissolve_2 ⟨Nat.le_refl _, Nat.le_refl _⟩) ?_
  refine topi (bI false) (by rw [hbx]) ?_
  refine wr_go0 (wr_runV (As := [.int (bI false)]) (rest := []) hx hb hml hown hts hK hM okV_RX4_163_X4_isGood (met_X4_isGood l mo ro no fi se t3 le od th ac oc su false hmo hA_mo) hmo rfl rfl rfl ⟨Nat.le_of_ble_eq_true rfl, Nat.le_of_ble_eq_true rfl⟩ hl.1 rfl (Nat.le_of_ble_eq_true rfl) dX4_dissolve_5 ⟨Nat.le_refl _, Nat.le_refl _⟩) hS (fun M1 H locs hR hM hS => ?_)
  obtain rfl := hR
  refine zb_ne (tgt := 13) hx hb false dX4_dissolve_8 (by decide) (fun h => absurd (h.symm.trans (rfl : false = false)) (by decide)) (fun _ => ?_)
  refine lv_iconst (v := nI 0) hx hb dX4_dissolve_11 (by decide) ?_
  exact wr_ireturn hx hb hr hlk hM hS (Nat.le_refl _) (Nat.le_refl _) rfl (by rw [show nI 1 = nI (gN false) from rfl]) dX4_dissolve_12
set_option maxHeartbeats 4000000 in
set_option maxRecDepth 100000 in
theorem met_X4_dissolve_r (l : Launch) {D : va_G} {cI cJ : ClassId} {M : MP} {A : Nat → Prop} {sz : Nat} (mo ro no fi se t3 le od th ac oc : Nat) (su : Bool) (j : Nat) (f : Nat → Int32) (hmo : M mo = some (.inr (3, [.int (nI th), .int (bI su), .ref ro, .int (nI ac), .int (nI oc), .ref no, .ref fi, .ref se, .ref t3, .ref le, .ref od]))) (hno : M no = some (eI cI 146 f)) (hj : j < 64) (hoc : oc < 2 ^ 31) (hok : mDisOk su oc f j = false) (hs : WfS f) (hA_mo : A mo) : Wr l yX4_dissolve cX4_dissolve 3 (some .int) 10 0 0 D cI cJ [.ref mo, .int (nI j)] M sz A (some (.int (nI 0))) (fun M' => M' = mu M mo (.inr (3, [.int (nI 2), .int (bI su), .ref ro, .int (nI ac), .int (nI oc), .ref no, .ref fi, .ref se, .ref t3, .ref le, .ref od]))) := by
  refine wr_start (by decide) (Nat.le_of_ble_eq_true rfl) ?_
  intro p e s m args below meth c hx hb hr hml hown hts hlk hini hK hsz H hH0 hM hS ls hl
  clear hH0
  have hl : lv_has ls 3 [(0, .ref mo), (1, .int (nI j))] := hl
  refine lv_aload_n hx hb dX4_dissolve_0 rfl (lv_at hl 0 rfl) ?_
  refine lv_iload_n hx hb dX4_dissolve_1 rfl (lv_at hl 1 rfl) ?_
  refine rd_goI (rd_runS (As := [.int (nI j)]) (rest := [.ref mo]) hx hb hml hown hts hK hM okS_RX4_160_X4_isSquare (met_X4_isSquare l (nI j)) rfl ⟨Nat.le_of_ble_eq_true rfl, Nat.le_of_ble_eq_true rfl⟩ hl.1 rfl (Nat.le_of_ble_eq_true rfl) dX4_dissolve_2 ⟨Nat.le_refl _, Nat.le_refl _⟩) ?_
  refine topi (bI true) (by rw [mIsSq_n hj]) ?_
  refine wr_go0 (wr_runV (As := [.int (bI true)]) (rest := []) hx hb hml hown hts hK hM okV_RX4_163_X4_isGood (met_X4_isGood l mo ro no fi se t3 le od th ac oc su true hmo hA_mo) hmo rfl rfl rfl ⟨Nat.le_of_ble_eq_true rfl, Nat.le_of_ble_eq_true rfl⟩ hl.1 rfl (Nat.le_of_ble_eq_true rfl) dX4_dissolve_5 ⟨Nat.le_refl _, Nat.le_refl _⟩) hS (fun M1 H locs hR hM hS => ?_)
  obtain rfl := hR
  refine zb_ne (tgt := 13) hx hb true dX4_dissolve_8 (by decide) (fun _ => ?_) (fun h => absurd (h.symm.trans (rfl : true = true)) (by decide))
  refine lv_aload_n hx hb dX4_dissolve_13 rfl (lv_at hl 0 rfl) ?_
  refine rd_goI (rd_runV (As := []) (rest := []) hx hb hml hown hts hK hM okV_RX4_183_X4_isPlayed (met_X4_isPlayed l mo ro no fi se t3 le od (gN true) ac oc su mu_s (by omega)) mu_s rfl rfl rfl ⟨Nat.le_of_ble_eq_true rfl, Nat.le_of_ble_eq_true rfl⟩ hl.1 rfl (Nat.le_of_ble_eq_true rfl) dX4_dissolve_14 ⟨Nat.le_refl _, Nat.le_refl _⟩) ?_
  refine topi (bI (mPl su oc)) rfl ?_
  refine zb_eq (tgt := 28) hx hb (mPl su oc) dX4_dissolve_17 (by decide) (fun c_17 => ?_) (fun c_17 => ?_)
  · skip
    refine lv_aload_n hx hb dX4_dissolve_28 rfl (lv_at hl 0 rfl) ?_
    refine lv_iconst (v := nI 2) hx hb dX4_dissolve_29 (by decide) ?_
    refine wr_go0 (wr_runV (As := [.int (nI 2)]) (rest := []) hx hb hml hown hts hK hM okV_RX4_167_X4_fail (met_X4_fail l mo ro no fi se t3 le od (gN true) ac oc su 2 mu_s hA_mo) mu_s rfl rfl rfl ⟨Nat.le_of_ble_eq_true rfl, Nat.le_of_ble_eq_true rfl⟩ hl.1 rfl (Nat.le_of_ble_eq_true rfl) dX4_dissolve_30 ⟨Nat.le_refl _, Nat.le_refl _⟩) hS (fun M1 H locs hR hM hS => ?_)
    obtain rfl := hR
    rw [mu_mu] at hM
    exact wr_ireturn hx hb hr hlk hM hS (Nat.le_refl _) (Nat.le_refl _) rfl rfl dX4_dissolve_33
  · skip
    refine lv_aload_n hx hb dX4_dissolve_20 rfl (lv_at hl 0 rfl) ?_
    refine lv_iload_n hx hb dX4_dissolve_21 rfl (lv_at hl 1 rfl) ?_
    refine rd_goI (rd_runV (As := [.int (nI j)]) (rest := []) hx hb hml hown hts hK hM okV_RX4_117_X4_dissolveReason (met_X4_dissolveReason l mo ro no fi se t3 le od (gN true) ac oc su j f mu_s (mu_g (ne_io hno hmo) hno) (by omega) hs) mu_s rfl rfl rfl ⟨Nat.le_of_ble_eq_true rfl, Nat.le_of_ble_eq_true rfl⟩ hl.1 rfl (Nat.le_of_ble_eq_true rfl) dX4_dissolve_22 ⟨Nat.le_refl _, Nat.le_refl _⟩) ?_
    have hf22_0 := mDissR_le f j
    refine n0_eq (tgt := 34) hx hb (mDissR f j) (by omega) dX4_dissolve_25 (by decide) (fun c_25 => ?_) (fun c_25 => ?_)
    · skip
      exact absurd hok (by simp [mDisOk, c_17, c_25])
    · skip
      refine lv_aload_n hx hb dX4_dissolve_28 rfl (lv_at hl 0 rfl) ?_
      refine lv_iconst (v := nI 2) hx hb dX4_dissolve_29 (by decide) ?_
      refine wr_go0 (wr_runV (As := [.int (nI 2)]) (rest := []) hx hb hml hown hts hK hM okV_RX4_167_X4_fail (met_X4_fail l mo ro no fi se t3 le od (gN true) ac oc su 2 mu_s hA_mo) mu_s rfl rfl rfl ⟨Nat.le_of_ble_eq_true rfl, Nat.le_of_ble_eq_true rfl⟩ hl.1 rfl (Nat.le_of_ble_eq_true rfl) dX4_dissolve_30 ⟨Nat.le_refl _, Nat.le_refl _⟩) hS (fun M1 H locs hR hM hS => ?_)
      obtain rfl := hR
      rw [mu_mu] at hM
      exact wr_ireturn hx hb hr hlk hM hS (Nat.le_refl _) (Nat.le_refl _) rfl rfl dX4_dissolve_33
set_option maxHeartbeats 4000000 in
set_option maxRecDepth 100000 in
theorem met_X4_dissolve (l : Launch) {D : va_G} {cI cJ : ClassId} {M : MP} {A : Nat → Prop} {sz : Nat} (mo ro no fi se t3 le od th ac oc : Nat) (su : Bool) (nr : Nat) (j : Nat) (f g g2 g3 lf rw : Nat → Int32) (hmo : M mo = some (.inr (3, [.int (nI th), .int (bI su), .ref ro, .int (nI ac), .int (nI oc), .ref no, .ref fi, .ref se, .ref t3, .ref le, .ref od]))) (hro : M ro = some (eI cI nr rw)) (hno : M no = some (eI cI 146 f)) (hfi : M fi = some (eI cI 146 g)) (hse : M se = some (eI cI 146 g2)) (ht3 : M t3 = some (eI cI 146 g3)) (hle : M le = some (eI cI 4096 lf)) (hP : WfP f) (hB : WfB f) (hs : WfS f) (hL : WfL lf) (hap : Apart6 ro no fi se t3 le) (hj : j < 64) (hoc : oc < 2 ^ 31) (hok : mDisOk su oc f j = true) (hlo : 146 * (ac + 1) ≤ nr) (h3 : 146 ≤ nr) (hnr : nr < 2 ^ 26) (hA_mo : A mo) (hA_ro : A ro) (hA_no : A no) (hA_fi : A fi) (hAn : ∀ q, sz ≤ q → A q) : Wr l yX4_dissolve cX4_dissolve 3 (some .int) 10 (kpC nr (ac + 1)) (kpS nr (ac + 1)) D cI cJ [.ref mo, .int (nI j)] M sz A (some (.int (f (64 + j)))) (fun M' => MoKept cI M M' A mo ro no fi se t3 le od 0 (ac + 1) su nr rw (mEnd (mUntie f j)) g2 g3 lf) := by
  refine wr_start (by decide) (Nat.le_of_ble_eq_true rfl) ?_
  intro p e s m args below meth c hx hb hr hml hown hts hlk hini hK hsz H hH0 hM hS ls hl
  rw [← hsz] at hAn
  clear hH0
  have hl : lv_has ls 3 [(0, .ref mo), (1, .int (nI j))] := hl
  have hap0 := hap
  obtain ⟨⟨n_ro_no, n_ro_fi, n_ro_se, n_ro_t3, n_ro_le⟩, ⟨n_no_fi, n_no_se, n_no_t3, n_no_le⟩, ⟨n_fi_se, n_fi_t3, n_fi_le⟩, ⟨n_se_t3, n_se_le⟩, n_t3_le⟩ := hap0
  have hok2 := hok
  unfold mDisOk at hok2
  rw [Bool.and_eq_true, decide_eq_true_eq] at hok2
  obtain ⟨hpl, hr0⟩ := hok2
  have hw := WfR_untie ⟨hP, hB, hs⟩ hj
  refine lv_aload_n hx hb dX4_dissolve_0 rfl (lv_at hl 0 rfl) ?_
  refine lv_iload_n hx hb dX4_dissolve_1 rfl (lv_at hl 1 rfl) ?_
  refine rd_goI (rd_runS (As := [.int (nI j)]) (rest := [.ref mo]) hx hb hml hown hts hK hM okS_RX4_160_X4_isSquare (met_X4_isSquare l (nI j)) rfl ⟨Nat.le_of_ble_eq_true rfl, Nat.le_of_ble_eq_true rfl⟩ hl.1 rfl (Nat.le_of_ble_eq_true rfl) dX4_dissolve_2 ⟨by show 0 ≤ kpC nr (ac + 1); omega, by show 0 ≤ kpS nr (ac + 1); omega⟩) ?_
  refine topi (bI true) (by rw [mIsSq_n hj]) ?_
  refine wr_go0 (wr_runV (As := [.int (bI true)]) (rest := []) hx hb hml hown hts hK hM okV_RX4_163_X4_isGood (met_X4_isGood l mo ro no fi se t3 le od th ac oc su true hmo hA_mo) hmo rfl rfl rfl ⟨Nat.le_of_ble_eq_true rfl, Nat.le_of_ble_eq_true rfl⟩ hl.1 rfl (Nat.le_of_ble_eq_true rfl) dX4_dissolve_5 ⟨by show 0 + 0 ≤ kpC nr (ac + 1); omega, by show 0 + 0 ≤ kpS nr (ac + 1); omega⟩) hS (fun M1 H locs hR hM hS => ?_)
  obtain rfl := hR
  refine zb_ne (tgt := 13) hx hb true dX4_dissolve_8 (by decide) (fun _ => ?_) (fun h => absurd (h.symm.trans (rfl : true = true)) (by decide))
  refine lv_aload_n hx hb dX4_dissolve_13 rfl (lv_at hl 0 rfl) ?_
  refine rd_goI (rd_runV (As := []) (rest := []) hx hb hml hown hts hK hM okV_RX4_183_X4_isPlayed (met_X4_isPlayed l mo ro no fi se t3 le od (gN true) ac oc su mu_s (by omega)) mu_s rfl rfl rfl ⟨Nat.le_of_ble_eq_true rfl, Nat.le_of_ble_eq_true rfl⟩ hl.1 rfl (Nat.le_of_ble_eq_true rfl) dX4_dissolve_14 ⟨by show 0 ≤ kpC nr (ac + 1); omega, by show 0 ≤ kpS nr (ac + 1); omega⟩) ?_
  refine topi (bI true) (by rw [show (!su && decide (oc = 0)) = true from hpl]) ?_
  refine zb_eq (tgt := 28) hx hb true dX4_dissolve_17 (by decide) (fun h => absurd (h.symm.trans (rfl : true = true)) (by decide)) (fun _ => ?_)
  refine lv_aload_n hx hb dX4_dissolve_20 rfl (lv_at hl 0 rfl) ?_
  refine lv_iload_n hx hb dX4_dissolve_21 rfl (lv_at hl 1 rfl) ?_
  refine rd_goI (rd_runV (As := [.int (nI j)]) (rest := []) hx hb hml hown hts hK hM okV_RX4_117_X4_dissolveReason (met_X4_dissolveReason l mo ro no fi se t3 le od (gN true) ac oc su j f mu_s (mu_g (ne_io hno hmo) hno) (by omega) hs) mu_s rfl rfl rfl ⟨Nat.le_of_ble_eq_true rfl, Nat.le_of_ble_eq_true rfl⟩ hl.1 rfl (Nat.le_of_ble_eq_true rfl) dX4_dissolve_22 ⟨by show 0 ≤ kpC nr (ac + 1); omega, by show 0 ≤ kpS nr (ac + 1); omega⟩) ?_
  have hf22_0 := mDissR_le f j
  refine n0_eq (tgt := 34) hx hb (mDissR f j) (by omega) dX4_dissolve_25 (by decide) (fun c_25 => ?_) (fun c_25 => ?_)
  · skip
    refine lv_aload_n hx hb dX4_dissolve_34 rfl (lv_at hl 0 rfl) ?_
    refine w_get (C := RX4) (T := TX4) (N := 11) (ci := 3) hx hb hts hown hK hM inX4 rfl 5 (by decide) qw_4_89 rfl mu_s rfl dX4_dissolve_35 ?_
    refine lv_bipush (v := nI 64) hx hb dX4_dissolve_38 (by decide) ?_
    refine lv_iload_n hx hb dX4_dissolve_40 rfl (lv_at hl 1 rfl) ?_
    refine ni_add hx hb 64 j dX4_dissolve_41 ?_
    refine w_iald hx hb hK hM (mu_g (ne_io hno hmo) hno) (64 + j) (by omega) (by decide) dX4_dissolve_42 ?_
    refine lv_istore_n (lv' := [(2, .int (f (64 + j))), (0, .ref mo), (1, .int (nI j))]) hx hb dX4_dissolve_43 rfl hl (by decide) rfl (fun ls hl => ?_)
    refine lv_aload_n hx hb dX4_dissolve_44 rfl (lv_at hl 1 rfl) ?_
    refine w_get (C := RX4) (T := TX4) (N := 11) (ci := 3) hx hb hts hown hK hM inX4 rfl 5 (by decide) qw_4_89 rfl mu_s rfl dX4_dissolve_45 ?_
    refine lv_iload_n hx hb dX4_dissolve_48 rfl (lv_at hl 2 rfl) ?_
    refine wr_go0 (wr_runS (As := [.ref no, .int (nI j)]) (rest := []) hx hb hml hown hts hK hM okS_RX4_88_X4_untie (met_X4_untie l no j f (mu_g (ne_io hno hmo) hno) (by omega) hB hA_no) rfl ⟨Nat.le_of_ble_eq_true rfl, Nat.le_of_ble_eq_true rfl⟩ hl.1 rfl (Nat.le_of_ble_eq_true rfl) dX4_dissolve_49 ⟨by show 0 + 0 ≤ kpC nr (ac + 1); omega, by show 0 + 0 ≤ kpS nr (ac + 1); omega⟩) hS (fun M1 H locs hR hM hS => ?_)
    obtain rfl := hR
    refine lv_aload_n hx hb dX4_dissolve_52 rfl (lv_at hl 1 rfl) ?_
    refine wr_go (wr_runV (As := []) (rest := []) hx hb hml hown hts hK hM okV_RX4_193_X4_endCalmly (met_X4_endCalmly l mo ro no fi se t3 le od (gN true) ac oc su nr (mUntie f j) g g2 g3 lf rw (mu_g (ne_oi hmo hno) mu_s) (mu_g n_ro_no (mu_g (ne_io hro hmo) hro)) mu_s (mu_g (Ne.symm n_no_fi) (mu_g (ne_io hfi hmo) hfi)) (mu_g (Ne.symm n_no_se) (mu_g (ne_io hse hmo) hse)) (mu_g (Ne.symm n_no_t3) (mu_g (ne_io ht3 hmo) ht3)) (mu_g (Ne.symm n_no_le) (mu_g (ne_io hle hmo) hle)) hw.1 hw.2.1 hw.2.2 hL hap (by omega) (by omega) (by omega) hA_mo hA_ro hA_no hA_fi (fun q hq => hAn q (Nat.le_trans hS.1 hq))) (mu_g (ne_oi hmo hno) mu_s) rfl rfl rfl ⟨Nat.le_of_ble_eq_true rfl, Nat.le_of_ble_eq_true rfl⟩ hl.1 rfl (Nat.le_of_ble_eq_true rfl) dX4_dissolve_53 ⟨by show 0 + (kpC nr (ac + 1)) ≤ kpC nr (ac + 1); omega, by show 0 + (kpS nr (ac + 1)) ≤ kpS nr (ac + 1); omega⟩) hS (fun M1 H locs hR hHs hM hS => ?_)
    obtain ⟨ro_53, nr_53, rw_53, g1_53, ⟨hmo_53, hro_53, hno_53, hfi_53, hse_53, ht3_53, hle_53, hap_53⟩, hkp_53, hrr_53⟩ := id hR
    refine lv_iload_n hx hb dX4_dissolve_56 rfl (lv_at hl 0 rfl) ?_
    exact wr_ireturn hx hb hr hlk hM hS (by omega) (by omega) rfl (MoKept.dn (MoKept.dn hR (Or.inr (Or.inr (Or.inl rfl)))) (Or.inl rfl)) dX4_dissolve_57
  · skip
    exfalso; omega
