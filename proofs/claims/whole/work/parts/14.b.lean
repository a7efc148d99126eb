theorem okV_RX3_240_X3_timesOccurred : okV RX3 240 yX3_timesOccurred cX3_timesOccurred 3 (some .int) 0 := okV_of qw_2_104 qw_2_106 qw_0_2 qw_1_1 qw_2_107 (by decide +kernel)
theorem okV_RX3_263_X1_hasLawfulMove : okV RX3 263 yX1_hasLawfulMove cX1_hasLawfulMove 4 (some .boolean) 0 := okV_of qw_3_50 qw_2_89 qw_2_90 qw_1_3 qw_2_91 (by decide +kernel)
theorem okV_RX3_266_X1_hasBondAction : okV RX3 266 yX1_hasBondAction cX1_hasBondAction 6 (some .boolean) 0 := okV_of qw_3_51 qw_3_52 qw_3_53 qw_1_3 qw_3_54 (by decide +kernel)
theorem okV_RX3_269_X1_kings : okV RX3 269 yX1_kings cX1_kings 1 (some .long) 0 := okV_of qw_3_56 qw_3_57 qw_3_58 qw_1_3 qw_3_59 (by decide +kernel)
theorem okV_RX3_272_X1_matches : okV RX3 272 yX1_matches cX1_matches 3 (some .boolean) 1 := okV_of qw_2_108 qw_2_109 qw_2_110 qw_1_3 qw_2_111 (by decide +kernel)
set_option maxHeartbeats 4000000 in
set_option maxRecDepth 100000 in
theorem met_X3_timesOccurred (l : Launch) {D : va_G} {cI cJ : ClassId} {M : MP} (xo tr cn N : Nat) (su : Bool) (pa po okk pt : Nat → Nat) (K : Nat → Nat → BitVec 64) (pp : Nat → Nat → Int32) (w bk : Nat → BitVec 64) (wa : Nat → Bool) (ca qu ve : Nat → Nat)  (hxo : M xo = some (.inr (2, [.ref (pa 0), .ref tr, .ref (pa cn), .int (bI su)]))) (hPs : Pages cI cJ M pa po okk pt K pp w bk wa ca qu ve N) (hcn : cn < N) (hN : N ≤ 514) : RdI l yX3_timesOccurred cX3_timesOccurred 3 (some .int) 1 D cI cJ [.ref xo] M (nI (kTm K pp w bk wa cn)) := by
  refine rd_start (by decide) (Nat.le_of_ble_eq_true rfl) ?_
  intro p e s m args below meth c hx hb hr hml hown hts hlk hK hM ls hl
  have hl : lv_has ls 3 [(0, .ref xo)] := hl
  refine lv_iconst (v := nI 0) hx hb dX3_timesOccurred_0 (by decide) ?_
  refine lv_istore_n (lv' := [(1, .int (nI 0)), (0, .ref xo)]) hx hb dX3_timesOccurred_1 rfl hl (by decide) rfl (fun ls hl => ?_)
  refine lv_aload_n hx hb dX3_timesOccurred_2 rfl (lv_at hl 1 rfl) ?_
  refine w_get (C := RX3) (T := TX3) (N := 4) (ci := 2) hx hb hts hown hK hM inX3 rfl 2 (by decide) qw_1_104 rfl hxo rfl dX3_timesOccurred_3 ?_
  refine lv_astore_n (lv' := [(2, .ref (pa cn)), (1, .int (nI 0)), (0, .ref xo)]) hx hb dX3_timesOccurred_6 rfl hl (by decide) rfl (fun ls hl => ?_)
  refine loopR (pcH := 7) (st := []) (ι := Nat × Nat) (fun ξ => [(2, pgV pa (ξ.2)), (1, .int (nI (ξ.1))), (0, .ref xo)]) (fun n ξ => (ξ.2) = n ∧ ((ξ.2) ≤ cn + 1 ∧ kTm K pp w bk wa cn = kCntD (kEqP K pp w bk wa cn) (ξ.2) (ξ.1))) ?_ ?_ (cn + 1) (0, cn + 1) (⟨rfl, Nat.le_refl _, rfl⟩) ls (lv_sub hl [0,1,2] rfl)
  · rintro ⟨r, j⟩ ⟨hin, hj9, hres⟩ ls hl
    try dsimp only at hl hin hj9 hres
    obtain rfl := hin
    have hl : lv_has ls 3 [(2, .null), (1, .int (nI r)), (0, .ref xo)] := hl
    refine lv_aload_nN hx hb dX3_timesOccurred_7 rfl (lv_at hl 0 rfl) ?_
    refine lv_ifnullN (tgt := 39) hx hb dX3_timesOccurred_8 (by decide) ?_
    refine lv_iload_n hx hb dX3_timesOccurred_39 rfl (lv_at hl 1 rfl) ?_
    exact rd_ireturn hx hb hr hlk (by rw [hres]; simp [kCntD, kEqP, bI_t, bI_f]) dX3_timesOccurred_40
  · rintro n ih ⟨r, j⟩ ⟨hin, hj9, hres⟩ ls hl
    try dsimp only at hl hin hj9 hres
    obtain ⟨i, rfl⟩ : ∃ i, j = i + 1 := ⟨n, hin⟩
    have hi9 : i < N := by omega
    have hl : lv_has ls 3 [(2, .ref (pa i)), (1, .int (nI r)), (0, .ref xo)] := hl
    refine lv_aload_n hx hb dX3_timesOccurred_7 rfl (lv_at hl 0 rfl) ?_
    refine lv_ifnull hx hb dX3_timesOccurred_8 ?_
    refine lv_aload_n hx hb dX3_timesOccurred_11 rfl (lv_at hl 0 rfl) ?_
    refine w_get (C := RX0) (T := TX0) (N := 7) (ci := 0) hx hb hts hown hK hM inX0 rfl 0 (by decide) qw_1_63 rfl (hPs.1 i hi9) rfl dX3_timesOccurred_12 ?_
    refine lv_aload_n hx hb dX3_timesOccurred_15 rfl (lv_at hl 2 rfl) ?_
    refine w_get (C := RX3) (T := TX3) (N := 4) (ci := 2) hx hb hts hown hK hM inX3 rfl 2 (by decide) qw_1_104 rfl hxo rfl dX3_timesOccurred_16 ?_
    refine w_get (C := RX0) (T := TX0) (N := 7) (ci := 0) hx hb hts hown hK hM inX0 rfl 0 (by decide) qw_1_63 rfl (hPs.1 cn hcn) rfl dX3_timesOccurred_19 ?_
    refine rd_goI (rd_runV (As := [.ref (po cn)]) (rest := []) hx hb hml hown hts hK hM okV_RX3_272_X1_matches (met_X1_matches l (po i) (okk i) (pt i) (po cn) (okk cn) (pt cn) (K i) (K cn) (pp i) (pp cn) (w i) (bk i) (w cn) (bk cn) (wa i) (wa cn) (hPs.2.1 i hi9).1 (hPs.2.1 i hi9).2.1 (hPs.2.1 i hi9).2.2 (hPs.2.1 cn hcn).1 (hPs.2.1 cn hcn).2.1 (hPs.2.1 cn hcn).2.2) (hPs.2.1 i hi9).1 rfl rfl rfl ⟨Nat.le_of_ble_eq_true rfl, Nat.le_of_ble_eq_true rfl⟩ hl.1 rfl (Nat.le_of_ble_eq_true rfl) dX3_timesOccurred_22 ⟨Nat.le_refl _, Nat.le_refl _⟩) ?_
    refine zb_eq (tgt := 31) hx hb (kEq (K i) (K cn) (pp i) (pp cn) (w i) (bk i) (w cn) (bk cn) (wa i) (wa cn)) dX3_timesOccurred_25 (by decide) (fun c_25 => ?_) (fun c_25 => ?_)
    · skip
      refine lv_aload_n hx hb dX3_timesOccurred_31 rfl (lv_at hl 0 rfl) ?_
      refine w_get (C := RX0) (T := TX0) (N := 7) (ci := 0) hx hb hts hown hK hM inX0 rfl 1 (by decide) qw_1_65 rfl (hPs.1 i hi9) rfl dX3_timesOccurred_32 ?_
      refine w_astore_n (lv' := [(2, pgV pa i), (1, .int (nI r)), (0, .ref xo)]) hx hb (pgV_or _ _) dX3_timesOccurred_35 rfl hl (by decide) rfl (fun ls hl => ?_)
      refine lv_goto (tgt := 7) hx hb dX3_timesOccurred_36 (by decide) ?_
      exact ih (r, i) ⟨by first | omega | (dsimp only <;> omega), by first | omega | (dsimp only <;> omega), by rw [hres]; simp [kCntD, kEqP, c_25]⟩ ls (lv_sub hl [0,1,2] rfl)
    · skip
      refine ni_iinc (lv' := [(1, .int (nI (r + 1))), (2, .ref (pa i)), (0, .ref xo)]) hx hb r 1 dX3_timesOccurred_28 hl (k := 1) rfl (by decide) (by decide) rfl (fun ls hl => ?_)
      refine lv_aload_n hx hb dX3_timesOccurred_31 rfl (lv_at hl 1 rfl) ?_
      refine w_get (C := RX0) (T := TX0) (N := 7) (ci := 0) hx hb hts hown hK hM inX0 rfl 1 (by decide) qw_1_65 rfl (hPs.1 i hi9) rfl dX3_timesOccurred_32 ?_
      refine w_astore_n (lv' := [(2, pgV pa i), (1, .int (nI (r + 1))), (0, .ref xo)]) hx hb (pgV_or _ _) dX3_timesOccurred_35 rfl hl (by decide) rfl (fun ls hl => ?_)
      refine lv_goto (tgt := 7) hx hb dX3_timesOccurred_36 (by decide) ?_
      exact ih (r + 1, i) ⟨by first | omega | (dsimp only <;> omega), by first | omega | (dsimp only <;> omega), by rw [hres]; simp [kCntD, kEqP, c_25]⟩ ls (lv_sub hl [0,1,2] rfl)
set_option maxHeartbeats 4000000 in
set_option maxRecDepth 100000 in
theorem met_X3_verdictNow (l : Launch) {D : va_G} {cI cJ : ClassId} {M : MP} (xo tr cn N : Nat) (su : Bool) (pa po okk pt : Nat → Nat) (K : Nat → Nat → BitVec 64) (pp : Nat → Nat → Int32) (w bk : Nat → BitVec 64) (wa : Nat → Bool) (ca qu ve : Nat → Nat)  (hxo : M xo = some (.inr (2, [.ref (pa 0), .ref tr, .ref (pa cn), .int (bI su)]))) (hPs : Pages cI cJ M pa po okk pt K pp w bk wa ca qu ve N) (hcn : cn < N) (hN : N ≤ 514) (hW : WfPt (pp cn)) (hqu : qu cn < 2 ^ 31) : RdI l yX3_verdictNow cX3_verdictNow 3 (some .int) 5 D cI cJ [.ref xo] M (nI (kVer K pp w bk wa qu cn)) := by
  refine rd_start (by decide) (Nat.le_of_ble_eq_true rfl) ?_
  intro p e s m args below meth c hx hb hr hml hown hts hlk hK hM ls hl
  have hl : lv_has ls 3 [(0, .ref xo)] := hl
  refine lv_aload_n hx hb dX3_verdictNow_0 rfl (lv_at hl 0 rfl) ?_
  refine w_get (C := RX3) (T := TX3) (N := 4) (ci := 2) hx hb hts hown hK hM inX3 rfl 2 (by decide) qw_1_104 rfl hxo rfl dX3_verdictNow_1 ?_
  refine w_get (C := RX0) (T := TX0) (N := 7) (ci := 0) hx hb hts hown hK hM inX0 rfl 0 (by decide) qw_1_63 rfl (hPs.1 cn hcn) rfl dX3_verdictNow_4 ?_
  refine lv_astore_n (lv' := [(1, .ref (po cn)), (0, .ref xo)]) hx hb dX3_verdictNow_7 rfl hl (by decide) rfl (fun ls hl => ?_)
  refine lv_aload_n hx hb dX3_verdictNow_8 rfl (lv_at hl 0 rfl) ?_
  refine lv_aload_n hx hb dX3_verdictNow_9 rfl (lv_at hl 0 rfl) ?_
  refine w_get (C := RX1) (T := TX1) (N := 5) (ci := 1) hx hb hts hown hK hM inX1 rfl 4 (by decide) qw_1_48 rfl (hPs.2.1 cn hcn).1 rfl dX3_verdictNow_10 ?_
  refine rd_goI (rd_runV (As := [.int (bI (wa cn))]) (rest := []) hx hb hml hown hts hK hM okV_RX3_152_X1_isChecked (met_X1_isChecked l (po cn) (okk cn) (pt cn) (K cn) (w cn) (bk cn) (wa cn) (wa cn) (hPs.2.1 cn hcn).1 (hPs.2.1 cn hcn).2.1) (hPs.2.1 cn hcn).1 rfl rfl rfl ⟨Nat.le_of_ble_eq_true rfl, Nat.le_of_ble_eq_true rfl⟩ hl.1 rfl (Nat.le_of_ble_eq_true rfl) dX3_verdictNow_13 ⟨Nat.le_refl _, Nat.le_refl _⟩) ?_
  refine lv_istore_n (lv' := [(2, .int (bI (kChk (K cn) (w cn) (bk cn) (wa cn)))), (1, .ref (po cn)), (0, .ref xo)]) hx hb dX3_verdictNow_16 rfl hl (by decide) rfl (fun ls hl => ?_)
  refine lv_aload_n hx hb dX3_verdictNow_17 rfl (lv_at hl 1 rfl) ?_
  refine rd_goI (rd_runV (As := []) (rest := []) hx hb hml hown hts hK hM okV_RX3_263_X1_hasLawfulMove (met_X1_hasLawfulMove l (po cn) (okk cn) (pt cn) (K cn) (pp cn) (w cn) (bk cn) (wa cn) (hPs.2.1 cn hcn).1 (hPs.2.1 cn hcn).2.1 (hPs.2.1 cn hcn).2.2 hW) (hPs.2.1 cn hcn).1 rfl rfl rfl ⟨Nat.le_of_ble_eq_true rfl, Nat.le_of_ble_eq_true rfl⟩ hl.1 rfl (Nat.le_of_ble_eq_true rfl) dX3_verdictNow_18 ⟨Nat.le_refl _, Nat.le_refl _⟩) ?_
  refine zb_ne (tgt := 39) hx hb (kHas (K cn) (pp cn) (w cn) (bk cn) (wa cn)) dX3_verdictNow_21 (by decide) (fun c_21 => ?_) (fun c_21 => ?_)
  · skip
    refine lv_aload_n hx hb dX3_verdictNow_39 rfl (lv_at hl 1 rfl) ?_
    refine rd_goL (rd_runV (As := []) (rest := []) hx hb hml hown hts hK hM okV_RX3_72_X1_occupied (met_X1_occupied l (po cn) (okk cn) (pt cn) (w cn) (bk cn) (wa cn) (hPs.2.1 cn hcn).1) (hPs.2.1 cn hcn).1 rfl rfl rfl ⟨Nat.le_of_ble_eq_true rfl, Nat.le_of_ble_eq_true rfl⟩ hl.1 rfl (Nat.le_of_ble_eq_true rfl) dX3_verdictNow_40 ⟨Nat.le_refl _, Nat.le_refl _⟩) ?_
    refine lv_aload_n hx hb dX3_verdictNow_43 rfl (lv_at hl 1 rfl) ?_
    refine rd_goL (rd_runV (As := []) (rest := [.long (bL ((w cn) ||| (bk cn)))]) hx hb hml hown hts hK hM okV_RX3_269_X1_kings (met_X1_kings l (po cn) (okk cn) (pt cn) (K cn) (w cn) (bk cn) (wa cn) (hPs.2.1 cn hcn).1 (hPs.2.1 cn hcn).2.1) (hPs.2.1 cn hcn).1 rfl rfl rfl ⟨Nat.le_of_ble_eq_true rfl, Nat.le_of_ble_eq_true rfl⟩ hl.1 rfl (Nat.le_of_ble_eq_true rfl) dX3_verdictNow_44 ⟨Nat.le_refl _, Nat.le_refl _⟩) ?_
    refine lb_cne (tgt := 53) hx hb dX3_verdictNow_47 dX3_verdictNow_48 (by decide) (fun c_48 => ?_) (fun c_48 => ?_)
    · skip
      refine lv_aload_n hx hb dX3_verdictNow_53 rfl (lv_at hl 2 rfl) ?_
      refine rd_goI (rd_runV (As := []) (rest := []) hx hb hml hown hts hK hM okV_RX3_240_X3_timesOccurred (met_X3_timesOccurred l xo tr cn N su pa po okk pt K pp w bk wa ca qu ve hxo hPs hcn (by omega)) hxo rfl rfl rfl ⟨Nat.le_of_ble_eq_true rfl, Nat.le_of_ble_eq_true rfl⟩ hl.1 rfl (Nat.le_of_ble_eq_true rfl) dX3_verdictNow_54 ⟨Nat.le_refl _, Nat.le_refl _⟩) ?_
      have hf54_0 := kTm_le K pp w bk wa cn
      refine lv_iconst (v := nI 3) hx hb dX3_verdictNow_57 (by decide) ?_
      refine ni_lt (tgt := 63) hx hb (kTm K pp w bk wa cn) 3 (by omega) (by omega) dX3_verdictNow_58 (by decide) (fun c_58 => ?_) (fun c_58 => ?_)
      · skip
        refine lv_aload_n hx hb dX3_verdictNow_63 rfl (lv_at hl 2 rfl) ?_
        refine w_get (C := RX3) (T := TX3) (N := 4) (ci := 2) hx hb hts hown hK hM inX3 rfl 2 (by decide) qw_1_104 rfl hxo rfl dX3_verdictNow_64 ?_
        refine w_get (C := RX0) (T := TX0) (N := 7) (ci := 0) hx hb hts hown hK hM inX0 rfl 5 (by decide) qw_1_70 rfl (hPs.1 cn hcn) rfl dX3_verdictNow_67 ?_
        refine lv_bipush (v := nI 40) hx hb dX3_verdictNow_70 (by decide) ?_
        refine ni_lt (tgt := 79) hx hb (qu cn) 40 (by omega) (by omega) dX3_verdictNow_72 (by decide) (fun c_72 => ?_) (fun c_72 => ?_)
        · skip
          refine lv_iconst (v := nI 0) hx hb dX3_verdictNow_79 (by decide) ?_
          exact rd_ireturn hx hb hr hlk (by simp [kVer, bI_t, bI_f, c_21, c_48, c_58, Nat.not_le.mpr c_58, Nat.le_of_lt c_58, c_72, Nat.not_le.mpr c_72, Nat.le_of_lt c_72]) dX3_verdictNow_80
        · skip
          refine lv_iconst (v := nI 5) hx hb dX3_verdictNow_75 (by decide) ?_
          refine lv_goto (tgt := 80) hx hb dX3_verdictNow_76 (by decide) ?_
          exact rd_ireturn hx hb hr hlk (by simp [kVer, bI_t, bI_f, c_21, c_48, c_58, Nat.not_le.mpr c_58, Nat.le_of_lt c_58, c_72, Nat.not_lt.mpr c_72]) dX3_verdictNow_80
      · skip
        refine lv_iconst (v := nI 4) hx hb dX3_verdictNow_61 (by decide) ?_
        exact rd_ireturn hx hb hr hlk (by simp [kVer, bI_t, bI_f, c_21, c_48, c_58, Nat.not_lt.mpr c_58]) dX3_verdictNow_62
    · skip
      refine lv_iconst (v := nI 3) hx hb dX3_verdictNow_51 (by decide) ?_
      exact rd_ireturn hx hb hr hlk (by simp [kVer, bI_t, bI_f, c_21, c_48]) dX3_verdictNow_52
  · skip
    refine lv_iload_n hx hb dX3_verdictNow_24 rfl (lv_at hl 0 rfl) ?_
    refine zb_eq (tgt := 30) hx hb (kChk (K cn) (w cn) (bk cn) (wa cn)) dX3_verdictNow_25 (by decide) (fun c_25 => ?_) (fun c_25 => ?_)
    · skip
      refine lv_aload_n hx hb dX3_verdictNow_30 rfl (lv_at hl 1 rfl) ?_
      refine rd_goI (rd_runV (As := []) (rest := []) hx hb hml hown hts hK hM okV_RX3_266_X1_hasBondAction (met_X1_hasBondAction l (po cn) (okk cn) (pt cn) (K cn) (pp cn) (w cn) (bk cn) (wa cn) (hPs.2.1 cn hcn).1 (hPs.2.1 cn hcn).2.1 (hPs.2.1 cn hcn).2.2) (hPs.2.1 cn hcn).1 rfl rfl rfl ⟨Nat.le_of_ble_eq_true rfl, Nat.le_of_ble_eq_true rfl⟩ hl.1 rfl (Nat.le_of_ble_eq_true rfl) dX3_verdictNow_31 ⟨Nat.le_refl _, Nat.le_refl _⟩) ?_
      refine zb_ne (tgt := 39) hx hb (kBAct (K cn) (pp cn) (w cn) (bk cn) (wa cn)) dX3_verdictNow_34 (by decide) (fun c_34 => ?_) (fun c_34 => ?_)
      · skip
        refine lv_aload_n hx hb dX3_verdictNow_39 rfl (lv_at hl 1 rfl) ?_
        refine rd_goL (rd_runV (As := []) (rest := []) hx hb hml hown hts hK hM okV_RX3_72_X1_occupied (met_X1_occupied l (po cn) (okk cn) (pt cn) (w cn) (bk cn) (wa cn) (hPs.2.1 cn hcn).1) (hPs.2.1 cn hcn).1 rfl rfl rfl ⟨Nat.le_of_ble_eq_true rfl, Nat.le_of_ble_eq_true rfl⟩ hl.1 rfl (Nat.le_of_ble_eq_true rfl) dX3_verdictNow_40 ⟨Nat.le_refl _, Nat.le_refl _⟩) ?_
        refine lv_aload_n hx hb dX3_verdictNow_43 rfl (lv_at hl 1 rfl) ?_
        refine rd_goL (rd_runV (As := []) (rest := [.long (bL ((w cn) ||| (bk cn)))]) hx hb hml hown hts hK hM okV_RX3_269_X1_kings (met_X1_kings l (po cn) (okk cn) (pt cn) (K cn) (w cn) (bk cn) (wa cn) (hPs.2.1 cn hcn).1 (hPs.2.1 cn hcn).2.1) (hPs.2.1 cn hcn).1 rfl rfl rfl ⟨Nat.le_of_ble_eq_true rfl, Nat.le_of_ble_eq_true rfl⟩ hl.1 rfl (Nat.le_of_ble_eq_true rfl) dX3_verdictNow_44 ⟨Nat.le_refl _, Nat.le_refl _⟩) ?_
        refine lb_cne (tgt := 53) hx hb dX3_verdictNow_47 dX3_verdictNow_48 (by decide) (fun c_48 => ?_) (fun c_48 => ?_)
        · skip
          refine lv_aload_n hx hb dX3_verdictNow_53 rfl (lv_at hl 2 rfl) ?_
          refine rd_goI (rd_runV (As := []) (rest := []) hx hb hml hown hts hK hM okV_RX3_240_X3_timesOccurred (met_X3_timesOccurred l xo tr cn N su pa po okk pt K pp w bk wa ca qu ve hxo hPs hcn (by omega)) hxo rfl rfl rfl ⟨Nat.le_of_ble_eq_true rfl, Nat.le_of_ble_eq_true rfl⟩ hl.1 rfl (Nat.le_of_ble_eq_true rfl) dX3_verdictNow_54 ⟨Nat.le_refl _, Nat.le_refl _⟩) ?_
          have hf54_0 := kTm_le K pp w bk wa cn
          refine lv_iconst (v := nI 3) hx hb dX3_verdictNow_57 (by decide) ?_
          refine ni_lt (tgt := 63) hx hb (kTm K pp w bk wa cn) 3 (by omega) (by omega) dX3_verdictNow_58 (by decide) (fun c_58 => ?_) (fun c_58 => ?_)
          · skip
            refine lv_aload_n hx hb dX3_verdictNow_63 rfl (lv_at hl 2 rfl) ?_
            refine w_get (C := RX3) (T := TX3) (N := 4) (ci := 2) hx hb hts hown hK hM inX3 rfl 2 (by decide) qw_1_104 rfl hxo rfl dX3_verdictNow_64 ?_
            refine w_get (C := RX0) (T := TX0) (N := 7) (ci := 0) hx hb hts hown hK hM inX0 rfl 5 (by decide) qw_1_70 rfl (hPs.1 cn hcn) rfl dX3_verdictNow_67 ?_
            refine lv_bipush (v := nI 40) hx hb dX3_verdictNow_70 (by decide) ?_
            refine ni_lt (tgt := 79) hx hb (qu cn) 40 (by omega) (by omega) dX3_verdictNow_72 (by decide) (fun c_72 => ?_) (fun c_72 => ?_)
            · skip
              refine lv_iconst (v := nI 0) hx hb dX3_verdictNow_79 (by decide) ?_
              exact rd_ireturn hx hb hr hlk (by simp [kVer, bI_t, bI_f, c_21, c_25, c_34, c_48, c_58, Nat.not_le.mpr c_58, Nat.le_of_lt c_58, c_72, Nat.not_le.mpr c_72, Nat.le_of_lt c_72]) dX3_verdictNow_80
            · skip
              refine lv_iconst (v := nI 5) hx hb dX3_verdictNow_75 (by decide) ?_
              refine lv_goto (tgt := 80) hx hb dX3_verdictNow_76 (by decide) ?_
              exact rd_ireturn hx hb hr hlk (by simp [kVer, bI_t, bI_f, c_21, c_25, c_34, c_48, c_58, Nat.not_le.mpr c_58, Nat.le_of_lt c_58, c_72, Nat.not_lt.mpr c_72]) dX3_verdictNow_80
          · skip
            refine lv_iconst (v := nI 4) hx hb dX3_verdictNow_61 (by decide) ?_
            exact rd_ireturn hx hb hr hlk (by simp [kVer, bI_t, bI_f, c_21, c_25, c_34, c_48, c_58, Nat.not_lt.mpr c_58]) dX3_verdictNow_62
        · skip
          refine lv_iconst (v := nI 3) hx hb dX3_verdictNow_51 (by decide) ?_
          exact rd_ireturn hx hb hr hlk (by simp [kVer, bI_t, bI_f, c_21, c_25, c_34, c_48]) dX3_verdictNow_52
      · skip
        refine lv_iconst (v := nI 2) hx hb dX3_verdictNow_37 (by decide) ?_
        exact rd_ireturn hx hb hr hlk (by simp [kVer, bI_t, bI_f, c_21, c_25, c_34]) dX3_verdictNow_38
    · skip
      refine lv_iconst (v := nI 1) hx hb dX3_verdictNow_28 (by decide) ?_
      exact rd_ireturn hx hb hr hlk (by simp [kVer, bI_t, bI_f, c_21, c_25]) dX3_verdictNow_29
set_option maxHeartbeats 4000000 in
set_option maxRecDepth 100000 in
theorem met_X3_occurrences (l : Launch) {D : va_G} {cI cJ : ClassId} {M : MP} {A : Nat → Prop} {sz : Nat} (xo tr cn N : Nat) (su : Bool) (pa po okk pt : Nat → Nat) (K : Nat → Nat → BitVec 64) (pp : Nat → Nat → Int32) (w bk : Nat → BitVec 64) (wa : Nat → Bool) (ca qu ve : Nat → Nat)  (hxo : M xo = some (.inr (2, [.ref (pa 0), .ref tr, .ref (pa cn), .int (bI su)]))) (hPs : Pages cI cJ M pa po okk pt K pp w bk wa ca qu ve N) (hcn : cn < N) (hN : N ≤ 514) : Wr l yX3_occurrences cX3_occurrences 1 (some .int) 2 0 0 D cI cJ [.ref xo] M sz A (some (.int (nI (if su then 0 else kTm K pp w bk wa cn)))) (fun M' => M' = M) := by
  refine wr_start (by decide) (Nat.le_of_ble_eq_true rfl) ?_
  intro p e s m args below meth c hx hb hr hml hown hts hlk hini hK hsz H hH0 hM hS ls hl
  clear hH0
  have hl : lv_has ls 1 [(0, .ref xo)] := hl
  refine lv_aload_n hx hb dX3_occurrences_0 rfl (lv_at hl 0 rfl) ?_
  refine w_get (C := RX3) (T := TX3) (N := 4) (ci := 2) hx hb hts hown hK hM inX3 rfl 3 (by decide) qw_1_105 rfl hxo rfl dX3_occurrences_1 ?_
  refine zb_eq (tgt := 11) hx hb su dX3_occurrences_4 (by decide) (fun c_4 => ?_) (fun c_4 => ?_)
  · skip
    refine lv_aload_n hx hb dX3_occurrences_11 rfl (lv_at hl 0 rfl) ?_
    refine rd_goI (rd_runV (As := []) (rest := []) hx hb hml hown hts hK hM okV_RX3_240_X3_timesOccurred (met_X3_timesOccurred l xo tr cn N su pa po okk pt K pp w bk wa ca qu ve hxo hPs hcn (by omega)) hxo rfl rfl rfl ⟨Nat.le_of_ble_eq_true rfl, Nat.le_of_ble_eq_true rfl⟩ hl.1 rfl (Nat.le_of_ble_eq_true rfl) dX3_occurrences_12 ⟨Nat.le_refl _, Nat.le_refl _⟩) ?_
    have hf12_0 := kTm_le K pp w bk wa cn
    exact wr_ireturn hx hb hr hlk hM hS (Nat.le_refl _) (Nat.le_refl _) (by simp [bI_t, bI_f, c_4]) rfl dX3_occurrences_15
  · skip
    refine lv_iconst (v := nI 0) hx hb dX3_occurrences_7 (by decide) ?_
    refine lv_goto (tgt := 15) hx hb dX3_occurrences_8 (by decide) ?_
    exact wr_ireturn hx hb hr hlk hM hS (Nat.le_refl _) (Nat.le_refl _) (by simp [bI_t, bI_f, c_4]) rfl dX3_occurrences_15
set_option maxHeartbeats 4000000 in
set_option maxRecDepth 100000 in
theorem met_X3_capturedCount (l : Launch) {D : va_G} {cI cJ : ClassId} {M : MP} {A : Nat → Prop} {sz : Nat} (xo tr cn N : Nat) (su : Bool) (pa po okk pt : Nat → Nat) (K : Nat → Nat → BitVec 64) (pp : Nat → Nat → Int32) (w bk : Nat → BitVec 64) (wa : Nat → Bool) (ca qu ve : Nat → Nat) (k : Nat) (b : Bool) (hxo : M xo = some (.inr (2, [.ref (pa 0), .ref tr, .ref (pa cn), .int (bI su)]))) (hPs : Pages cI cJ M pa po okk pt K pp w bk wa ca qu ve N) (hcn : cn < N) (hN : N ≤ 514) (hk1 : 1 ≤ k) (hk6 : k ≤ 6) (hca : ∀ i, i < N → ca i < 8) : Wr l yX3_capturedCount cX3_capturedCount 5 (some .int) 2 0 0 D cI cJ [.ref xo, .int (nI k), .int (bI b)] M sz A (some (.int (nI (kCap ca wa k b cn)))) (fun M' => M' = M) := by
  refine wr_start (by decide) (Nat.le_of_ble_eq_true rfl) ?_
  intro p e s m args below meth c hx hb hr hml hown hts hlk hini hK hsz H hH0 hM hS ls hl
  clear hH0
  have hl : lv_has ls 5 [(0, .ref xo), (1, .int (nI k)), (2, .int (bI b))] := hl
  refine lv_iload_n hx hb dX3_capturedCount_0 rfl (lv_at hl 1 rfl) ?_
  refine wr_go0 (wr_runS (As := [.int (nI k)]) (rest := []) hx hb hml hown hts hK hM okS_RX3_58_X3_requireKind (met_X3_requireKind l k (by omega) (by omega)) rfl ⟨Nat.le_of_ble_eq_true rfl, Nat.le_of_ble_eq_true rfl⟩ hl.1 rfl (Nat.le_of_ble_eq_true rfl) dX3_capturedCount_1 ⟨Nat.le_refl _, Nat.le_refl _⟩) hS (fun M1 H locs hR hM hS => ?_)
  rw [show M1 = M from hR] at hM
  refine lv_iconst (v := nI 0) hx hb dX3_capturedCount_4 (by decide) ?_
  refine lv_istore_n (lv' := [(3, .int (nI 0)), (0, .ref xo), (1, .int (nI k)), (2, .int (bI b))]) hx hb dX3_capturedCount_5 rfl hl (by decide) rfl (fun ls hl => ?_)
  refine lv_aload_n hx hb dX3_capturedCount_6 rfl (lv_at hl 1 rfl) ?_
  refine w_get (C := RX3) (T := TX3) (N := 4) (ci := 2) hx hb hts hown hK hM inX3 rfl 2 (by decide) qw_1_104 rfl hxo rfl dX3_capturedCount_7 ?_
  refine lv_astore (lv' := [(4, .ref (pa cn)), (3, .int (nI 0)), (0, .ref xo), (1, .int (nI k)), (2, .int (bI b))]) hx hb dX3_capturedCount_10 hl (by decide) rfl (fun ls hl => ?_)
  refine loopR (pcH := 12) (st := []) (ι := Nat × Nat) (fun ξ => [(4, pgV pa (ξ.2)), (3, .int (nI (ξ.1))), (0, .ref xo), (1, .int (nI k)), (2, .int (bI b))]) (fun n ξ => (ξ.2) = n ∧ ((ξ.2) ≤ cn + 1 ∧ kCap ca wa k b cn = kCntD (fun i => decide (ca i = k) && decide (wa i = b)) (ξ.2) (ξ.1))) ?_ ?_ (cn + 1) (0, cn + 1) (⟨rfl, Nat.le_refl _, rfl⟩) ls (lv_sub hl [0,1,2,3,4] rfl)
  · rintro ⟨r, j⟩ ⟨hin, hj9, hres⟩ ls hl
    try dsimp only at hl hin hj9 hres
    obtain rfl := hin
    have hl : lv_has ls 5 [(4, .null), (3, .int (nI r)), (0, .ref xo), (1, .int (nI k)), (2, .int (bI b))] := hl
    refine lv_aloadN hx hb dX3_capturedCount_12 (lv_at hl 0 rfl) ?_
    refine lv_ifnullN (tgt := 51) hx hb dX3_capturedCount_14 (by decide) ?_
    refine lv_iload_n hx hb dX3_capturedCount_51 rfl (lv_at hl 1 rfl) ?_
    exact wr_ireturn hx hb hr hlk hM hS (Nat.le_refl _) (Nat.le_refl _) (by rw [hres]; simp [kCntD, bI_t, bI_f]) rfl dX3_capturedCount_52
  · rintro n ih ⟨r, j⟩ ⟨hin, hj9, hres⟩ ls hl
    try dsimp only at hl hin hj9 hres
    obtain ⟨i, rfl⟩ : ∃ i, j = i + 1 := ⟨n, hin⟩
    have hi9 : i < N := by omega
    have hl : lv_has ls 5 [(4, .ref (pa i)), (3, .int (nI r)), (0, .ref xo), (1, .int (nI k)), (2, .int (bI b))] := hl
    have hc9 := hca i (by omega)
    refine lv_aload hx hb dX3_capturedCount_12 (lv_at hl 0 rfl) ?_
    refine lv_ifnull hx hb dX3_capturedCount_14 ?_
    refine lv_aload hx hb dX3_capturedCount_17 (lv_at hl 0 rfl) ?_
    refine w_get (C := RX0) (T := TX0) (N := 7) (ci := 0) hx hb hts hown hK hM inX0 rfl 4 (by decide) qw_1_69 rfl (hPs.1 i hi9) rfl dX3_capturedCount_19 ?_
    refine lv_iload_n hx hb dX3_capturedCount_22 rfl (lv_at hl 3 rfl) ?_
    refine ni_ne (tgt := 41) hx hb (ca i) k (by omega) (by omega) dX3_capturedCount_23 (by decide) (fun c_23 => ?_) (fun c_23 => ?_)
    · skip
      refine lv_aload hx hb dX3_capturedCount_41 (lv_at hl 0 rfl) ?_
      refine w_get (C := RX0) (T := TX0) (N := 7) (ci := 0) hx hb hts hown hK hM inX0 rfl 1 (by decide) qw_1_65 rfl (hPs.1 i hi9) rfl dX3_capturedCount_43 ?_
      refine w_astore (lv' := [(4, pgV pa i), (3, .int (nI r)), (0, .ref xo), (1, .int (nI k)), (2, .int (bI b))]) hx hb (pgV_or _ _) dX3_capturedCount_46 hl (by decide) rfl (fun ls hl => ?_)
      refine lv_goto (tgt := 12) hx hb dX3_capturedCount_48 (by decide) ?_
      exact ih (r, i) ⟨by first | omega | (dsimp only <;> omega), by first | omega | (dsimp only <;> omega), by rw [hres]; simp [kCntD, c_23]⟩ ls (lv_sub hl [0,1,2,3,4] rfl)
    · skip
      refine lv_aload hx hb dX3_capturedCount_26 (lv_at hl 0 rfl) ?_
      refine w_get (C := RX0) (T := TX0) (N := 7) (ci := 0) hx hb hts hown hK hM inX0 rfl 0 (by decide) qw_1_63 rfl (hPs.1 i hi9) rfl dX3_capturedCount_28 ?_
      refine w_get (C := RX1) (T := TX1) (N := 5) (ci := 1) hx hb hts hown hK hM inX1 rfl 4 (by decide) qw_1_48 rfl (hPs.2.1 i hi9).1 rfl dX3_capturedCount_31 ?_
      refine lv_iload_n hx hb dX3_capturedCount_34 rfl (lv_at hl 4 rfl) ?_
      refine zz_ne (tgt := 41) hx hb (wa i) b dX3_capturedCount_35 (by decide) (fun c_35 => ?_) (fun c_35 => ?_)
      · skip
        refine lv_aload hx hb dX3_capturedCount_41 (lv_at hl 0 rfl) ?_
        refine w_get (C := RX0) (T := TX0) (N := 7) (ci := 0) hx hb hts hown hK hM inX0 rfl 1 (by decide) qw_1_65 rfl (hPs.1 i hi9) rfl dX3_capturedCount_43 ?_
        refine w_astore (lv' := [(4, pgV pa i), (3, .int (nI r)), (0, .ref xo), (1, .int (nI k)), (2, .int (bI b))]) hx hb (pgV_or _ _) dX3_capturedCount_46 hl (by decide) rfl (fun ls hl => ?_)
        refine lv_goto (tgt := 12) hx hb dX3_capturedCount_48 (by decide) ?_
        exact ih (r, i) ⟨by first | omega | (dsimp only <;> omega), by first | omega | (dsimp only <;> omega), by rw [hres]; simp [kCntD, c_23, c_35]⟩ ls (lv_sub hl [0,1,2,3,4] rfl)
      · skip
        refine ni_iinc (lv' := [(3, .int (nI (r + 1))), (4, .ref (pa i)), (0, .ref xo), (1, .int (nI k)), (2, .int (bI b))]) hx hb r 1 dX3_capturedCount_38 hl (k := 1) rfl (by decide) (by decide) rfl (fun ls hl => ?_)
        refine lv_aload hx hb dX3_capturedCount_41 (lv_at hl 1 rfl) ?_
        refine w_get (C := RX0) (T := TX0) (N := 7) (ci := 0) hx hb hts hown hK hM inX0 rfl 1 (by decide) qw_1_65 rfl (hPs.1 i hi9) rfl dX3_capturedCount_43 ?_
        refine w_astore (lv' := [(4, pgV pa i), (3, .int (nI (r + 1))), (0, .ref xo), (1, .int (nI k)), (2, .int (bI b))]) hx hb (pgV_or _ _) dX3_capturedCount_46 hl (by decide) rfl (fun ls hl => ?_)
        refine lv_goto (tgt := 12) hx hb dX3_capturedCount_48 (by decide) ?_
        exact ih (r + 1, i) ⟨by first | omega | (dsimp only <;> omega), by first | omega | (dsimp only <;> omega), by rw [hres]; simp [kCntD, c_23, c_35]⟩ ls (lv_sub hl [0,1,2,3,4] rfl)
