theorem okI_RX3_20_X1_init : okI RX3 20 yX1_init cX1_init 1 0 := okI_of qw_1_88 qw_1_37 qw_1_3 qw_1_38 rfl (by decide +kernel)
set_option maxHeartbeats 4000000 in
set_option maxRecDepth 100000 in
theorem met_X3_init (l : Launch) {D : va_G} {cI cJ : ClassId} {M : MP} {A : Nat → Prop} {sz : Nat} (xo : Nat) (hxo : M xo = some (.inr (2, [.null, .null, .null, .int (bI false)]))) (hA_xo : A xo) (hAn : ∀ q, sz ≤ q → A q) : WrZ l yX3_init cX3_init 3 none 8 7 159 D cI cJ [.ref xo] M sz A none (fun M' => GameMade cI cJ M M' A xo) := by
  refine wrz_start (by decide) (Nat.le_of_ble_eq_true rfl) ?_
  intro p e s m args below meth c hx hb hr hml hown hts hlk hini hK hsz fr hZ hT H hH0 hM hS ls hl
  rw [← hsz] at hAn
  clear hH0
  have hl : lv_has ls 3 [(0, .ref xo)] := hl
  refine lv_aload_n hx hb dX3_init_0 rfl (lv_at hl 0 rfl) ?_
  refine W.objInit hx hb hown (hts _ qw_1_25) (hts _ qw_1_26) (hts _ qw_1_27) rfl (by rw [hml]; exact hl.1) rfl dX3_init_1 (Nat.le_of_ble_eq_true rfl) (Nat.le_of_ble_eq_true rfl) ?_
  refine W.eq (g2 := F0 m 4 ls []) rfl ?_
  refine lv_aload_n hx hb dX3_init_4 rfl (lv_at hl 0 rfl) ?_
  refine w_new (C := RX0) (T := TX0) (N := 7) (ci := 0) (fs := [.null, .null, .int (nI 0), .null, .int (nI 0), .int (nI 0), .int (nI 0)]) hx hb hts hown hK hM hS hAn inX0 rfl tyX0 tyX0_ok qw_1_28 qw_1_29 qw_1_2 (fun j hj => by rcases (show j = 0 ∨ j = 1 ∨ j = 2 ∨ j = 3 ∨ j = 4 ∨ j = 5 ∨ j = 6 by omega) with rfl | rfl | rfl | rfl | rfl | rfl | rfl <;> rfl) (by show 0 + 1 ≤ 7; omega) (by show 0 + 7 ≤ 159; omega) dX3_init_5 (fun q5 H hq_5 hMq_5 hAq_5 hqa_5 hM hS => ?_)
  have hne_xo_q5 := ne_none hxo hMq_5
  have hf_q5 : M q5 = none := hMq_5
  refine lv_dup hx hb dX3_init_8 rfl ?_
  refine lv_null hx hb dX3_init_9 ?_
  refine wr_go (wr_runI (As := [.null]) (rest := [.ref q5, .ref xo]) hx hb hml hown hts hK hM okI_RX3_9_X0_init (met_X0_init_0 l q5 mu_s hAq_5 (fun q hq => hAn q (Nat.le_trans hS.1 hq))) rfl ⟨Nat.le_of_ble_eq_true rfl, Nat.le_of_ble_eq_true rfl⟩ hl.1 rfl (Nat.le_of_ble_eq_true rfl) dX3_init_10 ⟨by show 0 + 1 + 3 ≤ 7; omega, by show 0 + 7 + 76 ≤ 159; omega⟩) hS (fun M1 H locs hR hHs hM hS => ?_)
  obtain ⟨po_10, okk_10, pt_10, hpg_10, ⟨hpo_10, hokk_10, hpt_10⟩, ⟨hfq_10, haq_10⟩, ⟨hfo_10, hao_10⟩, ⟨hfp_10, hap_10⟩, hkp_10⟩ := hR
  have hkxo_10 := hkp_10 _ _ (mu_g hne_xo_q5 hxo) hne_xo_q5
  have hnxo_po_10 := ne_none (mu_g hne_xo_q5 hxo) hfq_10
  have hnq5_po_10 := ne_none mu_s hfq_10
  have hnxo_okk_10 := ne_none (mu_g hne_xo_q5 hxo) hfo_10
  have hnq5_okk_10 := ne_none mu_s hfo_10
  have hnxo_pt_10 := ne_none (mu_g hne_xo_q5 hxo) hfp_10
  have hnq5_pt_10 := ne_none mu_s hfp_10
  have hK1 : Keep M M1 (fun b => b = xo) := Keep.call (Keep.new (Keep.rf (P := (fun b => b = xo))) hf_q5) hkp_10 (Or.inr hf_q5)
  have hQ_q5 := hf_q5
  have hQ_po_10 : M po_10 = none := (mu_none hfq_10)
  have hQ_okk_10 : M okk_10 = none := (mu_none hfo_10)
  have hQ_pt_10 : M pt_10 = none := (mu_none hfp_10)
  refine w_putF (C := RX3) (T := TX3) (N := 4) (ci := 2) hx hb hts hown hK hM hS inX3 rfl tyX3 tyX3_ok nmX3 (hini rfl) 0 (by decide) qw_1_102 rfl rfl hkxo_10 hA_xo rfl rfl (Nat.le_of_ble_eq_true rfl) dX3_init_13 (fun H locs hM hS => ?_)
  replace hM : HM D (mu M1 xo (.inr (2, [.ref q5, .null, .null, .int (bI false)]))) H := hM
  refine lv_aload_n hx hb dX3_init_16 rfl (lv_at hl 0 rfl) ?_
  refine w_new (C := RX1) (T := TX1) (N := 5) (ci := 1) (fs := [.null, .null, .long (bL (0#64)), .long (bL (0#64)), .int (bI false)]) hx hb hts hown hK hM hS hAn inX1 rfl tyX1 tyX1_ok qw_1_87 qw_1_35 qw_1_3 (fun j hj => by rcases (show j = 0 ∨ j = 1 ∨ j = 2 ∨ j = 3 ∨ j = 4 by omega) with rfl | rfl | rfl | rfl | rfl <;> rfl) (by show 0 + 1 + 3 + 1 ≤ 7; omega) (by show 0 + 7 + 76 + 5 ≤ 159; omega) dX3_init_17 (fun q17 H hq_17 hMq_17 hAq_17 hqa_17 hM hS => ?_)
  have hne_xo_q17 := ne_none mu_s hMq_17
  have hne_q5_q17 := ne_none (mu_g (Ne.symm hne_xo_q5) hpg_10) hMq_17
  have hne_po_10_q17 := ne_none (mu_g (Ne.symm hnxo_po_10) hpo_10) hMq_17
  have hne_okk_10_q17 := ne_none (mu_g (Ne.symm hnxo_okk_10) hokk_10) hMq_17
  have hne_pt_10_q17 := ne_none (mu_g (Ne.symm hnxo_pt_10) hpt_10) hMq_17
  have hf_q17 : M1 q17 = none := (mu_none hMq_17)
  refine lv_dup hx hb dX3_init_20 rfl ?_
  refine wr_go (wr_runI (As := []) (rest := [.ref q17, .ref xo]) hx hb hml hown hts hK hM okI_RX3_20_X1_init (met_X1_init l q17 mu_s hAq_17 (fun q hq => hAn q (Nat.le_trans hS.1 hq))) rfl ⟨Nat.le_of_ble_eq_true rfl, Nat.le_of_ble_eq_true rfl⟩ hl.1 rfl (Nat.le_of_ble_eq_true rfl) dX3_init_21 ⟨by show 0 + 1 + 3 + 1 + 2 ≤ 7; omega, by show 0 + 7 + 76 + 5 + 71 ≤ 159; omega⟩) hS (fun M1 H locs hR hHs hM hS => ?_)
  obtain ⟨okk_21, pt_21, ⟨hpo_21, hokk_21, hpt_21⟩, ⟨hfo_21, hao_21⟩, ⟨hfp_21, hap_21⟩, hkp_21⟩ := hR
  have hkxo_21 := hkp_21 _ _ (mu_g hne_xo_q17 mu_s) hne_xo_q17
  have hkq5_21 := hkp_21 _ _ (mu_g hne_q5_q17 (mu_g (Ne.symm hne_xo_q5) hpg_10)) hne_q5_q17
  have hkpo_10_21 := hkp_21 _ _ (mu_g hne_po_10_q17 (mu_g (Ne.symm hnxo_po_10) hpo_10)) hne_po_10_q17
  have hkokk_10_21 := hkp_21 _ _ (mu_g hne_okk_10_q17 (mu_g (Ne.symm hnxo_okk_10) hokk_10)) hne_okk_10_q17
  have hkpt_10_21 := hkp_21 _ _ (mu_g hne_pt_10_q17 (mu_g (Ne.symm hnxo_pt_10) hpt_10)) hne_pt_10_q17
  have hnxo_okk_21 := ne_none (mu_g hne_xo_q17 mu_s) hfo_21
  have hnq5_okk_21 := ne_none (mu_g hne_q5_q17 (mu_g (Ne.symm hne_xo_q5) hpg_10)) hfo_21
  have hnpo_10_okk_21 := ne_none (mu_g hne_po_10_q17 (mu_g (Ne.symm hnxo_po_10) hpo_10)) hfo_21
  have hnokk_10_okk_21 := ne_none (mu_g hne_okk_10_q17 (mu_g (Ne.symm hnxo_okk_10) hokk_10)) hfo_21
  have hnpt_10_okk_21 := ne_none (mu_g hne_pt_10_q17 (mu_g (Ne.symm hnxo_pt_10) hpt_10)) hfo_21
  have hnq17_okk_21 := ne_none mu_s hfo_21
  have hnxo_pt_21 := ne_none (mu_g hne_xo_q17 mu_s) hfp_21
  have hnq5_pt_21 := ne_none (mu_g hne_q5_q17 (mu_g (Ne.symm hne_xo_q5) hpg_10)) hfp_21
  have hnpo_10_pt_21 := ne_none (mu_g hne_po_10_q17 (mu_g (Ne.symm hnxo_po_10) hpo_10)) hfp_21
  have hnokk_10_pt_21 := ne_none (mu_g hne_okk_10_q17 (mu_g (Ne.symm hnxo_okk_10) hokk_10)) hfp_21
  have hnpt_10_pt_21 := ne_none (mu_g hne_pt_10_q17 (mu_g (Ne.symm hnxo_pt_10) hpt_10)) hfp_21
  have hnq17_pt_21 := ne_none mu_s hfp_21
  have hQ_q17 : M q17 = none := hK1.no hf_q17 (fun z => hne_xo_q17 z.symm)
  have hQ_okk_21 : M okk_21 = none := hK1.no (mu_none (mu_none hfo_21)) (fun z => hnxo_okk_21 z.symm)
  have hQ_pt_21 : M pt_21 = none := hK1.no (mu_none (mu_none hfp_21)) (fun z => hnxo_pt_21 z.symm)
  have hK2 : Keep M M1 (fun b => b = xo) := Keep.call (Keep.newq (Keep.up hK1 rfl) hQ_q17) hkp_21 (Or.inr hQ_q17)
  refine w_putF (C := RX3) (T := TX3) (N := 4) (ci := 2) hx hb hts hown hK hM hS inX3 rfl tyX3 tyX3_ok nmX3 (hini rfl) 1 (by decide) qw_1_103 rfl rfl hkxo_21 hA_xo rfl rfl (Nat.le_of_ble_eq_true rfl) dX3_init_24 (fun H locs hM hS => ?_)
  replace hM : HM D (mu M1 xo (.inr (2, [.ref q5, .ref q17, .null, .int (bI false)]))) H := hM
  refine lv_aload_n hx hb dX3_init_27 rfl (lv_at hl 0 rfl) ?_
  refine lv_aload_n hx hb dX3_init_28 rfl (lv_at hl 0 rfl) ?_
  refine w_get (C := RX3) (T := TX3) (N := 4) (ci := 2) hx hb hts hown hK hM inX3 rfl 0 (by decide) qw_1_102 rfl mu_s rfl dX3_init_29 ?_
  refine w_put (C := RX3) (T := TX3) (N := 4) (ci := 2) hx hb hts hown hK hM hS inX3 rfl tyX3 tyX3_ok nmX3 2 (by decide) qw_1_104 rfl rfl mu_s hA_xo rfl rfl (Nat.le_of_ble_eq_true rfl) dX3_init_32 (fun H locs hM hS => ?_)
  rw [mu_mu] at hM
  replace hM : HM D (mu M1 xo (.inr (2, [.ref q5, .ref q17, .ref q5, .int (bI false)]))) H := hM
  refine lv_aload_n hx hb dX3_init_35 rfl (lv_at hl 0 rfl) ?_
  refine w_get (C := RX3) (T := TX3) (N := 4) (ci := 2) hx hb hts hown hK hM inX3 rfl 0 (by decide) qw_1_102 rfl mu_s rfl dX3_init_36 ?_
  refine w_get (C := RX0) (T := TX0) (N := 7) (ci := 0) hx hb hts hown hK hM inX0 rfl 0 (by decide) qw_1_63 rfl (mu_g (Ne.symm hne_xo_q5) hkq5_21) rfl dX3_init_39 ?_
  refine lv_astore_n (lv' := [(1, .ref po_10), (0, .ref xo)]) hx hb dX3_init_42 rfl hl (by decide) rfl (fun ls hl => ?_)
  refine lv_iconst (v := nI 0) hx hb dX3_init_43 (by decide) ?_
  refine lv_istore_n (lv' := [(2, .int (nI 0)), (1, .ref po_10), (0, .ref xo)]) hx hb dX3_init_44 rfl hl (by decide) rfl (fun ls hl => ?_)
  rw [← mu_id (a := po_10) (e := .inr (1, [.ref okk_10, .ref pt_10, .long (bL (0#64)), .long (bL (0#64)), .int (bI true)])) (mu_g (Ne.symm hnxo_po_10) hkpo_10_21)] at hM
  rw [← mu_id (a := okk_10) (e := eJ cJ 7 (fun ζ => bL (kZ ζ))) (mu_g (ne_io hkokk_10_21 hkpo_10_21) (mu_g (Ne.symm hnxo_okk_10) hkokk_10_21))] at hM
  refine loopW (pcH := 45) (st := []) (ι := Nat) (fun ξ => mu (mu (mu M1 xo (.inr (2, [.ref q5, .ref q17, .ref q5, .int (bI false)]))) po_10 (.inr (1, [.ref okk_10, .ref pt_10, .long (bL (iniW (ξ))), .long (bL (iniB (ξ))), .int (bI true)]))) okk_10 (eJ cJ 7 (fun ζ => bL ((iniK (ξ)) ζ)))) (fun ξ => [(2, .int (nI (ξ))), (1, .ref po_10), (0, .ref xo)]) (fun n ξ => (ξ) + n = 8) ?_ ?_ 8 0 rfl hM hS ls (lv_sub hl [0,1,2] rfl)
  · rintro i hin H locs hM hS ls hl
    try dsimp only at hl hin hM
    refine lv_iload_n hx hb dX3_init_45 rfl (lv_at hl 0 rfl) ?_
    refine va_gets (C := RX3) (n := "FIRST_RANK") (d := "[I") hx hb hZ hS hown (hts _ qw_1_89) (fun _ h9 => h9) dX3_init_46 ?_
    refine va_tlen (v := nI 8) hx hb hT hS rfl dX3_init_49 ?_
    refine ni_ge (tgt := 106) hx hb i 8 (by omega) (by omega) dX3_init_50 (by decide) (fun c_50 => ?_) (fun c_50 => ?_)
    · skip
      rw [show i = 8 by omega] at hM
      replace hM : HM D (mu (mu (mu M1 xo (.inr (2, [.ref q5, .ref q17, .ref q5, .int (bI false)]))) po_10 (.inr (1, [.ref okk_10, .ref pt_10, .long (bL (iniW 8)), .long (bL (iniB 8)), .int (bI true)]))) okk_10 (eJ cJ 7 (fun ζ => bL ((iniK 8) ζ)))) H := hM
      refine lv_aload_n hx hb dX3_init_106 rfl (lv_at hl 1 rfl) ?_
      refine lv_iconst (v := nI 1) hx hb dX3_init_107 (by decide) ?_
      refine lv_bipush (v := nI 6) hx hb dX3_init_108 (by decide) ?_
      refine wr_go0 (wr_runV (As := [.int (nI 1), .int (nI 6)]) (rest := []) hx hb hml hown hts hK hM okV_RX3_39_X1_join (met_X1_join l po_10 okk_10 pt_10 pNo (iniW 8) (iniB 8) true 1 6 (mu_g (ne_oi hkpo_10_21 hkokk_10_21) mu_s) (mu_g (ne_ij hkpt_10_21 hkokk_10_21) (mu_g (ne_io hkpt_10_21 hkpo_10_21) (mu_g (Ne.symm hnxo_pt_10) hkpt_10_21))) (by omega) (by omega) hap_10) (mu_g (ne_oi hkpo_10_21 hkokk_10_21) mu_s) rfl rfl rfl ⟨Nat.le_of_ble_eq_true rfl, Nat.le_of_ble_eq_true rfl⟩ hl.1 rfl (Nat.le_of_ble_eq_true rfl) dX3_init_110 ⟨by show 0 + 1 + 3 + 1 + 2 + 0 ≤ 7; omega, by show 0 + 7 + 76 + 5 + 71 + 0 ≤ 159; omega⟩) hS (fun M1 H locs hR hM hS => ?_)
      obtain rfl := hR
      refine lv_aload_n hx hb dX3_init_113 rfl (lv_at hl 1 rfl) ?_
      refine lv_bipush (v := nI 57) hx hb dX3_init_114 (by decide) ?_
      refine lv_bipush (v := nI 62) hx hb dX3_init_116 (by decide) ?_
      refine wr_go0 (wr_runV (As := [.int (nI 57), .int (nI 62)]) (rest := []) hx hb hml hown hts hK hM okV_RX3_39_X1_join (met_X1_join l po_10 okk_10 pt_10 (kJoin pNo 1 6) (iniW 8) (iniB 8) true 57 62 (mu_g (ne_oi hkpo_10_21 hkpt_10_21) (mu_g (ne_oi hkpo_10_21 hkokk_10_21) mu_s)) mu_s (by omega) (by omega) hap_10) (mu_g (ne_oi hkpo_10_21 hkpt_10_21) (mu_g (ne_oi hkpo_10_21 hkokk_10_21) mu_s)) rfl rfl rfl ⟨Nat.le_of_ble_eq_true rfl, Nat.le_of_ble_eq_true rfl⟩ hl.1 rfl (Nat.le_of_ble_eq_true rfl) dX3_init_118 ⟨by show 0 + 1 + 3 + 1 + 2 + 0 ≤ 7; omega, by show 0 + 7 + 76 + 5 + 71 + 0 ≤ 159; omega⟩) hS (fun M1 H locs hR hM hS => ?_)
      obtain rfl := hR
      rw [mu_mu] at hM
      exact wr_return hx hb hr hlk hM hS (by omega) (by omega) ⟨q5, po_10, okk_10, pt_10, q17, okk_21, pt_21, (mu_g hnxo_pt_10 (mu_g hnxo_okk_10 (mu_g hnxo_po_10 mu_s))), (mu_g hnq5_pt_10 (mu_g hnq5_okk_10 (mu_g hnq5_po_10 (mu_g (Ne.symm hne_xo_q5) hkq5_21)))), ⟨(mu_g (ne_oi hkpo_10_21 hkpt_10_21) (mu_g (ne_oi hkpo_10_21 hkokk_10_21) mu_s)), (mu_g (ne_ji hkokk_10_21 hkpt_10_21) mu_s), mu_s⟩, ⟨(mu_g (Ne.symm hne_pt_10_q17) (mu_g (Ne.symm hne_okk_10_q17) (mu_g (Ne.symm hne_po_10_q17) (mu_g (Ne.symm hne_xo_q17) hpo_21)))), (mu_g (Ne.symm hnpt_10_okk_21) (mu_g (Ne.symm hnokk_10_okk_21) (mu_g (Ne.symm hnpo_10_okk_21) (mu_g (Ne.symm hnxo_okk_21) hokk_21)))), (mu_g (Ne.symm hnpt_10_pt_21) (mu_g (Ne.symm hnokk_10_pt_21) (mu_g (Ne.symm hnpo_10_pt_21) (mu_g (Ne.symm hnxo_pt_21) hpt_21))))⟩, ⟨⟨hQ_q5, hAq_5⟩, ⟨hQ_po_10, haq_10⟩, ⟨hQ_okk_10, hao_10⟩, ⟨hQ_pt_10, hap_10⟩, ⟨hQ_q17, hAq_17⟩, ⟨hQ_okk_21, hao_21⟩, ⟨hQ_pt_21, hap_21⟩⟩, ⟨hne_po_10_q17, hnokk_10_okk_21, hnpt_10_pt_21⟩, (Keep.newq (Keep.newq (Keep.newq (Keep.up hK2 rfl) hQ_po_10) hQ_okk_10) hQ_pt_10)⟩ dX3_init_121
    · skip
      exfalso; omega
  · rintro n ih i hin H locs hM hS ls hl
    try dsimp only at hl hin hM
    have hoi := ordN_in i
    refine lv_iload_n hx hb dX3_init_45 rfl (lv_at hl 0 rfl) ?_
    refine va_gets (C := RX3) (n := "FIRST_RANK") (d := "[I") hx hb hZ hS hown (hts _ qw_1_89) (fun _ h9 => h9) dX3_init_46 ?_
    refine va_tlen (v := nI 8) hx hb hT hS rfl dX3_init_49 ?_
    refine ni_ge (tgt := 106) hx hb i 8 (by omega) (by omega) dX3_init_50 (by decide) (fun c_50 => ?_) (fun c_50 => ?_)
    · skip
      exfalso; omega
    · skip
      refine lv_aload_n hx hb dX3_init_53 rfl (lv_at hl 1 rfl) ?_
      refine lv_iload_n hx hb dX3_init_54 rfl (lv_at hl 0 rfl) ?_
      refine va_gets (C := RX3) (n := "FIRST_RANK") (d := "[I") hx hb hZ hS hown (hts _ qw_1_89) (fun _ h9 => h9) dX3_init_55 ?_
      refine lv_iload_n hx hb dX3_init_58 rfl (lv_at hl 0 rfl) ?_
      refine va_ti (v := .int (nI (ordN i))) hx hb hT hS (vp_in_nI (by omega) (by decide)) (ord_val (by omega)) dX3_init_59 ?_
      refine lv_iconst (v := nI 1) hx hb dX3_init_60 (by decide) ?_
      refine wr_go0 (wr_runV (As := [.int (nI i), .int (nI (ordN i)), .int (bI true)]) (rest := []) hx hb hml hown hts hK hM okV_RX3_35_X1_put (met_X1_put l po_10 okk_10 pt_10 (iniK i) (iniW i) (iniB i) true i (ordN i) true (mu_g (ne_oi hkpo_10_21 hkokk_10_21) mu_s) mu_s (by omega) (by omega) (by omega) haq_10 hao_10) (mu_g (ne_oi hkpo_10_21 hkokk_10_21) mu_s) rfl rfl rfl ⟨Nat.le_of_ble_eq_true rfl, Nat.le_of_ble_eq_true rfl⟩ hl.1 rfl (Nat.le_of_ble_eq_true rfl) dX3_init_61 ⟨by show 0 + 1 + 3 + 1 + 2 + 0 ≤ 7; omega, by show 0 + 7 + 76 + 5 + 71 + 0 ≤ 159; omega⟩) hS (fun M1 H locs hR hM hS => ?_)
      obtain rfl := hR
      rw [mu_comm (ne_io hkokk_10_21 hkpo_10_21), mu_mu] at hM
      rw [mu_mu] at hM
      refine lv_aload_n hx hb dX3_init_64 rfl (lv_at hl 1 rfl) ?_
      refine lv_bipush (v := nI 8) hx hb dX3_init_65 (by decide) ?_
      refine lv_iload_n hx hb dX3_init_67 rfl (lv_at hl 0 rfl) ?_
      refine ni_add hx hb 8 i dX3_init_68 ?_
      refine lv_bipush (v := nI 6) hx hb dX3_init_69 (by decide) ?_
      refine lv_iconst (v := nI 1) hx hb dX3_init_71 (by decide) ?_
      refine wr_go0 (wr_runV (As := [.int (nI (8 + i)), .int (nI 6), .int (bI true)]) (rest := []) hx hb hml hown hts hK hM okV_RX3_35_X1_put (met_X1_put l po_10 okk_10 pt_10 (kPut (iniK i) (ordN i) i) (kPtW (iniW i) i true) (kPtW (iniB i) i (!true)) true (8 + i) 6 true (mu_g (ne_oi hkpo_10_21 hkokk_10_21) mu_s) mu_s (by omega) (by omega) (by omega) haq_10 hao_10) (mu_g (ne_oi hkpo_10_21 hkokk_10_21) mu_s) rfl rfl rfl ⟨Nat.le_of_ble_eq_true rfl, Nat.le_of_ble_eq_true rfl⟩ hl.1 rfl (Nat.le_of_ble_eq_true rfl) dX3_init_72 ⟨by show 0 + 1 + 3 + 1 + 2 + 0 ≤ 7; omega, by show 0 + 7 + 76 + 5 + 71 + 0 ≤ 159; omega⟩) hS (fun M1 H locs hR hM hS => ?_)
      obtain rfl := hR
      rw [mu_comm (ne_io hkokk_10_21 hkpo_10_21), mu_mu] at hM
      rw [mu_mu] at hM
      refine lv_aload_n hx hb dX3_init_75 rfl (lv_at hl 1 rfl) ?_
      refine lv_bipush (v := nI 48) hx hb dX3_init_76 (by decide) ?_
      refine lv_iload_n hx hb dX3_init_78 rfl (lv_at hl 0 rfl) ?_
      refine ni_add hx hb 48 i dX3_init_79 ?_
      refine lv_bipush (v := nI 6) hx hb dX3_init_80 (by decide) ?_
      refine lv_iconst (v := nI 0) hx hb dX3_init_82 (by decide) ?_
      refine wr_go0 (wr_runV (As := [.int (nI (48 + i)), .int (nI 6), .int (bI false)]) (rest := []) hx hb hml hown hts hK hM okV_RX3_35_X1_put (met_X1_put l po_10 okk_10 pt_10 (kPut (kPut (iniK i) (ordN i) i) 6 (8 + i)) (kPtW (kPtW (iniW i) i true) (8 + i) true) (kPtW (kPtW (iniB i) i (!true)) (8 + i) (!true)) true (48 + i) 6 false (mu_g (ne_oi hkpo_10_21 hkokk_10_21) mu_s) mu_s (by omega) (by omega) (by omega) haq_10 hao_10) (mu_g (ne_oi hkpo_10_21 hkokk_10_21) mu_s) rfl rfl rfl ⟨Nat.le_of_ble_eq_true rfl, Nat.le_of_ble_eq_true rfl⟩ hl.1 rfl (Nat.le_of_ble_eq_true rfl) dX3_init_83 ⟨by show 0 + 1 + 3 + 1 + 2 + 0 ≤ 7; omega, by show 0 + 7 + 76 + 5 + 71 + 0 ≤ 159; omega⟩) hS (fun M1 H locs hR hM hS => ?_)
      obtain rfl := hR
      rw [mu_comm (ne_io hkokk_10_21 hkpo_10_21), mu_mu] at hM
      rw [mu_mu] at hM
      refine lv_aload_n hx hb dX3_init_86 rfl (lv_at hl 1 rfl) ?_
      refine lv_bipush (v := nI 56) hx hb dX3_init_87 (by decide) ?_
      refine lv_iload_n hx hb dX3_init_89 rfl (lv_at hl 0 rfl) ?_
      refine ni_add hx hb 56 i dX3_init_90 ?_
      refine va_gets (C := RX3) (n := "FIRST_RANK") (d := "[I") hx hb hZ hS hown (hts _ qw_1_89) (fun _ h9 => h9) dX3_init_91 ?_
      refine lv_iload_n hx hb dX3_init_94 rfl (lv_at hl 0 rfl) ?_
      refine va_ti (v := .int (nI (ordN i))) hx hb hT hS (vp_in_nI (by omega) (by decide)) (ord_val (by omega)) dX3_init_95 ?_
      refine lv_iconst (v := nI 0) hx hb dX3_init_96 (by decide) ?_
      refine wr_go0 (wr_runV (As := [.int (nI (56 + i)), .int (nI (ordN i)), .int (bI false)]) (rest := []) hx hb hml hown hts hK hM okV_RX3_35_X1_put (met_X1_put l po_10 okk_10 pt_10 (kPut (kPut (kPut (iniK i) (ordN i) i) 6 (8 + i)) 6 (48 + i)) (kPtW (kPtW (kPtW (iniW i) i true) (8 + i) true) (48 + i) false) (kPtW (kPtW (kPtW (iniB i) i (!true)) (8 + i) (!true)) (48 + i) (!false)) true (56 + i) (ordN i) false (mu_g (ne_oi hkpo_10_21 hkokk_10_21) mu_s) mu_s (by omega) (by omega) (by omega) haq_10 hao_10) (mu_g (ne_oi hkpo_10_21 hkokk_10_21) mu_s) rfl rfl rfl ⟨Nat.le_of_ble_eq_true rfl, Nat.le_of_ble_eq_true rfl⟩ hl.1 rfl (Nat.le_of_ble_eq_true rfl) dX3_init_97 ⟨by show 0 + 1 + 3 + 1 + 2 + 0 ≤ 7; omega, by show 0 + 7 + 76 + 5 + 71 + 0 ≤ 159; omega⟩) hS (fun M1 H locs hR hM hS => ?_)
      obtain rfl := hR
      rw [mu_comm (ne_io hkokk_10_21 hkpo_10_21), mu_mu] at hM
      rw [mu_mu] at hM
      refine ni_iinc (lv' := [(2, .int (nI (i + 1))), (1, .ref po_10), (0, .ref xo)]) hx hb i 1 dX3_init_100 hl (k := 0) rfl (by decide) (by decide) rfl (fun ls hl => ?_)
      refine lv_goto (tgt := 45) hx hb dX3_init_103 (by decide) ?_
      replace hM : HM D (mu (mu (mu M1 xo (.inr (2, [.ref q5, .ref q17, .ref q5, .int (bI false)]))) po_10 (.inr (1, [.ref okk_10, .ref pt_10, .long (bL (iniW (i + 1))), .long (bL (iniB (i + 1))), .int (bI true)]))) okk_10 (eJ cJ 7 (fun ζ => bL ((iniK (i + 1)) ζ)))) H := hM
      exact ih (i + 1) (by omega) _ _ hM hS ls (lv_sub hl [0,1,2] rfl)
