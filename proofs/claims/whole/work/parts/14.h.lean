theorem okI_RX3_9_X0_init : okI RX3 9 yX0_init cX0_init 2 1 := okI_of qw_1_30 qw_1_31 qw_1_2 qw_1_32 rfl (by decide +kernel)
set_option maxHeartbeats 4000000 in
set_option maxRecDepth 100000 in
theorem met_X3_turnPage_b (l : Launch) {D : va_G} {cI cJ : ClassId} {M : MP} {A : Nat → Prop} {sz : Nat} (xo tr cn N : Nat) (su : Bool) (pa po okk pt : Nat → Nat) (K : Nat → Nat → BitVec 64) (pp : Nat → Nat → Int32) (w bk : Nat → BitVec 64) (wa : Nat → Bool) (ca qu ve : Nat → Nat)  (hxo : M xo = some (.inr (2, [.ref (pa 0), .ref tr, .ref (pa cn), .int (bI su)]))) (hPs : Pages cI cJ M pa po okk pt K pp w bk wa ca qu ve N) (hcn : cn < N) (hN : N ≤ 514) (hNc : cn + 1 = N) (hqu : qu cn < 2 ^ 30) (hA_pa_cn : A (pa cn)) (hA_xo : A xo) (hAn : ∀ q, sz ≤ q → A q) : Wr l yX3_turnPage cX3_turnPage 3 none 6 4 83 D cI cJ [.ref xo] M sz A none (fun M' => TurnB cI cJ M M' A xo tr cn su pa po K pp w bk wa ca qu ve) := by
  refine wr_start (by decide) (Nat.le_of_ble_eq_true rfl) ?_
  intro p e s m args below meth c hx hb hr hml hown hts hlk hini hK hsz H hH0 hM hS ls hl
  rw [← hsz] at hAn
  clear hH0
  have hl : lv_has ls 3 [(0, .ref xo)] := hl
  refine lv_aload_n hx hb dX3_turnPage_0 rfl (lv_at hl 0 rfl) ?_
  refine w_get (C := RX3) (T := TX3) (N := 4) (ci := 2) hx hb hts hown hK hM inX3 rfl 2 (by decide) qw_1_104 rfl hxo rfl dX3_turnPage_1 ?_
  refine lv_astore_n (lv' := [(1, .ref (pa cn)), (0, .ref xo)]) hx hb dX3_turnPage_4 rfl hl (by decide) rfl (fun ls hl => ?_)
  refine lv_aload_n hx hb dX3_turnPage_5 rfl (lv_at hl 0 rfl) ?_
  refine w_get (C := RX0) (T := TX0) (N := 7) (ci := 0) hx hb hts hown hK hM inX0 rfl 3 (by decide) qw_1_68 rfl (hPs.1 cn hcn) rfl dX3_turnPage_6 ?_
  rw [show afV pa N cn = .null from if_neg (by omega)]
  refine lv_astore_nN (lv' := [(2, .null), (1, .ref (pa cn)), (0, .ref xo)]) hx hb dX3_turnPage_9 rfl hl (by decide) rfl (fun ls hl => ?_)
  refine lv_aload_nN hx hb dX3_turnPage_10 rfl (lv_at hl 0 rfl) ?_
  refine lv_ifnonnullN hx hb dX3_turnPage_11 ?_
  refine w_new (C := RX0) (T := TX0) (N := 7) (ci := 0) (fs := [.null, .null, .int (nI 0), .null, .int (nI 0), .int (nI 0), .int (nI 0)]) hx hb hts hown hK hM hS hAn inX0 rfl tyX0 tyX0_ok qw_1_28 qw_1_29 qw_1_2 (fun j hj => by rcases (show j = 0 ∨ j = 1 ∨ j = 2 ∨ j = 3 ∨ j = 4 ∨ j = 5 ∨ j = 6 by omega) with rfl | rfl | rfl | rfl | rfl | rfl | rfl <;> rfl) (by show 0 + 1 ≤ 4; omega) (by show 0 + 7 ≤ 83; omega) dX3_turnPage_14 (fun q14 H hq_14 hMq_14 hAq_14 hqa_14 hM hS => ?_)
  have hne_xo_q14 := ne_none hxo hMq_14
  have hne_pa_cn_q14 := ne_none (hPs.1 cn hcn) hMq_14
  have hne_po_cn_q14 := ne_none (hPs.2.1 cn hcn).1 hMq_14
  have hne_okk_cn_q14 := ne_none (hPs.2.1 cn hcn).2.1 hMq_14
  have hne_pt_cn_q14 := ne_none (hPs.2.1 cn hcn).2.2 hMq_14
  have hf_q14 : M q14 = none := hMq_14
  refine lv_dup hx hb dX3_turnPage_17 rfl ?_
  refine lv_aload_n hx hb dX3_turnPage_18 rfl (lv_at hl 1 rfl) ?_
  refine wr_go (wr_runI (As := [.ref (pa cn)]) (rest := [.ref q14]) hx hb hml hown hts hK hM okI_RX3_9_X0_init (met_X0_init_1 l q14 (pa cn) cn (.ref (po cn)) (pgV pa cn) (afV pa N cn) (.int (nI (ca cn))) (.int (nI (qu cn))) (.int (nI (ve cn))) mu_s (mu_g hne_pa_cn_q14 (hPs.1 cn hcn)) (by omega) (by omega) hAq_14 (fun q hq => hAn q (Nat.le_trans hS.1 hq))) rfl ⟨Nat.le_of_ble_eq_true rfl, Nat.le_of_ble_eq_true rfl⟩ hl.1 rfl (Nat.le_of_ble_eq_true rfl) dX3_turnPage_19 ⟨by show 0 + 1 + 3 ≤ 4; omega, by show 0 + 7 + 76 ≤ 83; omega⟩) hS (fun M1 H locs hR hHs hM hS => ?_)
  obtain ⟨po_19, okk_19, pt_19, hpg_19, ⟨hpo_19, hokk_19, hpt_19⟩, ⟨hfq_19, haq_19⟩, ⟨hfo_19, hao_19⟩, ⟨hfp_19, hap_19⟩, hkp_19⟩ := hR
  have hkxo_19 := hkp_19 _ _ (mu_g hne_xo_q14 hxo) hne_xo_q14
  have hkpa_cn_19 := hkp_19 _ _ (mu_g hne_pa_cn_q14 (hPs.1 cn hcn)) hne_pa_cn_q14
  have hkpo_cn_19 := hkp_19 _ _ (mu_g hne_po_cn_q14 (hPs.2.1 cn hcn).1) hne_po_cn_q14
  have hkokk_cn_19 := hkp_19 _ _ (mu_g hne_okk_cn_q14 (hPs.2.1 cn hcn).2.1) hne_okk_cn_q14
  have hkpt_cn_19 := hkp_19 _ _ (mu_g hne_pt_cn_q14 (hPs.2.1 cn hcn).2.2) hne_pt_cn_q14
  have hnxo_po_19 := ne_none (mu_g hne_xo_q14 hxo) hfq_19
  have hnpa_cn_po_19 := ne_none (mu_g hne_pa_cn_q14 (hPs.1 cn hcn)) hfq_19
  have hnpo_cn_po_19 := ne_none (mu_g hne_po_cn_q14 (hPs.2.1 cn hcn).1) hfq_19
  have hnokk_cn_po_19 := ne_none (mu_g hne_okk_cn_q14 (hPs.2.1 cn hcn).2.1) hfq_19
  have hnpt_cn_po_19 := ne_none (mu_g hne_pt_cn_q14 (hPs.2.1 cn hcn).2.2) hfq_19
  have hnq14_po_19 := ne_none mu_s hfq_19
  have hnxo_okk_19 := ne_none (mu_g hne_xo_q14 hxo) hfo_19
  have hnpa_cn_okk_19 := ne_none (mu_g hne_pa_cn_q14 (hPs.1 cn hcn)) hfo_19
  have hnpo_cn_okk_19 := ne_none (mu_g hne_po_cn_q14 (hPs.2.1 cn hcn).1) hfo_19
  have hnokk_cn_okk_19 := ne_none (mu_g hne_okk_cn_q14 (hPs.2.1 cn hcn).2.1) hfo_19
  have hnpt_cn_okk_19 := ne_none (mu_g hne_pt_cn_q14 (hPs.2.1 cn hcn).2.2) hfo_19
  have hnq14_okk_19 := ne_none mu_s hfo_19
  have hnxo_pt_19 := ne_none (mu_g hne_xo_q14 hxo) hfp_19
  have hnpa_cn_pt_19 := ne_none (mu_g hne_pa_cn_q14 (hPs.1 cn hcn)) hfp_19
  have hnpo_cn_pt_19 := ne_none (mu_g hne_po_cn_q14 (hPs.2.1 cn hcn).1) hfp_19
  have hnokk_cn_pt_19 := ne_none (mu_g hne_okk_cn_q14 (hPs.2.1 cn hcn).2.1) hfp_19
  have hnpt_cn_pt_19 := ne_none (mu_g hne_pt_cn_q14 (hPs.2.1 cn hcn).2.2) hfp_19
  have hnq14_pt_19 := ne_none mu_s hfp_19
  refine lv_astore_n (lv' := [(2, .ref q14), (1, .ref (pa cn)), (0, .ref xo)]) hx hb dX3_turnPage_22 rfl hl (by decide) rfl (fun ls hl => ?_)
  refine lv_aload_n hx hb dX3_turnPage_23 rfl (lv_at hl 1 rfl) ?_
  refine lv_aload_n hx hb dX3_turnPage_24 rfl (lv_at hl 0 rfl) ?_
  refine w_put (C := RX0) (T := TX0) (N := 7) (ci := 0) hx hb hts hown hK hM hS inX0 rfl tyX0 tyX0_ok nmX0 3 (by decide) qw_1_68 rfl rfl hkpa_cn_19 hA_pa_cn rfl rfl (Nat.le_of_ble_eq_true rfl) dX3_turnPage_25 (fun H locs hM hS => ?_)
  replace hM : HM D (mu M1 (pa cn) (.inr (0, [.ref (po cn), pgV pa cn, .int (nI cn), .ref q14, .int (nI (ca cn)), .int (nI (qu cn)), .int (nI (ve cn))]))) H := hM
  refine lv_aload_n hx hb dX3_turnPage_28 rfl (lv_at hl 0 rfl) ?_
  refine w_get (C := RX0) (T := TX0) (N := 7) (ci := 0) hx hb hts hown hK hM inX0 rfl 0 (by decide) qw_1_63 rfl (mu_g (Ne.symm hne_pa_cn_q14) hpg_19) rfl dX3_turnPage_29 ?_
  refine lv_aload_n hx hb dX3_turnPage_32 rfl (lv_at hl 1 rfl) ?_
  refine w_get (C := RX0) (T := TX0) (N := 7) (ci := 0) hx hb hts hown hK hM inX0 rfl 0 (by decide) qw_1_63 rfl mu_s rfl dX3_turnPage_33 ?_
  refine wr_go0 (wr_runV (As := [.ref (po cn)]) (rest := []) hx hb hml hown hts hK hM okV_RX3_259_X1_copyFrom (met_X1_copyFrom l po_19 okk_19 pt_19 (po cn) (okk cn) (pt cn) kZ (K cn) pNo (pp cn) (0#64) (0#64) (w cn) (bk cn) true (wa cn) (mu_g (Ne.symm hnpa_cn_po_19) hpo_19) (mu_g (Ne.symm hnpa_cn_okk_19) hokk_19) (mu_g (Ne.symm hnpa_cn_pt_19) hpt_19) (mu_g (ne_oo hkpo_cn_19 hkpa_cn_19 (by decide)) hkpo_cn_19) (mu_g (ne_io hkokk_cn_19 hkpa_cn_19) hkokk_cn_19) (mu_g (ne_io hkpt_cn_19 hkpa_cn_19) hkpt_cn_19) (by omega) haq_19 hao_19 hap_19) (mu_g (Ne.symm hnpa_cn_po_19) hpo_19) rfl rfl rfl ⟨Nat.le_of_ble_eq_true rfl, Nat.le_of_ble_eq_true rfl⟩ hl.1 rfl (Nat.le_of_ble_eq_true rfl) dX3_turnPage_36 ⟨by show 0 + 1 + 3 + 0 ≤ 4; omega, by show 0 + 7 + 76 + 0 ≤ 83; omega⟩) hS (fun M1 H locs hR hM hS => ?_)
  obtain rfl := hR
  refine lv_aload_n hx hb dX3_turnPage_39 rfl (lv_at hl 0 rfl) ?_
  refine lv_aload_n hx hb dX3_turnPage_40 rfl (lv_at hl 1 rfl) ?_
  refine w_get (C := RX0) (T := TX0) (N := 7) (ci := 0) hx hb hts hown hK hM inX0 rfl 5 (by decide) qw_1_70 rfl (mu_g hnpa_cn_pt_19 (mu_g hnpa_cn_okk_19 (mu_g hnpa_cn_po_19 mu_s))) rfl dX3_turnPage_41 ?_
  refine lv_iconst (v := nI 1) hx hb dX3_turnPage_44 (by decide) ?_
  refine ni_add hx hb (qu cn) 1 dX3_turnPage_45 ?_
  refine w_put (C := RX0) (T := TX0) (N := 7) (ci := 0) hx hb hts hown hK hM hS inX0 rfl tyX0 tyX0_ok nmX0 5 (by decide) qw_1_70 rfl rfl (mu_g hnq14_pt_19 (mu_g hnq14_okk_19 (mu_g hnq14_po_19 (mu_g (Ne.symm hne_pa_cn_q14) hpg_19)))) hAq_14 rfl rfl (Nat.le_of_ble_eq_true rfl) dX3_turnPage_46 (fun H locs hM hS => ?_)
  replace hM : HM D (mu (mu (mu (mu (mu M1 (pa cn) (.inr (0, [.ref (po cn), pgV pa cn, .int (nI cn), .ref q14, .int (nI (ca cn)), .int (nI (qu cn)), .int (nI (ve cn))]))) po_19 (.inr (1, [.ref okk_19, .ref pt_19, .long (bL (w cn)), .long (bL (bk cn)), .int (bI (wa cn))]))) okk_19 (eJ cJ 7 (fun ζ => bL ((K cn) ζ)))) pt_19 (eI cI 64 (pp cn))) q14 (.inr (0, [.ref po_19, .ref (pa cn), .int (nI (cn + 1)), .null, .int (nI 0), .int (nI ((qu cn) + 1)), .int (nI 0)]))) H := hM
  refine lv_aload_n hx hb dX3_turnPage_49 rfl (lv_at hl 0 rfl) ?_
  refine lv_iconst (v := nI 0) hx hb dX3_turnPage_50 (by decide) ?_
  refine w_put (C := RX0) (T := TX0) (N := 7) (ci := 0) hx hb hts hown hK hM hS inX0 rfl tyX0 tyX0_ok nmX0 4 (by decide) qw_1_69 rfl rfl mu_s hAq_14 rfl rfl (Nat.le_of_ble_eq_true rfl) dX3_turnPage_51 (fun H locs hM hS => ?_)
  rw [mu_mu] at hM
  replace hM : HM D (mu (mu (mu (mu (mu M1 (pa cn) (.inr (0, [.ref (po cn), pgV pa cn, .int (nI cn), .ref q14, .int (nI (ca cn)), .int (nI (qu cn)), .int (nI (ve cn))]))) po_19 (.inr (1, [.ref okk_19, .ref pt_19, .long (bL (w cn)), .long (bL (bk cn)), .int (bI (wa cn))]))) okk_19 (eJ cJ 7 (fun ζ => bL ((K cn) ζ)))) pt_19 (eI cI 64 (pp cn))) q14 (.inr (0, [.ref po_19, .ref (pa cn), .int (nI (cn + 1)), .null, .int (nI 0), .int (nI ((qu cn) + 1)), .int (nI 0)]))) H := hM
  refine lv_aload_n hx hb dX3_turnPage_54 rfl (lv_at hl 2 rfl) ?_
  refine lv_aload_n hx hb dX3_turnPage_55 rfl (lv_at hl 0 rfl) ?_
  refine w_put (C := RX3) (T := TX3) (N := 4) (ci := 2) hx hb hts hown hK hM hS inX3 rfl tyX3 tyX3_ok nmX3 2 (by decide) qw_1_104 rfl rfl (mu_g hne_xo_q14 (mu_g hnxo_pt_19 (mu_g hnxo_okk_19 (mu_g hnxo_po_19 (mu_g (ne_oo hkxo_19 hkpa_cn_19 (by decide)) hkxo_19))))) hA_xo rfl rfl (Nat.le_of_ble_eq_true rfl) dX3_turnPage_56 (fun H locs hM hS => ?_)
  replace hM : HM D (mu (mu (mu (mu (mu (mu M1 (pa cn) (.inr (0, [.ref (po cn), pgV pa cn, .int (nI cn), .ref q14, .int (nI (ca cn)), .int (nI (qu cn)), .int (nI (ve cn))]))) po_19 (.inr (1, [.ref okk_19, .ref pt_19, .long (bL (w cn)), .long (bL (bk cn)), .int (bI (wa cn))]))) okk_19 (eJ cJ 7 (fun ζ => bL ((K cn) ζ)))) pt_19 (eI cI 64 (pp cn))) q14 (.inr (0, [.ref po_19, .ref (pa cn), .int (nI (cn + 1)), .null, .int (nI 0), .int (nI ((qu cn) + 1)), .int (nI 0)]))) xo (.inr (2, [.ref (pa 0), .ref tr, .ref q14, .int (bI su)]))) H := hM
  exact wr_return hx hb hr hlk hM hS (by omega) (by omega) ⟨q14, po_19, okk_19, pt_19, ⟨hf_q14, hAq_14⟩, ⟨(mu_none hfq_19), haq_19⟩, ⟨(mu_none hfo_19), hao_19⟩, ⟨(mu_none hfp_19), hap_19⟩, (mu_g (Ne.symm hne_xo_q14) mu_s), ⟨(mu_g (Ne.symm hnxo_po_19) (mu_g (Ne.symm hnq14_po_19) (mu_g (ne_oi hpo_19 hpt_19) (mu_g (ne_oi hpo_19 hokk_19) mu_s)))), (mu_g (Ne.symm hnxo_okk_19) (mu_g (Ne.symm hnq14_okk_19) (mu_g (ne_ji hokk_19 hpt_19) mu_s))), (mu_g (Ne.symm hnxo_pt_19) (mu_g (Ne.symm hnq14_pt_19) mu_s))⟩, (mu_g (ne_oo hkpa_cn_19 hkxo_19 (by decide)) (mu_g hne_pa_cn_q14 (mu_g hnpa_cn_pt_19 (mu_g hnpa_cn_okk_19 (mu_g hnpa_cn_po_19 mu_s))))), mu_s, (Keep.up (Keep.newq (Keep.newq (Keep.newq (Keep.newq (Keep.up (Keep.call (Keep.new (Keep.rf (P := (fun b => b = pa cn ∨ b = xo))) hf_q14) hkp_19 (Or.inr hf_q14)) (Or.inl rfl)) (mu_none hfq_19)) (mu_none hfo_19)) (mu_none hfp_19)) hf_q14) (Or.inr rfl))⟩ dX3_turnPage_59
