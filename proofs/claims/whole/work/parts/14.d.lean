theorem okI_RX0_19_X1_init : okI RX0 19 yX1_init cX1_init 1 0 := okI_of qw_1_36 qw_1_37 qw_1_3 qw_1_38 rfl (by decide +kernel)
set_option maxHeartbeats 4000000 in
set_option maxRecDepth 100000 in
theorem met_X0_init_0 (l : Launch) {D : va_G} {cI cJ : ClassId} {M : MP} {A : Nat → Prop} {sz : Nat} (pg : Nat)  (hpg : M pg = some (.inr (0, [.null, .null, .int (nI 0), .null, .int (nI 0), .int (nI 0), .int (nI 0)]))) (hA_pg : A pg) (hAn : ∀ q, sz ≤ q → A q) : Wr l yX0_init cX0_init 2 none 5 3 76 D cI cJ [.ref pg, .null] M sz A none (fun M' => PageMade cI cJ M M' A pg .null 0) := by
  refine wr_start (by decide) (Nat.le_of_ble_eq_true rfl) ?_
  intro p e s m args below meth c hx hb hr hml hown hts hlk hini hK hsz H hH0 hM hS ls hl
  rw [← hsz] at hAn
  clear hH0
  have hl : lv_has ls 2 [(0, .ref pg), (1, .null)] := hl
  refine lv_aload_n hx hb dX0_init_0 rfl (lv_at hl 0 rfl) ?_
  refine W.objInit hx hb hown (hts _ qw_1_33) (hts _ qw_1_26) (hts _ qw_1_27) rfl (by rw [hml]; exact hl.1) rfl dX0_init_1 (Nat.le_of_ble_eq_true rfl) (Nat.le_of_ble_eq_true rfl) ?_
  refine W.eq (g2 := F0 m 4 ls []) rfl ?_
  refine lv_aload_n hx hb dX0_init_4 rfl (lv_at hl 0 rfl) ?_
  refine lv_aload_nN hx hb dX0_init_5 rfl (lv_at hl 1 rfl) ?_
  refine w_putF (C := RX0) (T := TX0) (N := 7) (ci := 0) hx hb hts hown hK hM hS inX0 rfl tyX0 tyX0_ok nmX0 (hini rfl) 1 (by decide) qw_1_64 rfl rfl hpg hA_pg rfl rfl (Nat.le_of_ble_eq_true rfl) dX0_init_6 (fun H locs hM hS => ?_)
  replace hM : HM D (mu M pg (.inr (0, [.null, .null, .int (nI 0), .null, .int (nI 0), .int (nI 0), .int (nI 0)]))) H := hM
  refine lv_aload_n hx hb dX0_init_9 rfl (lv_at hl 0 rfl) ?_
  refine lv_aload_nN hx hb dX0_init_10 rfl (lv_at hl 1 rfl) ?_
  refine lv_ifnonnullN hx hb dX0_init_11 ?_
  refine lv_iconst (v := nI 0) hx hb dX0_init_14 (by decide) ?_
  refine lv_goto (tgt := 24) hx hb dX0_init_15 (by decide) ?_
  refine w_putF (C := RX0) (T := TX0) (N := 7) (ci := 0) hx hb hts hown hK hM hS inX0 rfl tyX0 tyX0_ok nmX0 (hini rfl) 2 (by decide) qw_1_66 rfl rfl mu_s hA_pg rfl rfl (Nat.le_of_ble_eq_true rfl) dX0_init_24 (fun H locs hM hS => ?_)
  rw [mu_mu] at hM
  replace hM : HM D (mu M pg (.inr (0, [.null, .null, .int (nI 0), .null, .int (nI 0), .int (nI 0), .int (nI 0)]))) H := hM
  refine lv_aload_n hx hb dX0_init_27 rfl (lv_at hl 0 rfl) ?_
  refine w_new (C := RX1) (T := TX1) (N := 5) (ci := 1) (fs := [.null, .null, .long (bL (0#64)), .long (bL (0#64)), .int (bI false)]) hx hb hts hown hK hM hS hAn inX1 rfl tyX1 tyX1_ok qw_1_34 qw_1_35 qw_1_3 (fun j hj => by rcases (show j = 0 ∨ j = 1 ∨ j = 2 ∨ j = 3 ∨ j = 4 by omega) with rfl | rfl | rfl | rfl | rfl <;> rfl) (by show 0 + 1 ≤ 3; omega) (by show 0 + 5 ≤ 76; omega) dX0_init_28 (fun q28 H hq_28 hMq_28 hAq_28 hqa_28 hM hS => ?_)
  have hne_pg_q28 := ne_none mu_s hMq_28
  have hf_q28 : M q28 = none := (mu_none hMq_28)
  refine lv_dup hx hb dX0_init_31 rfl ?_
  refine wr_go (wr_runI (As := []) (rest := [.ref q28, .ref pg]) hx hb hml hown hts hK hM okI_RX0_19_X1_init (met_X1_init l q28 mu_s hAq_28 (fun q hq => hAn q (Nat.le_trans hS.1 hq))) rfl ⟨Nat.le_of_ble_eq_true rfl, Nat.le_of_ble_eq_true rfl⟩ hl.1 rfl (Nat.le_of_ble_eq_true rfl) dX0_init_32 ⟨by show 0 + 1 + 2 ≤ 3; omega, by show 0 + 5 + 71 ≤ 76; omega⟩) hS (fun M1 H locs hR hHs hM hS => ?_)
  obtain ⟨okk_32, pt_32, ⟨hpo_32, hokk_32, hpt_32⟩, ⟨hfo_32, hao_32⟩, ⟨hfp_32, hap_32⟩, hkp_32⟩ := hR
  have hkpg_32 := hkp_32 _ _ (mu_g hne_pg_q28 mu_s) hne_pg_q28
  refine w_putF (C := RX0) (T := TX0) (N := 7) (ci := 0) hx hb hts hown hK hM hS inX0 rfl tyX0 tyX0_ok nmX0 (hini rfl) 0 (by decide) qw_1_62 rfl rfl hkpg_32 hA_pg rfl rfl (Nat.le_of_ble_eq_true rfl) dX0_init_35 (fun H locs hM hS => ?_)
  replace hM : HM D (mu M1 pg (.inr (0, [.ref q28, .null, .int (nI 0), .null, .int (nI 0), .int (nI 0), .int (nI 0)]))) H := hM
  exact wr_return hx hb hr hlk hM hS (by omega) (by omega) ⟨q28, okk_32, pt_32, mu_s, ⟨(mu_g (Ne.symm hne_pg_q28) hpo_32), (mu_g (ne_io hokk_32 hkpg_32) hokk_32), (mu_g (ne_io hpt_32 hkpg_32) hpt_32)⟩, ⟨hf_q28, hAq_28⟩, ⟨(mu_none (mu_none hfo_32)), hao_32⟩, ⟨(mu_none (mu_none hfp_32)), hap_32⟩, (Keep.up (Keep.call (Keep.new (Keep.up (Keep.rf (P := fun b => b = pg)) rfl) hf_q28) hkp_32 (Or.inr hf_q28)) rfl)⟩ dX0_init_38
set_option maxHeartbeats 4000000 in
set_option maxRecDepth 100000 in
theorem met_X0_init_1 (l : Launch) {D : va_G} {cI cJ : ClassId} {M : MP} {A : Nat → Prop} {sz : Nat} (pg bp nu : Nat) (a0 a1 a3 a4 a5 a6 : Value) (hpg : M pg = some (.inr (0, [.null, .null, .int (nI 0), .null, .int (nI 0), .int (nI 0), .int (nI 0)]))) (hbp : M bp = some (.inr (0, [a0, a1, .int (nI nu), a3, a4, a5, a6]))) (hpb : pg ≠ bp) (hnu : nu < 2 ^ 30) (hA_pg : A pg) (hAn : ∀ q, sz ≤ q → A q) : Wr l yX0_init cX0_init 2 none 5 3 76 D cI cJ [.ref pg, .ref bp] M sz A none (fun M' => PageMade cI cJ M M' A pg (.ref bp) (nu + 1)) := by
  refine wr_start (by decide) (Nat.le_of_ble_eq_true rfl) ?_
  intro p e s m args below meth c hx hb hr hml hown hts hlk hini hK hsz H hH0 hM hS ls hl
  rw [← hsz] at hAn
  clear hH0
  have hl : lv_has ls 2 [(0, .ref pg), (1, .ref bp)] := hl
  refine lv_aload_n hx hb dX0_init_0 rfl (lv_at hl 0 rfl) ?_
  refine W.objInit hx hb hown (hts _ qw_1_33) (hts _ qw_1_26) (hts _ qw_1_27) rfl (by rw [hml]; exact hl.1) rfl dX0_init_1 (Nat.le_of_ble_eq_true rfl) (Nat.le_of_ble_eq_true rfl) ?_
  refine W.eq (g2 := F0 m 4 ls []) rfl ?_
  refine lv_aload_n hx hb dX0_init_4 rfl (lv_at hl 0 rfl) ?_
  refine lv_aload_n hx hb dX0_init_5 rfl (lv_at hl 1 rfl) ?_
  refine w_putF (C := RX0) (T := TX0) (N := 7) (ci := 0) hx hb hts hown hK hM hS inX0 rfl tyX0 tyX0_ok nmX0 (hini rfl) 1 (by decide) qw_1_64 rfl rfl hpg hA_pg rfl rfl (Nat.le_of_ble_eq_true rfl) dX0_init_6 (fun H locs hM hS => ?_)
  replace hM : HM D (mu M pg (.inr (0, [.null, .ref bp, .int (nI 0), .null, .int (nI 0), .int (nI 0), .int (nI 0)]))) H := hM
  refine lv_aload_n hx hb dX0_init_9 rfl (lv_at hl 0 rfl) ?_
  refine lv_aload_n hx hb dX0_init_10 rfl (lv_at hl 1 rfl) ?_
  refine lv_ifnonnull (tgt := 18) hx hb dX0_init_11 (by decide) ?_
  refine lv_aload_n hx hb dX0_init_18 rfl (lv_at hl 1 rfl) ?_
  refine w_get (C := RX0) (T := TX0) (N := 7) (ci := 0) hx hb hts hown hK hM inX0 rfl 2 (by decide) qw_1_66 rfl (mu_g (Ne.symm hpb) hbp) rfl dX0_init_19 ?_
  refine lv_iconst (v := nI 1) hx hb dX0_init_22 (by decide) ?_
  refine ni_add hx hb nu 1 dX0_init_23 ?_
  refine w_putF (C := RX0) (T := TX0) (N := 7) (ci := 0) hx hb hts hown hK hM hS inX0 rfl tyX0 tyX0_ok nmX0 (hini rfl) 2 (by decide) qw_1_66 rfl rfl mu_s hA_pg rfl rfl (Nat.le_of_ble_eq_true rfl) dX0_init_24 (fun H locs hM hS => ?_)
  rw [mu_mu] at hM
  replace hM : HM D (mu M pg (.inr (0, [.null, .ref bp, .int (nI (nu + 1)), .null, .int (nI 0), .int (nI 0), .int (nI 0)]))) H := hM
  refine lv_aload_n hx hb dX0_init_27 rfl (lv_at hl 0 rfl) ?_
  refine w_new (C := RX1) (T := TX1) (N := 5) (ci := 1) (fs := [.null, .null, .long (bL (0#64)), .long (bL (0#64)), .int (bI false)]) hx hb hts hown hK hM hS hAn inX1 rfl tyX1 tyX1_ok qw_1_34 qw_1_35 qw_1_3 (fun j hj => by rcases (show j = 0 ∨ j = 1 ∨ j = 2 ∨ j = 3 ∨ j = 4 by omega) with rfl | rfl | rfl | rfl | rfl <;> rfl) (by show 0 + 1 ≤ 3; omega) (by show 0 + 5 ≤ 76; omega) dX0_init_28 (fun q28 H hq_28 hMq_28 hAq_28 hqa_28 hM hS => ?_)
  have hne_pg_q28 := ne_none mu_s hMq_28
  have hne_bp_q28 := ne_none (mu_g (Ne.symm hpb) hbp) hMq_28
  have hf_q28 : M q28 = none := (mu_none hMq_28)
  refine lv_dup hx hb dX0_init_31 rfl ?_
  refine wr_go (wr_runI (As := []) (rest := [.ref q28, .ref pg]) hx hb hml hown hts hK hM okI_RX0_19_X1_init (met_X1_init l q28 mu_s hAq_28 (fun q hq => hAn q (Nat.le_trans hS.1 hq))) rfl ⟨Nat.le_of_ble_eq_true rfl, Nat.le_of_ble_eq_true rfl⟩ hl.1 rfl (Nat.le_of_ble_eq_true rfl) dX0_init_32 ⟨by show 0 + 1 + 2 ≤ 3; omega, by show 0 + 5 + 71 ≤ 76; omega⟩) hS (fun M1 H locs hR hHs hM hS => ?_)
  obtain ⟨okk_32, pt_32, ⟨hpo_32, hokk_32, hpt_32⟩, ⟨hfo_32, hao_32⟩, ⟨hfp_32, hap_32⟩, hkp_32⟩ := hR
  have hkpg_32 := hkp_32 _ _ (mu_g hne_pg_q28 mu_s) hne_pg_q28
  have hkbp_32 := hkp_32 _ _ (mu_g hne_bp_q28 (mu_g (Ne.symm hpb) hbp)) hne_bp_q28
  refine w_putF (C := RX0) (T := TX0) (N := 7) (ci := 0) hx hb hts hown hK hM hS inX0 rfl tyX0 tyX0_ok nmX0 (hini rfl) 0 (by decide) qw_1_62 rfl rfl hkpg_32 hA_pg rfl rfl (Nat.le_of_ble_eq_true rfl) dX0_init_35 (fun H locs hM hS => ?_)
  replace hM : HM D (mu M1 pg (.inr (0, [.ref q28, .ref bp, .int (nI (nu + 1)), .null, .int (nI 0), .int (nI 0), .int (nI 0)]))) H := hM
  exact wr_return hx hb hr hlk hM hS (by omega) (by omega) ⟨q28, okk_32, pt_32, mu_s, ⟨(mu_g (Ne.symm hne_pg_q28) hpo_32), (mu_g (ne_io hokk_32 hkpg_32) hokk_32), (mu_g (ne_io hpt_32 hkpg_32) hpt_32)⟩, ⟨hf_q28, hAq_28⟩, ⟨(mu_none (mu_none hfo_32)), hao_32⟩, ⟨(mu_none (mu_none hfp_32)), hap_32⟩, (Keep.up (Keep.call (Keep.new (Keep.up (Keep.rf (P := fun b => b = pg)) rfl) hf_q28) hkp_32 (Or.inr hf_q28)) rfl)⟩ dX0_init_38
