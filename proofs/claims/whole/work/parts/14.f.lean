theorem okV_RX3_51_X1_empty : okV RX3 51 yX1_empty cX1_empty 1 none 0 := okV_of qw_1_119 qw_1_120 qw_1_121 qw_1_3 qw_1_122 (by decide +kernel)
set_option maxHeartbeats 4000000 in
set_option maxRecDepth 100000 in
theorem met_X3_turnPage_a (l : Launch) {D : va_G} {cI cJ : ClassId} {M : MP} {A : Nat → Prop} {sz : Nat} (xo tr cn N : Nat) (su : Bool) (pa po okk pt : Nat → Nat) (K : Nat → Nat → BitVec 64) (pp : Nat → Nat → Int32) (w bk : Nat → BitVec 64) (wa : Nat → Bool) (ca qu ve : Nat → Nat)  (hxo : M xo = some (.inr (2, [.ref (pa 0), .ref tr, .ref (pa cn), .int (bI su)]))) (hPs : Pages cI cJ M pa po okk pt K pp w bk wa ca qu ve N) (hcn : cn < N) (hN : N ≤ 514) (hca : cn + 1 < N) (hqu : qu cn < 2 ^ 30) (hA_po__cn___1_ : A (po (cn + 1))) (hA_okk__cn___1_ : A (okk (cn + 1))) (hA_pt__cn___1_ : A (pt (cn + 1))) (hA_pa__cn___1_ : A (pa (cn + 1))) (hA_xo : A xo) : Wr l yX3_turnPage cX3_turnPage 3 none 6 0 0 D cI cJ [.ref xo] M sz A none (fun M' => M' = mu (mu (mu (mu (mu M (po (cn + 1)) (.inr (1, [.ref (okk (cn + 1)), .ref (pt (cn + 1)), .long (bL (w cn)), .long (bL (bk cn)), .int (bI (wa cn))]))) (okk (cn + 1)) (eJ cJ 7 (fun ζ => bL ((K cn) ζ)))) (pt (cn + 1)) (eI cI 64 (pp cn))) (pa (cn + 1)) (.inr (0, [.ref (po (cn + 1)), pgV pa (cn + 1), .int (nI (cn + 1)), afV pa N (cn + 1), .int (nI 0), .int (nI (qu cn + 1)), .int (nI (ve (cn + 1)))]))) xo (.inr (2, [.ref (pa 0), .ref tr, .ref (pa (cn + 1)), .int (bI su)]))) := by
  refine wr_start (by decide) (Nat.le_of_ble_eq_true rfl) ?_
  intro p e s m args below meth c hx hb hr hml hown hts hlk hini hK hsz H hH0 hM hS ls hl
  clear hH0
  have hl : lv_has ls 3 [(0, .ref xo)] := hl
  have hap := hPs.2.2 (cn + 1) cn hca hcn (by omega)
  refine lv_aload_n hx hb dX3_turnPage_0 rfl (lv_at hl 0 rfl) ?_
  refine w_get (C := RX3) (T := TX3) (N := 4) (ci := 2) hx hb hts hown hK hM inX3 rfl 2 (by decide) qw_1_104 rfl hxo rfl dX3_turnPage_1 ?_
  refine lv_astore_n (lv' := [(1, .ref (pa cn)), (0, .ref xo)]) hx hb dX3_turnPage_4 rfl hl (by decide) rfl (fun ls hl => ?_)
  refine lv_aload_n hx hb dX3_turnPage_5 rfl (lv_at hl 0 rfl) ?_
  refine w_get (C := RX0) (T := TX0) (N := 7) (ci := 0) hx hb hts hown hK hM inX0 rfl 3 (by decide) qw_1_68 rfl (hPs.1 cn hcn) rfl dX3_turnPage_6 ?_
  rw [show afV pa N cn = .ref (pa (cn + 1)) from if_pos hca]
  refine lv_astore_n (lv' := [(2, .ref (pa (cn + 1))), (1, .ref (pa cn)), (0, .ref xo)]) hx hb dX3_turnPage_9 rfl hl (by decide) rfl (fun ls hl => ?_)
  refine lv_aload_n hx hb dX3_turnPage_10 rfl (lv_at hl 0 rfl) ?_
  refine lv_ifnonnull (tgt := 28) hx hb dX3_turnPage_11 (by decide) ?_
  refine lv_aload_n hx hb dX3_turnPage_28 rfl (lv_at hl 0 rfl) ?_
  refine w_get (C := RX0) (T := TX0) (N := 7) (ci := 0) hx hb hts hown hK hM inX0 rfl 0 (by decide) qw_1_63 rfl (hPs.1 (cn + 1) hca) rfl dX3_turnPage_29 ?_
  refine lv_aload_n hx hb dX3_turnPage_32 rfl (lv_at hl 1 rfl) ?_
  refine w_get (C := RX0) (T := TX0) (N := 7) (ci := 0) hx hb hts hown hK hM inX0 rfl 0 (by decide) qw_1_63 rfl (hPs.1 cn hcn) rfl dX3_turnPage_33 ?_
  refine wr_go0 (wr_runV (As := [.ref (po cn)]) (rest := []) hx hb hml hown hts hK hM okV_RX3_259_X1_copyFrom (met_X1_copyFrom l (po (cn + 1)) (okk (cn + 1)) (pt (cn + 1)) (po cn) (okk cn) (pt cn) (K (cn + 1)) (K cn) (pp (cn + 1)) (pp cn) (w (cn + 1)) (bk (cn + 1)) (w cn) (bk cn) (wa (cn + 1)) (wa cn) (hPs.2.1 (cn + 1) hca).1 (hPs.2.1 (cn + 1) hca).2.1 (hPs.2.1 (cn + 1) hca).2.2 (hPs.2.1 cn hcn).1 (hPs.2.1 cn hcn).2.1 (hPs.2.1 cn hcn).2.2 hap.2.1 hA_po__cn___1_ hA_okk__cn___1_ hA_pt__cn___1_) (hPs.2.1 (cn + 1) hca).1 rfl rfl rfl ⟨Nat.le_of_ble_eq_true rfl, Nat.le_of_ble_eq_true rfl⟩ hl.1 rfl (Nat.le_of_ble_eq_true rfl) dX3_turnPage_36 ⟨Nat.le_refl _, Nat.le_refl _⟩) hS (fun M1 H locs hR hM hS => ?_)
  obtain rfl := hR
  refine lv_aload_n hx hb dX3_turnPage_39 rfl (lv_at hl 0 rfl) ?_
  refine lv_aload_n hx hb dX3_turnPage_40 rfl (lv_at hl 1 rfl) ?_
  refine w_get (C := RX0) (T := TX0) (N := 7) (ci := 0) hx hb hts hown hK hM inX0 rfl 5 (by decide) qw_1_70 rfl (mu_g (ne_oi (hPs.1 cn hcn) (hPs.2.1 (cn + 1) hca).2.2) (mu_g (ne_oi (hPs.1 cn hcn) (hPs.2.1 (cn + 1) hca).2.1) (mu_g (ne_oo (hPs.1 cn hcn) (hPs.2.1 (cn + 1) hca).1 (by decide)) (hPs.1 cn hcn)))) rfl dX3_turnPage_41 ?_
  refine lv_iconst (v := nI 1) hx hb dX3_turnPage_44 (by decide) ?_
  refine ni_add hx hb (qu cn) 1 dX3_turnPage_45 ?_
  refine w_put (C := RX0) (T := TX0) (N := 7) (ci := 0) hx hb hts hown hK hM hS inX0 rfl tyX0 tyX0_ok nmX0 5 (by decide) qw_1_70 rfl rfl (mu_g (ne_oi (hPs.1 (cn + 1) hca) (hPs.2.1 (cn + 1) hca).2.2) (mu_g (ne_oi (hPs.1 (cn + 1) hca) (hPs.2.1 (cn + 1) hca).2.1) (mu_g (ne_oo (hPs.1 (cn + 1) hca) (hPs.2.1 (cn + 1) hca).1 (by decide)) (hPs.1 (cn + 1) hca)))) hA_pa__cn___1_ rfl rfl (Nat.le_of_ble_eq_true rfl) dX3_turnPage_46 (fun H locs hM hS => ?_)
  replace hM : HM D (mu (mu (mu (mu M (po (cn + 1)) (.inr (1, [.ref (okk (cn + 1)), .ref (pt (cn + 1)), .long (bL (w cn)), .long (bL (bk cn)), .int (bI (wa cn))]))) (okk (cn + 1)) (eJ cJ 7 (fun ζ => bL ((K cn) ζ)))) (pt (cn + 1)) (eI cI 64 (pp cn))) (pa (cn + 1)) (.inr (0, [.ref (po (cn + 1)), pgV pa (cn + 1), .int (nI (cn + 1)), afV pa N (cn + 1), .int (nI (ca (cn + 1))), .int (nI ((qu cn) + 1)), .int (nI (ve (cn + 1)))]))) H := hM
  refine lv_aload_n hx hb dX3_turnPage_49 rfl (lv_at hl 0 rfl) ?_
  refine lv_iconst (v := nI 0) hx hb dX3_turnPage_50 (by decide) ?_
  refine w_put (C := RX0) (T := TX0) (N := 7) (ci := 0) hx hb hts hown hK hM hS inX0 rfl tyX0 tyX0_ok nmX0 4 (by decide) qw_1_69 rfl rfl mu_s hA_pa__cn___1_ rfl rfl (Nat.le_of_ble_eq_true rfl) dX3_turnPage_51 (fun H locs hM hS => ?_)
  rw [mu_mu] at hM
  replace hM : HM D (mu (mu (mu (mu M (po (cn + 1)) (.inr (1, [.ref (okk (cn + 1)), .ref (pt (cn + 1)), .long (bL (w cn)), .long (bL (bk cn)), .int (bI (wa cn))]))) (okk (cn + 1)) (eJ cJ 7 (fun ζ => bL ((K cn) ζ)))) (pt (cn + 1)) (eI cI 64 (pp cn))) (pa (cn + 1)) (.inr (0, [.ref (po (cn + 1)), pgV pa (cn + 1), .int (nI (cn + 1)), afV pa N (cn + 1), .int (nI 0), .int (nI ((qu cn) + 1)), .int (nI (ve (cn + 1)))]))) H := hM
  refine lv_aload_n hx hb dX3_turnPage_54 rfl (lv_at hl 2 rfl) ?_
  refine lv_aload_n hx hb dX3_turnPage_55 rfl (lv_at hl 0 rfl) ?_
  refine w_put (C := RX3) (T := TX3) (N := 4) (ci := 2) hx hb hts hown hK hM hS inX3 rfl tyX3 tyX3_ok nmX3 2 (by decide) qw_1_104 rfl rfl (mu_g (ne_oo hxo (hPs.1 (cn + 1) hca) (by decide)) (mu_g (ne_oi hxo (hPs.2.1 (cn + 1) hca).2.2) (mu_g (ne_oi hxo (hPs.2.1 (cn + 1) hca).2.1) (mu_g (ne_oo hxo (hPs.2.1 (cn + 1) hca).1 (by decide)) hxo)))) hA_xo rfl rfl (Nat.le_of_ble_eq_true rfl) dX3_turnPage_56 (fun H locs hM hS => ?_)
  replace hM : HM D (mu (mu (mu (mu (mu M (po (cn + 1)) (.inr (1, [.ref (okk (cn + 1)), .ref (pt (cn + 1)), .long (bL (w cn)), .long (bL (bk cn)), .int (bI (wa cn))]))) (okk (cn + 1)) (eJ cJ 7 (fun ζ => bL ((K cn) ζ)))) (pt (cn + 1)) (eI cI 64 (pp cn))) (pa (cn + 1)) (.inr (0, [.ref (po (cn + 1)), pgV pa (cn + 1), .int (nI (cn + 1)), afV pa N (cn + 1), .int (nI 0), .int (nI ((qu cn) + 1)), .int (nI (ve (cn + 1)))]))) xo (.inr (2, [.ref (pa 0), .ref tr, .ref (pa (cn + 1)), .int (bI su)]))) H := hM
  exact wr_return hx hb hr hlk hM hS (Nat.le_refl _) (Nat.le_refl _) (by rw [show okk (cn + 1) = (okk (cn + 1)) from rfl, show pt (cn + 1) = (pt (cn + 1)) from rfl, show K cn = (K cn) from rfl, show pp cn = (pp cn) from rfl, show nI (qu cn + 1) = nI ((qu cn) + 1) from rfl]) dX3_turnPage_59
set_option maxHeartbeats 4000000 in
set_option maxRecDepth 100000 in
theorem met_X3_takeBack (l : Launch) {D : va_G} {cI cJ : ClassId} {M : MP} {A : Nat → Prop} {sz : Nat} (xo tr cn N : Nat) (su : Bool) (pa po okk pt : Nat → Nat) (K : Nat → Nat → BitVec 64) (pp : Nat → Nat → Int32) (w bk : Nat → BitVec 64) (wa : Nat → Bool) (ca qu ve : Nat → Nat)  (hxo : M xo = some (.inr (2, [.ref (pa 0), .ref tr, .ref (pa cn), .int (bI su)]))) (hPs : Pages cI cJ M pa po okk pt K pp w bk wa ca qu ve N) (hcn : cn < N) (hN : N ≤ 514) (hsu : su = false) (hc0 : 0 < cn) (hA_xo : A xo) : Wr l yX3_takeBack cX3_takeBack 2 (some .int) 1 0 0 D cI cJ [.ref xo] M sz A (some (.int (nI (cn - 1)))) (fun M' => M' = mu M xo (.inr (2, [.ref (pa 0), .ref tr, .ref (pa (cn - 1)), .int (bI su)]))) := by
  refine wr_start (by decide) (Nat.le_of_ble_eq_true rfl) ?_
  intro p e s m args below meth c hx hb hr hml hown hts hlk hini hK hsz H hH0 hM hS ls hl
  clear hH0
  have hl : lv_has ls 2 [(0, .ref xo)] := hl
  refine lv_aload_n hx hb dX3_takeBack_0 rfl (lv_at hl 0 rfl) ?_
  refine w_get (C := RX3) (T := TX3) (N := 4) (ci := 2) hx hb hts hown hK hM inX3 rfl 2 (by decide) qw_1_104 rfl hxo rfl dX3_takeBack_1 ?_
  refine w_get (C := RX0) (T := TX0) (N := 7) (ci := 0) hx hb hts hown hK hM inX0 rfl 1 (by decide) qw_1_65 rfl (hPs.1 cn hcn) rfl dX3_takeBack_4 ?_
  rw [show pgV pa cn = .ref (pa (cn - 1)) by obtain ⟨z, rfl⟩ : ∃ z, cn = z + 1 := ⟨cn - 1, by omega⟩; rfl]
  refine lv_astore_n (lv' := [(1, .ref (pa (cn - 1))), (0, .ref xo)]) hx hb dX3_takeBack_7 rfl hl (by decide) rfl (fun ls hl => ?_)
  refine lv_aload_n hx hb dX3_takeBack_8 rfl (lv_at hl 1 rfl) ?_
  refine w_get (C := RX3) (T := TX3) (N := 4) (ci := 2) hx hb hts hown hK hM inX3 rfl 3 (by decide) qw_1_105 rfl hxo rfl dX3_takeBack_9 ?_
  refine topi (bI false) (by rw [hsu]) ?_
  refine zb_ne (tgt := 19) hx hb false dX3_takeBack_12 (by decide) (fun h => absurd (h.symm.trans (rfl : false = false)) (by decide)) (fun _ => ?_)
  refine lv_aload_n hx hb dX3_takeBack_15 rfl (lv_at hl 0 rfl) ?_
  refine lv_ifnonnull (tgt := 29) hx hb dX3_takeBack_16 (by decide) ?_
  refine lv_aload_n hx hb dX3_takeBack_29 rfl (lv_at hl 1 rfl) ?_
  refine lv_aload_n hx hb dX3_takeBack_30 rfl (lv_at hl 0 rfl) ?_
  refine w_put (C := RX3) (T := TX3) (N := 4) (ci := 2) hx hb hts hown hK hM hS inX3 rfl tyX3 tyX3_ok nmX3 2 (by decide) qw_1_104 rfl rfl hxo hA_xo rfl rfl (Nat.le_of_ble_eq_true rfl) dX3_takeBack_31 (fun H locs hM hS => ?_)
  replace hM : HM D (mu M xo (.inr (2, [.ref (pa 0), .ref tr, .ref (pa (cn - 1)), .int (bI su)]))) H := hM
  refine lv_aload_n hx hb dX3_takeBack_34 rfl (lv_at hl 1 rfl) ?_
  refine w_get (C := RX3) (T := TX3) (N := 4) (ci := 2) hx hb hts hown hK hM inX3 rfl 2 (by decide) qw_1_104 rfl mu_s rfl dX3_takeBack_35 ?_
  refine w_get (C := RX0) (T := TX0) (N := 7) (ci := 0) hx hb hts hown hK hM inX0 rfl 2 (by decide) qw_1_67 rfl (mu_g (ne_oo (hPs.1 (cn - 1) (show cn - 1 < N by omega)) hxo (by decide)) (hPs.1 (cn - 1) (show cn - 1 < N by omega))) rfl dX3_takeBack_38 ?_
  exact wr_ireturn hx hb hr hlk hM hS (Nat.le_refl _) (Nat.le_refl _) rfl rfl dX3_takeBack_41
set_option maxHeartbeats 4000000 in
set_option maxRecDepth 100000 in
theorem met_X3_beginSetup (l : Launch) {D : va_G} {cI cJ : ClassId} {M : MP} {A : Nat → Prop} {sz : Nat} (xo tr cn N : Nat) (su : Bool) (pa po okk pt : Nat → Nat) (K : Nat → Nat → BitVec 64) (pp : Nat → Nat → Int32) (w bk : Nat → BitVec 64) (wa : Nat → Bool) (ca qu ve : Nat → Nat)  (hxo : M xo = some (.inr (2, [.ref (pa 0), .ref tr, .ref (pa cn), .int (bI su)]))) (hPs : Pages cI cJ M pa po okk pt K pp w bk wa ca qu ve N) (hcn : cn < N) (hN : N ≤ 514) (hA_xo : A xo) (hA_pa_0 : A (pa 0)) (hA_po_0 : A (po 0)) (hA_okk_0 : A (okk 0)) (hA_pt_0 : A (pt 0)) : Wr l yX3_beginSetup cX3_beginSetup 1 none 2 0 0 D cI cJ [.ref xo] M sz A none (fun M' => M' = mu (mu (mu (mu (mu M xo (.inr (2, [.ref (pa 0), .ref tr, .ref (pa 0), .int (bI true)]))) (pa 0) (.inr (0, [.ref (po 0), pgV pa 0, .int (nI 0), afV pa N 0, .int (nI (ca 0)), .int (nI (qu 0)), .int (nI 0)]))) (po 0) (.inr (1, [.ref (okk 0), .ref (pt 0), .long (bL (0#64)), .long (bL (0#64)), .int (bI true)]))) (okk 0) (eJ cJ 7 (fun ζ => bL (kZ ζ)))) (pt 0) (eI cI 64 pNo)) := by
  refine wr_start (by decide) (Nat.le_of_ble_eq_true rfl) ?_
  intro p e s m args below meth c hx hb hr hml hown hts hlk hini hK hsz H hH0 hM hS ls hl
  clear hH0
  have hl : lv_has ls 1 [(0, .ref xo)] := hl
  refine lv_aload_n hx hb dX3_beginSetup_0 rfl (lv_at hl 0 rfl) ?_
  refine lv_iconst (v := nI 1) hx hb dX3_beginSetup_1 (by decide) ?_
  refine topi (bI true) rfl ?_
  refine w_put (C := RX3) (T := TX3) (N := 4) (ci := 2) hx hb hts hown hK hM hS inX3 rfl tyX3 tyX3_ok nmX3 3 (by decide) qw_1_105 rfl rfl hxo hA_xo (bI_nar _) (bI_fit _) (Nat.le_of_ble_eq_true rfl) dX3_beginSetup_2 (fun H locs hM hS => ?_)
  replace hM : HM D (mu M xo (.inr (2, [.ref (pa 0), .ref tr, .ref (pa cn), .int (bI true)]))) H := hM
  refine lv_aload_n hx hb dX3_beginSetup_5 rfl (lv_at hl 0 rfl) ?_
  refine lv_aload_n hx hb dX3_beginSetup_6 rfl (lv_at hl 0 rfl) ?_
  refine w_get (C := RX3) (T := TX3) (N := 4) (ci := 2) hx hb hts hown hK hM inX3 rfl 0 (by decide) qw_1_102 rfl mu_s rfl dX3_beginSetup_7 ?_
  refine w_put (C := RX3) (T := TX3) (N := 4) (ci := 2) hx hb hts hown hK hM hS inX3 rfl tyX3 tyX3_ok nmX3 2 (by decide) qw_1_104 rfl rfl mu_s hA_xo rfl rfl (Nat.le_of_ble_eq_true rfl) dX3_beginSetup_10 (fun H locs hM hS => ?_)
  rw [mu_mu] at hM
  replace hM : HM D (mu M xo (.inr (2, [.ref (pa 0), .ref tr, .ref (pa 0), .int (bI true)]))) H := hM
  refine lv_aload_n hx hb dX3_beginSetup_13 rfl (lv_at hl 0 rfl) ?_
  refine w_get (C := RX3) (T := TX3) (N := 4) (ci := 2) hx hb hts hown hK hM inX3 rfl 0 (by decide) qw_1_102 rfl mu_s rfl dX3_beginSetup_14 ?_
  refine lv_iconst (v := nI 0) hx hb dX3_beginSetup_17 (by decide) ?_
  refine w_put (C := RX0) (T := TX0) (N := 7) (ci := 0) hx hb hts hown hK hM hS inX0 rfl tyX0 tyX0_ok nmX0 6 (by decide) qw_1_71 rfl rfl (mu_g (ne_oo (hPs.1 0 (show 0 < N by omega)) hxo (by decide)) (hPs.1 0 (show 0 < N by omega))) hA_pa_0 rfl rfl (Nat.le_of_ble_eq_true rfl) dX3_beginSetup_18 (fun H locs hM hS => ?_)
  replace hM : HM D (mu (mu M xo (.inr (2, [.ref (pa 0), .ref tr, .ref (pa 0), .int (bI true)]))) (pa 0) (.inr (0, [.ref (po 0), pgV pa 0, .int (nI 0), afV pa N 0, .int (nI (ca 0)), .int (nI (qu 0)), .int (nI 0)]))) H := hM
  refine lv_aload_n hx hb dX3_beginSetup_21 rfl (lv_at hl 0 rfl) ?_
  refine w_get (C := RX3) (T := TX3) (N := 4) (ci := 2) hx hb hts hown hK hM inX3 rfl 0 (by decide) qw_1_102 rfl (mu_g (ne_oo hxo (hPs.1 0 (show 0 < N by omega)) (by decide)) mu_s) rfl dX3_beginSetup_22 ?_
  refine w_get (C := RX0) (T := TX0) (N := 7) (ci := 0) hx hb hts hown hK hM inX0 rfl 0 (by decide) qw_1_63 rfl mu_s rfl dX3_beginSetup_25 ?_
  refine wr_go0 (wr_runV (As := []) (rest := []) hx hb hml hown hts hK hM okV_RX3_51_X1_empty (met_X1_empty l (po 0) (okk 0) (pt 0) (K 0) (pp 0) (w 0) (bk 0) (wa 0) (mu_g (ne_oo (hPs.2.1 0 (show 0 < N by omega)).1 (hPs.1 0 (show 0 < N by omega)) (by decide)) (mu_g (ne_oo (hPs.2.1 0 (show 0 < N by omega)).1 hxo (by decide)) (hPs.2.1 0 (show 0 < N by omega)).1)) (mu_g (ne_io (hPs.2.1 0 (show 0 < N by omega)).2.1 (hPs.1 0 (show 0 < N by omega))) (mu_g (ne_io (hPs.2.1 0 (show 0 < N by omega)).2.1 hxo) (hPs.2.1 0 (show 0 < N by omega)).2.1)) (mu_g (ne_io (hPs.2.1 0 (show 0 < N by omega)).2.2 (hPs.1 0 (show 0 < N by omega))) (mu_g (ne_io (hPs.2.1 0 (show 0 < N by omega)).2.2 hxo) (hPs.2.1 0 (show 0 < N by omega)).2.2)) hA_po_0 hA_okk_0 hA_pt_0) (mu_g (ne_oo (hPs.2.1 0 (show 0 < N by omega)).1 (hPs.1 0 (show 0 < N by omega)) (by decide)) (mu_g (ne_oo (hPs.2.1 0 (show 0 < N by omega)).1 hxo (by decide)) (hPs.2.1 0 (show 0 < N by omega)).1)) rfl rfl rfl ⟨Nat.le_of_ble_eq_true rfl, Nat.le_of_ble_eq_true rfl⟩ hl.1 rfl (Nat.le_of_ble_eq_true rfl) dX3_beginSetup_28 ⟨Nat.le_refl _, Nat.le_refl _⟩) hS (fun M1 H locs hR hM hS => ?_)
  obtain rfl := hR
  exact wr_return hx hb hr hlk hM hS (Nat.le_refl _) (Nat.le_refl _) (by rw [show okk 0 = (okk 0) from rfl, show pt 0 = (pt 0) from rfl]) dX3_beginSetup_31
