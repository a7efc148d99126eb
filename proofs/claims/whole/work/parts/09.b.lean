theorem okV_RX4_150_X4_findOutcome : okV RX4 150 yX4_findOutcome cX4_findOutcome 3 none 0 := okV_of qw_4_2 qw_4_4 qw_0_12 qw_1_5 qw_4_5 (by decide +kernel)
theorem okV_RX4_157_X4_keep : okV RX4 157 yX4_keep cX4_keep 3 none 0 := okV_of qw_3_235 qw_3_237 qw_0_11 qw_1_5 qw_3_238 (by decide +kernel)
set_option maxHeartbeats 4000000 in
set_option maxRecDepth 100000 in
theorem met_X4_keepS (l : Launch) {D : va_G} {cI cJ : ClassId} {M : MP} {A : Nat → Prop} {sz : Nat} (mo ro no fi se t3 le od th ac oc : Nat) (su : Bool) (nr : Nat) (f g g2 g3 lf rw : Nat → Int32) (hmo : M mo = some (.inr (3, [.int (nI th), .int (bI su), .ref ro, .int (nI ac), .int (nI oc), .ref no, .ref fi, .ref se, .ref t3, .ref le, .ref od]))) (hro : M ro = some (eI cI nr rw)) (hno : M no = some (eI cI 146 f)) (hfi : M fi = some (eI cI 146 g)) (hse : M se = some (eI cI 146 g2)) (ht3 : M t3 = some (eI cI 146 g3)) (hle : M le = some (eI cI 4096 lf)) (hP : WfP f) (hB : WfB f) (hs : WfS f) (hL : WfL lf) (hap : Apart6 ro no fi se t3 le) (hst : 146 * (ac + 1) ≤ nr) (hnr : nr < 2 ^ 26) (hA_mo : A mo) (hA_ro : A ro) (hA_no : A no) (hA_fi : A fi) : Wr l yX4_keep cX4_keep 3 none 8 0 0 D cI cJ [.ref mo] M sz A none (fun M' => MoKept cI M M' A mo ro no fi se t3 le od th ac su nr rw f g2 g3 lf) := by
  refine wr_start (by decide) (Nat.le_of_ble_eq_true rfl) ?_
  intro p e s m args below meth c hx hb hr hml hown hts hlk hini hK hsz H hH0 hM hS ls hl
  clear hH0
  have hl : lv_has ls 3 [(0, .ref mo)] := hl
  have hap0 := hap
  obtain ⟨⟨n_ro_no, n_ro_fi, n_ro_se, n_ro_t3, n_ro_le⟩, ⟨n_no_fi, n_no_se, n_no_t3, n_no_le⟩, ⟨n_fi_se, n_fi_t3, n_fi_le⟩, ⟨n_se_t3, n_se_le⟩, n_t3_le⟩ := hap0
  refine lv_sipush (v := nI 146) hx hb dX4_keep_0 (by decide) ?_
  refine lv_aload_n hx hb dX4_keep_3 rfl (lv_at hl 0 rfl) ?_
  refine w_get (C := RX4) (T := TX4) (N := 11) (ci := 3) hx hb hts hown hK hM inX4 rfl 3 (by decide) qw_4_87 rfl hmo rfl dX4_keep_4 ?_
  refine lv_iconst (v := nI 1) hx hb dX4_keep_7 (by decide) ?_
  refine ni_add hx hb ac 1 dX4_keep_8 ?_
  refine ni_mul hx hb 146 (ac + 1) dX4_keep_9 ?_
  refine lv_aload_n hx hb dX4_keep_10 rfl (lv_at hl 0 rfl) ?_
  refine w_get (C := RX4) (T := TX4) (N := 11) (ci := 3) hx hb hts hown hK hM inX4 rfl 2 (by decide) qw_4_86 rfl hmo rfl dX4_keep_11 ?_
  refine w_alen hx hb hK hM hro dX4_keep_14 ?_
  refine ni_le (tgt := 59) hx hb (146 * (ac + 1)) nr (by omega) (by omega) dX4_keep_15 (by decide) (fun c_15 => ?_) (fun c_15 => ?_)
  · skip
    refine lv_aload_n hx hb dX4_keep_59 rfl (lv_at hl 0 rfl) ?_
    refine w_get (C := RX4) (T := TX4) (N := 11) (ci := 3) hx hb hts hown hK hM inX4 rfl 5 (by decide) qw_4_89 rfl hmo rfl dX4_keep_60 ?_
    refine lv_iconst (v := nI 0) hx hb dX4_keep_63 (by decide) ?_
    refine lv_aload_n hx hb dX4_keep_64 rfl (lv_at hl 0 rfl) ?_
    refine w_get (C := RX4) (T := TX4) (N := 11) (ci := 3) hx hb hts hown hK hM inX4 rfl 2 (by decide) qw_4_86 rfl hmo rfl dX4_keep_65 ?_
    refine lv_sipush (v := nI 146) hx hb dX4_keep_68 (by decide) ?_
    refine lv_aload_n hx hb dX4_keep_71 rfl (lv_at hl 0 rfl) ?_
    refine w_get (C := RX4) (T := TX4) (N := 11) (ci := 3) hx hb hts hown hK hM inX4 rfl 3 (by decide) qw_4_87 rfl hmo rfl dX4_keep_72 ?_
    refine ni_mul hx hb 146 ac dX4_keep_75 ?_
    refine wr_go0 (wr_runS (As := [.ref no, .int (nI 0), .ref ro, .int (nI (146 * ac))]) (rest := []) hx hb hml hown hts hK hM okS_RX4_98_X4_copyRow (met_X4_copyRow l no 0 ro (146 * ac) 146 nr f rw hno hro (by omega) (by omega) (by omega) (by omega) (by omega) hA_ro) rfl ⟨Nat.le_of_ble_eq_true rfl, Nat.le_of_ble_eq_true rfl⟩ hl.1 rfl (Nat.le_of_ble_eq_true rfl) dX4_keep_76 ⟨Nat.le_refl _, Nat.le_refl _⟩) hS (fun M1 H locs hR hM hS => ?_)
    obtain rfl := hR
    refine lv_aload_n hx hb dX4_keep_79 rfl (lv_at hl 0 rfl) ?_
    refine wr_go0 (wr_runV (As := []) (rest := []) hx hb hml hown hts hK hM okV_RX4_150_X4_findOutcome (met_X4_findOutcome l mo ro no fi se t3 le od th ac oc su nr f g lf (va_cpy f rw 0 (146 * ac) 146) (mu_g (ne_oi hmo hro) hmo) (mu_g (Ne.symm n_ro_le) hle) (mu_g (Ne.symm n_ro_no) hno) (mu_g (Ne.symm n_ro_fi) hfi) mu_s hP hB hs hL (by omega) (by omega) (by omega) (by omega) (by omega) hA_mo hA_fi) (mu_g (ne_oi hmo hro) hmo) rfl rfl rfl ⟨Nat.le_of_ble_eq_true rfl, Nat.le_of_ble_eq_true rfl⟩ hl.1 rfl (Nat.le_of_ble_eq_true rfl) dX4_keep_80 ⟨Nat.le_refl _, Nat.le_refl _⟩) hS (fun M1 H locs hR hM hS => ?_)
    obtain ⟨g1_80, rfl⟩ := hR
    exact wr_return hx hb hr hlk hM hS (Nat.le_refl _) (Nat.le_refl _) ⟨ro, nr, _, _, ⟨(mu_g (ne_oi hmo hfi) mu_s), (mu_g n_ro_fi (mu_g (ne_io hro hmo) mu_s)), (mu_g n_no_fi (mu_g (ne_io hno hmo) (mu_g (Ne.symm n_ro_no) hno))), mu_s, (mu_g (Ne.symm n_fi_se) (mu_g (ne_io hse hmo) (mu_g (Ne.symm n_ro_se) hse))), (mu_g (Ne.symm n_fi_t3) (mu_g (ne_io ht3 hmo) (mu_g (Ne.symm n_ro_t3) ht3))), (mu_g (Ne.symm n_fi_le) (mu_g (ne_io hle hmo) (mu_g (Ne.symm n_ro_le) hle))), hap⟩, (Keep.up (Keep.up (Keep.up Keep.rf (Or.inr (Or.inl rfl))) (Or.inl rfl)) (Or.inr (Or.inr (Or.inr (Or.inl rfl))))), ⟨hst, fun k hk => cpy_lo hk, fun k hk => cpy_in hk, Or.inl ⟨rfl, rfl, hst⟩⟩⟩ dX4_keep_83
  · skip
    exfalso; omega
set_option maxHeartbeats 4000000 in
set_option maxRecDepth 100000 in
theorem met_X4_keepG (l : Launch) {D : va_G} {cI cJ : ClassId} {M : MP} {A : Nat → Prop} {sz : Nat} (mo ro no fi se t3 le od th ac oc : Nat) (su : Bool) (nr : Nat) (f g g2 g3 lf rw : Nat → Int32) (hmo : M mo = some (.inr (3, [.int (nI th), .int (bI su), .ref ro, .int (nI ac), .int (nI oc), .ref no, .ref fi, .ref se, .ref t3, .ref le, .ref od]))) (hro : M ro = some (eI cI nr rw)) (hno : M no = some (eI cI 146 f)) (hfi : M fi = some (eI cI 146 g)) (hse : M se = some (eI cI 146 g2)) (ht3 : M t3 = some (eI cI 146 g3)) (hle : M le = some (eI cI 4096 lf)) (hP : WfP f) (hB : WfB f) (hs : WfS f) (hL : WfL lf) (hap : Apart6 ro no fi se t3 le) (hlo : 146 * ac ≤ nr) (hgr : nr < 146 * (ac + 1)) (h2 : 146 * (ac + 1) ≤ 2 * nr) (hnr : nr < 2 ^ 26) (hA_mo : A mo) (hA_ro : A ro) (hA_no : A no) (hA_fi : A fi) (hAn : ∀ q, sz ≤ q → A q) : Wr l yX4_keep cX4_keep 3 none 8 1 (2 * nr) D cI cJ [.ref mo] M sz A none (fun M' => MoKept cI M M' A mo ro no fi se t3 le od th ac su nr rw f g2 g3 lf) := by
  refine wr_start (by decide) (Nat.le_of_ble_eq_true rfl) ?_
  intro p e s m args below meth c hx hb hr hml hown hts hlk hini hK hsz H hH0 hM hS ls hl
  rw [← hsz] at hAn
  clear hH0
  have hl : lv_has ls 3 [(0, .ref mo)] := hl
  have hap0 := hap
  obtain ⟨⟨n_ro_no, n_ro_fi, n_ro_se, n_ro_t3, n_ro_le⟩, ⟨n_no_fi, n_no_se, n_no_t3, n_no_le⟩, ⟨n_fi_se, n_fi_t3, n_fi_le⟩, ⟨n_se_t3, n_se_le⟩, n_t3_le⟩ := hap0
  refine lv_sipush (v := nI 146) hx hb dX4_keep_0 (by decide) ?_
  refine lv_aload_n hx hb dX4_keep_3 rfl (lv_at hl 0 rfl) ?_
  refine w_get (C := RX4) (T := TX4) (N := 11) (ci := 3) hx hb hts hown hK hM inX4 rfl 3 (by decide) qw_4_87 rfl hmo rfl dX4_keep_4 ?_
  refine lv_iconst (v := nI 1) hx hb dX4_keep_7 (by decide) ?_
  refine ni_add hx hb ac 1 dX4_keep_8 ?_
  refine ni_mul hx hb 146 (ac + 1) dX4_keep_9 ?_
  refine lv_aload_n hx hb dX4_keep_10 rfl (lv_at hl 0 rfl) ?_
  refine w_get (C := RX4) (T := TX4) (N := 11) (ci := 3) hx hb hts hown hK hM inX4 rfl 2 (by decide) qw_4_86 rfl hmo rfl dX4_keep_11 ?_
  refine w_alen hx hb hK hM hro dX4_keep_14 ?_
  refine ni_le (tgt := 59) hx hb (146 * (ac + 1)) nr (by omega) (by omega) dX4_keep_15 (by decide) (fun c_15 => ?_) (fun c_15 => ?_)
  · skip
    exfalso; omega
  · skip
    refine lv_iconst (v := nI 2) hx hb dX4_keep_18 (by decide) ?_
    refine lv_aload_n hx hb dX4_keep_19 rfl (lv_at hl 0 rfl) ?_
    refine w_get (C := RX4) (T := TX4) (N := 11) (ci := 3) hx hb hts hown hK hM inX4 rfl 2 (by decide) qw_4_86 rfl hmo rfl dX4_keep_20 ?_
    refine w_alen hx hb hK hM hro dX4_keep_23 ?_
    refine ni_mul hx hb 2 nr dX4_keep_24 ?_
    refine w_newI hx hb hts hK hM hS hAn qw_1_61 (2 * nr) (by omega) (by show 0 + 1 ≤ 1; omega) (by show 0 + (2 * nr) ≤ 2 * nr; omega) dX4_keep_25 (fun q25 H hq_25 hMq_25 hAq_25 hqa_25 hM hS => ?_)
    have hne_mo_q25 := ne_none hmo hMq_25
    have hne_ro_q25 := ne_none hro hMq_25
    have hne_no_q25 := ne_none hno hMq_25
    have hne_fi_q25 := ne_none hfi hMq_25
    have hne_se_q25 := ne_none hse hMq_25
    have hne_t3_q25 := ne_none ht3 hMq_25
    have hne_le_q25 := ne_none hle hMq_25
    have hf_q25 : M q25 = none := hMq_25
    refine lv_astore_n (lv' := [(1, .ref q25), (0, .ref mo)]) hx hb dX4_keep_27 rfl hl (by decide) rfl (fun ls hl => ?_)
    refine lv_iconst (v := nI 0) hx hb dX4_keep_28 (by decide) ?_
    refine lv_istore_n (lv' := [(2, .int (nI 0)), (1, .ref q25), (0, .ref mo)]) hx hb dX4_keep_29 rfl hl (by decide) rfl (fun ls hl => ?_)
    rw [← cpy_zero rw (fun _ => 0) 0 0] at hM
    refine loopW (pcH := 30) (st := []) (ι := Nat) (fun ξ => mu M q25 (eI cI (2 * nr) (va_cpy rw (fun _ => 0) 0 0 (ξ)))) (fun ξ => [(2, .int (nI (ξ))), (1, .ref q25), (0, .ref mo)]) (fun n ξ => (ξ) + n = nr) ?_ ?_ nr 0 (by omega) hM hS ls (lv_sub hl [0,1,2] rfl)
    · rintro i hin H locs hM hS ls hl
      try dsimp only at hl hin hM
      refine lv_iload_n hx hb dX4_keep_30 rfl (lv_at hl 0 rfl) ?_
      refine lv_aload_n hx hb dX4_keep_31 rfl (lv_at hl 2 rfl) ?_
      refine w_get (C := RX4) (T := TX4) (N := 11) (ci := 3) hx hb hts hown hK hM inX4 rfl 2 (by decide) qw_4_86 rfl (mu_g hne_mo_q25 hmo) rfl dX4_keep_32 ?_
      refine w_alen hx hb hK hM (mu_g hne_ro_q25 hro) dX4_keep_35 ?_
      refine ni_ge (tgt := 54) hx hb i nr (by omega) (by omega) dX4_keep_36 (by decide) (fun c_36 => ?_) (fun c_36 => ?_)
      · skip
        refine lv_aload_n hx hb dX4_keep_54 rfl (lv_at hl 2 rfl) ?_
        refine lv_aload_n hx hb dX4_keep_55 rfl (lv_at hl 1 rfl) ?_
        refine w_put (C := RX4) (T := TX4) (N := 11) (ci := 3) hx hb hts hown hK hM hS inX4 rfl tyX4 tyX4_ok nmX4 2 (by decide) qw_4_86 rfl rfl (mu_g hne_mo_q25 hmo) hA_mo rfl rfl (Nat.le_of_ble_eq_true rfl) dX4_keep_56 (fun H locs hM hS => ?_)
        replace hM : HM D (mu (mu M q25 (eI cI (2 * nr) (va_cpy rw (fun _ => 0) 0 0 i))) mo (.inr (3, [.int (nI th), .int (bI su), .ref q25, .int (nI ac), .int (nI oc), .ref no, .ref fi, .ref se, .ref t3, .ref le, .ref od]))) H := hM
        refine lv_aload_n hx hb dX4_keep_59 rfl (lv_at hl 2 rfl) ?_
        refine w_get (C := RX4) (T := TX4) (N := 11) (ci := 3) hx hb hts hown hK hM inX4 rfl 5 (by decide) qw_4_89 rfl mu_s rfl dX4_keep_60 ?_
        refine lv_iconst (v := nI 0) hx hb dX4_keep_63 (by decide) ?_
        refine lv_aload_n hx hb dX4_keep_64 rfl (lv_at hl 2 rfl) ?_
        refine w_get (C := RX4) (T := TX4) (N := 11) (ci := 3) hx hb hts hown hK hM inX4 rfl 2 (by decide) qw_4_86 rfl mu_s rfl dX4_keep_65 ?_
        refine lv_sipush (v := nI 146) hx hb dX4_keep_68 (by decide) ?_
        refine lv_aload_n hx hb dX4_keep_71 rfl (lv_at hl 2 rfl) ?_
        refine w_get (C := RX4) (T := TX4) (N := 11) (ci := 3) hx hb hts hown hK hM inX4 rfl 3 (by decide) qw_4_87 rfl mu_s rfl dX4_keep_72 ?_
        refine ni_mul hx hb 146 ac dX4_keep_75 ?_
        refine wr_go0 (wr_runS (As := [.ref no, .int (nI 0), .ref q25, .int (nI (146 * ac))]) (rest := []) hx hb hml hown hts hK hM okS_RX4_98_X4_copyRow (met_X4_copyRow l no 0 q25 (146 * ac) 146 (2 * nr) f (va_cpy rw (fun _ => 0) 0 0 i) (mu_g (ne_io hno hmo) (mu_g hne_no_q25 hno)) (mu_g (Ne.symm hne_mo_q25) mu_s) (by omega) (by omega) (by omega) (by omega) (by omega) hAq_25) rfl ⟨Nat.le_of_ble_eq_true rfl, Nat.le_of_ble_eq_true rfl⟩ hl.1 rfl (Nat.le_of_ble_eq_true rfl) dX4_keep_76 ⟨by show 0 + 1 + 0 ≤ 1; omega, by show 0 + (2 * nr) + 0 ≤ 2 * nr; omega⟩) hS (fun M1 H locs hR hM hS => ?_)
        obtain rfl := hR
        rw [mu_comm hne_mo_q25, mu_mu] at hM
        refine lv_aload_n hx hb dX4_keep_79 rfl (lv_at hl 2 rfl) ?_
        refine wr_go0 (wr_runV (As := []) (rest := []) hx hb hml hown hts hK hM okV_RX4_150_X4_findOutcome (met_X4_findOutcome l mo q25 no fi se t3 le od th ac oc su (2 * nr) f g lf (va_cpy f (va_cpy rw (fun _ => 0) 0 0 i) 0 (146 * ac) 146) mu_s (mu_g (ne_io hle hmo) (mu_g hne_le_q25 hle)) (mu_g (ne_io hno hmo) (mu_g hne_no_q25 hno)) (mu_g (ne_io hfi hmo) (mu_g hne_fi_q25 hfi)) (mu_g (Ne.symm hne_mo_q25) mu_s) hP hB hs hL (by omega) (by omega) (by omega) (by omega) (by omega) hA_mo hA_fi) mu_s rfl rfl rfl ⟨Nat.le_of_ble_eq_true rfl, Nat.le_of_ble_eq_true rfl⟩ hl.1 rfl (Nat.le_of_ble_eq_true rfl) dX4_keep_80 ⟨by show 0 + 1 + 0 ≤ 1; omega, by show 0 + (2 * nr) + 0 ≤ 2 * nr; omega⟩) hS (fun M1 H locs hR hM hS => ?_)
        obtain ⟨g1_80, rfl⟩ := hR
        rw [mu_mu] at hM
        exact wr_return hx hb hr hlk hM hS (by omega) (by omega) ⟨q25, 2 * nr, _, _, ⟨(mu_g (ne_oi hmo hfi) mu_s), (mu_g (Ne.symm hne_fi_q25) (mu_g (Ne.symm hne_mo_q25) mu_s)), (mu_g n_no_fi (mu_g (ne_io hno hmo) (mu_g hne_no_q25 hno))), mu_s, (mu_g (Ne.symm n_fi_se) (mu_g (ne_io hse hmo) (mu_g hne_se_q25 hse))), (mu_g (Ne.symm n_fi_t3) (mu_g (ne_io ht3 hmo) (mu_g hne_t3_q25 ht3))), (mu_g (Ne.symm n_fi_le) (mu_g (ne_io hle hmo) (mu_g hne_le_q25 hle))), ⟨⟨(Ne.symm hne_no_q25), (Ne.symm hne_fi_q25), (Ne.symm hne_se_q25), (Ne.symm hne_t3_q25), (Ne.symm hne_le_q25)⟩, ⟨n_no_fi, n_no_se, n_no_t3, n_no_le⟩, ⟨n_fi_se, n_fi_t3, n_fi_le⟩, ⟨n_se_t3, n_se_le⟩, n_t3_le⟩⟩, (Keep.up (Keep.up (Keep.new Keep.rf hMq_25) (Or.inl rfl)) (Or.inr (Or.inr (Or.inr (Or.inl rfl))))), ⟨h2, fun k hk => (cpy_lo hk).trans (cpy0 (by omega)), fun k hk => cpy_in hk, Or.inr ⟨hMq_25, hAq_25, rfl, hgr⟩⟩⟩ dX4_keep_83
      · skip
        exfalso; omega
    · rintro n ih i hin H locs hM hS ls hl
      try dsimp only at hl hin hM
      refine lv_iload_n hx hb dX4_keep_30 rfl (lv_at hl 0 rfl) ?_
      refine lv_aload_n hx hb dX4_keep_31 rfl (lv_at hl 2 rfl) ?_
      refine w_get (C := RX4) (T := TX4) (N := 11) (ci := 3) hx hb hts hown hK hM inX4 rfl 2 (by decide) qw_4_86 rfl (mu_g hne_mo_q25 hmo) rfl dX4_keep_32 ?_
      refine w_alen hx hb hK hM (mu_g hne_ro_q25 hro) dX4_keep_35 ?_
      refine ni_ge (tgt := 54) hx hb i nr (by omega) (by omega) dX4_keep_36 (by decide) (fun c_36 => ?_) (fun c_36 => ?_)
      · skip
        exfalso; omega
      · skip
        refine lv_aload_n hx hb dX4_keep_39 rfl (lv_at hl 1 rfl) ?_
        refine lv_iload_n hx hb dX4_keep_40 rfl (lv_at hl 0 rfl) ?_
        refine lv_aload_n hx hb dX4_keep_41 rfl (lv_at hl 2 rfl) ?_
        refine w_get (C := RX4) (T := TX4) (N := 11) (ci := 3) hx hb hts hown hK hM inX4 rfl 2 (by decide) qw_4_86 rfl (mu_g hne_mo_q25 hmo) rfl dX4_keep_42 ?_
        refine lv_iload_n hx hb dX4_keep_45 rfl (lv_at hl 0 rfl) ?_
        refine w_iald hx hb hK hM (mu_g hne_ro_q25 hro) i (by omega) (by omega) dX4_keep_46 ?_
        refine w_iast hx hb hK hM hS mu_s hAq_25 i (by omega) (by omega) dX4_keep_47 (fun H locs hM hS => ?_)
        rw [mu_mu] at hM
        refine ni_iinc (lv' := [(2, .int (nI (i + 1))), (1, .ref q25), (0, .ref mo)]) hx hb i 1 dX4_keep_48 hl (k := 0) rfl (by decide) (by decide) rfl (fun ls hl => ?_)
        refine lv_goto (tgt := 30) hx hb dX4_keep_51 (by decide) ?_
        rw [cpy_step0] at hM
        exact ih (i + 1) (by omega) _ _ hM hS ls (lv_sub hl [0,1,2] rfl)
set_option maxHeartbeats 4000000 in
set_option maxRecDepth 100000 in
theorem met_X4_keep (l : Launch) {D : va_G} {cI cJ : ClassId} {M : MP} {A : Nat → Prop} {sz : Nat} (mo ro no fi se t3 le od th ac oc : Nat) (su : Bool) (nr : Nat) (f g g2 g3 lf rw : Nat → Int32) (hmo : M mo = some (.inr (3, [.int (nI th), .int (bI su), .ref ro, .int (nI ac), .int (nI oc), .ref no, .ref fi, .ref se, .ref t3, .ref le, .ref od]))) (hro : M ro = some (eI cI nr rw)) (hno : M no = some (eI cI 146 f)) (hfi : M fi = some (eI cI 146 g)) (hse : M se = some (eI cI 146 g2)) (ht3 : M t3 = some (eI cI 146 g3)) (hle : M le = some (eI cI 4096 lf)) (hP : WfP f) (hB : WfB f) (hs : WfS f) (hL : WfL lf) (hap : Apart6 ro no fi se t3 le) (hlo : 146 * ac ≤ nr) (h3 : 146 ≤ nr) (hnr : nr < 2 ^ 26) (hA_mo : A mo) (hA_ro : A ro) (hA_no : A no) (hA_fi : A fi) (hAn : ∀ q, sz ≤ q → A q) : Wr l yX4_keep cX4_keep 3 none 8 (kpC nr ac) (kpS nr ac) D cI cJ [.ref mo] M sz A none (fun M' => MoKept cI M M' A mo ro no fi se t3 le od th ac su nr rw f g2 g3 lf) := by
  by_cases h : 146 * (ac + 1) ≤ nr
  · rw [show kpC nr ac = 0 from if_pos h, show kpS nr ac = 0 from if_pos h]
    exact met_X4_keepS l mo ro no fi se t3 le od th ac oc su nr f g g2 g3 lf rw hmo hro hno hfi hse ht3 hle hP hB hs hL hap h hnr hA_mo hA_ro hA_no hA_fi
  · rw [show kpC nr ac = 1 from if_neg h, show kpS nr ac = 2 * nr from if_neg h]
    exact met_X4_keepG l mo ro no fi se t3 le od th ac oc su nr f g g2 g3 lf rw hmo hro hno hfi hse ht3 hle hP hB hs hL hap hlo (by omega) (by omega) hnr hA_mo hA_ro hA_no hA_fi hAn
set_option maxHeartbeats 4000000 in
set_option maxRecDepth 100000 in
theorem met_X4_begin (l : Launch) {D : va_G} {cI cJ : ClassId} {M : MP} {A : Nat → Prop} {sz : Nat} (mo ro no fi se t3 le od th ac oc : Nat) (su : Bool) (nr : Nat) (f g g2 g3 lf rw : Nat → Int32) (hmo : M mo = some (.inr (3, [.int (nI th), .int (bI su), .ref ro, .int (nI ac), .int (nI oc), .ref no, .ref fi, .ref se, .ref t3, .ref le, .ref od]))) (hro : M ro = some (eI cI nr rw)) (hno : M no = some (eI cI 146 f)) (hfi : M fi = some (eI cI 146 g)) (hse : M se = some (eI cI 146 g2)) (ht3 : M t3 = some (eI cI 146 g3)) (hle : M le = some (eI cI 4096 lf)) (hP : WfP f) (hB : WfB f) (hs : WfS f) (hL : WfL lf) (hap : Apart6 ro no fi se t3 le) (h3 : 146 ≤ nr) (hnr : nr < 2 ^ 26) (hA_mo : A mo) (hA_ro : A ro) (hA_no : A no) (hA_fi : A fi) (hAn : ∀ q, sz ≤ q → A q) : Wr l yX4_begin cX4_begin 1 none 9 (kpC nr 0) (kpS nr 0) D cI cJ [.ref mo] M sz A none (fun M' => MoKept cI M M' A mo ro no fi se t3 le od th 0 false nr rw f g2 g3 lf) := by
  refine wr_start (by decide) (Nat.le_of_ble_eq_true rfl) ?_
  intro p e s m args below meth c hx hb hr hml hown hts hlk hini hK hsz H hH0 hM hS ls hl
  rw [← hsz] at hAn
  clear hH0
  have hl : lv_has ls 1 [(0, .ref mo)] := hl
  have hap0 := hap
  obtain ⟨⟨n_ro_no, n_ro_fi, n_ro_se, n_ro_t3, n_ro_le⟩, ⟨n_no_fi, n_no_se, n_no_t3, n_no_le⟩, ⟨n_fi_se, n_fi_t3, n_fi_le⟩, ⟨n_se_t3, n_se_le⟩, n_t3_le⟩ := hap0
  refine lv_aload_n hx hb dX4_begin_0 rfl (lv_at hl 0 rfl) ?_
  refine lv_iconst (v := nI 0) hx hb dX4_begin_1 (by decide) ?_
  refine topi (bI false) rfl ?_
  refine w_put (C := RX4) (T := TX4) (N := 11) (ci := 3) hx hb hts hown hK hM hS inX4 rfl tyX4 tyX4_ok nmX4 1 (by decide) qw_4_85 rfl rfl hmo hA_mo (bI_nar _) rfl (Nat.le_of_ble_eq_true rfl) dX4_begin_2 (fun H locs hM hS => ?_)
  replace hM : HM D (mu M mo (.inr (3, [.int (nI th), .int (bI false), .ref ro, .int (nI ac), .int (nI oc), .ref no, .ref fi, .ref se, .ref t3, .ref le, .ref od]))) H := hM
  refine lv_aload_n hx hb dX4_begin_5 rfl (lv_at hl 0 rfl) ?_
  refine lv_iconst (v := nI 0) hx hb dX4_begin_6 (by decide) ?_
  refine w_put (C := RX4) (T := TX4) (N := 11) (ci := 3) hx hb hts hown hK hM hS inX4 rfl tyX4 tyX4_ok nmX4 3 (by decide) qw_4_87 rfl rfl mu_s hA_mo rfl rfl (Nat.le_of_ble_eq_true rfl) dX4_begin_7 (fun H locs hM hS => ?_)
  rw [mu_mu] at hM
  replace hM : HM D (mu M mo (.inr (3, [.int (nI th), .int (bI false), .ref ro, .int (nI 0), .int (nI oc), .ref no, .ref fi, .ref se, .ref t3, .ref le, .ref od]))) H := hM
  refine lv_aload_n hx hb dX4_begin_10 rfl (lv_at hl 0 rfl) ?_
  refine wr_go (wr_runV (As := []) (rest := []) hx hb hml hown hts hK hM okV_RX4_157_X4_keep (met_X4_keep l mo ro no fi se t3 le od th 0 oc false nr f g g2 g3 lf rw mu_s (mu_g (ne_io hro hmo) hro) (mu_g (ne_io hno hmo) hno) (mu_g (ne_io hfi hmo) hfi) (mu_g (ne_io hse hmo) hse) (mu_g (ne_io ht3 hmo) ht3) (mu_g (ne_io hle hmo) hle) hP hB hs hL hap (by omega) (by omega) (by omega) hA_mo hA_ro hA_no hA_fi (fun q hq => hAn q (Nat.le_trans hS.1 hq))) mu_s rfl rfl rfl ⟨Nat.le_of_ble_eq_true rfl, Nat.le_of_ble_eq_true rfl⟩ hl.1 rfl (Nat.le_of_ble_eq_true rfl) dX4_begin_11 ⟨by show 0 + (kpC nr 0) ≤ kpC nr 0; omega, by show 0 + (kpS nr 0) ≤ kpS nr 0; omega⟩) hS (fun M1 H locs hR hHs hM hS => ?_)
  obtain ⟨ro_11, nr_11, rw_11, g1_11, ⟨hmo_11, hro_11, hno_11, hfi_11, hse_11, ht3_11, hle_11, hap_11⟩, hkp_11, hrr_11⟩ := id hR
  exact wr_return hx hb hr hlk hM hS (by omega) (by omega) (MoKept.dn hR (Or.inl rfl)) dX4_begin_14
set_option maxHeartbeats 4000000 in
set_option maxRecDepth 100000 in
theorem met_X4_endCalmly (l : Launch) {D : va_G} {cI cJ : ClassId} {M : MP} {A : Nat → Prop} {sz : Nat} (mo ro no fi se t3 le od th ac oc : Nat) (su : Bool) (nr : Nat) (f g g2 g3 lf rw : Nat → Int32) (hmo : M mo = some (.inr (3, [.int (nI th), .int (bI su), .ref ro, .int (nI ac), .int (nI oc), .ref no, .ref fi, .ref se, .ref t3, .ref le, .ref od]))) (hro : M ro = some (eI cI nr rw)) (hno : M no = some (eI cI 146 f)) (hfi : M fi = some (eI cI 146 g)) (hse : M se = some (eI cI 146 g2)) (ht3 : M t3 = some (eI cI 146 g3)) (hle : M le = some (eI cI 4096 lf)) (hP : WfP f) (hB : WfB f) (hs : WfS f) (hL : WfL lf) (hap : Apart6 ro no fi se t3 le) (hlo : 146 * (ac + 1) ≤ nr) (h3 : 146 ≤ nr) (hnr : nr < 2 ^ 26) (hA_mo : A mo) (hA_ro : A ro) (hA_no : A no) (hA_fi : A fi) (hAn : ∀ q, sz ≤ q → A q) : Wr l yX4_endCalmly cX4_endCalmly 1 none 9 (kpC nr (ac + 1)) (kpS nr (ac + 1)) D cI cJ [.ref mo] M sz A none (fun M' => MoKept cI M M' A mo ro no fi se t3 le od th (ac + 1) su nr rw (mEnd f) g2 g3 lf) := by
  refine wr_start (by decide) (Nat.le_of_ble_eq_true rfl) ?_
  intro p e s m args below meth c hx hb hr hml hown hts hlk hini hK hsz H hH0 hM hS ls hl
  rw [← hsz] at hAn
  clear hH0
  have hl : lv_has ls 1 [(0, .ref mo)] := hl
  have hap0 := hap
  obtain ⟨⟨n_ro_no, n_ro_fi, n_ro_se, n_ro_t3, n_ro_le⟩, ⟨n_no_fi, n_no_se, n_no_t3, n_no_le⟩, ⟨n_fi_se, n_fi_t3, n_fi_le⟩, ⟨n_se_t3, n_se_le⟩, n_t3_le⟩ := hap0
  refine lv_aload_n hx hb dX4_endCalmly_0 rfl (lv_at hl 0 rfl) ?_
  refine w_get (C := RX4) (T := TX4) (N := 11) (ci := 3) hx hb hts hown hK hM inX4 rfl 5 (by decide) qw_4_89 rfl hmo rfl dX4_endCalmly_1 ?_
  refine lv_sipush (v := nI 129) hx hb dX4_endCalmly_4 (by decide) ?_
  refine lv_dup2_11 hx hb dX4_endCalmly_7 rfl rfl ?_
  refine w_iald hx hb hK hM hno 129 (by omega) (by decide) dX4_endCalmly_8 ?_
  refine lv_iconst (v := nI 1) hx hb dX4_endCalmly_9 (by decide) ?_
  refine lv_iadd hx hb dX4_endCalmly_10 ?_
  refine w_iast hx hb hK hM hS hno hA_no 129 (by omega) (by decide) dX4_endCalmly_11 (fun H locs hM hS => ?_)
  refine lv_aload_n hx hb dX4_endCalmly_12 rfl (lv_at hl 0 rfl) ?_
  refine w_get (C := RX4) (T := TX4) (N := 11) (ci := 3) hx hb hts hown hK hM inX4 rfl 5 (by decide) qw_4_89 rfl (mu_g (ne_oi hmo hno) hmo) rfl dX4_endCalmly_13 ?_
  refine lv_sipush (v := nI 128) hx hb dX4_endCalmly_16 (by decide) ?_
  refine lv_bipush (v := nI 8) hx hb dX4_endCalmly_19 (by decide) ?_
  refine lv_aload_n hx hb dX4_endCalmly_21 rfl (lv_at hl 0 rfl) ?_
  refine w_get (C := RX4) (T := TX4) (N := 11) (ci := 3) hx hb hts hown hK hM inX4 rfl 5 (by decide) qw_4_89 rfl (mu_g (ne_oi hmo hno) hmo) rfl dX4_endCalmly_22 ?_
  refine lv_sipush (v := nI 128) hx hb dX4_endCalmly_25 (by decide) ?_
  refine w_iald hx hb hK hM mu_s 128 (by omega) (by decide) dX4_endCalmly_28 ?_
  refine lv_isub hx hb dX4_endCalmly_29 ?_
  refine topi ((nI 8 - (upd f 129 (f 129 + nI 1)) 128)) rfl ?_
  refine w_iast hx hb hK hM hS mu_s hA_no 128 (by omega) (by decide) dX4_endCalmly_30 (fun H locs hM hS => ?_)
  rw [mu_mu] at hM
  replace hM : HM D (mu M no (eI cI 146 (mEnd f))) H := hM
  refine lv_aload_n hx hb dX4_endCalmly_31 rfl (lv_at hl 0 rfl) ?_
  refine lv_dup hx hb dX4_endCalmly_32 rfl ?_
  refine w_get (C := RX4) (T := TX4) (N := 11) (ci := 3) hx hb hts hown hK hM inX4 rfl 3 (by decide) qw_4_87 rfl (mu_g (ne_oi hmo hno) hmo) rfl dX4_endCalmly_33 ?_
  refine lv_iconst (v := nI 1) hx hb dX4_endCalmly_36 (by decide) ?_
  refine ni_add hx hb ac 1 dX4_endCalmly_37 ?_
  refine w_put (C := RX4) (T := TX4) (N := 11) (ci := 3) hx hb hts hown hK hM hS inX4 rfl tyX4 tyX4_ok nmX4 3 (by decide) qw_4_87 rfl rfl (mu_g (ne_oi hmo hno) hmo) hA_mo rfl rfl (Nat.le_of_ble_eq_true rfl) dX4_endCalmly_38 (fun H locs hM hS => ?_)
  replace hM : HM D (mu (mu M no (eI cI 146 (mEnd f))) mo (.inr (3, [.int (nI th), .int (bI su), .ref ro, .int (nI (ac + 1)), .int (nI oc), .ref no, .ref fi, .ref se, .ref t3, .ref le, .ref od]))) H := hM
  refine lv_aload_n hx hb dX4_endCalmly_41 rfl (lv_at hl 0 rfl) ?_
  refine wr_go (wr_runV (As := []) (rest := []) hx hb hml hown hts hK hM okV_RX4_157_X4_keep (met_X4_keep l mo ro no fi se t3 le od th (ac + 1) oc su nr (mEnd f) g g2 g3 lf rw mu_s (mu_g (ne_io hro hmo) (mu_g n_ro_no hro)) (mu_g (ne_io hno hmo) mu_s) (mu_g (ne_io hfi hmo) (mu_g (Ne.symm n_no_fi) hfi)) (mu_g (ne_io hse hmo) (mu_g (Ne.symm n_no_se) hse)) (mu_g (ne_io ht3 hmo) (mu_g (Ne.symm n_no_t3) ht3)) (mu_g (ne_io hle hmo) (mu_g (Ne.symm n_no_le) hle)) (WfR_end ⟨hP, hB, hs⟩).1 (WfR_end ⟨hP, hB, hs⟩).2.1 (WfR_end ⟨hP, hB, hs⟩).2.2 hL hap (by omega) (by omega) (by omega) hA_mo hA_ro hA_no hA_fi (fun q hq => hAn q (Nat.le_trans hS.1 hq))) mu_s rfl rfl rfl ⟨Nat.le_of_ble_eq_true rfl, Nat.le_of_ble_eq_true rfl⟩ hl.1 rfl (Nat.le_of_ble_eq_true rfl) dX4_endCalmly_42 ⟨by show 0 + (kpC nr (ac + 1)) ≤ kpC nr (ac + 1); omega, by show 0 + (kpS nr (ac + 1)) ≤ kpS nr (ac + 1); omega⟩) hS (fun M1 H locs hR hHs hM hS => ?_)
  obtain ⟨ro_42, nr_42, rw_42, g1_42, ⟨hmo_42, hro_42, hno_42, hfi_42, hse_42, ht3_42, hle_42, hap_42⟩, hkp_42, hrr_42⟩ := id hR
  exact wr_return hx hb hr hlk hM hS (by omega) (by omega) (MoKept.dn (MoKept.dn hR (Or.inl rfl)) (Or.inr (Or.inr (Or.inl rfl)))) dX4_endCalmly_45
set_option maxHeartbeats 4000000 in
set_option maxRecDepth 100000 in
theorem met_X4_thrown (l : Launch) {D : va_G} {cI cJ : ClassId} {M : MP} (mo ro no fi se t3 le od th ac oc : Nat) (su : Bool) (hmo : M mo = some (.inr (3, [.int (nI th), .int (bI su), .ref ro, .int (nI ac), .int (nI oc), .ref no, .ref fi, .ref se, .ref t3, .ref le, .ref od]))) : RdI l yX4_thrown cX4_thrown 1 (some .int) 0 D cI cJ [.ref mo] M (nI th) := by
  refine rd_start (by decide) (Nat.le_of_ble_eq_true rfl) ?_
  intro p e s m args below meth c hx hb hr hml hown hts hlk hK hM ls hl
  have hl : lv_has ls 1 [(0, .ref mo)] := hl
  refine lv_aload_n hx hb dX4_thrown_0 rfl (lv_at hl 0 rfl) ?_
  refine w_get (C := RX4) (T := TX4) (N := 11) (ci := 3) hx hb hts hown hK hM inX4 rfl 0 (by decide) qw_4_84 rfl hmo rfl dX4_thrown_1 ?_
  exact rd_ireturn hx hb hr hlk rfl dX4_thrown_4
