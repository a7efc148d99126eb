theorem okS_RX1_19_J7_fill_53178 : okS RX1 19 yJ7_fill_53178 cJ7_fill_53178 4 none 2 := okS_of qw_1_40 qw_1_41 qw_1_4 qw_1_42 (by decide +kernel)
theorem okS_RX1_29_J7_fill_d0a16 : okS RX1 29 yJ7_fill_d0a16 cJ7_fill_d0a16 5 none 2 := okS_of qw_1_123 qw_1_124 qw_1_4 qw_1_125 (by decide +kernel)
theorem okV_RX1_78_X1_part : okV RX1 78 yX1_part cX1_part 3 (some .int) 1 := okV_of qw_2_70 qw_2_71 qw_2_72 qw_1_3 qw_2_73 (by decide +kernel)
theorem okV_RX1_81_X1_lift : okV RX1 81 yX1_lift cX1_lift 5 none 1 := okV_of qw_2_74 qw_2_75 qw_2_76 qw_1_3 qw_2_77 (by decide +kernel)
theorem okV_RX1_85_X1_put : okV RX1 85 yX1_put cX1_put 4 none 3 := okV_of qw_2_78 qw_1_92 qw_1_93 qw_1_3 qw_1_94 (by decide +kernel)
theorem okV_RX1_89_X1_join : okV RX1 89 yX1_join cX1_join 3 none 2 := okV_of qw_2_79 qw_1_99 qw_1_100 qw_1_3 qw_1_101 (by decide +kernel)
set_option maxHeartbeats 4000000 in
set_option maxRecDepth 100000 in
theorem met_J7_fill_53178 (l : Launch) {D : va_G} {cI cJ : ClassId} {M : MP} {A : Nat → Prop} {sz : Nat} (ar na : Nat) (v : Int32) (f : Nat → Int32) (har : M ar = some (eI cI na f)) (hna : na < 2 ^ 31) (hA_ar : A ar) : Wr l yJ7_fill_53178 cJ7_fill_53178 4 none 0 0 0 D cI cJ [.ref ar, .int v] M sz A none (fun M' => M' = mu M ar (eI cI na (fillN f v na))) := by
  refine wr_start (by decide) (Nat.le_of_ble_eq_true rfl) ?_
  intro p e s m args below meth c hx hb hr hml hown hts hlk hini hK hsz H hH0 hM hS ls hl
  clear hH0
  have hl : lv_has ls 4 [(0, .ref ar), (1, .int v)] := hl
  refine lv_iconst (v := nI 0) hx hb dJ7_fill_53178_0 (by decide) ?_
  refine lv_istore_n (lv' := [(2, .int (nI 0)), (0, .ref ar), (1, .int v)]) hx hb dJ7_fill_53178_1 rfl hl (by decide) rfl (fun ls hl => ?_)
  refine lv_aload_n hx hb dJ7_fill_53178_2 rfl (lv_at hl 1 rfl) ?_
  refine w_alen hx hb hK hM har dJ7_fill_53178_3 ?_
  refine lv_istore_n (lv' := [(3, .int (nI na)), (2, .int (nI 0)), (0, .ref ar), (1, .int v)]) hx hb dJ7_fill_53178_4 rfl hl (by decide) rfl (fun ls hl => ?_)
  rw [← mu_id (a := ar) (e := eI cI na f) har] at hM
  rw [← fillN_0 f v] at hM
  refine loopW (pcH := 5) (st := []) (ι := Nat) (fun ξ => mu M ar (eI cI na (fillN f v (ξ)))) (fun ξ => [(3, .int (nI na)), (2, .int (nI (ξ))), (0, .ref ar), (1, .int v)]) (fun n ξ => (ξ) + n = na) ?_ ?_ na 0 (by omega) hM hS ls (lv_sub hl [0,1,2,3] rfl)
  · rintro i hin H locs hM hS ls hl
    try dsimp only at hl hin hM
    refine lv_iload_n hx hb dJ7_fill_53178_5 rfl (lv_at hl 1 rfl) ?_
    refine lv_iload_n hx hb dJ7_fill_53178_6 rfl (lv_at hl 0 rfl) ?_
    refine ni_ge (tgt := 20) hx hb i na (by omega) (by omega) dJ7_fill_53178_7 (by decide) (fun c_7 => ?_) (fun c_7 => ?_)
    · skip
      exact wr_return hx hb hr hlk hM hS (Nat.le_refl _) (Nat.le_refl _) (by rw [show fillN f v na = fillN f v i from (by rw [show i = na by omega])]) dJ7_fill_53178_20
    · skip
      exfalso; omega
  · rintro n ih i hin H locs hM hS ls hl
    try dsimp only at hl hin hM
    refine lv_iload_n hx hb dJ7_fill_53178_5 rfl (lv_at hl 1 rfl) ?_
    refine lv_iload_n hx hb dJ7_fill_53178_6 rfl (lv_at hl 0 rfl) ?_
    refine ni_ge (tgt := 20) hx hb i na (by omega) (by omega) dJ7_fill_53178_7 (by decide) (fun c_7 => ?_) (fun c_7 => ?_)
    · skip
      exfalso; omega
    · skip
      refine lv_aload_n hx hb dJ7_fill_53178_10 rfl (lv_at hl 2 rfl) ?_
      refine lv_iload_n hx hb dJ7_fill_53178_11 rfl (lv_at hl 1 rfl) ?_
      refine lv_iload_n hx hb dJ7_fill_53178_12 rfl (lv_at hl 3 rfl) ?_
      refine w_iast hx hb hK hM hS mu_s hA_ar i (by omega) (by omega) dJ7_fill_53178_13 (fun H locs hM hS => ?_)
      rw [mu_mu] at hM
      refine ni_iinc (lv' := [(2, .int (nI (i + 1))), (3, .int (nI na)), (0, .ref ar), (1, .int v)]) hx hb i 1 dJ7_fill_53178_14 hl (k := 1) rfl (by decide) (by decide) rfl (fun ls hl => ?_)
      refine lv_goto (tgt := 5) hx hb dJ7_fill_53178_17 (by decide) ?_
      rw [fillN_s] at hM
      exact ih (i + 1) (by omega) _ _ hM hS ls (lv_sub hl [1,0,2,3] rfl)
set_option maxHeartbeats 4000000 in
set_option maxRecDepth 100000 in
theorem met_J7_fill_d0a16 (l : Launch) {D : va_G} {cI cJ : ClassId} {M : MP} {A : Nat → Prop} {sz : Nat} (ar na : Nat) (v : BitVec 64) (f : Nat → BitVec 64) (har : M ar = some (eJ cJ na (fun ζ => bL (f ζ)))) (hna : na < 2 ^ 31) (hA_ar : A ar) : Wr l yJ7_fill_d0a16 cJ7_fill_d0a16 5 none 0 0 0 D cI cJ [.ref ar, .long (bL v)] M sz A none (fun M' => M' = mu M ar (eJ cJ na (fun ζ => bL ((fillS f v na) ζ)))) := by
  refine wr_start (by decide) (Nat.le_of_ble_eq_true rfl) ?_
  intro p e s m args below meth c hx hb hr hml hown hts hlk hini hK hsz H hH0 hM hS ls hl
  clear hH0
  have hl : lv_has ls 5 [(0, .ref ar), (1, .long (bL v))] := hl
  refine lv_iconst (v := nI 0) hx hb dJ7_fill_d0a16_0 (by decide) ?_
  refine lv_istore_n (lv' := [(3, .int (nI 0)), (0, .ref ar), (1, .long (bL v))]) hx hb dJ7_fill_d0a16_1 rfl hl (by decide) rfl (fun ls hl => ?_)
  refine lv_aload_n hx hb dJ7_fill_d0a16_2 rfl (lv_at hl 1 rfl) ?_
  refine w_alenJ hx hb hK hM har dJ7_fill_d0a16_3 ?_
  refine lv_istore (lv' := [(4, .int (nI na)), (3, .int (nI 0)), (0, .ref ar), (1, .long (bL v))]) hx hb dJ7_fill_d0a16_4 hl (by decide) rfl (fun ls hl => ?_)
  rw [← mu_id (a := ar) (e := eJ cJ na (fun ζ => bL (f ζ))) har] at hM
  rw [← fillS_0 f v] at hM
  refine loopW (pcH := 6) (st := []) (ι := Nat) (fun ξ => mu M ar (eJ cJ na (fun ζ => bL ((fillS f v (ξ)) ζ)))) (fun ξ => [(4, .int (nI na)), (3, .int (nI (ξ))), (0, .ref ar), (1, .long (bL v))]) (fun n ξ => (ξ) + n = na) ?_ ?_ na 0 (by omega) hM hS ls (lv_sub hl [0,1,2,3] rfl)
  · rintro i hin H locs hM hS ls hl
    try dsimp only at hl hin hM
    refine lv_iload_n hx hb dJ7_fill_d0a16_6 rfl (lv_at hl 1 rfl) ?_
    refine lv_iload hx hb dJ7_fill_d0a16_7 (lv_at hl 0 rfl) ?_
    refine ni_ge (tgt := 22) hx hb i na (by omega) (by omega) dJ7_fill_d0a16_9 (by decide) (fun c_9 => ?_) (fun c_9 => ?_)
    · skip
      exact wr_return hx hb hr hlk hM hS (Nat.le_refl _) (Nat.le_refl _) (by rw [show fillS f v na = fillS f v i from (by rw [show i = na by omega])]) dJ7_fill_d0a16_22
    · skip
      exfalso; omega
  · rintro n ih i hin H locs hM hS ls hl
    try dsimp only at hl hin hM
    refine lv_iload_n hx hb dJ7_fill_d0a16_6 rfl (lv_at hl 1 rfl) ?_
    refine lv_iload hx hb dJ7_fill_d0a16_7 (lv_at hl 0 rfl) ?_
    refine ni_ge (tgt := 22) hx hb i na (by omega) (by omega) dJ7_fill_d0a16_9 (by decide) (fun c_9 => ?_) (fun c_9 => ?_)
    · skip
      exfalso; omega
    · skip
      refine lv_aload_n hx hb dJ7_fill_d0a16_12 rfl (lv_at hl 2 rfl) ?_
      refine lv_iload_n hx hb dJ7_fill_d0a16_13 rfl (lv_at hl 1 rfl) ?_
      refine lv_lload_n hx hb dJ7_fill_d0a16_14 rfl (lv_at hl 3 rfl) ?_
      refine w_last (f := fillS f v i) hx hb hK hM hS mu_s hA_ar i (by omega) (by omega) dJ7_fill_d0a16_15 (fun H locs hM hS => ?_)
      rw [mu_mu] at hM
      refine ni_iinc (lv' := [(3, .int (nI (i + 1))), (4, .int (nI na)), (0, .ref ar), (1, .long (bL v))]) hx hb i 1 dJ7_fill_d0a16_16 hl (k := 1) rfl (by decide) (by decide) rfl (fun ls hl => ?_)
      refine lv_goto (tgt := 6) hx hb dJ7_fill_d0a16_19 (by decide) ?_
      rw [fillS_s] at hM
      exact ih (i + 1) (by omega) _ _ hM hS ls (lv_sub hl [1,0,2,3] rfl)
set_option maxHeartbeats 4000000 in
set_option maxRecDepth 100000 in
theorem met_X1_put (l : Launch) {D : va_G} {cI cJ : ClassId} {M : MP} {A : Nat → Prop} {sz : Nat} (po okk pt : Nat) (K : Nat → BitVec 64)  (w bk : BitVec 64) (wa : Bool) (j k : Nat) (b : Bool) (hpo : M po = some (.inr (1, [.ref okk, .ref pt, .long (bL w), .long (bL bk), .int (bI wa)]))) (hokk : M okk = some (eJ cJ 7 (fun ζ => bL (K ζ)))) (hj : j < 64) (hk1 : 1 ≤ k) (hk7 : k < 7) (hA_po : A po) (hA_okk : A okk) : Wr l yX1_put cX1_put 4 none 1 0 0 D cI cJ [.ref po, .int (nI j), .int (nI k), .int (bI b)] M sz A none (fun M' => M' = mu (mu M po (.inr (1, [.ref okk, .ref pt, .long (bL (kPtW w j b)), .long (bL (kPtW bk j (!b))), .int (bI wa)]))) okk (eJ cJ 7 (fun ζ => bL ((kPut K k j) ζ)))) := by
  refine wr_start (by decide) (Nat.le_of_ble_eq_true rfl) ?_
  intro p e s m args below meth c hx hb hr hml hown hts hlk hini hK hsz H hH0 hM hS ls hl
  clear hH0
  have hl : lv_has ls 4 [(0, .ref po), (1, .int (nI j)), (2, .int (nI k)), (3, .int (bI b))] := hl
  refine lv_iload_n hx hb dX1_put_0 rfl (lv_at hl 2 rfl) ?_
  refine lv_iconst (v := nI 1) hx hb dX1_put_1 (by decide) ?_
  refine ni_lt (tgt := 11) hx hb k 1 (by omega) (by omega) dX1_put_2 (by decide) (fun c_2 => ?_) (fun c_2 => ?_)
  · skip
    exfalso; omega
  · skip
    refine lv_iload_n hx hb dX1_put_5 rfl (lv_at hl 2 rfl) ?_
    refine lv_bipush (v := nI 7) hx hb dX1_put_6 (by decide) ?_
    refine ni_lt (tgt := 12) hx hb k 7 (by omega) (by omega) dX1_put_8 (by decide) (fun c_8 => ?_) (fun c_8 => ?_)
    · skip
      refine lv_aload_n hx hb dX1_put_12 rfl (lv_at hl 0 rfl) ?_
      refine w_get (C := RX1) (T := TX1) (N := 5) (ci := 1) hx hb hts hown hK hM inX1 rfl 0 (by decide) qw_1_43 rfl hpo rfl dX1_put_13 ?_
      refine lv_iload_n hx hb dX1_put_16 rfl (lv_at hl 2 rfl) ?_
      refine lv_dup2_11 hx hb dX1_put_17 rfl rfl ?_
      refine w_lald hx hb hK hM hokk k (by omega) (by decide) dX1_put_18 ?_
      refine lv_iload_n hx hb dX1_put_19 rfl (lv_at hl 1 rfl) ?_
      refine rd_goL (rd_runN (As := [.int (nI j)]) (rest := [.long (bL (K k)), .int (nI k), .ref okk]) hx hb hml hown hts hK hM hK.2.1 okN_X3_bit (met_X3_bit l j (by omega)) rfl ⟨Nat.le_of_ble_eq_true rfl, Nat.le_of_ble_eq_true rfl⟩ hl.1 rfl (Nat.le_of_ble_eq_true rfl) dX1_put_20 ⟨Nat.le_refl _, Nat.le_refl _⟩) ?_
      refine lb_or hx hb dX1_put_23 ?_
      refine w_last (f := K) hx hb hK hM hS hokk hA_okk k (by omega) (by decide) dX1_put_24 (fun H locs hM hS => ?_)
      refine lv_iload_n hx hb dX1_put_25 rfl (lv_at hl 3 rfl) ?_
      refine zb_eq (tgt := 45) hx hb b dX1_put_26 (by decide) (fun c_26 => ?_) (fun c_26 => ?_)
      · skip
        refine lv_aload_n hx hb dX1_put_45 rfl (lv_at hl 0 rfl) ?_
        refine lv_dup hx hb dX1_put_46 rfl ?_
        refine w_get (C := RX1) (T := TX1) (N := 5) (ci := 1) hx hb hts hown hK hM inX1 rfl 3 (by decide) qw_1_46 rfl (mu_g (ne_oi hpo hokk) hpo) rfl dX1_put_47 ?_
        refine lv_iload_n hx hb dX1_put_50 rfl (lv_at hl 1 rfl) ?_
        refine rd_goL (rd_runN (As := [.int (nI j)]) (rest := [.long (bL bk), .ref po]) hx hb hml hown hts hK hM hK.2.1 okN_X3_bit (met_X3_bit l j (by omega)) rfl ⟨Nat.le_of_ble_eq_true rfl, Nat.le_of_ble_eq_true rfl⟩ hl.1 rfl (Nat.le_of_ble_eq_true rfl) dX1_put_51 ⟨Nat.le_refl _, Nat.le_refl _⟩) ?_
        refine lb_or hx hb dX1_put_54 ?_
        refine w_put (C := RX1) (T := TX1) (N := 5) (ci := 1) hx hb hts hown hK hM hS inX1 rfl tyX1 tyX1_ok nmX1 3 (by decide) qw_1_46 rfl rfl (mu_g (ne_oi hpo hokk) hpo) hA_po rfl rfl (Nat.le_of_ble_eq_true rfl) dX1_put_55 (fun H locs hM hS => ?_)
        replace hM : HM D (mu (mu M okk (eJ cJ 7 (fun ζ => bL ((va_up K k ((K k) ||| (kB j))) ζ)))) po (.inr (1, [.ref okk, .ref pt, .long (bL w), .long (bL (bk ||| (kB j))), .int (bI wa)]))) H := hM
        rw [mu_comm (ne_io hokk hpo) (e := eJ cJ 7 (fun ζ => bL ((va_up K k ((K k) ||| (kB j))) ζ))) (e' := .inr (1, [.ref okk, .ref pt, .long (bL w), .long (bL (bk ||| (kB j))), .int (bI wa)]))] at hM
        exact wr_return hx hb hr hlk hM hS (Nat.le_refl _) (Nat.le_refl _) (by rw [show bL (kPtW w j b) = bL w from (by simp [kPtW, c_2, Nat.not_lt.mpr c_2, c_8, Nat.not_le.mpr c_8, Nat.le_of_lt c_8, c_26]), show bL (kPtW bk j (!b)) = bL (bk ||| (kB j)) from (by simp [kPtW, c_2, Nat.not_lt.mpr c_2, c_8, Nat.not_le.mpr c_8, Nat.le_of_lt c_8, c_26]), show kPut K k j = va_up K k ((K k) ||| (kB j)) from rfl]) dX1_put_58
      · skip
        refine lv_aload_n hx hb dX1_put_29 rfl (lv_at hl 0 rfl) ?_
        refine lv_dup hx hb dX1_put_30 rfl ?_
        refine w_get (C := RX1) (T := TX1) (N := 5) (ci := 1) hx hb hts hown hK hM inX1 rfl 2 (by decide) qw_1_45 rfl (mu_g (ne_oi hpo hokk) hpo) rfl dX1_put_31 ?_
        refine lv_iload_n hx hb dX1_put_34 rfl (lv_at hl 1 rfl) ?_
        refine rd_goL (rd_runN (As := [.int (nI j)]) (rest := [.long (bL w), .ref po]) hx hb hml hown hts hK hM hK.2.1 okN_X3_bit (met_X3_bit l j (by omega)) rfl ⟨Nat.le_of_ble_eq_true rfl, Nat.le_of_ble_eq_true rfl⟩ hl.1 rfl (Nat.le_of_ble_eq_true rfl) dX1_put_35 ⟨Nat.le_refl _, Nat.le_refl _⟩) ?_
        refine lb_or hx hb dX1_put_38 ?_
        refine w_put (C := RX1) (T := TX1) (N := 5) (ci := 1) hx hb hts hown hK hM hS inX1 rfl tyX1 tyX1_ok nmX1 2 (by decide) qw_1_45 rfl rfl (mu_g (ne_oi hpo hokk) hpo) hA_po rfl rfl (Nat.le_of_ble_eq_true rfl) dX1_put_39 (fun H locs hM hS => ?_)
        replace hM : HM D (mu (mu M okk (eJ cJ 7 (fun ζ => bL ((va_up K k ((K k) ||| (kB j))) ζ)))) po (.inr (1, [.ref okk, .ref pt, .long (bL (w ||| (kB j))), .long (bL bk), .int (bI wa)]))) H := hM
        refine lv_goto (tgt := 58) hx hb dX1_put_42 (by decide) ?_
        rw [mu_comm (ne_io hokk hpo) (e := eJ cJ 7 (fun ζ => bL ((va_up K k ((K k) ||| (kB j))) ζ))) (e' := .inr (1, [.ref okk, .ref pt, .long (bL (w ||| (kB j))), .long (bL bk), .int (bI wa)]))] at hM
        exact wr_return hx hb hr hlk hM hS (Nat.le_refl _) (Nat.le_refl _) (by rw [show bL (kPtW w j b) = bL (w ||| (kB j)) from (by simp [kPtW, c_2, Nat.not_lt.mpr c_2, c_8, Nat.not_le.mpr c_8, Nat.le_of_lt c_8, c_26]), show bL (kPtW bk j (!b)) = bL bk from (by simp [kPtW, c_2, Nat.not_lt.mpr c_2, c_8, Nat.not_le.mpr c_8, Nat.le_of_lt c_8, c_26]), show kPut K k j = va_up K k ((K k) ||| (kB j)) from rfl]) dX1_put_58
    · skip
      exfalso; omega
set_option maxHeartbeats 4000000 in
set_option maxRecDepth 100000 in
theorem met_X1_lift (l : Launch) {D : va_G} {cI cJ : ClassId} {M : MP} {A : Nat → Prop} {sz : Nat} (po okk pt : Nat) (K : Nat → BitVec 64)  (w bk : BitVec 64) (wa : Bool) (j : Nat) (hpo : M po = some (.inr (1, [.ref okk, .ref pt, .long (bL w), .long (bL bk), .int (bI wa)]))) (hokk : M okk = some (eJ cJ 7 (fun ζ => bL (K ζ)))) (hj : j < 64) (hA_po : A po) (hA_okk : A okk) : Wr l yX1_lift cX1_lift 5 none 1 0 0 D cI cJ [.ref po, .int (nI j)] M sz A none (fun M' => M' = mu (mu M po (.inr (1, [.ref okk, .ref pt, .long (bL (w &&& kNot (kB j))), .long (bL (bk &&& kNot (kB j))), .int (bI wa)]))) okk (eJ cJ 7 (fun ζ => bL ((kLift K j) ζ)))) := by
  refine wr_start (by decide) (Nat.le_of_ble_eq_true rfl) ?_
  intro p e s m args below meth c hx hb hr hml hown hts hlk hini hK hsz H hH0 hM hS ls hl
  clear hH0
  have hl : lv_has ls 5 [(0, .ref po), (1, .int (nI j))] := hl
  refine lv_iload_n hx hb dX1_lift_0 rfl (lv_at hl 1 rfl) ?_
  refine rd_goL (rd_runN (As := [.int (nI j)]) (rest := []) hx hb hml hown hts hK hM hK.2.1 okN_X3_bit (met_X3_bit l j (by omega)) rfl ⟨Nat.le_of_ble_eq_true rfl, Nat.le_of_ble_eq_true rfl⟩ hl.1 rfl (Nat.le_of_ble_eq_true rfl) dX1_lift_1 ⟨Nat.le_refl _, Nat.le_refl _⟩) ?_
  refine lv_ldc2 (v := bL 18446744073709551615#64) hx hb hown (hts _ qw_2_34) dX1_lift_4 ?_
  refine lb_xor hx hb dX1_lift_7 ?_
  refine lv_lstore_n (lv' := [(2, .long (bL ((kB j) ^^^ (18446744073709551615#64)))), (0, .ref po), (1, .int (nI j))]) hx hb dX1_lift_8 rfl hl (by decide) rfl (fun ls hl => ?_)
  refine lv_iconst (v := nI 1) hx hb dX1_lift_9 (by decide) ?_
  refine lv_istore (lv' := [(4, .int (nI 1)), (2, .long (bL ((kB j) ^^^ (18446744073709551615#64)))), (0, .ref po), (1, .int (nI j))]) hx hb dX1_lift_10 hl (by decide) rfl (fun ls hl => ?_)
  rw [← mu_id (a := okk) (e := eJ cJ 7 (fun ζ => bL (K ζ))) hokk] at hM
  rw [← kLiftN_1 K j] at hM
  refine loopW (pcH := 12) (st := []) (ι := Nat) (fun ξ => mu M okk (eJ cJ 7 (fun ζ => bL ((kLiftN K j (ξ)) ζ)))) (fun ξ => [(4, .int (nI (ξ))), (2, .long (bL ((kB j) ^^^ (18446744073709551615#64)))), (0, .ref po), (1, .int (nI j))]) (fun n ξ => (ξ) + n = 7 ∧ 1 ≤ (ξ)) ?_ ?_ 6 1 ⟨by omega, by omega⟩ hM hS ls (lv_sub hl [0,1,2,3] rfl)
  · rintro i ⟨hin, hi1⟩ H locs hM hS ls hl
    try dsimp only at hl hin hi1 hM
    refine lv_iload hx hb dX1_lift_12 (lv_at hl 0 rfl) ?_
    refine lv_bipush (v := nI 7) hx hb dX1_lift_14 (by decide) ?_
    refine ni_ge (tgt := 36) hx hb i 7 (by omega) (by omega) dX1_lift_16 (by decide) (fun c_16 => ?_) (fun c_16 => ?_)
    · skip
      refine lv_aload_n hx hb dX1_lift_36 rfl (lv_at hl 2 rfl) ?_
      refine lv_dup hx hb dX1_lift_37 rfl ?_
      refine w_get (C := RX1) (T := TX1) (N := 5) (ci := 1) hx hb hts hown hK hM inX1 rfl 2 (by decide) qw_1_45 rfl (mu_g (ne_oi hpo hokk) hpo) rfl dX1_lift_38 ?_
      refine lv_lload_n hx hb dX1_lift_41 rfl (lv_at hl 1 rfl) ?_
      refine lb_and hx hb dX1_lift_42 ?_
      refine w_put (C := RX1) (T := TX1) (N := 5) (ci := 1) hx hb hts hown hK hM hS inX1 rfl tyX1 tyX1_ok nmX1 2 (by decide) qw_1_45 rfl rfl (mu_g (ne_oi hpo hokk) hpo) hA_po rfl rfl (Nat.le_of_ble_eq_true rfl) dX1_lift_43 (fun H locs hM hS => ?_)
      replace hM : HM D (mu (mu M okk (eJ cJ 7 (fun ζ => bL ((kLiftN K j i) ζ)))) po (.inr (1, [.ref okk, .ref pt, .long (bL (w &&& ((kB j) ^^^ (18446744073709551615#64)))), .long (bL bk), .int (bI wa)]))) H := hM
      refine lv_aload_n hx hb dX1_lift_46 rfl (lv_at hl 2 rfl) ?_
      refine lv_dup hx hb dX1_lift_47 rfl ?_
      refine w_get (C := RX1) (T := TX1) (N := 5) (ci := 1) hx hb hts hown hK hM inX1 rfl 3 (by decide) qw_1_46 rfl mu_s rfl dX1_lift_48 ?_
      refine lv_lload_n hx hb dX1_lift_51 rfl (lv_at hl 1 rfl) ?_
      refine lb_and hx hb dX1_lift_52 ?_
      refine w_put (C := RX1) (T := TX1) (N := 5) (ci := 1) hx hb hts hown hK hM hS inX1 rfl tyX1 tyX1_ok nmX1 3 (by decide) qw_1_46 rfl rfl mu_s hA_po rfl rfl (Nat.le_of_ble_eq_true rfl) dX1_lift_53 (fun H locs hM hS => ?_)
      rw [mu_mu] at hM
      replace hM : HM D (mu (mu M okk (eJ cJ 7 (fun ζ => bL ((kLiftN K j i) ζ)))) po (.inr (1, [.ref okk, .ref pt, .long (bL (w &&& ((kB j) ^^^ (18446744073709551615#64)))), .long (bL (bk &&& ((kB j) ^^^ (18446744073709551615#64)))), .int (bI wa)]))) H := hM
      rw [mu_comm (ne_io hokk hpo) (e := eJ cJ 7 (fun ζ => bL ((kLiftN K j i) ζ))) (e' := .inr (1, [.ref okk, .ref pt, .long (bL (w &&& ((kB j) ^^^ (18446744073709551615#64)))), .long (bL (bk &&& ((kB j) ^^^ (18446744073709551615#64)))), .int (bI wa)]))] at hM
      exact wr_return hx hb hr hlk hM hS (Nat.le_refl _) (Nat.le_refl _) (by rw [show bL (w &&& kNot (kB j)) = bL (w &&& ((kB j) ^^^ (18446744073709551615#64))) from rfl, show bL (bk &&& kNot (kB j)) = bL (bk &&& ((kB j) ^^^ (18446744073709551615#64))) from rfl, show kLift K j = kLiftN K j i from (by rw [show i = 7 by omega]; rfl)]) dX1_lift_56
    · skip
      exfalso; omega
  · rintro n ih i ⟨hin, hi1⟩ H locs hM hS ls hl
    try dsimp only at hl hin hi1 hM
    refine lv_iload hx hb dX1_lift_12 (lv_at hl 0 rfl) ?_
    refine lv_bipush (v := nI 7) hx hb dX1_lift_14 (by decide) ?_
    refine ni_ge (tgt := 36) hx hb i 7 (by omega) (by omega) dX1_lift_16 (by decide) (fun c_16 => ?_) (fun c_16 => ?_)
    · skip
      exfalso; omega
    · skip
      refine lv_aload_n hx hb dX1_lift_19 rfl (lv_at hl 2 rfl) ?_
      refine w_get (C := RX1) (T := TX1) (N := 5) (ci := 1) hx hb hts hown hK hM inX1 rfl 0 (by decide) qw_1_43 rfl (mu_g (ne_oi hpo hokk) hpo) rfl dX1_lift_20 ?_
      refine lv_iload hx hb dX1_lift_23 (lv_at hl 0 rfl) ?_
      refine lv_dup2_11 hx hb dX1_lift_25 rfl rfl ?_
      refine w_lald hx hb hK hM mu_s i (by omega) (by decide) dX1_lift_26 ?_
      refine lv_lload_n hx hb dX1_lift_27 rfl (lv_at hl 1 rfl) ?_
      refine lb_and hx hb dX1_lift_28 ?_
      refine w_last (f := kLiftN K j i) hx hb hK hM hS mu_s hA_okk i (by omega) (by decide) dX1_lift_29 (fun H locs hM hS => ?_)
      rw [mu_mu] at hM
      refine ni_iinc (lv' := [(4, .int (nI (i + 1))), (2, .long (bL ((kB j) ^^^ (18446744073709551615#64)))), (0, .ref po), (1, .int (nI j))]) hx hb i 1 dX1_lift_30 hl (k := 0) rfl (by decide) (by decide) rfl (fun ls hl => ?_)
      refine lv_goto (tgt := 12) hx hb dX1_lift_33 (by decide) ?_
      rw [show va_up (kLiftN K j i) i (((kLiftN K j i) i) &&& ((kB j) ^^^ (18446744073709551615#64))) = kLiftN K j (i + 1) from kLiftN_s K j i hi1] at hM
      exact ih (i + 1) ⟨by omega, by omega⟩ _ _ hM hS ls (lv_sub hl [0,1,2,3] rfl)
set_option maxHeartbeats 4000000 in
set_option maxRecDepth 100000 in
theorem met_X1_join (l : Launch) {D : va_G} {cI cJ : ClassId} {M : MP} {A : Nat → Prop} {sz : Nat} (po okk pt : Nat)  (pp : Nat → Int32) (w bk : BitVec 64) (wa : Bool) (a b : Nat) (hpo : M po = some (.inr (1, [.ref okk, .ref pt, .long (bL w), .long (bL bk), .int (bI wa)]))) (hpt : M pt = some (eI cI 64 pp)) (ha : a < 64) (hb2 : b < 64) (hA_pt : A pt) : Wr l yX1_join cX1_join 3 none 0 0 0 D cI cJ [.ref po, .int (nI a), .int (nI b)] M sz A none (fun M' => M' = mu M pt (eI cI 64 (kJoin pp a b))) := by
  refine wr_start (by decide) (Nat.le_of_ble_eq_true rfl) ?_
  intro p e s m args below meth c hx hb hr hml hown hts hlk hini hK hsz H hH0 hM hS ls hl
  clear hH0
  have hl : lv_has ls 3 [(0, .ref po), (1, .int (nI a)), (2, .int (nI b))] := hl
  refine lv_iload_n hx hb dX1_join_0 rfl (lv_at hl 1 rfl) ?_
  refine n0_lt (tgt := 34) hx hb a (by omega) dX1_join_1 (by decide) ?_
  refine lv_iload_n hx hb dX1_join_4 rfl (lv_at hl 1 rfl) ?_
  refine lv_bipush (v := nI 64) hx hb dX1_join_5 (by decide) ?_
  refine ni_ge (tgt := 34) hx hb a 64 (by omega) (by omega) dX1_join_7 (by decide) (fun c_7 => ?_) (fun c_7 => ?_)
  · skip
    exfalso; omega
  · skip
    refine lv_iload_n hx hb dX1_join_10 rfl (lv_at hl 2 rfl) ?_
    refine n0_lt (tgt := 34) hx hb b (by omega) dX1_join_11 (by decide) ?_
    refine lv_iload_n hx hb dX1_join_14 rfl (lv_at hl 2 rfl) ?_
    refine lv_bipush (v := nI 64) hx hb dX1_join_15 (by decide) ?_
    refine ni_ge (tgt := 34) hx hb b 64 (by omega) (by omega) dX1_join_17 (by decide) (fun c_17 => ?_) (fun c_17 => ?_)
    · skip
      exfalso; omega
    · skip
      refine lv_aload_n hx hb dX1_join_20 rfl (lv_at hl 0 rfl) ?_
      refine w_get (C := RX1) (T := TX1) (N := 5) (ci := 1) hx hb hts hown hK hM inX1 rfl 1 (by decide) qw_1_44 rfl hpo rfl dX1_join_21 ?_
      refine lv_iload_n hx hb dX1_join_24 rfl (lv_at hl 1 rfl) ?_
      refine lv_iload_n hx hb dX1_join_25 rfl (lv_at hl 2 rfl) ?_
      refine w_iast hx hb hK hM hS hpt hA_pt a (by omega) (by decide) dX1_join_26 (fun H locs hM hS => ?_)
      refine lv_aload_n hx hb dX1_join_27 rfl (lv_at hl 0 rfl) ?_
      refine w_get (C := RX1) (T := TX1) (N := 5) (ci := 1) hx hb hts hown hK hM inX1 rfl 1 (by decide) qw_1_44 rfl (mu_g (ne_oi hpo hpt) hpo) rfl dX1_join_28 ?_
      refine lv_iload_n hx hb dX1_join_31 rfl (lv_at hl 2 rfl) ?_
      refine lv_iload_n hx hb dX1_join_32 rfl (lv_at hl 1 rfl) ?_
      refine w_iast hx hb hK hM hS mu_s hA_pt b (by omega) (by decide) dX1_join_33 (fun H locs hM hS => ?_)
      rw [mu_mu] at hM
      exact wr_return hx hb hr hlk hM hS (Nat.le_refl _) (Nat.le_refl _) (by rw [show kJoin pp a b = upd (upd pp a (nI b)) b (nI a) from rfl]) dX1_join_34
set_option maxHeartbeats 4000000 in
set_option maxRecDepth 100000 in
theorem met_X1_part (l : Launch) {D : va_G} {cI cJ : ClassId} {M : MP} {A : Nat → Prop} {sz : Nat} (po okk pt : Nat)  (pp : Nat → Int32) (w bk : BitVec 64) (wa : Bool) (j : Nat) (hpo : M po = some (.inr (1, [.ref okk, .ref pt, .long (bL w), .long (bL bk), .int (bI wa)]))) (hpt : M pt = some (eI cI 64 pp)) (hj : j < 64) (hW : WfPt pp) (hA_pt : A pt) : Wr l yX1_part cX1_part 3 (some .int) 1 0 0 D cI cJ [.ref po, .int (nI j)] M sz A (some (.int (pp j))) (fun M' => M' = mu M pt (eI cI 64 (kPart pp j))) := by
  refine wr_start (by decide) (Nat.le_of_ble_eq_true rfl) ?_
  intro p e s m args below meth c hx hb hr hml hown hts hlk hini hK hsz H hH0 hM hS ls hl
  clear hH0
  have hl : lv_has ls 3 [(0, .ref po), (1, .int (nI j))] := hl
  refine lv_aload_n hx hb dX1_part_0 rfl (lv_at hl 0 rfl) ?_
  refine lv_iload_n hx hb dX1_part_1 rfl (lv_at hl 1 rfl) ?_
  refine rd_goI (rd_runV (As := [.int (nI j)]) (rest := []) hx hb hml hown hts hK hM okV_RX1_71_X1_partnerOf (met_X1_partnerOf l po okk pt pp w bk wa j hpo hpt (by omega)) hpo rfl rfl rfl ⟨Nat.le_of_ble_eq_true rfl, Nat.le_of_ble_eq_true rfl⟩ hl.1 rfl (Nat.le_of_ble_eq_true rfl) dX1_part_2 ⟨Nat.le_refl _, Nat.le_refl _⟩) ?_
  rcases hW j (by omega) with eo | ⟨o, ho, eo⟩
  · refine topi (-1) eo ?_
    refine lv_istore_n (lv' := [(2, .int (-1)), (0, .ref po), (1, .int (nI j))]) hx hb dX1_part_5 rfl hl (by decide) rfl (fun ls hl => ?_)
    refine lv_iload_n hx hb dX1_part_6 rfl (lv_at hl 0 rfl) ?_
    refine lv_if_lt (tgt := 40) hx hb dX1_part_7 (by decide) (fun _ => ?_) (fun h => absurd (by decide) h)
    refine lv_iload_n hx hb dX1_part_40 rfl (lv_at hl 0 rfl) ?_
    rw [← mu_id (a := pt) (e := eI cI 64 pp) hpt] at hM
    exact wr_ireturn hx hb hr hlk hM hS (Nat.le_refl _) (Nat.le_refl _) (by rw [eo]) (by rw [show kPart pp j = pp from (by simp [kPart, eo])]) dX1_part_41
  · refine topi (nI o) eo ?_
    have hnego := nI_m1 ho
    have hclo := nI_cl ho
    refine lv_istore_n (lv' := [(2, .int (nI o)), (0, .ref po), (1, .int (nI j))]) hx hb dX1_part_5 rfl hl (by decide) rfl (fun ls hl => ?_)
    refine lv_iload_n hx hb dX1_part_6 rfl (lv_at hl 0 rfl) ?_
    refine n0_lt (tgt := 40) hx hb o (by omega) dX1_part_7 (by decide) ?_
    refine lv_iload_n hx hb dX1_part_10 rfl (lv_at hl 0 rfl) ?_
    refine lv_bipush (v := nI 64) hx hb dX1_part_11 (by decide) ?_
    refine ni_ge (tgt := 40) hx hb o 64 (by omega) (by omega) dX1_part_13 (by decide) (fun c_13 => ?_) (fun c_13 => ?_)
    · skip
      exfalso; omega
    · skip
      refine lv_iload_n hx hb dX1_part_16 rfl (lv_at hl 2 rfl) ?_
      refine n0_lt (tgt := 40) hx hb j (by omega) dX1_part_17 (by decide) ?_
      refine lv_iload_n hx hb dX1_part_20 rfl (lv_at hl 2 rfl) ?_
      refine lv_bipush (v := nI 64) hx hb dX1_part_21 (by decide) ?_
      refine ni_ge (tgt := 40) hx hb j 64 (by omega) (by omega) dX1_part_23 (by decide) (fun c_23 => ?_) (fun c_23 => ?_)
      · skip
        exfalso; omega
      · skip
        refine lv_aload_n hx hb dX1_part_26 rfl (lv_at hl 1 rfl) ?_
        refine w_get (C := RX1) (T := TX1) (N := 5) (ci := 1) hx hb hts hown hK hM inX1 rfl 1 (by decide) qw_1_44 rfl hpo rfl dX1_part_27 ?_
        refine lv_iload_n hx hb dX1_part_30 rfl (lv_at hl 2 rfl) ?_
        refine lv_iconst (v := (-1)) hx hb dX1_part_31 (by decide) ?_
        refine w_iast hx hb hK hM hS hpt hA_pt j (by omega) (by decide) dX1_part_32 (fun H locs hM hS => ?_)
        refine lv_aload_n hx hb dX1_part_33 rfl (lv_at hl 1 rfl) ?_
        refine w_get (C := RX1) (T := TX1) (N := 5) (ci := 1) hx hb hts hown hK hM inX1 rfl 1 (by decide) qw_1_44 rfl (mu_g (ne_oi hpo hpt) hpo) rfl dX1_part_34 ?_
        refine lv_iload_n hx hb dX1_part_37 rfl (lv_at hl 0 rfl) ?_
        refine lv_iconst (v := (-1)) hx hb dX1_part_38 (by decide) ?_
        refine w_iast hx hb hK hM hS mu_s hA_pt o (by omega) (by decide) dX1_part_39 (fun H locs hM hS => ?_)
        rw [mu_mu] at hM
        refine lv_iload_n hx hb dX1_part_40 rfl (lv_at hl 0 rfl) ?_
        exact wr_ireturn hx hb hr hlk hM hS (Nat.le_refl _) (Nat.le_refl _) (by rw [eo]) (by rw [show kPart pp j = upd (upd pp j (-1)) o (-1) from (by simp [kPart, eo, hnego, hclo, c_13, Nat.not_le.mpr c_13, Nat.le_of_lt c_13, c_23, Nat.not_le.mpr c_23, Nat.le_of_lt c_23])]) dX1_part_41
set_option maxHeartbeats 4000000 in
set_option maxRecDepth 100000 in
theorem met_X1_shift (l : Launch) {D : va_G} {cI cJ : ClassId} {M : MP} {A : Nat → Prop} {sz : Nat} (po okk pt : Nat) (K : Nat → BitVec 64) (pp : Nat → Int32) (w bk : BitVec 64) (wa : Bool) (a b : Nat) (hpo : M po = some (.inr (1, [.ref okk, .ref pt, .long (bL w), .long (bL bk), .int (bI wa)]))) (hokk : M okk = some (eJ cJ 7 (fun ζ => bL (K ζ)))) (hpt : M pt = some (eI cI 64 pp)) (ha : a < 64) (hb2 : b < 64) (hka : 1 ≤ kKind K a) (hW : WfPt pp) (hA_po : A po) (hA_okk : A okk) (hA_pt : A pt) : Wr l yX1_shift cX1_shift 9 (some .int) 2 0 0 D cI cJ [.ref po, .int (nI a), .int (nI b)] M sz A (some (.int (nI (kKind K b)))) (fun M' => M' = mu (mu (mu M po (.inr (1, [.ref okk, .ref pt, .long (bL (kShW w a b (w.getLsbD a))), .long (bL (kShW bk a b (!w.getLsbD a))), .int (bI wa)]))) okk (eJ cJ 7 (fun ζ => bL ((kShK K a b) ζ)))) pt (eI cI 64 (kShP pp a b))) := by
  refine wr_start (by decide) (Nat.le_of_ble_eq_true rfl) ?_
  intro p e s m args below meth c hx hb hr hml hown hts hlk hini hK hsz H hH0 hM hS ls hl
  clear hH0
  have hl : lv_has ls 9 [(0, .ref po), (1, .int (nI a)), (2, .int (nI b))] := hl
  have hW1 := WfPt_part (j := b) hW
  have hnk := kNk_in (b := b) hka
  have hW2 := WfPt_part (j := a) hW1
  refine lv_aload_n hx hb dX1_shift_0 rfl (lv_at hl 0 rfl) ?_
  refine lv_iload_n hx hb dX1_shift_1 rfl (lv_at hl 1 rfl) ?_
  refine rd_goI (rd_runV (As := [.int (nI a)]) (rest := []) hx hb hml hown hts hK hM okV_RX1_75_X1_kindOn (met_X1_kindOn l po okk pt K w bk wa a hpo hokk (by omega)) hpo rfl rfl rfl ⟨Nat.le_of_ble_eq_true rfl, Nat.le_of_ble_eq_true rfl⟩ hl.1 rfl (Nat.le_of_ble_eq_true rfl) dX1_shift_2 ⟨Nat.le_refl _, Nat.le_refl _⟩) ?_
  have hf2_0 := kKind_lt K a
  refine lv_istore_n (lv' := [(3, .int (nI (kKind K a))), (0, .ref po), (1, .int (nI a)), (2, .int (nI b))]) hx hb dX1_shift_5 rfl hl (by decide) rfl (fun ls hl => ?_)
  refine lv_aload_n hx hb dX1_shift_6 rfl (lv_at hl 1 rfl) ?_
  refine lv_iload_n hx hb dX1_shift_7 rfl (lv_at hl 3 rfl) ?_
  refine rd_goI (rd_runV (As := [.int (nI b)]) (rest := []) hx hb hml hown hts hK hM okV_RX1_75_X1_kindOn (met_X1_kindOn l po okk pt K w bk wa b hpo hokk (by omega)) hpo rfl rfl rfl ⟨Nat.le_of_ble_eq_true rfl, Nat.le_of_ble_eq_true rfl⟩ hl.1 rfl (Nat.le_of_ble_eq_true rfl) dX1_shift_8 ⟨Nat.le_refl _, Nat.le_refl _⟩) ?_
  have hf8_0 := kKind_lt K b
  refine lv_istore (lv' := [(4, .int (nI (kKind K b))), (3, .int (nI (kKind K a))), (0, .ref po), (1, .int (nI a)), (2, .int (nI b))]) hx hb dX1_shift_11 hl (by decide) rfl (fun ls hl => ?_)
  refine lv_aload_n hx hb dX1_shift_13 rfl (lv_at hl 2 rfl) ?_
  refine w_get (C := RX1) (T := TX1) (N := 5) (ci := 1) hx hb hts hown hK hM inX1 rfl 2 (by decide) qw_1_45 rfl hpo rfl dX1_shift_14 ?_
  refine lv_iload_n hx hb dX1_shift_17 rfl (lv_at hl 3 rfl) ?_
  refine rd_goI (rd_runN (As := [.long (bL w), .int (nI a)]) (rest := []) hx hb hml hown hts hK hM hK.2.2.2.2 okN_X3_has (met_X3_has l w a (by omega)) rfl ⟨Nat.le_of_ble_eq_true rfl, Nat.le_of_ble_eq_true rfl⟩ hl.1 rfl (Nat.le_of_ble_eq_true rfl) dX1_shift_18 ⟨Nat.le_refl _, Nat.le_refl _⟩) ?_
  refine lv_istore (lv' := [(5, .int (bI (w.getLsbD a))), (4, .int (nI (kKind K b))), (3, .int (nI (kKind K a))), (0, .ref po), (1, .int (nI a)), (2, .int (nI b))]) hx hb dX1_shift_21 hl (by decide) rfl (fun ls hl => ?_)
  refine lv_aload_n hx hb dX1_shift_23 rfl (lv_at hl 3 rfl) ?_
  refine lv_iload_n hx hb dX1_shift_24 rfl (lv_at hl 5 rfl) ?_
  refine wr_go0 (wr_runV (As := [.int (nI b)]) (rest := []) hx hb hml hown hts hK hM okV_RX1_78_X1_part (met_X1_part l po okk pt pp w bk wa b hpo hpt (by omega) hW hA_pt) hpo rfl rfl rfl ⟨Nat.le_of_ble_eq_true rfl, Nat.le_of_ble_eq_true rfl⟩ hl.1 rfl (Nat.le_of_ble_eq_true rfl) dX1_shift_25 ⟨Nat.le_refl _, Nat.le_refl _⟩) hS (fun M1 H locs hR hM hS => ?_)
  obtain rfl := hR
  refine lv_pop hx hb dX1_shift_28 rfl ?_
  refine lv_aload_n hx hb dX1_shift_29 rfl (lv_at hl 3 rfl) ?_
  refine lv_iload_n hx hb dX1_shift_30 rfl (lv_at hl 4 rfl) ?_
  refine wr_go0 (wr_runV (As := [.int (nI a)]) (rest := []) hx hb hml hown hts hK hM okV_RX1_78_X1_part (met_X1_part l po okk pt (kPart pp b) w bk wa a (mu_g (ne_oi hpo hpt) hpo) mu_s (by omega) hW1 hA_pt) (mu_g (ne_oi hpo hpt) hpo) rfl rfl rfl ⟨Nat.le_of_ble_eq_true rfl, Nat.le_of_ble_eq_true rfl⟩ hl.1 rfl (Nat.le_of_ble_eq_true rfl) dX1_shift_31 ⟨Nat.le_refl _, Nat.le_refl _⟩) hS (fun M1 H locs hR hM hS => ?_)
  obtain rfl := hR
  rw [mu_mu] at hM
  rcases hW1 a (by omega) with eo | ⟨o, ho, eo⟩
  · refine topi (-1) eo ?_
    refine lv_istore (lv' := [(6, .int (-1)), (5, .int (bI (w.getLsbD a))), (4, .int (nI (kKind K b))), (3, .int (nI (kKind K a))), (0, .ref po), (1, .int (nI a)), (2, .int (nI b))]) hx hb dX1_shift_34 hl (by decide) rfl (fun ls hl => ?_)
    refine lv_aload_n hx hb dX1_shift_36 rfl (lv_at hl 4 rfl) ?_
    refine lv_iload_n hx hb dX1_shift_37 rfl (lv_at hl 6 rfl) ?_
    refine wr_go0 (wr_runV (As := [.int (nI b)]) (rest := []) hx hb hml hown hts hK hM okV_RX1_81_X1_lift (met_X1_lift l po okk pt K w bk wa b (mu_g (ne_oi hpo hpt) hpo) (mu_g (ne_ji hokk hpt) hokk) (by omega) hA_po hA_okk) (mu_g (ne_oi hpo hpt) hpo) rfl rfl rfl ⟨Nat.le_of_ble_eq_true rfl, Nat.le_of_ble_eq_true rfl⟩ hl.1 rfl (Nat.le_of_ble_eq_true rfl) dX1_shift_38 ⟨Nat.le_refl _, Nat.le_refl _⟩) hS (fun M1 H locs hR hM hS => ?_)
    obtain rfl := hR
    refine lv_aload_n hx hb dX1_shift_41 rfl (lv_at hl 4 rfl) ?_
    refine lv_iload_n hx hb dX1_shift_42 rfl (lv_at hl 5 rfl) ?_
    refine wr_go0 (wr_runV (As := [.int (nI a)]) (rest := []) hx hb hml hown hts hK hM okV_RX1_81_X1_lift (met_X1_lift l po okk pt (kLift K b) (w &&& kNot (kB b)) (bk &&& kNot (kB b)) wa a (mu_g (ne_oi hpo hokk) mu_s) mu_s (by omega) hA_po hA_okk) (mu_g (ne_oi hpo hokk) mu_s) rfl rfl rfl ⟨Nat.le_of_ble_eq_true rfl, Nat.le_of_ble_eq_true rfl⟩ hl.1 rfl (Nat.le_of_ble_eq_true rfl) dX1_shift_43 ⟨Nat.le_refl _, Nat.le_refl _⟩) hS (fun M1 H locs hR hM hS => ?_)
    obtain rfl := hR
    rw [mu_comm (ne_io hokk hpo), mu_mu] at hM
    rw [mu_mu] at hM
    refine lv_iload_n hx hb dX1_shift_46 rfl (lv_at hl 6 rfl) ?_
    refine lv_bipush (v := nI 8) hx hb dX1_shift_47 (by decide) ?_
    refine ni_div hx hb b 8 (by omega) (by decide) (by decide) dX1_shift_49 ?_
    refine lv_istore (lv' := [(7, .int (nI (b / 8))), (6, .int (-1)), (5, .int (bI (w.getLsbD a))), (4, .int (nI (kKind K b))), (3, .int (nI (kKind K a))), (0, .ref po), (1, .int (nI a)), (2, .int (nI b))]) hx hb dX1_shift_50 hl (by decide) rfl (fun ls hl => ?_)
    refine lv_iload_n hx hb dX1_shift_52 rfl (lv_at hl 4 rfl) ?_
    refine lv_bipush (v := nI 6) hx hb dX1_shift_53 (by decide) ?_
    refine meet (ls := ls) (pcJ := 75) (st := [.int (bI (kPro K a b))]) ?_ (fun hJ75 => ?_)
    · skip
      refine lv_istore (lv' := [(8, .int (bI (kPro K a b))), (7, .int (nI (b / 8))), (6, .int (-1)), (5, .int (bI (w.getLsbD a))), (4, .int (nI (kKind K b))), (3, .int (nI (kKind K a))), (0, .ref po), (1, .int (nI a)), (2, .int (nI b))]) hx hb dX1_shift_75 hl (by decide) rfl (fun ls hl => ?_)
      refine lv_aload_n hx hb dX1_shift_77 rfl (lv_at hl 6 rfl) ?_
      refine lv_iload_n hx hb dX1_shift_78 rfl (lv_at hl 8 rfl) ?_
      refine lv_iload hx hb dX1_shift_79 (lv_at hl 0 rfl) ?_
      refine meet (ls := ls) (pcJ := 89) (st := [.int (nI (kNk K a b)), .int (nI b), .ref po]) ?_ (fun hJ89 => ?_)
      · skip
        refine lv_iload hx hb dX1_shift_89 (lv_at hl 3 rfl) ?_
        refine wr_go0 (wr_runV (As := [.int (nI b), .int (nI (kNk K a b)), .int (bI (w.getLsbD a))]) (rest := []) hx hb hml hown hts hK hM okV_RX1_85_X1_put (met_X1_put l po okk pt (kLift (kLift K b) a) ((w &&& kNot (kB b)) &&& kNot (kB a)) ((bk &&& kNot (kB b)) &&& kNot (kB a)) wa b (kNk K a b) (w.getLsbD a) (mu_g (ne_oi hpo hokk) mu_s) mu_s (by omega) (by omega) (by omega) hA_po hA_okk) (mu_g (ne_oi hpo hokk) mu_s) rfl rfl rfl ⟨Nat.le_of_ble_eq_true rfl, Nat.le_of_ble_eq_true rfl⟩ hl.1 rfl (Nat.le_of_ble_eq_true rfl) dX1_shift_91 ⟨Nat.le_refl _, Nat.le_refl _⟩) hS (fun M1 H locs hR hM hS => ?_)
        obtain rfl := hR
        rw [mu_comm (ne_io hokk hpo), mu_mu] at hM
        rw [mu_mu] at hM
        refine lv_iload hx hb dX1_shift_94 (lv_at hl 2 rfl) ?_
        refine lv_iconst (v := (-1)) hx hb dX1_shift_96 (by decide) ?_
        refine mm_eq (tgt := 107) hx hb (-1) dX1_shift_97 (by decide) ?_
        refine lv_iload hx hb dX1_shift_107 (lv_at hl 4 rfl) ?_
        rw [mu_comm (ne_io hpt hpo) (e := eI cI 64 (kPart (kPart pp b) a)) (e' := .inr (1, [.ref okk, .ref pt, .long (bL (kPtW ((w &&& kNot (kB b)) &&& kNot (kB a)) b (w.getLsbD a))), .long (bL (kPtW ((bk &&& kNot (kB b)) &&& kNot (kB a)) b (!(w.getLsbD a)))), .int (bI wa)]))] at hM
        rw [mu_comm (ne_ij hpt hokk) (e := eI cI 64 (kPart (kPart pp b) a)) (e' := eJ cJ 7 (fun ζ => bL ((kPut (kLift (kLift K b) a) (kNk K a b) b) ζ)))] at hM
        exact wr_ireturn hx hb hr hlk hM hS (Nat.le_refl _) (Nat.le_refl _) rfl (by rw [show bL (kShW w a b (w.getLsbD a)) = bL (kPtW ((w &&& kNot (kB b)) &&& kNot (kB a)) b (w.getLsbD a)) from rfl, show bL (kShW bk a b (!w.getLsbD a)) = bL (kPtW ((bk &&& kNot (kB b)) &&& kNot (kB a)) b (!(w.getLsbD a))) from rfl, show kShK K a b = kPut (kLift (kLift K b) a) (kNk K a b) b from rfl, show kShP pp a b = kPart (kPart pp b) a from (by unfold kShP kOth; rw [if_pos eo])]) dX1_shift_109
      · skip
        refine zb_eq (tgt := 88) hx hb (kPro K a b) dX1_shift_81 (by decide) (fun c_81 => ?_) (fun c_81 => ?_)
        · skip
          refine lv_iload_n hx hb dX1_shift_88 rfl (lv_at hl 5 rfl) ?_
          exact topi (nI (kNk K a b)) (by simp [kNk, eo, c_81]) hJ89
        · skip
          refine lv_iconst (v := nI 2) hx hb dX1_shift_84 (by decide) ?_
          refine lv_goto (tgt := 89) hx hb dX1_shift_85 (by decide) ?_
          exact topi (nI (kNk K a b)) (by simp [kNk, eo, c_81]) hJ89
    · skip
      refine ni_ne (tgt := 74) hx hb (kKind K a) 6 (by omega) (by omega) dX1_shift_55 (by decide) (fun c_55 => ?_) (fun c_55 => ?_)
      · skip
        refine lv_iconst (v := nI 0) hx hb dX1_shift_74 (by decide) ?_
        exact topi (bI (kPro K a b)) (by simp [kPro, eo, c_55, bI_t, bI_f]) hJ75
      · skip
        refine lv_iload hx hb dX1_shift_58 (lv_at hl 0 rfl) ?_
        refine n0_eq (tgt := 70) hx hb (b / 8) (by omega) dX1_shift_60 (by decide) (fun c_60 => ?_) (fun c_60 => ?_)
        · skip
          refine lv_iconst (v := nI 1) hx hb dX1_shift_70 (by decide) ?_
          refine lv_goto (tgt := 75) hx hb dX1_shift_71 (by decide) ?_
          exact topi (bI (kPro K a b)) (by simp [kPro, eo, c_55, c_60, bI_t, bI_f]) hJ75
        · skip
          refine lv_iload hx hb dX1_shift_63 (lv_at hl 0 rfl) ?_
          refine lv_bipush (v := nI 7) hx hb dX1_shift_65 (by decide) ?_
          refine ni_ne (tgt := 74) hx hb (b / 8) 7 (by omega) (by omega) dX1_shift_67 (by decide) (fun c_67 => ?_) (fun c_67 => ?_)
          · skip
            refine lv_iconst (v := nI 0) hx hb dX1_shift_74 (by decide) ?_
            exact topi (bI (kPro K a b)) (by simp [kPro, eo, c_55, c_60, c_67, bI_t, bI_f]) hJ75
          · skip
            refine lv_iconst (v := nI 1) hx hb dX1_shift_70 (by decide) ?_
            refine lv_goto (tgt := 75) hx hb dX1_shift_71 (by decide) ?_
            exact topi (bI (kPro K a b)) (by simp [kPro, eo, c_55, c_60, c_67, bI_t, bI_f]) hJ75
  · refine topi (nI o) eo ?_
    have hnego := nI_m1 ho
    have hclo := nI_cl ho
    refine lv_istore (lv' := [(6, .int (nI o)), (5, .int (bI (w.getLsbD a))), (4, .int (nI (kKind K b))), (3, .int (nI (kKind K a))), (0, .ref po), (1, .int (nI a)), (2, .int (nI b))]) hx hb dX1_shift_34 hl (by decide) rfl (fun ls hl => ?_)
    refine lv_aload_n hx hb dX1_shift_36 rfl (lv_at hl 4 rfl) ?_
    refine lv_iload_n hx hb dX1_shift_37 rfl (lv_at hl 6 rfl) ?_
    refine wr_go0 (wr_runV (As := [.int (nI b)]) (rest := []) hx hb hml hown hts hK hM okV_RX1_81_X1_lift (met_X1_lift l po okk pt K w bk wa b (mu_g (ne_oi hpo hpt) hpo) (mu_g (ne_ji hokk hpt) hokk) (by omega) hA_po hA_okk) (mu_g (ne_oi hpo hpt) hpo) rfl rfl rfl ⟨Nat.le_of_ble_eq_true rfl, Nat.le_of_ble_eq_true rfl⟩ hl.1 rfl (Nat.le_of_ble_eq_true rfl) dX1_shift_38 ⟨Nat.le_refl _, Nat.le_refl _⟩) hS (fun M1 H locs hR hM hS => ?_)
    obtain rfl := hR
    refine lv_aload_n hx hb dX1_shift_41 rfl (lv_at hl 4 rfl) ?_
    refine lv_iload_n hx hb dX1_shift_42 rfl (lv_at hl 5 rfl) ?_
    refine wr_go0 (wr_runV (As := [.int (nI a)]) (rest := []) hx hb hml hown hts hK hM okV_RX1_81_X1_lift (met_X1_lift l po okk pt (kLift K b) (w &&& kNot (kB b)) (bk &&& kNot (kB b)) wa a (mu_g (ne_oi hpo hokk) mu_s) mu_s (by omega) hA_po hA_okk) (mu_g (ne_oi hpo hokk) mu_s) rfl rfl rfl ⟨Nat.le_of_ble_eq_true rfl, Nat.le_of_ble_eq_true rfl⟩ hl.1 rfl (Nat.le_of_ble_eq_true rfl) dX1_shift_43 ⟨Nat.le_refl _, Nat.le_refl _⟩) hS (fun M1 H locs hR hM hS => ?_)
    obtain rfl := hR
    rw [mu_comm (ne_io hokk hpo), mu_mu] at hM
    rw [mu_mu] at hM
    refine lv_iload_n hx hb dX1_shift_46 rfl (lv_at hl 6 rfl) ?_
    refine lv_bipush (v := nI 8) hx hb dX1_shift_47 (by decide) ?_
    refine ni_div hx hb b 8 (by omega) (by decide) (by decide) dX1_shift_49 ?_
    refine lv_istore (lv' := [(7, .int (nI (b / 8))), (6, .int (nI o)), (5, .int (bI (w.getLsbD a))), (4, .int (nI (kKind K b))), (3, .int (nI (kKind K a))), (0, .ref po), (1, .int (nI a)), (2, .int (nI b))]) hx hb dX1_shift_50 hl (by decide) rfl (fun ls hl => ?_)
    refine lv_iload_n hx hb dX1_shift_52 rfl (lv_at hl 4 rfl) ?_
    refine lv_bipush (v := nI 6) hx hb dX1_shift_53 (by decide) ?_
    refine meet (ls := ls) (pcJ := 75) (st := [.int (bI (kPro K a b))]) ?_ (fun hJ75 => ?_)
    · skip
      refine lv_istore (lv' := [(8, .int (bI (kPro K a b))), (7, .int (nI (b / 8))), (6, .int (nI o)), (5, .int (bI (w.getLsbD a))), (4, .int (nI (kKind K b))), (3, .int (nI (kKind K a))), (0, .ref po), (1, .int (nI a)), (2, .int (nI b))]) hx hb dX1_shift_75 hl (by decide) rfl (fun ls hl => ?_)
      refine lv_aload_n hx hb dX1_shift_77 rfl (lv_at hl 6 rfl) ?_
      refine lv_iload_n hx hb dX1_shift_78 rfl (lv_at hl 8 rfl) ?_
      refine lv_iload hx hb dX1_shift_79 (lv_at hl 0 rfl) ?_
      refine meet (ls := ls) (pcJ := 89) (st := [.int (nI (kNk K a b)), .int (nI b), .ref po]) ?_ (fun hJ89 => ?_)
      · skip
        refine lv_iload hx hb dX1_shift_89 (lv_at hl 3 rfl) ?_
        refine wr_go0 (wr_runV (As := [.int (nI b), .int (nI (kNk K a b)), .int (bI (w.getLsbD a))]) (rest := []) hx hb hml hown hts hK hM okV_RX1_85_X1_put (met_X1_put l po okk pt (kLift (kLift K b) a) ((w &&& kNot (kB b)) &&& kNot (kB a)) ((bk &&& kNot (kB b)) &&& kNot (kB a)) wa b (kNk K a b) (w.getLsbD a) (mu_g (ne_oi hpo hokk) mu_s) mu_s (by omega) (by omega) (by omega) hA_po hA_okk) (mu_g (ne_oi hpo hokk) mu_s) rfl rfl rfl ⟨Nat.le_of_ble_eq_true rfl, Nat.le_of_ble_eq_true rfl⟩ hl.1 rfl (Nat.le_of_ble_eq_true rfl) dX1_shift_91 ⟨Nat.le_refl _, Nat.le_refl _⟩) hS (fun M1 H locs hR hM hS => ?_)
        obtain rfl := hR
        rw [mu_comm (ne_io hokk hpo), mu_mu] at hM
        rw [mu_mu] at hM
        refine lv_iload hx hb dX1_shift_94 (lv_at hl 2 rfl) ?_
        refine lv_iconst (v := (-1)) hx hb dX1_shift_96 (by decide) ?_
        refine nm_eq (tgt := 107) hx hb o (by omega) dX1_shift_97 (by decide) ?_
        refine lv_aload_n hx hb dX1_shift_100 rfl (lv_at hl 6 rfl) ?_
        refine lv_iload_n hx hb dX1_shift_101 rfl (lv_at hl 8 rfl) ?_
        refine lv_iload hx hb dX1_shift_102 (lv_at hl 2 rfl) ?_
        refine wr_go0 (wr_runV (As := [.int (nI b), .int (nI o)]) (rest := []) hx hb hml hown hts hK hM okV_RX1_89_X1_join (met_X1_join l po okk pt (kPart (kPart pp b) a) (kPtW ((w &&& kNot (kB b)) &&& kNot (kB a)) b (w.getLsbD a)) (kPtW ((bk &&& kNot (kB b)) &&& kNot (kB a)) b (!(w.getLsbD a))) wa b o (mu_g (ne_oi hpo hokk) mu_s) (mu_g (ne_ij hpt hokk) (mu_g (ne_io hpt hpo) mu_s)) (by omega) (by omega) hA_pt) (mu_g (ne_oi hpo hokk) mu_s) rfl rfl rfl ⟨Nat.le_of_ble_eq_true rfl, Nat.le_of_ble_eq_true rfl⟩ hl.1 rfl (Nat.le_of_ble_eq_true rfl) dX1_shift_104 ⟨Nat.le_refl _, Nat.le_refl _⟩) hS (fun M1 H locs hR hM hS => ?_)
        obtain rfl := hR
        rw [mu_comm (ne_ji hokk hpt), mu_comm (ne_oi hpo hpt), mu_mu] at hM
        refine lv_iload hx hb dX1_shift_107 (lv_at hl 4 rfl) ?_
        rw [mu_comm (ne_io hpt hpo) (e := eI cI 64 (kJoin (kPart (kPart pp b) a) b o)) (e' := .inr (1, [.ref okk, .ref pt, .long (bL (kPtW ((w &&& kNot (kB b)) &&& kNot (kB a)) b (w.getLsbD a))), .long (bL (kPtW ((bk &&& kNot (kB b)) &&& kNot (kB a)) b (!(w.getLsbD a)))), .int (bI wa)]))] at hM
        rw [mu_comm (ne_ij hpt hokk) (e := eI cI 64 (kJoin (kPart (kPart pp b) a) b o)) (e' := eJ cJ 7 (fun ζ => bL ((kPut (kLift (kLift K b) a) (kNk K a b) b) ζ)))] at hM
        exact wr_ireturn hx hb hr hlk hM hS (Nat.le_refl _) (Nat.le_refl _) rfl (by rw [show bL (kShW w a b (w.getLsbD a)) = bL (kPtW ((w &&& kNot (kB b)) &&& kNot (kB a)) b (w.getLsbD a)) from rfl, show bL (kShW bk a b (!w.getLsbD a)) = bL (kPtW ((bk &&& kNot (kB b)) &&& kNot (kB a)) b (!(w.getLsbD a))) from rfl, show kShK K a b = kPut (kLift (kLift K b) a) (kNk K a b) b from rfl, show kShP pp a b = kJoin (kPart (kPart pp b) a) b o from (by unfold kShP kOth; rw [if_neg (by rw [eo]; exact hnego), eo, hclo])]) dX1_shift_109
      · skip
        refine zb_eq (tgt := 88) hx hb (kPro K a b) dX1_shift_81 (by decide) (fun c_81 => ?_) (fun c_81 => ?_)
        · skip
          refine lv_iload_n hx hb dX1_shift_88 rfl (lv_at hl 5 rfl) ?_
          exact topi (nI (kNk K a b)) (by simp [kNk, eo, hnego, hclo, c_81]) hJ89
        · skip
          refine lv_iconst (v := nI 2) hx hb dX1_shift_84 (by decide) ?_
          refine lv_goto (tgt := 89) hx hb dX1_shift_85 (by decide) ?_
          exact topi (nI (kNk K a b)) (by simp [kNk, eo, hnego, hclo, c_81]) hJ89
    · skip
      refine ni_ne (tgt := 74) hx hb (kKind K a) 6 (by omega) (by omega) dX1_shift_55 (by decide) (fun c_55 => ?_) (fun c_55 => ?_)
      · skip
        refine lv_iconst (v := nI 0) hx hb dX1_shift_74 (by decide) ?_
        exact topi (bI (kPro K a b)) (by simp [kPro, eo, hnego, hclo, c_55, bI_t, bI_f]) hJ75
      · skip
        refine lv_iload hx hb dX1_shift_58 (lv_at hl 0 rfl) ?_
        refine n0_eq (tgt := 70) hx hb (b / 8) (by omega) dX1_shift_60 (by decide) (fun c_60 => ?_) (fun c_60 => ?_)
        · skip
          refine lv_iconst (v := nI 1) hx hb dX1_shift_70 (by decide) ?_
          refine lv_goto (tgt := 75) hx hb dX1_shift_71 (by decide) ?_
          exact topi (bI (kPro K a b)) (by simp [kPro, eo, hnego, hclo, c_55, c_60, bI_t, bI_f]) hJ75
        · skip
          refine lv_iload hx hb dX1_shift_63 (lv_at hl 0 rfl) ?_
          refine lv_bipush (v := nI 7) hx hb dX1_shift_65 (by decide) ?_
          refine ni_ne (tgt := 74) hx hb (b / 8) 7 (by omega) (by omega) dX1_shift_67 (by decide) (fun c_67 => ?_) (fun c_67 => ?_)
          · skip
            refine lv_iconst (v := nI 0) hx hb dX1_shift_74 (by decide) ?_
            exact topi (bI (kPro K a b)) (by simp [kPro, eo, hnego, hclo, c_55, c_60, c_67, bI_t, bI_f]) hJ75
          · skip
            refine lv_iconst (v := nI 1) hx hb dX1_shift_70 (by decide) ?_
            refine lv_goto (tgt := 75) hx hb dX1_shift_71 (by decide) ?_
            exact topi (bI (kPro K a b)) (by simp [kPro, eo, hnego, hclo, c_55, c_60, c_67, bI_t, bI_f]) hJ75
set_option maxHeartbeats 4000000 in
set_option maxRecDepth 100000 in
theorem met_X1_passTurn (l : Launch) {D : va_G} {cI cJ : ClassId} {M : MP} {A : Nat → Prop} {sz : Nat} (po okk pt : Nat)   (w bk : BitVec 64) (wa : Bool) (hpo : M po = some (.inr (1, [.ref okk, .ref pt, .long (bL w), .long (bL bk), .int (bI wa)]))) (hA_po : A po) : Wr l yX1_passTurn cX1_passTurn 1 none 0 0 0 D cI cJ [.ref po] M sz A none (fun M' => M' = mu M po (.inr (1, [.ref okk, .ref pt, .long (bL w), .long (bL bk), .int (bI (!wa))]))) := by
  refine wr_start (by decide) (Nat.le_of_ble_eq_true rfl) ?_
  intro p e s m args below meth c hx hb hr hml hown hts hlk hini hK hsz H hH0 hM hS ls hl
  clear hH0
  have hl : lv_has ls 1 [(0, .ref po)] := hl
  refine lv_aload_n hx hb dX1_passTurn_0 rfl (lv_at hl 0 rfl) ?_
  refine lv_aload_n hx hb dX1_passTurn_1 rfl (lv_at hl 0 rfl) ?_
  refine w_get (C := RX1) (T := TX1) (N := 5) (ci := 1) hx hb hts hown hK hM inX1 rfl 4 (by decide) qw_1_47 rfl hpo rfl dX1_passTurn_2 ?_
  refine meet (ls := ls) (pcJ := 13) (st := [.int (bI (!wa)), .ref po]) ?_ (fun hJ13 => ?_)
  · skip
    refine w_put (C := RX1) (T := TX1) (N := 5) (ci := 1) hx hb hts hown hK hM hS inX1 rfl tyX1 tyX1_ok nmX1 4 (by decide) qw_1_47 rfl rfl hpo hA_po (bI_nar _) (bI_fit _) (Nat.le_of_ble_eq_true rfl) dX1_passTurn_13 (fun H locs hM hS => ?_)
    replace hM : HM D (mu M po (.inr (1, [.ref okk, .ref pt, .long (bL w), .long (bL bk), .int (bI (!wa))]))) H := hM
    exact wr_return hx hb hr hlk hM hS (Nat.le_refl _) (Nat.le_refl _) rfl dX1_passTurn_16
  · skip
    refine zb_ne (tgt := 12) hx hb wa dX1_passTurn_5 (by decide) (fun c_5 => ?_) (fun c_5 => ?_)
    · skip
      refine lv_iconst (v := nI 0) hx hb dX1_passTurn_12 (by decide) ?_
      exact topi (bI (!wa)) (by simp [c_5, bI_t, bI_f]) hJ13
    · skip
      refine lv_iconst (v := nI 1) hx hb dX1_passTurn_8 (by decide) ?_
      refine lv_goto (tgt := 13) hx hb dX1_passTurn_9 (by decide) ?_
      exact topi (bI (!wa)) (by simp [c_5, bI_t, bI_f]) hJ13
set_option maxHeartbeats 4000000 in
set_option maxRecDepth 100000 in
theorem met_X1_empty (l : Launch) {D : va_G} {cI cJ : ClassId} {M : MP} {A : Nat → Prop} {sz : Nat} (po okk pt : Nat) (K : Nat → BitVec 64) (pp : Nat → Int32) (w bk : BitVec 64) (wa : Bool) (hpo : M po = some (.inr (1, [.ref okk, .ref pt, .long (bL w), .long (bL bk), .int (bI wa)]))) (hokk : M okk = some (eJ cJ 7 (fun ζ => bL (K ζ)))) (hpt : M pt = some (eI cI 64 pp)) (hA_po : A po) (hA_okk : A okk) (hA_pt : A pt) : Wr l yX1_empty cX1_empty 1 none 1 0 0 D cI cJ [.ref po] M sz A none (fun M' => M' = mu (mu (mu M po (.inr (1, [.ref okk, .ref pt, .long (bL (0#64)), .long (bL (0#64)), .int (bI true)]))) okk (eJ cJ 7 (fun ζ => bL (kZ ζ)))) pt (eI cI 64 pNo)) := by
  refine wr_start (by decide) (Nat.le_of_ble_eq_true rfl) ?_
  intro p e s m args below meth c hx hb hr hml hown hts hlk hini hK hsz H hH0 hM hS ls hl
  clear hH0
  have hl : lv_has ls 1 [(0, .ref po)] := hl
  refine lv_aload_n hx hb dX1_empty_0 rfl (lv_at hl 0 rfl) ?_
  refine w_get (C := RX1) (T := TX1) (N := 5) (ci := 1) hx hb hts hown hK hM inX1 rfl 0 (by decide) qw_1_43 rfl hpo rfl dX1_empty_1 ?_
  refine lb_const hx hb 0#64 dX1_empty_4 rfl ?_
  refine wr_go0 (wr_runS (As := [.ref okk, .long (bL (0#64))]) (rest := []) hx hb hml hown hts hK hM okS_RX1_29_J7_fill_d0a16 (met_J7_fill_d0a16 l okk 7 (0#64) K hokk (by omega) hA_okk) rfl ⟨Nat.le_of_ble_eq_true rfl, Nat.le_of_ble_eq_true rfl⟩ hl.1 rfl (Nat.le_of_ble_eq_true rfl) dX1_empty_5 ⟨Nat.le_refl _, Nat.le_refl _⟩) hS (fun M1 H locs hR hM hS => ?_)
  obtain rfl := hR
  replace hM := HM.cgJ (g := (fun k => bL (kZ k))) hM (fun k hk => by unfold fillS; rw [if_pos hk]; rfl)
  refine lv_aload_n hx hb dX1_empty_8 rfl (lv_at hl 0 rfl) ?_
  refine w_get (C := RX1) (T := TX1) (N := 5) (ci := 1) hx hb hts hown hK hM inX1 rfl 1 (by decide) qw_1_44 rfl (mu_g (ne_oi hpo hokk) hpo) rfl dX1_empty_9 ?_
  refine lv_iconst (v := (-1)) hx hb dX1_empty_12 (by decide) ?_
  refine wr_go0 (wr_runS (As := [.ref pt, .int (-1)]) (rest := []) hx hb hml hown hts hK hM okS_RX1_19_J7_fill_53178 (met_J7_fill_53178 l pt 64 (-1) pp (mu_g (ne_ij hpt hokk) hpt) (by omega) hA_pt) rfl ⟨Nat.le_of_ble_eq_true rfl, Nat.le_of_ble_eq_true rfl⟩ hl.1 rfl (Nat.le_of_ble_eq_true rfl) dX1_empty_13 ⟨Nat.le_refl _, Nat.le_refl _⟩) hS (fun M1 H locs hR hM hS => ?_)
  obtain rfl := hR
  replace hM := HM.cg (g := pNo) hM (fun k hk => by unfold fillN; rw [if_pos hk]; rfl)
  refine lv_aload_n hx hb dX1_empty_16 rfl (lv_at hl 0 rfl) ?_
  refine lb_const hx hb 0#64 dX1_empty_17 rfl ?_
  refine w_put (C := RX1) (T := TX1) (N := 5) (ci := 1) hx hb hts hown hK hM hS inX1 rfl tyX1 tyX1_ok nmX1 2 (by decide) qw_1_45 rfl rfl (mu_g (ne_oi hpo hpt) (mu_g (ne_oi hpo hokk) hpo)) hA_po rfl rfl (Nat.le_of_ble_eq_true rfl) dX1_empty_18 (fun H locs hM hS => ?_)
  replace hM : HM D (mu (mu (mu M okk (eJ cJ 7 (fun ζ => bL (kZ ζ)))) pt (eI cI 64 pNo)) po (.inr (1, [.ref okk, .ref pt, .long (bL (0#64)), .long (bL bk), .int (bI wa)]))) H := hM
  refine lv_aload_n hx hb dX1_empty_21 rfl (lv_at hl 0 rfl) ?_
  refine lb_const hx hb 0#64 dX1_empty_22 rfl ?_
  refine w_put (C := RX1) (T := TX1) (N := 5) (ci := 1) hx hb hts hown hK hM hS inX1 rfl tyX1 tyX1_ok nmX1 3 (by decide) qw_1_46 rfl rfl mu_s hA_po rfl rfl (Nat.le_of_ble_eq_true rfl) dX1_empty_23 (fun H locs hM hS => ?_)
  rw [mu_mu] at hM
  replace hM : HM D (mu (mu (mu M okk (eJ cJ 7 (fun ζ => bL (kZ ζ)))) pt (eI cI 64 pNo)) po (.inr (1, [.ref okk, .ref pt, .long (bL (0#64)), .long (bL (0#64)), .int (bI wa)]))) H := hM
  refine lv_aload_n hx hb dX1_empty_26 rfl (lv_at hl 0 rfl) ?_
  refine lv_iconst (v := nI 1) hx hb dX1_empty_27 (by decide) ?_
  refine topi (bI true) rfl ?_
  refine w_put (C := RX1) (T := TX1) (N := 5) (ci := 1) hx hb hts hown hK hM hS inX1 rfl tyX1 tyX1_ok nmX1 4 (by decide) qw_1_47 rfl rfl mu_s hA_po (bI_nar _) (bI_fit _) (Nat.le_of_ble_eq_true rfl) dX1_empty_28 (fun H locs hM hS => ?_)
  rw [mu_mu] at hM
  replace hM : HM D (mu (mu (mu M okk (eJ cJ 7 (fun ζ => bL (kZ ζ)))) pt (eI cI 64 pNo)) po (.inr (1, [.ref okk, .ref pt, .long (bL (0#64)), .long (bL (0#64)), .int (bI true)]))) H := hM
  rw [mu_comm (ne_io hpt hpo) (e := eI cI 64 pNo) (e' := .inr (1, [.ref okk, .ref pt, .long (bL (0#64)), .long (bL (0#64)), .int (bI true)]))] at hM
  rw [mu_comm (ne_io hokk hpo) (e := eJ cJ 7 (fun ζ => bL (kZ ζ))) (e' := .inr (1, [.ref okk, .ref pt, .long (bL (0#64)), .long (bL (0#64)), .int (bI true)]))] at hM
  exact wr_return hx hb hr hlk hM hS (Nat.le_refl _) (Nat.le_refl _) rfl dX1_empty_31
set_option maxHeartbeats 4000000 in
set_option maxRecDepth 100000 in
theorem met_X1_copyFrom (l : Launch) {D : va_G} {cI cJ : ClassId} {M : MP} {A : Nat → Prop} {sz : Nat} (po okk pt po2 okk2 pt2 : Nat) (K K2 : Nat → BitVec 64) (pp pp2 : Nat → Int32) (w bk w2 bk2 : BitVec 64) (wa wa2 : Bool) (hpo : M po = some (.inr (1, [.ref okk, .ref pt, .long (bL w), .long (bL bk), .int (bI wa)]))) (hokk : M okk = some (eJ cJ 7 (fun ζ => bL (K ζ)))) (hpt : M pt = some (eI cI 64 pp)) (hpo2 : M po2 = some (.inr (1, [.ref okk2, .ref pt2, .long (bL w2), .long (bL bk2), .int (bI wa2)]))) (hokk2 : M okk2 = some (eJ cJ 7 (fun ζ => bL (K2 ζ)))) (hpt2 : M pt2 = some (eI cI 64 pp2)) (hpp : po ≠ po2) (hA_po : A po) (hA_okk : A okk) (hA_pt : A pt) : Wr l yX1_copyFrom cX1_copyFrom 2 none 3 0 0 D cI cJ [.ref po, .ref po2] M sz A none (fun M' => M' = mu (mu (mu M po (.inr (1, [.ref okk, .ref pt, .long (bL w2), .long (bL bk2), .int (bI wa2)]))) okk (eJ cJ 7 (fun ζ => bL (K2 ζ)))) pt (eI cI 64 pp2)) := by
  refine wr_start (by decide) (Nat.le_of_ble_eq_true rfl) ?_
  intro p e s m args below meth c hx hb hr hml hown hts hlk hini hK hsz H hH0 hM hS ls hl
  clear hH0
  have hl : lv_has ls 2 [(0, .ref po), (1, .ref po2)] := hl
  refine lv_aload_n hx hb dX1_copyFrom_0 rfl (lv_at hl 1 rfl) ?_
  refine w_get (C := RX1) (T := TX1) (N := 5) (ci := 1) hx hb hts hown hK hM inX1 rfl 0 (by decide) qw_1_43 rfl hpo2 rfl dX1_copyFrom_1 ?_
  refine lv_iconst (v := nI 0) hx hb dX1_copyFrom_4 (by decide) ?_
  refine lv_aload_n hx hb dX1_copyFrom_5 rfl (lv_at hl 0 rfl) ?_
  refine w_get (C := RX1) (T := TX1) (N := 5) (ci := 1) hx hb hts hown hK hM inX1 rfl 0 (by decide) qw_1_43 rfl hpo rfl dX1_copyFrom_6 ?_
  refine lv_iconst (v := nI 0) hx hb dX1_copyFrom_9 (by decide) ?_
  refine lv_bipush (v := nI 7) hx hb dX1_copyFrom_10 (by decide) ?_
  refine w_copyJ hx hb hml hl.1 hown hts qw_2_63 hK hM hS hokk2 hokk hA_okk (by decide) (Nat.le_of_ble_eq_true rfl) (Nat.le_of_ble_eq_true rfl) dX1_copyFrom_12 (fun H locs hM hS => ?_)
  refine lv_aload_n hx hb dX1_copyFrom_15 rfl (lv_at hl 1 rfl) ?_
  refine w_get (C := RX1) (T := TX1) (N := 5) (ci := 1) hx hb hts hown hK hM inX1 rfl 1 (by decide) qw_1_44 rfl (mu_g (ne_oi hpo2 hokk) hpo2) rfl dX1_copyFrom_16 ?_
  refine lv_iconst (v := nI 0) hx hb dX1_copyFrom_19 (by decide) ?_
  refine lv_aload_n hx hb dX1_copyFrom_20 rfl (lv_at hl 0 rfl) ?_
  refine w_get (C := RX1) (T := TX1) (N := 5) (ci := 1) hx hb hts hown hK hM inX1 rfl 1 (by decide) qw_1_44 rfl (mu_g (ne_oi hpo hokk) hpo) rfl dX1_copyFrom_21 ?_
  refine lv_iconst (v := nI 0) hx hb dX1_copyFrom_24 (by decide) ?_
  refine lv_bipush (v := nI 64) hx hb dX1_copyFrom_25 (by decide) ?_
  refine w_copyI hx hb hml hl.1 hown hts qw_2_63 hK hM hS (mu_g (ne_ij hpt2 hokk) hpt2) (mu_g (ne_ij hpt hokk) hpt) hA_pt (by decide) (Nat.le_of_ble_eq_true rfl) (Nat.le_of_ble_eq_true rfl) dX1_copyFrom_27 (fun H locs hM hS => ?_)
  refine lv_aload_n hx hb dX1_copyFrom_30 rfl (lv_at hl 0 rfl) ?_
  refine lv_aload_n hx hb dX1_copyFrom_31 rfl (lv_at hl 1 rfl) ?_
  refine w_get (C := RX1) (T := TX1) (N := 5) (ci := 1) hx hb hts hown hK hM inX1 rfl 2 (by decide) qw_1_45 rfl (mu_g (ne_oi hpo2 hpt) (mu_g (ne_oi hpo2 hokk) hpo2)) rfl dX1_copyFrom_32 ?_
  refine w_put (C := RX1) (T := TX1) (N := 5) (ci := 1) hx hb hts hown hK hM hS inX1 rfl tyX1 tyX1_ok nmX1 2 (by decide) qw_1_45 rfl rfl (mu_g (ne_oi hpo hpt) (mu_g (ne_oi hpo hokk) hpo)) hA_po rfl rfl (Nat.le_of_ble_eq_true rfl) dX1_copyFrom_35 (fun H locs hM hS => ?_)
  replace hM : HM D (mu (mu (mu M okk (eJ cJ 7 (fun ζ => bL (K2 ζ)))) pt (eI cI 64 pp2)) po (.inr (1, [.ref okk, .ref pt, .long (bL w2), .long (bL bk), .int (bI wa)]))) H := hM
  refine lv_aload_n hx hb dX1_copyFrom_38 rfl (lv_at hl 0 rfl) ?_
  refine lv_aload_n hx hb dX1_copyFrom_39 rfl (lv_at hl 1 rfl) ?_
  refine w_get (C := RX1) (T := TX1) (N := 5) (ci := 1) hx hb hts hown hK hM inX1 rfl 3 (by decide) qw_1_46 rfl (mu_g (Ne.symm hpp) (mu_g (ne_oi hpo2 hpt) (mu_g (ne_oi hpo2 hokk) hpo2))) rfl dX1_copyFrom_40 ?_
  refine w_put (C := RX1) (T := TX1) (N := 5) (ci := 1) hx hb hts hown hK hM hS inX1 rfl tyX1 tyX1_ok nmX1 3 (by decide) qw_1_46 rfl rfl mu_s hA_po rfl rfl (Nat.le_of_ble_eq_true rfl) dX1_copyFrom_43 (fun H locs hM hS => ?_)
  rw [mu_mu] at hM
  replace hM : HM D (mu (mu (mu M okk (eJ cJ 7 (fun ζ => bL (K2 ζ)))) pt (eI cI 64 pp2)) po (.inr (1, [.ref okk, .ref pt, .long (bL w2), .long (bL bk2), .int (bI wa)]))) H := hM
  refine lv_aload_n hx hb dX1_copyFrom_46 rfl (lv_at hl 0 rfl) ?_
  refine lv_aload_n hx hb dX1_copyFrom_47 rfl (lv_at hl 1 rfl) ?_
  refine w_get (C := RX1) (T := TX1) (N := 5) (ci := 1) hx hb hts hown hK hM inX1 rfl 4 (by decide) qw_1_47 rfl (mu_g (Ne.symm hpp) (mu_g (ne_oi hpo2 hpt) (mu_g (ne_oi hpo2 hokk) hpo2))) rfl dX1_copyFrom_48 ?_
  refine w_put (C := RX1) (T := TX1) (N := 5) (ci := 1) hx hb hts hown hK hM hS inX1 rfl tyX1 tyX1_ok nmX1 4 (by decide) qw_1_47 rfl rfl mu_s hA_po (bI_nar _) (bI_fit _) (Nat.le_of_ble_eq_true rfl) dX1_copyFrom_51 (fun H locs hM hS => ?_)
  rw [mu_mu] at hM
  replace hM : HM D (mu (mu (mu M okk (eJ cJ 7 (fun ζ => bL (K2 ζ)))) pt (eI cI 64 pp2)) po (.inr (1, [.ref okk, .ref pt, .long (bL w2), .long (bL bk2), .int (bI wa2)]))) H := hM
  rw [mu_comm (ne_io hpt hpo) (e := eI cI 64 pp2) (e' := .inr (1, [.ref okk, .ref pt, .long (bL w2), .long (bL bk2), .int (bI wa2)]))] at hM
  rw [mu_comm (ne_io hokk hpo) (e := eJ cJ 7 (fun ζ => bL (K2 ζ))) (e' := .inr (1, [.ref okk, .ref pt, .long (bL w2), .long (bL bk2), .int (bI wa2)]))] at hM
  exact wr_return hx hb hr hlk hM hS (Nat.le_refl _) (Nat.le_refl _) rfl dX1_copyFrom_54
set_option maxHeartbeats 4000000 in
set_option maxRecDepth 100000 in
theorem met_X1_init (l : Launch) {D : va_G} {cI cJ : ClassId} {M : MP} {A : Nat → Prop} {sz : Nat} (po : Nat) (hpo : M po = some (.inr (1, [.null, .null, .long (bL (0#64)), .long (bL (0#64)), .int (bI false)]))) (hA_po : A po) (hAn : ∀ q, sz ≤ q → A q) : Wr l yX1_init cX1_init 1 none 3 2 71 D cI cJ [.ref po] M sz A none (fun M' => PosMade cI cJ M M' A po) := by
  refine wr_start (by decide) (Nat.le_of_ble_eq_true rfl) ?_
  intro p e s m args below meth c hx hb hr hml hown hts hlk hini hK hsz H hH0 hM hS ls hl
  rw [← hsz] at hAn
  clear hH0
  have hl : lv_has ls 1 [(0, .ref po)] := hl
  refine lv_aload_n hx hb dX1_init_0 rfl (lv_at hl 0 rfl) ?_
  refine W.objInit hx hb hown (hts _ qw_1_39) (hts _ qw_1_26) (hts _ qw_1_27) rfl (by rw [hml]; exact hl.1) rfl dX1_init_1 (Nat.le_of_ble_eq_true rfl) (Nat.le_of_ble_eq_true rfl) ?_
  refine W.eq (g2 := F0 m 4 ls []) rfl ?_
  refine lv_aload_n hx hb dX1_init_4 rfl (lv_at hl 0 rfl) ?_
  refine lv_bipush (v := nI 7) hx hb dX1_init_5 (by decide) ?_
  refine w_newJ hx hb hts hK hM hS hAn qw_1_60 7 (by omega) (by show 0 + 1 ≤ 2; omega) (by show 0 + 7 ≤ 71; omega) dX1_init_7 (fun q7 H hq_7 hMq_7 hAq_7 hqa_7 hM hS => ?_)
  have hne_po_q7 := ne_none hpo hMq_7
  have hf_q7 : M q7 = none := hMq_7
  refine w_putF (C := RX1) (T := TX1) (N := 5) (ci := 1) hx hb hts hown hK hM hS inX1 rfl tyX1 tyX1_ok nmX1 (hini rfl) 0 (by decide) qw_1_43 rfl rfl (mu_g hne_po_q7 hpo) hA_po rfl rfl (Nat.le_of_ble_eq_true rfl) dX1_init_9 (fun H locs hM hS => ?_)
  replace hM : HM D (mu (mu M q7 (eJ cJ 7 (fun ζ => bL ((fun _ => 0#64) ζ)))) po (.inr (1, [.ref q7, .null, .long (bL (0#64)), .long (bL (0#64)), .int (bI false)]))) H := hM
  refine lv_aload_n hx hb dX1_init_12 rfl (lv_at hl 0 rfl) ?_
  refine lv_bipush (v := nI 64) hx hb dX1_init_13 (by decide) ?_
  refine w_newI hx hb hts hK hM hS hAn qw_1_61 64 (by omega) (by show 0 + 1 + 1 ≤ 2; omega) (by show 0 + 7 + 64 ≤ 71; omega) dX1_init_15 (fun q15 H hq_15 hMq_15 hAq_15 hqa_15 hM hS => ?_)
  have hne_po_q15 := ne_none mu_s hMq_15
  have hne_q7_q15 := ne_none (mu_g (Ne.symm hne_po_q7) mu_s) hMq_15
  have hf_q15 : M q15 = none := (mu_none (mu_none hMq_15))
  refine w_putF (C := RX1) (T := TX1) (N := 5) (ci := 1) hx hb hts hown hK hM hS inX1 rfl tyX1 tyX1_ok nmX1 (hini rfl) 1 (by decide) qw_1_44 rfl rfl (mu_g hne_po_q15 mu_s) hA_po rfl rfl (Nat.le_of_ble_eq_true rfl) dX1_init_17 (fun H locs hM hS => ?_)
  rw [mu_comm (Ne.symm hne_po_q15), mu_mu] at hM
  replace hM : HM D (mu (mu (mu M q7 (eJ cJ 7 (fun ζ => bL ((fun _ => 0#64) ζ)))) po (.inr (1, [.ref q7, .ref q15, .long (bL (0#64)), .long (bL (0#64)), .int (bI false)]))) q15 (eI cI 64 (fun _ => 0))) H := hM
  refine lv_aload_n hx hb dX1_init_20 rfl (lv_at hl 0 rfl) ?_
  refine w_get (C := RX1) (T := TX1) (N := 5) (ci := 1) hx hb hts hown hK hM inX1 rfl 1 (by decide) qw_1_44 rfl (mu_g hne_po_q15 mu_s) rfl dX1_init_21 ?_
  refine lv_iconst (v := (-1)) hx hb dX1_init_24 (by decide) ?_
  refine wr_go0 (wr_runS (As := [.ref q15, .int (-1)]) (rest := []) hx hb hml hown hts hK hM okS_RX1_19_J7_fill_53178 (met_J7_fill_53178 l q15 64 (-1) (fun _ => 0) mu_s (by omega) hAq_15) rfl ⟨Nat.le_of_ble_eq_true rfl, Nat.le_of_ble_eq_true rfl⟩ hl.1 rfl (Nat.le_of_ble_eq_true rfl) dX1_init_25 ⟨by show 0 + 1 + 1 + 0 ≤ 2; omega, by show 0 + 7 + 64 + 0 ≤ 71; omega⟩) hS (fun M1 H locs hR hM hS => ?_)
  obtain rfl := hR
  rw [mu_mu] at hM
  replace hM := HM.cg (g := pNo) hM (fun k hk => by unfold fillN; rw [if_pos hk]; rfl)
  refine lv_aload_n hx hb dX1_init_28 rfl (lv_at hl 0 rfl) ?_
  refine lv_iconst (v := nI 1) hx hb dX1_init_29 (by decide) ?_
  refine topi (bI true) rfl ?_
  refine w_put (C := RX1) (T := TX1) (N := 5) (ci := 1) hx hb hts hown hK hM hS inX1 rfl tyX1 tyX1_ok nmX1 4 (by decide) qw_1_47 rfl rfl (mu_g hne_po_q15 mu_s) hA_po (bI_nar _) (bI_fit _) (Nat.le_of_ble_eq_true rfl) dX1_init_30 (fun H locs hM hS => ?_)
  rw [mu_comm (Ne.symm hne_po_q15), mu_mu] at hM
  replace hM : HM D (mu (mu (mu M q7 (eJ cJ 7 (fun ζ => bL ((fun _ => 0#64) ζ)))) po (.inr (1, [.ref q7, .ref q15, .long (bL (0#64)), .long (bL (0#64)), .int (bI true)]))) q15 (eI cI 64 pNo)) H := hM
  exact wr_return hx hb hr hlk hM hS (by omega) (by omega) ⟨q7, q15, ⟨(mu_g hne_po_q15 mu_s), (mu_g hne_q7_q15 (mu_g (Ne.symm hne_po_q7) mu_s)), mu_s⟩, ⟨hf_q7, hAq_7⟩, ⟨hf_q15, hAq_15⟩, (Keep.new (Keep.up (Keep.new (Keep.rf (P := fun b => b = po)) hf_q7) rfl) hf_q15)⟩ dX1_init_33
