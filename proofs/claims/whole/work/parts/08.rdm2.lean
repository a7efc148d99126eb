theorem okS_RX4_37_X4_tie : okS RX4 37 yX4_tie cX4_tie 3 none 3 := okS_of qw_3_228 qw_3_229 qw_1_5 qw_3_230 (by decide +kernel)
theorem okS_RX4_88_X4_untie : okS RX4 88 yX4_untie cX4_untie 3 none 2 := okS_of qw_4_50 qw_4_51 qw_1_5 qw_4_52 (by decide +kernel)
set_option maxHeartbeats 4000000 in
set_option maxRecDepth 100000 in
theorem met_X4_tie (l : Launch) {D : va_G} {cI cJ : ClassId} {M : MP} {A : Nat → Prop} {sz : Nat} (w a b : Nat) (f : Nat → Int32) (hw : M w = some (eI cI 146 f)) (ha : a < 64) (hb2 : b < 64) (hA_w : A w) : Wr l yX4_tie cX4_tie 3 none 0 0 0 D cI cJ [.ref w, .int (nI a), .int (nI b)] M sz A none (fun M' => M' = mu M w (eI cI 146 (mTie f a b))) := by
  refine wr_start (by decide) (Nat.le_of_ble_eq_true rfl) ?_
  intro p e s m args below meth c hx hb hr hml hown hts hlk hini hK hsz H hH0 hM hS ls hl
  clear hH0
  have hl : lv_has ls 3 [(0, .ref w), (1, .int (nI a)), (2, .int (nI b))] := hl
  refine lv_aload_n hx hb dX4_tie_0 rfl (lv_at hl 0 rfl) ?_
  refine lv_bipush (v := nI 64) hx hb dX4_tie_1 (by decide) ?_
  refine lv_iload_n hx hb dX4_tie_3 rfl (lv_at hl 1 rfl) ?_
  refine ni_add hx hb 64 a dX4_tie_4 ?_
  refine lv_iload_n hx hb dX4_tie_5 rfl (lv_at hl 2 rfl) ?_
  refine w_iast hx hb hK hM hS hw hA_w (64 + a) (by omega) (by decide) dX4_tie_6 (fun H locs hM hS => ?_)
  refine lv_aload_n hx hb dX4_tie_7 rfl (lv_at hl 0 rfl) ?_
  refine lv_bipush (v := nI 64) hx hb dX4_tie_8 (by decide) ?_
  refine lv_iload_n hx hb dX4_tie_10 rfl (lv_at hl 2 rfl) ?_
  refine ni_add hx hb 64 b dX4_tie_11 ?_
  refine lv_iload_n hx hb dX4_tie_12 rfl (lv_at hl 1 rfl) ?_
  refine w_iast hx hb hK hM hS mu_s hA_w (64 + b) (by omega) (by decide) dX4_tie_13 (fun H locs hM hS => ?_)
  rw [mu_mu] at hM
  exact wr_return hx hb hr hlk hM hS (Nat.le_refl _) (Nat.le_refl _) (by rw [show mTie f a b = upd (upd f (64 + a) (nI b)) (64 + b) (nI a) from rfl]) dX4_tie_14
set_option maxHeartbeats 4000000 in
set_option maxRecDepth 100000 in
theorem met_X4_untie (l : Launch) {D : va_G} {cI cJ : ClassId} {M : MP} {A : Nat → Prop} {sz : Nat} (w j : Nat) (f : Nat → Int32) (hw : M w = some (eI cI 146 f)) (hj : j < 64) (hB : WfB f) (hA_w : A w) : Wr l yX4_untie cX4_untie 3 none 0 0 0 D cI cJ [.ref w, .int (nI j)] M sz A none (fun M' => M' = mu M w (eI cI 146 (mUntie f j))) := by
  refine wr_start (by decide) (Nat.le_of_ble_eq_true rfl) ?_
  intro p e s m args below meth c hx hb hr hml hown hts hlk hini hK hsz H hH0 hM hS ls hl
  clear hH0
  have hl : lv_has ls 3 [(0, .ref w), (1, .int (nI j))] := hl
  refine lv_aload_n hx hb dX4_untie_0 rfl (lv_at hl 0 rfl) ?_
  refine lv_bipush (v := nI 64) hx hb dX4_untie_1 (by decide) ?_
  refine lv_iload_n hx hb dX4_untie_3 rfl (lv_at hl 1 rfl) ?_
  refine ni_add hx hb 64 j dX4_untie_4 ?_
  refine w_iald hx hb hK hM hw (64 + j) (by omega) (by decide) dX4_untie_5 ?_
  rcases hB j (by omega) with eo | ⟨o, ho, eo⟩
  · refine topi (-1) eo ?_
    refine lv_istore_n (lv' := [(2, .int (-1)), (0, .ref w), (1, .int (nI j))]) hx hb dX4_untie_6 rfl hl (by decide) rfl (fun ls hl => ?_)
    refine lv_iload_n hx hb dX4_untie_7 rfl (lv_at hl 0 rfl) ?_
    refine lv_iconst (v := (-1)) hx hb dX4_untie_8 (by decide) ?_
    refine mm_eq (tgt := 26) hx hb (-1) dX4_untie_9 (by decide) ?_
    rw [← mu_id (a := w) (e := eI cI 146 f) hw] at hM
    exact wr_return hx hb hr hlk hM hS (Nat.le_refl _) (Nat.le_refl _) (by rw [show mUntie f j = f from (by simp [mUntie, eo])]) dX4_untie_26
  · refine topi (nI o) eo ?_
    have hnego := nI_m1 ho
    have hclo := nI_cl ho
    refine lv_istore_n (lv' := [(2, .int (nI o)), (0, .ref w), (1, .int (nI j))]) hx hb dX4_untie_6 rfl hl (by decide) rfl (fun ls hl => ?_)
    refine lv_iload_n hx hb dX4_untie_7 rfl (lv_at hl 0 rfl) ?_
    refine lv_iconst (v := (-1)) hx hb dX4_untie_8 (by decide) ?_
    refine nm_eq (tgt := 26) hx hb o (by omega) dX4_untie_9 (by decide) ?_
    refine lv_aload_n hx hb dX4_untie_12 rfl (lv_at hl 1 rfl) ?_
    refine lv_bipush (v := nI 64) hx hb dX4_untie_13 (by decide) ?_
    refine lv_iload_n hx hb dX4_untie_15 rfl (lv_at hl 0 rfl) ?_
    refine ni_add hx hb 64 o dX4_untie_16 ?_
    refine lv_iconst (v := (-1)) hx hb dX4_untie_17 (by decide) ?_
    refine w_iast hx hb hK hM hS hw hA_w (64 + o) (by omega) (by decide) dX4_untie_18 (fun H locs hM hS => ?_)
    refine lv_aload_n hx hb dX4_untie_19 rfl (lv_at hl 1 rfl) ?_
    refine lv_bipush (v := nI 64) hx hb dX4_untie_20 (by decide) ?_
    refine lv_iload_n hx hb dX4_untie_22 rfl (lv_at hl 2 rfl) ?_
    refine ni_add hx hb 64 j dX4_untie_23 ?_
    refine lv_iconst (v := (-1)) hx hb dX4_untie_24 (by decide) ?_
    refine w_iast hx hb hK hM hS mu_s hA_w (64 + j) (by omega) (by decide) dX4_untie_25 (fun H locs hM hS => ?_)
    rw [mu_mu] at hM
    exact wr_return hx hb hr hlk hM hS (Nat.le_refl _) (Nat.le_refl _) (by rw [show mUntie f j = upd (upd f (64 + o) (-1)) (64 + j) (-1) from (by simp [mUntie, eo, hnego, hclo])]) dX4_untie_26
set_option maxHeartbeats 4000000 in
set_option maxRecDepth 100000 in
theorem met_X4_copyRow (l : Launch) {D : va_G} {cI cJ : ClassId} {M : MP} {A : Nat → Prop} {sz : Nat} (x at_ y wh nx ny : Nat) (f g : Nat → Int32) (hx_ : M x = some (eI cI nx f)) (hy_ : M y = some (eI cI ny g)) (hn1 : at_ + 146 ≤ nx) (hn2 : wh + 146 ≤ ny) (hnx : nx < 2 ^ 31) (hny : ny < 2 ^ 31) (hxy : x ≠ y) (hA_y : A y) : Wr l yX4_copyRow cX4_copyRow 5 none 0 0 0 D cI cJ [.ref x, .int (nI at_), .ref y, .int (nI wh)] M sz A none (fun M' => M' = mu M y (eI cI ny (va_cpy f g at_ wh 146))) := by
  refine wr_start (by decide) (Nat.le_of_ble_eq_true rfl) ?_
  intro p e s m args below meth c hx hb hr hml hown hts hlk hini hK hsz H hH0 hM hS ls hl
  clear hH0
  have hl : lv_has ls 5 [(0, .ref x), (1, .int (nI at_)), (2, .ref y), (3, .int (nI wh))] := hl
  refine lv_iconst (v := nI 0) hx hb dX4_copyRow_0 (by decide) ?_
  refine lv_istore (lv' := [(4, .int (nI 0)), (0, .ref x), (1, .int (nI at_)), (2, .ref y), (3, .int (nI wh))]) hx hb dX4_copyRow_1 hl (by decide) rfl (fun ls hl => ?_)
  rw [← mu_id (a := y) (e := eI cI ny g) hy_] at hM
  rw [← cpy_zero f g at_ wh] at hM
  refine loopW (pcH := 3) (st := []) (ι := Nat) (fun ξ => mu M y (eI cI ny (va_cpy f g at_ wh (ξ)))) (fun ξ => [(4, .int (nI (ξ))), (0, .ref x), (1, .int (nI at_)), (2, .ref y), (3, .int (nI wh))]) (fun n ξ => (ξ) + n = 146) ?_ ?_ 146 0 rfl hM hS ls (lv_sub hl [0,1,2,3,4] rfl)
  · rintro k hin H locs hM hS ls hl
    try dsimp only at hl hin hM
    refine lv_iload hx hb dX4_copyRow_3 (lv_at hl 0 rfl) ?_
    refine lv_sipush (v := nI 146) hx hb dX4_copyRow_5 (by decide) ?_
    refine ni_ge (tgt := 29) hx hb k 146 (by omega) (by omega) dX4_copyRow_8 (by decide) (fun c_8 => ?_) (fun c_8 => ?_)
    · skip
      exact wr_return hx hb hr hlk hM hS (Nat.le_refl _) (Nat.le_refl _) (by rw [show va_cpy f g at_ wh 146 = va_cpy f g at_ wh k from (by rw [show k = 146 by omega])]) dX4_copyRow_29
    · skip
      exfalso; omega
  · rintro n ih k hin H locs hM hS ls hl
    try dsimp only at hl hin hM
    refine lv_iload hx hb dX4_copyRow_3 (lv_at hl 0 rfl) ?_
    refine lv_sipush (v := nI 146) hx hb dX4_copyRow_5 (by decide) ?_
    refine ni_ge (tgt := 29) hx hb k 146 (by omega) (by omega) dX4_copyRow_8 (by decide) (fun c_8 => ?_) (fun c_8 => ?_)
    · skip
      exfalso; omega
    · skip
      refine lv_aload_n hx hb dX4_copyRow_11 rfl (lv_at hl 3 rfl) ?_
      refine lv_iload_n hx hb dX4_copyRow_12 rfl (lv_at hl 4 rfl) ?_
      refine lv_iload hx hb dX4_copyRow_13 (lv_at hl 0 rfl) ?_
      refine ni_add hx hb wh k dX4_copyRow_15 ?_
      refine lv_aload_n hx hb dX4_copyRow_16 rfl (lv_at hl 1 rfl) ?_
      refine lv_iload_n hx hb dX4_copyRow_17 rfl (lv_at hl 2 rfl) ?_
      refine lv_iload hx hb dX4_copyRow_18 (lv_at hl 0 rfl) ?_
      refine ni_add hx hb at_ k dX4_copyRow_20 ?_
      refine w_iald hx hb hK hM (mu_g hxy hx_) (at_ + k) (by omega) (by omega) dX4_copyRow_21 ?_
      refine w_iast hx hb hK hM hS mu_s hA_y (wh + k) (by omega) (by omega) dX4_copyRow_22 (fun H locs hM hS => ?_)
      rw [mu_mu] at hM
      refine ni_iinc (lv' := [(4, .int (nI (k + 1))), (0, .ref x), (1, .int (nI at_)), (2, .ref y), (3, .int (nI wh))]) hx hb k 1 dX4_copyRow_23 hl (k := 0) rfl (by decide) (by decide) rfl (fun ls hl => ?_)
      refine lv_goto (tgt := 3) hx hb dX4_copyRow_26 (by decide) ?_
      rw [cpy_step] at hM
      exact ih (k + 1) (by omega) _ _ hM hS ls (lv_sub hl [0,1,2,3,4] rfl)
set_option maxHeartbeats 4000000 in
set_option maxRecDepth 100000 in
theorem met_X4_apply (l : Launch) {D : va_G} {cI cJ : ClassId} {M : MP} {A : Nat → Prop} {sz : Nat} (w a b : Nat) (f : Nat → Int32) (hw : M w = some (eI cI 146 f)) (ha : a < 64) (hb2 : b < 64) (hP : WfP f) (hB : WfB f) (hA_w : A w) : Wr l yX4_apply cX4_apply 7 (some .int) 1 0 0 D cI cJ [.ref w, .int (nI a), .int (nI b)] M sz A (some (.int (nI (pcN f b % 8)))) (fun M' => M' = mu M w (eI cI 146 (mApply f a b))) := by
  refine wr_start (by decide) (Nat.le_of_ble_eq_true rfl) ?_
  intro p e s m args below meth c hx hb hr hml hown hts hlk hini hK hsz H hH0 hM hS ls hl
  clear hH0
  have hl : lv_has ls 7 [(0, .ref w), (1, .int (nI a)), (2, .int (nI b))] := hl
  have hpc := (hP b hb2).2
  have hk8 := mKindN_lt (mCap f b) a
  have hBm := WfB_mid hB ha hb2
  refine lv_aload_n hx hb dX4_apply_0 rfl (lv_at hl 0 rfl) ?_
  refine lv_iload_n hx hb dX4_apply_1 rfl (lv_at hl 2 rfl) ?_
  refine w_iald hx hb hK hM hw b (by omega) (by decide) dX4_apply_2 ?_
  refine topi (nI (pcN f b)) ((hP b hb2).1) ?_
  refine lv_istore_n (lv' := [(3, .int (nI (pcN f b))), (0, .ref w), (1, .int (nI a)), (2, .int (nI b))]) hx hb dX4_apply_3 rfl hl (by decide) rfl (fun ls hl => ?_)
  refine lv_aload_n hx hb dX4_apply_4 rfl (lv_at hl 1 rfl) ?_
  refine lv_iload_n hx hb dX4_apply_5 rfl (lv_at hl 2 rfl) ?_
  refine w_iald hx hb hK hM hw a (by omega) (by decide) dX4_apply_6 ?_
  refine lv_istore (lv' := [(4, .int (f a)), (3, .int (nI (pcN f b))), (0, .ref w), (1, .int (nI a)), (2, .int (nI b))]) hx hb dX4_apply_7 hl (by decide) rfl (fun ls hl => ?_)
  refine lv_iload_n hx hb dX4_apply_9 rfl (lv_at hl 1 rfl) ?_
  rw [← mu_id (a := w) (e := eI cI 146 f) hw] at hM
  refine meetM (D := D) (A := A) (H0 := s.heap) (nL := 7) (pcJ := 29) (st := []) (mu M w (eI cI 146 (mCap f b))) [(4, .int (f a)), (3, .int (nI (pcN f b))), (0, .ref w), (1, .int (nI a)), (2, .int (nI b))] ?_ (fun hJ29 => ?_)
  · intro H locs hM hS ls hl
    refine lv_aload_n hx hb dX4_apply_29 rfl (lv_at hl 2 rfl) ?_
    refine lv_iload_n hx hb dX4_apply_30 rfl (lv_at hl 3 rfl) ?_
    refine rd_goI (rd_runS (As := [.ref w, .int (nI a)]) (rest := []) hx hb hml hown hts hK hM okS_RX4_65_X4_kind (met_X4_kind l w a (mCap f b) mu_s (by omega)) rfl ⟨Nat.le_of_ble_eq_true rfl, Nat.le_of_ble_eq_true rfl⟩ hl.1 rfl (Nat.le_of_ble_eq_true rfl) dX4_apply_31 ⟨Nat.le_refl _, Nat.le_refl _⟩) ?_
    refine lv_bipush (v := nI 6) hx hb dX4_apply_34 (by decide) ?_
    refine meet (ls := ls) (pcJ := 44) (st := [.int (bI (mPawn f a b))]) ?_ (fun hJ44 => ?_)
    · skip
      refine lv_istore (lv' := [(5, .int (bI (mPawn f a b))), (4, .int (f a)), (3, .int (nI (pcN f b))), (0, .ref w), (1, .int (nI a)), (2, .int (nI b))]) hx hb dX4_apply_44 hl (by decide) rfl (fun ls hl => ?_)
      refine lv_aload_n hx hb dX4_apply_46 rfl (lv_at hl 3 rfl) ?_
      refine lv_sipush (v := nI 129) hx hb dX4_apply_47 (by decide) ?_
      refine lv_iload_n hx hb dX4_apply_50 rfl (lv_at hl 2 rfl) ?_
      refine meet (ls := ls) (pcJ := 70) (st := [.int (mCalm f a b), .int (nI 129), .ref w]) ?_ (fun hJ70 => ?_)
      · skip
        refine w_iast hx hb hK hM hS mu_s hA_w 129 (by omega) (by decide) dX4_apply_70 (fun H locs hM hS => ?_)
        rw [mu_mu] at hM
        refine lv_aload_n hx hb dX4_apply_71 rfl (lv_at hl 3 rfl) ?_
        refine lv_iload_n hx hb dX4_apply_72 rfl (lv_at hl 5 rfl) ?_
        refine lv_iload hx hb dX4_apply_73 (lv_at hl 0 rfl) ?_
        refine meet (ls := ls) (pcJ := 102) (st := [.int (mNewp f a b), .int (nI b), .ref w]) ?_ (fun hJ102 => ?_)
        · skip
          refine w_iast hx hb hK hM hS mu_s hA_w b (by omega) (by decide) dX4_apply_102 (fun H locs hM hS => ?_)
          rw [mu_mu] at hM
          refine lv_aload_n hx hb dX4_apply_103 rfl (lv_at hl 3 rfl) ?_
          refine lv_iload_n hx hb dX4_apply_104 rfl (lv_at hl 4 rfl) ?_
          refine lv_iconst (v := nI 0) hx hb dX4_apply_105 (by decide) ?_
          refine w_iast hx hb hK hM hS mu_s hA_w a (by omega) (by decide) dX4_apply_106 (fun H locs hM hS => ?_)
          rw [mu_mu] at hM
          replace hM : HM D (mu M w (eI cI 146 (mMid f a b))) H := hM
          refine lv_aload_n hx hb dX4_apply_107 rfl (lv_at hl 3 rfl) ?_
          refine lv_bipush (v := nI 64) hx hb dX4_apply_108 (by decide) ?_
          refine lv_iload_n hx hb dX4_apply_110 rfl (lv_at hl 4 rfl) ?_
          refine ni_add hx hb 64 a dX4_apply_111 ?_
          refine w_iald hx hb hK hM mu_s (64 + a) (by omega) (by decide) dX4_apply_112 ?_
          rcases hBm a (by omega) with eo | ⟨o, ho, eo⟩
          · refine topi (-1) eo ?_
            refine lv_istore (lv' := [(6, .int (-1)), (5, .int (bI (mPawn f a b))), (4, .int (f a)), (3, .int (nI (pcN f b))), (0, .ref w), (1, .int (nI a)), (2, .int (nI b))]) hx hb dX4_apply_113 hl (by decide) rfl (fun ls hl => ?_)
            refine lv_iload hx hb dX4_apply_115 (lv_at hl 0 rfl) ?_
            refine lv_iconst (v := (-1)) hx hb dX4_apply_117 (by decide) ?_
            refine meetM (D := D) (A := A) (H0 := s.heap) (nL := 7) (pcJ := 133) (st := []) (mu M w (eI cI 146 (mBnd (mMid f a b) a b))) [(6, .int (-1)), (5, .int (bI (mPawn f a b))), (4, .int (f a)), (3, .int (nI (pcN f b))), (0, .ref w), (1, .int (nI a)), (2, .int (nI b))] ?_ (fun hJ133 => ?_)
            · intro H locs hM hS ls hl
              refine lv_aload_n hx hb dX4_apply_133 rfl (lv_at hl 4 rfl) ?_
              refine lv_sipush (v := nI 128) hx hb dX4_apply_134 (by decide) ?_
              refine lv_bipush (v := nI 8) hx hb dX4_apply_137 (by decide) ?_
              refine lv_aload_n hx hb dX4_apply_139 rfl (lv_at hl 4 rfl) ?_
              refine lv_sipush (v := nI 128) hx hb dX4_apply_140 (by decide) ?_
              refine w_iald hx hb hK hM mu_s 128 (by omega) (by decide) dX4_apply_143 ?_
              refine lv_isub hx hb dX4_apply_144 ?_
              refine w_iast hx hb hK hM hS mu_s hA_w 128 (by omega) (by decide) dX4_apply_145 (fun H locs hM hS => ?_)
              rw [mu_mu] at hM
              refine lv_iload_n hx hb dX4_apply_146 rfl (lv_at hl 3 rfl) ?_
              refine lv_bipush (v := nI 7) hx hb dX4_apply_147 (by decide) ?_
              refine lv_iand hx hb dX4_apply_149 ?_
              exact wr_ireturn hx hb hr hlk hM hS (Nat.le_refl _) (Nat.le_refl _) (pk_andN (by omega) 3 (by decide)) (by rw [show mApply f a b = upd (mBnd (mMid f a b) a b) 128 ((nI 8) - ((mBnd (mMid f a b) a b) 128)) from rfl]) dX4_apply_150
            · skip
              refine mm_eq (tgt := 133) hx hb (-1) dX4_apply_118 (by decide) ?_
              rw [show mMid f a b = mBnd (mMid f a b) a b from (by simp [mBnd, eo])] at hM
              exact hJ133 _ _ hM hS ls (lv_sub hl [0,1,2,3,4,5,6] rfl)
          · refine topi (nI o) eo ?_
            have hnego := nI_m1 ho
            have hclo := nI_cl ho
            refine lv_istore (lv' := [(6, .int (nI o)), (5, .int (bI (mPawn f a b))), (4, .int (f a)), (3, .int (nI (pcN f b))), (0, .ref w), (1, .int (nI a)), (2, .int (nI b))]) hx hb dX4_apply_113 hl (by decide) rfl (fun ls hl => ?_)
            refine lv_iload hx hb dX4_apply_115 (lv_at hl 0 rfl) ?_
            refine lv_iconst (v := (-1)) hx hb dX4_apply_117 (by decide) ?_
            refine meetM (D := D) (A := A) (H0 := s.heap) (nL := 7) (pcJ := 133) (st := []) (mu M w (eI cI 146 (mBnd (mMid f a b) a b))) [(6, .int (nI o)), (5, .int (bI (mPawn f a b))), (4, .int (f a)), (3, .int (nI (pcN f b))), (0, .ref w), (1, .int (nI a)), (2, .int (nI b))] ?_ (fun hJ133 => ?_)
            · intro H locs hM hS ls hl
              refine lv_aload_n hx hb dX4_apply_133 rfl (lv_at hl 4 rfl) ?_
              refine lv_sipush (v := nI 128) hx hb dX4_apply_134 (by decide) ?_
              refine lv_bipush (v := nI 8) hx hb dX4_apply_137 (by decide) ?_
              refine lv_aload_n hx hb dX4_apply_139 rfl (lv_at hl 4 rfl) ?_
              refine lv_sipush (v := nI 128) hx hb dX4_apply_140 (by decide) ?_
              refine w_iald hx hb hK hM mu_s 128 (by omega) (by decide) dX4_apply_143 ?_
              refine lv_isub hx hb dX4_apply_144 ?_
              refine w_iast hx hb hK hM hS mu_s hA_w 128 (by omega) (by decide) dX4_apply_145 (fun H locs hM hS => ?_)
              rw [mu_mu] at hM
              refine lv_iload_n hx hb dX4_apply_146 rfl (lv_at hl 3 rfl) ?_
              refine lv_bipush (v := nI 7) hx hb dX4_apply_147 (by decide) ?_
              refine lv_iand hx hb dX4_apply_149 ?_
              exact wr_ireturn hx hb hr hlk hM hS (Nat.le_refl _) (Nat.le_refl _) (pk_andN (by omega) 3 (by decide)) (by rw [show mApply f a b = upd (mBnd (mMid f a b) a b) 128 ((nI 8) - ((mBnd (mMid f a b) a b) 128)) from rfl]) dX4_apply_150
            · skip
              refine nm_eq (tgt := 133) hx hb o (by omega) dX4_apply_118 (by decide) ?_
              refine lv_aload_n hx hb dX4_apply_121 rfl (lv_at hl 4 rfl) ?_
              refine lv_iload_n hx hb dX4_apply_122 rfl (lv_at hl 5 rfl) ?_
              refine wr_go0 (wr_runS (As := [.ref w, .int (nI a)]) (rest := []) hx hb hml hown hts hK hM okS_RX4_88_X4_untie (met_X4_untie l w a (mMid f a b) mu_s (by omega) hBm hA_w) rfl ⟨Nat.le_of_ble_eq_true rfl, Nat.le_of_ble_eq_true rfl⟩ hl.1 rfl (Nat.le_of_ble_eq_true rfl) dX4_apply_123 ⟨Nat.le_refl _, Nat.le_refl _⟩) hS (fun M1 H locs hR hM hS => ?_)
              obtain rfl := hR
              rw [mu_mu] at hM
              refine lv_aload_n hx hb dX4_apply_126 rfl (lv_at hl 4 rfl) ?_
              refine lv_iload_n hx hb dX4_apply_127 rfl (lv_at hl 6 rfl) ?_
              refine lv_iload hx hb dX4_apply_128 (lv_at hl 0 rfl) ?_
              refine wr_go0 (wr_runS (As := [.ref w, .int (nI b), .int (nI o)]) (rest := []) hx hb hml hown hts hK hM okS_RX4_37_X4_tie (met_X4_tie l w b o (mUntie (mMid f a b) a) mu_s (by omega) (by omega) hA_w) rfl ⟨Nat.le_of_ble_eq_true rfl, Nat.le_of_ble_eq_true rfl⟩ hl.1 rfl (Nat.le_of_ble_eq_true rfl) dX4_apply_130 ⟨Nat.le_refl _, Nat.le_refl _⟩) hS (fun M1 H locs hR hM hS => ?_)
              obtain rfl := hR
              rw [mu_mu] at hM
              rw [show mTie (mUntie (mMid f a b) a) b o = mBnd (mMid f a b) a b from (by simp [mBnd, eo, hnego, hclo])] at hM
              exact hJ133 _ _ hM hS ls (lv_sub hl [0,1,2,3,4,5,6] rfl)
        · skip
          refine zb_eq (tgt := 100) hx hb (mPawn f a b) dX4_apply_75 (by decide) (fun c_75 => ?_) (fun c_75 => ?_)
          · skip
            refine lv_iload hx hb dX4_apply_100 (lv_at hl 1 rfl) ?_
            exact topi (mNewp f a b) (by simp [mNewp, c_75]) hJ102
          · skip
            refine lv_iload_n hx hb dX4_apply_78 rfl (lv_at hl 5 rfl) ?_
            refine lv_bipush (v := nI 8) hx hb dX4_apply_79 (by decide) ?_
            refine ni_lt (tgt := 90) hx hb b 8 (by omega) (by omega) dX4_apply_81 (by decide) (fun c_81 => ?_) (fun c_81 => ?_)
            · skip
              refine lv_iload hx hb dX4_apply_90 (lv_at hl 1 rfl) ?_
              refine lv_bipush (v := nI 8) hx hb dX4_apply_92 (by decide) ?_
              refine lv_iand hx hb dX4_apply_94 ?_
              refine lv_iconst (v := nI 2) hx hb dX4_apply_95 (by decide) ?_
              refine lv_iadd hx hb dX4_apply_96 ?_
              refine lv_goto (tgt := 102) hx hb dX4_apply_97 (by decide) ?_
              exact topi (mNewp f a b) (by simp [mNewp, c_75, c_81, Nat.not_le.mpr c_81, Nat.le_of_lt c_81]) hJ102
            · skip
              refine lv_iload_n hx hb dX4_apply_84 rfl (lv_at hl 5 rfl) ?_
              refine lv_bipush (v := nI 55) hx hb dX4_apply_85 (by decide) ?_
              refine ni_le (tgt := 100) hx hb b 55 (by omega) (by omega) dX4_apply_87 (by decide) (fun c_87 => ?_) (fun c_87 => ?_)
              · skip
                refine lv_iload hx hb dX4_apply_100 (lv_at hl 1 rfl) ?_
                exact topi (mNewp f a b) (by simp [mNewp, c_75, c_81, Nat.not_lt.mpr c_81, c_87, Nat.not_lt.mpr c_87]) hJ102
              · skip
                refine lv_iload hx hb dX4_apply_90 (lv_at hl 1 rfl) ?_
                refine lv_bipush (v := nI 8) hx hb dX4_apply_92 (by decide) ?_
                refine lv_iand hx hb dX4_apply_94 ?_
                refine lv_iconst (v := nI 2) hx hb dX4_apply_95 (by decide) ?_
                refine lv_iadd hx hb dX4_apply_96 ?_
                refine lv_goto (tgt := 102) hx hb dX4_apply_97 (by decide) ?_
                exact topi (mNewp f a b) (by simp [mNewp, c_75, c_81, Nat.not_lt.mpr c_81, c_87, Nat.not_le.mpr c_87, Nat.le_of_lt c_87]) hJ102
      · skip
        refine n0_ne (tgt := 59) hx hb (pcN f b) (by omega) dX4_apply_51 (by decide) (fun c_51 => ?_) (fun c_51 => ?_)
        · skip
          refine lv_iconst (v := nI 0) hx hb dX4_apply_59 (by decide) ?_
          refine lv_goto (tgt := 70) hx hb dX4_apply_60 (by decide) ?_
          exact topi (mCalm f a b) (by simp [mCalm, c_51]) hJ70
        · skip
          refine lv_iload hx hb dX4_apply_54 (lv_at hl 0 rfl) ?_
          refine zb_eq (tgt := 63) hx hb (mPawn f a b) dX4_apply_56 (by decide) (fun c_56 => ?_) (fun c_56 => ?_)
          · skip
            refine lv_aload_n hx hb dX4_apply_63 rfl (lv_at hl 3 rfl) ?_
            refine lv_sipush (v := nI 129) hx hb dX4_apply_64 (by decide) ?_
            refine w_iald hx hb hK hM mu_s 129 (by omega) (by decide) dX4_apply_67 ?_
            refine lv_iconst (v := nI 1) hx hb dX4_apply_68 (by decide) ?_
            refine lv_iadd hx hb dX4_apply_69 ?_
            exact topi (mCalm f a b) (by simp [mCalm, c_51, c_56]) hJ70
          · skip
            refine lv_iconst (v := nI 0) hx hb dX4_apply_59 (by decide) ?_
            refine lv_goto (tgt := 70) hx hb dX4_apply_60 (by decide) ?_
            exact topi (mCalm f a b) (by simp [mCalm, c_51, c_56]) hJ70
    · skip
      refine ni_ne (tgt := 43) hx hb (mKindN (mCap f b) a) 6 (by omega) (by omega) dX4_apply_36 (by decide) (fun c_36 => ?_) (fun c_36 => ?_)
      · skip
        refine lv_iconst (v := nI 0) hx hb dX4_apply_43 (by decide) ?_
        exact topi (bI (mPawn f a b)) (by simp [mPawn, bI_t, bI_f, c_36]) hJ44
      · skip
        refine lv_iconst (v := nI 1) hx hb dX4_apply_39 (by decide) ?_
        refine lv_goto (tgt := 44) hx hb dX4_apply_40 (by decide) ?_
        exact topi (bI (mPawn f a b)) (by simp [mPawn, bI_t, bI_f, c_36]) hJ44
  · skip
    refine n0_eq (tgt := 29) hx hb (pcN f b) (by omega) dX4_apply_10 (by decide) (fun c_10 => ?_) (fun c_10 => ?_)
    · skip
      rw [show f = mCap f b from (by simp [mCap, c_10])] at hM
      exact hJ29 _ _ hM hS ls (lv_sub hl [0,1,2,3,4] rfl)
    · skip
      refine lv_aload_n hx hb dX4_apply_13 rfl (lv_at hl 2 rfl) ?_
      refine lv_sipush (v := nI 130) hx hb dX4_apply_14 (by decide) ?_
      refine lv_iload_n hx hb dX4_apply_17 rfl (lv_at hl 1 rfl) ?_
      refine ni_add hx hb 130 (pcN f b) dX4_apply_18 ?_
      refine lv_dup2_11 hx hb dX4_apply_19 rfl rfl ?_
      refine w_iald hx hb hK hM mu_s (130 + (pcN f b)) (by omega) (by decide) dX4_apply_20 ?_
      refine lv_iconst (v := nI 1) hx hb dX4_apply_21 (by decide) ?_
      refine lv_iadd hx hb dX4_apply_22 ?_
      refine w_iast hx hb hK hM hS mu_s hA_w (130 + (pcN f b)) (by omega) (by decide) dX4_apply_23 (fun H locs hM hS => ?_)
      rw [mu_mu] at hM
      refine lv_aload_n hx hb dX4_apply_24 rfl (lv_at hl 2 rfl) ?_
      refine lv_iload_n hx hb dX4_apply_25 rfl (lv_at hl 4 rfl) ?_
      refine wr_go0 (wr_runS (As := [.ref w, .int (nI b)]) (rest := []) hx hb hml hown hts hK hM okS_RX4_88_X4_untie (met_X4_untie l w b (upd f (130 + (pcN f b)) ((f (130 + (pcN f b))) + (nI 1))) mu_s (by omega) (WfB_upd hB (by omega)) hA_w) rfl ⟨Nat.le_of_ble_eq_true rfl, Nat.le_of_ble_eq_true rfl⟩ hl.1 rfl (Nat.le_of_ble_eq_true rfl) dX4_apply_26 ⟨Nat.le_refl _, Nat.le_refl _⟩) hS (fun M1 H locs hR hM hS => ?_)
      obtain rfl := hR
      rw [mu_mu] at hM
      rw [show mUntie (upd f (130 + (pcN f b)) ((f (130 + (pcN f b))) + (nI 1))) b = mCap f b from (by simp [mCap, c_10])] at hM
      exact hJ29 _ _ hM hS ls (lv_sub hl [0,1,2,3,4] rfl)
