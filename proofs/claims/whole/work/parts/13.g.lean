theorem okV_RX3_182_X3_tryMove : okV RX3 182 yX3_tryMove cX3_tryMove 3 none 2 := okV_of qw_2_55 qw_2_57 qw_0_1 qw_1_1 qw_2_58 (by decide +kernel)
theorem okV_RX3_185_X1_isMated : okV RX3 185 yX1_isMated cX1_isMated 1 (some .boolean) 0 := okV_of qw_2_84 qw_2_85 qw_2_86 qw_1_3 qw_2_87 (by decide +kernel)
theorem okV_RX3_193_X3_countPairsOfMoves : okV RX3 193 yX3_countPairsOfMoves cX3_countPairsOfMoves 9 (some .int) 0 := okV_of qw_3_153 qw_3_155 qw_0_5 qw_1_1 qw_3_156 (by decide +kernel)
set_option maxHeartbeats 4000000 in
set_option maxRecDepth 100000 in
theorem met_X3_countPairsOfMoves (l : Launch) {D : va_G} {cI cJ : ClassId} {M : MP} {A : Nat → Prop} {sz : Nat} (xo fr tr pg : Nat) (su : Bool) (bf af : Value) (nu ca qu ve : Nat) (po okk pt : Nat) (K : Nat → BitVec 64) (pp : Nat → Int32) (w bk : BitVec 64) (wa : Bool) (tok tpt : Nat) (TK : Nat → BitVec 64) (TP : Nat → Int32) (tw tb : BitVec 64) (ta : Bool) (hxo : M xo = some (.inr (2, [.ref fr, .ref tr, .ref pg, .int (bI su)]))) (hpg : M pg = some (.inr (0, [.ref po, bf, .int (nI nu), af, .int (nI ca), .int (nI qu), .int (nI ve)]))) (hpo : M po = some (.inr (1, [.ref okk, .ref pt, .long (bL w), .long (bL bk), .int (bI wa)]))) (hokk : M okk = some (eJ cJ 7 (fun ζ => bL (K ζ)))) (hpt : M pt = some (eI cI 64 pp)) (htr : M tr = some (.inr (1, [.ref tok, .ref tpt, .long (bL tw), .long (bL tb), .int (bI ta)]))) (htok : M tok = some (eJ cJ 7 (fun ζ => bL (TK ζ)))) (htpt : M tpt = some (eI cI 64 TP)) (hW : WfPt pp) (hKd : WfK K w bk) (htp : tr ≠ po) (hto : tok ≠ okk) (htq : tpt ≠ pt) (hA_tr : A tr) (hA_tok : A tok) (hA_tpt : A tpt) : Wr l yX3_countPairsOfMoves cX3_countPairsOfMoves 9 (some .int) 5 0 0 D cI cJ [.ref xo] M sz A (some (.int (nI (kPairs K pp w bk wa)))) (fun M' => ∃ TKx : Nat → BitVec 64, ∃ TPx : Nat → Int32, ∃ twx : BitVec 64, ∃ tbx : BitVec 64, ∃ tax : Bool, M' = mu (mu (mu M tr (.inr (1, [.ref tok, .ref tpt, .long (bL twx), .long (bL tbx), .int (bI tax)]))) tok (eJ cJ 7 (fun ζ => bL (TKx ζ)))) tpt (eI cI 64 TPx)) := by
  refine wr_start (by decide) (Nat.le_of_ble_eq_true rfl) ?_
  intro p e s m args below meth c hx hb hr hml hown hts hlk hini hK hsz H hH0 hM hS ls hl
  clear hH0
  have hl : lv_has ls 9 [(0, .ref xo)] := hl
  refine lv_aload_n hx hb dX3_countPairsOfMoves_0 rfl (lv_at hl 0 rfl) ?_
  refine w_get (C := RX3) (T := TX3) (N := 4) (ci := 2) hx hb hts hown hK hM inX3 rfl 2 (by decide) qw_1_104 rfl hxo rfl dX3_countPairsOfMoves_1 ?_
  refine w_get (C := RX0) (T := TX0) (N := 7) (ci := 0) hx hb hts hown hK hM inX0 rfl 0 (by decide) qw_1_63 rfl hpg rfl dX3_countPairsOfMoves_4 ?_
  refine lv_astore_n (lv' := [(1, .ref po), (0, .ref xo)]) hx hb dX3_countPairsOfMoves_7 rfl hl (by decide) rfl (fun ls hl => ?_)
  refine lv_aload_n hx hb dX3_countPairsOfMoves_8 rfl (lv_at hl 0 rfl) ?_
  refine rd_goL (rd_runV (As := []) (rest := []) hx hb hml hown hts hK hM okV_RX3_162_X1_delicateSquares (met_X1_delicateSquares l po okk pt K w bk wa hpo hokk) hpo rfl rfl rfl ⟨Nat.le_of_ble_eq_true rfl, Nat.le_of_ble_eq_true rfl⟩ hl.1 rfl (Nat.le_of_ble_eq_true rfl) dX3_countPairsOfMoves_9 ⟨Nat.le_refl _, Nat.le_refl _⟩) ?_
  refine lv_lstore_n (lv' := [(2, .long (bL (kDel K w bk wa))), (1, .ref po), (0, .ref xo)]) hx hb dX3_countPairsOfMoves_12 rfl hl (by decide) rfl (fun ls hl => ?_)
  refine lv_iconst (v := nI 0) hx hb dX3_countPairsOfMoves_13 (by decide) ?_
  refine lv_istore (lv' := [(4, .int (nI 0)), (2, .long (bL (kDel K w bk wa))), (1, .ref po), (0, .ref xo)]) hx hb dX3_countPairsOfMoves_14 hl (by decide) rfl (fun ls hl => ?_)
  refine lv_iconst (v := nI 0) hx hb dX3_countPairsOfMoves_16 (by decide) ?_
  refine lv_istore (lv' := [(5, .int (nI 0)), (4, .int (nI 0)), (2, .long (bL (kDel K w bk wa))), (1, .ref po), (0, .ref xo)]) hx hb dX3_countPairsOfMoves_17 hl (by decide) rfl (fun ls hl => ?_)
  rw [← mu_id (a := tr) (e := .inr (1, [.ref tok, .ref tpt, .long (bL tw), .long (bL tb), .int (bI ta)])) htr] at hM
  rw [← mu_id (a := tok) (e := eJ cJ 7 (fun ζ => bL (TK ζ))) (mu_g (ne_io htok htr) htok)] at hM
  rw [← mu_id (a := tpt) (e := eI cI 64 TP) (mu_g (ne_ij htpt htok) (mu_g (ne_io htpt htr) htpt))] at hM
  refine loopW (pcH := 19) (st := []) (ι := Nat × Nat × (Nat → BitVec 64) × (Nat → Int32) × BitVec 64 × BitVec 64 × Bool) (fun ξ => mu (mu (mu M tr (.inr (1, [.ref tok, .ref tpt, .long (bL (ξ.2.2.2.2.1)), .long (bL (ξ.2.2.2.2.2.1)), .int (bI (ξ.2.2.2.2.2.2))]))) tok (eJ cJ 7 (fun ζ => bL ((ξ.2.2.1) ζ)))) tpt (eI cI 64 (ξ.2.2.2.1))) (fun ξ => [(5, .int (nI (ξ.2.1))), (4, .int (nI (ξ.1))), (2, .long (bL (kDel K w bk wa))), (1, .ref po), (0, .ref xo)]) (fun n ξ => (ξ.2.1) + n = 64 ∧ kPairs K pp w bk wa = mFoldL (kPrF K pp w bk wa) (64 * n) (64 * (ξ.2.1)) (ξ.1)) ?_ ?_ 64 (0, 0, TK, TP, tw, tb, ta) ⟨by first | omega | (dsimp only <;> omega), rfl⟩ hM hS ls (lv_sub hl [0,1,2,3,4] rfl)
  · rintro ⟨r, i, TK1, TP1, tw1, tb1, ta1⟩ ⟨hi1, hr1⟩ H locs hM hS ls hl
    try dsimp only at hl hi1 hr1 hM
    refine lv_iload hx hb dX3_countPairsOfMoves_19 (lv_at hl 0 rfl) ?_
    refine lv_bipush (v := nI 64) hx hb dX3_countPairsOfMoves_21 (by decide) ?_
    refine ni_ge (tgt := 110) hx hb i 64 (by omega) (by omega) dX3_countPairsOfMoves_23 (by decide) (fun c_23 => ?_) (fun c_23 => ?_)
    · skip
      refine lv_iload hx hb dX3_countPairsOfMoves_110 (lv_at hl 1 rfl) ?_
      exact wr_ireturn hx hb hr hlk hM hS (Nat.le_refl _) (Nat.le_refl _) (by rw [hr1]; rfl) ⟨TK1, TP1, tw1, tb1, ta1, rfl⟩ dX3_countPairsOfMoves_112
    · skip
      exfalso; omega
  · rintro n ih1 ⟨r, i, TK1, TP1, tw1, tb1, ta1⟩ ⟨hi1, hr1⟩ H locs hM hS ls hl
    try dsimp only at hl hi1 hr1 hM
    refine lv_iload hx hb dX3_countPairsOfMoves_19 (lv_at hl 0 rfl) ?_
    refine lv_bipush (v := nI 64) hx hb dX3_countPairsOfMoves_21 (by decide) ?_
    refine ni_ge (tgt := 110) hx hb i 64 (by omega) (by omega) dX3_countPairsOfMoves_23 (by decide) (fun c_23 => ?_) (fun c_23 => ?_)
    · skip
      exfalso; omega
    · skip
      refine lv_aload_n hx hb dX3_countPairsOfMoves_26 rfl (lv_at hl 3 rfl) ?_
      refine rd_goL (rd_runV (As := []) (rest := []) hx hb hml hown hts hK hM okV_RX3_159_X1_acting (met_X1_acting l po okk pt w bk wa (mu_g (ne_oi hpo htpt) (mu_g (ne_oi hpo htok) (mu_g (Ne.symm htp) hpo)))) (mu_g (ne_oi hpo htpt) (mu_g (ne_oi hpo htok) (mu_g (Ne.symm htp) hpo))) rfl rfl rfl ⟨Nat.le_of_ble_eq_true rfl, Nat.le_of_ble_eq_true rfl⟩ hl.1 rfl (Nat.le_of_ble_eq_true rfl) dX3_countPairsOfMoves_27 ⟨Nat.le_refl _, Nat.le_refl _⟩) ?_
      refine lv_iload hx hb dX3_countPairsOfMoves_30 (lv_at hl 0 rfl) ?_
      refine rd_goI (rd_runS (As := [.long (bL (kSide w bk wa)), .int (nI i)]) (rest := []) hx hb hml hown hts hK hM okS_RX3_104_X3_has (met_X3_has l (kSide w bk wa) i (by omega)) rfl ⟨Nat.le_of_ble_eq_true rfl, Nat.le_of_ble_eq_true rfl⟩ hl.1 rfl (Nat.le_of_ble_eq_true rfl) dX3_countPairsOfMoves_32 ⟨Nat.le_refl _, Nat.le_refl _⟩) ?_
      refine meet (ls := ls) (pcJ := 49) (st := [.long (bL (kTg1 K pp w bk wa i))]) ?_ (fun hJ49 => ?_)
      · skip
        refine lv_lstore (lv' := [(6, .long (bL (kTg1 K pp w bk wa i))), (5, .int (nI i)), (4, .int (nI r)), (2, .long (bL (kDel K w bk wa))), (1, .ref po), (0, .ref xo)]) hx hb dX3_countPairsOfMoves_49 hl (by decide) rfl (fun ls hl => ?_)
        refine lv_iconst (v := nI 0) hx hb dX3_countPairsOfMoves_51 (by decide) ?_
        refine lv_istore (lv' := [(8, .int (nI 0)), (6, .long (bL (kTg1 K pp w bk wa i))), (5, .int (nI i)), (4, .int (nI r)), (2, .long (bL (kDel K w bk wa))), (1, .ref po), (0, .ref xo)]) hx hb dX3_countPairsOfMoves_52 hl (by decide) rfl (fun ls hl => ?_)
        refine loopW (pcH := 54) (st := []) (ι := Nat × Nat × (Nat → BitVec 64) × (Nat → Int32) × BitVec 64 × BitVec 64 × Bool) (fun ξ => mu (mu (mu M tr (.inr (1, [.ref tok, .ref tpt, .long (bL (ξ.2.2.2.2.1)), .long (bL (ξ.2.2.2.2.2.1)), .int (bI (ξ.2.2.2.2.2.2))]))) tok (eJ cJ 7 (fun ζ => bL ((ξ.2.2.1) ζ)))) tpt (eI cI 64 (ξ.2.2.2.1))) (fun ξ => [(8, .int (nI (ξ.2.1))), (6, .long (bL (kTg1 K pp w bk wa i))), (5, .int (nI i)), (4, .int (nI (ξ.1))), (2, .long (bL (kDel K w bk wa))), (1, .ref po), (0, .ref xo)]) (fun n ξ => (ξ.2.1) + n = 64 ∧ kPairs K pp w bk wa = mFoldL (kPrF K pp w bk wa) (n + 64 * (63 - i)) (64 * i + (ξ.2.1)) (ξ.1)) ?_ ?_ 64 (r, 0, TK1, TP1, tw1, tb1, ta1) ⟨by first | omega | (dsimp only <;> omega), hr1.trans (by rw [show 64 * (n + 1) = 64 + 64 * (63 - i) by omega]; rfl)⟩ hM hS ls (lv_sub hl [0,1,2,3,4,5,6] rfl)
        · rintro ⟨r2, t, TK2, TP2, tw2, tb2, ta2⟩ ⟨hi2, hr2⟩ H locs hM hS ls hl
          try dsimp only at hl hi2 hr2 hM
          refine lv_iload hx hb dX3_countPairsOfMoves_54 (lv_at hl 0 rfl) ?_
          refine lv_bipush (v := nI 64) hx hb dX3_countPairsOfMoves_56 (by decide) ?_
          refine ni_ge (tgt := 104) hx hb t 64 (by omega) (by omega) dX3_countPairsOfMoves_58 (by decide) (fun c_58 => ?_) (fun c_58 => ?_)
          · skip
            refine ni_iinc (lv' := [(5, .int (nI (i + 1))), (8, .int (nI t)), (6, .long (bL (kTg1 K pp w bk wa i))), (4, .int (nI r2)), (2, .long (bL (kDel K w bk wa))), (1, .ref po), (0, .ref xo)]) hx hb i 1 dX3_countPairsOfMoves_104 hl (k := 2) rfl (by decide) (by decide) rfl (fun ls hl => ?_)
            refine lv_goto (tgt := 19) hx hb dX3_countPairsOfMoves_107 (by decide) ?_
            exact ih1 (r2, i + 1, TK2, TP2, tw2, tb2, ta2) ⟨by first | omega | (dsimp only <;> omega), hr2.trans (by dsimp only; congr 1 <;> omega)⟩ _ _ hM hS ls (lv_sub hl [0,3,4,5,6] rfl)
          · skip
            exfalso; omega
        · rintro n ih2 ⟨r2, t, TK2, TP2, tw2, tb2, ta2⟩ ⟨hi2, hr2⟩ H locs hM hS ls hl
          try dsimp only at hl hi2 hr2 hM
          refine lv_iload hx hb dX3_countPairsOfMoves_54 (lv_at hl 0 rfl) ?_
          refine lv_bipush (v := nI 64) hx hb dX3_countPairsOfMoves_56 (by decide) ?_
          refine ni_ge (tgt := 104) hx hb t 64 (by omega) (by omega) dX3_countPairsOfMoves_58 (by decide) (fun c_58 => ?_) (fun c_58 => ?_)
          · skip
            exfalso; omega
          · skip
            refine lv_lload hx hb dX3_countPairsOfMoves_61 (lv_at hl 1 rfl) ?_
            refine lb_const hx hb 0#64 dX3_countPairsOfMoves_63 rfl ?_
            refine lb_ceq (tgt := 104) hx hb dX3_countPairsOfMoves_64 dX3_countPairsOfMoves_65 (by decide) (fun c_65 => ?_) (fun c_65 => ?_)
            · skip
              refine ni_iinc (lv' := [(5, .int (nI (i + 1))), (8, .int (nI t)), (6, .long (bL (kTg1 K pp w bk wa i))), (4, .int (nI r2)), (2, .long (bL (kDel K w bk wa))), (1, .ref po), (0, .ref xo)]) hx hb i 1 dX3_countPairsOfMoves_104 hl (k := 2) rfl (by decide) (by decide) rfl (fun ls hl => ?_)
              refine lv_goto (tgt := 19) hx hb dX3_countPairsOfMoves_107 (by decide) ?_
              exact ih1 (r2, i + 1, TK2, TP2, tw2, tb2, ta2) ⟨by first | omega | (dsimp only <;> omega), hr2.trans ((kPr_skip (n := n + 1) c_65 (by omega)).trans (by dsimp only; congr 1 <;> omega))⟩ _ _ hM hS ls (lv_sub hl [0,3,4,5,6] rfl)
            · skip
              refine lv_lload hx hb dX3_countPairsOfMoves_68 (lv_at hl 1 rfl) ?_
              refine lv_iload hx hb dX3_countPairsOfMoves_70 (lv_at hl 0 rfl) ?_
              refine rd_goI (rd_runS (As := [.long (bL (kTg1 K pp w bk wa i)), .int (nI t)]) (rest := []) hx hb hml hown hts hK hM okS_RX3_104_X3_has (met_X3_has l (kTg1 K pp w bk wa i) t (by omega)) rfl ⟨Nat.le_of_ble_eq_true rfl, Nat.le_of_ble_eq_true rfl⟩ hl.1 rfl (Nat.le_of_ble_eq_true rfl) dX3_countPairsOfMoves_72 ⟨Nat.le_refl _, Nat.le_refl _⟩) ?_
              refine zb_eq (tgt := 98) hx hb ((kTg1 K pp w bk wa i).getLsbD t) dX3_countPairsOfMoves_75 (by decide) (fun c_75 => ?_) (fun c_75 => ?_)
              · skip
                refine ni_iinc (lv' := [(8, .int (nI (t + 1))), (6, .long (bL (kTg1 K pp w bk wa i))), (5, .int (nI i)), (4, .int (nI r2)), (2, .long (bL (kDel K w bk wa))), (1, .ref po), (0, .ref xo)]) hx hb t 1 dX3_countPairsOfMoves_98 hl (k := 0) rfl (by decide) (by decide) rfl (fun ls hl => ?_)
                refine lv_goto (tgt := 54) hx hb dX3_countPairsOfMoves_101 (by decide) ?_
                exact ih2 (r2, t + 1, TK2, TP2, tw2, tb2, ta2) ⟨by first | omega | (dsimp only <;> omega), hr2.trans ((mFoldL_s _ _ _ _ _).trans (by rw [kPrF_f (by omega) c_75]; rfl))⟩ _ _ hM hS ls (lv_sub hl [0,1,2,3,4,5,6] rfl)
              · skip
                refine lv_aload_n hx hb dX3_countPairsOfMoves_78 rfl (lv_at hl 6 rfl) ?_
                refine lv_iload hx hb dX3_countPairsOfMoves_79 (lv_at hl 2 rfl) ?_
                refine lv_iload hx hb dX3_countPairsOfMoves_81 (lv_at hl 0 rfl) ?_
                refine wr_go0 (wr_runV (As := [.int (nI i), .int (nI t)]) (rest := []) hx hb hml hown hts hK hM okV_RX3_182_X3_tryMove (met_X3_tryMove l xo fr tr pg su bf af nu ca qu ve po okk pt K pp w bk wa i t tok tpt TK2 TP2 tw2 tb2 ta2 (mu_g (ne_oi hxo htpt) (mu_g (ne_oi hxo htok) (mu_g (ne_oo hxo htr (by decide)) hxo))) (mu_g (ne_oi hpg htpt) (mu_g (ne_oi hpg htok) (mu_g (ne_oo hpg htr (by decide)) hpg))) (mu_g (ne_oi hpo htpt) (mu_g (ne_oi hpo htok) (mu_g (Ne.symm htp) hpo))) (mu_g (ne_ji hokk htpt) (mu_g (Ne.symm hto) (mu_g (ne_io hokk htr) hokk))) (mu_g (Ne.symm htq) (mu_g (ne_ij hpt htok) (mu_g (ne_io hpt htr) hpt))) (mu_g (ne_oi htr htpt) (mu_g (ne_oi htr htok) mu_s)) (mu_g (ne_ji htok htpt) mu_s) mu_s (by omega) (by omega) (kTg1_k hKd (by omega) c_75) hW htp hA_tr hA_tok hA_tpt) (mu_g (ne_oi hxo htpt) (mu_g (ne_oi hxo htok) (mu_g (ne_oo hxo htr (by decide)) hxo))) rfl rfl rfl ⟨Nat.le_of_ble_eq_true rfl, Nat.le_of_ble_eq_true rfl⟩ hl.1 rfl (Nat.le_of_ble_eq_true rfl) dX3_countPairsOfMoves_83 ⟨Nat.le_refl _, Nat.le_refl _⟩) hS (fun M1 H locs hR hM hS => ?_)
                obtain rfl := hR
                rw [mu_comm (ne_io htpt htr), mu_comm (ne_io htok htr), mu_mu] at hM
                rw [mu_comm (ne_ij htpt htok), mu_mu] at hM
                rw [mu_mu] at hM
                refine lv_iload hx hb dX3_countPairsOfMoves_86 (lv_at hl 3 rfl) ?_
                refine lv_aload_n hx hb dX3_countPairsOfMoves_88 rfl (lv_at hl 6 rfl) ?_
                refine w_get (C := RX3) (T := TX3) (N := 4) (ci := 2) hx hb hts hown hK hM inX3 rfl 1 (by decide) qw_1_103 rfl (mu_g (ne_oi hxo htpt) (mu_g (ne_oi hxo htok) (mu_g (ne_oo hxo htr (by decide)) hxo))) rfl dX3_countPairsOfMoves_89 ?_
                refine rd_goI (rd_runV (As := []) (rest := [.int (nI r2)]) hx hb hml hown hts hK hM okV_RX3_169_X1_lawfulMoveCount (met_X1_lawfulMoveCount l tr tok tpt (kShK K (i) (t)) (kShP pp (i) (t)) (kShW w (i) (t) (w.getLsbD (i))) (kShW bk (i) (t) (!w.getLsbD (i))) (!wa) (mu_g (ne_oi htr htpt) (mu_g (ne_oi htr htok) mu_s)) (mu_g (ne_ji htok htpt) mu_s) mu_s (WfPt_sh hW (by omega) (by omega))) (mu_g (ne_oi htr htpt) (mu_g (ne_oi htr htok) mu_s)) rfl rfl rfl ⟨Nat.le_of_ble_eq_true rfl, Nat.le_of_ble_eq_true rfl⟩ hl.1 rfl (Nat.le_of_ble_eq_true rfl) dX3_countPairsOfMoves_92 ⟨Nat.le_refl _, Nat.le_refl _⟩) ?_
                refine ni_add hx hb r2 (kCnt (kShK K (i) (t)) (kShP pp (i) (t)) (kShW w (i) (t) (w.getLsbD (i))) (kShW bk (i) (t) (!w.getLsbD (i))) (!wa)) dX3_countPairsOfMoves_95 ?_
                refine lv_istore (lv' := [(4, .int (nI (r2 + (kCnt (kShK K (i) (t)) (kShP pp (i) (t)) (kShW w (i) (t) (w.getLsbD (i))) (kShW bk (i) (t) (!w.getLsbD (i))) (!wa))))), (8, .int (nI t)), (6, .long (bL (kTg1 K pp w bk wa i))), (5, .int (nI i)), (2, .long (bL (kDel K w bk wa))), (1, .ref po), (0, .ref xo)]) hx hb dX3_countPairsOfMoves_96 hl (by decide) rfl (fun ls hl => ?_)
                refine ni_iinc (lv' := [(8, .int (nI (t + 1))), (4, .int (nI (r2 + (kCnt (kShK K (i) (t)) (kShP pp (i) (t)) (kShW w (i) (t) (w.getLsbD (i))) (kShW bk (i) (t) (!w.getLsbD (i))) (!wa))))), (6, .long (bL (kTg1 K pp w bk wa i))), (5, .int (nI i)), (2, .long (bL (kDel K w bk wa))), (1, .ref po), (0, .ref xo)]) hx hb t 1 dX3_countPairsOfMoves_98 hl (k := 1) rfl (by decide) (by decide) rfl (fun ls hl => ?_)
                refine lv_goto (tgt := 54) hx hb dX3_countPairsOfMoves_101 (by decide) ?_
                exact ih2 (r2 + (kCnt (kShK K (i) (t)) (kShP pp (i) (t)) (kShW w (i) (t) (w.getLsbD (i))) (kShW bk (i) (t) (!w.getLsbD (i))) (!wa)), t + 1, kShK K (i) (t), kShP pp (i) (t), kShW w (i) (t) (w.getLsbD (i)), kShW bk (i) (t) (!w.getLsbD (i)), !wa) ⟨by first | omega | (dsimp only <;> omega), hr2.trans ((mFoldL_s _ _ _ _ _).trans (by rw [kPrF_t (by omega) c_75]; rfl))⟩ _ _ hM hS ls (lv_sub hl [0,2,3,1,4,5,6] rfl)
      · skip
        refine zb_eq (tgt := 48) hx hb ((kSide w bk wa).getLsbD i) dX3_countPairsOfMoves_35 (by decide) (fun c_35 => ?_) (fun c_35 => ?_)
        · skip
          refine lb_const hx hb 0#64 dX3_countPairsOfMoves_48 rfl ?_
          exact topl (bL (kTg1 K pp w bk wa i)) (by unfold kTg1; rw [c_35]; rfl) hJ49
        · skip
          refine lv_aload_n hx hb dX3_countPairsOfMoves_38 rfl (lv_at hl 3 rfl) ?_
          refine lv_iload hx hb dX3_countPairsOfMoves_39 (lv_at hl 0 rfl) ?_
          refine lv_lload_n hx hb dX3_countPairsOfMoves_41 rfl (lv_at hl 2 rfl) ?_
          refine rd_goL (rd_runV (As := [.int (nI i), .long (bL (kDel K w bk wa))]) (rest := []) hx hb hml hown hts hK hM okV_RX3_165_X1_lawfulTargets (met_X1_lawfulTargets l po okk pt K pp w bk wa i (kDel K w bk wa) (mu_g (ne_oi hpo htpt) (mu_g (ne_oi hpo htok) (mu_g (Ne.symm htp) hpo))) (mu_g (ne_ji hokk htpt) (mu_g (Ne.symm hto) (mu_g (ne_io hokk htr) hokk))) (mu_g (Ne.symm htq) (mu_g (ne_ij hpt htok) (mu_g (ne_io hpt htr) hpt))) (by omega) hW) (mu_g (ne_oi hpo htpt) (mu_g (ne_oi hpo htok) (mu_g (Ne.symm htp) hpo))) rfl rfl rfl ⟨Nat.le_of_ble_eq_true rfl, Nat.le_of_ble_eq_true rfl⟩ hl.1 rfl (Nat.le_of_ble_eq_true rfl) dX3_countPairsOfMoves_42 ⟨Nat.le_refl _, Nat.le_refl _⟩) ?_
          refine lv_goto (tgt := 49) hx hb dX3_countPairsOfMoves_45 (by decide) ?_
          exact topl (bL (kTg1 K pp w bk wa i)) (by unfold kTg1; rw [c_35]; rfl) hJ49
set_option maxHeartbeats 4000000 in
set_option maxRecDepth 100000 in
theorem met_X3_countSequences_2 (l : Launch) {D : va_G} {cI cJ : ClassId} {M : MP} {A : Nat → Prop} {sz : Nat} (xo fr tr pg : Nat) (su : Bool) (bf af : Value) (nu ca qu ve : Nat) (po okk pt : Nat) (K : Nat → BitVec 64) (pp : Nat → Int32) (w bk : BitVec 64) (wa : Bool) (tok tpt : Nat) (TK : Nat → BitVec 64) (TP : Nat → Int32) (tw tb : BitVec 64) (ta : Bool) (hxo : M xo = some (.inr (2, [.ref fr, .ref tr, .ref pg, .int (bI su)]))) (hpg : M pg = some (.inr (0, [.ref po, bf, .int (nI nu), af, .int (nI ca), .int (nI qu), .int (nI ve)]))) (hpo : M po = some (.inr (1, [.ref okk, .ref pt, .long (bL w), .long (bL bk), .int (bI wa)]))) (hokk : M okk = some (eJ cJ 7 (fun ζ => bL (K ζ)))) (hpt : M pt = some (eI cI 64 pp)) (htr : M tr = some (.inr (1, [.ref tok, .ref tpt, .long (bL tw), .long (bL tb), .int (bI ta)]))) (htok : M tok = some (eJ cJ 7 (fun ζ => bL (TK ζ)))) (htpt : M tpt = some (eI cI 64 TP)) (hsu : su = false) (hW : WfPt pp) (hKd : WfK K w bk) (htp : tr ≠ po) (hto : tok ≠ okk) (htq : tpt ≠ pt) (hA_tr : A tr) (hA_tok : A tok) (hA_tpt : A tpt) : Wr l yX3_countSequences cX3_countSequences 2 (some .int) 6 0 0 D cI cJ [.ref xo, .int (nI 2)] M sz A (some (.int (nI (kPairs K pp w bk wa)))) (fun M' => ∃ TKx : Nat → BitVec 64, ∃ TPx : Nat → Int32, ∃ twx : BitVec 64, ∃ tbx : BitVec 64, ∃ tax : Bool, M' = mu (mu (mu M tr (.inr (1, [.ref tok, .ref tpt, .long (bL twx), .long (bL tbx), .int (bI tax)]))) tok (eJ cJ 7 (fun ζ => bL (TKx ζ)))) tpt (eI cI 64 TPx)) := by
  refine wr_start (by decide) (Nat.le_of_ble_eq_true rfl) ?_
  intro p e s m args below meth c hx hb hr hml hown hts hlk hini hK hsz H hH0 hM hS ls hl
  clear hH0
  have hl : lv_has ls 2 [(0, .ref xo), (1, .int (nI 2))] := hl
  refine lv_iload_n hx hb dX3_countSequences_0 rfl (lv_at hl 1 rfl) ?_
  refine lv_iconst (v := nI 1) hx hb dX3_countSequences_1 (by decide) ?_
  refine ni_eq (tgt := 20) hx hb 2 1 (by omega) (by omega) dX3_countSequences_2 (by decide) (fun c_2 => ?_) (fun c_2 => ?_)
  · skip
    exfalso; omega
  · skip
    refine lv_iload_n hx hb dX3_countSequences_5 rfl (lv_at hl 1 rfl) ?_
    refine lv_iconst (v := nI 2) hx hb dX3_countSequences_6 (by decide) ?_
    refine mm_eq (tgt := 20) hx hb (nI 2) dX3_countSequences_7 (by decide) ?_
    refine lv_aload_n hx hb dX3_countSequences_20 rfl (lv_at hl 0 rfl) ?_
    refine w_get (C := RX3) (T := TX3) (N := 4) (ci := 2) hx hb hts hown hK hM inX3 rfl 3 (by decide) qw_1_105 rfl hxo rfl dX3_countSequences_21 ?_
    refine topi (bI false) (by rw [hsu]) ?_
    refine zb_eq (tgt := 29) hx hb false dX3_countSequences_24 (by decide) (fun _ => ?_) (fun h => absurd (h.symm.trans (rfl : false = false)) (by decide))
    refine lv_iload_n hx hb dX3_countSequences_29 rfl (lv_at hl 1 rfl) ?_
    refine lv_iconst (v := nI 1) hx hb dX3_countSequences_30 (by decide) ?_
    refine ni_ne (tgt := 47) hx hb 2 1 (by omega) (by omega) dX3_countSequences_31 (by decide) (fun c_31 => ?_) (fun c_31 => ?_)
    · skip
      refine lv_aload_n hx hb dX3_countSequences_47 rfl (lv_at hl 0 rfl) ?_
      refine wr_go0 (wr_runV (As := []) (rest := []) hx hb hml hown hts hK hM okV_RX3_193_X3_countPairsOfMoves (met_X3_countPairsOfMoves l xo fr tr pg su bf af nu ca qu ve po okk pt K pp w bk wa tok tpt TK TP tw tb ta hxo hpg hpo hokk hpt htr htok htpt hW hKd htp hto htq hA_tr hA_tok hA_tpt) hxo rfl rfl rfl ⟨Nat.le_of_ble_eq_true rfl, Nat.le_of_ble_eq_true rfl⟩ hl.1 rfl (Nat.le_of_ble_eq_true rfl) dX3_countSequences_48 ⟨Nat.le_refl _, Nat.le_refl _⟩) hS (fun M1 H locs hR hM hS => ?_)
      obtain ⟨TKx_48, TPx_48, twx_48, tbx_48, tax_48, rfl⟩ := hR
      exact wr_ireturn hx hb hr hlk hM hS (Nat.le_refl _) (Nat.le_refl _) rfl ⟨TKx_48, TPx_48, twx_48, tbx_48, tax_48, rfl⟩ dX3_countSequences_51
    · skip
      exfalso; omega
set_option maxHeartbeats 4000000 in
set_option maxRecDepth 100000 in
theorem met_X3_matingMove_n (l : Launch) {D : va_G} {cI cJ : ClassId} {M : MP} {A : Nat → Prop} {sz : Nat} (xo fr tr pg : Nat) (su : Bool) (bf af : Value) (nu ca qu ve : Nat) (po okk pt : Nat) (K : Nat → BitVec 64) (pp : Nat → Int32) (w bk : BitVec 64) (wa : Bool)  (hxo : M xo = some (.inr (2, [.ref fr, .ref tr, .ref pg, .int (bI su)]))) (hpg : M pg = some (.inr (0, [.ref po, bf, .int (nI nu), af, .int (nI ca), .int (nI qu), .int (nI ve)]))) (hpo : M po = some (.inr (1, [.ref okk, .ref pt, .long (bL w), .long (bL bk), .int (bI wa)]))) (hokk : M okk = some (eJ cJ 7 (fun ζ => bL (K ζ)))) (hpt : M pt = some (eI cI 64 pp)) (hve : ve < 2 ^ 31) (hpl : kPl su ve = false) : Wr l yX3_matingMove cX3_matingMove 8 (some .int) 6 0 0 D cI cJ [.ref xo] M sz A (some (.int (-1))) (fun M' => M' = M) := by
  refine wr_start (by decide) (Nat.le_of_ble_eq_true rfl) ?_
  intro p e s m args below meth c hx hb hr hml hown hts hlk hini hK hsz H hH0 hM hS ls hl
  clear hH0
  have hl : lv_has ls 8 [(0, .ref xo)] := hl
  refine lv_aload_n hx hb dX3_matingMove_0 rfl (lv_at hl 0 rfl) ?_
  refine rd_goI (rd_runV (As := []) (rest := []) hx hb hml hown hts hK hM okV_RX3_155_X3_isPlayed (met_X3_isPlayed l xo fr tr pg su bf af nu ca qu ve po hxo hpg (by omega)) hxo rfl rfl rfl ⟨Nat.le_of_ble_eq_true rfl, Nat.le_of_ble_eq_true rfl⟩ hl.1 rfl (Nat.le_of_ble_eq_true rfl) dX3_matingMove_1 ⟨Nat.le_refl _, Nat.le_refl _⟩) ?_
  refine topi (bI false) (by rw [hpl]) ?_
  refine zb_ne (tgt := 9) hx hb false dX3_matingMove_4 (by decide) (fun h => absurd (h.symm.trans (rfl : false = false)) (by decide)) (fun _ => ?_)
  refine lv_iconst (v := (-1)) hx hb dX3_matingMove_7 (by decide) ?_
  exact wr_ireturn hx hb hr hlk hM hS (Nat.le_refl _) (Nat.le_refl _) rfl rfl dX3_matingMove_8
set_option maxHeartbeats 4000000 in
set_option maxRecDepth 100000 in
theorem met_X3_matingMove (l : Launch) {D : va_G} {cI cJ : ClassId} {M : MP} {A : Nat → Prop} {sz : Nat} (xo fr tr pg : Nat) (su : Bool) (bf af : Value) (nu ca qu ve : Nat) (po okk pt : Nat) (K : Nat → BitVec 64) (pp : Nat → Int32) (w bk : BitVec 64) (wa : Bool) (tok tpt : Nat) (TK : Nat → BitVec 64) (TP : Nat → Int32) (tw tb : BitVec 64) (ta : Bool) (hxo : M xo = some (.inr (2, [.ref fr, .ref tr, .ref pg, .int (bI su)]))) (hpg : M pg = some (.inr (0, [.ref po, bf, .int (nI nu), af, .int (nI ca), .int (nI qu), .int (nI ve)]))) (hpo : M po = some (.inr (1, [.ref okk, .ref pt, .long (bL w), .long (bL bk), .int (bI wa)]))) (hokk : M okk = some (eJ cJ 7 (fun ζ => bL (K ζ)))) (hpt : M pt = some (eI cI 64 pp)) (htr : M tr = some (.inr (1, [.ref tok, .ref tpt, .long (bL tw), .long (bL tb), .int (bI ta)]))) (htok : M tok = some (eJ cJ 7 (fun ζ => bL (TK ζ)))) (htpt : M tpt = some (eI cI 64 TP)) (hve : ve < 2 ^ 31) (hpl : kPl su ve = true) (hW : WfPt pp) (hKd : WfK K w bk) (htp : tr ≠ po) (hto : tok ≠ okk) (htq : tpt ≠ pt) (hA_tr : A tr) (hA_tok : A tok) (hA_tpt : A tpt) : Wr l yX3_matingMove cX3_matingMove 8 (some .int) 6 0 0 D cI cJ [.ref xo] M sz A (some (.int (oI (kMating K pp w bk wa)))) (fun M' => ∃ TKx : Nat → BitVec 64, ∃ TPx : Nat → Int32, ∃ twx : BitVec 64, ∃ tbx : BitVec 64, ∃ tax : Bool, M' = mu (mu (mu M tr (.inr (1, [.ref tok, .ref tpt, .long (bL twx), .long (bL tbx), .int (bI tax)]))) tok (eJ cJ 7 (fun ζ => bL (TKx ζ)))) tpt (eI cI 64 TPx)) := by
  refine wr_start (by decide) (Nat.le_of_ble_eq_true rfl) ?_
  intro p e s m args below meth c hx hb hr hml hown hts hlk hini hK hsz H hH0 hM hS ls hl
  clear hH0
  have hl : lv_has ls 8 [(0, .ref xo)] := hl
  refine lv_aload_n hx hb dX3_matingMove_0 rfl (lv_at hl 0 rfl) ?_
  refine rd_goI (rd_runV (As := []) (rest := []) hx hb hml hown hts hK hM okV_RX3_155_X3_isPlayed (met_X3_isPlayed l xo fr tr pg su bf af nu ca qu ve po hxo hpg (by omega)) hxo rfl rfl rfl ⟨Nat.le_of_ble_eq_true rfl, Nat.le_of_ble_eq_true rfl⟩ hl.1 rfl (Nat.le_of_ble_eq_true rfl) dX3_matingMove_1 ⟨Nat.le_refl _, Nat.le_refl _⟩) ?_
  refine topi (bI true) (by rw [hpl]) ?_
  refine zb_ne (tgt := 9) hx hb true dX3_matingMove_4 (by decide) (fun _ => ?_) (fun h => absurd (h.symm.trans (rfl : true = true)) (by decide))
  refine lv_aload_n hx hb dX3_matingMove_9 rfl (lv_at hl 0 rfl) ?_
  refine w_get (C := RX3) (T := TX3) (N := 4) (ci := 2) hx hb hts hown hK hM inX3 rfl 2 (by decide) qw_1_104 rfl hxo rfl dX3_matingMove_10 ?_
  refine w_get (C := RX0) (T := TX0) (N := 7) (ci := 0) hx hb hts hown hK hM inX0 rfl 0 (by decide) qw_1_63 rfl hpg rfl dX3_matingMove_13 ?_
  refine lv_astore_n (lv' := [(1, .ref po), (0, .ref xo)]) hx hb dX3_matingMove_16 rfl hl (by decide) rfl (fun ls hl => ?_)
  refine lv_aload_n hx hb dX3_matingMove_17 rfl (lv_at hl 0 rfl) ?_
  refine rd_goL (rd_runV (As := []) (rest := []) hx hb hml hown hts hK hM okV_RX3_162_X1_delicateSquares (met_X1_delicateSquares l po okk pt K w bk wa hpo hokk) hpo rfl rfl rfl ⟨Nat.le_of_ble_eq_true rfl, Nat.le_of_ble_eq_true rfl⟩ hl.1 rfl (Nat.le_of_ble_eq_true rfl) dX3_matingMove_18 ⟨Nat.le_refl _, Nat.le_refl _⟩) ?_
  refine lv_lstore_n (lv' := [(2, .long (bL (kDel K w bk wa))), (1, .ref po), (0, .ref xo)]) hx hb dX3_matingMove_21 rfl hl (by decide) rfl (fun ls hl => ?_)
  refine lv_iconst (v := nI 0) hx hb dX3_matingMove_22 (by decide) ?_
  refine lv_istore (lv' := [(4, .int (nI 0)), (2, .long (bL (kDel K w bk wa))), (1, .ref po), (0, .ref xo)]) hx hb dX3_matingMove_23 hl (by decide) rfl (fun ls hl => ?_)
  rw [← mu_id (a := tr) (e := .inr (1, [.ref tok, .ref tpt, .long (bL tw), .long (bL tb), .int (bI ta)])) htr] at hM
  rw [← mu_id (a := tok) (e := eJ cJ 7 (fun ζ => bL (TK ζ))) (mu_g (ne_io htok htr) htok)] at hM
  rw [← mu_id (a := tpt) (e := eI cI 64 TP) (mu_g (ne_ij htpt htok) (mu_g (ne_io htpt htr) htpt))] at hM
  refine loopW (pcH := 25) (st := []) (ι := Nat × (Nat → BitVec 64) × (Nat → Int32) × BitVec 64 × BitVec 64 × Bool) (fun ξ => mu (mu (mu M tr (.inr (1, [.ref tok, .ref tpt, .long (bL (ξ.2.2.2.1)), .long (bL (ξ.2.2.2.2.1)), .int (bI (ξ.2.2.2.2.2))]))) tok (eJ cJ 7 (fun ζ => bL ((ξ.2.1) ζ)))) tpt (eI cI 64 (ξ.2.2.1))) (fun ξ => [(4, .int (nI (ξ.1))), (2, .long (bL (kDel K w bk wa))), (1, .ref po), (0, .ref xo)]) (fun n ξ => (ξ.1) + n = 64 ∧ kMating K pp w bk wa = mFirst (kMaF K pp w bk wa) (64 * n) (64 * (ξ.1))) ?_ ?_ 64 (0, TK, TP, tw, tb, ta) ⟨by first | omega | (dsimp only <;> omega), rfl⟩ hM hS ls (lv_sub hl [0,1,2,3] rfl)
  · rintro ⟨i, TK1, TP1, tw1, tb1, ta1⟩ ⟨hi1, hr1⟩ H locs hM hS ls hl
    try dsimp only at hl hi1 hr1 hM
    refine lv_iload hx hb dX3_matingMove_25 (lv_at hl 0 rfl) ?_
    refine lv_bipush (v := nI 64) hx hb dX3_matingMove_27 (by decide) ?_
    refine ni_ge (tgt := 123) hx hb i 64 (by omega) (by omega) dX3_matingMove_29 (by decide) (fun c_29 => ?_) (fun c_29 => ?_)
    · skip
      refine lv_iconst (v := (-1)) hx hb dX3_matingMove_123 (by decide) ?_
      exact wr_ireturn hx hb hr hlk hM hS (Nat.le_refl _) (Nat.le_refl _) (by rw [hr1]; rfl) ⟨TK1, TP1, tw1, tb1, ta1, rfl⟩ dX3_matingMove_124
    · skip
      exfalso; omega
  · rintro n ih1 ⟨i, TK1, TP1, tw1, tb1, ta1⟩ ⟨hi1, hr1⟩ H locs hM hS ls hl
    try dsimp only at hl hi1 hr1 hM
    refine lv_iload hx hb dX3_matingMove_25 (lv_at hl 0 rfl) ?_
    refine lv_bipush (v := nI 64) hx hb dX3_matingMove_27 (by decide) ?_
    refine ni_ge (tgt := 123) hx hb i 64 (by omega) (by omega) dX3_matingMove_29 (by decide) (fun c_29 => ?_) (fun c_29 => ?_)
    · skip
      exfalso; omega
    · skip
      refine lv_aload_n hx hb dX3_matingMove_32 rfl (lv_at hl 2 rfl) ?_
      refine rd_goL (rd_runV (As := []) (rest := []) hx hb hml hown hts hK hM okV_RX3_159_X1_acting (met_X1_acting l po okk pt w bk wa (mu_g (ne_oi hpo htpt) (mu_g (ne_oi hpo htok) (mu_g (Ne.symm htp) hpo)))) (mu_g (ne_oi hpo htpt) (mu_g (ne_oi hpo htok) (mu_g (Ne.symm htp) hpo))) rfl rfl rfl ⟨Nat.le_of_ble_eq_true rfl, Nat.le_of_ble_eq_true rfl⟩ hl.1 rfl (Nat.le_of_ble_eq_true rfl) dX3_matingMove_33 ⟨Nat.le_refl _, Nat.le_refl _⟩) ?_
      refine lv_iload hx hb dX3_matingMove_36 (lv_at hl 0 rfl) ?_
      refine rd_goI (rd_runS (As := [.long (bL (kSide w bk wa)), .int (nI i)]) (rest := []) hx hb hml hown hts hK hM okS_RX3_104_X3_has (met_X3_has l (kSide w bk wa) i (by omega)) rfl ⟨Nat.le_of_ble_eq_true rfl, Nat.le_of_ble_eq_true rfl⟩ hl.1 rfl (Nat.le_of_ble_eq_true rfl) dX3_matingMove_38 ⟨Nat.le_refl _, Nat.le_refl _⟩) ?_
      refine meet (ls := ls) (pcJ := 55) (st := [.long (bL (kTg1 K pp w bk wa i))]) ?_ (fun hJ55 => ?_)
      · skip
        refine lv_lstore (lv' := [(5, .long (bL (kTg1 K pp w bk wa i))), (4, .int (nI i)), (2, .long (bL (kDel K w bk wa))), (1, .ref po), (0, .ref xo)]) hx hb dX3_matingMove_55 hl (by decide) rfl (fun ls hl => ?_)
        refine lv_iconst (v := nI 0) hx hb dX3_matingMove_57 (by decide) ?_
        refine lv_istore (lv' := [(7, .int (nI 0)), (5, .long (bL (kTg1 K pp w bk wa i))), (4, .int (nI i)), (2, .long (bL (kDel K w bk wa))), (1, .ref po), (0, .ref xo)]) hx hb dX3_matingMove_58 hl (by decide) rfl (fun ls hl => ?_)
        refine loopW (pcH := 60) (st := []) (ι := Nat × (Nat → BitVec 64) × (Nat → Int32) × BitVec 64 × BitVec 64 × Bool) (fun ξ => mu (mu (mu M tr (.inr (1, [.ref tok, .ref tpt, .long (bL (ξ.2.2.2.1)), .long (bL (ξ.2.2.2.2.1)), .int (bI (ξ.2.2.2.2.2))]))) tok (eJ cJ 7 (fun ζ => bL ((ξ.2.1) ζ)))) tpt (eI cI 64 (ξ.2.2.1))) (fun ξ => [(7, .int (nI (ξ.1))), (5, .long (bL (kTg1 K pp w bk wa i))), (4, .int (nI i)), (2, .long (bL (kDel K w bk wa))), (1, .ref po), (0, .ref xo)]) (fun n ξ => (ξ.1) + n = 64 ∧ kMating K pp w bk wa = mFirst (kMaF K pp w bk wa) (n + 64 * (63 - i)) (64 * i + (ξ.1))) ?_ ?_ 64 (0, TK1, TP1, tw1, tb1, ta1) ⟨by first | omega | (dsimp only <;> omega), hr1.trans (by rw [show 64 * (n + 1) = 64 + 64 * (63 - i) by omega]; rfl)⟩ hM hS ls (lv_sub hl [0,1,2,3,4,5] rfl)
        · rintro ⟨t, TK2, TP2, tw2, tb2, ta2⟩ ⟨hi2, hr2⟩ H locs hM hS ls hl
          try dsimp only at hl hi2 hr2 hM
          refine lv_iload hx hb dX3_matingMove_60 (lv_at hl 0 rfl) ?_
          refine lv_bipush (v := nI 64) hx hb dX3_matingMove_62 (by decide) ?_
          refine ni_ge (tgt := 117) hx hb t 64 (by omega) (by omega) dX3_matingMove_64 (by decide) (fun c_64 => ?_) (fun c_64 => ?_)
          · skip
            refine ni_iinc (lv' := [(4, .int (nI (i + 1))), (7, .int (nI t)), (5, .long (bL (kTg1 K pp w bk wa i))), (2, .long (bL (kDel K w bk wa))), (1, .ref po), (0, .ref xo)]) hx hb i 1 dX3_matingMove_117 hl (k := 2) rfl (by decide) (by decide) rfl (fun ls hl => ?_)
            refine lv_goto (tgt := 25) hx hb dX3_matingMove_120 (by decide) ?_
            exact ih1 (i + 1, TK2, TP2, tw2, tb2, ta2) ⟨by first | omega | (dsimp only <;> omega), hr2.trans (by dsimp only; congr 1 <;> omega)⟩ _ _ hM hS ls (lv_sub hl [0,3,4,5] rfl)
          · skip
            exfalso; omega
        · rintro n ih2 ⟨t, TK2, TP2, tw2, tb2, ta2⟩ ⟨hi2, hr2⟩ H locs hM hS ls hl
          try dsimp only at hl hi2 hr2 hM
          refine lv_iload hx hb dX3_matingMove_60 (lv_at hl 0 rfl) ?_
          refine lv_bipush (v := nI 64) hx hb dX3_matingMove_62 (by decide) ?_
          refine ni_ge (tgt := 117) hx hb t 64 (by omega) (by omega) dX3_matingMove_64 (by decide) (fun c_64 => ?_) (fun c_64 => ?_)
          · skip
            exfalso; omega
          · skip
            refine lv_lload hx hb dX3_matingMove_67 (lv_at hl 1 rfl) ?_
            refine lb_const hx hb 0#64 dX3_matingMove_69 rfl ?_
            refine lb_ceq (tgt := 117) hx hb dX3_matingMove_70 dX3_matingMove_71 (by decide) (fun c_71 => ?_) (fun c_71 => ?_)
            · skip
              refine ni_iinc (lv' := [(4, .int (nI (i + 1))), (7, .int (nI t)), (5, .long (bL (kTg1 K pp w bk wa i))), (2, .long (bL (kDel K w bk wa))), (1, .ref po), (0, .ref xo)]) hx hb i 1 dX3_matingMove_117 hl (k := 2) rfl (by decide) (by decide) rfl (fun ls hl => ?_)
              refine lv_goto (tgt := 25) hx hb dX3_matingMove_120 (by decide) ?_
              exact ih1 (i + 1, TK2, TP2, tw2, tb2, ta2) ⟨by first | omega | (dsimp only <;> omega), hr2.trans ((kMa_skip (n := n + 1) c_71 (by omega)).trans (by dsimp only; congr 1 <;> omega))⟩ _ _ hM hS ls (lv_sub hl [0,3,4,5] rfl)
            · skip
              refine lv_lload hx hb dX3_matingMove_74 (lv_at hl 1 rfl) ?_
              refine lv_iload hx hb dX3_matingMove_76 (lv_at hl 0 rfl) ?_
              refine rd_goI (rd_runS (As := [.long (bL (kTg1 K pp w bk wa i)), .int (nI t)]) (rest := []) hx hb hml hown hts hK hM okS_RX3_104_X3_has (met_X3_has l (kTg1 K pp w bk wa i) t (by omega)) rfl ⟨Nat.le_of_ble_eq_true rfl, Nat.le_of_ble_eq_true rfl⟩ hl.1 rfl (Nat.le_of_ble_eq_true rfl) dX3_matingMove_78 ⟨Nat.le_refl _, Nat.le_refl _⟩) ?_
              refine zb_eq (tgt := 111) hx hb ((kTg1 K pp w bk wa i).getLsbD t) dX3_matingMove_81 (by decide) (fun c_81 => ?_) (fun c_81 => ?_)
              · skip
                refine ni_iinc (lv' := [(7, .int (nI (t + 1))), (5, .long (bL (kTg1 K pp w bk wa i))), (4, .int (nI i)), (2, .long (bL (kDel K w bk wa))), (1, .ref po), (0, .ref xo)]) hx hb t 1 dX3_matingMove_111 hl (k := 0) rfl (by decide) (by decide) rfl (fun ls hl => ?_)
                refine lv_goto (tgt := 60) hx hb dX3_matingMove_114 (by decide) ?_
                exact ih2 (t + 1, TK2, TP2, tw2, tb2, ta2) ⟨by first | omega | (dsimp only <;> omega), hr2.trans ((mFirst_s _ _ _ _).trans (by rw [kMaF_f (by omega) c_81]; rfl))⟩ _ _ hM hS ls (lv_sub hl [0,1,2,3,4,5] rfl)
              · skip
                refine lv_aload_n hx hb dX3_matingMove_84 rfl (lv_at hl 5 rfl) ?_
                refine lv_iload hx hb dX3_matingMove_85 (lv_at hl 2 rfl) ?_
                refine lv_iload hx hb dX3_matingMove_87 (lv_at hl 0 rfl) ?_
                refine wr_go0 (wr_runV (As := [.int (nI i), .int (nI t)]) (rest := []) hx hb hml hown hts hK hM okV_RX3_182_X3_tryMove (met_X3_tryMove l xo fr tr pg su bf af nu ca qu ve po okk pt K pp w bk wa i t tok tpt TK2 TP2 tw2 tb2 ta2 (mu_g (ne_oi hxo htpt) (mu_g (ne_oi hxo htok) (mu_g (ne_oo hxo htr (by decide)) hxo))) (mu_g (ne_oi hpg htpt) (mu_g (ne_oi hpg htok) (mu_g (ne_oo hpg htr (by decide)) hpg))) (mu_g (ne_oi hpo htpt) (mu_g (ne_oi hpo htok) (mu_g (Ne.symm htp) hpo))) (mu_g (ne_ji hokk htpt) (mu_g (Ne.symm hto) (mu_g (ne_io hokk htr) hokk))) (mu_g (Ne.symm htq) (mu_g (ne_ij hpt htok) (mu_g (ne_io hpt htr) hpt))) (mu_g (ne_oi htr htpt) (mu_g (ne_oi htr htok) mu_s)) (mu_g (ne_ji htok htpt) mu_s) mu_s (by omega) (by omega) (kTg1_k hKd (by omega) c_81) hW htp hA_tr hA_tok hA_tpt) (mu_g (ne_oi hxo htpt) (mu_g (ne_oi hxo htok) (mu_g (ne_oo hxo htr (by decide)) hxo))) rfl rfl rfl ⟨Nat.le_of_ble_eq_true rfl, Nat.le_of_ble_eq_true rfl⟩ hl.1 rfl (Nat.le_of_ble_eq_true rfl) dX3_matingMove_89 ⟨Nat.le_refl _, Nat.le_refl _⟩) hS (fun M1 H locs hR hM hS => ?_)
                obtain rfl := hR
                rw [mu_comm (ne_io htpt htr), mu_comm (ne_io htok htr), mu_mu] at hM
                rw [mu_comm (ne_ij htpt htok), mu_mu] at hM
                rw [mu_mu] at hM
                refine lv_aload_n hx hb dX3_matingMove_92 rfl (lv_at hl 5 rfl) ?_
                refine w_get (C := RX3) (T := TX3) (N := 4) (ci := 2) hx hb hts hown hK hM inX3 rfl 1 (by decide) qw_1_103 rfl (mu_g (ne_oi hxo htpt) (mu_g (ne_oi hxo htok) (mu_g (ne_oo hxo htr (by decide)) hxo))) rfl dX3_matingMove_93 ?_
                refine rd_goI (rd_runV (As := []) (rest := []) hx hb hml hown hts hK hM okV_RX3_185_X1_isMated (met_X1_isMated l tr tok tpt (kShK K (i) (t)) (kShP pp (i) (t)) (kShW w (i) (t) (w.getLsbD (i))) (kShW bk (i) (t) (!w.getLsbD (i))) (!wa) (mu_g (ne_oi htr htpt) (mu_g (ne_oi htr htok) mu_s)) (mu_g (ne_ji htok htpt) mu_s) mu_s (WfPt_sh hW (by omega) (by omega))) (mu_g (ne_oi htr htpt) (mu_g (ne_oi htr htok) mu_s)) rfl rfl rfl ⟨Nat.le_of_ble_eq_true rfl, Nat.le_of_ble_eq_true rfl⟩ hl.1 rfl (Nat.le_of_ble_eq_true rfl) dX3_matingMove_96 ⟨Nat.le_refl _, Nat.le_refl _⟩) ?_
                refine zb_eq (tgt := 111) hx hb (kMated (kShK K (i) (t)) (kShP pp (i) (t)) (kShW w (i) (t) (w.getLsbD (i))) (kShW bk (i) (t) (!w.getLsbD (i))) (!wa)) dX3_matingMove_99 (by decide) (fun c_99 => ?_) (fun c_99 => ?_)
                · skip
                  refine ni_iinc (lv' := [(7, .int (nI (t + 1))), (5, .long (bL (kTg1 K pp w bk wa i))), (4, .int (nI i)), (2, .long (bL (kDel K w bk wa))), (1, .ref po), (0, .ref xo)]) hx hb t 1 dX3_matingMove_111 hl (k := 0) rfl (by decide) (by decide) rfl (fun ls hl => ?_)
                  refine lv_goto (tgt := 60) hx hb dX3_matingMove_114 (by decide) ?_
                  exact ih2 (t + 1, kShK K (i) (t), kShP pp (i) (t), kShW w (i) (t) (w.getLsbD (i)), kShW bk (i) (t) (!w.getLsbD (i)), !wa) ⟨by first | omega | (dsimp only <;> omega), hr2.trans ((mFirst_s _ _ _ _).trans (by rw [kMaF_t (by omega) c_81, c_99]; rfl))⟩ _ _ hM hS ls (lv_sub hl [0,1,2,3,4,5] rfl)
                · skip
                  refine lv_bipush (v := nI 64) hx hb dX3_matingMove_102 (by decide) ?_
                  refine lv_iload hx hb dX3_matingMove_104 (lv_at hl 2 rfl) ?_
                  refine ni_mul hx hb 64 i dX3_matingMove_106 ?_
                  refine lv_iload hx hb dX3_matingMove_107 (lv_at hl 0 rfl) ?_
                  refine ni_add hx hb (64 * i) t dX3_matingMove_109 ?_
                  exact wr_ireturn hx hb hr hlk hM hS (Nat.le_refl _) (Nat.le_refl _) (by rw [hr2, mFirst_s, kMaF_t (by omega) c_81, c_99]; rfl) ⟨(kShK K (i) (t)), (kShP pp (i) (t)), (kShW w (i) (t) (w.getLsbD (i))), (kShW bk (i) (t) (!w.getLsbD (i))), (!wa), rfl⟩ dX3_matingMove_110
      · skip
        refine zb_eq (tgt := 54) hx hb ((kSide w bk wa).getLsbD i) dX3_matingMove_41 (by decide) (fun c_41 => ?_) (fun c_41 => ?_)
        · skip
          refine lb_const hx hb 0#64 dX3_matingMove_54 rfl ?_
          exact topl (bL (kTg1 K pp w bk wa i)) (by unfold kTg1; rw [c_41]; rfl) hJ55
        · skip
          refine lv_aload_n hx hb dX3_matingMove_44 rfl (lv_at hl 2 rfl) ?_
          refine lv_iload hx hb dX3_matingMove_45 (lv_at hl 0 rfl) ?_
          refine lv_lload_n hx hb dX3_matingMove_47 rfl (lv_at hl 1 rfl) ?_
          refine rd_goL (rd_runV (As := [.int (nI i), .long (bL (kDel K w bk wa))]) (rest := []) hx hb hml hown hts hK hM okV_RX3_165_X1_lawfulTargets (met_X1_lawfulTargets l po okk pt K pp w bk wa i (kDel K w bk wa) (mu_g (ne_oi hpo htpt) (mu_g (ne_oi hpo htok) (mu_g (Ne.symm htp) hpo))) (mu_g (ne_ji hokk htpt) (mu_g (Ne.symm hto) (mu_g (ne_io hokk htr) hokk))) (mu_g (Ne.symm htq) (mu_g (ne_ij hpt htok) (mu_g (ne_io hpt htr) hpt))) (by omega) hW) (mu_g (ne_oi hpo htpt) (mu_g (ne_oi hpo htok) (mu_g (Ne.symm htp) hpo))) rfl rfl rfl ⟨Nat.le_of_ble_eq_true rfl, Nat.le_of_ble_eq_true rfl⟩ hl.1 rfl (Nat.le_of_ble_eq_true rfl) dX3_matingMove_48 ⟨Nat.le_refl _, Nat.le_refl _⟩) ?_
          refine lv_goto (tgt := 55) hx hb dX3_matingMove_51 (by decide) ?_
          exact topl (bL (kTg1 K pp w bk wa i)) (by unfold kTg1; rw [c_41]; rfl) hJ55
