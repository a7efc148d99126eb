set_option maxHeartbeats 4000000 in
set_option maxRecDepth 100000 in
theorem xet_X3_isWhite_n (l : Launch) (hl9 : l.stackTraces = false) {D : va_G} {cI cJ : ClassId} {M : MP} (xo fr tr pg : Nat) (su : Bool) (bf af : Value) (nu ca qu ve : Nat) (po okk pt : Nat)   (w bk : BitVec 64) (wa : Bool) (j : Nat) (hxo : M xo = some (.inr (2, [.ref fr, .ref tr, .ref pg, .int (bI su)]))) (hpg : M pg = some (.inr (0, [.ref po, bf, .int (nI nu), af, .int (nI ca), .int (nI qu), .int (nI ve)]))) (hpo : M po = some (.inr (1, [.ref okk, .ref pt, .long (bL w), .long (bL bk), .int (bI wa)]))) (hj : j < 64) (hoc : (w ||| bk).getLsbD j = false) : Xt l yX3_isWhite cX3_isWhite 3 (some .boolean) 7 D cI cJ [.ref xo, .int (nI j)] M xNS := by
  refine xt_start (by decide) (Nat.le_of_ble_eq_true rfl) ?_
  intro p e s m args below meth c hx hb hml hown hts hlk ht hK hX H hH0 hM hS ls hl
  clear hH0
  have hl : lv_has ls 3 [(0, .ref xo), (1, .int (nI j))] := hl
  refine lv_iload_n hx hb dX3_isWhite_0 rfl (lv_at hl 1 rfl) ?_
  refine wr_go0 (wr_runS (As := [.int (nI j)]) (rest := []) hx hb hml hown hts hK hM okS_RX3_54_X3_requireSquare (met_X3_requireSquare l j (by omega)) rfl ⟨Nat.le_of_ble_eq_true rfl, Nat.le_of_ble_eq_true rfl⟩ hl.1 rfl (Nat.le_of_ble_eq_true rfl) dX3_isWhite_1 ⟨by decide, by decide⟩) hS (fun M1 H locs hR hM hS => ?_)
  rw [show M1 = M from hR] at hM
  refine lv_aload_n hx hb dX3_isWhite_4 rfl (lv_at hl 0 rfl) ?_
  refine w_get (C := RX3) (T := TX3) (N := 4) (ci := 2) hx hb hts hown hK hM inX3 rfl 2 (by decide) qw_1_104 rfl hxo rfl dX3_isWhite_5 ?_
  refine w_get (C := RX0) (T := TX0) (N := 7) (ci := 0) hx hb hts hown hK hM inX0 rfl 0 (by decide) qw_1_63 rfl hpg rfl dX3_isWhite_8 ?_
  refine lv_astore_n (lv' := [(2, .ref po), (0, .ref xo), (1, .int (nI j))]) hx hb dX3_isWhite_11 rfl hl (by decide) rfl (fun ls hl => ?_)
  refine lv_aload_n hx hb dX3_isWhite_12 rfl (lv_at hl 0 rfl) ?_
  refine rd_goL (rd_runV (As := []) (rest := []) hx hb hml hown hts hK hM okV_RX3_72_X1_occupied (met_X1_occupied l po okk pt w bk wa hpo) hpo rfl rfl rfl ⟨Nat.le_of_ble_eq_true rfl, Nat.le_of_ble_eq_true rfl⟩ hl.1 rfl (Nat.le_of_ble_eq_true rfl) dX3_isWhite_13 ⟨by decide, by decide⟩) ?_
  refine lv_iload_n hx hb dX3_isWhite_16 rfl (lv_at hl 2 rfl) ?_
  refine rd_goI (rd_runS (As := [.long (bL (w ||| bk)), .int (nI j)]) (rest := []) hx hb hml hown hts hK hM okS_RX3_104_X3_has (met_X3_has l (w ||| bk) j (by omega)) rfl ⟨Nat.le_of_ble_eq_true rfl, Nat.le_of_ble_eq_true rfl⟩ hl.1 rfl (Nat.le_of_ble_eq_true rfl) dX3_isWhite_17 ⟨by decide, by decide⟩) ?_
  refine topi (bI false) (by rw [hoc]) ?_
  refine zb_ne (tgt := 33) hx hb false dX3_isWhite_20 (by decide) (fun h => absurd (h.symm.trans (rfl : false = false)) (by decide)) (fun _ => ?_)
  exact xt_throwN (text := "the square is empty") hx hb hml hl9 hown hts hX (List.mem_of_getElem? (i := 5) rfl) hM hS hlk ht hl.1 (by decide) dX3_isWhite_23 dX3_isWhite_26 dX3_isWhite_27 dX3_isWhite_29 dX3_isWhite_32
