set_option maxHeartbeats 4000000 in
set_option maxRecDepth 100000 in
theorem xet_X3_requireSquare (l : Launch) (hl9 : l.stackTraces = false) {D : va_G} {cI cJ : ClassId} {M : MP} (x : Int32) (hbx : mIsSq x = false) : Xt l yX3_requireSquare cX3_requireSquare 1 none 6 D cI cJ [.int x] M xIO := by
  refine xt_start (by decide) (Nat.le_of_ble_eq_true rfl) ?_
  intro p e s m args below meth c hx hb hml hown hts hlk ht hK hX H hH0 hM hS ls hl
  clear hH0
  have hl : lv_has ls 1 [(0, .int x)] := hl
  refine lv_iload_n hx hb dX3_requireSquare_0 rfl (lv_at hl 0 rfl) ?_
  refine lv_if_lt (tgt := 10) hx hb dX3_requireSquare_1 (by decide) (fun c_1 => ?_) (fun c_1 => ?_)
  · skip
    exact xt_throwW (text := "a square is a number from 0 to 63") hx hb hml hl9 hown (by decide +kernel) (hts _ qw_2_156) (hts _ qw_1_11) (xat_IO hts hX) xgd_IO hX (List.mem_of_getElem? (i := 0) rfl) hM hS hlk ht hl.1 (by decide) dX3_requireSquare_10 dX3_requireSquare_13 dX3_requireSquare_14 dX3_requireSquare_17 dX3_requireSquare_20
  · skip
    refine lv_iload_n hx hb dX3_requireSquare_4 rfl (lv_at hl 0 rfl) ?_
    refine lv_bipush (v := nI 64) hx hb dX3_requireSquare_5 (by decide) ?_
    refine lv_icmp_lt (tgt := 21) hx hb dX3_requireSquare_7 (by decide) (fun c_7 => ?_) (fun c_7 => ?_)
    · skip
      exact absurd hbx (by unfold mIsSq; rw [decide_eq_false c_1, decide_eq_false (fun z => absurd c_7 (Int32.not_lt.mpr z))]; decide)
    · skip
      exact xt_throwW (text := "a square is a number from 0 to 63") hx hb hml hl9 hown (by decide +kernel) (hts _ qw_2_156) (hts _ qw_1_11) (xat_IO hts hX) xgd_IO hX (List.mem_of_getElem? (i := 0) rfl) hM hS hlk ht hl.1 (by decide) dX3_requireSquare_10 dX3_requireSquare_13 dX3_requireSquare_14 dX3_requireSquare_17 dX3_requireSquare_20
set_option maxHeartbeats 4000000 in
set_option maxRecDepth 100000 in
theorem xet_X3_requireKind (l : Launch) (hl9 : l.stackTraces = false) {D : va_G} {cI cJ : ClassId} {M : MP} (y : Int32) (hby : mIsKd y = false) : Xt l yX3_requireKind cX3_requireKind 1 none 6 D cI cJ [.int y] M xIA := by
  refine xt_start (by decide) (Nat.le_of_ble_eq_true rfl) ?_
  intro p e s m args below meth c hx hb hml hown hts hlk ht hK hX H hH0 hM hS ls hl
  clear hH0
  have hl : lv_has ls 1 [(0, .int y)] := hl
  refine lv_iload_n hx hb dX3_requireKind_0 rfl (lv_at hl 0 rfl) ?_
  refine lv_iconst (v := nI 1) hx hb dX3_requireKind_1 (by decide) ?_
  refine lv_icmp_lt (tgt := 11) hx hb dX3_requireKind_2 (by decide) (fun c_2 => ?_) (fun c_2 => ?_)
  · skip
    exact xt_throwW (text := "a kind is a number from KING to PAWN") hx hb hml hl9 hown (by decide +kernel) (hts _ qw_2_228) (hts _ qw_1_12) (xat_IA hts hX) xgd_IA hX (List.mem_of_getElem? (i := 1) rfl) hM hS hlk ht hl.1 (by decide) dX3_requireKind_11 dX3_requireKind_14 dX3_requireKind_15 dX3_requireKind_18 dX3_requireKind_21
  · skip
    refine lv_iload_n hx hb dX3_requireKind_5 rfl (lv_at hl 0 rfl) ?_
    refine lv_bipush (v := nI 6) hx hb dX3_requireKind_6 (by decide) ?_
    refine lv_icmp_le (tgt := 22) hx hb dX3_requireKind_8 (by decide) (fun c_8 => ?_) (fun c_8 => ?_)
    · skip
      exact absurd hby (by unfold mIsKd; rw [decide_eq_false c_2, decide_eq_true c_8]; decide)
    · skip
      exact xt_throwW (text := "a kind is a number from KING to PAWN") hx hb hml hl9 hown (by decide +kernel) (hts _ qw_2_228) (hts _ qw_1_12) (xat_IA hts hX) xgd_IA hX (List.mem_of_getElem? (i := 1) rfl) hM hS hlk ht hl.1 (by decide) dX3_requireKind_11 dX3_requireKind_14 dX3_requireKind_15 dX3_requireKind_18 dX3_requireKind_21
set_option maxHeartbeats 4000000 in
set_option maxRecDepth 100000 in
theorem xet_X3_pieceAt_x (l : Launch) (hl9 : l.stackTraces = false) {D : va_G} {cI cJ : ClassId} {M : MP} (xo : Nat) (x : Int32) (hbx : mIsSq x = false) : Xt l yX3_pieceAt cX3_pieceAt 2 (some .int) 7 D cI cJ [.ref xo, .int x] M xIO := by
  refine xt_start (by decide) (Nat.le_of_ble_eq_true rfl) ?_
  intro p e s m args below meth c hx hb hml hown hts hlk ht hK hX H hH0 hM hS ls hl
  clear hH0
  have hl : lv_has ls 2 [(0, .ref xo), (1, .int x)] := hl
  refine lv_iload_n hx hb dX3_pieceAt_0 rfl (lv_at hl 1 rfl) ?_
  refine xt_go (xt_runS (As := [.int x]) (rest := []) hx hb hml hown hts hK hX hM hS okS_RX3_54_X3_requireSquare (xet_X3_requireSquare l hl9 x (by omega)) rfl ⟨Nat.le_of_ble_eq_true rfl, Nat.le_of_ble_eq_true rfl⟩ hl.1 rfl (Nat.le_of_ble_eq_true rfl) dX3_pieceAt_1 ⟨by decide, by decide⟩) hS (fun ce q9 H locs hM hS hHs hce hcv hcl => ?_)
  exact xt_pass ht hlk hM hS hce hcv hcl (by decide) (by decide)
set_option maxHeartbeats 4000000 in
set_option maxRecDepth 100000 in
theorem xet_X3_isWhite_x (l : Launch) (hl9 : l.stackTraces = false) {D : va_G} {cI cJ : ClassId} {M : MP} (xo : Nat) (x : Int32) (hbx : mIsSq x = false) : Xt l yX3_isWhite cX3_isWhite 3 (some .boolean) 7 D cI cJ [.ref xo, .int x] M xIO := by
  refine xt_start (by decide) (Nat.le_of_ble_eq_true rfl) ?_
  intro p e s m args below meth c hx hb hml hown hts hlk ht hK hX H hH0 hM hS ls hl
  clear hH0
  have hl : lv_has ls 3 [(0, .ref xo), (1, .int x)] := hl
  refine lv_iload_n hx hb dX3_isWhite_0 rfl (lv_at hl 1 rfl) ?_
  refine xt_go (xt_runS (As := [.int x]) (rest := []) hx hb hml hown hts hK hX hM hS okS_RX3_54_X3_requireSquare (xet_X3_requireSquare l hl9 x (by omega)) rfl ⟨Nat.le_of_ble_eq_true rfl, Nat.le_of_ble_eq_true rfl⟩ hl.1 rfl (Nat.le_of_ble_eq_true rfl) dX3_isWhite_1 ⟨by decide, by decide⟩) hS (fun ce q9 H locs hM hS hHs hce hcv hcl => ?_)
  exact xt_pass ht hlk hM hS hce hcv hcl (by decide) (by decide)
set_option maxHeartbeats 4000000 in
set_option maxRecDepth 100000 in
theorem xet_X3_bondOf_x (l : Launch) (hl9 : l.stackTraces = false) {D : va_G} {cI cJ : ClassId} {M : MP} (xo : Nat) (x : Int32) (hbx : mIsSq x = false) : Xt l yX3_bondOf cX3_bondOf 2 (some .int) 7 D cI cJ [.ref xo, .int x] M xIO := by
  refine xt_start (by decide) (Nat.le_of_ble_eq_true rfl) ?_
  intro p e s m args below meth c hx hb hml hown hts hlk ht hK hX H hH0 hM hS ls hl
  clear hH0
  have hl : lv_has ls 2 [(0, .ref xo), (1, .int x)] := hl
  refine lv_iload_n hx hb dX3_bondOf_0 rfl (lv_at hl 1 rfl) ?_
  refine xt_go (xt_runS (As := [.int x]) (rest := []) hx hb hml hown hts hK hX hM hS okS_RX3_54_X3_requireSquare (xet_X3_requireSquare l hl9 x (by omega)) rfl ⟨Nat.le_of_ble_eq_true rfl, Nat.le_of_ble_eq_true rfl⟩ hl.1 rfl (Nat.le_of_ble_eq_true rfl) dX3_bondOf_1 ⟨by decide, by decide⟩) hS (fun ce q9 H locs hM hS hHs hce hcv hcl => ?_)
  exact xt_pass ht hlk hM hS hce hcv hcl (by decide) (by decide)
set_option maxHeartbeats 4000000 in
set_option maxRecDepth 100000 in
theorem xet_X3_legalMoves_x (l : Launch) (hl9 : l.stackTraces = false) {D : va_G} {cI cJ : ClassId} {M : MP} (xo : Nat) (x : Int32) (hbx : mIsSq x = false) : Xt l yX3_legalMoves cX3_legalMoves 3 (some .long) 7 D cI cJ [.ref xo, .int x] M xIO := by
  refine xt_start (by decide) (Nat.le_of_ble_eq_true rfl) ?_
  intro p e s m args below meth c hx hb hml hown hts hlk ht hK hX H hH0 hM hS ls hl
  clear hH0
  have hl : lv_has ls 3 [(0, .ref xo), (1, .int x)] := hl
  refine lv_iload_n hx hb dX3_legalMoves_0 rfl (lv_at hl 1 rfl) ?_
  refine xt_go (xt_runS (As := [.int x]) (rest := []) hx hb hml hown hts hK hX hM hS okS_RX3_54_X3_requireSquare (xet_X3_requireSquare l hl9 x (by omega)) rfl ⟨Nat.le_of_ble_eq_true rfl, Nat.le_of_ble_eq_true rfl⟩ hl.1 rfl (Nat.le_of_ble_eq_true rfl) dX3_legalMoves_1 ⟨by decide, by decide⟩) hS (fun ce q9 H locs hM hS hHs hce hcv hcl => ?_)
  exact xt_pass ht hlk hM hS hce hcv hcl (by decide) (by decide)
set_option maxHeartbeats 4000000 in
set_option maxRecDepth 100000 in
theorem xet_X3_dissolveRefusal_x (l : Launch) (hl9 : l.stackTraces = false) {D : va_G} {cI cJ : ClassId} {M : MP} (xo : Nat) (x : Int32) (hbx : mIsSq x = false) : Xt l yX3_dissolveRefusal cX3_dissolveRefusal 3 (some .int) 7 D cI cJ [.ref xo, .int x] M xIO := by
  refine xt_start (by decide) (Nat.le_of_ble_eq_true rfl) ?_
  intro p e s m args below meth c hx hb hml hown hts hlk ht hK hX H hH0 hM hS ls hl
  clear hH0
  have hl : lv_has ls 3 [(0, .ref xo), (1, .int x)] := hl
  refine lv_iload_n hx hb dX3_dissolveRefusal_0 rfl (lv_at hl 1 rfl) ?_
  refine xt_go (xt_runS (As := [.int x]) (rest := []) hx hb hml hown hts hK hX hM hS okS_RX3_54_X3_requireSquare (xet_X3_requireSquare l hl9 x (by omega)) rfl ⟨Nat.le_of_ble_eq_true rfl, Nat.le_of_ble_eq_true rfl⟩ hl.1 rfl (Nat.le_of_ble_eq_true rfl) dX3_dissolveRefusal_1 ⟨by decide, by decide⟩) hS (fun ce q9 H locs hM hS hHs hce hcv hcl => ?_)
  exact xt_pass ht hlk hM hS hce hcv hcl (by decide) (by decide)
set_option maxHeartbeats 4000000 in
set_option maxRecDepth 100000 in
theorem xet_X3_remove_x (l : Launch) (hl9 : l.stackTraces = false) {D : va_G} {cI cJ : ClassId} {M : MP} (xo : Nat) (x : Int32) (hbx : mIsSq x = false) : Xt l yX3_remove cX3_remove 4 (some .int) 7 D cI cJ [.ref xo, .int x] M xIO := by
  refine xt_start (by decide) (Nat.le_of_ble_eq_true rfl) ?_
  intro p e s m args below meth c hx hb hml hown hts hlk ht hK hX H hH0 hM hS ls hl
  clear hH0
  have hl : lv_has ls 4 [(0, .ref xo), (1, .int x)] := hl
  refine lv_iload_n hx hb dX3_remove_0 rfl (lv_at hl 1 rfl) ?_
  refine xt_go (xt_runS (As := [.int x]) (rest := []) hx hb hml hown hts hK hX hM hS okS_RX3_54_X3_requireSquare (xet_X3_requireSquare l hl9 x (by omega)) rfl ⟨Nat.le_of_ble_eq_true rfl, Nat.le_of_ble_eq_true rfl⟩ hl.1 rfl (Nat.le_of_ble_eq_true rfl) dX3_remove_1 ⟨by decide, by decide⟩) hS (fun ce q9 H locs hM hS hHs hce hcv hcl => ?_)
  exact xt_pass ht hlk hM hS hce hcv hcl (by decide) (by decide)
set_option maxHeartbeats 4000000 in
set_option maxRecDepth 100000 in
theorem xet_X3_attackers_x (l : Launch) (hl9 : l.stackTraces = false) {D : va_G} {cI cJ : ClassId} {M : MP} (xo : Nat) (x : Int32) (b : Bool) (hbx : mIsSq x = false) : Xt l yX3_attackers cX3_attackers 4 (some .long) 7 D cI cJ [.ref xo, .int x, .int (bI b)] M xIO := by
  refine xt_start (by decide) (Nat.le_of_ble_eq_true rfl) ?_
  intro p e s m args below meth c hx hb hml hown hts hlk ht hK hX H hH0 hM hS ls hl
  clear hH0
  have hl : lv_has ls 4 [(0, .ref xo), (1, .int x), (2, .int (bI b))] := hl
  refine lv_iload_n hx hb dX3_attackers_0 rfl (lv_at hl 1 rfl) ?_
  refine xt_go (xt_runS (As := [.int x]) (rest := []) hx hb hml hown hts hK hX hM hS okS_RX3_54_X3_requireSquare (xet_X3_requireSquare l hl9 x (by omega)) rfl ⟨Nat.le_of_ble_eq_true rfl, Nat.le_of_ble_eq_true rfl⟩ hl.1 rfl (Nat.le_of_ble_eq_true rfl) dX3_attackers_1 ⟨by decide, by decide⟩) hS (fun ce q9 H locs hM hS hHs hce hcv hcl => ?_)
  exact xt_pass ht hlk hM hS hce hcv hcl (by decide) (by decide)
set_option maxHeartbeats 4000000 in
set_option maxRecDepth 100000 in
theorem xet_X3_place_x (l : Launch) (hl9 : l.stackTraces = false) {D : va_G} {cI cJ : ClassId} {M : MP} (xo : Nat) (x : Int32) (y : Int32) (b : Bool) (hbx : mIsSq x = false) : Xt l yX3_place cX3_place 5 (some .int) 7 D cI cJ [.ref xo, .int x, .int y, .int (bI b)] M xIO := by
  refine xt_start (by decide) (Nat.le_of_ble_eq_true rfl) ?_
  intro p e s m args below meth c hx hb hml hown hts hlk ht hK hX H hH0 hM hS ls hl
  clear hH0
  have hl : lv_has ls 5 [(0, .ref xo), (1, .int x), (2, .int y), (3, .int (bI b))] := hl
  refine lv_iload_n hx hb dX3_place_0 rfl (lv_at hl 1 rfl) ?_
  refine xt_go (xt_runS (As := [.int x]) (rest := []) hx hb hml hown hts hK hX hM hS okS_RX3_54_X3_requireSquare (xet_X3_requireSquare l hl9 x (by omega)) rfl ⟨Nat.le_of_ble_eq_true rfl, Nat.le_of_ble_eq_true rfl⟩ hl.1 rfl (Nat.le_of_ble_eq_true rfl) dX3_place_1 ⟨by decide, by decide⟩) hS (fun ce q9 H locs hM hS hHs hce hcv hcl => ?_)
  exact xt_pass ht hlk hM hS hce hcv hcl (by decide) (by decide)
set_option maxHeartbeats 4000000 in
set_option maxRecDepth 100000 in
theorem xet_X3_knightDistance_x (l : Launch) (hl9 : l.stackTraces = false) {D : va_G} {cI cJ : ClassId} {M : MP} (xo : Nat) (x : Int32) (y : Int32) (hbx : mIsSq x = false) : Xt l yX3_knightDistance cX3_knightDistance 3 (some .int) 7 D cI cJ [.ref xo, .int x, .int y] M xIO := by
  refine xt_start (by decide) (Nat.le_of_ble_eq_true rfl) ?_
  intro p e s m args below meth c hx hb hml hown hts hlk ht hK hX H hH0 hM hS ls hl
  clear hH0
  have hl : lv_has ls 3 [(0, .ref xo), (1, .int x), (2, .int y)] := hl
  refine lv_iload_n hx hb dX3_knightDistance_0 rfl (lv_at hl 1 rfl) ?_
  refine xt_go (xt_runS (As := [.int x]) (rest := []) hx hb hml hown hts hK hX hM hS okS_RX3_54_X3_requireSquare (xet_X3_requireSquare l hl9 x (by omega)) rfl ⟨Nat.le_of_ble_eq_true rfl, Nat.le_of_ble_eq_true rfl⟩ hl.1 rfl (Nat.le_of_ble_eq_true rfl) dX3_knightDistance_1 ⟨by decide, by decide⟩) hS (fun ce q9 H locs hM hS hHs hce hcv hcl => ?_)
  exact xt_pass ht hlk hM hS hce hcv hcl (by decide) (by decide)
set_option maxHeartbeats 4000000 in
set_option maxRecDepth 100000 in
theorem xet_X3_knightDistance_y (l : Launch) (hl9 : l.stackTraces = false) {D : va_G} {cI cJ : ClassId} {M : MP} (xo : Nat) (j : Nat) (y : Int32) (hj : j < 64) (hby : mIsSq y = false) : Xt l yX3_knightDistance cX3_knightDistance 3 (some .int) 7 D cI cJ [.ref xo, .int (nI j), .int y] M xIO := by
  refine xt_start (by decide) (Nat.le_of_ble_eq_true rfl) ?_
  intro p e s m args below meth c hx hb hml hown hts hlk ht hK hX H hH0 hM hS ls hl
  clear hH0
  have hl : lv_has ls 3 [(0, .ref xo), (1, .int (nI j)), (2, .int y)] := hl
  refine lv_iload_n hx hb dX3_knightDistance_0 rfl (lv_at hl 1 rfl) ?_
  refine wr_go0 (wr_runS (As := [.int (nI j)]) (rest := []) hx hb hml hown hts hK hM okS_RX3_54_X3_requireSquare (met_X3_requireSquare l j (by omega)) rfl ⟨Nat.le_of_ble_eq_true rfl, Nat.le_of_ble_eq_true rfl⟩ hl.1 rfl (Nat.le_of_ble_eq_true rfl) dX3_knightDistance_1 ⟨by decide, by decide⟩) hS (fun M1 H locs hR hM hS => ?_)
  rw [show M1 = M from hR] at hM
  refine lv_iload_n hx hb dX3_knightDistance_4 rfl (lv_at hl 2 rfl) ?_
  refine xt_go (xt_runS (As := [.int y]) (rest := []) hx hb hml hown hts hK hX hM hS okS_RX3_54_X3_requireSquare (xet_X3_requireSquare l hl9 y (by omega)) rfl ⟨Nat.le_of_ble_eq_true rfl, Nat.le_of_ble_eq_true rfl⟩ hl.1 rfl (Nat.le_of_ble_eq_true rfl) dX3_knightDistance_5 ⟨by decide, by decide⟩) hS (fun ce q9 H locs hM hS hHs hce hcv hcl => ?_)
  exact xt_pass ht hlk hM hS hce hcv hcl (by decide) (by decide)
set_option maxHeartbeats 4000000 in
set_option maxRecDepth 100000 in
theorem xet_X3_moveRefusal_x (l : Launch) (hl9 : l.stackTraces = false) {D : va_G} {cI cJ : ClassId} {M : MP} (xo : Nat) (x : Int32) (y : Int32) (hbx : mIsSq x = false) : Xt l yX3_moveRefusal cX3_moveRefusal 4 (some .int) 7 D cI cJ [.ref xo, .int x, .int y] M xIO := by
  refine xt_start (by decide) (Nat.le_of_ble_eq_true rfl) ?_
  intro p e s m args below meth c hx hb hml hown hts hlk ht hK hX H hH0 hM hS ls hl
  clear hH0
  have hl : lv_has ls 4 [(0, .ref xo), (1, .int x), (2, .int y)] := hl
  refine lv_iload_n hx hb dX3_moveRefusal_0 rfl (lv_at hl 1 rfl) ?_
  refine xt_go (xt_runS (As := [.int x]) (rest := []) hx hb hml hown hts hK hX hM hS okS_RX3_54_X3_requireSquare (xet_X3_requireSquare l hl9 x (by omega)) rfl ⟨Nat.le_of_ble_eq_true rfl, Nat.le_of_ble_eq_true rfl⟩ hl.1 rfl (Nat.le_of_ble_eq_true rfl) dX3_moveRefusal_1 ⟨by decide, by decide⟩) hS (fun ce q9 H locs hM hS hHs hce hcv hcl => ?_)
  exact xt_pass ht hlk hM hS hce hcv hcl (by decide) (by decide)
set_option maxHeartbeats 4000000 in
set_option maxRecDepth 100000 in
theorem xet_X3_moveRefusal_y (l : Launch) (hl9 : l.stackTraces = false) {D : va_G} {cI cJ : ClassId} {M : MP} (xo : Nat) (j : Nat) (y : Int32) (hj : j < 64) (hby : mIsSq y = false) : Xt l yX3_moveRefusal cX3_moveRefusal 4 (some .int) 7 D cI cJ [.ref xo, .int (nI j), .int y] M xIO := by
  refine xt_start (by decide) (Nat.le_of_ble_eq_true rfl) ?_
  intro p e s m args below meth c hx hb hml hown hts hlk ht hK hX H hH0 hM hS ls hl
  clear hH0
  have hl : lv_has ls 4 [(0, .ref xo), (1, .int (nI j)), (2, .int y)] := hl
  refine lv_iload_n hx hb dX3_moveRefusal_0 rfl (lv_at hl 1 rfl) ?_
  refine wr_go0 (wr_runS (As := [.int (nI j)]) (rest := []) hx hb hml hown hts hK hM okS_RX3_54_X3_requireSquare (met_X3_requireSquare l j (by omega)) rfl ⟨Nat.le_of_ble_eq_true rfl, Nat.le_of_ble_eq_true rfl⟩ hl.1 rfl (Nat.le_of_ble_eq_true rfl) dX3_moveRefusal_1 ⟨by decide, by decide⟩) hS (fun M1 H locs hR hM hS => ?_)
  rw [show M1 = M from hR] at hM
  refine lv_iload_n hx hb dX3_moveRefusal_4 rfl (lv_at hl 2 rfl) ?_
  refine xt_go (xt_runS (As := [.int y]) (rest := []) hx hb hml hown hts hK hX hM hS okS_RX3_54_X3_requireSquare (xet_X3_requireSquare l hl9 y (by omega)) rfl ⟨Nat.le_of_ble_eq_true rfl, Nat.le_of_ble_eq_true rfl⟩ hl.1 rfl (Nat.le_of_ble_eq_true rfl) dX3_moveRefusal_5 ⟨by decide, by decide⟩) hS (fun ce q9 H locs hM hS hHs hce hcv hcl => ?_)
  exact xt_pass ht hlk hM hS hce hcv hcl (by decide) (by decide)
set_option maxHeartbeats 4000000 in
set_option maxRecDepth 100000 in
theorem xet_X3_bondRefusal_x (l : Launch) (hl9 : l.stackTraces = false) {D : va_G} {cI cJ : ClassId} {M : MP} (xo : Nat) (x : Int32) (y : Int32) (hbx : mIsSq x = false) : Xt l yX3_bondRefusal cX3_bondRefusal 6 (some .int) 7 D cI cJ [.ref xo, .int x, .int y] M xIO := by
  refine xt_start (by decide) (Nat.le_of_ble_eq_true rfl) ?_
  intro p e s m args below meth c hx hb hml hown hts hlk ht hK hX H hH0 hM hS ls hl
  clear hH0
  have hl : lv_has ls 6 [(0, .ref xo), (1, .int x), (2, .int y)] := hl
  refine lv_iload_n hx hb dX3_bondRefusal_0 rfl (lv_at hl 1 rfl) ?_
  refine xt_go (xt_runS (As := [.int x]) (rest := []) hx hb hml hown hts hK hX hM hS okS_RX3_54_X3_requireSquare (xet_X3_requireSquare l hl9 x (by omega)) rfl ⟨Nat.le_of_ble_eq_true rfl, Nat.le_of_ble_eq_true rfl⟩ hl.1 rfl (Nat.le_of_ble_eq_true rfl) dX3_bondRefusal_1 ⟨by decide, by decide⟩) hS (fun ce q9 H locs hM hS hHs hce hcv hcl => ?_)
  exact xt_pass ht hlk hM hS hce hcv hcl (by decide) (by decide)
set_option maxHeartbeats 4000000 in
set_option maxRecDepth 100000 in
theorem xet_X3_bondRefusal_y (l : Launch) (hl9 : l.stackTraces = false) {D : va_G} {cI cJ : ClassId} {M : MP} (xo : Nat) (j : Nat) (y : Int32) (hj : j < 64) (hby : mIsSq y = false) : Xt l yX3_bondRefusal cX3_bondRefusal 6 (some .int) 7 D cI cJ [.ref xo, .int (nI j), .int y] M xIO := by
  refine xt_start (by decide) (Nat.le_of_ble_eq_true rfl) ?_
  intro p e s m args below meth c hx hb hml hown hts hlk ht hK hX H hH0 hM hS ls hl
  clear hH0
  have hl : lv_has ls 6 [(0, .ref xo), (1, .int (nI j)), (2, .int y)] := hl
  refine lv_iload_n hx hb dX3_bondRefusal_0 rfl (lv_at hl 1 rfl) ?_
  refine wr_go0 (wr_runS (As := [.int (nI j)]) (rest := []) hx hb hml hown hts hK hM okS_RX3_54_X3_requireSquare (met_X3_requireSquare l j (by omega)) rfl ⟨Nat.le_of_ble_eq_true rfl, Nat.le_of_ble_eq_true rfl⟩ hl.1 rfl (Nat.le_of_ble_eq_true rfl) dX3_bondRefusal_1 ⟨by decide, by decide⟩) hS (fun M1 H locs hR hM hS => ?_)
  rw [show M1 = M from hR] at hM
  refine lv_iload_n hx hb dX3_bondRefusal_4 rfl (lv_at hl 2 rfl) ?_
  refine xt_go (xt_runS (As := [.int y]) (rest := []) hx hb hml hown hts hK hX hM hS okS_RX3_54_X3_requireSquare (xet_X3_requireSquare l hl9 y (by omega)) rfl ⟨Nat.le_of_ble_eq_true rfl, Nat.le_of_ble_eq_true rfl⟩ hl.1 rfl (Nat.le_of_ble_eq_true rfl) dX3_bondRefusal_5 ⟨by decide, by decide⟩) hS (fun ce q9 H locs hM hS hHs hce hcv hcl => ?_)
  exact xt_pass ht hlk hM hS hce hcv hcl (by decide) (by decide)
set_option maxHeartbeats 4000000 in
set_option maxRecDepth 100000 in
theorem xet_X3_move_x (l : Launch) (hl9 : l.stackTraces = false) {D : va_G} {cI cJ : ClassId} {M : MP} (xo fr tr pg : Nat) (su : Bool) (x y : Int32) (hxo : M xo = some (.inr (2, [.ref fr, .ref tr, .ref pg, .int (bI su)]))) (hbx : mIsSq x = false) : Xt l yX3_move cX3_move 5 (some .int) 8 D cI cJ [.ref xo, .int x, .int y] M xIO := by
  refine xt_start (by decide) (Nat.le_of_ble_eq_true rfl) ?_
  intro p e s m args below meth c hx hb hml hown hts hlk ht hK hX H hH0 hM hS ls hl
  clear hH0
  have hl : lv_has ls 5 [(0, .ref xo), (1, .int x), (2, .int y)] := hl
  refine lv_aload_n hx hb dX3_move_0 rfl (lv_at hl 0 rfl) ?_
  refine lv_iload_n hx hb dX3_move_1 rfl (lv_at hl 1 rfl) ?_
  refine lv_iload_n hx hb dX3_move_2 rfl (lv_at hl 2 rfl) ?_
  refine xt_go (xt_runV (As := [.int x, .int y]) (rest := []) hx hb hml hown hts hK hX hM hS okV_RX3_196_X3_moveRefusal (xet_X3_moveRefusal_x l hl9 xo x y (by omega)) hxo rfl rfl rfl ⟨Nat.le_of_ble_eq_true rfl, Nat.le_of_ble_eq_true rfl⟩ hl.1 rfl (Nat.le_of_ble_eq_true rfl) dX3_move_3 ⟨by decide, by decide⟩) hS (fun ce q9 H locs hM hS hHs hce hcv hcl => ?_)
  exact xt_pass ht hlk hM hS hce hcv hcl (by decide) (by decide)
set_option maxHeartbeats 4000000 in
set_option maxRecDepth 100000 in
theorem xet_X3_move_y (l : Launch) (hl9 : l.stackTraces = false) {D : va_G} {cI cJ : ClassId} {M : MP} (xo fr tr pg : Nat) (su : Bool) (j : Nat) (y : Int32) (hxo : M xo = some (.inr (2, [.ref fr, .ref tr, .ref pg, .int (bI su)]))) (hj : j < 64) (hby : mIsSq y = false) : Xt l yX3_move cX3_move 5 (some .int) 8 D cI cJ [.ref xo, .int (nI j), .int y] M xIO := by
  refine xt_start (by decide) (Nat.le_of_ble_eq_true rfl) ?_
  intro p e s m args below meth c hx hb hml hown hts hlk ht hK hX H hH0 hM hS ls hl
  clear hH0
  have hl : lv_has ls 5 [(0, .ref xo), (1, .int (nI j)), (2, .int y)] := hl
  refine lv_aload_n hx hb dX3_move_0 rfl (lv_at hl 0 rfl) ?_
  refine lv_iload_n hx hb dX3_move_1 rfl (lv_at hl 1 rfl) ?_
  refine lv_iload_n hx hb dX3_move_2 rfl (lv_at hl 2 rfl) ?_
  refine xt_go (xt_runV (As := [.int (nI j), .int y]) (rest := []) hx hb hml hown hts hK hX hM hS okV_RX3_196_X3_moveRefusal (xet_X3_moveRefusal_y l hl9 xo j y (by omega) (by omega)) hxo rfl rfl rfl ⟨Nat.le_of_ble_eq_true rfl, Nat.le_of_ble_eq_true rfl⟩ hl.1 rfl (Nat.le_of_ble_eq_true rfl) dX3_move_3 ⟨by decide, by decide⟩) hS (fun ce q9 H locs hM hS hHs hce hcv hcl => ?_)
  exact xt_pass ht hlk hM hS hce hcv hcl (by decide) (by decide)
set_option maxHeartbeats 4000000 in
set_option maxRecDepth 100000 in
theorem xet_X3_bond_x (l : Launch) (hl9 : l.stackTraces = false) {D : va_G} {cI cJ : ClassId} {M : MP} (xo fr tr pg : Nat) (su : Bool) (x y : Int32) (hxo : M xo = some (.inr (2, [.ref fr, .ref tr, .ref pg, .int (bI su)]))) (hbx : mIsSq x = false) : Xt l yX3_bond cX3_bond 3 (some .int) 8 D cI cJ [.ref xo, .int x, .int y] M xIO := by
  refine xt_start (by decide) (Nat.le_of_ble_eq_true rfl) ?_
  intro p e s m args below meth c hx hb hml hown hts hlk ht hK hX H hH0 hM hS ls hl
  clear hH0
  have hl : lv_has ls 3 [(0, .ref xo), (1, .int x), (2, .int y)] := hl
  refine lv_aload_n hx hb dX3_bond_0 rfl (lv_at hl 0 rfl) ?_
  refine lv_iload_n hx hb dX3_bond_1 rfl (lv_at hl 1 rfl) ?_
  refine lv_iload_n hx hb dX3_bond_2 rfl (lv_at hl 2 rfl) ?_
  refine xt_go (xt_runV (As := [.int x, .int y]) (rest := []) hx hb hml hown hts hK hX hM hS okV_RX3_219_X3_bondRefusal (xet_X3_bondRefusal_x l hl9 xo x y (by omega)) hxo rfl rfl rfl ⟨Nat.le_of_ble_eq_true rfl, Nat.le_of_ble_eq_true rfl⟩ hl.1 rfl (Nat.le_of_ble_eq_true rfl) dX3_bond_3 ⟨by decide, by decide⟩) hS (fun ce q9 H locs hM hS hHs hce hcv hcl => ?_)
  exact xt_pass ht hlk hM hS hce hcv hcl (by decide) (by decide)
set_option maxHeartbeats 4000000 in
set_option maxRecDepth 100000 in
theorem xet_X3_bond_y (l : Launch) (hl9 : l.stackTraces = false) {D : va_G} {cI cJ : ClassId} {M : MP} (xo fr tr pg : Nat) (su : Bool) (j : Nat) (y : Int32) (hxo : M xo = some (.inr (2, [.ref fr, .ref tr, .ref pg, .int (bI su)]))) (hj : j < 64) (hby : mIsSq y = false) : Xt l yX3_bond cX3_bond 3 (some .int) 8 D cI cJ [.ref xo, .int (nI j), .int y] M xIO := by
  refine xt_start (by decide) (Nat.le_of_ble_eq_true rfl) ?_
  intro p e s m args below meth c hx hb hml hown hts hlk ht hK hX H hH0 hM hS ls hl
  clear hH0
  have hl : lv_has ls 3 [(0, .ref xo), (1, .int (nI j)), (2, .int y)] := hl
  refine lv_aload_n hx hb dX3_bond_0 rfl (lv_at hl 0 rfl) ?_
  refine lv_iload_n hx hb dX3_bond_1 rfl (lv_at hl 1 rfl) ?_
  refine lv_iload_n hx hb dX3_bond_2 rfl (lv_at hl 2 rfl) ?_
  refine xt_go (xt_runV (As := [.int (nI j), .int y]) (rest := []) hx hb hml hown hts hK hX hM hS okV_RX3_219_X3_bondRefusal (xet_X3_bondRefusal_y l hl9 xo j y (by omega) (by omega)) hxo rfl rfl rfl ⟨Nat.le_of_ble_eq_true rfl, Nat.le_of_ble_eq_true rfl⟩ hl.1 rfl (Nat.le_of_ble_eq_true rfl) dX3_bond_3 ⟨by decide, by decide⟩) hS (fun ce q9 H locs hM hS hHs hce hcv hcl => ?_)
  exact xt_pass ht hlk hM hS hce hcv hcl (by decide) (by decide)
set_option maxHeartbeats 4000000 in
set_option maxRecDepth 100000 in
theorem xet_X3_dissolve_x (l : Launch) (hl9 : l.stackTraces = false) {D : va_G} {cI cJ : ClassId} {M : MP} (xo fr tr pg : Nat) (su : Bool) (x : Int32) (hxo : M xo = some (.inr (2, [.ref fr, .ref tr, .ref pg, .int (bI su)]))) (hbx : mIsSq x = false) : Xt l yX3_dissolve cX3_dissolve 3 (some .int) 8 D cI cJ [.ref xo, .int x] M xIO := by
  refine xt_start (by decide) (Nat.le_of_ble_eq_true rfl) ?_
  intro p e s m args below meth c hx hb hml hown hts hlk ht hK hX H hH0 hM hS ls hl
  clear hH0
  have hl : lv_has ls 3 [(0, .ref xo), (1, .int x)] := hl
  refine lv_aload_n hx hb dX3_dissolve_0 rfl (lv_at hl 0 rfl) ?_
  refine lv_iload_n hx hb dX3_dissolve_1 rfl (lv_at hl 1 rfl) ?_
  refine xt_go (xt_runV (As := [.int x]) (rest := []) hx hb hml hown hts hK hX hM hS okV_RX3_224_X3_dissolveRefusal (xet_X3_dissolveRefusal_x l hl9 xo x (by omega)) hxo rfl rfl rfl ⟨Nat.le_of_ble_eq_true rfl, Nat.le_of_ble_eq_true rfl⟩ hl.1 rfl (Nat.le_of_ble_eq_true rfl) dX3_dissolve_2 ⟨by decide, by decide⟩) hS (fun ce q9 H locs hM hS hHs hce hcv hcl => ?_)
  exact xt_pass ht hlk hM hS hce hcv hcl (by decide) (by decide)
set_option maxHeartbeats 4000000 in
set_option maxRecDepth 100000 in
theorem xet_X3_place_k (l : Launch) (hl9 : l.stackTraces = false) {D : va_G} {cI cJ : ClassId} {M : MP} (xo : Nat) (j : Nat) (y : Int32) (b : Bool) (hj : j < 64) (hby : mIsKd y = false) : Xt l yX3_place cX3_place 5 (some .int) 7 D cI cJ [.ref xo, .int (nI j), .int y, .int (bI b)] M xIA := by
  refine xt_start (by decide) (Nat.le_of_ble_eq_true rfl) ?_
  intro p e s m args below meth c hx hb hml hown hts hlk ht hK hX H hH0 hM hS ls hl
  clear hH0
  have hl : lv_has ls 5 [(0, .ref xo), (1, .int (nI j)), (2, .int y), (3, .int (bI b))] := hl
  refine lv_iload_n hx hb dX3_place_0 rfl (lv_at hl 1 rfl) ?_
  refine wr_go0 (wr_runS (As := [.int (nI j)]) (rest := []) hx hb hml hown hts hK hM okS_RX3_54_X3_requireSquare (met_X3_requireSquare l j (by omega)) rfl ⟨Nat.le_of_ble_eq_true rfl, Nat.le_of_ble_eq_true rfl⟩ hl.1 rfl (Nat.le_of_ble_eq_true rfl) dX3_place_1 ⟨by decide, by decide⟩) hS (fun M1 H locs hR hM hS => ?_)
  rw [show M1 = M from hR] at hM
  refine lv_iload_n hx hb dX3_place_4 rfl (lv_at hl 2 rfl) ?_
  refine xt_go (xt_runS (As := [.int y]) (rest := []) hx hb hml hown hts hK hX hM hS okS_RX3_58_X3_requireKind (xet_X3_requireKind l hl9 y (by omega)) rfl ⟨Nat.le_of_ble_eq_true rfl, Nat.le_of_ble_eq_true rfl⟩ hl.1 rfl (Nat.le_of_ble_eq_true rfl) dX3_place_5 ⟨by decide, by decide⟩) hS (fun ce q9 H locs hM hS hHs hce hcv hcl => ?_)
  exact xt_pass ht hlk hM hS hce hcv hcl (by decide) (by decide)
set_option maxHeartbeats 4000000 in
set_option maxRecDepth 100000 in
theorem xet_X3_capturedCount_k (l : Launch) (hl9 : l.stackTraces = false) {D : va_G} {cI cJ : ClassId} {M : MP} (xo : Nat) (y : Int32) (b : Bool) (hby : mIsKd y = false) : Xt l yX3_capturedCount cX3_capturedCount 5 (some .int) 7 D cI cJ [.ref xo, .int y, .int (bI b)] M xIA := by
  refine xt_start (by decide) (Nat.le_of_ble_eq_true rfl) ?_
  intro p e s m args below meth c hx hb hml hown hts hlk ht hK hX H hH0 hM hS ls hl
  clear hH0
  have hl : lv_has ls 5 [(0, .ref xo), (1, .int y), (2, .int (bI b))] := hl
  refine lv_iload_n hx hb dX3_capturedCount_0 rfl (lv_at hl 1 rfl) ?_
  refine xt_go (xt_runS (As := [.int y]) (rest := []) hx hb hml hown hts hK hX hM hS okS_RX3_58_X3_requireKind (xet_X3_requireKind l hl9 y (by omega)) rfl ⟨Nat.le_of_ble_eq_true rfl, Nat.le_of_ble_eq_true rfl⟩ hl.1 rfl (Nat.le_of_ble_eq_true rfl) dX3_capturedCount_1 ⟨by decide, by decide⟩) hS (fun ce q9 H locs hM hS hHs hce hcv hcl => ?_)
  exact xt_pass ht hlk hM hS hce hcv hcl (by decide) (by decide)
set_option maxHeartbeats 4000000 in
set_option maxRecDepth 100000 in
theorem xet_X3_countSequences_k (l : Launch) (hl9 : l.stackTraces = false) {D : va_G} {cI cJ : ClassId} {M : MP} (xo : Nat) (y : Int32) (hby : mIs12 y = false) : Xt l yX3_countSequences cX3_countSequences 2 (some .int) 6 D cI cJ [.ref xo, .int y] M xIA := by
  refine xt_start (by decide) (Nat.le_of_ble_eq_true rfl) ?_
  intro p e s m args below meth c hx hb hml hown hts hlk ht hK hX H hH0 hM hS ls hl
  clear hH0
  have hl : lv_has ls 2 [(0, .ref xo), (1, .int y)] := hl
  refine lv_iload_n hx hb dX3_countSequences_0 rfl (lv_at hl 1 rfl) ?_
  refine lv_iconst (v := nI 1) hx hb dX3_countSequences_1 (by decide) ?_
  refine lv_icmp_eq (tgt := 20) hx hb dX3_countSequences_2 (by decide) (fun c_2 => ?_) (fun c_2 => ?_)
  · skip
    exact absurd hby (by unfold mIs12; rw [decide_eq_true c_2, Bool.true_or]; decide)
  · skip
    refine lv_iload_n hx hb dX3_countSequences_5 rfl (lv_at hl 1 rfl) ?_
    refine lv_iconst (v := nI 2) hx hb dX3_countSequences_6 (by decide) ?_
    refine lv_icmp_eq (tgt := 20) hx hb dX3_countSequences_7 (by decide) (fun c_7 => ?_) (fun c_7 => ?_)
    · skip
      exact absurd hby (by unfold mIs12; rw [decide_eq_true c_7, Bool.or_true]; decide)
    · skip
      exact xt_throw (text := "sequences of 1 or 2 moves are counted") hx hb hml hl9 hown (by decide +kernel) (hts _ qw_2_228) (hts _ qw_1_12) (xat_IA hts hX) xgd_IA hX (List.mem_of_getElem? (i := 6) rfl) hM hS hlk ht hl.1 (by decide) dX3_countSequences_10 dX3_countSequences_13 dX3_countSequences_14 dX3_countSequences_16 dX3_countSequences_19
set_option maxHeartbeats 4000000 in
set_option maxRecDepth 100000 in
theorem xet_X3_place_s (l : Launch) (hl9 : l.stackTraces = false) {D : va_G} {cI cJ : ClassId} {M : MP} (xo fr tr pg : Nat) (su : Bool) (bf af : Value) (nu ca qu ve : Nat) (po okk pt : Nat) (K : Nat → BitVec 64)  (w bk : BitVec 64) (wa : Bool) (j k : Nat) (b : Bool) (hxo : M xo = some (.inr (2, [.ref fr, .ref tr, .ref pg, .int (bI su)]))) (hpg : M pg = some (.inr (0, [.ref po, bf, .int (nI nu), af, .int (nI ca), .int (nI qu), .int (nI ve)]))) (hpo : M po = some (.inr (1, [.ref okk, .ref pt, .long (bL w), .long (bL bk), .int (bI wa)]))) (hokk : M okk = some (eJ cJ 7 (fun ζ => bL (K ζ)))) (hj : j < 64) (hk1 : 1 ≤ k) (hk6 : k ≤ 6) (hsu : su = false) : Xt l yX3_place cX3_place 5 (some .int) 6 D cI cJ [.ref xo, .int (nI j), .int (nI k), .int (bI b)] M xIS := by
  refine xt_start (by decide) (Nat.le_of_ble_eq_true rfl) ?_
  intro p e s m args below meth c hx hb hml hown hts hlk ht hK hX H hH0 hM hS ls hl
  clear hH0
  have hl : lv_has ls 5 [(0, .ref xo), (1, .int (nI j)), (2, .int (nI k)), (3, .int (bI b))] := hl
  refine lv_iload_n hx hb dX3_place_0 rfl (lv_at hl 1 rfl) ?_
  refine wr_go0 (wr_runS (As := [.int (nI j)]) (rest := []) hx hb hml hown hts hK hM okS_RX3_54_X3_requireSquare (met_X3_requireSquare l j (by omega)) rfl ⟨Nat.le_of_ble_eq_true rfl, Nat.le_of_ble_eq_true rfl⟩ hl.1 rfl (Nat.le_of_ble_eq_true rfl) dX3_place_1 ⟨by decide, by decide⟩) hS (fun M1 H locs hR hM hS => ?_)
  rw [show M1 = M from hR] at hM
  refine lv_iload_n hx hb dX3_place_4 rfl (lv_at hl 2 rfl) ?_
  refine wr_go0 (wr_runS (As := [.int (nI k)]) (rest := []) hx hb hml hown hts hK hM okS_RX3_58_X3_requireKind (met_X3_requireKind l k (by omega) (by omega)) rfl ⟨Nat.le_of_ble_eq_true rfl, Nat.le_of_ble_eq_true rfl⟩ hl.1 rfl (Nat.le_of_ble_eq_true rfl) dX3_place_5 ⟨by decide, by decide⟩) hS (fun M1 H locs hR hM hS => ?_)
  rw [show M1 = M from hR] at hM
  refine lv_aload_n hx hb dX3_place_8 rfl (lv_at hl 0 rfl) ?_
  refine w_get (C := RX3) (T := TX3) (N := 4) (ci := 2) hx hb hts hown hK hM inX3 rfl 2 (by decide) qw_1_104 rfl hxo rfl dX3_place_9 ?_
  refine w_get (C := RX0) (T := TX0) (N := 7) (ci := 0) hx hb hts hown hK hM inX0 rfl 0 (by decide) qw_1_63 rfl hpg rfl dX3_place_12 ?_
  refine lv_astore (lv' := [(4, .ref po), (0, .ref xo), (1, .int (nI j)), (2, .int (nI k)), (3, .int (bI b))]) hx hb dX3_place_15 hl (by decide) rfl (fun ls hl => ?_)
  refine lv_aload_n hx hb dX3_place_17 rfl (lv_at hl 1 rfl) ?_
  refine w_get (C := RX3) (T := TX3) (N := 4) (ci := 2) hx hb hts hown hK hM inX3 rfl 3 (by decide) qw_1_105 rfl hxo rfl dX3_place_18 ?_
  refine topi (bI false) (by rw [hsu]) ?_
  refine zb_eq (tgt := 35) hx hb false dX3_place_21 (by decide) (fun _ => ?_) (fun h => absurd (h.symm.trans (rfl : false = false)) (by decide))
  exact xt_throw (text := "the piece cannot be placed there") hx hb hml hl9 hown (by decide +kernel) (hts _ qw_3_8) (hts _ qw_1_13) (xat_IS hts hX) xgd_IS hX (List.mem_of_getElem? (i := 2) rfl) hM hS hlk ht hl.1 (by decide) dX3_place_35 dX3_place_38 dX3_place_39 dX3_place_41 dX3_place_44
set_option maxHeartbeats 4000000 in
set_option maxRecDepth 100000 in
theorem xet_X3_place_r (l : Launch) (hl9 : l.stackTraces = false) {D : va_G} {cI cJ : ClassId} {M : MP} (xo fr tr pg : Nat) (su : Bool) (bf af : Value) (nu ca qu ve : Nat) (po okk pt : Nat) (K : Nat → BitVec 64)  (w bk : BitVec 64) (wa : Bool) (j k : Nat) (b : Bool) (hxo : M xo = some (.inr (2, [.ref fr, .ref tr, .ref pg, .int (bI su)]))) (hpg : M pg = some (.inr (0, [.ref po, bf, .int (nI nu), af, .int (nI ca), .int (nI qu), .int (nI ve)]))) (hpo : M po = some (.inr (1, [.ref okk, .ref pt, .long (bL w), .long (bL bk), .int (bI wa)]))) (hokk : M okk = some (eJ cJ 7 (fun ζ => bL (K ζ)))) (hj : j < 64) (hk1 : 1 ≤ k) (hk6 : k ≤ 6) (hsu : su = true) (hrm : kRoom K w bk j k b = false) : Xt l yX3_place cX3_place 5 (some .int) 6 D cI cJ [.ref xo, .int (nI j), .int (nI k), .int (bI b)] M xIS := by
  refine xt_start (by decide) (Nat.le_of_ble_eq_true rfl) ?_
  intro p e s m args below meth c hx hb hml hown hts hlk ht hK hX H hH0 hM hS ls hl
  clear hH0
  have hl : lv_has ls 5 [(0, .ref xo), (1, .int (nI j)), (2, .int (nI k)), (3, .int (bI b))] := hl
  refine lv_iload_n hx hb dX3_place_0 rfl (lv_at hl 1 rfl) ?_
  refine wr_go0 (wr_runS (As := [.int (nI j)]) (rest := []) hx hb hml hown hts hK hM okS_RX3_54_X3_requireSquare (met_X3_requireSquare l j (by omega)) rfl ⟨Nat.le_of_ble_eq_true rfl, Nat.le_of_ble_eq_true rfl⟩ hl.1 rfl (Nat.le_of_ble_eq_true rfl) dX3_place_1 ⟨by decide, by decide⟩) hS (fun M1 H locs hR hM hS => ?_)
  rw [show M1 = M from hR] at hM
  refine lv_iload_n hx hb dX3_place_4 rfl (lv_at hl 2 rfl) ?_
  refine wr_go0 (wr_runS (As := [.int (nI k)]) (rest := []) hx hb hml hown hts hK hM okS_RX3_58_X3_requireKind (met_X3_requireKind l k (by omega) (by omega)) rfl ⟨Nat.le_of_ble_eq_true rfl, Nat.le_of_ble_eq_true rfl⟩ hl.1 rfl (Nat.le_of_ble_eq_true rfl) dX3_place_5 ⟨by decide, by decide⟩) hS (fun M1 H locs hR hM hS => ?_)
  rw [show M1 = M from hR] at hM
  refine lv_aload_n hx hb dX3_place_8 rfl (lv_at hl 0 rfl) ?_
  refine w_get (C := RX3) (T := TX3) (N := 4) (ci := 2) hx hb hts hown hK hM inX3 rfl 2 (by decide) qw_1_104 rfl hxo rfl dX3_place_9 ?_
  refine w_get (C := RX0) (T := TX0) (N := 7) (ci := 0) hx hb hts hown hK hM inX0 rfl 0 (by decide) qw_1_63 rfl hpg rfl dX3_place_12 ?_
  refine lv_astore (lv' := [(4, .ref po), (0, .ref xo), (1, .int (nI j)), (2, .int (nI k)), (3, .int (bI b))]) hx hb dX3_place_15 hl (by decide) rfl (fun ls hl => ?_)
  refine lv_aload_n hx hb dX3_place_17 rfl (lv_at hl 1 rfl) ?_
  refine w_get (C := RX3) (T := TX3) (N := 4) (ci := 2) hx hb hts hown hK hM inX3 rfl 3 (by decide) qw_1_105 rfl hxo rfl dX3_place_18 ?_
  refine topi (bI true) (by rw [hsu]) ?_
  refine zb_eq (tgt := 35) hx hb true dX3_place_21 (by decide) (fun h => absurd (h.symm.trans (rfl : true = true)) (by decide)) (fun _ => ?_)
  refine lv_aload hx hb dX3_place_24 (lv_at hl 0 rfl) ?_
  refine lv_iload_n hx hb dX3_place_26 rfl (lv_at hl 2 rfl) ?_
  refine lv_iload_n hx hb dX3_place_27 rfl (lv_at hl 3 rfl) ?_
  refine lv_iload_n hx hb dX3_place_28 rfl (lv_at hl 4 rfl) ?_
  refine rd_goI (rd_runV (As := [.int (nI j), .int (nI k), .int (bI b)]) (rest := []) hx hb hml hown hts hK hM okV_RX3_61_X1_hasRoomFor (met_X1_hasRoomFor l po okk pt K w bk wa j k b hpo hokk (by omega) (by omega) (by omega)) hpo rfl rfl rfl ⟨Nat.le_of_ble_eq_true rfl, Nat.le_of_ble_eq_true rfl⟩ hl.1 rfl (Nat.le_of_ble_eq_true rfl) dX3_place_29 ⟨by decide, by decide⟩) ?_
  refine topi (bI false) (by rw [hrm]) ?_
  refine zb_ne (tgt := 45) hx hb false dX3_place_32 (by decide) (fun h => absurd (h.symm.trans (rfl : false = false)) (by decide)) (fun _ => ?_)
  exact xt_throw (text := "the piece cannot be placed there") hx hb hml hl9 hown (by decide +kernel) (hts _ qw_3_8) (hts _ qw_1_13) (xat_IS hts hX) xgd_IS hX (List.mem_of_getElem? (i := 2) rfl) hM hS hlk ht hl.1 (by decide) dX3_place_35 dX3_place_38 dX3_place_39 dX3_place_41 dX3_place_44
set_option maxHeartbeats 4000000 in
set_option maxRecDepth 100000 in
theorem xet_X3_remove_s (l : Launch) (hl9 : l.stackTraces = false) {D : va_G} {cI cJ : ClassId} {M : MP} (xo fr tr pg : Nat) (su : Bool) (bf af : Value) (nu ca qu ve : Nat) (po okk pt : Nat) (K : Nat → BitVec 64)  (w bk : BitVec 64) (wa : Bool) (j : Nat) (hxo : M xo = some (.inr (2, [.ref fr, .ref tr, .ref pg, .int (bI su)]))) (hpg : M pg = some (.inr (0, [.ref po, bf, .int (nI nu), af, .int (nI ca), .int (nI qu), .int (nI ve)]))) (hpo : M po = some (.inr (1, [.ref okk, .ref pt, .long (bL w), .long (bL bk), .int (bI wa)]))) (hokk : M okk = some (eJ cJ 7 (fun ζ => bL (K ζ)))) (hj : j < 64) (hsu : su = false) : Xt l yX3_remove cX3_remove 4 (some .int) 6 D cI cJ [.ref xo, .int (nI j)] M xIS := by
  refine xt_start (by decide) (Nat.le_of_ble_eq_true rfl) ?_
  intro p e s m args below meth c hx hb hml hown hts hlk ht hK hX H hH0 hM hS ls hl
  clear hH0
  have hl : lv_has ls 4 [(0, .ref xo), (1, .int (nI j))] := hl
  refine lv_iload_n hx hb dX3_remove_0 rfl (lv_at hl 1 rfl) ?_
  refine wr_go0 (wr_runS (As := [.int (nI j)]) (rest := []) hx hb hml hown hts hK hM okS_RX3_54_X3_requireSquare (met_X3_requireSquare l j (by omega)) rfl ⟨Nat.le_of_ble_eq_true rfl, Nat.le_of_ble_eq_true rfl⟩ hl.1 rfl (Nat.le_of_ble_eq_true rfl) dX3_remove_1 ⟨by decide, by decide⟩) hS (fun M1 H locs hR hM hS => ?_)
  rw [show M1 = M from hR] at hM
  refine lv_aload_n hx hb dX3_remove_4 rfl (lv_at hl 0 rfl) ?_
  refine w_get (C := RX3) (T := TX3) (N := 4) (ci := 2) hx hb hts hown hK hM inX3 rfl 2 (by decide) qw_1_104 rfl hxo rfl dX3_remove_5 ?_
  refine w_get (C := RX0) (T := TX0) (N := 7) (ci := 0) hx hb hts hown hK hM inX0 rfl 0 (by decide) qw_1_63 rfl hpg rfl dX3_remove_8 ?_
  refine lv_astore_n (lv' := [(2, .ref po), (0, .ref xo), (1, .int (nI j))]) hx hb dX3_remove_11 rfl hl (by decide) rfl (fun ls hl => ?_)
  refine lv_aload_n hx hb dX3_remove_12 rfl (lv_at hl 0 rfl) ?_
  refine lv_iload_n hx hb dX3_remove_13 rfl (lv_at hl 2 rfl) ?_
  refine rd_goI (rd_runV (As := [.int (nI j)]) (rest := []) hx hb hml hown hts hK hM okV_RX3_82_X1_kindOn (met_X1_kindOn l po okk pt K w bk wa j hpo hokk (by omega)) hpo rfl rfl rfl ⟨Nat.le_of_ble_eq_true rfl, Nat.le_of_ble_eq_true rfl⟩ hl.1 rfl (Nat.le_of_ble_eq_true rfl) dX3_remove_14 ⟨by decide, by decide⟩) ?_
  have hf14_0 := kKind_lt K j
  refine lv_istore_n (lv' := [(3, .int (nI (kKind K j))), (2, .ref po), (0, .ref xo), (1, .int (nI j))]) hx hb dX3_remove_17 rfl hl (by decide) rfl (fun ls hl => ?_)
  refine lv_aload_n hx hb dX3_remove_18 rfl (lv_at hl 2 rfl) ?_
  refine w_get (C := RX3) (T := TX3) (N := 4) (ci := 2) hx hb hts hown hK hM inX3 rfl 3 (by decide) qw_1_105 rfl hxo rfl dX3_remove_19 ?_
  refine topi (bI false) (by rw [hsu]) ?_
  refine zb_eq (tgt := 29) hx hb false dX3_remove_22 (by decide) (fun _ => ?_) (fun h => absurd (h.symm.trans (rfl : false = false)) (by decide))
  exact xt_throw (text := "there is nothing to remove") hx hb hml hl9 hown (by decide +kernel) (hts _ qw_3_8) (hts _ qw_1_13) (xat_IS hts hX) xgd_IS hX (List.mem_of_getElem? (i := 3) rfl) hM hS hlk ht hl.1 (by decide) dX3_remove_29 dX3_remove_32 dX3_remove_33 dX3_remove_35 dX3_remove_38
set_option maxHeartbeats 4000000 in
set_option maxRecDepth 100000 in
theorem xet_X3_remove_r (l : Launch) (hl9 : l.stackTraces = false) {D : va_G} {cI cJ : ClassId} {M : MP} (xo fr tr pg : Nat) (su : Bool) (bf af : Value) (nu ca qu ve : Nat) (po okk pt : Nat) (K : Nat → BitVec 64)  (w bk : BitVec 64) (wa : Bool) (j : Nat) (hxo : M xo = some (.inr (2, [.ref fr, .ref tr, .ref pg, .int (bI su)]))) (hpg : M pg = some (.inr (0, [.ref po, bf, .int (nI nu), af, .int (nI ca), .int (nI qu), .int (nI ve)]))) (hpo : M po = some (.inr (1, [.ref okk, .ref pt, .long (bL w), .long (bL bk), .int (bI wa)]))) (hokk : M okk = some (eJ cJ 7 (fun ζ => bL (K ζ)))) (hj : j < 64) (hsu : su = true) (hkd : kKind K j = 0) : Xt l yX3_remove cX3_remove 4 (some .int) 6 D cI cJ [.ref xo, .int (nI j)] M xIS := by
  refine xt_start (by decide) (Nat.le_of_ble_eq_true rfl) ?_
  intro p e s m args below meth c hx hb hml hown hts hlk ht hK hX H hH0 hM hS ls hl
  clear hH0
  have hl : lv_has ls 4 [(0, .ref xo), (1, .int (nI j))] := hl
  refine lv_iload_n hx hb dX3_remove_0 rfl (lv_at hl 1 rfl) ?_
  refine wr_go0 (wr_runS (As := [.int (nI j)]) (rest := []) hx hb hml hown hts hK hM okS_RX3_54_X3_requireSquare (met_X3_requireSquare l j (by omega)) rfl ⟨Nat.le_of_ble_eq_true rfl, Nat.le_of_ble_eq_true rfl⟩ hl.1 rfl (Nat.le_of_ble_eq_true rfl) dX3_remove_1 ⟨by decide, by decide⟩) hS (fun M1 H locs hR hM hS => ?_)
  rw [show M1 = M from hR] at hM
  refine lv_aload_n hx hb dX3_remove_4 rfl (lv_at hl 0 rfl) ?_
  refine w_get (C := RX3) (T := TX3) (N := 4) (ci := 2) hx hb hts hown hK hM inX3 rfl 2 (by decide) qw_1_104 rfl hxo rfl dX3_remove_5 ?_
  refine w_get (C := RX0) (T := TX0) (N := 7) (ci := 0) hx hb hts hown hK hM inX0 rfl 0 (by decide) qw_1_63 rfl hpg rfl dX3_remove_8 ?_
  refine lv_astore_n (lv' := [(2, .ref po), (0, .ref xo), (1, .int (nI j))]) hx hb dX3_remove_11 rfl hl (by decide) rfl (fun ls hl => ?_)
  refine lv_aload_n hx hb dX3_remove_12 rfl (lv_at hl 0 rfl) ?_
  refine lv_iload_n hx hb dX3_remove_13 rfl (lv_at hl 2 rfl) ?_
  refine rd_goI (rd_runV (As := [.int (nI j)]) (rest := []) hx hb hml hown hts hK hM okV_RX3_82_X1_kindOn (met_X1_kindOn l po okk pt K w bk wa j hpo hokk (by omega)) hpo rfl rfl rfl ⟨Nat.le_of_ble_eq_true rfl, Nat.le_of_ble_eq_true rfl⟩ hl.1 rfl (Nat.le_of_ble_eq_true rfl) dX3_remove_14 ⟨by decide, by decide⟩) ?_
  have hf14_0 := kKind_lt K j
  refine lv_istore_n (lv' := [(3, .int (nI (kKind K j))), (2, .ref po), (0, .ref xo), (1, .int (nI j))]) hx hb dX3_remove_17 rfl hl (by decide) rfl (fun ls hl => ?_)
  refine lv_aload_n hx hb dX3_remove_18 rfl (lv_at hl 2 rfl) ?_
  refine w_get (C := RX3) (T := TX3) (N := 4) (ci := 2) hx hb hts hown hK hM inX3 rfl 3 (by decide) qw_1_105 rfl hxo rfl dX3_remove_19 ?_
  refine topi (bI true) (by rw [hsu]) ?_
  refine zb_eq (tgt := 29) hx hb true dX3_remove_22 (by decide) (fun h => absurd (h.symm.trans (rfl : true = true)) (by decide)) (fun _ => ?_)
  refine lv_iload_n hx hb dX3_remove_25 rfl (lv_at hl 0 rfl) ?_
  refine n0_ne (tgt := 39) hx hb (kKind K j) (by omega) dX3_remove_26 (by decide) (fun c_26 => ?_) (fun c_26 => ?_)
  · skip
    exfalso; omega
  · skip
    exact xt_throw (text := "there is nothing to remove") hx hb hml hl9 hown (by decide +kernel) (hts _ qw_3_8) (hts _ qw_1_13) (xat_IS hts hX) xgd_IS hX (List.mem_of_getElem? (i := 3) rfl) hM hS hlk ht hl.1 (by decide) dX3_remove_29 dX3_remove_32 dX3_remove_33 dX3_remove_35 dX3_remove_38
set_option maxHeartbeats 4000000 in
set_option maxRecDepth 100000 in
theorem xet_X3_endSetup_s (l : Launch) (hl9 : l.stackTraces = false) {D : va_G} {cI cJ : ClassId} {M : MP} (xo fr tr pg : Nat) (su : Bool) (bf af : Value) (nu ca qu ve : Nat) (po okk pt : Nat) (K : Nat → BitVec 64)  (w bk : BitVec 64) (wa : Bool) (b : Bool) (hxo : M xo = some (.inr (2, [.ref fr, .ref tr, .ref pg, .int (bI su)]))) (hpg : M pg = some (.inr (0, [.ref po, bf, .int (nI nu), af, .int (nI ca), .int (nI qu), .int (nI ve)]))) (hpo : M po = some (.inr (1, [.ref okk, .ref pt, .long (bL w), .long (bL bk), .int (bI wa)]))) (hokk : M okk = some (eJ cJ 7 (fun ζ => bL (K ζ)))) (hsu : su = false) : Xt l yX3_endSetup cX3_endSetup 3 (some .int) 6 D cI cJ [.ref xo, .int (bI b)] M xIS := by
  refine xt_start (by decide) (Nat.le_of_ble_eq_true rfl) ?_
  intro p e s m args below meth c hx hb hml hown hts hlk ht hK hX H hH0 hM hS ls hl
  clear hH0
  have hl : lv_has ls 3 [(0, .ref xo), (1, .int (bI b))] := hl
  refine lv_aload_n hx hb dX3_endSetup_0 rfl (lv_at hl 0 rfl) ?_
  refine w_get (C := RX3) (T := TX3) (N := 4) (ci := 2) hx hb hts hown hK hM inX3 rfl 2 (by decide) qw_1_104 rfl hxo rfl dX3_endSetup_1 ?_
  refine w_get (C := RX0) (T := TX0) (N := 7) (ci := 0) hx hb hts hown hK hM inX0 rfl 0 (by decide) qw_1_63 rfl hpg rfl dX3_endSetup_4 ?_
  refine lv_astore_n (lv' := [(2, .ref po), (0, .ref xo), (1, .int (bI b))]) hx hb dX3_endSetup_7 rfl hl (by decide) rfl (fun ls hl => ?_)
  refine lv_aload_n hx hb dX3_endSetup_8 rfl (lv_at hl 1 rfl) ?_
  refine w_get (C := RX3) (T := TX3) (N := 4) (ci := 2) hx hb hts hown hK hM inX3 rfl 3 (by decide) qw_1_105 rfl hxo rfl dX3_endSetup_9 ?_
  refine topi (bI false) (by rw [hsu]) ?_
  refine zb_eq (tgt := 23) hx hb false dX3_endSetup_12 (by decide) (fun _ => ?_) (fun h => absurd (h.symm.trans (rfl : false = false)) (by decide))
  exact xt_throw (text := "the game cannot begin so") hx hb hml hl9 hown (by decide +kernel) (hts _ qw_3_8) (hts _ qw_1_13) (xat_IS hts hX) xgd_IS hX (List.mem_of_getElem? (i := 4) rfl) hM hS hlk ht hl.1 (by decide) dX3_endSetup_23 dX3_endSetup_26 dX3_endSetup_27 dX3_endSetup_29 dX3_endSetup_32
set_option maxHeartbeats 4000000 in
set_option maxRecDepth 100000 in
theorem xet_X3_endSetup_r (l : Launch) (hl9 : l.stackTraces = false) {D : va_G} {cI cJ : ClassId} {M : MP} (xo fr tr pg : Nat) (su : Bool) (bf af : Value) (nu ca qu ve : Nat) (po okk pt : Nat) (K : Nat → BitVec 64)  (w bk : BitVec 64) (wa : Bool) (b : Bool) (hxo : M xo = some (.inr (2, [.ref fr, .ref tr, .ref pg, .int (bI su)]))) (hpg : M pg = some (.inr (0, [.ref po, bf, .int (nI nu), af, .int (nI ca), .int (nI qu), .int (nI ve)]))) (hpo : M po = some (.inr (1, [.ref okk, .ref pt, .long (bL w), .long (bL bk), .int (bI wa)]))) (hokk : M okk = some (eJ cJ 7 (fun ζ => bL (K ζ)))) (hsu : su = true) (hbg : kBeg K w bk b = false) : Xt l yX3_endSetup cX3_endSetup 3 (some .int) 6 D cI cJ [.ref xo, .int (bI b)] M xIS := by
  refine xt_start (by decide) (Nat.le_of_ble_eq_true rfl) ?_
  intro p e s m args below meth c hx hb hml hown hts hlk ht hK hX H hH0 hM hS ls hl
  clear hH0
  have hl : lv_has ls 3 [(0, .ref xo), (1, .int (bI b))] := hl
  refine lv_aload_n hx hb dX3_endSetup_0 rfl (lv_at hl 0 rfl) ?_
  refine w_get (C := RX3) (T := TX3) (N := 4) (ci := 2) hx hb hts hown hK hM inX3 rfl 2 (by decide) qw_1_104 rfl hxo rfl dX3_endSetup_1 ?_
  refine w_get (C := RX0) (T := TX0) (N := 7) (ci := 0) hx hb hts hown hK hM inX0 rfl 0 (by decide) qw_1_63 rfl hpg rfl dX3_endSetup_4 ?_
  refine lv_astore_n (lv' := [(2, .ref po), (0, .ref xo), (1, .int (bI b))]) hx hb dX3_endSetup_7 rfl hl (by decide) rfl (fun ls hl => ?_)
  refine lv_aload_n hx hb dX3_endSetup_8 rfl (lv_at hl 1 rfl) ?_
  refine w_get (C := RX3) (T := TX3) (N := 4) (ci := 2) hx hb hts hown hK hM inX3 rfl 3 (by decide) qw_1_105 rfl hxo rfl dX3_endSetup_9 ?_
  refine topi (bI true) (by rw [hsu]) ?_
  refine zb_eq (tgt := 23) hx hb true dX3_endSetup_12 (by decide) (fun h => absurd (h.symm.trans (rfl : true = true)) (by decide)) (fun _ => ?_)
  refine lv_aload_n hx hb dX3_endSetup_15 rfl (lv_at hl 0 rfl) ?_
  refine lv_iload_n hx hb dX3_endSetup_16 rfl (lv_at hl 2 rfl) ?_
  refine rd_goI (rd_runV (As := [.int (bI b)]) (rest := []) hx hb hml hown hts hK hM okV_RX3_91_X1_canBegin (met_X1_canBegin l po okk pt K w bk wa b hpo hokk) hpo rfl rfl rfl ⟨Nat.le_of_ble_eq_true rfl, Nat.le_of_ble_eq_true rfl⟩ hl.1 rfl (Nat.le_of_ble_eq_true rfl) dX3_endSetup_17 ⟨by decide, by decide⟩) ?_
  refine topi (bI false) (by rw [hbg]) ?_
  refine zb_ne (tgt := 33) hx hb false dX3_endSetup_20 (by decide) (fun h => absurd (h.symm.trans (rfl : false = false)) (by decide)) (fun _ => ?_)
  exact xt_throw (text := "the game cannot begin so") hx hb hml hl9 hown (by decide +kernel) (hts _ qw_3_8) (hts _ qw_1_13) (xat_IS hts hX) xgd_IS hX (List.mem_of_getElem? (i := 4) rfl) hM hS hlk ht hl.1 (by decide) dX3_endSetup_23 dX3_endSetup_26 dX3_endSetup_27 dX3_endSetup_29 dX3_endSetup_32
set_option maxHeartbeats 4000000 in
set_option maxRecDepth 100000 in
theorem xet_X3_move_r (l : Launch) (hl9 : l.stackTraces = false) {D : va_G} {cI cJ : ClassId} {M : MP} (xo fr tr pg : Nat) (su : Bool) (bf af : Value) (nu ca qu ve : Nat) (po okk pt : Nat) (K : Nat → BitVec 64) (pp : Nat → Int32) (w bk : BitVec 64) (wa : Bool) (a b : Nat) (hxo : M xo = some (.inr (2, [.ref fr, .ref tr, .ref pg, .int (bI su)]))) (hpg : M pg = some (.inr (0, [.ref po, bf, .int (nI nu), af, .int (nI ca), .int (nI qu), .int (nI ve)]))) (hpo : M po = some (.inr (1, [.ref okk, .ref pt, .long (bL w), .long (bL bk), .int (bI wa)]))) (hokk : M okk = some (eJ cJ 7 (fun ζ => bL (K ζ)))) (hpt : M pt = some (eI cI 64 pp)) (ha : a < 64) (hb2 : b < 64) (hve : ve < 2 ^ 31) (hW : WfPt pp) (hr : (if kPl su ve then kMovR K pp w bk wa a b else 1) ≠ 0) : Xt l yX3_move cX3_move 5 (some .int) 6 D cI cJ [.ref xo, .int (nI a), .int (nI b)] M xIS := by
  refine xt_start (by decide) (Nat.le_of_ble_eq_true rfl) ?_
  intro p e s m args below meth c hx hb hml hown hts hlk ht hK hX H hH0 hM hS ls hl
  clear hH0
  have hl : lv_has ls 5 [(0, .ref xo), (1, .int (nI a)), (2, .int (nI b))] := hl
  have hle : (if kPl su ve then kMovR K pp w bk wa a b else 1) ≤ 7 := by split; exact Nat.le_trans (kMovR_le K pp w bk wa a b) (by decide); decide
  refine lv_aload_n hx hb dX3_move_0 rfl (lv_at hl 0 rfl) ?_
  refine lv_iload_n hx hb dX3_move_1 rfl (lv_at hl 1 rfl) ?_
  refine lv_iload_n hx hb dX3_move_2 rfl (lv_at hl 2 rfl) ?_
  refine wr_go0 (wr_runV (As := [.int (nI a), .int (nI b)]) (rest := []) hx hb hml hown hts hK hM okV_RX3_196_X3_moveRefusal (met_X3_moveRefusal l xo fr tr pg su bf af nu ca qu ve po okk pt K pp w bk wa a b hxo hpg hpo hokk hpt (by omega) (by omega) (by omega) hW) hxo rfl rfl rfl ⟨Nat.le_of_ble_eq_true rfl, Nat.le_of_ble_eq_true rfl⟩ hl.1 rfl (Nat.le_of_ble_eq_true rfl) dX3_move_3 ⟨by decide, by decide⟩) hS (fun M1 H locs hR hM hS => ?_)
  rw [show M1 = M from hR] at hM
  refine n0_ne (tgt := 16) hx hb (if kPl su ve then kMovR K pp w bk wa a b else 1) (by omega) dX3_move_6 (by decide) (fun c_6 => ?_) (fun c_6 => ?_)
  · skip
    exact xt_throw (text := "the move is not legal") hx hb hml hl9 hown (by decide +kernel) (hts _ qw_3_8) (hts _ qw_1_13) (xat_IS hts hX) xgd_IS hX (List.mem_of_getElem? (i := 7) rfl) hM hS hlk ht hl.1 (by decide) dX3_move_16 dX3_move_19 dX3_move_20 dX3_move_22 dX3_move_25
  · skip
    exfalso; omega
set_option maxHeartbeats 4000000 in
set_option maxRecDepth 100000 in
theorem xet_X3_bond_r (l : Launch) (hl9 : l.stackTraces = false) {D : va_G} {cI cJ : ClassId} {M : MP} (xo fr tr pg : Nat) (su : Bool) (bf af : Value) (nu ca qu ve : Nat) (po okk pt : Nat) (K : Nat → BitVec 64) (pp : Nat → Int32) (w bk : BitVec 64) (wa : Bool) (a b : Nat) (hxo : M xo = some (.inr (2, [.ref fr, .ref tr, .ref pg, .int (bI su)]))) (hpg : M pg = some (.inr (0, [.ref po, bf, .int (nI nu), af, .int (nI ca), .int (nI qu), .int (nI ve)]))) (hpo : M po = some (.inr (1, [.ref okk, .ref pt, .long (bL w), .long (bL bk), .int (bI wa)]))) (hokk : M okk = some (eJ cJ 7 (fun ζ => bL (K ζ)))) (hpt : M pt = some (eI cI 64 pp)) (ha : a < 64) (hb2 : b < 64) (hve : ve < 2 ^ 31) (hr : (if kPl su ve then kBndR K pp w bk wa a b else 1) ≠ 0) : Xt l yX3_bond cX3_bond 3 (some .int) 6 D cI cJ [.ref xo, .int (nI a), .int (nI b)] M xIS := by
  refine xt_start (by decide) (Nat.le_of_ble_eq_true rfl) ?_
  intro p e s m args below meth c hx hb hml hown hts hlk ht hK hX H hH0 hM hS ls hl
  clear hH0
  have hl : lv_has ls 3 [(0, .ref xo), (1, .int (nI a)), (2, .int (nI b))] := hl
  have hle : (if kPl su ve then kBndR K pp w bk wa a b else 1) ≤ 7 := by split; exact Nat.le_trans (kBndR_le K pp w bk wa a b) (by decide); decide
  refine lv_aload_n hx hb dX3_bond_0 rfl (lv_at hl 0 rfl) ?_
  refine lv_iload_n hx hb dX3_bond_1 rfl (lv_at hl 1 rfl) ?_
  refine lv_iload_n hx hb dX3_bond_2 rfl (lv_at hl 2 rfl) ?_
  refine wr_go0 (wr_runV (As := [.int (nI a), .int (nI b)]) (rest := []) hx hb hml hown hts hK hM okV_RX3_219_X3_bondRefusal (met_X3_bondRefusal l xo fr tr pg su bf af nu ca qu ve po okk pt K pp w bk wa a b hxo hpg hpo hokk hpt (by omega) (by omega) (by omega)) hxo rfl rfl rfl ⟨Nat.le_of_ble_eq_true rfl, Nat.le_of_ble_eq_true rfl⟩ hl.1 rfl (Nat.le_of_ble_eq_true rfl) dX3_bond_3 ⟨by decide, by decide⟩) hS (fun M1 H locs hR hM hS => ?_)
  rw [show M1 = M from hR] at hM
  refine n0_ne (tgt := 16) hx hb (if kPl su ve then kBndR K pp w bk wa a b else 1) (by omega) dX3_bond_6 (by decide) (fun c_6 => ?_) (fun c_6 => ?_)
  · skip
    exact xt_throw (text := "the bonding is not legal") hx hb hml hl9 hown (by decide +kernel) (hts _ qw_3_8) (hts _ qw_1_13) (xat_IS hts hX) xgd_IS hX (List.mem_of_getElem? (i := 8) rfl) hM hS hlk ht hl.1 (by decide) dX3_bond_16 dX3_bond_19 dX3_bond_20 dX3_bond_22 dX3_bond_25
  · skip
    exfalso; omega
set_option maxHeartbeats 4000000 in
set_option maxRecDepth 100000 in
theorem xet_X3_dissolve_r (l : Launch) (hl9 : l.stackTraces = false) {D : va_G} {cI cJ : ClassId} {M : MP} (xo fr tr pg : Nat) (su : Bool) (bf af : Value) (nu ca qu ve : Nat) (po okk pt : Nat) (K : Nat → BitVec 64) (pp : Nat → Int32) (w bk : BitVec 64) (wa : Bool) (a : Nat) (hxo : M xo = some (.inr (2, [.ref fr, .ref tr, .ref pg, .int (bI su)]))) (hpg : M pg = some (.inr (0, [.ref po, bf, .int (nI nu), af, .int (nI ca), .int (nI qu), .int (nI ve)]))) (hpo : M po = some (.inr (1, [.ref okk, .ref pt, .long (bL w), .long (bL bk), .int (bI wa)]))) (hokk : M okk = some (eJ cJ 7 (fun ζ => bL (K ζ)))) (hpt : M pt = some (eI cI 64 pp)) (ha : a < 64) (hve : ve < 2 ^ 31) (hr : (if kPl su ve then kDisR K pp w bk wa a else 1) ≠ 0) : Xt l yX3_dissolve cX3_dissolve 3 (some .int) 6 D cI cJ [.ref xo, .int (nI a)] M xIS := by
  refine xt_start (by decide) (Nat.le_of_ble_eq_true rfl) ?_
  intro p e s m args below meth c hx hb hml hown hts hlk ht hK hX H hH0 hM hS ls hl
  clear hH0
  have hl : lv_has ls 3 [(0, .ref xo), (1, .int (nI a))] := hl
  have hle : (if kPl su ve then kDisR K pp w bk wa a else 1) ≤ 7 := by split; exact Nat.le_trans (kDisR_le K pp w bk wa a) (by decide); decide
  refine lv_aload_n hx hb dX3_dissolve_0 rfl (lv_at hl 0 rfl) ?_
  refine lv_iload_n hx hb dX3_dissolve_1 rfl (lv_at hl 1 rfl) ?_
  refine wr_go0 (wr_runV (As := [.int (nI a)]) (rest := []) hx hb hml hown hts hK hM okV_RX3_224_X3_dissolveRefusal (met_X3_dissolveRefusal l xo fr tr pg su bf af nu ca qu ve po okk pt K pp w bk wa a hxo hpg hpo hokk hpt (by omega) (by omega)) hxo rfl rfl rfl ⟨Nat.le_of_ble_eq_true rfl, Nat.le_of_ble_eq_true rfl⟩ hl.1 rfl (Nat.le_of_ble_eq_true rfl) dX3_dissolve_2 ⟨by decide, by decide⟩) hS (fun M1 H locs hR hM hS => ?_)
  rw [show M1 = M from hR] at hM
  refine n0_ne (tgt := 15) hx hb (if kPl su ve then kDisR K pp w bk wa a else 1) (by omega) dX3_dissolve_5 (by decide) (fun c_5 => ?_) (fun c_5 => ?_)
  · skip
    exact xt_throw (text := "the dissolving is not legal") hx hb hml hl9 hown (by decide +kernel) (hts _ qw_3_8) (hts _ qw_1_13) (xat_IS hts hX) xgd_IS hX (List.mem_of_getElem? (i := 9) rfl) hM hS hlk ht hl.1 (by decide) dX3_dissolve_15 dX3_dissolve_18 dX3_dissolve_19 dX3_dissolve_21 dX3_dissolve_24
  · skip
    exfalso; omega
set_option maxHeartbeats 4000000 in
set_option maxRecDepth 100000 in
theorem xet_X3_takeBack_s (l : Launch) (hl9 : l.stackTraces = false) {D : va_G} {cI cJ : ClassId} {M : MP} (xo tr cn N : Nat) (su : Bool) (pa po okk pt : Nat → Nat) (K : Nat → Nat → BitVec 64) (pp : Nat → Nat → Int32) (w bk : Nat → BitVec 64) (wa : Nat → Bool) (ca qu ve : Nat → Nat) (hxo : M xo = some (.inr (2, [.ref (pa 0), .ref tr, .ref (pa cn), .int (bI su)]))) (hPs : Pages cI cJ M pa po okk pt K pp w bk wa ca qu ve N) (hcn : cn < N) (hN : N ≤ 514) (hsu : su = true) : Xt l yX3_takeBack cX3_takeBack 2 (some .int) 6 D cI cJ [.ref xo] M xIS := by
  refine xt_start (by decide) (Nat.le_of_ble_eq_true rfl) ?_
  intro p e s m args below meth c hx hb hml hown hts hlk ht hK hX H hH0 hM hS ls hl
  clear hH0
  have hl : lv_has ls 2 [(0, .ref xo)] := hl
  refine lv_aload_n hx hb dX3_takeBack_0 rfl (lv_at hl 0 rfl) ?_
  refine w_get (C := RX3) (T := TX3) (N := 4) (ci := 2) hx hb hts hown hK hM inX3 rfl 2 (by decide) qw_1_104 rfl hxo rfl dX3_takeBack_1 ?_
  refine w_get (C := RX0) (T := TX0) (N := 7) (ci := 0) hx hb hts hown hK hM inX0 rfl 1 (by decide) qw_1_65 rfl (hPs.1 cn hcn) rfl dX3_takeBack_4 ?_
  refine w_astore_n (lv' := [(1, pgV pa cn), (0, .ref xo)]) hx hb (pgV_or _ _) dX3_takeBack_7 rfl hl (by decide) rfl (fun ls hl => ?_)
  refine lv_aload_n hx hb dX3_takeBack_8 rfl (lv_at hl 1 rfl) ?_
  refine w_get (C := RX3) (T := TX3) (N := 4) (ci := 2) hx hb hts hown hK hM inX3 rfl 3 (by decide) qw_1_105 rfl hxo rfl dX3_takeBack_9 ?_
  refine topi (bI true) (by rw [hsu]) ?_
  refine zb_ne (tgt := 19) hx hb true dX3_takeBack_12 (by decide) (fun _ => ?_) (fun h => absurd (h.symm.trans (rfl : true = true)) (by decide))
  exact xt_throw (text := "there is no action to take back") hx hb hml hl9 hown (by decide +kernel) (hts _ qw_3_8) (hts _ qw_1_13) (xat_IS hts hX) xgd_IS hX (List.mem_of_getElem? (i := 10) rfl) hM hS hlk ht hl.1 (by decide) dX3_takeBack_19 dX3_takeBack_22 dX3_takeBack_23 dX3_takeBack_25 dX3_takeBack_28
set_option maxHeartbeats 4000000 in
set_option maxRecDepth 100000 in
theorem xet_X3_takeBack_0 (l : Launch) (hl9 : l.stackTraces = false) {D : va_G} {cI cJ : ClassId} {M : MP} (xo tr cn N : Nat) (su : Bool) (pa po okk pt : Nat → Nat) (K : Nat → Nat → BitVec 64) (pp : Nat → Nat → Int32) (w bk : Nat → BitVec 64) (wa : Nat → Bool) (ca qu ve : Nat → Nat) (hxo : M xo = some (.inr (2, [.ref (pa 0), .ref tr, .ref (pa cn), .int (bI su)]))) (hPs : Pages cI cJ M pa po okk pt K pp w bk wa ca qu ve N) (hcn : cn < N) (hN : N ≤ 514) (hsu : su = false) (hc0 : cn = 0) : Xt l yX3_takeBack cX3_takeBack 2 (some .int) 6 D cI cJ [.ref xo] M xIS := by
  refine xt_start (by decide) (Nat.le_of_ble_eq_true rfl) ?_
  intro p e s m args below meth c hx hb hml hown hts hlk ht hK hX H hH0 hM hS ls hl
  clear hH0
  have hl : lv_has ls 2 [(0, .ref xo)] := hl
  refine lv_aload_n hx hb dX3_takeBack_0 rfl (lv_at hl 0 rfl) ?_
  refine w_get (C := RX3) (T := TX3) (N := 4) (ci := 2) hx hb hts hown hK hM inX3 rfl 2 (by decide) qw_1_104 rfl hxo rfl dX3_takeBack_1 ?_
  refine w_get (C := RX0) (T := TX0) (N := 7) (ci := 0) hx hb hts hown hK hM inX0 rfl 1 (by decide) qw_1_65 rfl (hPs.1 cn hcn) rfl dX3_takeBack_4 ?_
  rw [show pgV pa cn = .null by rw [hc0]; rfl]
  refine lv_astore_nN (lv' := [(1, .null), (0, .ref xo)]) hx hb dX3_takeBack_7 rfl hl (by decide) rfl (fun ls hl => ?_)
  refine lv_aload_n hx hb dX3_takeBack_8 rfl (lv_at hl 1 rfl) ?_
  refine w_get (C := RX3) (T := TX3) (N := 4) (ci := 2) hx hb hts hown hK hM inX3 rfl 3 (by decide) qw_1_105 rfl hxo rfl dX3_takeBack_9 ?_
  refine topi (bI false) (by rw [hsu]) ?_
  refine zb_ne (tgt := 19) hx hb false dX3_takeBack_12 (by decide) (fun h => absurd (h.symm.trans (rfl : false = false)) (by decide)) (fun _ => ?_)
  refine lv_aload_nN hx hb dX3_takeBack_15 rfl (lv_at hl 0 rfl) ?_
  refine lv_ifnonnullN hx hb dX3_takeBack_16 ?_
  exact xt_throw (text := "there is no action to take back") hx hb hml hl9 hown (by decide +kernel) (hts _ qw_3_8) (hts _ qw_1_13) (xat_IS hts hX) xgd_IS hX (List.mem_of_getElem? (i := 10) rfl) hM hS hlk ht hl.1 (by decide) dX3_takeBack_19 dX3_takeBack_22 dX3_takeBack_23 dX3_takeBack_25 dX3_takeBack_28
