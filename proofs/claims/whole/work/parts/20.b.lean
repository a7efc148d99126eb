theorem okV_RL_7_X3_place : okV RL 7 yX3_place cX3_place 5 (some .int) 3 := okV_of qw_2_149 qw_2_150 qw_2_151 qw_1_1 qw_2_152 (by decide +kernel)
set_option maxHeartbeats 4000000 in
set_option maxRecDepth 100000 in
theorem hG_place (l : Launch) {D : va_G} {cI cJ : ClassId} {M : MP} {A : Nat → Prop} {sz : Nat} (xo out : Nat) (x y z : Int32) {d mc ms : Nat} {v : Int32} {Rm : MP → Prop} {fs : List Value} {ob : Nat → BitVec 64} (hxo : M xo = some (.inr (2, fs))) (hC : Wr l yX3_place cX3_place 5 (some .int) d mc ms D cI cJ [.ref xo, .int x, .int y, .int z] M sz A (some (.int v)) Rm) (ho : ∀ M1, Rm M1 → M1 out = some (eJ cJ 1 (fun k => bL (ob k)))) (hA_out : A out) : Hc l yL_place cL_place 6 (some .int) [(0, 12, 15, 13), (0, 12, 19, 15), (0, 12, 23, 17)] (d + 1) mc ms D cI cJ [.ref xo, .int x, .int y, .int z, .ref out] M sz A (some (.int (nI 0))) (fun M' => ∃ (M1 : MP) (ob1 : Nat → BitVec 64), Rm M1 ∧ ob1 0 = v.toInt64.toBitVec ∧ M' = mu M1 out (eJ cJ 1 (fun k => bL (ob1 k)))) := by
  refine hc_start (by decide) (Nat.le_of_ble_eq_true rfl) ?_
  intro p e s m args below meth c hx hb hr hml hown hts hlk htb hK hX hsz hM ls hl
  subst hsz
  have hl : lv_has ls 6 [(0, .ref xo), (1, .int x), (2, .int y), (3, .int z), (4, .ref out)] := hl
  refine lv_aload hx hb dL_place_0 (lv_at hl 4 rfl) ?_
  refine lv_iconst (v := nI 0) hx hb dL_place_2 (by decide) ?_
  refine lv_aload_n hx hb dL_place_3 rfl (lv_at hl 0 rfl) ?_
  refine lv_iload_n hx hb dL_place_4 rfl (lv_at hl 1 rfl) ?_
  refine lv_iload_n hx hb dL_place_5 rfl (lv_at hl 2 rfl) ?_
  refine lv_iload_n hx hb dL_place_6 rfl (lv_at hl 3 rfl) ?_
  refine wr_go (wr_runV (As := [.int x, .int y, .int z]) (rest := [.int (nI 0), .ref out]) hx hb hml hown hts hK hM okV_RL_7_X3_place hC hxo rfl rfl rfl ⟨Nat.le_refl _, by show 8 + (5 + 11) + 40 * d ≤ 40 * (d + 1); omega⟩ hl.1 rfl (Nat.le_of_ble_eq_true rfl) dL_place_7 ⟨by show 0 + mc ≤ mc; omega, by show 0 + ms ≤ ms; omega⟩) va_S.rf (fun M1 H locs hR hHs hM hS => ?_)
  refine w_i2l hx hb dL_place_10 ?_
  exact hc_out (x := v.toInt64.toBitVec) (pc2 := 27) hx hb hr hlk hK hM hS (ho M1 hR) hA_out (fun ob1 h => ⟨M1, ob1, hR, h, rfl⟩) (by omega) (by omega) dL_place_11 dL_place_12 (by decide) dL_place_27 dL_place_28
set_option maxHeartbeats 4000000 in
set_option maxRecDepth 100000 in
theorem hT_place_1 (l : Launch) {D : va_G} {cI cJ : ClassId} {M : MP} {A : Nat → Prop} {sz : Nat} (xo out : Nat) (x y z : Int32) {d : Nat} {fs : List Value} (hxo : M xo = some (.inr (2, fs))) (hC : Xt l yX3_place cX3_place 5 (some .int) d D cI cJ [.ref xo, .int x, .int y, .int z] M xIO) : Hc l yL_place cL_place 6 (some .int) [(0, 12, 15, 13), (0, 12, 19, 15), (0, 12, 23, 17)] (d + 1) 1 6 D cI cJ [.ref xo, .int x, .int y, .int z, .ref out] M sz A (some (.int (nI 1))) (fun M' => M' = M) := by
  refine hc_start (by decide) (Nat.le_of_ble_eq_true rfl) ?_
  intro p e s m args below meth c hx hb hr hml hown hts hlk htb hK hX hsz hM ls hl
  have hl : lv_has ls 6 [(0, .ref xo), (1, .int x), (2, .int y), (3, .int z), (4, .ref out)] := hl
  refine lv_aload hx hb dL_place_0 (lv_at hl 4 rfl) ?_
  refine lv_iconst (v := nI 0) hx hb dL_place_2 (by decide) ?_
  refine lv_aload_n hx hb dL_place_3 rfl (lv_at hl 0 rfl) ?_
  refine lv_iload_n hx hb dL_place_4 rfl (lv_at hl 1 rfl) ?_
  refine lv_iload_n hx hb dL_place_5 rfl (lv_at hl 2 rfl) ?_
  refine lv_iload_n hx hb dL_place_6 rfl (lv_at hl 3 rfl) ?_
  refine xt_go (A := A) (H0 := s.heap) (xt_runV (A := fun _ => False) (As := [.int x, .int y, .int z]) (rest := [.int (nI 0), .ref out]) hx hb hml hown hts hK hX hM va_S.rf okV_RL_7_X3_place hC hxo rfl rfl rfl ⟨Nat.le_refl _, by show 8 + (5 + 11) + 40 * d ≤ 40 * (d + 1); omega⟩ hl.1 rfl (Nat.le_of_ble_eq_true rfl) dL_place_7 ⟨Nat.le_refl _, Nat.le_refl _⟩) va_S.rf (fun ce q9 H locs hM hS hHs hce hcv hcl => ?_)
  refine vx_catch hown (tableOf []) ⟨0, 12, 15, 13⟩ (tableOf [(0, 12, 19, 15), (0, 12, 23, 17)]) (htb.trans rfl) (fun z hz => nomatch hz) (by decide) (by decide) (hts _ qw_2_146) (va_Nw.use rfl (hX.1 _ (List.mem_of_getElem? (i := 0) rfl))) hce hcv hcl ?_
  refine lv_astore (lv' := [(5, .ref q9), (0, .ref xo), (1, .int x), (2, .int y), (3, .int z), (4, .ref out)]) hx hb dL_place_15 hl (by decide) rfl (fun ls hl => ?_)
  exact hc_num hx hb hr hlk hM hS rfl (Nat.le_refl _) (Nat.le_refl _) dL_place_17 (by decide) dL_place_18
set_option maxHeartbeats 4000000 in
set_option maxRecDepth 100000 in
theorem hT_place_2 (l : Launch) {D : va_G} {cI cJ : ClassId} {M : MP} {A : Nat → Prop} {sz : Nat} (xo out : Nat) (x y z : Int32) {d : Nat} {fs : List Value} (hxo : M xo = some (.inr (2, fs))) (hC : Xt l yX3_place cX3_place 5 (some .int) d D cI cJ [.ref xo, .int x, .int y, .int z] M xIA) : Hc l yL_place cL_place 6 (some .int) [(0, 12, 15, 13), (0, 12, 19, 15), (0, 12, 23, 17)] (d + 1) 1 6 D cI cJ [.ref xo, .int x, .int y, .int z, .ref out] M sz A (some (.int (nI 2))) (fun M' => M' = M) := by
  refine hc_start (by decide) (Nat.le_of_ble_eq_true rfl) ?_
  intro p e s m args below meth c hx hb hr hml hown hts hlk htb hK hX hsz hM ls hl
  have hl : lv_has ls 6 [(0, .ref xo), (1, .int x), (2, .int y), (3, .int z), (4, .ref out)] := hl
  refine lv_aload hx hb dL_place_0 (lv_at hl 4 rfl) ?_
  refine lv_iconst (v := nI 0) hx hb dL_place_2 (by decide) ?_
  refine lv_aload_n hx hb dL_place_3 rfl (lv_at hl 0 rfl) ?_
  refine lv_iload_n hx hb dL_place_4 rfl (lv_at hl 1 rfl) ?_
  refine lv_iload_n hx hb dL_place_5 rfl (lv_at hl 2 rfl) ?_
  refine lv_iload_n hx hb dL_place_6 rfl (lv_at hl 3 rfl) ?_
  refine xt_go (A := A) (H0 := s.heap) (xt_runV (A := fun _ => False) (As := [.int x, .int y, .int z]) (rest := [.int (nI 0), .ref out]) hx hb hml hown hts hK hX hM va_S.rf okV_RL_7_X3_place hC hxo rfl rfl rfl ⟨Nat.le_refl _, by show 8 + (5 + 11) + 40 * d ≤ 40 * (d + 1); omega⟩ hl.1 rfl (Nat.le_of_ble_eq_true rfl) dL_place_7 ⟨Nat.le_refl _, Nat.le_refl _⟩) va_S.rf (fun ce q9 H locs hM hS hHs hce hcv hcl => ?_)
  refine vx_catch hown (tableOf [(0, 12, 15, 13)]) ⟨0, 12, 19, 15⟩ (tableOf [(0, 12, 23, 17)]) (htb.trans rfl) (fun z hz => by
    simp only [tableOf, List.map_cons, List.map_nil, List.mem_cons, List.not_mem_nil, or_false] at hz
    rcases hz with rfl
    · exact Or.inr ⟨by decide, xIO, hts _ qw_2_146, hX.2.1 _ (List.mem_of_getElem? (i := 0) rfl)⟩) (by decide) (by decide) (hts _ qw_2_147) (va_Nw.use rfl (hX.1 _ (List.mem_of_getElem? (i := 1) rfl))) hce hcv hcl ?_
  refine lv_astore (lv' := [(5, .ref q9), (0, .ref xo), (1, .int x), (2, .int y), (3, .int z), (4, .ref out)]) hx hb dL_place_19 hl (by decide) rfl (fun ls hl => ?_)
  exact hc_num hx hb hr hlk hM hS rfl (Nat.le_refl _) (Nat.le_refl _) dL_place_21 (by decide) dL_place_22
set_option maxHeartbeats 4000000 in
set_option maxRecDepth 100000 in
theorem hT_place_3 (l : Launch) {D : va_G} {cI cJ : ClassId} {M : MP} {A : Nat → Prop} {sz : Nat} (xo out : Nat) (x y z : Int32) {d : Nat} {fs : List Value} (hxo : M xo = some (.inr (2, fs))) (hC : Xt l yX3_place cX3_place 5 (some .int) d D cI cJ [.ref xo, .int x, .int y, .int z] M xIS) : Hc l yL_place cL_place 6 (some .int) [(0, 12, 15, 13), (0, 12, 19, 15), (0, 12, 23, 17)] (d + 1) 1 6 D cI cJ [.ref xo, .int x, .int y, .int z, .ref out] M sz A (some (.int (nI 3))) (fun M' => M' = M) := by
  refine hc_start (by decide) (Nat.le_of_ble_eq_true rfl) ?_
  intro p e s m args below meth c hx hb hr hml hown hts hlk htb hK hX hsz hM ls hl
  have hl : lv_has ls 6 [(0, .ref xo), (1, .int x), (2, .int y), (3, .int z), (4, .ref out)] := hl
  refine lv_aload hx hb dL_place_0 (lv_at hl 4 rfl) ?_
  refine lv_iconst (v := nI 0) hx hb dL_place_2 (by decide) ?_
  refine lv_aload_n hx hb dL_place_3 rfl (lv_at hl 0 rfl) ?_
  refine lv_iload_n hx hb dL_place_4 rfl (lv_at hl 1 rfl) ?_
  refine lv_iload_n hx hb dL_place_5 rfl (lv_at hl 2 rfl) ?_
  refine lv_iload_n hx hb dL_place_6 rfl (lv_at hl 3 rfl) ?_
  refine xt_go (A := A) (H0 := s.heap) (xt_runV (A := fun _ => False) (As := [.int x, .int y, .int z]) (rest := [.int (nI 0), .ref out]) hx hb hml hown hts hK hX hM va_S.rf okV_RL_7_X3_place hC hxo rfl rfl rfl ⟨Nat.le_refl _, by show 8 + (5 + 11) + 40 * d ≤ 40 * (d + 1); omega⟩ hl.1 rfl (Nat.le_of_ble_eq_true rfl) dL_place_7 ⟨Nat.le_refl _, Nat.le_refl _⟩) va_S.rf (fun ce q9 H locs hM hS hHs hce hcv hcl => ?_)
  refine vx_catch hown (tableOf [(0, 12, 15, 13), (0, 12, 19, 15)]) ⟨0, 12, 23, 17⟩ (tableOf []) (htb.trans rfl) (fun z hz => by
    simp only [tableOf, List.map_cons, List.map_nil, List.mem_cons, List.not_mem_nil, or_false] at hz
    rcases hz with rfl | rfl
    · exact Or.inr ⟨by decide, xIO, hts _ qw_2_146, hX.2.1 _ (List.mem_of_getElem? (i := 1) rfl)⟩
    · exact Or.inr ⟨by decide, xIA, hts _ qw_2_147, hX.2.1 _ (List.mem_of_getElem? (i := 2) rfl)⟩) (by decide) (by decide) (hts _ qw_2_148) (va_Nw.use rfl (hX.1 _ (List.mem_of_getElem? (i := 2) rfl))) hce hcv hcl ?_
  refine lv_astore (lv' := [(5, .ref q9), (0, .ref xo), (1, .int x), (2, .int y), (3, .int z), (4, .ref out)]) hx hb dL_place_23 hl (by decide) rfl (fun ls hl => ?_)
  exact hc_num hx hb hr hlk hM hS rfl (Nat.le_refl _) (Nat.le_refl _) dL_place_25 (by decide) dL_place_26
theorem okV_RL_19_X3_remove : okV RL 19 yX3_remove cX3_remove 4 (some .int) 1 := okV_of qw_3_28 qw_3_29 qw_3_30 qw_1_1 qw_3_31 (by decide +kernel)
set_option maxHeartbeats 4000000 in
set_option maxRecDepth 100000 in
theorem hG_remove (l : Launch) {D : va_G} {cI cJ : ClassId} {M : MP} {A : Nat → Prop} {sz : Nat} (xo out : Nat) (x : Int32) {d mc ms : Nat} {v : Int32} {Rm : MP → Prop} {fs : List Value} {ob : Nat → BitVec 64} (hxo : M xo = some (.inr (2, fs))) (hC : Wr l yX3_remove cX3_remove 4 (some .int) d mc ms D cI cJ [.ref xo, .int x] M sz A (some (.int v)) Rm) (ho : ∀ M1, Rm M1 → M1 out = some (eJ cJ 1 (fun k => bL (ob k)))) (hA_out : A out) : Hc l yL_remove cL_remove 4 (some .int) [(0, 9, 12, 13), (0, 9, 15, 17)] (d + 1) mc ms D cI cJ [.ref xo, .int x, .ref out] M sz A (some (.int (nI 0))) (fun M' => ∃ (M1 : MP) (ob1 : Nat → BitVec 64), Rm M1 ∧ ob1 0 = v.toInt64.toBitVec ∧ M' = mu M1 out (eJ cJ 1 (fun k => bL (ob1 k)))) := by
  refine hc_start (by decide) (Nat.le_of_ble_eq_true rfl) ?_
  intro p e s m args below meth c hx hb hr hml hown hts hlk htb hK hX hsz hM ls hl
  subst hsz
  have hl : lv_has ls 4 [(0, .ref xo), (1, .int x), (2, .ref out)] := hl
  refine lv_aload_n hx hb dL_remove_0 rfl (lv_at hl 2 rfl) ?_
  refine lv_iconst (v := nI 0) hx hb dL_remove_1 (by decide) ?_
  refine lv_aload_n hx hb dL_remove_2 rfl (lv_at hl 0 rfl) ?_
  refine lv_iload_n hx hb dL_remove_3 rfl (lv_at hl 1 rfl) ?_
  refine wr_go (wr_runV (As := [.int x]) (rest := [.int (nI 0), .ref out]) hx hb hml hown hts hK hM okV_RL_19_X3_remove hC hxo rfl rfl rfl ⟨Nat.le_refl _, by show 8 + (4 + 11) + 40 * d ≤ 40 * (d + 1); omega⟩ hl.1 rfl (Nat.le_of_ble_eq_true rfl) dL_remove_4 ⟨by show 0 + mc ≤ mc; omega, by show 0 + ms ≤ ms; omega⟩) va_S.rf (fun M1 H locs hR hHs hM hS => ?_)
  refine w_i2l hx hb dL_remove_7 ?_
  exact hc_out (x := v.toInt64.toBitVec) (pc2 := 18) hx hb hr hlk hK hM hS (ho M1 hR) hA_out (fun ob1 h => ⟨M1, ob1, hR, h, rfl⟩) (by omega) (by omega) dL_remove_8 dL_remove_9 (by decide) dL_remove_18 dL_remove_19
set_option maxHeartbeats 4000000 in
set_option maxRecDepth 100000 in
theorem hT_remove_1 (l : Launch) {D : va_G} {cI cJ : ClassId} {M : MP} {A : Nat → Prop} {sz : Nat} (xo out : Nat) (x : Int32) {d : Nat} {fs : List Value} (hxo : M xo = some (.inr (2, fs))) (hC : Xt l yX3_remove cX3_remove 4 (some .int) d D cI cJ [.ref xo, .int x] M xIO) : Hc l yL_remove cL_remove 4 (some .int) [(0, 9, 12, 13), (0, 9, 15, 17)] (d + 1) 1 6 D cI cJ [.ref xo, .int x, .ref out] M sz A (some (.int (nI 1))) (fun M' => M' = M) := by
  refine hc_start (by decide) (Nat.le_of_ble_eq_true rfl) ?_
  intro p e s m args below meth c hx hb hr hml hown hts hlk htb hK hX hsz hM ls hl
  have hl : lv_has ls 4 [(0, .ref xo), (1, .int x), (2, .ref out)] := hl
  refine lv_aload_n hx hb dL_remove_0 rfl (lv_at hl 2 rfl) ?_
  refine lv_iconst (v := nI 0) hx hb dL_remove_1 (by decide) ?_
  refine lv_aload_n hx hb dL_remove_2 rfl (lv_at hl 0 rfl) ?_
  refine lv_iload_n hx hb dL_remove_3 rfl (lv_at hl 1 rfl) ?_
  refine xt_go (A := A) (H0 := s.heap) (xt_runV (A := fun _ => False) (As := [.int x]) (rest := [.int (nI 0), .ref out]) hx hb hml hown hts hK hX hM va_S.rf okV_RL_19_X3_remove hC hxo rfl rfl rfl ⟨Nat.le_refl _, by show 8 + (4 + 11) + 40 * d ≤ 40 * (d + 1); omega⟩ hl.1 rfl (Nat.le_of_ble_eq_true rfl) dL_remove_4 ⟨Nat.le_refl _, Nat.le_refl _⟩) va_S.rf (fun ce q9 H locs hM hS hHs hce hcv hcl => ?_)
  refine vx_catch hown (tableOf []) ⟨0, 9, 12, 13⟩ (tableOf [(0, 9, 15, 17)]) (htb.trans rfl) (fun z hz => nomatch hz) (by decide) (by decide) (hts _ qw_2_146) (va_Nw.use rfl (hX.1 _ (List.mem_of_getElem? (i := 0) rfl))) hce hcv hcl ?_
  refine lv_astore_n (lv' := [(3, .ref q9), (0, .ref xo), (1, .int x), (2, .ref out)]) hx hb dL_remove_12 rfl hl (by decide) rfl (fun ls hl => ?_)
  exact hc_num hx hb hr hlk hM hS rfl (Nat.le_refl _) (Nat.le_refl _) dL_remove_13 (by decide) dL_remove_14
set_option maxHeartbeats 4000000 in
set_option maxRecDepth 100000 in
theorem hT_remove_2 (l : Launch) {D : va_G} {cI cJ : ClassId} {M : MP} {A : Nat → Prop} {sz : Nat} (xo out : Nat) (x : Int32) {d : Nat} {fs : List Value} (hxo : M xo = some (.inr (2, fs))) (hC : Xt l yX3_remove cX3_remove 4 (some .int) d D cI cJ [.ref xo, .int x] M xIS) : Hc l yL_remove cL_remove 4 (some .int) [(0, 9, 12, 13), (0, 9, 15, 17)] (d + 1) 1 6 D cI cJ [.ref xo, .int x, .ref out] M sz A (some (.int (nI 2))) (fun M' => M' = M) := by
  refine hc_start (by decide) (Nat.le_of_ble_eq_true rfl) ?_
  intro p e s m args below meth c hx hb hr hml hown hts hlk htb hK hX hsz hM ls hl
  have hl : lv_has ls 4 [(0, .ref xo), (1, .int x), (2, .ref out)] := hl
  refine lv_aload_n hx hb dL_remove_0 rfl (lv_at hl 2 rfl) ?_
  refine lv_iconst (v := nI 0) hx hb dL_remove_1 (by decide) ?_
  refine lv_aload_n hx hb dL_remove_2 rfl (lv_at hl 0 rfl) ?_
  refine lv_iload_n hx hb dL_remove_3 rfl (lv_at hl 1 rfl) ?_
  refine xt_go (A := A) (H0 := s.heap) (xt_runV (A := fun _ => False) (As := [.int x]) (rest := [.int (nI 0), .ref out]) hx hb hml hown hts hK hX hM va_S.rf okV_RL_19_X3_remove hC hxo rfl rfl rfl ⟨Nat.le_refl _, by show 8 + (4 + 11) + 40 * d ≤ 40 * (d + 1); omega⟩ hl.1 rfl (Nat.le_of_ble_eq_true rfl) dL_remove_4 ⟨Nat.le_refl _, Nat.le_refl _⟩) va_S.rf (fun ce q9 H locs hM hS hHs hce hcv hcl => ?_)
  refine vx_catch hown (tableOf [(0, 9, 12, 13)]) ⟨0, 9, 15, 17⟩ (tableOf []) (htb.trans rfl) (fun z hz => by
    simp only [tableOf, List.map_cons, List.map_nil, List.mem_cons, List.not_mem_nil, or_false] at hz
    rcases hz with rfl
    · exact Or.inr ⟨by decide, xIO, hts _ qw_2_146, hX.2.1 _ (List.mem_of_getElem? (i := 1) rfl)⟩) (by decide) (by decide) (hts _ qw_2_148) (va_Nw.use rfl (hX.1 _ (List.mem_of_getElem? (i := 2) rfl))) hce hcv hcl ?_
  refine lv_astore_n (lv' := [(3, .ref q9), (0, .ref xo), (1, .int x), (2, .ref out)]) hx hb dL_remove_15 rfl hl (by decide) rfl (fun ls hl => ?_)
  exact hc_num hx hb hr hlk hM hS rfl (Nat.le_refl _) (Nat.le_refl _) dL_remove_16 (by decide) dL_remove_17
theorem okV_RL_23_X3_endSetup : okV RL 23 yX3_endSetup cX3_endSetup 3 (some .int) 1 := okV_of qw_3_37 qw_3_38 qw_3_39 qw_1_1 qw_3_40 (by decide +kernel)
set_option maxHeartbeats 4000000 in
set_option maxRecDepth 100000 in
theorem hG_endSetup (l : Launch) {D : va_G} {cI cJ : ClassId} {M : MP} {A : Nat → Prop} {sz : Nat} (xo out : Nat) (x : Int32) {d mc ms : Nat} {v : Int32} {Rm : MP → Prop} {fs : List Value} {ob : Nat → BitVec 64} (hxo : M xo = some (.inr (2, fs))) (hC : Wr l yX3_endSetup cX3_endSetup 3 (some .int) d mc ms D cI cJ [.ref xo, .int x] M sz A (some (.int v)) Rm) (ho : ∀ M1, Rm M1 → M1 out = some (eJ cJ 1 (fun k => bL (ob k)))) (hA_out : A out) : Hc l yL_endSetup cL_endSetup 4 (some .int) [(0, 9, 12, 17)] (d + 1) mc ms D cI cJ [.ref xo, .int x, .ref out] M sz A (some (.int (nI 0))) (fun M' => ∃ (M1 : MP) (ob1 : Nat → BitVec 64), Rm M1 ∧ ob1 0 = v.toInt64.toBitVec ∧ M' = mu M1 out (eJ cJ 1 (fun k => bL (ob1 k)))) := by
  refine hc_start (by decide) (Nat.le_of_ble_eq_true rfl) ?_
  intro p e s m args below meth c hx hb hr hml hown hts hlk htb hK hX hsz hM ls hl
  subst hsz
  have hl : lv_has ls 4 [(0, .ref xo), (1, .int x), (2, .ref out)] := hl
  refine lv_aload_n hx hb dL_endSetup_0 rfl (lv_at hl 2 rfl) ?_
  refine lv_iconst (v := nI 0) hx hb dL_endSetup_1 (by decide) ?_
  refine lv_aload_n hx hb dL_endSetup_2 rfl (lv_at hl 0 rfl) ?_
  refine lv_iload_n hx hb dL_endSetup_3 rfl (lv_at hl 1 rfl) ?_
  refine wr_go (wr_runV (As := [.int x]) (rest := [.int (nI 0), .ref out]) hx hb hml hown hts hK hM okV_RL_23_X3_endSetup hC hxo rfl rfl rfl ⟨Nat.le_refl _, by show 8 + (3 + 11) + 40 * d ≤ 40 * (d + 1); omega⟩ hl.1 rfl (Nat.le_of_ble_eq_true rfl) dL_endSetup_4 ⟨by show 0 + mc ≤ mc; omega, by show 0 + ms ≤ ms; omega⟩) va_S.rf (fun M1 H locs hR hHs hM hS => ?_)
  refine w_i2l hx hb dL_endSetup_7 ?_
  exact hc_out (x := v.toInt64.toBitVec) (pc2 := 15) hx hb hr hlk hK hM hS (ho M1 hR) hA_out (fun ob1 h => ⟨M1, ob1, hR, h, rfl⟩) (by omega) (by omega) dL_endSetup_8 dL_endSetup_9 (by decide) dL_endSetup_15 dL_endSetup_16
set_option maxHeartbeats 4000000 in
set_option maxRecDepth 100000 in
theorem hT_endSetup_1 (l : Launch) {D : va_G} {cI cJ : ClassId} {M : MP} {A : Nat → Prop} {sz : Nat} (xo out : Nat) (x : Int32) {d : Nat} {fs : List Value} (hxo : M xo = some (.inr (2, fs))) (hC : Xt l yX3_endSetup cX3_endSetup 3 (some .int) d D cI cJ [.ref xo, .int x] M xIS) : Hc l yL_endSetup cL_endSetup 4 (some .int) [(0, 9, 12, 17)] (d + 1) 1 6 D cI cJ [.ref xo, .int x, .ref out] M sz A (some (.int (nI 1))) (fun M' => M' = M) := by
  refine hc_start (by decide) (Nat.le_of_ble_eq_true rfl) ?_
  intro p e s m args below meth c hx hb hr hml hown hts hlk htb hK hX hsz hM ls hl
  have hl : lv_has ls 4 [(0, .ref xo), (1, .int x), (2, .ref out)] := hl
  refine lv_aload_n hx hb dL_endSetup_0 rfl (lv_at hl 2 rfl) ?_
  refine lv_iconst (v := nI 0) hx hb dL_endSetup_1 (by decide) ?_
  refine lv_aload_n hx hb dL_endSetup_2 rfl (lv_at hl 0 rfl) ?_
  refine lv_iload_n hx hb dL_endSetup_3 rfl (lv_at hl 1 rfl) ?_
  refine xt_go (A := A) (H0 := s.heap) (xt_runV (A := fun _ => False) (As := [.int x]) (rest := [.int (nI 0), .ref out]) hx hb hml hown hts hK hX hM va_S.rf okV_RL_23_X3_endSetup hC hxo rfl rfl rfl ⟨Nat.le_refl _, by show 8 + (3 + 11) + 40 * d ≤ 40 * (d + 1); omega⟩ hl.1 rfl (Nat.le_of_ble_eq_true rfl) dL_endSetup_4 ⟨Nat.le_refl _, Nat.le_refl _⟩) va_S.rf (fun ce q9 H locs hM hS hHs hce hcv hcl => ?_)
  refine vx_catch hown (tableOf []) ⟨0, 9, 12, 17⟩ (tableOf []) (htb.trans rfl) (fun z hz => nomatch hz) (by decide) (by decide) (hts _ qw_2_148) (va_Nw.use rfl (hX.1 _ (List.mem_of_getElem? (i := 2) rfl))) hce hcv hcl ?_
  refine lv_astore_n (lv' := [(3, .ref q9), (0, .ref xo), (1, .int x), (2, .ref out)]) hx hb dL_endSetup_12 rfl hl (by decide) rfl (fun ls hl => ?_)
  exact hc_num hx hb hr hlk hM hS rfl (Nat.le_refl _) (Nat.le_refl _) dL_endSetup_13 (by decide) dL_endSetup_14
theorem okV_RL_27_X3_pieceAt : okV RL 27 yX3_pieceAt cX3_pieceAt 2 (some .int) 1 := okV_of qw_3_63 qw_3_64 qw_3_65 qw_1_1 qw_3_66 (by decide +kernel)
set_option maxHeartbeats 4000000 in
set_option maxRecDepth 100000 in
theorem hG_pieceAt (l : Launch) {D : va_G} {cI cJ : ClassId} {M : MP} {A : Nat → Prop} {sz : Nat} (xo out : Nat) (x : Int32) {d mc ms : Nat} {v : Int32} {Rm : MP → Prop} {fs : List Value} {ob : Nat → BitVec 64} (hxo : M xo = some (.inr (2, fs))) (hC : Wr l yX3_pieceAt cX3_pieceAt 2 (some .int) d mc ms D cI cJ [.ref xo, .int x] M sz A (some (.int v)) Rm) (ho : ∀ M1, Rm M1 → M1 out = some (eJ cJ 1 (fun k => bL (ob k)))) (hA_out : A out) : Hc l yL_pieceAt cL_pieceAt 4 (some .int) [(0, 9, 12, 13)] (d + 1) mc ms D cI cJ [.ref xo, .int x, .ref out] M sz A (some (.int (nI 0))) (fun M' => ∃ (M1 : MP) (ob1 : Nat → BitVec 64), Rm M1 ∧ ob1 0 = v.toInt64.toBitVec ∧ M' = mu M1 out (eJ cJ 1 (fun k => bL (ob1 k)))) := by
  refine hc_start (by decide) (Nat.le_of_ble_eq_true rfl) ?_
  intro p e s m args below meth c hx hb hr hml hown hts hlk htb hK hX hsz hM ls hl
  subst hsz
  have hl : lv_has ls 4 [(0, .ref xo), (1, .int x), (2, .ref out)] := hl
  refine lv_aload_n hx hb dL_pieceAt_0 rfl (lv_at hl 2 rfl) ?_
  refine lv_iconst (v := nI 0) hx hb dL_pieceAt_1 (by decide) ?_
  refine lv_aload_n hx hb dL_pieceAt_2 rfl (lv_at hl 0 rfl) ?_
  refine lv_iload_n hx hb dL_pieceAt_3 rfl (lv_at hl 1 rfl) ?_
  refine wr_go (wr_runV (As := [.int x]) (rest := [.int (nI 0), .ref out]) hx hb hml hown hts hK hM okV_RL_27_X3_pieceAt hC hxo rfl rfl rfl ⟨Nat.le_refl _, by show 8 + (2 + 11) + 40 * d ≤ 40 * (d + 1); omega⟩ hl.1 rfl (Nat.le_of_ble_eq_true rfl) dL_pieceAt_4 ⟨by show 0 + mc ≤ mc; omega, by show 0 + ms ≤ ms; omega⟩) va_S.rf (fun M1 H locs hR hHs hM hS => ?_)
  refine w_i2l hx hb dL_pieceAt_7 ?_
  exact hc_out (x := v.toInt64.toBitVec) (pc2 := 15) hx hb hr hlk hK hM hS (ho M1 hR) hA_out (fun ob1 h => ⟨M1, ob1, hR, h, rfl⟩) (by omega) (by omega) dL_pieceAt_8 dL_pieceAt_9 (by decide) dL_pieceAt_15 dL_pieceAt_16
set_option maxHeartbeats 4000000 in
set_option maxRecDepth 100000 in
theorem hT_pieceAt_1 (l : Launch) {D : va_G} {cI cJ : ClassId} {M : MP} {A : Nat → Prop} {sz : Nat} (xo out : Nat) (x : Int32) {d : Nat} {fs : List Value} (hxo : M xo = some (.inr (2, fs))) (hC : Xt l yX3_pieceAt cX3_pieceAt 2 (some .int) d D cI cJ [.ref xo, .int x] M xIO) : Hc l yL_pieceAt cL_pieceAt 4 (some .int) [(0, 9, 12, 13)] (d + 1) 1 6 D cI cJ [.ref xo, .int x, .ref out] M sz A (some (.int (nI 1))) (fun M' => M' = M) := by
  refine hc_start (by decide) (Nat.le_of_ble_eq_true rfl) ?_
  intro p e s m args below meth c hx hb hr hml hown hts hlk htb hK hX hsz hM ls hl
  have hl : lv_has ls 4 [(0, .ref xo), (1, .int x), (2, .ref out)] := hl
  refine lv_aload_n hx hb dL_pieceAt_0 rfl (lv_at hl 2 rfl) ?_
  refine lv_iconst (v := nI 0) hx hb dL_pieceAt_1 (by decide) ?_
  refine lv_aload_n hx hb dL_pieceAt_2 rfl (lv_at hl 0 rfl) ?_
  refine lv_iload_n hx hb dL_pieceAt_3 rfl (lv_at hl 1 rfl) ?_
  refine xt_go (A := A) (H0 := s.heap) (xt_runV (A := fun _ => False) (As := [.int x]) (rest := [.int (nI 0), .ref out]) hx hb hml hown hts hK hX hM va_S.rf okV_RL_27_X3_pieceAt hC hxo rfl rfl rfl ⟨Nat.le_refl _, by show 8 + (2 + 11) + 40 * d ≤ 40 * (d + 1); omega⟩ hl.1 rfl (Nat.le_of_ble_eq_true rfl) dL_pieceAt_4 ⟨Nat.le_refl _, Nat.le_refl _⟩) va_S.rf (fun ce q9 H locs hM hS hHs hce hcv hcl => ?_)
  refine vx_catch hown (tableOf []) ⟨0, 9, 12, 13⟩ (tableOf []) (htb.trans rfl) (fun z hz => nomatch hz) (by decide) (by decide) (hts _ qw_2_146) (va_Nw.use rfl (hX.1 _ (List.mem_of_getElem? (i := 0) rfl))) hce hcv hcl ?_
  refine lv_astore_n (lv' := [(3, .ref q9), (0, .ref xo), (1, .int x), (2, .ref out)]) hx hb dL_pieceAt_12 rfl hl (by decide) rfl (fun ls hl => ?_)
  exact hc_num hx hb hr hlk hM hS rfl (Nat.le_refl _) (Nat.le_refl _) dL_pieceAt_13 (by decide) dL_pieceAt_14
theorem okV_RL_30_X3_isWhite : okV RL 30 yX3_isWhite cX3_isWhite 3 (some .boolean) 1 := okV_of qw_3_71 qw_3_72 qw_3_73 qw_1_1 qw_3_74 (by decide +kernel)
set_option maxHeartbeats 4000000 in
set_option maxRecDepth 100000 in
theorem hG_isWhite (l : Launch) {D : va_G} {cI cJ : ClassId} {M : MP} {A : Nat → Prop} {sz : Nat} (xo out : Nat) (x : Int32) {d mc ms : Nat} {v : Bool} {Rm : MP → Prop} {fs : List Value} {ob : Nat → BitVec 64} (hxo : M xo = some (.inr (2, fs))) (hC : Wr l yX3_isWhite cX3_isWhite 3 (some .boolean) d mc ms D cI cJ [.ref xo, .int x] M sz A (some (.int (bI v))) Rm) (ho : ∀ M1, Rm M1 → M1 out = some (eJ cJ 1 (fun k => bL (ob k)))) (hA_out : A out) : Hc l yL_isWhite cL_isWhite 4 (some .int) [(0, 16, 19, 13), (0, 16, 22, 34)] (d + 1) mc ms D cI cJ [.ref xo, .int x, .ref out] M sz A (some (.int (nI 0))) (fun M' => ∃ (M1 : MP) (ob1 : Nat → BitVec 64), Rm M1 ∧ ob1 0 = (if v then 1#64 else 0#64) ∧ M' = mu M1 out (eJ cJ 1 (fun k => bL (ob1 k)))) := by
  refine hc_start (by decide) (Nat.le_of_ble_eq_true rfl) ?_
  intro p e s m args below meth c hx hb hr hml hown hts hlk htb hK hX hsz hM ls hl
  subst hsz
  have hl : lv_has ls 4 [(0, .ref xo), (1, .int x), (2, .ref out)] := hl
  refine lv_aload_n hx hb dL_isWhite_0 rfl (lv_at hl 2 rfl) ?_
  refine lv_iconst (v := nI 0) hx hb dL_isWhite_1 (by decide) ?_
  refine lv_aload_n hx hb dL_isWhite_2 rfl (lv_at hl 0 rfl) ?_
  refine lv_iload_n hx hb dL_isWhite_3 rfl (lv_at hl 1 rfl) ?_
  refine wr_go (wr_runV (As := [.int x]) (rest := [.int (nI 0), .ref out]) hx hb hml hown hts hK hM okV_RL_30_X3_isWhite hC hxo rfl rfl rfl ⟨Nat.le_refl _, by show 8 + (3 + 11) + 40 * d ≤ 40 * (d + 1); omega⟩ hl.1 rfl (Nat.le_of_ble_eq_true rfl) dL_isWhite_4 ⟨by show 0 + mc ≤ mc; omega, by show 0 + ms ≤ ms; omega⟩) va_S.rf (fun M1 H locs hR hHs hM hS => ?_)
  refine zb_eq (tgt := 14) hx hb v dL_isWhite_7 (by decide) (fun hv => ?_) (fun hv => ?_)
  · subst hv
    refine lb_const hx hb 0#64 dL_isWhite_14 rfl ?_
    exact hc_out (x := 0#64) (pc2 := 25) hx hb hr hlk hK hM hS (ho M1 hR) hA_out (fun ob1 h => ⟨M1, ob1, hR, h, rfl⟩) (by omega) (by omega) dL_isWhite_15 dL_isWhite_16 (by decide) dL_isWhite_25 dL_isWhite_26
  · subst hv
    refine lb_const hx hb 1#64 dL_isWhite_10 rfl ?_
    refine lv_goto (tgt := 15) hx hb dL_isWhite_11 (by decide) ?_
    exact hc_out (x := 1#64) (pc2 := 25) hx hb hr hlk hK hM hS (ho M1 hR) hA_out (fun ob1 h => ⟨M1, ob1, hR, h, rfl⟩) (by omega) (by omega) dL_isWhite_15 dL_isWhite_16 (by decide) dL_isWhite_25 dL_isWhite_26
set_option maxHeartbeats 4000000 in
set_option maxRecDepth 100000 in
theorem hT_isWhite_1 (l : Launch) {D : va_G} {cI cJ : ClassId} {M : MP} {A : Nat → Prop} {sz : Nat} (xo out : Nat) (x : Int32) {d : Nat} {fs : List Value} (hxo : M xo = some (.inr (2, fs))) (hC : Xt l yX3_isWhite cX3_isWhite 3 (some .boolean) d D cI cJ [.ref xo, .int x] M xIO) : Hc l yL_isWhite cL_isWhite 4 (some .int) [(0, 16, 19, 13), (0, 16, 22, 34)] (d + 1) 1 6 D cI cJ [.ref xo, .int x, .ref out] M sz A (some (.int (nI 1))) (fun M' => M' = M) := by
  refine hc_start (by decide) (Nat.le_of_ble_eq_true rfl) ?_
  intro p e s m args below meth c hx hb hr hml hown hts hlk htb hK hX hsz hM ls hl
  have hl : lv_has ls 4 [(0, .ref xo), (1, .int x), (2, .ref out)] := hl
  refine lv_aload_n hx hb dL_isWhite_0 rfl (lv_at hl 2 rfl) ?_
  refine lv_iconst (v := nI 0) hx hb dL_isWhite_1 (by decide) ?_
  refine lv_aload_n hx hb dL_isWhite_2 rfl (lv_at hl 0 rfl) ?_
  refine lv_iload_n hx hb dL_isWhite_3 rfl (lv_at hl 1 rfl) ?_
  refine xt_go (A := A) (H0 := s.heap) (xt_runV (A := fun _ => False) (As := [.int x]) (rest := [.int (nI 0), .ref out]) hx hb hml hown hts hK hX hM va_S.rf okV_RL_30_X3_isWhite hC hxo rfl rfl rfl ⟨Nat.le_refl _, by show 8 + (3 + 11) + 40 * d ≤ 40 * (d + 1); omega⟩ hl.1 rfl (Nat.le_of_ble_eq_true rfl) dL_isWhite_4 ⟨Nat.le_refl _, Nat.le_refl _⟩) va_S.rf (fun ce q9 H locs hM hS hHs hce hcv hcl => ?_)
  refine vx_catch hown (tableOf []) ⟨0, 16, 19, 13⟩ (tableOf [(0, 16, 22, 34)]) (htb.trans rfl) (fun z hz => nomatch hz) (by decide) (by decide) (hts _ qw_2_146) (va_Nw.use rfl (hX.1 _ (List.mem_of_getElem? (i := 0) rfl))) hce hcv hcl ?_
  refine lv_astore_n (lv' := [(3, .ref q9), (0, .ref xo), (1, .int x), (2, .ref out)]) hx hb dL_isWhite_19 rfl hl (by decide) rfl (fun ls hl => ?_)
  exact hc_num hx hb hr hlk hM hS rfl (Nat.le_refl _) (Nat.le_refl _) dL_isWhite_20 (by decide) dL_isWhite_21
set_option maxHeartbeats 4000000 in
set_option maxRecDepth 100000 in
theorem hT_isWhite_2 (l : Launch) {D : va_G} {cI cJ : ClassId} {M : MP} {A : Nat → Prop} {sz : Nat} (xo out : Nat) (x : Int32) {d : Nat} {fs : List Value} (hxo : M xo = some (.inr (2, fs))) (hC : Xt l yX3_isWhite cX3_isWhite 3 (some .boolean) d D cI cJ [.ref xo, .int x] M xNS) : Hc l yL_isWhite cL_isWhite 4 (some .int) [(0, 16, 19, 13), (0, 16, 22, 34)] (d + 1) 1 6 D cI cJ [.ref xo, .int x, .ref out] M sz A (some (.int (nI 2))) (fun M' => M' = M) := by
  refine hc_start (by decide) (Nat.le_of_ble_eq_true rfl) ?_
  intro p e s m args below meth c hx hb hr hml hown hts hlk htb hK hX hsz hM ls hl
  have hl : lv_has ls 4 [(0, .ref xo), (1, .int x), (2, .ref out)] := hl
  refine lv_aload_n hx hb dL_isWhite_0 rfl (lv_at hl 2 rfl) ?_
  refine lv_iconst (v := nI 0) hx hb dL_isWhite_1 (by decide) ?_
  refine lv_aload_n hx hb dL_isWhite_2 rfl (lv_at hl 0 rfl) ?_
  refine lv_iload_n hx hb dL_isWhite_3 rfl (lv_at hl 1 rfl) ?_
  refine xt_go (A := A) (H0 := s.heap) (xt_runV (A := fun _ => False) (As := [.int x]) (rest := [.int (nI 0), .ref out]) hx hb hml hown hts hK hX hM va_S.rf okV_RL_30_X3_isWhite hC hxo rfl rfl rfl ⟨Nat.le_refl _, by show 8 + (3 + 11) + 40 * d ≤ 40 * (d + 1); omega⟩ hl.1 rfl (Nat.le_of_ble_eq_true rfl) dL_isWhite_4 ⟨Nat.le_refl _, Nat.le_refl _⟩) va_S.rf (fun ce q9 H locs hM hS hHs hce hcv hcl => ?_)
  refine vx_catch hown (tableOf [(0, 16, 19, 13)]) ⟨0, 16, 22, 34⟩ (tableOf []) (htb.trans rfl) (fun z hz => by
    simp only [tableOf, List.map_cons, List.map_nil, List.mem_cons, List.not_mem_nil, or_false] at hz
    rcases hz with rfl
    · exact Or.inr ⟨by decide, xIO, hts _ qw_2_146, hX.2.1 _ (List.mem_of_getElem? (i := 3) rfl)⟩) (by decide) (by decide) (hts _ qw_3_70) (va_Nw.use rfl (hX.1 _ (List.mem_of_getElem? (i := 3) rfl))) hce hcv hcl ?_
  refine lv_astore_n (lv' := [(3, .ref q9), (0, .ref xo), (1, .int x), (2, .ref out)]) hx hb dL_isWhite_22 rfl hl (by decide) rfl (fun ls hl => ?_)
  exact hc_num hx hb hr hlk hM hS rfl (Nat.le_refl _) (Nat.le_refl _) dL_isWhite_23 (by decide) dL_isWhite_24
theorem okV_RL_36_X3_bondOf : okV RL 36 yX3_bondOf cX3_bondOf 2 (some .int) 1 := okV_of qw_3_94 qw_3_95 qw_3_96 qw_1_1 qw_3_97 (by decide +kernel)
set_option maxHeartbeats 4000000 in
set_option maxRecDepth 100000 in
theorem hG_bondOf (l : Launch) {D : va_G} {cI cJ : ClassId} {M : MP} {A : Nat → Prop} {sz : Nat} (xo out : Nat) (x : Int32) {d mc ms : Nat} {v : Int32} {Rm : MP → Prop} {fs : List Value} {ob : Nat → BitVec 64} (hxo : M xo = some (.inr (2, fs))) (hC : Wr l yX3_bondOf cX3_bondOf 2 (some .int) d mc ms D cI cJ [.ref xo, .int x] M sz A (some (.int v)) Rm) (ho : ∀ M1, Rm M1 → M1 out = some (eJ cJ 1 (fun k => bL (ob k)))) (hA_out : A out) : Hc l yL_bondOf cL_bondOf 4 (some .int) [(0, 9, 12, 13)] (d + 1) mc ms D cI cJ [.ref xo, .int x, .ref out] M sz A (some (.int (nI 0))) (fun M' => ∃ (M1 : MP) (ob1 : Nat → BitVec 64), Rm M1 ∧ ob1 0 = v.toInt64.toBitVec ∧ M' = mu M1 out (eJ cJ 1 (fun k => bL (ob1 k)))) := by
  refine hc_start (by decide) (Nat.le_of_ble_eq_true rfl) ?_
  intro p e s m args below meth c hx hb hr hml hown hts hlk htb hK hX hsz hM ls hl
  subst hsz
  have hl : lv_has ls 4 [(0, .ref xo), (1, .int x), (2, .ref out)] := hl
  refine lv_aload_n hx hb dL_bondOf_0 rfl (lv_at hl 2 rfl) ?_
  refine lv_iconst (v := nI 0) hx hb dL_bondOf_1 (by decide) ?_
  refine lv_aload_n hx hb dL_bondOf_2 rfl (lv_at hl 0 rfl) ?_
  refine lv_iload_n hx hb dL_bondOf_3 rfl (lv_at hl 1 rfl) ?_
  refine wr_go (wr_runV (As := [.int x]) (rest := [.int (nI 0), .ref out]) hx hb hml hown hts hK hM okV_RL_36_X3_bondOf hC hxo rfl rfl rfl ⟨Nat.le_refl _, by show 8 + (2 + 11) + 40 * d ≤ 40 * (d + 1); omega⟩ hl.1 rfl (Nat.le_of_ble_eq_true rfl) dL_bondOf_4 ⟨by show 0 + mc ≤ mc; omega, by show 0 + ms ≤ ms; omega⟩) va_S.rf (fun M1 H locs hR hHs hM hS => ?_)
  refine w_i2l hx hb dL_bondOf_7 ?_
  exact hc_out (x := v.toInt64.toBitVec) (pc2 := 15) hx hb hr hlk hK hM hS (ho M1 hR) hA_out (fun ob1 h => ⟨M1, ob1, hR, h, rfl⟩) (by omega) (by omega) dL_bondOf_8 dL_bondOf_9 (by decide) dL_bondOf_15 dL_bondOf_16
set_option maxHeartbeats 4000000 in
set_option maxRecDepth 100000 in
theorem hT_bondOf_1 (l : Launch) {D : va_G} {cI cJ : ClassId} {M : MP} {A : Nat → Prop} {sz : Nat} (xo out : Nat) (x : Int32) {d : Nat} {fs : List Value} (hxo : M xo = some (.inr (2, fs))) (hC : Xt l yX3_bondOf cX3_bondOf 2 (some .int) d D cI cJ [.ref xo, .int x] M xIO) : Hc l yL_bondOf cL_bondOf 4 (some .int) [(0, 9, 12, 13)] (d + 1) 1 6 D cI cJ [.ref xo, .int x, .ref out] M sz A (some (.int (nI 1))) (fun M' => M' = M) := by
  refine hc_start (by decide) (Nat.le_of_ble_eq_true rfl) ?_
  intro p e s m args below meth c hx hb hr hml hown hts hlk htb hK hX hsz hM ls hl
  have hl : lv_has ls 4 [(0, .ref xo), (1, .int x), (2, .ref out)] := hl
  refine lv_aload_n hx hb dL_bondOf_0 rfl (lv_at hl 2 rfl) ?_
  refine lv_iconst (v := nI 0) hx hb dL_bondOf_1 (by decide) ?_
  refine lv_aload_n hx hb dL_bondOf_2 rfl (lv_at hl 0 rfl) ?_
  refine lv_iload_n hx hb dL_bondOf_3 rfl (lv_at hl 1 rfl) ?_
  refine xt_go (A := A) (H0 := s.heap) (xt_runV (A := fun _ => False) (As := [.int x]) (rest := [.int (nI 0), .ref out]) hx hb hml hown hts hK hX hM va_S.rf okV_RL_36_X3_bondOf hC hxo rfl rfl rfl ⟨Nat.le_refl _, by show 8 + (2 + 11) + 40 * d ≤ 40 * (d + 1); omega⟩ hl.1 rfl (Nat.le_of_ble_eq_true rfl) dL_bondOf_4 ⟨Nat.le_refl _, Nat.le_refl _⟩) va_S.rf (fun ce q9 H locs hM hS hHs hce hcv hcl => ?_)
  refine vx_catch hown (tableOf []) ⟨0, 9, 12, 13⟩ (tableOf []) (htb.trans rfl) (fun z hz => nomatch hz) (by decide) (by decide) (hts _ qw_2_146) (va_Nw.use rfl (hX.1 _ (List.mem_of_getElem? (i := 0) rfl))) hce hcv hcl ?_
  refine lv_astore_n (lv' := [(3, .ref q9), (0, .ref xo), (1, .int x), (2, .ref out)]) hx hb dL_bondOf_12 rfl hl (by decide) rfl (fun ls hl => ?_)
  exact hc_num hx hb hr hlk hM hS rfl (Nat.le_refl _) (Nat.le_refl _) dL_bondOf_13 (by decide) dL_bondOf_14
theorem okV_RL_39_X3_knightDistance : okV RL 39 yX3_knightDistance cX3_knightDistance 3 (some .int) 2 := okV_of qw_3_101 qw_3_102 qw_3_103 qw_1_1 qw_3_104 (by decide +kernel)
set_option maxHeartbeats 4000000 in
set_option maxRecDepth 100000 in
theorem hG_knightDistance (l : Launch) {D : va_G} {cI cJ : ClassId} {M : MP} {A : Nat → Prop} {sz : Nat} (xo out : Nat) (x y : Int32) {d mc ms : Nat} {v : Int32} {Rm : MP → Prop} {fs : List Value} {ob : Nat → BitVec 64} (hxo : M xo = some (.inr (2, fs))) (hC : Wr l yX3_knightDistance cX3_knightDistance 3 (some .int) d mc ms D cI cJ [.ref xo, .int x, .int y] M sz A (some (.int v)) Rm) (ho : ∀ M1, Rm M1 → M1 out = some (eJ cJ 1 (fun k => bL (ob k)))) (hA_out : A out) : Hc l yL_knightDistance cL_knightDistance 5 (some .int) [(0, 10, 13, 13)] (d + 1) mc ms D cI cJ [.ref xo, .int x, .int y, .ref out] M sz A (some (.int (nI 0))) (fun M' => ∃ (M1 : MP) (ob1 : Nat → BitVec 64), Rm M1 ∧ ob1 0 = v.toInt64.toBitVec ∧ M' = mu M1 out (eJ cJ 1 (fun k => bL (ob1 k)))) := by
  refine hc_start (by decide) (Nat.le_of_ble_eq_true rfl) ?_
  intro p e s m args below meth c hx hb hr hml hown hts hlk htb hK hX hsz hM ls hl
  subst hsz
  have hl : lv_has ls 5 [(0, .ref xo), (1, .int x), (2, .int y), (3, .ref out)] := hl
  refine lv_aload_n hx hb dL_knightDistance_0 rfl (lv_at hl 3 rfl) ?_
  refine lv_iconst (v := nI 0) hx hb dL_knightDistance_1 (by decide) ?_
  refine lv_aload_n hx hb dL_knightDistance_2 rfl (lv_at hl 0 rfl) ?_
  refine lv_iload_n hx hb dL_knightDistance_3 rfl (lv_at hl 1 rfl) ?_
  refine lv_iload_n hx hb dL_knightDistance_4 rfl (lv_at hl 2 rfl) ?_
  refine wr_go (wr_runV (As := [.int x, .int y]) (rest := [.int (nI 0), .ref out]) hx hb hml hown hts hK hM okV_RL_39_X3_knightDistance hC hxo rfl rfl rfl ⟨Nat.le_refl _, by show 8 + (3 + 11) + 40 * d ≤ 40 * (d + 1); omega⟩ hl.1 rfl (Nat.le_of_ble_eq_true rfl) dL_knightDistance_5 ⟨by show 0 + mc ≤ mc; omega, by show 0 + ms ≤ ms; omega⟩) va_S.rf (fun M1 H locs hR hHs hM hS => ?_)
  refine w_i2l hx hb dL_knightDistance_8 ?_
  exact hc_out (x := v.toInt64.toBitVec) (pc2 := 17) hx hb hr hlk hK hM hS (ho M1 hR) hA_out (fun ob1 h => ⟨M1, ob1, hR, h, rfl⟩) (by omega) (by omega) dL_knightDistance_9 dL_knightDistance_10 (by decide) dL_knightDistance_17 dL_knightDistance_18
set_option maxHeartbeats 4000000 in
set_option maxRecDepth 100000 in
theorem hT_knightDistance_1 (l : Launch) {D : va_G} {cI cJ : ClassId} {M : MP} {A : Nat → Prop} {sz : Nat} (xo out : Nat) (x y : Int32) {d : Nat} {fs : List Value} (hxo : M xo = some (.inr (2, fs))) (hC : Xt l yX3_knightDistance cX3_knightDistance 3 (some .int) d D cI cJ [.ref xo, .int x, .int y] M xIO) : Hc l yL_knightDistance cL_knightDistance 5 (some .int) [(0, 10, 13, 13)] (d + 1) 1 6 D cI cJ [.ref xo, .int x, .int y, .ref out] M sz A (some (.int (nI 1))) (fun M' => M' = M) := by
  refine hc_start (by decide) (Nat.le_of_ble_eq_true rfl) ?_
  intro p e s m args below meth c hx hb hr hml hown hts hlk htb hK hX hsz hM ls hl
  have hl : lv_has ls 5 [(0, .ref xo), (1, .int x), (2, .int y), (3, .ref out)] := hl
  refine lv_aload_n hx hb dL_knightDistance_0 rfl (lv_at hl 3 rfl) ?_
  refine lv_iconst (v := nI 0) hx hb dL_knightDistance_1 (by decide) ?_
  refine lv_aload_n hx hb dL_knightDistance_2 rfl (lv_at hl 0 rfl) ?_
  refine lv_iload_n hx hb dL_knightDistance_3 rfl (lv_at hl 1 rfl) ?_
  refine lv_iload_n hx hb dL_knightDistance_4 rfl (lv_at hl 2 rfl) ?_
  refine xt_go (A := A) (H0 := s.heap) (xt_runV (A := fun _ => False) (As := [.int x, .int y]) (rest := [.int (nI 0), .ref out]) hx hb hml hown hts hK hX hM va_S.rf okV_RL_39_X3_knightDistance hC hxo rfl rfl rfl ⟨Nat.le_refl _, by show 8 + (3 + 11) + 40 * d ≤ 40 * (d + 1); omega⟩ hl.1 rfl (Nat.le_of_ble_eq_true rfl) dL_knightDistance_5 ⟨Nat.le_refl _, Nat.le_refl _⟩) va_S.rf (fun ce q9 H locs hM hS hHs hce hcv hcl => ?_)
  refine vx_catch hown (tableOf []) ⟨0, 10, 13, 13⟩ (tableOf []) (htb.trans rfl) (fun z hz => nomatch hz) (by decide) (by decide) (hts _ qw_2_146) (va_Nw.use rfl (hX.1 _ (List.mem_of_getElem? (i := 0) rfl))) hce hcv hcl ?_
  refine lv_astore (lv' := [(4, .ref q9), (0, .ref xo), (1, .int x), (2, .int y), (3, .ref out)]) hx hb dL_knightDistance_13 hl (by decide) rfl (fun ls hl => ?_)
  exact hc_num hx hb hr hlk hM hS rfl (Nat.le_refl _) (Nat.le_refl _) dL_knightDistance_15 (by decide) dL_knightDistance_16
theorem okV_RL_43_X3_attackers : okV RL 43 yX3_attackers cX3_attackers 4 (some .long) 2 := okV_of qw_3_108 qw_3_109 qw_3_110 qw_1_1 qw_3_111 (by decide +kernel)
set_option maxHeartbeats 4000000 in
set_option maxRecDepth 100000 in
theorem hG_attackers (l : Launch) {D : va_G} {cI cJ : ClassId} {M : MP} {A : Nat → Prop} {sz : Nat} (xo out : Nat) (x y : Int32) {d mc ms : Nat} {v : BitVec 64} {Rm : MP → Prop} {fs : List Value} {ob : Nat → BitVec 64} (hxo : M xo = some (.inr (2, fs))) (hC : Wr l yX3_attackers cX3_attackers 4 (some .long) d mc ms D cI cJ [.ref xo, .int x, .int y] M sz A (some (.long (bL v))) Rm) (ho : ∀ M1, Rm M1 → M1 out = some (eJ cJ 1 (fun k => bL (ob k)))) (hA_out : A out) : Hc l yL_attackers cL_attackers 5 (some .int) [(0, 9, 12, 13)] (d + 1) mc ms D cI cJ [.ref xo, .int x, .int y, .ref out] M sz A (some (.int (nI 0))) (fun M' => ∃ (M1 : MP) (ob1 : Nat → BitVec 64), Rm M1 ∧ ob1 0 = v ∧ M' = mu M1 out (eJ cJ 1 (fun k => bL (ob1 k)))) := by
  refine hc_start (by decide) (Nat.le_of_ble_eq_true rfl) ?_
  intro p e s m args below meth c hx hb hr hml hown hts hlk htb hK hX hsz hM ls hl
  subst hsz
  have hl : lv_has ls 5 [(0, .ref xo), (1, .int x), (2, .int y), (3, .ref out)] := hl
  refine lv_aload_n hx hb dL_attackers_0 rfl (lv_at hl 3 rfl) ?_
  refine lv_iconst (v := nI 0) hx hb dL_attackers_1 (by decide) ?_
  refine lv_aload_n hx hb dL_attackers_2 rfl (lv_at hl 0 rfl) ?_
  refine lv_iload_n hx hb dL_attackers_3 rfl (lv_at hl 1 rfl) ?_
  refine lv_iload_n hx hb dL_attackers_4 rfl (lv_at hl 2 rfl) ?_
  refine wr_go (wr_runV (As := [.int x, .int y]) (rest := [.int (nI 0), .ref out]) hx hb hml hown hts hK hM okV_RL_43_X3_attackers hC hxo rfl rfl rfl ⟨Nat.le_refl _, by show 8 + (4 + 11) + 40 * d ≤ 40 * (d + 1); omega⟩ hl.1 rfl (Nat.le_of_ble_eq_true rfl) dL_attackers_5 ⟨by show 0 + mc ≤ mc; omega, by show 0 + ms ≤ ms; omega⟩) va_S.rf (fun M1 H locs hR hHs hM hS => ?_)
  exact hc_out (x := v) (pc2 := 16) hx hb hr hlk hK hM hS (ho M1 hR) hA_out (fun ob1 h => ⟨M1, ob1, hR, h, rfl⟩) (by omega) (by omega) dL_attackers_8 dL_attackers_9 (by decide) dL_attackers_16 dL_attackers_17
set_option maxHeartbeats 4000000 in
set_option maxRecDepth 100000 in
theorem hT_attackers_1 (l : Launch) {D : va_G} {cI cJ : ClassId} {M : MP} {A : Nat → Prop} {sz : Nat} (xo out : Nat) (x y : Int32) {d : Nat} {fs : List Value} (hxo : M xo = some (.inr (2, fs))) (hC : Xt l yX3_attackers cX3_attackers 4 (some .long) d D cI cJ [.ref xo, .int x, .int y] M xIO) : Hc l yL_attackers cL_attackers 5 (some .int) [(0, 9, 12, 13)] (d + 1) 1 6 D cI cJ [.ref xo, .int x, .int y, .ref out] M sz A (some (.int (nI 1))) (fun M' => M' = M) := by
  refine hc_start (by decide) (Nat.le_of_ble_eq_true rfl) ?_
  intro p e s m args below meth c hx hb hr hml hown hts hlk htb hK hX hsz hM ls hl
  have hl : lv_has ls 5 [(0, .ref xo), (1, .int x), (2, .int y), (3, .ref out)] := hl
  refine lv_aload_n hx hb dL_attackers_0 rfl (lv_at hl 3 rfl) ?_
  refine lv_iconst (v := nI 0) hx hb dL_attackers_1 (by decide) ?_
  refine lv_aload_n hx hb dL_attackers_2 rfl (lv_at hl 0 rfl) ?_
  refine lv_iload_n hx hb dL_attackers_3 rfl (lv_at hl 1 rfl) ?_
  refine lv_iload_n hx hb dL_attackers_4 rfl (lv_at hl 2 rfl) ?_
  refine xt_go (A := A) (H0 := s.heap) (xt_runV (A := fun _ => False) (As := [.int x, .int y]) (rest := [.int (nI 0), .ref out]) hx hb hml hown hts hK hX hM va_S.rf okV_RL_43_X3_attackers hC hxo rfl rfl rfl ⟨Nat.le_refl _, by show 8 + (4 + 11) + 40 * d ≤ 40 * (d + 1); omega⟩ hl.1 rfl (Nat.le_of_ble_eq_true rfl) dL_attackers_5 ⟨Nat.le_refl _, Nat.le_refl _⟩) va_S.rf (fun ce q9 H locs hM hS hHs hce hcv hcl => ?_)
  refine vx_catch hown (tableOf []) ⟨0, 9, 12, 13⟩ (tableOf []) (htb.trans rfl) (fun z hz => nomatch hz) (by decide) (by decide) (hts _ qw_2_146) (va_Nw.use rfl (hX.1 _ (List.mem_of_getElem? (i := 0) rfl))) hce hcv hcl ?_
  refine lv_astore (lv' := [(4, .ref q9), (0, .ref xo), (1, .int x), (2, .int y), (3, .ref out)]) hx hb dL_attackers_12 hl (by decide) rfl (fun ls hl => ?_)
  exact hc_num hx hb hr hlk hM hS rfl (Nat.le_refl _) (Nat.le_refl _) dL_attackers_14 (by decide) dL_attackers_15
theorem okV_RL_47_X3_legalMoves : okV RL 47 yX3_legalMoves cX3_legalMoves 3 (some .long) 1 := okV_of qw_3_117 qw_3_118 qw_3_119 qw_1_1 qw_3_120 (by decide +kernel)
set_option maxHeartbeats 4000000 in
set_option maxRecDepth 100000 in
theorem hG_legalMoves (l : Launch) {D : va_G} {cI cJ : ClassId} {M : MP} {A : Nat → Prop} {sz : Nat} (xo out : Nat) (x : Int32) {d mc ms : Nat} {v : BitVec 64} {Rm : MP → Prop} {fs : List Value} {ob : Nat → BitVec 64} (hxo : M xo = some (.inr (2, fs))) (hC : Wr l yX3_legalMoves cX3_legalMoves 3 (some .long) d mc ms D cI cJ [.ref xo, .int x] M sz A (some (.long (bL v))) Rm) (ho : ∀ M1, Rm M1 → M1 out = some (eJ cJ 1 (fun k => bL (ob k)))) (hA_out : A out) : Hc l yL_legalMoves cL_legalMoves 4 (some .int) [(0, 8, 11, 13)] (d + 1) mc ms D cI cJ [.ref xo, .int x, .ref out] M sz A (some (.int (nI 0))) (fun M' => ∃ (M1 : MP) (ob1 : Nat → BitVec 64), Rm M1 ∧ ob1 0 = v ∧ M' = mu M1 out (eJ cJ 1 (fun k => bL (ob1 k)))) := by
  refine hc_start (by decide) (Nat.le_of_ble_eq_true rfl) ?_
  intro p e s m args below meth c hx hb hr hml hown hts hlk htb hK hX hsz hM ls hl
  subst hsz
  have hl : lv_has ls 4 [(0, .ref xo), (1, .int x), (2, .ref out)] := hl
  refine lv_aload_n hx hb dL_legalMoves_0 rfl (lv_at hl 2 rfl) ?_
  refine lv_iconst (v := nI 0) hx hb dL_legalMoves_1 (by decide) ?_
  refine lv_aload_n hx hb dL_legalMoves_2 rfl (lv_at hl 0 rfl) ?_
  refine lv_iload_n hx hb dL_legalMoves_3 rfl (lv_at hl 1 rfl) ?_
  refine wr_go (wr_runV (As := [.int x]) (rest := [.int (nI 0), .ref out]) hx hb hml hown hts hK hM okV_RL_47_X3_legalMoves hC hxo rfl rfl rfl ⟨Nat.le_refl _, by show 8 + (3 + 11) + 40 * d ≤ 40 * (d + 1); omega⟩ hl.1 rfl (Nat.le_of_ble_eq_true rfl) dL_legalMoves_4 ⟨by show 0 + mc ≤ mc; omega, by show 0 + ms ≤ ms; omega⟩) va_S.rf (fun M1 H locs hR hHs hM hS => ?_)
  exact hc_out (x := v) (pc2 := 14) hx hb hr hlk hK hM hS (ho M1 hR) hA_out (fun ob1 h => ⟨M1, ob1, hR, h, rfl⟩) (by omega) (by omega) dL_legalMoves_7 dL_legalMoves_8 (by decide) dL_legalMoves_14 dL_legalMoves_15
set_option maxHeartbeats 4000000 in
set_option maxRecDepth 100000 in
theorem hT_legalMoves_1 (l : Launch) {D : va_G} {cI cJ : ClassId} {M : MP} {A : Nat → Prop} {sz : Nat} (xo out : Nat) (x : Int32) {d : Nat} {fs : List Value} (hxo : M xo = some (.inr (2, fs))) (hC : Xt l yX3_legalMoves cX3_legalMoves 3 (some .long) d D cI cJ [.ref xo, .int x] M xIO) : Hc l yL_legalMoves cL_legalMoves 4 (some .int) [(0, 8, 11, 13)] (d + 1) 1 6 D cI cJ [.ref xo, .int x, .ref out] M sz A (some (.int (nI 1))) (fun M' => M' = M) := by
  refine hc_start (by decide) (Nat.le_of_ble_eq_true rfl) ?_
  intro p e s m args below meth c hx hb hr hml hown hts hlk htb hK hX hsz hM ls hl
  have hl : lv_has ls 4 [(0, .ref xo), (1, .int x), (2, .ref out)] := hl
  refine lv_aload_n hx hb dL_legalMoves_0 rfl (lv_at hl 2 rfl) ?_
  refine lv_iconst (v := nI 0) hx hb dL_legalMoves_1 (by decide) ?_
  refine lv_aload_n hx hb dL_legalMoves_2 rfl (lv_at hl 0 rfl) ?_
  refine lv_iload_n hx hb dL_legalMoves_3 rfl (lv_at hl 1 rfl) ?_
  refine xt_go (A := A) (H0 := s.heap) (xt_runV (A := fun _ => False) (As := [.int x]) (rest := [.int (nI 0), .ref out]) hx hb hml hown hts hK hX hM va_S.rf okV_RL_47_X3_legalMoves hC hxo rfl rfl rfl ⟨Nat.le_refl _, by show 8 + (3 + 11) + 40 * d ≤ 40 * (d + 1); omega⟩ hl.1 rfl (Nat.le_of_ble_eq_true rfl) dL_legalMoves_4 ⟨Nat.le_refl _, Nat.le_refl _⟩) va_S.rf (fun ce q9 H locs hM hS hHs hce hcv hcl => ?_)
  refine vx_catch hown (tableOf []) ⟨0, 8, 11, 13⟩ (tableOf []) (htb.trans rfl) (fun z hz => nomatch hz) (by decide) (by decide) (hts _ qw_2_146) (va_Nw.use rfl (hX.1 _ (List.mem_of_getElem? (i := 0) rfl))) hce hcv hcl ?_
  refine lv_astore_n (lv' := [(3, .ref q9), (0, .ref xo), (1, .int x), (2, .ref out)]) hx hb dL_legalMoves_11 rfl hl (by decide) rfl (fun ls hl => ?_)
  exact hc_num hx hb hr hlk hM hS rfl (Nat.le_refl _) (Nat.le_refl _) dL_legalMoves_12 (by decide) dL_legalMoves_13
theorem okV_RL_51_X3_moveRefusal : okV RL 51 yX3_moveRefusal cX3_moveRefusal 4 (some .int) 2 := okV_of qw_3_124 qw_3_125 qw_3_126 qw_1_1 qw_3_127 (by decide +kernel)
set_option maxHeartbeats 4000000 in
set_option maxRecDepth 100000 in
theorem hG_moveRefusal (l : Launch) {D : va_G} {cI cJ : ClassId} {M : MP} {A : Nat → Prop} {sz : Nat} (xo out : Nat) (x y : Int32) {d mc ms : Nat} {v : Int32} {Rm : MP → Prop} {fs : List Value} {ob : Nat → BitVec 64} (hxo : M xo = some (.inr (2, fs))) (hC : Wr l yX3_moveRefusal cX3_moveRefusal 4 (some .int) d mc ms D cI cJ [.ref xo, .int x, .int y] M sz A (some (.int v)) Rm) (ho : ∀ M1, Rm M1 → M1 out = some (eJ cJ 1 (fun k => bL (ob k)))) (hA_out : A out) : Hc l yL_moveRefusal cL_moveRefusal 5 (some .int) [(0, 10, 13, 13)] (d + 1) mc ms D cI cJ [.ref xo, .int x, .int y, .ref out] M sz A (some (.int (nI 0))) (fun M' => ∃ (M1 : MP) (ob1 : Nat → BitVec 64), Rm M1 ∧ ob1 0 = v.toInt64.toBitVec ∧ M' = mu M1 out (eJ cJ 1 (fun k => bL (ob1 k)))) := by
  refine hc_start (by decide) (Nat.le_of_ble_eq_true rfl) ?_
  intro p e s m args below meth c hx hb hr hml hown hts hlk htb hK hX hsz hM ls hl
  subst hsz
  have hl : lv_has ls 5 [(0, .ref xo), (1, .int x), (2, .int y), (3, .ref out)] := hl
  refine lv_aload_n hx hb dL_moveRefusal_0 rfl (lv_at hl 3 rfl) ?_
  refine lv_iconst (v := nI 0) hx hb dL_moveRefusal_1 (by decide) ?_
  refine lv_aload_n hx hb dL_moveRefusal_2 rfl (lv_at hl 0 rfl) ?_
  refine lv_iload_n hx hb dL_moveRefusal_3 rfl (lv_at hl 1 rfl) ?_
  refine lv_iload_n hx hb dL_moveRefusal_4 rfl (lv_at hl 2 rfl) ?_
  refine wr_go (wr_runV (As := [.int x, .int y]) (rest := [.int (nI 0), .ref out]) hx hb hml hown hts hK hM okV_RL_51_X3_moveRefusal hC hxo rfl rfl rfl ⟨Nat.le_refl _, by show 8 + (4 + 11) + 40 * d ≤ 40 * (d + 1); omega⟩ hl.1 rfl (Nat.le_of_ble_eq_true rfl) dL_moveRefusal_5 ⟨by show 0 + mc ≤ mc; omega, by show 0 + ms ≤ ms; omega⟩) va_S.rf (fun M1 H locs hR hHs hM hS => ?_)
  refine w_i2l hx hb dL_moveRefusal_8 ?_
  exact hc_out (x := v.toInt64.toBitVec) (pc2 := 17) hx hb hr hlk hK hM hS (ho M1 hR) hA_out (fun ob1 h => ⟨M1, ob1, hR, h, rfl⟩) (by omega) (by omega) dL_moveRefusal_9 dL_moveRefusal_10 (by decide) dL_moveRefusal_17 dL_moveRefusal_18
set_option maxHeartbeats 4000000 in
set_option maxRecDepth 100000 in
theorem hT_moveRefusal_1 (l : Launch) {D : va_G} {cI cJ : ClassId} {M : MP} {A : Nat → Prop} {sz : Nat} (xo out : Nat) (x y : Int32) {d : Nat} {fs : List Value} (hxo : M xo = some (.inr (2, fs))) (hC : Xt l yX3_moveRefusal cX3_moveRefusal 4 (some .int) d D cI cJ [.ref xo, .int x, .int y] M xIO) : Hc l yL_moveRefusal cL_moveRefusal 5 (some .int) [(0, 10, 13, 13)] (d + 1) 1 6 D cI cJ [.ref xo, .int x, .int y, .ref out] M sz A (some (.int (nI 1))) (fun M' => M' = M) := by
  refine hc_start (by decide) (Nat.le_of_ble_eq_true rfl) ?_
  intro p e s m args below meth c hx hb hr hml hown hts hlk htb hK hX hsz hM ls hl
  have hl : lv_has ls 5 [(0, .ref xo), (1, .int x), (2, .int y), (3, .ref out)] := hl
  refine lv_aload_n hx hb dL_moveRefusal_0 rfl (lv_at hl 3 rfl) ?_
  refine lv_iconst (v := nI 0) hx hb dL_moveRefusal_1 (by decide) ?_
  refine lv_aload_n hx hb dL_moveRefusal_2 rfl (lv_at hl 0 rfl) ?_
  refine lv_iload_n hx hb dL_moveRefusal_3 rfl (lv_at hl 1 rfl) ?_
  refine lv_iload_n hx hb dL_moveRefusal_4 rfl (lv_at hl 2 rfl) ?_
  refine xt_go (A := A) (H0 := s.heap) (xt_runV (A := fun _ => False) (As := [.int x, .int y]) (rest := [.int (nI 0), .ref out]) hx hb hml hown hts hK hX hM va_S.rf okV_RL_51_X3_moveRefusal hC hxo rfl rfl rfl ⟨Nat.le_refl _, by show 8 + (4 + 11) + 40 * d ≤ 40 * (d + 1); omega⟩ hl.1 rfl (Nat.le_of_ble_eq_true rfl) dL_moveRefusal_5 ⟨Nat.le_refl _, Nat.le_refl _⟩) va_S.rf (fun ce q9 H locs hM hS hHs hce hcv hcl => ?_)
  refine vx_catch hown (tableOf []) ⟨0, 10, 13, 13⟩ (tableOf []) (htb.trans rfl) (fun z hz => nomatch hz) (by decide) (by decide) (hts _ qw_2_146) (va_Nw.use rfl (hX.1 _ (List.mem_of_getElem? (i := 0) rfl))) hce hcv hcl ?_
  refine lv_astore (lv' := [(4, .ref q9), (0, .ref xo), (1, .int x), (2, .int y), (3, .ref out)]) hx hb dL_moveRefusal_13 hl (by decide) rfl (fun ls hl => ?_)
  exact hc_num hx hb hr hlk hM hS rfl (Nat.le_refl _) (Nat.le_refl _) dL_moveRefusal_15 (by decide) dL_moveRefusal_16
theorem okV_RL_54_X3_bondRefusal : okV RL 54 yX3_bondRefusal cX3_bondRefusal 6 (some .int) 2 := okV_of qw_3_134 qw_3_135 qw_3_136 qw_1_1 qw_3_137 (by decide +kernel)
set_option maxHeartbeats 4000000 in
set_option maxRecDepth 100000 in
theorem hG_bondRefusal (l : Launch) {D : va_G} {cI cJ : ClassId} {M : MP} {A : Nat → Prop} {sz : Nat} (xo out : Nat) (x y : Int32) {d mc ms : Nat} {v : Int32} {Rm : MP → Prop} {fs : List Value} {ob : Nat → BitVec 64} (hxo : M xo = some (.inr (2, fs))) (hC : Wr l yX3_bondRefusal cX3_bondRefusal 6 (some .int) d mc ms D cI cJ [.ref xo, .int x, .int y] M sz A (some (.int v)) Rm) (ho : ∀ M1, Rm M1 → M1 out = some (eJ cJ 1 (fun k => bL (ob k)))) (hA_out : A out) : Hc l yL_bondRefusal cL_bondRefusal 5 (some .int) [(0, 10, 13, 13)] (d + 1) mc ms D cI cJ [.ref xo, .int x, .int y, .ref out] M sz A (some (.int (nI 0))) (fun M' => ∃ (M1 : MP) (ob1 : Nat → BitVec 64), Rm M1 ∧ ob1 0 = v.toInt64.toBitVec ∧ M' = mu M1 out (eJ cJ 1 (fun k => bL (ob1 k)))) := by
  refine hc_start (by decide) (Nat.le_of_ble_eq_true rfl) ?_
  intro p e s m args below meth c hx hb hr hml hown hts hlk htb hK hX hsz hM ls hl
  subst hsz
  have hl : lv_has ls 5 [(0, .ref xo), (1, .int x), (2, .int y), (3, .ref out)] := hl
  refine lv_aload_n hx hb dL_bondRefusal_0 rfl (lv_at hl 3 rfl) ?_
  refine lv_iconst (v := nI 0) hx hb dL_bondRefusal_1 (by decide) ?_
  refine lv_aload_n hx hb dL_bondRefusal_2 rfl (lv_at hl 0 rfl) ?_
  refine lv_iload_n hx hb dL_bondRefusal_3 rfl (lv_at hl 1 rfl) ?_
  refine lv_iload_n hx hb dL_bondRefusal_4 rfl (lv_at hl 2 rfl) ?_
  refine wr_go (wr_runV (As := [.int x, .int y]) (rest := [.int (nI 0), .ref out]) hx hb hml hown hts hK hM okV_RL_54_X3_bondRefusal hC hxo rfl rfl rfl ⟨Nat.le_refl _, by show 8 + (6 + 11) + 40 * d ≤ 40 * (d + 1); omega⟩ hl.1 rfl (Nat.le_of_ble_eq_true rfl) dL_bondRefusal_5 ⟨by show 0 + mc ≤ mc; omega, by show 0 + ms ≤ ms; omega⟩) va_S.rf (fun M1 H locs hR hHs hM hS => ?_)
  refine w_i2l hx hb dL_bondRefusal_8 ?_
  exact hc_out (x := v.toInt64.toBitVec) (pc2 := 17) hx hb hr hlk hK hM hS (ho M1 hR) hA_out (fun ob1 h => ⟨M1, ob1, hR, h, rfl⟩) (by omega) (by omega) dL_bondRefusal_9 dL_bondRefusal_10 (by decide) dL_bondRefusal_17 dL_bondRefusal_18
set_option maxHeartbeats 4000000 in
set_option maxRecDepth 100000 in
theorem hT_bondRefusal_1 (l : Launch) {D : va_G} {cI cJ : ClassId} {M : MP} {A : Nat → Prop} {sz : Nat} (xo out : Nat) (x y : Int32) {d : Nat} {fs : List Value} (hxo : M xo = some (.inr (2, fs))) (hC : Xt l yX3_bondRefusal cX3_bondRefusal 6 (some .int) d D cI cJ [.ref xo, .int x, .int y] M xIO) : Hc l yL_bondRefusal cL_bondRefusal 5 (some .int) [(0, 10, 13, 13)] (d + 1) 1 6 D cI cJ [.ref xo, .int x, .int y, .ref out] M sz A (some (.int (nI 1))) (fun M' => M' = M) := by
  refine hc_start (by decide) (Nat.le_of_ble_eq_true rfl) ?_
  intro p e s m args below meth c hx hb hr hml hown hts hlk htb hK hX hsz hM ls hl
  have hl : lv_has ls 5 [(0, .ref xo), (1, .int x), (2, .int y), (3, .ref out)] := hl
  refine lv_aload_n hx hb dL_bondRefusal_0 rfl (lv_at hl 3 rfl) ?_
  refine lv_iconst (v := nI 0) hx hb dL_bondRefusal_1 (by decide) ?_
  refine lv_aload_n hx hb dL_bondRefusal_2 rfl (lv_at hl 0 rfl) ?_
  refine lv_iload_n hx hb dL_bondRefusal_3 rfl (lv_at hl 1 rfl) ?_
  refine lv_iload_n hx hb dL_bondRefusal_4 rfl (lv_at hl 2 rfl) ?_
  refine xt_go (A := A) (H0 := s.heap) (xt_runV (A := fun _ => False) (As := [.int x, .int y]) (rest := [.int (nI 0), .ref out]) hx hb hml hown hts hK hX hM va_S.rf okV_RL_54_X3_bondRefusal hC hxo rfl rfl rfl ⟨Nat.le_refl _, by show 8 + (6 + 11) + 40 * d ≤ 40 * (d + 1); omega⟩ hl.1 rfl (Nat.le_of_ble_eq_true rfl) dL_bondRefusal_5 ⟨Nat.le_refl _, Nat.le_refl _⟩) va_S.rf (fun ce q9 H locs hM hS hHs hce hcv hcl => ?_)
  refine vx_catch hown (tableOf []) ⟨0, 10, 13, 13⟩ (tableOf []) (htb.trans rfl) (fun z hz => nomatch hz) (by decide) (by decide) (hts _ qw_2_146) (va_Nw.use rfl (hX.1 _ (List.mem_of_getElem? (i := 0) rfl))) hce hcv hcl ?_
  refine lv_astore (lv' := [(4, .ref q9), (0, .ref xo), (1, .int x), (2, .int y), (3, .ref out)]) hx hb dL_bondRefusal_13 hl (by decide) rfl (fun ls hl => ?_)
  exact hc_num hx hb hr hlk hM hS rfl (Nat.le_refl _) (Nat.le_refl _) dL_bondRefusal_15 (by decide) dL_bondRefusal_16
theorem okV_RL_57_X3_dissolveRefusal : okV RL 57 yX3_dissolveRefusal cX3_dissolveRefusal 3 (some .int) 1 := okV_of qw_3_141 qw_3_142 qw_3_143 qw_1_1 qw_3_144 (by decide +kernel)
set_option maxHeartbeats 4000000 in
set_option maxRecDepth 100000 in
theorem hG_dissolveRefusal (l : Launch) {D : va_G} {cI cJ : ClassId} {M : MP} {A : Nat → Prop} {sz : Nat} (xo out : Nat) (x : Int32) {d mc ms : Nat} {v : Int32} {Rm : MP → Prop} {fs : List Value} {ob : Nat → BitVec 64} (hxo : M xo = some (.inr (2, fs))) (hC : Wr l yX3_dissolveRefusal cX3_dissolveRefusal 3 (some .int) d mc ms D cI cJ [.ref xo, .int x] M sz A (some (.int v)) Rm) (ho : ∀ M1, Rm M1 → M1 out = some (eJ cJ 1 (fun k => bL (ob k)))) (hA_out : A out) : Hc l yL_dissolveRefusal cL_dissolveRefusal 4 (some .int) [(0, 9, 12, 13)] (d + 1) mc ms D cI cJ [.ref xo, .int x, .ref out] M sz A (some (.int (nI 0))) (fun M' => ∃ (M1 : MP) (ob1 : Nat → BitVec 64), Rm M1 ∧ ob1 0 = v.toInt64.toBitVec ∧ M' = mu M1 out (eJ cJ 1 (fun k => bL (ob1 k)))) := by
  refine hc_start (by decide) (Nat.le_of_ble_eq_true rfl) ?_
  intro p e s m args below meth c hx hb hr hml hown hts hlk htb hK hX hsz hM ls hl
  subst hsz
  have hl : lv_has ls 4 [(0, .ref xo), (1, .int x), (2, .ref out)] := hl
  refine lv_aload_n hx hb dL_dissolveRefusal_0 rfl (lv_at hl 2 rfl) ?_
  refine lv_iconst (v := nI 0) hx hb dL_dissolveRefusal_1 (by decide) ?_
  refine lv_aload_n hx hb dL_dissolveRefusal_2 rfl (lv_at hl 0 rfl) ?_
  refine lv_iload_n hx hb dL_dissolveRefusal_3 rfl (lv_at hl 1 rfl) ?_
  refine wr_go (wr_runV (As := [.int x]) (rest := [.int (nI 0), .ref out]) hx hb hml hown hts hK hM okV_RL_57_X3_dissolveRefusal hC hxo rfl rfl rfl ⟨Nat.le_refl _, by show 8 + (3 + 11) + 40 * d ≤ 40 * (d + 1); omega⟩ hl.1 rfl (Nat.le_of_ble_eq_true rfl) dL_dissolveRefusal_4 ⟨by show 0 + mc ≤ mc; omega, by show 0 + ms ≤ ms; omega⟩) va_S.rf (fun M1 H locs hR hHs hM hS => ?_)
  refine w_i2l hx hb dL_dissolveRefusal_7 ?_
  exact hc_out (x := v.toInt64.toBitVec) (pc2 := 15) hx hb hr hlk hK hM hS (ho M1 hR) hA_out (fun ob1 h => ⟨M1, ob1, hR, h, rfl⟩) (by omega) (by omega) dL_dissolveRefusal_8 dL_dissolveRefusal_9 (by decide) dL_dissolveRefusal_15 dL_dissolveRefusal_16
set_option maxHeartbeats 4000000 in
set_option maxRecDepth 100000 in
theorem hT_dissolveRefusal_1 (l : Launch) {D : va_G} {cI cJ : ClassId} {M : MP} {A : Nat → Prop} {sz : Nat} (xo out : Nat) (x : Int32) {d : Nat} {fs : List Value} (hxo : M xo = some (.inr (2, fs))) (hC : Xt l yX3_dissolveRefusal cX3_dissolveRefusal 3 (some .int) d D cI cJ [.ref xo, .int x] M xIO) : Hc l yL_dissolveRefusal cL_dissolveRefusal 4 (some .int) [(0, 9, 12, 13)] (d + 1) 1 6 D cI cJ [.ref xo, .int x, .ref out] M sz A (some (.int (nI 1))) (fun M' => M' = M) := by
  refine hc_start (by decide) (Nat.le_of_ble_eq_true rfl) ?_
  intro p e s m args below meth c hx hb hr hml hown hts hlk htb hK hX hsz hM ls hl
  have hl : lv_has ls 4 [(0, .ref xo), (1, .int x), (2, .ref out)] := hl
  refine lv_aload_n hx hb dL_dissolveRefusal_0 rfl (lv_at hl 2 rfl) ?_
  refine lv_iconst (v := nI 0) hx hb dL_dissolveRefusal_1 (by decide) ?_
  refine lv_aload_n hx hb dL_dissolveRefusal_2 rfl (lv_at hl 0 rfl) ?_
  refine lv_iload_n hx hb dL_dissolveRefusal_3 rfl (lv_at hl 1 rfl) ?_
  refine xt_go (A := A) (H0 := s.heap) (xt_runV (A := fun _ => False) (As := [.int x]) (rest := [.int (nI 0), .ref out]) hx hb hml hown hts hK hX hM va_S.rf okV_RL_57_X3_dissolveRefusal hC hxo rfl rfl rfl ⟨Nat.le_refl _, by show 8 + (3 + 11) + 40 * d ≤ 40 * (d + 1); omega⟩ hl.1 rfl (Nat.le_of_ble_eq_true rfl) dL_dissolveRefusal_4 ⟨Nat.le_refl _, Nat.le_refl _⟩) va_S.rf (fun ce q9 H locs hM hS hHs hce hcv hcl => ?_)
  refine vx_catch hown (tableOf []) ⟨0, 9, 12, 13⟩ (tableOf []) (htb.trans rfl) (fun z hz => nomatch hz) (by decide) (by decide) (hts _ qw_2_146) (va_Nw.use rfl (hX.1 _ (List.mem_of_getElem? (i := 0) rfl))) hce hcv hcl ?_
  refine lv_astore_n (lv' := [(3, .ref q9), (0, .ref xo), (1, .int x), (2, .ref out)]) hx hb dL_dissolveRefusal_12 rfl hl (by decide) rfl (fun ls hl => ?_)
  exact hc_num hx hb hr hlk hM hS rfl (Nat.le_refl _) (Nat.le_refl _) dL_dissolveRefusal_13 (by decide) dL_dissolveRefusal_14
theorem okV_RL_60_X3_countSequences : okV RL 60 yX3_countSequences cX3_countSequences 2 (some .int) 1 := okV_of qw_3_148 qw_3_149 qw_3_150 qw_1_1 qw_3_151 (by decide +kernel)
set_option maxHeartbeats 4000000 in
set_option maxRecDepth 100000 in
theorem hG_countSequences (l : Launch) {D : va_G} {cI cJ : ClassId} {M : MP} {A : Nat → Prop} {sz : Nat} (xo out : Nat) (x : Int32) {d mc ms : Nat} {v : Int32} {Rm : MP → Prop} {fs : List Value} {ob : Nat → BitVec 64} (hxo : M xo = some (.inr (2, fs))) (hC : Wr l yX3_countSequences cX3_countSequences 2 (some .int) d mc ms D cI cJ [.ref xo, .int x] M sz A (some (.int v)) Rm) (ho : ∀ M1, Rm M1 → M1 out = some (eJ cJ 1 (fun k => bL (ob k)))) (hA_out : A out) : Hc l yL_countSequences cL_countSequences 4 (some .int) [(0, 9, 12, 15)] (d + 1) mc ms D cI cJ [.ref xo, .int x, .ref out] M sz A (some (.int (nI 0))) (fun M' => ∃ (M1 : MP) (ob1 : Nat → BitVec 64), Rm M1 ∧ ob1 0 = v.toInt64.toBitVec ∧ M' = mu M1 out (eJ cJ 1 (fun k => bL (ob1 k)))) := by
  refine hc_start (by decide) (Nat.le_of_ble_eq_true rfl) ?_
  intro p e s m args below meth c hx hb hr hml hown hts hlk htb hK hX hsz hM ls hl
  subst hsz
  have hl : lv_has ls 4 [(0, .ref xo), (1, .int x), (2, .ref out)] := hl
  refine lv_aload_n hx hb dL_countSequences_0 rfl (lv_at hl 2 rfl) ?_
  refine lv_iconst (v := nI 0) hx hb dL_countSequences_1 (by decide) ?_
  refine lv_aload_n hx hb dL_countSequences_2 rfl (lv_at hl 0 rfl) ?_
  refine lv_iload_n hx hb dL_countSequences_3 rfl (lv_at hl 1 rfl) ?_
  refine wr_go (wr_runV (As := [.int x]) (rest := [.int (nI 0), .ref out]) hx hb hml hown hts hK hM okV_RL_60_X3_countSequences hC hxo rfl rfl rfl ⟨Nat.le_refl _, by show 8 + (2 + 11) + 40 * d ≤ 40 * (d + 1); omega⟩ hl.1 rfl (Nat.le_of_ble_eq_true rfl) dL_countSequences_4 ⟨by show 0 + mc ≤ mc; omega, by show 0 + ms ≤ ms; omega⟩) va_S.rf (fun M1 H locs hR hHs hM hS => ?_)
  refine w_i2l hx hb dL_countSequences_7 ?_
  exact hc_out (x := v.toInt64.toBitVec) (pc2 := 15) hx hb hr hlk hK hM hS (ho M1 hR) hA_out (fun ob1 h => ⟨M1, ob1, hR, h, rfl⟩) (by omega) (by omega) dL_countSequences_8 dL_countSequences_9 (by decide) dL_countSequences_15 dL_countSequences_16
set_option maxHeartbeats 4000000 in
set_option maxRecDepth 100000 in
theorem hT_countSequences_1 (l : Launch) {D : va_G} {cI cJ : ClassId} {M : MP} {A : Nat → Prop} {sz : Nat} (xo out : Nat) (x : Int32) {d : Nat} {fs : List Value} (hxo : M xo = some (.inr (2, fs))) (hC : Xt l yX3_countSequences cX3_countSequences 2 (some .int) d D cI cJ [.ref xo, .int x] M xIA) : Hc l yL_countSequences cL_countSequences 4 (some .int) [(0, 9, 12, 15)] (d + 1) 1 6 D cI cJ [.ref xo, .int x, .ref out] M sz A (some (.int (nI 1))) (fun M' => M' = M) := by
  refine hc_start (by decide) (Nat.le_of_ble_eq_true rfl) ?_
  intro p e s m args below meth c hx hb hr hml hown hts hlk htb hK hX hsz hM ls hl
  have hl : lv_has ls 4 [(0, .ref xo), (1, .int x), (2, .ref out)] := hl
  refine lv_aload_n hx hb dL_countSequences_0 rfl (lv_at hl 2 rfl) ?_
  refine lv_iconst (v := nI 0) hx hb dL_countSequences_1 (by decide) ?_
  refine lv_aload_n hx hb dL_countSequences_2 rfl (lv_at hl 0 rfl) ?_
  refine lv_iload_n hx hb dL_countSequences_3 rfl (lv_at hl 1 rfl) ?_
  refine xt_go (A := A) (H0 := s.heap) (xt_runV (A := fun _ => False) (As := [.int x]) (rest := [.int (nI 0), .ref out]) hx hb hml hown hts hK hX hM va_S.rf okV_RL_60_X3_countSequences hC hxo rfl rfl rfl ⟨Nat.le_refl _, by show 8 + (2 + 11) + 40 * d ≤ 40 * (d + 1); omega⟩ hl.1 rfl (Nat.le_of_ble_eq_true rfl) dL_countSequences_4 ⟨Nat.le_refl _, Nat.le_refl _⟩) va_S.rf (fun ce q9 H locs hM hS hHs hce hcv hcl => ?_)
  refine vx_catch hown (tableOf []) ⟨0, 9, 12, 15⟩ (tableOf []) (htb.trans rfl) (fun z hz => nomatch hz) (by decide) (by decide) (hts _ qw_2_147) (va_Nw.use rfl (hX.1 _ (List.mem_of_getElem? (i := 1) rfl))) hce hcv hcl ?_
  refine lv_astore_n (lv' := [(3, .ref q9), (0, .ref xo), (1, .int x), (2, .ref out)]) hx hb dL_countSequences_12 rfl hl (by decide) rfl (fun ls hl => ?_)
  exact hc_num hx hb hr hlk hM hS rfl (Nat.le_refl _) (Nat.le_refl _) dL_countSequences_13 (by decide) dL_countSequences_14
theorem okV_RL_63_X3_move : okV RL 63 yX3_move cX3_move 5 (some .int) 2 := okV_of qw_3_160 qw_3_161 qw_3_162 qw_1_1 qw_3_163 (by decide +kernel)
set_option maxHeartbeats 4000000 in
set_option maxRecDepth 100000 in
theorem hG_move (l : Launch) {D : va_G} {cI cJ : ClassId} {M : MP} {A : Nat → Prop} {sz : Nat} (xo out : Nat) (x y : Int32) {d mc ms : Nat} {v : Int32} {Rm : MP → Prop} {fs : List Value} {ob : Nat → BitVec 64} (hxo : M xo = some (.inr (2, fs))) (hC : Wr l yX3_move cX3_move 5 (some .int) d mc ms D cI cJ [.ref xo, .int x, .int y] M sz A (some (.int v)) Rm) (ho : ∀ M1, Rm M1 → M1 out = some (eJ cJ 1 (fun k => bL (ob k)))) (hA_out : A out) : Hc l yL_move cL_move 5 (some .int) [(0, 10, 13, 13), (0, 10, 17, 17)] (d + 1) mc ms D cI cJ [.ref xo, .int x, .int y, .ref out] M sz A (some (.int (nI 0))) (fun M' => ∃ (M1 : MP) (ob1 : Nat → BitVec 64), Rm M1 ∧ ob1 0 = v.toInt64.toBitVec ∧ M' = mu M1 out (eJ cJ 1 (fun k => bL (ob1 k)))) := by
  refine hc_start (by decide) (Nat.le_of_ble_eq_true rfl) ?_
  intro p e s m args below meth c hx hb hr hml hown hts hlk htb hK hX hsz hM ls hl
  subst hsz
  have hl : lv_has ls 5 [(0, .ref xo), (1, .int x), (2, .int y), (3, .ref out)] := hl
  refine lv_aload_n hx hb dL_move_0 rfl (lv_at hl 3 rfl) ?_
  refine lv_iconst (v := nI 0) hx hb dL_move_1 (by decide) ?_
  refine lv_aload_n hx hb dL_move_2 rfl (lv_at hl 0 rfl) ?_
  refine lv_iload_n hx hb dL_move_3 rfl (lv_at hl 1 rfl) ?_
  refine lv_iload_n hx hb dL_move_4 rfl (lv_at hl 2 rfl) ?_
  refine wr_go (wr_runV (As := [.int x, .int y]) (rest := [.int (nI 0), .ref out]) hx hb hml hown hts hK hM okV_RL_63_X3_move hC hxo rfl rfl rfl ⟨Nat.le_refl _, by show 8 + (5 + 11) + 40 * d ≤ 40 * (d + 1); omega⟩ hl.1 rfl (Nat.le_of_ble_eq_true rfl) dL_move_5 ⟨by show 0 + mc ≤ mc; omega, by show 0 + ms ≤ ms; omega⟩) va_S.rf (fun M1 H locs hR hHs hM hS => ?_)
  refine w_i2l hx hb dL_move_8 ?_
  exact hc_out (x := v.toInt64.toBitVec) (pc2 := 21) hx hb hr hlk hK hM hS (ho M1 hR) hA_out (fun ob1 h => ⟨M1, ob1, hR, h, rfl⟩) (by omega) (by omega) dL_move_9 dL_move_10 (by decide) dL_move_21 dL_move_22
set_option maxHeartbeats 4000000 in
set_option maxRecDepth 100000 in
theorem hT_move_1 (l : Launch) {D : va_G} {cI cJ : ClassId} {M : MP} {A : Nat → Prop} {sz : Nat} (xo out : Nat) (x y : Int32) {d : Nat} {fs : List Value} (hxo : M xo = some (.inr (2, fs))) (hC : Xt l yX3_move cX3_move 5 (some .int) d D cI cJ [.ref xo, .int x, .int y] M xIO) : Hc l yL_move cL_move 5 (some .int) [(0, 10, 13, 13), (0, 10, 17, 17)] (d + 1) 1 6 D cI cJ [.ref xo, .int x, .int y, .ref out] M sz A (some (.int (nI 1))) (fun M' => M' = M) := by
  refine hc_start (by decide) (Nat.le_of_ble_eq_true rfl) ?_
  intro p e s m args below meth c hx hb hr hml hown hts hlk htb hK hX hsz hM ls hl
  have hl : lv_has ls 5 [(0, .ref xo), (1, .int x), (2, .int y), (3, .ref out)] := hl
  refine lv_aload_n hx hb dL_move_0 rfl (lv_at hl 3 rfl) ?_
  refine lv_iconst (v := nI 0) hx hb dL_move_1 (by decide) ?_
  refine lv_aload_n hx hb dL_move_2 rfl (lv_at hl 0 rfl) ?_
  refine lv_iload_n hx hb dL_move_3 rfl (lv_at hl 1 rfl) ?_
  refine lv_iload_n hx hb dL_move_4 rfl (lv_at hl 2 rfl) ?_
  refine xt_go (A := A) (H0 := s.heap) (xt_runV (A := fun _ => False) (As := [.int x, .int y]) (rest := [.int (nI 0), .ref out]) hx hb hml hown hts hK hX hM va_S.rf okV_RL_63_X3_move hC hxo rfl rfl rfl ⟨Nat.le_refl _, by show 8 + (5 + 11) + 40 * d ≤ 40 * (d + 1); omega⟩ hl.1 rfl (Nat.le_of_ble_eq_true rfl) dL_move_5 ⟨Nat.le_refl _, Nat.le_refl _⟩) va_S.rf (fun ce q9 H locs hM hS hHs hce hcv hcl => ?_)
  refine vx_catch hown (tableOf []) ⟨0, 10, 13, 13⟩ (tableOf [(0, 10, 17, 17)]) (htb.trans rfl) (fun z hz => nomatch hz) (by decide) (by decide) (hts _ qw_2_146) (va_Nw.use rfl (hX.1 _ (List.mem_of_getElem? (i := 0) rfl))) hce hcv hcl ?_
  refine lv_astore (lv' := [(4, .ref q9), (0, .ref xo), (1, .int x), (2, .int y), (3, .ref out)]) hx hb dL_move_13 hl (by decide) rfl (fun ls hl => ?_)
  exact hc_num hx hb hr hlk hM hS rfl (Nat.le_refl _) (Nat.le_refl _) dL_move_15 (by decide) dL_move_16
set_option maxHeartbeats 4000000 in
set_option maxRecDepth 100000 in
theorem hT_move_2 (l : Launch) {D : va_G} {cI cJ : ClassId} {M : MP} {A : Nat → Prop} {sz : Nat} (xo out : Nat) (x y : Int32) {d : Nat} {fs : List Value} (hxo : M xo = some (.inr (2, fs))) (hC : Xt l yX3_move cX3_move 5 (some .int) d D cI cJ [.ref xo, .int x, .int y] M xIS) : Hc l yL_move cL_move 5 (some .int) [(0, 10, 13, 13), (0, 10, 17, 17)] (d + 1) 1 6 D cI cJ [.ref xo, .int x, .int y, .ref out] M sz A (some (.int (nI 2))) (fun M' => M' = M) := by
  refine hc_start (by decide) (Nat.le_of_ble_eq_true rfl) ?_
  intro p e s m args below meth c hx hb hr hml hown hts hlk htb hK hX hsz hM ls hl
  have hl : lv_has ls 5 [(0, .ref xo), (1, .int x), (2, .int y), (3, .ref out)] := hl
  refine lv_aload_n hx hb dL_move_0 rfl (lv_at hl 3 rfl) ?_
  refine lv_iconst (v := nI 0) hx hb dL_move_1 (by decide) ?_
  refine lv_aload_n hx hb dL_move_2 rfl (lv_at hl 0 rfl) ?_
  refine lv_iload_n hx hb dL_move_3 rfl (lv_at hl 1 rfl) ?_
  refine lv_iload_n hx hb dL_move_4 rfl (lv_at hl 2 rfl) ?_
  refine xt_go (A := A) (H0 := s.heap) (xt_runV (A := fun _ => False) (As := [.int x, .int y]) (rest := [.int (nI 0), .ref out]) hx hb hml hown hts hK hX hM va_S.rf okV_RL_63_X3_move hC hxo rfl rfl rfl ⟨Nat.le_refl _, by show 8 + (5 + 11) + 40 * d ≤ 40 * (d + 1); omega⟩ hl.1 rfl (Nat.le_of_ble_eq_true rfl) dL_move_5 ⟨Nat.le_refl _, Nat.le_refl _⟩) va_S.rf (fun ce q9 H locs hM hS hHs hce hcv hcl => ?_)
  refine vx_catch hown (tableOf [(0, 10, 13, 13)]) ⟨0, 10, 17, 17⟩ (tableOf []) (htb.trans rfl) (fun z hz => by
    simp only [tableOf, List.map_cons, List.map_nil, List.mem_cons, List.not_mem_nil, or_false] at hz
    rcases hz with rfl
    · exact Or.inr ⟨by decide, xIO, hts _ qw_2_146, hX.2.1 _ (List.mem_of_getElem? (i := 1) rfl)⟩) (by decide) (by decide) (hts _ qw_2_148) (va_Nw.use rfl (hX.1 _ (List.mem_of_getElem? (i := 2) rfl))) hce hcv hcl ?_
  refine lv_astore (lv' := [(4, .ref q9), (0, .ref xo), (1, .int x), (2, .int y), (3, .ref out)]) hx hb dL_move_17 hl (by decide) rfl (fun ls hl => ?_)
  exact hc_num hx hb hr hlk hM hS rfl (Nat.le_refl _) (Nat.le_refl _) dL_move_19 (by decide) dL_move_20
theorem okV_RL_66_X3_bond : okV RL 66 yX3_bond cX3_bond 3 (some .int) 2 := okV_of qw_3_177 qw_3_178 qw_3_179 qw_1_1 qw_3_180 (by decide +kernel)
set_option maxHeartbeats 4000000 in
set_option maxRecDepth 100000 in
theorem hG_bond (l : Launch) {D : va_G} {cI cJ : ClassId} {M : MP} {A : Nat → Prop} {sz : Nat} (xo out : Nat) (x y : Int32) {d mc ms : Nat} {v : Int32} {Rm : MP → Prop} {fs : List Value} {ob : Nat → BitVec 64} (hxo : M xo = some (.inr (2, fs))) (hC : Wr l yX3_bond cX3_bond 3 (some .int) d mc ms D cI cJ [.ref xo, .int x, .int y] M sz A (some (.int v)) Rm) (ho : ∀ M1, Rm M1 → M1 out = some (eJ cJ 1 (fun k => bL (ob k)))) (hA_out : A out) : Hc l yL_bond cL_bond 5 (some .int) [(0, 10, 13, 13), (0, 10, 17, 17)] (d + 1) mc ms D cI cJ [.ref xo, .int x, .int y, .ref out] M sz A (some (.int (nI 0))) (fun M' => ∃ (M1 : MP) (ob1 : Nat → BitVec 64), Rm M1 ∧ ob1 0 = v.toInt64.toBitVec ∧ M' = mu M1 out (eJ cJ 1 (fun k => bL (ob1 k)))) := by
  refine hc_start (by decide) (Nat.le_of_ble_eq_true rfl) ?_
  intro p e s m args below meth c hx hb hr hml hown hts hlk htb hK hX hsz hM ls hl
  subst hsz
  have hl : lv_has ls 5 [(0, .ref xo), (1, .int x), (2, .int y), (3, .ref out)] := hl
  refine lv_aload_n hx hb dL_bond_0 rfl (lv_at hl 3 rfl) ?_
  refine lv_iconst (v := nI 0) hx hb dL_bond_1 (by decide) ?_
  refine lv_aload_n hx hb dL_bond_2 rfl (lv_at hl 0 rfl) ?_
  refine lv_iload_n hx hb dL_bond_3 rfl (lv_at hl 1 rfl) ?_
  refine lv_iload_n hx hb dL_bond_4 rfl (lv_at hl 2 rfl) ?_
  refine wr_go (wr_runV (As := [.int x, .int y]) (rest := [.int (nI 0), .ref out]) hx hb hml hown hts hK hM okV_RL_66_X3_bond hC hxo rfl rfl rfl ⟨Nat.le_refl _, by show 8 + (3 + 11) + 40 * d ≤ 40 * (d + 1); omega⟩ hl.1 rfl (Nat.le_of_ble_eq_true rfl) dL_bond_5 ⟨by show 0 + mc ≤ mc; omega, by show 0 + ms ≤ ms; omega⟩) va_S.rf (fun M1 H locs hR hHs hM hS => ?_)
  refine w_i2l hx hb dL_bond_8 ?_
  exact hc_out (x := v.toInt64.toBitVec) (pc2 := 21) hx hb hr hlk hK hM hS (ho M1 hR) hA_out (fun ob1 h => ⟨M1, ob1, hR, h, rfl⟩) (by omega) (by omega) dL_bond_9 dL_bond_10 (by decide) dL_bond_21 dL_bond_22
set_option maxHeartbeats 4000000 in
set_option maxRecDepth 100000 in
theorem hT_bond_1 (l : Launch) {D : va_G} {cI cJ : ClassId} {M : MP} {A : Nat → Prop} {sz : Nat} (xo out : Nat) (x y : Int32) {d : Nat} {fs : List Value} (hxo : M xo = some (.inr (2, fs))) (hC : Xt l yX3_bond cX3_bond 3 (some .int) d D cI cJ [.ref xo, .int x, .int y] M xIO) : Hc l yL_bond cL_bond 5 (some .int) [(0, 10, 13, 13), (0, 10, 17, 17)] (d + 1) 1 6 D cI cJ [.ref xo, .int x, .int y, .ref out] M sz A (some (.int (nI 1))) (fun M' => M' = M) := by
  refine hc_start (by decide) (Nat.le_of_ble_eq_true rfl) ?_
  intro p e s m args below meth c hx hb hr hml hown hts hlk htb hK hX hsz hM ls hl
  have hl : lv_has ls 5 [(0, .ref xo), (1, .int x), (2, .int y), (3, .ref out)] := hl
  refine lv_aload_n hx hb dL_bond_0 rfl (lv_at hl 3 rfl) ?_
  refine lv_iconst (v := nI 0) hx hb dL_bond_1 (by decide) ?_
  refine lv_aload_n hx hb dL_bond_2 rfl (lv_at hl 0 rfl) ?_
  refine lv_iload_n hx hb dL_bond_3 rfl (lv_at hl 1 rfl) ?_
  refine lv_iload_n hx hb dL_bond_4 rfl (lv_at hl 2 rfl) ?_
  refine xt_go (A := A) (H0 := s.heap) (xt_runV (A := fun _ => False) (As := [.int x, .int y]) (rest := [.int (nI 0), .ref out]) hx hb hml hown hts hK hX hM va_S.rf okV_RL_66_X3_bond hC hxo rfl rfl rfl ⟨Nat.le_refl _, by show 8 + (3 + 11) + 40 * d ≤ 40 * (d + 1); omega⟩ hl.1 rfl (Nat.le_of_ble_eq_true rfl) dL_bond_5 ⟨Nat.le_refl _, Nat.le_refl _⟩) va_S.rf (fun ce q9 H locs hM hS hHs hce hcv hcl => ?_)
  refine vx_catch hown (tableOf []) ⟨0, 10, 13, 13⟩ (tableOf [(0, 10, 17, 17)]) (htb.trans rfl) (fun z hz => nomatch hz) (by decide) (by decide) (hts _ qw_2_146) (va_Nw.use rfl (hX.1 _ (List.mem_of_getElem? (i := 0) rfl))) hce hcv hcl ?_
  refine lv_astore (lv' := [(4, .ref q9), (0, .ref xo), (1, .int x), (2, .int y), (3, .ref out)]) hx hb dL_bond_13 hl (by decide) rfl (fun ls hl => ?_)
  exact hc_num hx hb hr hlk hM hS rfl (Nat.le_refl _) (Nat.le_refl _) dL_bond_15 (by decide) dL_bond_16
set_option maxHeartbeats 4000000 in
set_option maxRecDepth 100000 in
theorem hT_bond_2 (l : Launch) {D : va_G} {cI cJ : ClassId} {M : MP} {A : Nat → Prop} {sz : Nat} (xo out : Nat) (x y : Int32) {d : Nat} {fs : List Value} (hxo : M xo = some (.inr (2, fs))) (hC : Xt l yX3_bond cX3_bond 3 (some .int) d D cI cJ [.ref xo, .int x, .int y] M xIS) : Hc l yL_bond cL_bond 5 (some .int) [(0, 10, 13, 13), (0, 10, 17, 17)] (d + 1) 1 6 D cI cJ [.ref xo, .int x, .int y, .ref out] M sz A (some (.int (nI 2))) (fun M' => M' = M) := by
  refine hc_start (by decide) (Nat.le_of_ble_eq_true rfl) ?_
  intro p e s m args below meth c hx hb hr hml hown hts hlk htb hK hX hsz hM ls hl
  have hl : lv_has ls 5 [(0, .ref xo), (1, .int x), (2, .int y), (3, .ref out)] := hl
  refine lv_aload_n hx hb dL_bond_0 rfl (lv_at hl 3 rfl) ?_
  refine lv_iconst (v := nI 0) hx hb dL_bond_1 (by decide) ?_
  refine lv_aload_n hx hb dL_bond_2 rfl (lv_at hl 0 rfl) ?_
  refine lv_iload_n hx hb dL_bond_3 rfl (lv_at hl 1 rfl) ?_
  refine lv_iload_n hx hb dL_bond_4 rfl (lv_at hl 2 rfl) ?_
  refine xt_go (A := A) (H0 := s.heap) (xt_runV (A := fun _ => False) (As := [.int x, .int y]) (rest := [.int (nI 0), .ref out]) hx hb hml hown hts hK hX hM va_S.rf okV_RL_66_X3_bond hC hxo rfl rfl rfl ⟨Nat.le_refl _, by show 8 + (3 + 11) + 40 * d ≤ 40 * (d + 1); omega⟩ hl.1 rfl (Nat.le_of_ble_eq_true rfl) dL_bond_5 ⟨Nat.le_refl _, Nat.le_refl _⟩) va_S.rf (fun ce q9 H locs hM hS hHs hce hcv hcl => ?_)
  refine vx_catch hown (tableOf [(0, 10, 13, 13)]) ⟨0, 10, 17, 17⟩ (tableOf []) (htb.trans rfl) (fun z hz => by
    simp only [tableOf, List.map_cons, List.map_nil, List.mem_cons, List.not_mem_nil, or_false] at hz
    rcases hz with rfl
    · exact Or.inr ⟨by decide, xIO, hts _ qw_2_146, hX.2.1 _ (List.mem_of_getElem? (i := 1) rfl)⟩) (by decide) (by decide) (hts _ qw_2_148) (va_Nw.use rfl (hX.1 _ (List.mem_of_getElem? (i := 2) rfl))) hce hcv hcl ?_
  refine lv_astore (lv' := [(4, .ref q9), (0, .ref xo), (1, .int x), (2, .int y), (3, .ref out)]) hx hb dL_bond_17 hl (by decide) rfl (fun ls hl => ?_)
  exact hc_num hx hb hr hlk hM hS rfl (Nat.le_refl _) (Nat.le_refl _) dL_bond_19 (by decide) dL_bond_20
theorem okV_RL_69_X3_dissolve : okV RL 69 yX3_dissolve cX3_dissolve 3 (some .int) 1 := okV_of qw_3_186 qw_3_187 qw_3_188 qw_1_1 qw_3_189 (by decide +kernel)
set_option maxHeartbeats 4000000 in
set_option maxRecDepth 100000 in
theorem hG_dissolve (l : Launch) {D : va_G} {cI cJ : ClassId} {M : MP} {A : Nat → Prop} {sz : Nat} (xo out : Nat) (x : Int32) {d mc ms : Nat} {v : Int32} {Rm : MP → Prop} {fs : List Value} {ob : Nat → BitVec 64} (hxo : M xo = some (.inr (2, fs))) (hC : Wr l yX3_dissolve cX3_dissolve 3 (some .int) d mc ms D cI cJ [.ref xo, .int x] M sz A (some (.int v)) Rm) (ho : ∀ M1, Rm M1 → M1 out = some (eJ cJ 1 (fun k => bL (ob k)))) (hA_out : A out) : Hc l yL_dissolve cL_dissolve 4 (some .int) [(0, 9, 12, 13), (0, 9, 15, 17)] (d + 1) mc ms D cI cJ [.ref xo, .int x, .ref out] M sz A (some (.int (nI 0))) (fun M' => ∃ (M1 : MP) (ob1 : Nat → BitVec 64), Rm M1 ∧ ob1 0 = v.toInt64.toBitVec ∧ M' = mu M1 out (eJ cJ 1 (fun k => bL (ob1 k)))) := by
  refine hc_start (by decide) (Nat.le_of_ble_eq_true rfl) ?_
  intro p e s m args below meth c hx hb hr hml hown hts hlk htb hK hX hsz hM ls hl
  subst hsz
  have hl : lv_has ls 4 [(0, .ref xo), (1, .int x), (2, .ref out)] := hl
  refine lv_aload_n hx hb dL_dissolve_0 rfl (lv_at hl 2 rfl) ?_
  refine lv_iconst (v := nI 0) hx hb dL_dissolve_1 (by decide) ?_
  refine lv_aload_n hx hb dL_dissolve_2 rfl (lv_at hl 0 rfl) ?_
  refine lv_iload_n hx hb dL_dissolve_3 rfl (lv_at hl 1 rfl) ?_
  refine wr_go (wr_runV (As := [.int x]) (rest := [.int (nI 0), .ref out]) hx hb hml hown hts hK hM okV_RL_69_X3_dissolve hC hxo rfl rfl rfl ⟨Nat.le_refl _, by show 8 + (3 + 11) + 40 * d ≤ 40 * (d + 1); omega⟩ hl.1 rfl (Nat.le_of_ble_eq_true rfl) dL_dissolve_4 ⟨by show 0 + mc ≤ mc; omega, by show 0 + ms ≤ ms; omega⟩) va_S.rf (fun M1 H locs hR hHs hM hS => ?_)
  refine w_i2l hx hb dL_dissolve_7 ?_
  exact hc_out (x := v.toInt64.toBitVec) (pc2 := 18) hx hb hr hlk hK hM hS (ho M1 hR) hA_out (fun ob1 h => ⟨M1, ob1, hR, h, rfl⟩) (by omega) (by omega) dL_dissolve_8 dL_dissolve_9 (by decide) dL_dissolve_18 dL_dissolve_19
set_option maxHeartbeats 4000000 in
set_option maxRecDepth 100000 in
theorem hT_dissolve_1 (l : Launch) {D : va_G} {cI cJ : ClassId} {M : MP} {A : Nat → Prop} {sz : Nat} (xo out : Nat) (x : Int32) {d : Nat} {fs : List Value} (hxo : M xo = some (.inr (2, fs))) (hC : Xt l yX3_dissolve cX3_dissolve 3 (some .int) d D cI cJ [.ref xo, .int x] M xIO) : Hc l yL_dissolve cL_dissolve 4 (some .int) [(0, 9, 12, 13), (0, 9, 15, 17)] (d + 1) 1 6 D cI cJ [.ref xo, .int x, .ref out] M sz A (some (.int (nI 1))) (fun M' => M' = M) := by
  refine hc_start (by decide) (Nat.le_of_ble_eq_true rfl) ?_
  intro p e s m args below meth c hx hb hr hml hown hts hlk htb hK hX hsz hM ls hl
  have hl : lv_has ls 4 [(0, .ref xo), (1, .int x), (2, .ref out)] := hl
  refine lv_aload_n hx hb dL_dissolve_0 rfl (lv_at hl 2 rfl) ?_
  refine lv_iconst (v := nI 0) hx hb dL_dissolve_1 (by decide) ?_
  refine lv_aload_n hx hb dL_dissolve_2 rfl (lv_at hl 0 rfl) ?_
  refine lv_iload_n hx hb dL_dissolve_3 rfl (lv_at hl 1 rfl) ?_
  refine xt_go (A := A) (H0 := s.heap) (xt_runV (A := fun _ => False) (As := [.int x]) (rest := [.int (nI 0), .ref out]) hx hb hml hown hts hK hX hM va_S.rf okV_RL_69_X3_dissolve hC hxo rfl rfl rfl ⟨Nat.le_refl _, by show 8 + (3 + 11) + 40 * d ≤ 40 * (d + 1); omega⟩ hl.1 rfl (Nat.le_of_ble_eq_true rfl) dL_dissolve_4 ⟨Nat.le_refl _, Nat.le_refl _⟩) va_S.rf (fun ce q9 H locs hM hS hHs hce hcv hcl => ?_)
  refine vx_catch hown (tableOf []) ⟨0, 9, 12, 13⟩ (tableOf [(0, 9, 15, 17)]) (htb.trans rfl) (fun z hz => nomatch hz) (by decide) (by decide) (hts _ qw_2_146) (va_Nw.use rfl (hX.1 _ (List.mem_of_getElem? (i := 0) rfl))) hce hcv hcl ?_
  refine lv_astore_n (lv' := [(3, .ref q9), (0, .ref xo), (1, .int x), (2, .ref out)]) hx hb dL_dissolve_12 rfl hl (by decide) rfl (fun ls hl => ?_)
  exact hc_num hx hb hr hlk hM hS rfl (Nat.le_refl _) (Nat.le_refl _) dL_dissolve_13 (by decide) dL_dissolve_14
set_option maxHeartbeats 4000000 in
set_option maxRecDepth 100000 in
theorem hT_dissolve_2 (l : Launch) {D : va_G} {cI cJ : ClassId} {M : MP} {A : Nat → Prop} {sz : Nat} (xo out : Nat) (x : Int32) {d : Nat} {fs : List Value} (hxo : M xo = some (.inr (2, fs))) (hC : Xt l yX3_dissolve cX3_dissolve 3 (some .int) d D cI cJ [.ref xo, .int x] M xIS) : Hc l yL_dissolve cL_dissolve 4 (some .int) [(0, 9, 12, 13), (0, 9, 15, 17)] (d + 1) 1 6 D cI cJ [.ref xo, .int x, .ref out] M sz A (some (.int (nI 2))) (fun M' => M' = M) := by
  refine hc_start (by decide) (Nat.le_of_ble_eq_true rfl) ?_
  intro p e s m args below meth c hx hb hr hml hown hts hlk htb hK hX hsz hM ls hl
  have hl : lv_has ls 4 [(0, .ref xo), (1, .int x), (2, .ref out)] := hl
  refine lv_aload_n hx hb dL_dissolve_0 rfl (lv_at hl 2 rfl) ?_
  refine lv_iconst (v := nI 0) hx hb dL_dissolve_1 (by decide) ?_
  refine lv_aload_n hx hb dL_dissolve_2 rfl (lv_at hl 0 rfl) ?_
  refine lv_iload_n hx hb dL_dissolve_3 rfl (lv_at hl 1 rfl) ?_
  refine xt_go (A := A) (H0 := s.heap) (xt_runV (A := fun _ => False) (As := [.int x]) (rest := [.int (nI 0), .ref out]) hx hb hml hown hts hK hX hM va_S.rf okV_RL_69_X3_dissolve hC hxo rfl rfl rfl ⟨Nat.le_refl _, by show 8 + (3 + 11) + 40 * d ≤ 40 * (d + 1); omega⟩ hl.1 rfl (Nat.le_of_ble_eq_true rfl) dL_dissolve_4 ⟨Nat.le_refl _, Nat.le_refl _⟩) va_S.rf (fun ce q9 H locs hM hS hHs hce hcv hcl => ?_)
  refine vx_catch hown (tableOf [(0, 9, 12, 13)]) ⟨0, 9, 15, 17⟩ (tableOf []) (htb.trans rfl) (fun z hz => by
    simp only [tableOf, List.map_cons, List.map_nil, List.mem_cons, List.not_mem_nil, or_false] at hz
    rcases hz with rfl
    · exact Or.inr ⟨by decide, xIO, hts _ qw_2_146, hX.2.1 _ (List.mem_of_getElem? (i := 1) rfl)⟩) (by decide) (by decide) (hts _ qw_2_148) (va_Nw.use rfl (hX.1 _ (List.mem_of_getElem? (i := 2) rfl))) hce hcv hcl ?_
  refine lv_astore_n (lv' := [(3, .ref q9), (0, .ref xo), (1, .int x), (2, .ref out)]) hx hb dL_dissolve_15 rfl hl (by decide) rfl (fun ls hl => ?_)
  exact hc_num hx hb hr hlk hM hS rfl (Nat.le_refl _) (Nat.le_refl _) dL_dissolve_16 (by decide) dL_dissolve_17
theorem okV_RL_72_X3_takeBack : okV RL 72 yX3_takeBack cX3_takeBack 2 (some .int) 0 := okV_of qw_3_196 qw_3_197 qw_3_198 qw_1_1 qw_3_199 (by decide +kernel)
set_option maxHeartbeats 4000000 in
set_option maxRecDepth 100000 in
theorem hG_takeBack (l : Launch) {D : va_G} {cI cJ : ClassId} {M : MP} {A : Nat → Prop} {sz : Nat} (xo out : Nat) {d mc ms : Nat} {v : Int32} {Rm : MP → Prop} {fs : List Value} {ob : Nat → BitVec 64} (hxo : M xo = some (.inr (2, fs))) (hC : Wr l yX3_takeBack cX3_takeBack 2 (some .int) d mc ms D cI cJ [.ref xo] M sz A (some (.int v)) Rm) (ho : ∀ M1, Rm M1 → M1 out = some (eJ cJ 1 (fun k => bL (ob k)))) (hA_out : A out) : Hc l yL_takeBack cL_takeBack 3 (some .int) [(0, 8, 11, 17)] (d + 1) mc ms D cI cJ [.ref xo, .ref out] M sz A (some (.int (nI 0))) (fun M' => ∃ (M1 : MP) (ob1 : Nat → BitVec 64), Rm M1 ∧ ob1 0 = v.toInt64.toBitVec ∧ M' = mu M1 out (eJ cJ 1 (fun k => bL (ob1 k)))) := by
  refine hc_start (by decide) (Nat.le_of_ble_eq_true rfl) ?_
  intro p e s m args below meth c hx hb hr hml hown hts hlk htb hK hX hsz hM ls hl
  subst hsz
  have hl : lv_has ls 3 [(0, .ref xo), (1, .ref out)] := hl
  refine lv_aload_n hx hb dL_takeBack_0 rfl (lv_at hl 1 rfl) ?_
  refine lv_iconst (v := nI 0) hx hb dL_takeBack_1 (by decide) ?_
  refine lv_aload_n hx hb dL_takeBack_2 rfl (lv_at hl 0 rfl) ?_
  refine wr_go (wr_runV (As := []) (rest := [.int (nI 0), .ref out]) hx hb hml hown hts hK hM okV_RL_72_X3_takeBack hC hxo rfl rfl rfl ⟨Nat.le_refl _, by show 8 + (2 + 11) + 40 * d ≤ 40 * (d + 1); omega⟩ hl.1 rfl (Nat.le_of_ble_eq_true rfl) dL_takeBack_3 ⟨by show 0 + mc ≤ mc; omega, by show 0 + ms ≤ ms; omega⟩) va_S.rf (fun M1 H locs hR hHs hM hS => ?_)
  refine w_i2l hx hb dL_takeBack_6 ?_
  exact hc_out (x := v.toInt64.toBitVec) (pc2 := 14) hx hb hr hlk hK hM hS (ho M1 hR) hA_out (fun ob1 h => ⟨M1, ob1, hR, h, rfl⟩) (by omega) (by omega) dL_takeBack_7 dL_takeBack_8 (by decide) dL_takeBack_14 dL_takeBack_15
set_option maxHeartbeats 4000000 in
set_option maxRecDepth 100000 in
theorem hT_takeBack_1 (l : Launch) {D : va_G} {cI cJ : ClassId} {M : MP} {A : Nat → Prop} {sz : Nat} (xo out : Nat) {d : Nat} {fs : List Value} (hxo : M xo = some (.inr (2, fs))) (hC : Xt l yX3_takeBack cX3_takeBack 2 (some .int) d D cI cJ [.ref xo] M xIS) : Hc l yL_takeBack cL_takeBack 3 (some .int) [(0, 8, 11, 17)] (d + 1) 1 6 D cI cJ [.ref xo, .ref out] M sz A (some (.int (nI 1))) (fun M' => M' = M) := by
  refine hc_start (by decide) (Nat.le_of_ble_eq_true rfl) ?_
  intro p e s m args below meth c hx hb hr hml hown hts hlk htb hK hX hsz hM ls hl
  have hl : lv_has ls 3 [(0, .ref xo), (1, .ref out)] := hl
  refine lv_aload_n hx hb dL_takeBack_0 rfl (lv_at hl 1 rfl) ?_
  refine lv_iconst (v := nI 0) hx hb dL_takeBack_1 (by decide) ?_
  refine lv_aload_n hx hb dL_takeBack_2 rfl (lv_at hl 0 rfl) ?_
  refine xt_go (A := A) (H0 := s.heap) (xt_runV (A := fun _ => False) (As := []) (rest := [.int (nI 0), .ref out]) hx hb hml hown hts hK hX hM va_S.rf okV_RL_72_X3_takeBack hC hxo rfl rfl rfl ⟨Nat.le_refl _, by show 8 + (2 + 11) + 40 * d ≤ 40 * (d + 1); omega⟩ hl.1 rfl (Nat.le_of_ble_eq_true rfl) dL_takeBack_3 ⟨Nat.le_refl _, Nat.le_refl _⟩) va_S.rf (fun ce q9 H locs hM hS hHs hce hcv hcl => ?_)
  refine vx_catch hown (tableOf []) ⟨0, 8, 11, 17⟩ (tableOf []) (htb.trans rfl) (fun z hz => nomatch hz) (by decide) (by decide) (hts _ qw_2_148) (va_Nw.use rfl (hX.1 _ (List.mem_of_getElem? (i := 2) rfl))) hce hcv hcl ?_
  refine lv_astore_n (lv' := [(2, .ref q9), (0, .ref xo), (1, .ref out)]) hx hb dL_takeBack_11 rfl hl (by decide) rfl (fun ls hl => ?_)
  exact hc_num hx hb hr hlk hM hS rfl (Nat.le_refl _) (Nat.le_refl _) dL_takeBack_12 (by decide) dL_takeBack_13
theorem okV_RL_76_X3_capturedCount : okV RL 76 yX3_capturedCount cX3_capturedCount 5 (some .int) 2 := okV_of qw_3_204 qw_3_205 qw_3_206 qw_1_1 qw_3_207 (by decide +kernel)
set_option maxHeartbeats 4000000 in
set_option maxRecDepth 100000 in
theorem hG_capturedCount (l : Launch) {D : va_G} {cI cJ : ClassId} {M : MP} {A : Nat → Prop} {sz : Nat} (xo out : Nat) (x y : Int32) {d mc ms : Nat} {v : Int32} {Rm : MP → Prop} {fs : List Value} {ob : Nat → BitVec 64} (hxo : M xo = some (.inr (2, fs))) (hC : Wr l yX3_capturedCount cX3_capturedCount 5 (some .int) d mc ms D cI cJ [.ref xo, .int x, .int y] M sz A (some (.int v)) Rm) (ho : ∀ M1, Rm M1 → M1 out = some (eJ cJ 1 (fun k => bL (ob k)))) (hA_out : A out) : Hc l yL_capturedCount cL_capturedCount 5 (some .int) [(0, 10, 13, 15)] (d + 1) mc ms D cI cJ [.ref xo, .int x, .int y, .ref out] M sz A (some (.int (nI 0))) (fun M' => ∃ (M1 : MP) (ob1 : Nat → BitVec 64), Rm M1 ∧ ob1 0 = v.toInt64.toBitVec ∧ M' = mu M1 out (eJ cJ 1 (fun k => bL (ob1 k)))) := by
  refine hc_start (by decide) (Nat.le_of_ble_eq_true rfl) ?_
  intro p e s m args below meth c hx hb hr hml hown hts hlk htb hK hX hsz hM ls hl
  subst hsz
  have hl : lv_has ls 5 [(0, .ref xo), (1, .int x), (2, .int y), (3, .ref out)] := hl
  refine lv_aload_n hx hb dL_capturedCount_0 rfl (lv_at hl 3 rfl) ?_
  refine lv_iconst (v := nI 0) hx hb dL_capturedCount_1 (by decide) ?_
  refine lv_aload_n hx hb dL_capturedCount_2 rfl (lv_at hl 0 rfl) ?_
  refine lv_iload_n hx hb dL_capturedCount_3 rfl (lv_at hl 1 rfl) ?_
  refine lv_iload_n hx hb dL_capturedCount_4 rfl (lv_at hl 2 rfl) ?_
  refine wr_go (wr_runV (As := [.int x, .int y]) (rest := [.int (nI 0), .ref out]) hx hb hml hown hts hK hM okV_RL_76_X3_capturedCount hC hxo rfl rfl rfl ⟨Nat.le_refl _, by show 8 + (5 + 11) + 40 * d ≤ 40 * (d + 1); omega⟩ hl.1 rfl (Nat.le_of_ble_eq_true rfl) dL_capturedCount_5 ⟨by show 0 + mc ≤ mc; omega, by show 0 + ms ≤ ms; omega⟩) va_S.rf (fun M1 H locs hR hHs hM hS => ?_)
  refine w_i2l hx hb dL_capturedCount_8 ?_
  exact hc_out (x := v.toInt64.toBitVec) (pc2 := 17) hx hb hr hlk hK hM hS (ho M1 hR) hA_out (fun ob1 h => ⟨M1, ob1, hR, h, rfl⟩) (by omega) (by omega) dL_capturedCount_9 dL_capturedCount_10 (by decide) dL_capturedCount_17 dL_capturedCount_18
set_option maxHeartbeats 4000000 in
set_option maxRecDepth 100000 in
theorem hT_capturedCount_1 (l : Launch) {D : va_G} {cI cJ : ClassId} {M : MP} {A : Nat → Prop} {sz : Nat} (xo out : Nat) (x y : Int32) {d : Nat} {fs : List Value} (hxo : M xo = some (.inr (2, fs))) (hC : Xt l yX3_capturedCount cX3_capturedCount 5 (some .int) d D cI cJ [.ref xo, .int x, .int y] M xIA) : Hc l yL_capturedCount cL_capturedCount 5 (some .int) [(0, 10, 13, 15)] (d + 1) 1 6 D cI cJ [.ref xo, .int x, .int y, .ref out] M sz A (some (.int (nI 1))) (fun M' => M' = M) := by
  refine hc_start (by decide) (Nat.le_of_ble_eq_true rfl) ?_
  intro p e s m args below meth c hx hb hr hml hown hts hlk htb hK hX hsz hM ls hl
  have hl : lv_has ls 5 [(0, .ref xo), (1, .int x), (2, .int y), (3, .ref out)] := hl
  refine lv_aload_n hx hb dL_capturedCount_0 rfl (lv_at hl 3 rfl) ?_
  refine lv_iconst (v := nI 0) hx hb dL_capturedCount_1 (by decide) ?_
  refine lv_aload_n hx hb dL_capturedCount_2 rfl (lv_at hl 0 rfl) ?_
  refine lv_iload_n hx hb dL_capturedCount_3 rfl (lv_at hl 1 rfl) ?_
  refine lv_iload_n hx hb dL_capturedCount_4 rfl (lv_at hl 2 rfl) ?_
  refine xt_go (A := A) (H0 := s.heap) (xt_runV (A := fun _ => False) (As := [.int x, .int y]) (rest := [.int (nI 0), .ref out]) hx hb hml hown hts hK hX hM va_S.rf okV_RL_76_X3_capturedCount hC hxo rfl rfl rfl ⟨Nat.le_refl _, by show 8 + (5 + 11) + 40 * d ≤ 40 * (d + 1); omega⟩ hl.1 rfl (Nat.le_of_ble_eq_true rfl) dL_capturedCount_5 ⟨Nat.le_refl _, Nat.le_refl _⟩) va_S.rf (fun ce q9 H locs hM hS hHs hce hcv hcl => ?_)
  refine vx_catch hown (tableOf []) ⟨0, 10, 13, 15⟩ (tableOf []) (htb.trans rfl) (fun z hz => nomatch hz) (by decide) (by decide) (hts _ qw_2_147) (va_Nw.use rfl (hX.1 _ (List.mem_of_getElem? (i := 1) rfl))) hce hcv hcl ?_
  refine lv_astore (lv' := [(4, .ref q9), (0, .ref xo), (1, .int x), (2, .int y), (3, .ref out)]) hx hb dL_capturedCount_13 hl (by decide) rfl (fun ls hl => ?_)
  exact hc_num hx hb hr hlk hM hS rfl (Nat.le_refl _) (Nat.le_refl _) dL_capturedCount_15 (by decide) dL_capturedCount_16
