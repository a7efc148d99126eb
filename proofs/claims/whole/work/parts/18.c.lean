theorem okS_RX3_252_X3_bitsOf : okS RX3 252 yX3_bitsOf cX3_bitsOf 3 (some .int) 1 := okS_of qw_2_135 qw_2_136 qw_1_1 qw_2_137 (by decide +kernel)
theorem okV_RX3_248_X3_strengthOf : okV RX3 248 yX3_strengthOf cX3_strengthOf 7 (some .float) 1 := okV_of qw_2_134 qw_2_117 qw_2_118 qw_1_1 qw_2_119 (by decide +kernel)
set_option maxHeartbeats 4000000 in
set_option maxRecDepth 100000 in
theorem met_X3_bitsOf (l : Launch) {D : va_G} {cI cJ : ClassId} {M : MP} (x : UInt32) (hfb : x = FP.fconst0 ∨ ∃ E T, 1 ≤ E ∧ E ≤ 254 ∧ T < 2 ^ 23 ∧ x = fb E T) : RdI l yX3_bitsOf cX3_bitsOf 3 (some .int) 0 D cI cJ [.float x] M (flB x) := by
  rcases hfb with rfl | ⟨E, T, h1, h2, ht, rfl⟩
  · exact met_X3_bitsOf_0 l
  · exact met_X3_bitsOf_1 l E T h1 h2 ht
set_option maxHeartbeats 4000000 in
set_option maxRecDepth 100000 in
theorem met_X3_strengthBits (l : Launch) {D : va_G} {cI cJ : ClassId} {M : MP} {A : Nat → Prop} {sz : Nat} (xo fr tr pg : Nat) (su : Bool) (bf af : Value) (nu ca qu ve : Nat) (po okk pt : Nat) (K : Nat → BitVec 64) (pp : Nat → Int32) (w bk : BitVec 64) (wa : Bool) (b : Bool) (hxo : M xo = some (.inr (2, [.ref fr, .ref tr, .ref pg, .int (bI su)]))) (hpg : M pg = some (.inr (0, [.ref po, bf, .int (nI nu), af, .int (nI ca), .int (nI qu), .int (nI ve)]))) (hpo : M po = some (.inr (1, [.ref okk, .ref pt, .long (bL w), .long (bL bk), .int (bI wa)]))) (hokk : M okk = some (eJ cJ 7 (fun ζ => bL (K ζ)))) (hpt : M pt = some (eI cI 64 pp)) (hst : KStOk K pp w bk b) (hfb : kSth K pp w bk b = FP.fconst0 ∨ ∃ E T, 1 ≤ E ∧ E ≤ 254 ∧ T < 2 ^ 23 ∧ kSth K pp w bk b = fb E T) : Wr l yX3_strengthBits cX3_strengthBits 2 (some .int) 4 0 0 D cI cJ [.ref xo, .int (bI b)] M sz A (some (.int (flB (kSth K pp w bk b)))) (fun M' => M' = M) := by
  refine wr_start (by decide) (Nat.le_of_ble_eq_true rfl) ?_
  intro p e s m args below meth c hx hb hr hml hown hts hlk hini hK hsz H hH0 hM hS ls hl
  clear hH0
  have hl : lv_has ls 2 [(0, .ref xo), (1, .int (bI b))] := hl
  refine lv_aload_n hx hb dX3_strengthBits_0 rfl (lv_at hl 0 rfl) ?_
  refine lv_iload_n hx hb dX3_strengthBits_1 rfl (lv_at hl 1 rfl) ?_
  refine wr_go0 (wr_runV (As := [.int (bI b)]) (rest := []) hx hb hml hown hts hK hM okV_RX3_248_X3_strengthOf (met_X3_strengthOf l xo fr tr pg su bf af nu ca qu ve po okk pt K pp w bk wa b hxo hpg hpo hokk hpt (by omega)) hxo rfl rfl rfl ⟨Nat.le_of_ble_eq_true rfl, Nat.le_of_ble_eq_true rfl⟩ hl.1 rfl (Nat.le_of_ble_eq_true rfl) dX3_strengthBits_2 ⟨Nat.le_refl _, Nat.le_refl _⟩) hS (fun M1 H locs hR hM hS => ?_)
  rw [show M1 = M from hR] at hM
  refine rd_goI (rd_runS (As := [.float (kSth K pp w bk b)]) (rest := []) hx hb hml hown hts hK hM okS_RX3_252_X3_bitsOf (met_X3_bitsOf l (kSth K pp w bk b) (by omega)) rfl ⟨Nat.le_of_ble_eq_true rfl, Nat.le_of_ble_eq_true rfl⟩ hl.1 rfl (Nat.le_of_ble_eq_true rfl) dX3_strengthBits_5 ⟨Nat.le_refl _, Nat.le_refl _⟩) ?_
  exact wr_ireturn hx hb hr hlk hM hS (Nat.le_refl _) (Nat.le_refl _) rfl rfl dX3_strengthBits_8
set_option maxHeartbeats 4000000 in
set_option maxRecDepth 100000 in
theorem met_X3_balance (l : Launch) {D : va_G} {cI cJ : ClassId} {M : MP} {A : Nat → Prop} {sz : Nat} (xo fr tr pg : Nat) (su : Bool) (bf af : Value) (nu ca qu ve : Nat) (po okk pt : Nat) (K : Nat → BitVec 64) (pp : Nat → Int32) (w bk : BitVec 64) (wa : Bool)  (hxo : M xo = some (.inr (2, [.ref fr, .ref tr, .ref pg, .int (bI su)]))) (hpg : M pg = some (.inr (0, [.ref po, bf, .int (nI nu), af, .int (nI ca), .int (nI qu), .int (nI ve)]))) (hpo : M po = some (.inr (1, [.ref okk, .ref pt, .long (bL w), .long (bL bk), .int (bI wa)]))) (hokk : M okk = some (eJ cJ 7 (fun ζ => bL (K ζ)))) (hpt : M pt = some (eI cI 64 pp)) (hst : KStOk K pp w bk true) (hst2 : KStOk K pp w bk false) (hd1 : vf_n64 (FP.f2d (kSth K pp w bk true))) (hd2 : vf_n64 (FP.f2d (kSth K pp w bk false))) (hd3 : vf_n64 (FP.dsub (FP.f2d (kSth K pp w bk true)) (FP.f2d (kSth K pp w bk false)))) : Wr l yX3_balance cX3_balance 1 (some .double) 4 0 0 D cI cJ [.ref xo] M sz A (some (.double (FP.dsub (FP.f2d (kSth K pp w bk true)) (FP.f2d (kSth K pp w bk false))))) (fun M' => M' = M) := by
  refine wr_start (by decide) (Nat.le_of_ble_eq_true rfl) ?_
  intro p e s m args below meth c hx hb hr hml hown hts hlk hini hK hsz H hH0 hM hS ls hl
  clear hH0
  have hl : lv_has ls 1 [(0, .ref xo)] := hl
  refine lv_aload_n hx hb dX3_balance_0 rfl (lv_at hl 0 rfl) ?_
  refine lv_iconst (v := nI 1) hx hb dX3_balance_1 (by decide) ?_
  refine wr_go0 (wr_runV (As := [.int (bI true)]) (rest := []) hx hb hml hown hts hK hM okV_RX3_248_X3_strengthOf (met_X3_strengthOf l xo fr tr pg su bf af nu ca qu ve po okk pt K pp w bk wa true hxo hpg hpo hokk hpt hst) hxo rfl rfl rfl ⟨Nat.le_of_ble_eq_true rfl, Nat.le_of_ble_eq_true rfl⟩ hl.1 rfl (Nat.le_of_ble_eq_true rfl) dX3_balance_2 ⟨Nat.le_refl _, Nat.le_refl _⟩) hS (fun M1 H locs hR hM hS => ?_)
  rw [show M1 = M from hR] at hM
  refine lv_f2d hx hb dX3_balance_5 hd1 ?_
  refine lv_aload_n hx hb dX3_balance_6 rfl (lv_at hl 0 rfl) ?_
  refine lv_iconst (v := nI 0) hx hb dX3_balance_7 (by decide) ?_
  refine wr_go0 (wr_runV (As := [.int (bI false)]) (rest := [.double (FP.f2d (kSth K pp w bk true))]) hx hb hml hown hts hK hM okV_RX3_248_X3_strengthOf (met_X3_strengthOf l xo fr tr pg su bf af nu ca qu ve po okk pt K pp w bk wa false hxo hpg hpo hokk hpt hst2) hxo rfl rfl rfl ⟨Nat.le_of_ble_eq_true rfl, Nat.le_of_ble_eq_true rfl⟩ hl.1 rfl (Nat.le_of_ble_eq_true rfl) dX3_balance_8 ⟨Nat.le_refl _, Nat.le_refl _⟩) hS (fun M1 H locs hR hM hS => ?_)
  rw [show M1 = M from hR] at hM
  refine lv_f2d hx hb dX3_balance_11 hd2 ?_
  refine lv_dsub hx hb dX3_balance_12 hd3 ?_
  exact wr_dreturn hx hb hr hlk hM hS (Nat.le_refl _) (Nat.le_refl _) rfl rfl dX3_balance_13
