set_option maxHeartbeats 4000000 in
set_option maxRecDepth 100000 in
theorem met_X3_bitsOf_0 (l : Launch) {D : va_G} {cI cJ : ClassId} {M : MP}  : RdI l yX3_bitsOf cX3_bitsOf 3 (some .int) 0 D cI cJ [.float FP.fconst0] M (nI 0) := by
  refine rd_start (by decide) (Nat.le_of_ble_eq_true rfl) ?_
  intro p e s m args below meth c hx hb hr hml hown hts hlk hK hM ls hl
  have hl : lv_has ls 3 [(0, .float FP.fconst0)] := hl
  refine lv_fload_n hx hb dX3_bitsOf_0 rfl (lv_at hl 0 rfl) ?_
  refine lv_fconst0 hx hb dX3_bitsOf_1 ?_
  refine lv_fcmp hx hb dX3_bitsOf_2 ?_
  refine topi (nI 0) (by decide +kernel) ?_
  refine lv_if_gt (tgt := 8) hx hb dX3_bitsOf_3 (by decide) (fun c_3 => ?_) (fun c_3 => ?_)
  · skip
    exact absurd c_3 (by decide)
  · skip
    refine lv_iconst (v := nI 0) hx hb dX3_bitsOf_6 (by decide) ?_
    exact rd_ireturn hx hb hr hlk rfl dX3_bitsOf_7
set_option maxHeartbeats 4000000 in
set_option maxRecDepth 100000 in
theorem met_X3_bitsOf_1 (l : Launch) {D : va_G} {cI cJ : ClassId} {M : MP} (E T : Nat) (h1 : 1 ≤ E) (h2 : E ≤ 254) (ht : T < 2 ^ 23) : RdI l yX3_bitsOf cX3_bitsOf 3 (some .int) 0 D cI cJ [.float (fb E T)] M (flB (fb E T)) := by
  refine rd_start (by decide) (Nat.le_of_ble_eq_true rfl) ?_
  intro p e s m args below meth c hx hb hr hml hown hts hlk hK hM ls hl
  have hl : lv_has ls 3 [(0, .float (fb E T))] := hl
  refine lv_fload_n hx hb dX3_bitsOf_0 rfl (lv_at hl 0 rfl) ?_
  refine lv_fconst0 hx hb dX3_bitsOf_1 ?_
  refine lv_fcmp hx hb dX3_bitsOf_2 ?_
  refine topi (nI 1) (fb_pos h1 h2 ht) ?_
  refine lv_if_gt (tgt := 8) hx hb dX3_bitsOf_3 (by decide) (fun c_3 => ?_) (fun c_3 => ?_)
  · skip
    refine lv_bipush (v := nI 127) hx hb dX3_bitsOf_8 (by decide) ?_
    refine lv_istore_n (lv' := [(1, .int (nI 127)), (0, .float (fb E T))]) hx hb dX3_bitsOf_10 rfl hl (by decide) rfl (fun ls hl => ?_)
    refine lv_fload_n hx hb dX3_bitsOf_11 rfl (lv_at hl 1 rfl) ?_
    refine lv_fstore_n (lv' := [(2, .float (fb E T)), (1, .int (nI 127)), (0, .float (fb E T))]) hx hb dX3_bitsOf_12 rfl hl (by decide) rfl (fun ls hl => ?_)
    refine loopR (pcH := 13) (st := []) (ι := Nat × Nat) (fun ξ => [(2, .float (fb (ξ.2) T)), (1, .int (nI (ξ.1))), (0, .float (fb E T))]) (fun n ξ => (ξ.1) + (ξ.2) = 127 + E ∧ (1 ≤ (ξ.2) ∧ ((ξ.2) ≤ 254 ∧ (ξ.2) ≤ 127 + n))) ?_ ?_ E (127, E) (⟨by first | omega | (dsimp only <;> omega), by first | omega | (dsimp only <;> omega), by first | omega | (dsimp only <;> omega), by first | omega | (dsimp only <;> omega)⟩) ls (lv_sub hl [0,1,2] rfl)
    · rintro ⟨e1, x⟩ ⟨hi, hx1, hx2, hxn⟩ ls hl
      try dsimp only at hl hi hx1 hx2 hxn
      refine lv_fload_n hx hb dX3_bitsOf_13 rfl (lv_at hl 0 rfl) ?_
      refine lv_fconst2 hx hb dX3_bitsOf_14 ?_
      refine lv_fcmp hx hb dX3_bitsOf_15 ?_
      have hE : x < 128 := by omega
      refine topi (-1) (fb_lt hx1 hx2 ht two_val (by omega)) ?_
      refine lv_if_lt (tgt := 36) hx hb dX3_bitsOf_16 (by decide) (fun _ => ?_) (fun h => absurd (by decide) h)
      refine loopR (pcH := 36) (st := []) (ι := Nat × Nat) (fun ξ => [(2, .float (fb (ξ.2) T)), (1, .int (nI (ξ.1))), (0, .float (fb E T))]) (fun n ξ => (ξ.1) + (ξ.2) = 127 + E ∧ (1 ≤ (ξ.2) ∧ ((ξ.2) ≤ 127 ∧ 127 ≤ (ξ.2) + n))) ?_ ?_ 127 (e1, x) (⟨by first | omega | (dsimp only <;> omega), by first | omega | (dsimp only <;> omega), by first | omega | (dsimp only <;> omega), by first | omega | (dsimp only <;> omega)⟩) ls (lv_sub hl [0,1,2] rfl)
      · rintro ⟨e2, x2⟩ ⟨hj, hy1, hy2, hyn⟩ ls hl
        try dsimp only at hl hj hy1 hy2 hyn
        refine lv_fload_n hx hb dX3_bitsOf_36 rfl (lv_at hl 0 rfl) ?_
        refine lv_fconst1 hx hb dX3_bitsOf_37 ?_
        refine lv_fcmp hx hb dX3_bitsOf_38 ?_
        have hE : 127 ≤ x2 := by omega
        obtain ⟨nn, hnn, enn⟩ := fb_ge (op := .g) hy1 (by omega) ht one_val (by omega)
        refine topi (nI nn) enn ?_
        refine n0_ge (tgt := 57) hx hb nn (by omega) dX3_bitsOf_39 (by decide) ?_
        have he9 : e2 = E := by omega
        have hx9 : x2 = 127 := by omega
        rw [he9, hx9] at hl
        refine lv_iload_n hx hb dX3_bitsOf_57 rfl (lv_at hl 1 rfl) ?_
        refine lv_bipush (v := nI 23) hx hb dX3_bitsOf_58 (by decide) ?_
        refine lv_ishl hx hb dX3_bitsOf_60 ?_
        refine lv_fload_n hx hb dX3_bitsOf_61 rfl (lv_at hl 0 rfl) ?_
        refine lv_fconst1 hx hb dX3_bitsOf_62 ?_
        refine lv_fsub hx hb dX3_bitsOf_63 (fb_sub_nn ht) ?_
        refine w_ldcwf (v := 1258291200) hx hb hown (hts _ qw_2_138) dX3_bitsOf_64 ?_
        refine lv_fmul hx hb dX3_bitsOf_67 (nn_of (fb_tail ht).2) ?_
        refine lv_f2i hx hb dX3_bitsOf_68 ?_
        refine lv_iadd hx hb dX3_bitsOf_69 ?_
        exact rd_ireturn hx hb hr hlk (by rw [(fb_tail ht).1]; exact fb_bits h2 ht) dX3_bitsOf_70
      · rintro n ih2 ⟨e2, x2⟩ ⟨hj, hy1, hy2, hyn⟩ ls hl
        try dsimp only at hl hj hy1 hy2 hyn
        refine lv_fload_n hx hb dX3_bitsOf_36 rfl (lv_at hl 0 rfl) ?_
        refine lv_fconst1 hx hb dX3_bitsOf_37 ?_
        refine lv_fcmp hx hb dX3_bitsOf_38 ?_
        rcases Nat.lt_or_ge x2 127 with hE | hE
        · refine topi (-1) (fb_lt hy1 (by omega) ht one_val (by omega)) ?_
          refine lv_if_ge (tgt := 57) hx hb dX3_bitsOf_39 (by decide) (fun h => absurd h (by decide)) (fun _ => ?_)
          refine lv_iload_n hx hb dX3_bitsOf_42 rfl (lv_at hl 1 rfl) ?_
          refine lv_iconst (v := nI 1) hx hb dX3_bitsOf_43 (by decide) ?_
          refine ni_le (tgt := 57) hx hb e2 1 (by omega) (by omega) dX3_bitsOf_44 (by decide) (fun c_44 => ?_) (fun c_44 => ?_)
          · skip
            exfalso; omega
          · skip
            refine lv_fload_n hx hb dX3_bitsOf_47 rfl (lv_at hl 0 rfl) ?_
            refine lv_fconst2 hx hb dX3_bitsOf_48 ?_
            refine lv_fmul hx hb dX3_bitsOf_49 (by rw [fb_mul hy1 (by omega) ht]; exact fb_nn (by omega) (by omega) ht) ?_
            refine topf (fb (x2 + 1) T) (fb_mul hy1 (by omega) ht) ?_
            refine lv_fstore_n (lv' := [(2, .float (fb (x2 + 1) T)), (1, .int (nI e2)), (0, .float (fb E T))]) hx hb dX3_bitsOf_50 rfl hl (by decide) rfl (fun ls hl => ?_)
            refine lv_iinc (v := nI (e2 - 1)) (lv' := [(1, .int (nI (e2 - 1))), (2, .float (fb (x2 + 1) T)), (0, .float (fb E T))]) hx hb dX3_bitsOf_51 hl (k := 1) rfl (by rw [show Int32.ofInt (-1) = -nI 1 from by decide, ← Int32.sub_eq_add_neg, pk_sub (by omega)]) (by decide) rfl (fun ls hl => ?_)
            refine lv_goto (tgt := 36) hx hb dX3_bitsOf_54 (by decide) ?_
            exact ih2 (e2 - 1, x2 + 1) ⟨by first | omega | (dsimp only <;> omega), by first | omega | (dsimp only <;> omega), by first | omega | (dsimp only <;> omega), by first | omega | (dsimp only <;> omega)⟩ ls (lv_sub hl [1,0,2] rfl)
        · skip
          obtain ⟨nn, hnn, enn⟩ := fb_ge (op := .g) hy1 (by omega) ht one_val (by omega)
          refine topi (nI nn) enn ?_
          refine n0_ge (tgt := 57) hx hb nn (by omega) dX3_bitsOf_39 (by decide) ?_
          have he9 : e2 = E := by omega
          have hx9 : x2 = 127 := by omega
          rw [he9, hx9] at hl
          refine lv_iload_n hx hb dX3_bitsOf_57 rfl (lv_at hl 1 rfl) ?_
          refine lv_bipush (v := nI 23) hx hb dX3_bitsOf_58 (by decide) ?_
          refine lv_ishl hx hb dX3_bitsOf_60 ?_
          refine lv_fload_n hx hb dX3_bitsOf_61 rfl (lv_at hl 0 rfl) ?_
          refine lv_fconst1 hx hb dX3_bitsOf_62 ?_
          refine lv_fsub hx hb dX3_bitsOf_63 (fb_sub_nn ht) ?_
          refine w_ldcwf (v := 1258291200) hx hb hown (hts _ qw_2_138) dX3_bitsOf_64 ?_
          refine lv_fmul hx hb dX3_bitsOf_67 (nn_of (fb_tail ht).2) ?_
          refine lv_f2i hx hb dX3_bitsOf_68 ?_
          refine lv_iadd hx hb dX3_bitsOf_69 ?_
          exact rd_ireturn hx hb hr hlk (by rw [(fb_tail ht).1]; exact fb_bits h2 ht) dX3_bitsOf_70
    · rintro n ih ⟨e1, x⟩ ⟨hi, hx1, hx2, hxn⟩ ls hl
      try dsimp only at hl hi hx1 hx2 hxn
      refine lv_fload_n hx hb dX3_bitsOf_13 rfl (lv_at hl 0 rfl) ?_
      refine lv_fconst2 hx hb dX3_bitsOf_14 ?_
      refine lv_fcmp hx hb dX3_bitsOf_15 ?_
      rcases Nat.lt_or_ge x 128 with hE | hE
      · skip
        refine topi (-1) (fb_lt hx1 hx2 ht two_val (by omega)) ?_
        refine lv_if_lt (tgt := 36) hx hb dX3_bitsOf_16 (by decide) (fun _ => ?_) (fun h => absurd (by decide) h)
        refine loopR (pcH := 36) (st := []) (ι := Nat × Nat) (fun ξ => [(2, .float (fb (ξ.2) T)), (1, .int (nI (ξ.1))), (0, .float (fb E T))]) (fun n ξ => (ξ.1) + (ξ.2) = 127 + E ∧ (1 ≤ (ξ.2) ∧ ((ξ.2) ≤ 127 ∧ 127 ≤ (ξ.2) + n))) ?_ ?_ 127 (e1, x) (⟨by first | omega | (dsimp only <;> omega), by first | omega | (dsimp only <;> omega), by first | omega | (dsimp only <;> omega), by first | omega | (dsimp only <;> omega)⟩) ls (lv_sub hl [0,1,2] rfl)
        · rintro ⟨e2, x2⟩ ⟨hj, hy1, hy2, hyn⟩ ls hl
          try dsimp only at hl hj hy1 hy2 hyn
          refine lv_fload_n hx hb dX3_bitsOf_36 rfl (lv_at hl 0 rfl) ?_
          refine lv_fconst1 hx hb dX3_bitsOf_37 ?_
          refine lv_fcmp hx hb dX3_bitsOf_38 ?_
          have hE : 127 ≤ x2 := by omega
          obtain ⟨nn, hnn, enn⟩ := fb_ge (op := .g) hy1 (by omega) ht one_val (by omega)
          refine topi (nI nn) enn ?_
          refine n0_ge (tgt := 57) hx hb nn (by omega) dX3_bitsOf_39 (by decide) ?_
          have he9 : e2 = E := by omega
          have hx9 : x2 = 127 := by omega
          rw [he9, hx9] at hl
          refine lv_iload_n hx hb dX3_bitsOf_57 rfl (lv_at hl 1 rfl) ?_
          refine lv_bipush (v := nI 23) hx hb dX3_bitsOf_58 (by decide) ?_
          refine lv_ishl hx hb dX3_bitsOf_60 ?_
          refine lv_fload_n hx hb dX3_bitsOf_61 rfl (lv_at hl 0 rfl) ?_
          refine lv_fconst1 hx hb dX3_bitsOf_62 ?_
          refine lv_fsub hx hb dX3_bitsOf_63 (fb_sub_nn ht) ?_
          refine w_ldcwf (v := 1258291200) hx hb hown (hts _ qw_2_138) dX3_bitsOf_64 ?_
          refine lv_fmul hx hb dX3_bitsOf_67 (nn_of (fb_tail ht).2) ?_
          refine lv_f2i hx hb dX3_bitsOf_68 ?_
          refine lv_iadd hx hb dX3_bitsOf_69 ?_
          exact rd_ireturn hx hb hr hlk (by rw [(fb_tail ht).1]; exact fb_bits h2 ht) dX3_bitsOf_70
        · rintro n ih2 ⟨e2, x2⟩ ⟨hj, hy1, hy2, hyn⟩ ls hl
          try dsimp only at hl hj hy1 hy2 hyn
          refine lv_fload_n hx hb dX3_bitsOf_36 rfl (lv_at hl 0 rfl) ?_
          refine lv_fconst1 hx hb dX3_bitsOf_37 ?_
          refine lv_fcmp hx hb dX3_bitsOf_38 ?_
          rcases Nat.lt_or_ge x2 127 with hE | hE
          · refine topi (-1) (fb_lt hy1 (by omega) ht one_val (by omega)) ?_
            refine lv_if_ge (tgt := 57) hx hb dX3_bitsOf_39 (by decide) (fun h => absurd h (by decide)) (fun _ => ?_)
            refine lv_iload_n hx hb dX3_bitsOf_42 rfl (lv_at hl 1 rfl) ?_
            refine lv_iconst (v := nI 1) hx hb dX3_bitsOf_43 (by decide) ?_
            refine ni_le (tgt := 57) hx hb e2 1 (by omega) (by omega) dX3_bitsOf_44 (by decide) (fun c_44 => ?_) (fun c_44 => ?_)
            · skip
              exfalso; omega
            · skip
              refine lv_fload_n hx hb dX3_bitsOf_47 rfl (lv_at hl 0 rfl) ?_
              refine lv_fconst2 hx hb dX3_bitsOf_48 ?_
              refine lv_fmul hx hb dX3_bitsOf_49 (by rw [fb_mul hy1 (by omega) ht]; exact fb_nn (by omega) (by omega) ht) ?_
              refine topf (fb (x2 + 1) T) (fb_mul hy1 (by omega) ht) ?_
              refine lv_fstore_n (lv' := [(2, .float (fb (x2 + 1) T)), (1, .int (nI e2)), (0, .float (fb E T))]) hx hb dX3_bitsOf_50 rfl hl (by decide) rfl (fun ls hl => ?_)
              refine lv_iinc (v := nI (e2 - 1)) (lv' := [(1, .int (nI (e2 - 1))), (2, .float (fb (x2 + 1) T)), (0, .float (fb E T))]) hx hb dX3_bitsOf_51 hl (k := 1) rfl (by rw [show Int32.ofInt (-1) = -nI 1 from by decide, ← Int32.sub_eq_add_neg, pk_sub (by omega)]) (by decide) rfl (fun ls hl => ?_)
              refine lv_goto (tgt := 36) hx hb dX3_bitsOf_54 (by decide) ?_
              exact ih2 (e2 - 1, x2 + 1) ⟨by first | omega | (dsimp only <;> omega), by first | omega | (dsimp only <;> omega), by first | omega | (dsimp only <;> omega), by first | omega | (dsimp only <;> omega)⟩ ls (lv_sub hl [1,0,2] rfl)
          · skip
            obtain ⟨nn, hnn, enn⟩ := fb_ge (op := .g) hy1 (by omega) ht one_val (by omega)
            refine topi (nI nn) enn ?_
            refine n0_ge (tgt := 57) hx hb nn (by omega) dX3_bitsOf_39 (by decide) ?_
            have he9 : e2 = E := by omega
            have hx9 : x2 = 127 := by omega
            rw [he9, hx9] at hl
            refine lv_iload_n hx hb dX3_bitsOf_57 rfl (lv_at hl 1 rfl) ?_
            refine lv_bipush (v := nI 23) hx hb dX3_bitsOf_58 (by decide) ?_
            refine lv_ishl hx hb dX3_bitsOf_60 ?_
            refine lv_fload_n hx hb dX3_bitsOf_61 rfl (lv_at hl 0 rfl) ?_
            refine lv_fconst1 hx hb dX3_bitsOf_62 ?_
            refine lv_fsub hx hb dX3_bitsOf_63 (fb_sub_nn ht) ?_
            refine w_ldcwf (v := 1258291200) hx hb hown (hts _ qw_2_138) dX3_bitsOf_64 ?_
            refine lv_fmul hx hb dX3_bitsOf_67 (nn_of (fb_tail ht).2) ?_
            refine lv_f2i hx hb dX3_bitsOf_68 ?_
            refine lv_iadd hx hb dX3_bitsOf_69 ?_
            exact rd_ireturn hx hb hr hlk (by rw [(fb_tail ht).1]; exact fb_bits h2 ht) dX3_bitsOf_70
      · obtain ⟨nn, hnn, enn⟩ := fb_ge (op := .l) hx1 hx2 ht two_val (by omega)
        refine topi (nI nn) enn ?_
        refine n0_lt (tgt := 36) hx hb nn (by omega) dX3_bitsOf_16 (by decide) ?_
        refine lv_iload_n hx hb dX3_bitsOf_19 rfl (lv_at hl 1 rfl) ?_
        refine lv_sipush (v := nI 254) hx hb dX3_bitsOf_20 (by decide) ?_
        refine ni_ge (tgt := 36) hx hb e1 254 (by omega) (by omega) dX3_bitsOf_23 (by decide) (fun c_23 => ?_) (fun c_23 => ?_)
        · skip
          exfalso; omega
        · skip
          refine lv_fload_n hx hb dX3_bitsOf_26 rfl (lv_at hl 0 rfl) ?_
          refine lv_fconst2 hx hb dX3_bitsOf_27 ?_
          refine lv_fdiv hx hb dX3_bitsOf_28 (by rw [fb_div (by omega) hx2 ht]; exact fb_nn (by omega) (by omega) ht) ?_
          refine topf (fb (x - 1) T) (fb_div (by omega) hx2 ht) ?_
          refine lv_fstore_n (lv' := [(2, .float (fb (x - 1) T)), (1, .int (nI e1)), (0, .float (fb E T))]) hx hb dX3_bitsOf_29 rfl hl (by decide) rfl (fun ls hl => ?_)
          refine ni_iinc (lv' := [(1, .int (nI (e1 + 1))), (2, .float (fb (x - 1) T)), (0, .float (fb E T))]) hx hb e1 1 dX3_bitsOf_30 hl (k := 1) rfl (by decide) (by decide) rfl (fun ls hl => ?_)
          refine lv_goto (tgt := 13) hx hb dX3_bitsOf_33 (by decide) ?_
          exact ih (e1 + 1, x - 1) ⟨by first | omega | (dsimp only <;> omega), by first | omega | (dsimp only <;> omega), by first | omega | (dsimp only <;> omega), by first | omega | (dsimp only <;> omega)⟩ ls (lv_sub hl [1,0,2] rfl)
  · skip
    exact absurd (by decide) c_3
