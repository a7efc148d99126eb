theorem okS_RX4_52_X4_isLeap : okS RX4 52 yX4_isLeap cX4_isLeap 2 (some .boolean) 2 := okS_of qw_3_218 qw_3_219 qw_1_5 qw_3_220 (by decide +kernel)
theorem okV_RX4_31_X4_findLeaps : okV RX4 31 yX4_findLeaps cX4_findLeaps 4 none 0 := okV_of qw_3_214 qw_3_216 qw_0_8 qw_1_5 qw_3_217 (by decide +kernel)
set_option maxHeartbeats 4000000 in
set_option maxRecDepth 100000 in
theorem met_X4_findLeaps (l : Launch) {D : va_G} {cI cJ : ClassId} {M : MP} {A : Nat → Prop} {sz : Nat} (mo ro no fi se t3 le od th ac oc : Nat) (su : Bool) (h : Nat → Int32) (hmo : M mo = some (.inr (3, [.int (nI th), .int (bI su), .ref ro, .int (nI ac), .int (nI oc), .ref no, .ref fi, .ref se, .ref t3, .ref le, .ref od]))) (hle : M le = some (eI cI 4096 h)) (hA_le : A le) : Wr l yX4_findLeaps cX4_findLeaps 4 none 2 0 0 D cI cJ [.ref mo] M sz A none (fun M' => ∃ lf : Nat → Int32, WfL lf ∧ M' = mu M le (eI cI 4096 lf)) := by
  refine wr_start (by decide) (Nat.le_of_ble_eq_true rfl) ?_
  intro p e s m args below meth c hx hb hr hml hown hts hlk hini hK hsz H hH0 hM hS ls hl
  clear hH0
  have hl : lv_has ls 4 [(0, .ref mo)] := hl
  refine lv_iconst (v := nI 0) hx hb dX4_findLeaps_0 (by decide) ?_
  refine lv_istore_n (lv' := [(1, .int (nI 0)), (0, .ref mo)]) hx hb dX4_findLeaps_1 rfl hl (by decide) rfl (fun ls hl => ?_)
  rw [← mu_id (a := le) (e := eI cI 4096 h) hle] at hM
  refine loopW (pcH := 2) (st := []) (ι := Nat × (Nat → Int32)) (fun ξ => mu M le (eI cI 4096 (ξ.2))) (fun ξ => [(1, .int (nI (ξ.1))), (0, .ref mo)]) (fun n ξ => (ξ.1) + n = 4096 ∧ ∀ q, q < (ξ.1) → (ξ.2) q = nI (lv0 q)) ?_ ?_ 4096 (0, h) ⟨by omega, fun q hq => absurd hq (Nat.not_lt_zero _)⟩ hM hS ls (lv_sub hl [0,1] rfl)
  · rintro ⟨k, ga⟩ ⟨hi0, ha0⟩ H locs hM hS ls hl
    try dsimp only at hl hi0 ha0 hM
    refine lv_iload_n hx hb dX4_findLeaps_2 rfl (lv_at hl 0 rfl) ?_
    refine lv_sipush (v := nI 4096) hx hb dX4_findLeaps_3 (by decide) ?_
    refine ni_ge (tgt := 38) hx hb k 4096 (by omega) (by omega) dX4_findLeaps_6 (by decide) (fun c_6 => ?_) (fun c_6 => ?_)
    · skip
      refine lv_iconst (v := nI 1) hx hb dX4_findLeaps_38 (by decide) ?_
      refine lv_istore_n (lv' := [(1, .int (nI 1)), (0, .ref mo)]) hx hb dX4_findLeaps_39 rfl hl (by decide) rfl (fun ls hl => ?_)
      refine loopW (pcH := 40) (st := []) (ι := Nat × (Nat → Int32)) (fun ξ => mu M le (eI cI 4096 (ξ.2))) (fun ξ => [(1, .int (nI ((ξ.1) + 1))), (0, .ref mo)]) (fun n ξ => (ξ.1) + n = 6 ∧ ∀ q, q < 4096 → (ξ.2) q = nI (lvN (ξ.1) q)) ?_ ?_ 6 (0, ga) ⟨by omega, fun q hq => ha0 q (by omega)⟩ hM hS ls (lv_sub hl [0,1] rfl)
      · rintro ⟨m, ga1⟩ ⟨hi1, ha1⟩ H locs hM hS ls hl
        try dsimp only at hl hi1 ha1 hM
        refine lv_iload_n hx hb dX4_findLeaps_40 rfl (lv_at hl 0 rfl) ?_
        refine lv_bipush (v := nI 6) hx hb dX4_findLeaps_41 (by decide) ?_
        refine ni_gt (tgt := 139) hx hb (m + 1) 6 (by omega) (by omega) dX4_findLeaps_43 (by decide) (fun c_43 => ?_) (fun c_43 => ?_)
        · skip
          exact wr_return hx hb hr hlk hM hS (Nat.le_refl _) (Nat.le_refl _) ⟨_, lvN_wf (fun k hk => by have hz := ha1 k hk; rw [show m = 6 by omega] at hz; exact hz), rfl⟩ dX4_findLeaps_139
        · skip
          exfalso; omega
      · rintro n ih1 ⟨m, ga1⟩ ⟨hi1, ha1⟩ H locs hM hS ls hl
        try dsimp only at hl hi1 ha1 hM
        refine lv_iload_n hx hb dX4_findLeaps_40 rfl (lv_at hl 0 rfl) ?_
        refine lv_bipush (v := nI 6) hx hb dX4_findLeaps_41 (by decide) ?_
        refine ni_gt (tgt := 139) hx hb (m + 1) 6 (by omega) (by omega) dX4_findLeaps_43 (by decide) (fun c_43 => ?_) (fun c_43 => ?_)
        · skip
          exfalso; omega
        · skip
          refine lv_iconst (v := nI 0) hx hb dX4_findLeaps_46 (by decide) ?_
          refine lv_istore_n (lv' := [(2, .int (nI 0)), (1, .int (nI (m + 1))), (0, .ref mo)]) hx hb dX4_findLeaps_47 rfl hl (by decide) rfl (fun ls hl => ?_)
          refine loopW (pcH := 48) (st := []) (ι := Nat × (Nat → Int32)) (fun ξ => mu M le (eI cI 4096 (ξ.2))) (fun ξ => [(2, .int (nI (ξ.1))), (1, .int (nI (m + 1))), (0, .ref mo)]) (fun n ξ => (ξ.1) + n = 4096 ∧ ∀ q, q < 4096 → (ξ.2) q = nI (if q < (ξ.1) then lvN (m + 1) q else lvN m q)) ?_ ?_ 4096 (0, ga1) ⟨by omega, fun q hq => by rw [if_neg (Nat.not_lt_zero _)]; exact ha1 q hq⟩ hM hS ls (lv_sub hl [0,1,2] rfl)
          · rintro ⟨k, gb⟩ ⟨hi2, hb1⟩ H locs hM hS ls hl
            try dsimp only at hl hi2 hb1 hM
            refine lv_iload_n hx hb dX4_findLeaps_48 rfl (lv_at hl 0 rfl) ?_
            refine lv_sipush (v := nI 4096) hx hb dX4_findLeaps_49 (by decide) ?_
            refine ni_ge (tgt := 133) hx hb k 4096 (by omega) (by omega) dX4_findLeaps_52 (by decide) (fun c_52 => ?_) (fun c_52 => ?_)
            · skip
              refine ni_iinc (lv' := [(1, .int (nI ((m + 1) + 1))), (2, .int (nI k)), (0, .ref mo)]) hx hb (m + 1) 1 dX4_findLeaps_133 hl (k := 1) rfl (by decide) (by decide) rfl (fun ls hl => ?_)
              refine lv_goto (tgt := 40) hx hb dX4_findLeaps_136 (by decide) ?_
              exact ih1 (m + 1, gb) ⟨by omega, fun q hq => by have hz := hb1 q hq; rw [if_pos (by omega)] at hz; exact hz⟩ _ _ hM hS ls (lv_sub hl [0,2] rfl)
            · skip
              exfalso; omega
          · rintro n ih2 ⟨k, gb⟩ ⟨hi2, hb1⟩ H locs hM hS ls hl
            try dsimp only at hl hi2 hb1 hM
            refine lv_iload_n hx hb dX4_findLeaps_48 rfl (lv_at hl 0 rfl) ?_
            refine lv_sipush (v := nI 4096) hx hb dX4_findLeaps_49 (by decide) ?_
            refine ni_ge (tgt := 133) hx hb k 4096 (by omega) (by omega) dX4_findLeaps_52 (by decide) (fun c_52 => ?_) (fun c_52 => ?_)
            · skip
              exfalso; omega
            · skip
              refine lv_iconst (v := nI 0) hx hb dX4_findLeaps_55 (by decide) ?_
              refine lv_istore_n (lv' := [(3, .int (nI 0)), (2, .int (nI k)), (1, .int (nI (m + 1))), (0, .ref mo)]) hx hb dX4_findLeaps_56 rfl hl (by decide) rfl (fun ls hl => ?_)
              refine loopW (pcH := 57) (st := []) (ι := Nat × (Nat → Int32)) (fun ξ => mu M le (eI cI 4096 (ξ.2))) (fun ξ => [(3, .int (nI (ξ.1))), (2, .int (nI k)), (1, .int (nI (m + 1))), (0, .ref mo)]) (fun n ξ => (ξ.1) + n = 64 ∧ LvI m k (ξ.1) (ξ.2)) ?_ ?_ 64 (0, gb) ⟨by omega, LvI_0 (by omega) (by omega) hb1⟩ hM hS ls (lv_sub hl [0,1,2,3] rfl)
              · rintro ⟨v, gc⟩ ⟨hi3, hc1⟩ H locs hM hS ls hl
                try dsimp only at hl hi3 hc1 hM
                refine lv_iload_n hx hb dX4_findLeaps_57 rfl (lv_at hl 0 rfl) ?_
                refine lv_bipush (v := nI 64) hx hb dX4_findLeaps_58 (by decide) ?_
                refine ni_ge (tgt := 127) hx hb v 64 (by omega) (by omega) dX4_findLeaps_60 (by decide) (fun c_60 => ?_) (fun c_60 => ?_)
                · skip
                  refine ni_iinc (lv' := [(2, .int (nI (k + 1))), (3, .int (nI v)), (1, .int (nI (m + 1))), (0, .ref mo)]) hx hb k 1 dX4_findLeaps_127 hl (k := 1) rfl (by decide) (by decide) rfl (fun ls hl => ?_)
                  refine lv_goto (tgt := 48) hx hb dX4_findLeaps_130 (by decide) ?_
                  exact ih2 (k + 1, gc) ⟨by omega, LvI_64 (by omega) hc1 (by omega)⟩ _ _ hM hS ls (lv_sub hl [0,2,3] rfl)
                · skip
                  exfalso; omega
              · rintro n ih3 ⟨v, gc⟩ ⟨hi3, hc1⟩ H locs hM hS ls hl
                try dsimp only at hl hi3 hc1 hM
                refine lv_iload_n hx hb dX4_findLeaps_57 rfl (lv_at hl 0 rfl) ?_
                refine lv_bipush (v := nI 64) hx hb dX4_findLeaps_58 (by decide) ?_
                refine ni_ge (tgt := 127) hx hb v 64 (by omega) (by omega) dX4_findLeaps_60 (by decide) (fun c_60 => ?_) (fun c_60 => ?_)
                · skip
                  exfalso; omega
                · skip
                  refine lv_aload_n hx hb dX4_findLeaps_63 rfl (lv_at hl 3 rfl) ?_
                  refine w_get (C := RX4) (T := TX4) (N := 11) (ci := 3) hx hb hts hown hK hM inX4 rfl 9 (by decide) qw_4_93 rfl (mu_g (ne_oi hmo hle) hmo) rfl dX4_findLeaps_64 ?_
                  refine lv_iload_n hx hb dX4_findLeaps_67 rfl (lv_at hl 1 rfl) ?_
                  refine w_iald hx hb hK hM mu_s k (by omega) (by decide) dX4_findLeaps_68 ?_
                  refine lv_bipush (v := nI 9) hx hb dX4_findLeaps_69 (by decide) ?_
                  refine lv_icmp_ne (tgt := 127) hx hb dX4_findLeaps_71 (by decide) (fun c_71 => ?_) (fun c_71 => ?_)
                  · skip
                    refine ni_iinc (lv' := [(2, .int (nI (k + 1))), (3, .int (nI v)), (1, .int (nI (m + 1))), (0, .ref mo)]) hx hb k 1 dX4_findLeaps_127 hl (k := 1) rfl (by decide) (by decide) rfl (fun ls hl => ?_)
                    refine lv_goto (tgt := 48) hx hb dX4_findLeaps_130 (by decide) ?_
                    exact ih2 (k + 1, gc) ⟨by omega, LvI_ne hc1 c_71⟩ _ _ hM hS ls (lv_sub hl [0,2,3] rfl)
                  · skip
                    refine lv_aload_n hx hb dX4_findLeaps_74 rfl (lv_at hl 3 rfl) ?_
                    refine w_get (C := RX4) (T := TX4) (N := 11) (ci := 3) hx hb hts hown hK hM inX4 rfl 9 (by decide) qw_4_93 rfl (mu_g (ne_oi hmo hle) hmo) rfl dX4_findLeaps_75 ?_
                    refine lv_iload_n hx hb dX4_findLeaps_78 rfl (lv_at hl 1 rfl) ?_
                    refine lv_iload_n hx hb dX4_findLeaps_79 rfl (lv_at hl 0 rfl) ?_
                    refine lv_iload_n hx hb dX4_findLeaps_80 rfl (lv_at hl 1 rfl) ?_
                    refine lv_bipush (v := nI 64) hx hb dX4_findLeaps_81 (by decide) ?_
                    refine ni_rem hx hb k 64 (by omega) (by decide) (by decide) dX4_findLeaps_83 ?_
                    refine rd_goI (rd_runS (As := [.int (nI v), .int (nI (k % 64))]) (rest := [.int (nI k), .ref le]) hx hb hml hown hts hK hM okS_RX4_52_X4_isLeap (met_X4_isLeap l v (k % 64) (by omega) (by omega)) rfl ⟨Nat.le_of_ble_eq_true rfl, Nat.le_of_ble_eq_true rfl⟩ hl.1 rfl (Nat.le_of_ble_eq_true rfl) dX4_findLeaps_84 ⟨Nat.le_refl _, Nat.le_refl _⟩) ?_
                    refine zb_eq (tgt := 114) hx hb (mLeap v (k % 64)) dX4_findLeaps_87 (by decide) (fun c_87 => ?_) (fun c_87 => ?_)
                    · skip
                      refine lv_aload_n hx hb dX4_findLeaps_114 rfl (lv_at hl 3 rfl) ?_
                      refine w_get (C := RX4) (T := TX4) (N := 11) (ci := 3) hx hb hts hown hK hM inX4 rfl 9 (by decide) qw_4_93 rfl (mu_g (ne_oi hmo hle) hmo) rfl dX4_findLeaps_115 ?_
                      refine lv_iload_n hx hb dX4_findLeaps_118 rfl (lv_at hl 1 rfl) ?_
                      refine w_iald hx hb hK hM mu_s k (by omega) (by decide) dX4_findLeaps_119 ?_
                      refine w_iast hx hb hK hM hS mu_s hA_le k (by omega) (by decide) dX4_findLeaps_120 (fun H locs hM hS => ?_)
                      rw [mu_mu] at hM
                      refine ni_iinc (lv' := [(3, .int (nI (v + 1))), (2, .int (nI k)), (1, .int (nI (m + 1))), (0, .ref mo)]) hx hb v 1 dX4_findLeaps_121 hl (k := 0) rfl (by decide) (by decide) rfl (fun ls hl => ?_)
                      refine lv_goto (tgt := 57) hx hb dX4_findLeaps_124 (by decide) ?_
                      exact ih3 (v + 1, upd gc k (gc k)) ⟨by omega, LvI_no (by omega) (by omega) (by omega) hc1 c_71 (Or.inl c_87)⟩ _ _ hM hS ls (lv_sub hl [0,1,2,3] rfl)
                    · skip
                      refine lv_aload_n hx hb dX4_findLeaps_90 rfl (lv_at hl 3 rfl) ?_
                      refine w_get (C := RX4) (T := TX4) (N := 11) (ci := 3) hx hb hts hown hK hM inX4 rfl 9 (by decide) qw_4_93 rfl (mu_g (ne_oi hmo hle) hmo) rfl dX4_findLeaps_91 ?_
                      refine lv_iload_n hx hb dX4_findLeaps_94 rfl (lv_at hl 1 rfl) ?_
                      refine lv_bipush (v := nI 64) hx hb dX4_findLeaps_95 (by decide) ?_
                      refine ni_div hx hb k 64 (by omega) (by decide) (by decide) dX4_findLeaps_97 ?_
                      refine lv_bipush (v := nI 64) hx hb dX4_findLeaps_98 (by decide) ?_
                      refine ni_mul hx hb (k / 64) 64 dX4_findLeaps_100 ?_
                      refine lv_iload_n hx hb dX4_findLeaps_101 rfl (lv_at hl 0 rfl) ?_
                      refine ni_add hx hb ((k / 64) * 64) v dX4_findLeaps_102 ?_
                      refine w_iald hx hb hK hM mu_s (((k / 64) * 64) + v) (by omega) (by decide) dX4_findLeaps_103 ?_
                      refine lv_iload_n hx hb dX4_findLeaps_104 rfl (lv_at hl 2 rfl) ?_
                      refine lv_iconst (v := nI 1) hx hb dX4_findLeaps_105 (by decide) ?_
                      refine ni_sub hx hb (m + 1) 1 (by omega) dX4_findLeaps_106 ?_
                      refine lv_icmp_ne (tgt := 114) hx hb dX4_findLeaps_107 (by decide) (fun c_107 => ?_) (fun c_107 => ?_)
                      · skip
                        refine lv_aload_n hx hb dX4_findLeaps_114 rfl (lv_at hl 3 rfl) ?_
                        refine w_get (C := RX4) (T := TX4) (N := 11) (ci := 3) hx hb hts hown hK hM inX4 rfl 9 (by decide) qw_4_93 rfl (mu_g (ne_oi hmo hle) hmo) rfl dX4_findLeaps_115 ?_
                        refine lv_iload_n hx hb dX4_findLeaps_118 rfl (lv_at hl 1 rfl) ?_
                        refine w_iald hx hb hK hM mu_s k (by omega) (by decide) dX4_findLeaps_119 ?_
                        refine w_iast hx hb hK hM hS mu_s hA_le k (by omega) (by decide) dX4_findLeaps_120 (fun H locs hM hS => ?_)
                        rw [mu_mu] at hM
                        refine ni_iinc (lv' := [(3, .int (nI (v + 1))), (2, .int (nI k)), (1, .int (nI (m + 1))), (0, .ref mo)]) hx hb v 1 dX4_findLeaps_121 hl (k := 0) rfl (by decide) (by decide) rfl (fun ls hl => ?_)
                        refine lv_goto (tgt := 57) hx hb dX4_findLeaps_124 (by decide) ?_
                        exact ih3 (v + 1, upd gc k (gc k)) ⟨by omega, LvI_no (by omega) (by omega) (by omega) hc1 c_71 (Or.inr c_107)⟩ _ _ hM hS ls (lv_sub hl [0,1,2,3] rfl)
                      · skip
                        refine lv_iload_n hx hb dX4_findLeaps_110 rfl (lv_at hl 2 rfl) ?_
                        refine lv_goto (tgt := 120) hx hb dX4_findLeaps_111 (by decide) ?_
                        refine w_iast hx hb hK hM hS mu_s hA_le k (by omega) (by decide) dX4_findLeaps_120 (fun H locs hM hS => ?_)
                        rw [mu_mu] at hM
                        refine ni_iinc (lv' := [(3, .int (nI (v + 1))), (2, .int (nI k)), (1, .int (nI (m + 1))), (0, .ref mo)]) hx hb v 1 dX4_findLeaps_121 hl (k := 0) rfl (by decide) (by decide) rfl (fun ls hl => ?_)
                        refine lv_goto (tgt := 57) hx hb dX4_findLeaps_124 (by decide) ?_
                        exact ih3 (v + 1, upd gc k (nI (m + 1))) ⟨by omega, LvI_hit (by omega) (by omega) (by omega) hc1 c_71 c_87 c_107⟩ _ _ hM hS ls (lv_sub hl [0,1,2,3] rfl)
    · skip
      exfalso; omega
  · rintro n ih ⟨k, ga⟩ ⟨hi0, ha0⟩ H locs hM hS ls hl
    try dsimp only at hl hi0 ha0 hM
    refine lv_iload_n hx hb dX4_findLeaps_2 rfl (lv_at hl 0 rfl) ?_
    refine lv_sipush (v := nI 4096) hx hb dX4_findLeaps_3 (by decide) ?_
    refine ni_ge (tgt := 38) hx hb k 4096 (by omega) (by omega) dX4_findLeaps_6 (by decide) (fun c_6 => ?_) (fun c_6 => ?_)
    · skip
      exfalso; omega
    · skip
      refine lv_aload_n hx hb dX4_findLeaps_9 rfl (lv_at hl 1 rfl) ?_
      refine w_get (C := RX4) (T := TX4) (N := 11) (ci := 3) hx hb hts hown hK hM inX4 rfl 9 (by decide) qw_4_93 rfl (mu_g (ne_oi hmo hle) hmo) rfl dX4_findLeaps_10 ?_
      refine lv_iload_n hx hb dX4_findLeaps_13 rfl (lv_at hl 0 rfl) ?_
      refine lv_iload_n hx hb dX4_findLeaps_14 rfl (lv_at hl 0 rfl) ?_
      refine lv_bipush (v := nI 64) hx hb dX4_findLeaps_15 (by decide) ?_
      refine ni_div hx hb k 64 (by omega) (by decide) (by decide) dX4_findLeaps_17 ?_
      refine lv_iload_n hx hb dX4_findLeaps_18 rfl (lv_at hl 0 rfl) ?_
      refine lv_bipush (v := nI 64) hx hb dX4_findLeaps_19 (by decide) ?_
      refine ni_rem hx hb k 64 (by omega) (by decide) (by decide) dX4_findLeaps_21 ?_
      refine ni_ne (tgt := 29) hx hb (k / 64) (k % 64) (by omega) (by omega) dX4_findLeaps_22 (by decide) (fun c_22 => ?_) (fun c_22 => ?_)
      · skip
        refine lv_bipush (v := nI 9) hx hb dX4_findLeaps_29 (by decide) ?_
        refine w_iast hx hb hK hM hS mu_s hA_le k (by omega) (by decide) dX4_findLeaps_31 (fun H locs hM hS => ?_)
        rw [mu_mu] at hM
        refine ni_iinc (lv' := [(1, .int (nI (k + 1))), (0, .ref mo)]) hx hb k 1 dX4_findLeaps_32 hl (k := 0) rfl (by decide) (by decide) rfl (fun ls hl => ?_)
        refine lv_goto (tgt := 2) hx hb dX4_findLeaps_35 (by decide) ?_
        exact ih (k + 1, upd ga k (nI 9)) ⟨by omega, fun q hq => by dsimp only at hq ⊢; by_cases hqk : q = k; (· subst hqk; rw [upd_s]; simp [lv0, c_22]); (· rw [upd_n hqk]; exact ha0 q (by omega))⟩ _ _ hM hS ls (lv_sub hl [0,1] rfl)
      · skip
        refine lv_iconst (v := nI 0) hx hb dX4_findLeaps_25 (by decide) ?_
        refine lv_goto (tgt := 31) hx hb dX4_findLeaps_26 (by decide) ?_
        refine w_iast hx hb hK hM hS mu_s hA_le k (by omega) (by decide) dX4_findLeaps_31 (fun H locs hM hS => ?_)
        rw [mu_mu] at hM
        refine ni_iinc (lv' := [(1, .int (nI (k + 1))), (0, .ref mo)]) hx hb k 1 dX4_findLeaps_32 hl (k := 0) rfl (by decide) (by decide) rfl (fun ls hl => ?_)
        refine lv_goto (tgt := 2) hx hb dX4_findLeaps_35 (by decide) ?_
        exact ih (k + 1, upd ga k (nI 0)) ⟨by omega, fun q hq => by dsimp only at hq ⊢; by_cases hqk : q = k; (· subst hqk; rw [upd_s]; simp [lv0, c_22]); (· rw [upd_n hqk]; exact ha0 q (by omega))⟩ _ _ hM hS ls (lv_sub hl [0,1] rfl)
set_option maxHeartbeats 4000000 in
set_option maxRecDepth 100000 in
theorem met_X4_init (l : Launch) {D : va_G} {cI cJ : ClassId} {M : MP} {A : Nat → Prop} {sz : Nat} (mo : Nat) (hmo : M mo = some (.inr (3, [.int (nI 0), .int (bI false), .null, .int (nI 0), .int (nI 0), .null, .null, .null, .null, .null, .null]))) (hA_mo : A mo) (hAn : ∀ q, sz ≤ q → A q) : Wr l yX4_init cX4_init 2 none 10 7 7024 D cI cJ [.ref mo] M sz A none (fun M' => MoMade cI M M' A mo) := by
  refine wr_start (by decide) (Nat.le_of_ble_eq_true rfl) ?_
  intro p e s m args below meth c hx hb hr hml hown hts hlk hini hK hsz H hH0 hM hS ls hl
  rw [← hsz] at hAn
  clear hH0
  have hl : lv_has ls 2 [(0, .ref mo)] := hl
  have hk0 : kpC 2336 0 = 0 := rfl
  have hk1 : kpS 2336 0 = 0 := rfl
  refine lv_aload_n hx hb dX4_init_0 rfl (lv_at hl 0 rfl) ?_
  refine W.objInit hx hb hown (hts _ qw_3_213) (hts _ qw_1_26) (hts _ qw_1_27) rfl (by rw [hml]; exact hl.1) rfl dX4_init_1 (Nat.le_of_ble_eq_true rfl) (Nat.le_of_ble_eq_true rfl) ?_
  refine W.eq (g2 := F0 m 4 ls []) rfl ?_
  refine lv_aload_n hx hb dX4_init_4 rfl (lv_at hl 0 rfl) ?_
  refine lv_sipush (v := nI 2336) hx hb dX4_init_5 (by decide) ?_
  refine w_newI hx hb hts hK hM hS hAn qw_1_61 2336 (by omega) (by show 0 + 1 ≤ 7; omega) (by show 0 + 2336 ≤ 7024; omega) dX4_init_8 (fun q8 H hq_8 hMq_8 hAq_8 hqa_8 hM hS => ?_)
  have hne_mo_q8 := ne_none hmo hMq_8
  have hf_q8 : M q8 = none := hMq_8
  refine w_put (C := RX4) (T := TX4) (N := 11) (ci := 3) hx hb hts hown hK hM hS inX4 rfl tyX4 tyX4_ok nmX4 2 (by decide) qw_4_86 rfl rfl (mu_g hne_mo_q8 hmo) hA_mo rfl rfl (Nat.le_of_ble_eq_true rfl) dX4_init_10 (fun H locs hM hS => ?_)
  replace hM : HM D (mu (mu M q8 (eI cI 2336 (fun _ => 0))) mo (.inr (3, [.int (nI 0), .int (bI false), .ref q8, .int (nI 0), .int (nI 0), .null, .null, .null, .null, .null, .null]))) H := hM
  refine lv_aload_n hx hb dX4_init_13 rfl (lv_at hl 0 rfl) ?_
  refine lv_sipush (v := nI 146) hx hb dX4_init_14 (by decide) ?_
  refine w_newI hx hb hts hK hM hS hAn qw_1_61 146 (by omega) (by show 0 + 1 + 1 ≤ 7; omega) (by show 0 + 2336 + 146 ≤ 7024; omega) dX4_init_17 (fun q17 H hq_17 hMq_17 hAq_17 hqa_17 hM hS => ?_)
  have hne_mo_q17 := ne_none mu_s hMq_17
  have hne_q8_q17 := ne_none (mu_g (Ne.symm hne_mo_q8) mu_s) hMq_17
  have hf_q17 : M q17 = none := (mu_none (mu_none hMq_17))
  refine w_putF (C := RX4) (T := TX4) (N := 11) (ci := 3) hx hb hts hown hK hM hS inX4 rfl tyX4 tyX4_ok nmX4 (hini rfl) 5 (by decide) qw_4_89 rfl rfl (mu_g hne_mo_q17 mu_s) hA_mo rfl rfl (Nat.le_of_ble_eq_true rfl) dX4_init_19 (fun H locs hM hS => ?_)
  rw [mu_comm (Ne.symm hne_mo_q17), mu_mu] at hM
  replace hM : HM D (mu (mu (mu M q8 (eI cI 2336 (fun _ => 0))) mo (.inr (3, [.int (nI 0), .int (bI false), .ref q8, .int (nI 0), .int (nI 0), .ref q17, .null, .null, .null, .null, .null]))) q17 (eI cI 146 (fun _ => 0))) H := hM
  refine lv_aload_n hx hb dX4_init_22 rfl (lv_at hl 0 rfl) ?_
  refine lv_sipush (v := nI 146) hx hb dX4_init_23 (by decide) ?_
  refine w_newI hx hb hts hK hM hS hAn qw_1_61 146 (by omega) (by show 0 + 1 + 1 + 1 ≤ 7; omega) (by show 0 + 2336 + 146 + 146 ≤ 7024; omega) dX4_init_26 (fun q26 H hq_26 hMq_26 hAq_26 hqa_26 hM hS => ?_)
  have hne_mo_q26 := ne_none (mu_g hne_mo_q17 mu_s) hMq_26
  have hne_q8_q26 := ne_none (mu_g hne_q8_q17 (mu_g (Ne.symm hne_mo_q8) mu_s)) hMq_26
  have hne_q17_q26 := ne_none mu_s hMq_26
  have hf_q26 : M q26 = none := (mu_none (mu_none (mu_none hMq_26)))
  refine w_putF (C := RX4) (T := TX4) (N := 11) (ci := 3) hx hb hts hown hK hM hS inX4 rfl tyX4 tyX4_ok nmX4 (hini rfl) 6 (by decide) qw_4_90 rfl rfl (mu_g hne_mo_q26 (mu_g hne_mo_q17 mu_s)) hA_mo rfl rfl (Nat.le_of_ble_eq_true rfl) dX4_init_28 (fun H locs hM hS => ?_)
  rw [mu_comm (Ne.symm hne_mo_q26), mu_comm (Ne.symm hne_mo_q17), mu_mu] at hM
  replace hM : HM D (mu (mu (mu (mu M q8 (eI cI 2336 (fun _ => 0))) mo (.inr (3, [.int (nI 0), .int (bI false), .ref q8, .int (nI 0), .int (nI 0), .ref q17, .ref q26, .null, .null, .null, .null]))) q17 (eI cI 146 (fun _ => 0))) q26 (eI cI 146 (fun _ => 0))) H := hM
  refine lv_aload_n hx hb dX4_init_31 rfl (lv_at hl 0 rfl) ?_
  refine lv_sipush (v := nI 146) hx hb dX4_init_32 (by decide) ?_
  refine w_newI hx hb hts hK hM hS hAn qw_1_61 146 (by omega) (by show 0 + 1 + 1 + 1 + 1 ≤ 7; omega) (by show 0 + 2336 + 146 + 146 + 146 ≤ 7024; omega) dX4_init_35 (fun q35 H hq_35 hMq_35 hAq_35 hqa_35 hM hS => ?_)
  have hne_mo_q35 := ne_none (mu_g hne_mo_q26 (mu_g hne_mo_q17 mu_s)) hMq_35
  have hne_q8_q35 := ne_none (mu_g hne_q8_q26 (mu_g hne_q8_q17 (mu_g (Ne.symm hne_mo_q8) mu_s))) hMq_35
  have hne_q17_q35 := ne_none (mu_g hne_q17_q26 mu_s) hMq_35
  have hne_q26_q35 := ne_none mu_s hMq_35
  have hf_q35 : M q35 = none := (mu_none (mu_none (mu_none (mu_none hMq_35))))
  refine w_putF (C := RX4) (T := TX4) (N := 11) (ci := 3) hx hb hts hown hK hM hS inX4 rfl tyX4 tyX4_ok nmX4 (hini rfl) 7 (by decide) qw_4_91 rfl rfl (mu_g hne_mo_q35 (mu_g hne_mo_q26 (mu_g hne_mo_q17 mu_s))) hA_mo rfl rfl (Nat.le_of_ble_eq_true rfl) dX4_init_37 (fun H locs hM hS => ?_)
  rw [mu_comm (Ne.symm hne_mo_q35), mu_comm (Ne.symm hne_mo_q26), mu_comm (Ne.symm hne_mo_q17), mu_mu] at hM
  replace hM : HM D (mu (mu (mu (mu (mu M q8 (eI cI 2336 (fun _ => 0))) mo (.inr (3, [.int (nI 0), .int (bI false), .ref q8, .int (nI 0), .int (nI 0), .ref q17, .ref q26, .ref q35, .null, .null, .null]))) q17 (eI cI 146 (fun _ => 0))) q26 (eI cI 146 (fun _ => 0))) q35 (eI cI 146 (fun _ => 0))) H := hM
  refine lv_aload_n hx hb dX4_init_40 rfl (lv_at hl 0 rfl) ?_
  refine lv_sipush (v := nI 146) hx hb dX4_init_41 (by decide) ?_
  refine w_newI hx hb hts hK hM hS hAn qw_1_61 146 (by omega) (by show 0 + 1 + 1 + 1 + 1 + 1 ≤ 7; omega) (by show 0 + 2336 + 146 + 146 + 146 + 146 ≤ 7024; omega) dX4_init_44 (fun q44 H hq_44 hMq_44 hAq_44 hqa_44 hM hS => ?_)
  have hne_mo_q44 := ne_none (mu_g hne_mo_q35 (mu_g hne_mo_q26 (mu_g hne_mo_q17 mu_s))) hMq_44
  have hne_q8_q44 := ne_none (mu_g hne_q8_q35 (mu_g hne_q8_q26 (mu_g hne_q8_q17 (mu_g (Ne.symm hne_mo_q8) mu_s)))) hMq_44
  have hne_q17_q44 := ne_none (mu_g hne_q17_q35 (mu_g hne_q17_q26 mu_s)) hMq_44
  have hne_q26_q44 := ne_none (mu_g hne_q26_q35 mu_s) hMq_44
  have hne_q35_q44 := ne_none mu_s hMq_44
  have hf_q44 : M q44 = none := (mu_none (mu_none (mu_none (mu_none (mu_none hMq_44)))))
  refine w_putF (C := RX4) (T := TX4) (N := 11) (ci := 3) hx hb hts hown hK hM hS inX4 rfl tyX4 tyX4_ok nmX4 (hini rfl) 8 (by decide) qw_4_92 rfl rfl (mu_g hne_mo_q44 (mu_g hne_mo_q35 (mu_g hne_mo_q26 (mu_g hne_mo_q17 mu_s)))) hA_mo rfl rfl (Nat.le_of_ble_eq_true rfl) dX4_init_46 (fun H locs hM hS => ?_)
  rw [mu_comm (Ne.symm hne_mo_q44), mu_comm (Ne.symm hne_mo_q35), mu_comm (Ne.symm hne_mo_q26), mu_comm (Ne.symm hne_mo_q17), mu_mu] at hM
  replace hM : HM D (mu (mu (mu (mu (mu (mu M q8 (eI cI 2336 (fun _ => 0))) mo (.inr (3, [.int (nI 0), .int (bI false), .ref q8, .int (nI 0), .int (nI 0), .ref q17, .ref q26, .ref q35, .ref q44, .null, .null]))) q17 (eI cI 146 (fun _ => 0))) q26 (eI cI 146 (fun _ => 0))) q35 (eI cI 146 (fun _ => 0))) q44 (eI cI 146 (fun _ => 0))) H := hM
  refine lv_aload_n hx hb dX4_init_49 rfl (lv_at hl 0 rfl) ?_
  refine lv_sipush (v := nI 4096) hx hb dX4_init_50 (by decide) ?_
  refine w_newI hx hb hts hK hM hS hAn qw_1_61 4096 (by omega) (by show 0 + 1 + 1 + 1 + 1 + 1 + 1 ≤ 7; omega) (by show 0 + 2336 + 146 + 146 + 146 + 146 + 4096 ≤ 7024; omega) dX4_init_53 (fun q53 H hq_53 hMq_53 hAq_53 hqa_53 hM hS => ?_)
  have hne_mo_q53 := ne_none (mu_g hne_mo_q44 (mu_g hne_mo_q35 (mu_g hne_mo_q26 (mu_g hne_mo_q17 mu_s)))) hMq_53
  have hne_q8_q53 := ne_none (mu_g hne_q8_q44 (mu_g hne_q8_q35 (mu_g hne_q8_q26 (mu_g hne_q8_q17 (mu_g (Ne.symm hne_mo_q8) mu_s))))) hMq_53
  have hne_q17_q53 := ne_none (mu_g hne_q17_q44 (mu_g hne_q17_q35 (mu_g hne_q17_q26 mu_s))) hMq_53
  have hne_q26_q53 := ne_none (mu_g hne_q26_q44 (mu_g hne_q26_q35 mu_s)) hMq_53
  have hne_q35_q53 := ne_none (mu_g hne_q35_q44 mu_s) hMq_53
  have hne_q44_q53 := ne_none mu_s hMq_53
  have hf_q53 : M q53 = none := (mu_none (mu_none (mu_none (mu_none (mu_none (mu_none hMq_53))))))
  refine w_putF (C := RX4) (T := TX4) (N := 11) (ci := 3) hx hb hts hown hK hM hS inX4 rfl tyX4 tyX4_ok nmX4 (hini rfl) 9 (by decide) qw_4_93 rfl rfl (mu_g hne_mo_q53 (mu_g hne_mo_q44 (mu_g hne_mo_q35 (mu_g hne_mo_q26 (mu_g hne_mo_q17 mu_s))))) hA_mo rfl rfl (Nat.le_of_ble_eq_true rfl) dX4_init_55 (fun H locs hM hS => ?_)
  rw [mu_comm (Ne.symm hne_mo_q53), mu_comm (Ne.symm hne_mo_q44), mu_comm (Ne.symm hne_mo_q35), mu_comm (Ne.symm hne_mo_q26), mu_comm (Ne.symm hne_mo_q17), mu_mu] at hM
  replace hM : HM D (mu (mu (mu (mu (mu (mu (mu M q8 (eI cI 2336 (fun _ => 0))) mo (.inr (3, [.int (nI 0), .int (bI false), .ref q8, .int (nI 0), .int (nI 0), .ref q17, .ref q26, .ref q35, .ref q44, .ref q53, .null]))) q17 (eI cI 146 (fun _ => 0))) q26 (eI cI 146 (fun _ => 0))) q35 (eI cI 146 (fun _ => 0))) q44 (eI cI 146 (fun _ => 0))) q53 (eI cI 4096 (fun _ => 0))) H := hM
  refine lv_aload_n hx hb dX4_init_58 rfl (lv_at hl 0 rfl) ?_
  refine lv_bipush (v := nI 8) hx hb dX4_init_59 (by decide) ?_
  refine w_newI hx hb hts hK hM hS hAn qw_1_61 8 (by omega) (by show 0 + 1 + 1 + 1 + 1 + 1 + 1 + 1 ≤ 7; omega) (by show 0 + 2336 + 146 + 146 + 146 + 146 + 4096 + 8 ≤ 7024; omega) dX4_init_61 (fun q61 H hq_61 hMq_61 hAq_61 hqa_61 hM hS => ?_)
  have hne_mo_q61 := ne_none (mu_g hne_mo_q53 (mu_g hne_mo_q44 (mu_g hne_mo_q35 (mu_g hne_mo_q26 (mu_g hne_mo_q17 mu_s))))) hMq_61
  have hne_q8_q61 := ne_none (mu_g hne_q8_q53 (mu_g hne_q8_q44 (mu_g hne_q8_q35 (mu_g hne_q8_q26 (mu_g hne_q8_q17 (mu_g (Ne.symm hne_mo_q8) mu_s)))))) hMq_61
  have hne_q17_q61 := ne_none (mu_g hne_q17_q53 (mu_g hne_q17_q44 (mu_g hne_q17_q35 (mu_g hne_q17_q26 mu_s)))) hMq_61
  have hne_q26_q61 := ne_none (mu_g hne_q26_q53 (mu_g hne_q26_q44 (mu_g hne_q26_q35 mu_s))) hMq_61
  have hne_q35_q61 := ne_none (mu_g hne_q35_q53 (mu_g hne_q35_q44 mu_s)) hMq_61
  have hne_q44_q61 := ne_none (mu_g hne_q44_q53 mu_s) hMq_61
  have hne_q53_q61 := ne_none mu_s hMq_61
  have hf_q61 : M q61 = none := (mu_none (mu_none (mu_none (mu_none (mu_none (mu_none (mu_none hMq_61)))))))
  refine lv_dup hx hb dX4_init_63 rfl ?_
  refine lv_iconst (v := nI 0) hx hb dX4_init_64 (by decide) ?_
  refine lv_iconst (v := nI 3) hx hb dX4_init_65 (by decide) ?_
  refine w_iast hx hb hK hM hS mu_s hAq_61 0 (by omega) (by decide) dX4_init_66 (fun H locs hM hS => ?_)
  rw [mu_mu] at hM
  refine lv_dup hx hb dX4_init_67 rfl ?_
  refine lv_iconst (v := nI 1) hx hb dX4_init_68 (by decide) ?_
  refine lv_iconst (v := nI 5) hx hb dX4_init_69 (by decide) ?_
  refine w_iast hx hb hK hM hS mu_s hAq_61 1 (by omega) (by decide) dX4_init_70 (fun H locs hM hS => ?_)
  rw [mu_mu] at hM
  refine lv_dup hx hb dX4_init_71 rfl ?_
  refine lv_iconst (v := nI 2) hx hb dX4_init_72 (by decide) ?_
  refine lv_iconst (v := nI 4) hx hb dX4_init_73 (by decide) ?_
  refine w_iast hx hb hK hM hS mu_s hAq_61 2 (by omega) (by decide) dX4_init_74 (fun H locs hM hS => ?_)
  rw [mu_mu] at hM
  refine lv_dup hx hb dX4_init_75 rfl ?_
  refine lv_iconst (v := nI 3) hx hb dX4_init_76 (by decide) ?_
  refine lv_iconst (v := nI 2) hx hb dX4_init_77 (by decide) ?_
  refine w_iast hx hb hK hM hS mu_s hAq_61 3 (by omega) (by decide) dX4_init_78 (fun H locs hM hS => ?_)
  rw [mu_mu] at hM
  refine lv_dup hx hb dX4_init_79 rfl ?_
  refine lv_iconst (v := nI 4) hx hb dX4_init_80 (by decide) ?_
  refine lv_iconst (v := nI 1) hx hb dX4_init_81 (by decide) ?_
  refine w_iast hx hb hK hM hS mu_s hAq_61 4 (by omega) (by decide) dX4_init_82 (fun H locs hM hS => ?_)
  rw [mu_mu] at hM
  refine lv_dup hx hb dX4_init_83 rfl ?_
  refine lv_iconst (v := nI 5) hx hb dX4_init_84 (by decide) ?_
  refine lv_iconst (v := nI 4) hx hb dX4_init_85 (by decide) ?_
  refine w_iast hx hb hK hM hS mu_s hAq_61 5 (by omega) (by decide) dX4_init_86 (fun H locs hM hS => ?_)
  rw [mu_mu] at hM
  refine lv_dup hx hb dX4_init_87 rfl ?_
  refine lv_bipush (v := nI 6) hx hb dX4_init_88 (by decide) ?_
  refine lv_iconst (v := nI 5) hx hb dX4_init_90 (by decide) ?_
  refine w_iast hx hb hK hM hS mu_s hAq_61 6 (by omega) (by decide) dX4_init_91 (fun H locs hM hS => ?_)
  rw [mu_mu] at hM
  refine lv_dup hx hb dX4_init_92 rfl ?_
  refine lv_bipush (v := nI 7) hx hb dX4_init_93 (by decide) ?_
  refine lv_iconst (v := nI 3) hx hb dX4_init_95 (by decide) ?_
  refine w_iast hx hb hK hM hS mu_s hAq_61 7 (by omega) (by decide) dX4_init_96 (fun H locs hM hS => ?_)
  rw [mu_mu] at hM
  replace hM : HM D (mu (mu (mu (mu (mu (mu (mu (mu M q8 (eI cI 2336 (fun _ => 0))) mo (.inr (3, [.int (nI 0), .int (bI false), .ref q8, .int (nI 0), .int (nI 0), .ref q17, .ref q26, .ref q35, .ref q44, .ref q53, .null]))) q17 (eI cI 146 (fun _ => 0))) q26 (eI cI 146 (fun _ => 0))) q35 (eI cI 146 (fun _ => 0))) q44 (eI cI 146 (fun _ => 0))) q53 (eI cI 4096 (fun _ => 0))) q61 (eI cI 8 mOrd)) H := hM
  refine w_putF (C := RX4) (T := TX4) (N := 11) (ci := 3) hx hb hts hown hK hM hS inX4 rfl tyX4 tyX4_ok nmX4 (hini rfl) 10 (by decide) qw_4_94 rfl rfl (mu_g hne_mo_q61 (mu_g hne_mo_q53 (mu_g hne_mo_q44 (mu_g hne_mo_q35 (mu_g hne_mo_q26 (mu_g hne_mo_q17 mu_s)))))) hA_mo rfl rfl (Nat.le_of_ble_eq_true rfl) dX4_init_97 (fun H locs hM hS => ?_)
  rw [mu_comm (Ne.symm hne_mo_q61), mu_comm (Ne.symm hne_mo_q53), mu_comm (Ne.symm hne_mo_q44), mu_comm (Ne.symm hne_mo_q35), mu_comm (Ne.symm hne_mo_q26), mu_comm (Ne.symm hne_mo_q17), mu_mu] at hM
  replace hM : HM D (mu (mu (mu (mu (mu (mu (mu (mu M q8 (eI cI 2336 (fun _ => 0))) mo (.inr (3, [.int (nI 0), .int (bI false), .ref q8, .int (nI 0), .int (nI 0), .ref q17, .ref q26, .ref q35, .ref q44, .ref q53, .ref q61]))) q17 (eI cI 146 (fun _ => 0))) q26 (eI cI 146 (fun _ => 0))) q35 (eI cI 146 (fun _ => 0))) q44 (eI cI 146 (fun _ => 0))) q53 (eI cI 4096 (fun _ => 0))) q61 (eI cI 8 mOrd)) H := hM
  refine lv_aload_n hx hb dX4_init_100 rfl (lv_at hl 0 rfl) ?_
  refine wr_go0 (wr_runV (As := []) (rest := []) hx hb hml hown hts hK hM okV_RX4_31_X4_findLeaps (met_X4_findLeaps l mo q8 q17 q26 q35 q44 q53 q61 0 0 0 false (fun _ => 0) (mu_g hne_mo_q61 (mu_g hne_mo_q53 (mu_g hne_mo_q44 (mu_g hne_mo_q35 (mu_g hne_mo_q26 (mu_g hne_mo_q17 mu_s)))))) (mu_g hne_q53_q61 mu_s) hAq_53) (mu_g hne_mo_q61 (mu_g hne_mo_q53 (mu_g hne_mo_q44 (mu_g hne_mo_q35 (mu_g hne_mo_q26 (mu_g hne_mo_q17 mu_s)))))) rfl rfl rfl ⟨Nat.le_of_ble_eq_true rfl, Nat.le_of_ble_eq_true rfl⟩ hl.1 rfl (Nat.le_of_ble_eq_true rfl) dX4_init_101 ⟨by show 0 + 1 + 1 + 1 + 1 + 1 + 1 + 1 + 0 ≤ 7; omega, by show 0 + 2336 + 146 + 146 + 146 + 146 + 4096 + 8 + 0 ≤ 7024; omega⟩) hS (fun M1 H locs hR hM hS => ?_)
  obtain ⟨lf, hL, rfl⟩ := hR
  rw [mu_comm (Ne.symm hne_q53_q61), mu_mu] at hM
  refine lv_aload_n hx hb dX4_init_104 rfl (lv_at hl 0 rfl) ?_
  refine wr_go0 (wr_runV (As := []) (rest := []) hx hb hml hown hts hK hM okV_RX4_34_X4_clear (met_X4_clear l mo q8 q17 q26 q35 q44 q53 q61 0 0 0 false (fun _ => 0) (mu_g hne_mo_q61 (mu_g hne_mo_q53 (mu_g hne_mo_q44 (mu_g hne_mo_q35 (mu_g hne_mo_q26 (mu_g hne_mo_q17 mu_s)))))) (mu_g hne_q17_q61 (mu_g hne_q17_q53 (mu_g hne_q17_q44 (mu_g hne_q17_q35 (mu_g hne_q17_q26 mu_s))))) hAq_17) (mu_g hne_mo_q61 (mu_g hne_mo_q53 (mu_g hne_mo_q44 (mu_g hne_mo_q35 (mu_g hne_mo_q26 (mu_g hne_mo_q17 mu_s)))))) rfl rfl rfl ⟨Nat.le_of_ble_eq_true rfl, Nat.le_of_ble_eq_true rfl⟩ hl.1 rfl (Nat.le_of_ble_eq_true rfl) dX4_init_105 ⟨by show 0 + 1 + 1 + 1 + 1 + 1 + 1 + 1 + 0 ≤ 7; omega, by show 0 + 2336 + 146 + 146 + 146 + 146 + 4096 + 8 + 0 ≤ 7024; omega⟩) hS (fun M1 H locs hR hM hS => ?_)
  obtain rfl := hR
  rw [mu_comm (Ne.symm hne_q17_q61), mu_comm (Ne.symm hne_q17_q53), mu_comm (Ne.symm hne_q17_q44), mu_comm (Ne.symm hne_q17_q35), mu_comm (Ne.symm hne_q17_q26), mu_mu] at hM
  refine lv_iconst (v := nI 0) hx hb dX4_init_108 (by decide) ?_
  refine lv_istore_n (lv' := [(1, .int (nI 0)), (0, .ref mo)]) hx hb dX4_init_109 rfl hl (by decide) rfl (fun ls hl => ?_)
  refine loopW (pcH := 110) (st := []) (ι := Nat) (fun ξ => mu (mu (mu (mu (mu (mu (mu (mu M q8 (eI cI 2336 (fun _ => 0))) mo (.inr (3, [.int (nI 0), .int (bI false), .ref q8, .int (nI 0), .int (nI 0), .ref q17, .ref q26, .ref q35, .ref q44, .ref q53, .ref q61]))) q17 (eI cI 146 (mIniL (mClr (fun _ => 0) 146) (ξ)))) q26 (eI cI 146 (fun _ => 0))) q35 (eI cI 146 (fun _ => 0))) q44 (eI cI 146 (fun _ => 0))) q53 (eI cI 4096 lf)) q61 (eI cI 8 mOrd)) (fun ξ => [(1, .int (nI (ξ))), (0, .ref mo)]) (fun n ξ => (ξ) + n = 8) ?_ ?_ 8 0 rfl hM hS ls (lv_sub hl [0,1] rfl)
  · rintro i hin H locs hM hS ls hl
    try dsimp only at hl hin hM
    refine lv_iload_n hx hb dX4_init_110 rfl (lv_at hl 0 rfl) ?_
    refine lv_bipush (v := nI 8) hx hb dX4_init_111 (by decide) ?_
    refine ni_ge (tgt := 174) hx hb i 8 (by omega) (by omega) dX4_init_113 (by decide) (fun c_113 => ?_) (fun c_113 => ?_)
    · skip
      refine lv_aload_n hx hb dX4_init_174 rfl (lv_at hl 1 rfl) ?_
      refine w_get (C := RX4) (T := TX4) (N := 11) (ci := 3) hx hb hts hown hK hM inX4 rfl 5 (by decide) qw_4_89 rfl (mu_g hne_mo_q61 (mu_g hne_mo_q53 (mu_g hne_mo_q44 (mu_g hne_mo_q35 (mu_g hne_mo_q26 (mu_g hne_mo_q17 mu_s)))))) rfl dX4_init_175 ?_
      refine lv_iconst (v := nI 1) hx hb dX4_init_178 (by decide) ?_
      refine lv_bipush (v := nI 6) hx hb dX4_init_179 (by decide) ?_
      refine wr_go0 (wr_runS (As := [.ref q17, .int (nI 1), .int (nI 6)]) (rest := []) hx hb hml hown hts hK hM okS_RX4_37_X4_tie (met_X4_tie l q17 1 6 (mIniL (mClr (fun _ => 0) 146) i) (mu_g hne_q17_q61 (mu_g hne_q17_q53 (mu_g hne_q17_q44 (mu_g hne_q17_q35 (mu_g hne_q17_q26 mu_s))))) (by omega) (by omega) hAq_17) rfl ⟨Nat.le_of_ble_eq_true rfl, Nat.le_of_ble_eq_true rfl⟩ hl.1 rfl (Nat.le_of_ble_eq_true rfl) dX4_init_181 ⟨by show 0 + 1 + 1 + 1 + 1 + 1 + 1 + 1 + 0 ≤ 7; omega, by show 0 + 2336 + 146 + 146 + 146 + 146 + 4096 + 8 + 0 ≤ 7024; omega⟩) hS (fun M1 H locs hR hM hS => ?_)
      obtain rfl := hR
      rw [mu_comm (Ne.symm hne_q17_q61), mu_comm (Ne.symm hne_q17_q53), mu_comm (Ne.symm hne_q17_q44), mu_comm (Ne.symm hne_q17_q35), mu_comm (Ne.symm hne_q17_q26), mu_mu] at hM
      refine lv_aload_n hx hb dX4_init_184 rfl (lv_at hl 1 rfl) ?_
      refine w_get (C := RX4) (T := TX4) (N := 11) (ci := 3) hx hb hts hown hK hM inX4 rfl 5 (by decide) qw_4_89 rfl (mu_g hne_mo_q61 (mu_g hne_mo_q53 (mu_g hne_mo_q44 (mu_g hne_mo_q35 (mu_g hne_mo_q26 (mu_g hne_mo_q17 mu_s)))))) rfl dX4_init_185 ?_
      refine lv_bipush (v := nI 57) hx hb dX4_init_188 (by decide) ?_
      refine lv_bipush (v := nI 62) hx hb dX4_init_190 (by decide) ?_
      refine wr_go0 (wr_runS (As := [.ref q17, .int (nI 57), .int (nI 62)]) (rest := []) hx hb hml hown hts hK hM okS_RX4_37_X4_tie (met_X4_tie l q17 57 62 (mTie (mIniL (mClr (fun _ => 0) 146) i) 1 6) (mu_g hne_q17_q61 (mu_g hne_q17_q53 (mu_g hne_q17_q44 (mu_g hne_q17_q35 (mu_g hne_q17_q26 mu_s))))) (by omega) (by omega) hAq_17) rfl ⟨Nat.le_of_ble_eq_true rfl, Nat.le_of_ble_eq_true rfl⟩ hl.1 rfl (Nat.le_of_ble_eq_true rfl) dX4_init_192 ⟨by show 0 + 1 + 1 + 1 + 1 + 1 + 1 + 1 + 0 ≤ 7; omega, by show 0 + 2336 + 146 + 146 + 146 + 146 + 4096 + 8 + 0 ≤ 7024; omega⟩) hS (fun M1 H locs hR hM hS => ?_)
      obtain rfl := hR
      rw [mu_comm (Ne.symm hne_q17_q61), mu_comm (Ne.symm hne_q17_q53), mu_comm (Ne.symm hne_q17_q44), mu_comm (Ne.symm hne_q17_q35), mu_comm (Ne.symm hne_q17_q26), mu_mu] at hM
      refine lv_aload_n hx hb dX4_init_195 rfl (lv_at hl 1 rfl) ?_
      refine w_get (C := RX4) (T := TX4) (N := 11) (ci := 3) hx hb hts hown hK hM inX4 rfl 5 (by decide) qw_4_89 rfl (mu_g hne_mo_q61 (mu_g hne_mo_q53 (mu_g hne_mo_q44 (mu_g hne_mo_q35 (mu_g hne_mo_q26 (mu_g hne_mo_q17 mu_s)))))) rfl dX4_init_196 ?_
      refine lv_sipush (v := nI 128) hx hb dX4_init_199 (by decide) ?_
      refine lv_bipush (v := nI 8) hx hb dX4_init_202 (by decide) ?_
      refine w_iast hx hb hK hM hS (mu_g hne_q17_q61 (mu_g hne_q17_q53 (mu_g hne_q17_q44 (mu_g hne_q17_q35 (mu_g hne_q17_q26 mu_s))))) hAq_17 128 (by omega) (by decide) dX4_init_204 (fun H locs hM hS => ?_)
      rw [mu_comm (Ne.symm hne_q17_q61), mu_comm (Ne.symm hne_q17_q53), mu_comm (Ne.symm hne_q17_q44), mu_comm (Ne.symm hne_q17_q35), mu_comm (Ne.symm hne_q17_q26), mu_mu] at hM
      rw [show i = 8 by omega] at hM
      replace hM : HM D (mu (mu (mu (mu (mu (mu (mu (mu M q8 (eI cI 2336 (fun _ => 0))) mo (.inr (3, [.int (nI 0), .int (bI false), .ref q8, .int (nI 0), .int (nI 0), .ref q17, .ref q26, .ref q35, .ref q44, .ref q53, .ref q61]))) q17 (eI cI 146 mIni)) q26 (eI cI 146 (fun _ => 0))) q35 (eI cI 146 (fun _ => 0))) q44 (eI cI 146 (fun _ => 0))) q53 (eI cI 4096 lf)) q61 (eI cI 8 mOrd)) H := hM
      refine lv_aload_n hx hb dX4_init_205 rfl (lv_at hl 1 rfl) ?_
      refine wr_go (wr_runV (As := []) (rest := []) hx hb hml hown hts hK hM okV_RX4_41_X4_begin (met_X4_begin l mo q8 q17 q26 q35 q44 q53 q61 0 0 0 false 2336 mIni (fun _ => 0) (fun _ => 0) (fun _ => 0) lf (fun _ => 0) (mu_g hne_mo_q61 (mu_g hne_mo_q53 (mu_g hne_mo_q44 (mu_g hne_mo_q35 (mu_g hne_mo_q26 (mu_g hne_mo_q17 mu_s)))))) (mu_g hne_q8_q61 (mu_g hne_q8_q53 (mu_g hne_q8_q44 (mu_g hne_q8_q35 (mu_g hne_q8_q26 (mu_g hne_q8_q17 (mu_g (Ne.symm hne_mo_q8) mu_s))))))) (mu_g hne_q17_q61 (mu_g hne_q17_q53 (mu_g hne_q17_q44 (mu_g hne_q17_q35 (mu_g hne_q17_q26 mu_s))))) (mu_g hne_q26_q61 (mu_g hne_q26_q53 (mu_g hne_q26_q44 (mu_g hne_q26_q35 mu_s)))) (mu_g hne_q35_q61 (mu_g hne_q35_q53 (mu_g hne_q35_q44 mu_s))) (mu_g hne_q44_q61 (mu_g hne_q44_q53 mu_s)) (mu_g hne_q53_q61 mu_s) WfR_ini.1 WfR_ini.2.1 WfR_ini.2.2 hL ⟨⟨hne_q8_q17, hne_q8_q26, hne_q8_q35, hne_q8_q44, hne_q8_q53⟩, ⟨hne_q17_q26, hne_q17_q35, hne_q17_q44, hne_q17_q53⟩, ⟨hne_q26_q35, hne_q26_q44, hne_q26_q53⟩, ⟨hne_q35_q44, hne_q35_q53⟩, hne_q44_q53⟩ (by omega) (by omega) hA_mo hAq_8 hAq_17 hAq_26 (fun q hq => hAn q (Nat.le_trans hS.1 hq))) (mu_g hne_mo_q61 (mu_g hne_mo_q53 (mu_g hne_mo_q44 (mu_g hne_mo_q35 (mu_g hne_mo_q26 (mu_g hne_mo_q17 mu_s)))))) rfl rfl rfl ⟨Nat.le_of_ble_eq_true rfl, Nat.le_of_ble_eq_true rfl⟩ hl.1 rfl (Nat.le_of_ble_eq_true rfl) dX4_init_206 ⟨by show 0 + 1 + 1 + 1 + 1 + 1 + 1 + 1 + (kpC 2336 0) ≤ 7; omega, by show 0 + 2336 + 146 + 146 + 146 + 146 + 4096 + 8 + (kpS 2336 0) ≤ 7024; omega⟩) hS (fun M1 H locs hR hHs hM hS => ?_)
      obtain ⟨ro_206, nr_206, rw_206, g1_206, ⟨hmo_206, hro_206, hno_206, hfi_206, hse_206, ht3_206, hle_206, hap_206⟩, hkp_206, hrr_206⟩ := id hR
      exact wr_return hx hb hr hlk hM hS (by omega) (by omega) (MoMade.of hR (fun P hp h => (Keep.dn_new (Keep.dn_own (Keep.dn_new (Keep.dn_new (Keep.dn_new (Keep.dn_new (Keep.dn_new (Keep.dn_new h ((mu_n (Ne.symm hne_q53_q61)).trans ((mu_n (Ne.symm hne_q44_q61)).trans ((mu_n (Ne.symm hne_q35_q61)).trans ((mu_n (Ne.symm hne_q26_q61)).trans ((mu_n (Ne.symm hne_q17_q61)).trans ((mu_n (Ne.symm hne_mo_q61)).trans ((mu_n (Ne.symm hne_q8_q61)).trans hf_q61)))))))) ((mu_n (Ne.symm hne_q44_q53)).trans ((mu_n (Ne.symm hne_q35_q53)).trans ((mu_n (Ne.symm hne_q26_q53)).trans ((mu_n (Ne.symm hne_q17_q53)).trans ((mu_n (Ne.symm hne_mo_q53)).trans ((mu_n (Ne.symm hne_q8_q53)).trans hf_q53))))))) ((mu_n (Ne.symm hne_q35_q44)).trans ((mu_n (Ne.symm hne_q26_q44)).trans ((mu_n (Ne.symm hne_q17_q44)).trans ((mu_n (Ne.symm hne_mo_q44)).trans ((mu_n (Ne.symm hne_q8_q44)).trans hf_q44)))))) ((mu_n (Ne.symm hne_q26_q35)).trans ((mu_n (Ne.symm hne_q17_q35)).trans ((mu_n (Ne.symm hne_mo_q35)).trans ((mu_n (Ne.symm hne_q8_q35)).trans hf_q35))))) ((mu_n (Ne.symm hne_q17_q26)).trans ((mu_n (Ne.symm hne_mo_q26)).trans ((mu_n (Ne.symm hne_q8_q26)).trans hf_q26)))) ((mu_n (Ne.symm hne_mo_q17)).trans ((mu_n (Ne.symm hne_q8_q17)).trans hf_q17))) hp) hf_q8)) hL ⟨hf_q8, hAq_8⟩ ⟨hf_q17, hAq_17⟩ ⟨hf_q26, hAq_26⟩ ⟨hf_q35, hAq_35⟩ ⟨hf_q44, hAq_44⟩ hf_q53) dX4_init_209
    · skip
      exfalso; omega
  · rintro n ih i hin H locs hM hS ls hl
    try dsimp only at hl hin hM
    refine lv_iload_n hx hb dX4_init_110 rfl (lv_at hl 0 rfl) ?_
    refine lv_bipush (v := nI 8) hx hb dX4_init_111 (by decide) ?_
    refine ni_ge (tgt := 174) hx hb i 8 (by omega) (by omega) dX4_init_113 (by decide) (fun c_113 => ?_) (fun c_113 => ?_)
    · skip
      exfalso; omega
    · skip
      refine lv_aload_n hx hb dX4_init_116 rfl (lv_at hl 1 rfl) ?_
      refine w_get (C := RX4) (T := TX4) (N := 11) (ci := 3) hx hb hts hown hK hM inX4 rfl 5 (by decide) qw_4_89 rfl (mu_g hne_mo_q61 (mu_g hne_mo_q53 (mu_g hne_mo_q44 (mu_g hne_mo_q35 (mu_g hne_mo_q26 (mu_g hne_mo_q17 mu_s)))))) rfl dX4_init_117 ?_
      refine lv_iload_n hx hb dX4_init_120 rfl (lv_at hl 0 rfl) ?_
      refine lv_bipush (v := nI 8) hx hb dX4_init_121 (by decide) ?_
      refine lv_aload_n hx hb dX4_init_123 rfl (lv_at hl 1 rfl) ?_
      refine w_get (C := RX4) (T := TX4) (N := 11) (ci := 3) hx hb hts hown hK hM inX4 rfl 10 (by decide) qw_4_94 rfl (mu_g hne_mo_q61 (mu_g hne_mo_q53 (mu_g hne_mo_q44 (mu_g hne_mo_q35 (mu_g hne_mo_q26 (mu_g hne_mo_q17 mu_s)))))) rfl dX4_init_124 ?_
      refine lv_iload_n hx hb dX4_init_127 rfl (lv_at hl 0 rfl) ?_
      refine w_iald hx hb hK hM mu_s i (by omega) (by decide) dX4_init_128 ?_
      refine lv_iadd hx hb dX4_init_129 ?_
      refine w_iast hx hb hK hM hS (mu_g hne_q17_q61 (mu_g hne_q17_q53 (mu_g hne_q17_q44 (mu_g hne_q17_q35 (mu_g hne_q17_q26 mu_s))))) hAq_17 i (by omega) (by decide) dX4_init_130 (fun H locs hM hS => ?_)
      rw [mu_comm (Ne.symm hne_q17_q61), mu_comm (Ne.symm hne_q17_q53), mu_comm (Ne.symm hne_q17_q44), mu_comm (Ne.symm hne_q17_q35), mu_comm (Ne.symm hne_q17_q26), mu_mu] at hM
      refine lv_aload_n hx hb dX4_init_131 rfl (lv_at hl 1 rfl) ?_
      refine w_get (C := RX4) (T := TX4) (N := 11) (ci := 3) hx hb hts hown hK hM inX4 rfl 5 (by decide) qw_4_89 rfl (mu_g hne_mo_q61 (mu_g hne_mo_q53 (mu_g hne_mo_q44 (mu_g hne_mo_q35 (mu_g hne_mo_q26 (mu_g hne_mo_q17 mu_s)))))) rfl dX4_init_132 ?_
      refine lv_bipush (v := nI 8) hx hb dX4_init_135 (by decide) ?_
      refine lv_iload_n hx hb dX4_init_137 rfl (lv_at hl 0 rfl) ?_
      refine ni_add hx hb 8 i dX4_init_138 ?_
      refine lv_bipush (v := nI 14) hx hb dX4_init_139 (by decide) ?_
      refine w_iast hx hb hK hM hS (mu_g hne_q17_q61 (mu_g hne_q17_q53 (mu_g hne_q17_q44 (mu_g hne_q17_q35 (mu_g hne_q17_q26 mu_s))))) hAq_17 (8 + i) (by omega) (by decide) dX4_init_141 (fun H locs hM hS => ?_)
      rw [mu_comm (Ne.symm hne_q17_q61), mu_comm (Ne.symm hne_q17_q53), mu_comm (Ne.symm hne_q17_q44), mu_comm (Ne.symm hne_q17_q35), mu_comm (Ne.symm hne_q17_q26), mu_mu] at hM
      refine lv_aload_n hx hb dX4_init_142 rfl (lv_at hl 1 rfl) ?_
      refine w_get (C := RX4) (T := TX4) (N := 11) (ci := 3) hx hb hts hown hK hM inX4 rfl 5 (by decide) qw_4_89 rfl (mu_g hne_mo_q61 (mu_g hne_mo_q53 (mu_g hne_mo_q44 (mu_g hne_mo_q35 (mu_g hne_mo_q26 (mu_g hne_mo_q17 mu_s)))))) rfl dX4_init_143 ?_
      refine lv_bipush (v := nI 48) hx hb dX4_init_146 (by decide) ?_
      refine lv_iload_n hx hb dX4_init_148 rfl (lv_at hl 0 rfl) ?_
      refine ni_add hx hb 48 i dX4_init_149 ?_
      refine lv_bipush (v := nI 6) hx hb dX4_init_150 (by decide) ?_
      refine w_iast hx hb hK hM hS (mu_g hne_q17_q61 (mu_g hne_q17_q53 (mu_g hne_q17_q44 (mu_g hne_q17_q35 (mu_g hne_q17_q26 mu_s))))) hAq_17 (48 + i) (by omega) (by decide) dX4_init_152 (fun H locs hM hS => ?_)
      rw [mu_comm (Ne.symm hne_q17_q61), mu_comm (Ne.symm hne_q17_q53), mu_comm (Ne.symm hne_q17_q44), mu_comm (Ne.symm hne_q17_q35), mu_comm (Ne.symm hne_q17_q26), mu_mu] at hM
      refine lv_aload_n hx hb dX4_init_153 rfl (lv_at hl 1 rfl) ?_
      refine w_get (C := RX4) (T := TX4) (N := 11) (ci := 3) hx hb hts hown hK hM inX4 rfl 5 (by decide) qw_4_89 rfl (mu_g hne_mo_q61 (mu_g hne_mo_q53 (mu_g hne_mo_q44 (mu_g hne_mo_q35 (mu_g hne_mo_q26 (mu_g hne_mo_q17 mu_s)))))) rfl dX4_init_154 ?_
      refine lv_bipush (v := nI 56) hx hb dX4_init_157 (by decide) ?_
      refine lv_iload_n hx hb dX4_init_159 rfl (lv_at hl 0 rfl) ?_
      refine ni_add hx hb 56 i dX4_init_160 ?_
      refine lv_aload_n hx hb dX4_init_161 rfl (lv_at hl 1 rfl) ?_
      refine w_get (C := RX4) (T := TX4) (N := 11) (ci := 3) hx hb hts hown hK hM inX4 rfl 10 (by decide) qw_4_94 rfl (mu_g hne_mo_q61 (mu_g hne_mo_q53 (mu_g hne_mo_q44 (mu_g hne_mo_q35 (mu_g hne_mo_q26 (mu_g hne_mo_q17 mu_s)))))) rfl dX4_init_162 ?_
      refine lv_iload_n hx hb dX4_init_165 rfl (lv_at hl 0 rfl) ?_
      refine w_iald hx hb hK hM mu_s i (by omega) (by decide) dX4_init_166 ?_
      refine w_iast hx hb hK hM hS (mu_g hne_q17_q61 (mu_g hne_q17_q53 (mu_g hne_q17_q44 (mu_g hne_q17_q35 (mu_g hne_q17_q26 mu_s))))) hAq_17 (56 + i) (by omega) (by decide) dX4_init_167 (fun H locs hM hS => ?_)
      rw [mu_comm (Ne.symm hne_q17_q61), mu_comm (Ne.symm hne_q17_q53), mu_comm (Ne.symm hne_q17_q44), mu_comm (Ne.symm hne_q17_q35), mu_comm (Ne.symm hne_q17_q26), mu_mu] at hM
      refine ni_iinc (lv' := [(1, .int (nI (i + 1))), (0, .ref mo)]) hx hb i 1 dX4_init_168 hl (k := 0) rfl (by decide) (by decide) rfl (fun ls hl => ?_)
      refine lv_goto (tgt := 110) hx hb dX4_init_171 (by decide) ?_
      replace hM : HM D (mu (mu (mu (mu (mu (mu (mu (mu M q8 (eI cI 2336 (fun _ => 0))) mo (.inr (3, [.int (nI 0), .int (bI false), .ref q8, .int (nI 0), .int (nI 0), .ref q17, .ref q26, .ref q35, .ref q44, .ref q53, .ref q61]))) q17 (eI cI 146 (mIniL (mClr (fun _ => 0) 146) (i + 1)))) q26 (eI cI 146 (fun _ => 0))) q35 (eI cI 146 (fun _ => 0))) q44 (eI cI 146 (fun _ => 0))) q53 (eI cI 4096 lf)) q61 (eI cI 8 mOrd)) H := hM
      exact ih (i + 1) (by omega) _ _ hM hS ls (lv_sub hl [0,1] rfl)
