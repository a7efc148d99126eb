theorem dq0 {p : Nat → Instr × Nat → Prop} {d : ∀ a b, Decidable (p a b)} {l : List (Nat × Instr × Nat)} (h : l.all (fun t => @decide (p t.1 t.2) (d t.1 t.2)) = true) {pc : Nat} {v : Instr × Nat} (i : Nat) (hi : l[i]? = some (pc, v)) : p pc v := @of_decide_eq_true _ (d pc v) (List.all_eq_true.mp h (pc, v) (List.mem_of_getElem? hi))
theorem dm_cX0_init_0 : ([(0, .aload_n 0, 1), (1, .invokespecial 1, 3), (4, .aload_n 0, 1), (5, .aload_n 1, 1), (6, .putfield 7, 3), (9, .aload_n 0, 1), (10, .aload_n 1, 1), (11, .ifnonnull 7, 3), (14, .iconst 0, 1), (15, .goto 9, 3), (18, .aload_n 1, 1), (19, .getfield 13, 3), (22, .iconst 1, 1), (23, .iadd, 1), (24, .putfield 13, 3), (27, .aload_n 0, 1), (28, .new 17, 3), (31, .dup, 1), (32, .invokespecial 19, 3), (35, .putfield 20, 3), (38, .return_, 1)] : List (Nat × Instr × Nat)).all (fun t => decide (decode cX0_init t.1 = .ok t.2)) = true := by decide +kernel
theorem dX0_init_0 : decode cX0_init 0 = .ok (.aload_n 0, 1) := dq0 (p := fun a b => decode cX0_init a = .ok b) dm_cX0_init_0 0 rfl
theorem dX0_init_1 : decode cX0_init 1 = .ok (.invokespecial 1, 3) := dq0 (p := fun a b => decode cX0_init a = .ok b) dm_cX0_init_0 1 rfl
theorem dX0_init_4 : decode cX0_init 4 = .ok (.aload_n 0, 1) := dq0 (p := fun a b => decode cX0_init a = .ok b) dm_cX0_init_0 2 rfl
theorem dX0_init_5 : decode cX0_init 5 = .ok (.aload_n 1, 1) := dq0 (p := fun a b => decode cX0_init a = .ok b) dm_cX0_init_0 3 rfl
theorem dX0_init_6 : decode cX0_init 6 = .ok (.putfield 7, 3) := dq0 (p := fun a b => decode cX0_init a = .ok b) dm_cX0_init_0 4 rfl
theorem dX0_init_9 : decode cX0_init 9 = .ok (.aload_n 0, 1) := dq0 (p := fun a b => decode cX0_init a = .ok b) dm_cX0_init_0 5 rfl
theorem dX0_init_10 : decode cX0_init 10 = .ok (.aload_n 1, 1) := dq0 (p := fun a b => decode cX0_init a = .ok b) dm_cX0_init_0 6 rfl
theorem dX0_init_11 : decode cX0_init 11 = .ok (.ifnonnull 7, 3) := dq0 (p := fun a b => decode cX0_init a = .ok b) dm_cX0_init_0 7 rfl
theorem dX0_init_14 : decode cX0_init 14 = .ok (.iconst 0, 1) := dq0 (p := fun a b => decode cX0_init a = .ok b) dm_cX0_init_0 8 rfl
theorem dX0_init_15 : decode cX0_init 15 = .ok (.goto 9, 3) := dq0 (p := fun a b => decode cX0_init a = .ok b) dm_cX0_init_0 9 rfl
theorem dX0_init_18 : decode cX0_init 18 = .ok (.aload_n 1, 1) := dq0 (p := fun a b => decode cX0_init a = .ok b) dm_cX0_init_0 10 rfl
theorem dX0_init_19 : decode cX0_init 19 = .ok (.getfield 13, 3) := dq0 (p := fun a b => decode cX0_init a = .ok b) dm_cX0_init_0 11 rfl
theorem dX0_init_22 : decode cX0_init 22 = .ok (.iconst 1, 1) := dq0 (p := fun a b => decode cX0_init a = .ok b) dm_cX0_init_0 12 rfl
theorem dX0_init_23 : decode cX0_init 23 = .ok (.iadd, 1) := dq0 (p := fun a b => decode cX0_init a = .ok b) dm_cX0_init_0 13 rfl
theorem dX0_init_24 : decode cX0_init 24 = .ok (.putfield 13, 3) := dq0 (p := fun a b => decode cX0_init a = .ok b) dm_cX0_init_0 14 rfl
theorem dX0_init_27 : decode cX0_init 27 = .ok (.aload_n 0, 1) := dq0 (p := fun a b => decode cX0_init a = .ok b) dm_cX0_init_0 15 rfl
theorem dX0_init_28 : decode cX0_init 28 = .ok (.new 17, 3) := dq0 (p := fun a b => decode cX0_init a = .ok b) dm_cX0_init_0 16 rfl
theorem dX0_init_31 : decode cX0_init 31 = .ok (.dup, 1) := dq0 (p := fun a b => decode cX0_init a = .ok b) dm_cX0_init_0 17 rfl
theorem dX0_init_32 : decode cX0_init 32 = .ok (.invokespecial 19, 3) := dq0 (p := fun a b => decode cX0_init a = .ok b) dm_cX0_init_0 18 rfl
theorem dX0_init_35 : decode cX0_init 35 = .ok (.putfield 20, 3) := dq0 (p := fun a b => decode cX0_init a = .ok b) dm_cX0_init_0 19 rfl
theorem dX0_init_38 : decode cX0_init 38 = .ok (.return_, 1) := dq0 (p := fun a b => decode cX0_init a = .ok b) dm_cX0_init_0 20 rfl
theorem dm_cX1_init_0 : ([(0, .aload_n 0, 1), (1, .invokespecial 3, 3), (4, .aload_n 0, 1), (5, .bipush 7, 2), (7, .newarray .long, 2), (9, .putfield 9, 3), (12, .aload_n 0, 1), (13, .bipush 64, 2), (15, .newarray .int, 2), (17, .putfield 15, 3), (20, .aload_n 0, 1), (21, .getfield 15, 3), (24, .iconst (-1), 1), (25, .invokestatic 19, 3), (28, .aload_n 0, 1), (29, .iconst 1, 1), (30, .putfield 25, 3), (33, .return_, 1)] : List (Nat × Instr × Nat)).all (fun t => decide (decode cX1_init t.1 = .ok t.2)) = true := by decide +kernel
theorem dX1_init_0 : decode cX1_init 0 = .ok (.aload_n 0, 1) := dq0 (p := fun a b => decode cX1_init a = .ok b) dm_cX1_init_0 0 rfl
theorem dX1_init_1 : decode cX1_init 1 = .ok (.invokespecial 3, 3) := dq0 (p := fun a b => decode cX1_init a = .ok b) dm_cX1_init_0 1 rfl
theorem dX1_init_4 : decode cX1_init 4 = .ok (.aload_n 0, 1) := dq0 (p := fun a b => decode cX1_init a = .ok b) dm_cX1_init_0 2 rfl
theorem dX1_init_5 : decode cX1_init 5 = .ok (.bipush 7, 2) := dq0 (p := fun a b => decode cX1_init a = .ok b) dm_cX1_init_0 3 rfl
theorem dX1_init_7 : decode cX1_init 7 = .ok (.newarray .long, 2) := dq0 (p := fun a b => decode cX1_init a = .ok b) dm_cX1_init_0 4 rfl
theorem dX1_init_9 : decode cX1_init 9 = .ok (.putfield 9, 3) := dq0 (p := fun a b => decode cX1_init a = .ok b) dm_cX1_init_0 5 rfl
theorem dX1_init_12 : decode cX1_init 12 = .ok (.aload_n 0, 1) := dq0 (p := fun a b => decode cX1_init a = .ok b) dm_cX1_init_0 6 rfl
theorem dX1_init_13 : decode cX1_init 13 = .ok (.bipush 64, 2) := dq0 (p := fun a b => decode cX1_init a = .ok b) dm_cX1_init_0 7 rfl
theorem dX1_init_15 : decode cX1_init 15 = .ok (.newarray .int, 2) := dq0 (p := fun a b => decode cX1_init a = .ok b) dm_cX1_init_0 8 rfl
theorem dX1_init_17 : decode cX1_init 17 = .ok (.putfield 15, 3) := dq0 (p := fun a b => decode cX1_init a = .ok b) dm_cX1_init_0 9 rfl
theorem dX1_init_20 : decode cX1_init 20 = .ok (.aload_n 0, 1) := dq0 (p := fun a b => decode cX1_init a = .ok b) dm_cX1_init_0 10 rfl
theorem dX1_init_21 : decode cX1_init 21 = .ok (.getfield 15, 3) := dq0 (p := fun a b => decode cX1_init a = .ok b) dm_cX1_init_0 11 rfl
theorem dX1_init_24 : decode cX1_init 24 = .ok (.iconst (-1), 1) := dq0 (p := fun a b => decode cX1_init a = .ok b) dm_cX1_init_0 12 rfl
theorem dX1_init_25 : decode cX1_init 25 = .ok (.invokestatic 19, 3) := dq0 (p := fun a b => decode cX1_init a = .ok b) dm_cX1_init_0 13 rfl
theorem dX1_init_28 : decode cX1_init 28 = .ok (.aload_n 0, 1) := dq0 (p := fun a b => decode cX1_init a = .ok b) dm_cX1_init_0 14 rfl
theorem dX1_init_29 : decode cX1_init 29 = .ok (.iconst 1, 1) := dq0 (p := fun a b => decode cX1_init a = .ok b) dm_cX1_init_0 15 rfl
theorem dX1_init_30 : decode cX1_init 30 = .ok (.putfield 25, 3) := dq0 (p := fun a b => decode cX1_init a = .ok b) dm_cX1_init_0 16 rfl
theorem dX1_init_33 : decode cX1_init 33 = .ok (.return_, 1) := dq0 (p := fun a b => decode cX1_init a = .ok b) dm_cX1_init_0 17 rfl
theorem dm_cX1_empty_0 : ([(0, .aload_n 0, 1), (1, .getfield 9, 3), (4, .lconst 0, 1), (5, .invokestatic 29, 3), (8, .aload_n 0, 1), (9, .getfield 15, 3), (12, .iconst (-1), 1), (13, .invokestatic 19, 3), (16, .aload_n 0, 1), (17, .lconst 0, 1), (18, .putfield 32, 3), (21, .aload_n 0, 1), (22, .lconst 0, 1), (23, .putfield 36, 3), (26, .aload_n 0, 1), (27, .iconst 1, 1), (28, .putfield 25, 3), (31, .return_, 1)] : List (Nat × Instr × Nat)).all (fun t => decide (decode cX1_empty t.1 = .ok t.2)) = true := by decide +kernel
theorem dX1_empty_0 : decode cX1_empty 0 = .ok (.aload_n 0, 1) := dq0 (p := fun a b => decode cX1_empty a = .ok b) dm_cX1_empty_0 0 rfl
theorem dX1_empty_1 : decode cX1_empty 1 = .ok (.getfield 9, 3) := dq0 (p := fun a b => decode cX1_empty a = .ok b) dm_cX1_empty_0 1 rfl
theorem dX1_empty_4 : decode cX1_empty 4 = .ok (.lconst 0, 1) := dq0 (p := fun a b => decode cX1_empty a = .ok b) dm_cX1_empty_0 2 rfl
theorem dX1_empty_5 : decode cX1_empty 5 = .ok (.invokestatic 29, 3) := dq0 (p := fun a b => decode cX1_empty a = .ok b) dm_cX1_empty_0 3 rfl
theorem dX1_empty_8 : decode cX1_empty 8 = .ok (.aload_n 0, 1) := dq0 (p := fun a b => decode cX1_empty a = .ok b) dm_cX1_empty_0 4 rfl
theorem dX1_empty_9 : decode cX1_empty 9 = .ok (.getfield 15, 3) := dq0 (p := fun a b => decode cX1_empty a = .ok b) dm_cX1_empty_0 5 rfl
theorem dX1_empty_12 : decode cX1_empty 12 = .ok (.iconst (-1), 1) := dq0 (p := fun a b => decode cX1_empty a = .ok b) dm_cX1_empty_0 6 rfl
theorem dX1_empty_13 : decode cX1_empty 13 = .ok (.invokestatic 19, 3) := dq0 (p := fun a b => decode cX1_empty a = .ok b) dm_cX1_empty_0 7 rfl
theorem dX1_empty_16 : decode cX1_empty 16 = .ok (.aload_n 0, 1) := dq0 (p := fun a b => decode cX1_empty a = .ok b) dm_cX1_empty_0 8 rfl
theorem dX1_empty_17 : decode cX1_empty 17 = .ok (.lconst 0, 1) := dq0 (p := fun a b => decode cX1_empty a = .ok b) dm_cX1_empty_0 9 rfl
theorem dX1_empty_18 : decode cX1_empty 18 = .ok (.putfield 32, 3) := dq0 (p := fun a b => decode cX1_empty a = .ok b) dm_cX1_empty_0 10 rfl
theorem dX1_empty_21 : decode cX1_empty 21 = .ok (.aload_n 0, 1) := dq0 (p := fun a b => decode cX1_empty a = .ok b) dm_cX1_empty_0 11 rfl
theorem dX1_empty_22 : decode cX1_empty 22 = .ok (.lconst 0, 1) := dq0 (p := fun a b => decode cX1_empty a = .ok b) dm_cX1_empty_0 12 rfl
theorem dX1_empty_23 : decode cX1_empty 23 = .ok (.putfield 36, 3) := dq0 (p := fun a b => decode cX1_empty a = .ok b) dm_cX1_empty_0 13 rfl
theorem dX1_empty_26 : decode cX1_empty 26 = .ok (.aload_n 0, 1) := dq0 (p := fun a b => decode cX1_empty a = .ok b) dm_cX1_empty_0 14 rfl
theorem dX1_empty_27 : decode cX1_empty 27 = .ok (.iconst 1, 1) := dq0 (p := fun a b => decode cX1_empty a = .ok b) dm_cX1_empty_0 15 rfl
theorem dX1_empty_28 : decode cX1_empty 28 = .ok (.putfield 25, 3) := dq0 (p := fun a b => decode cX1_empty a = .ok b) dm_cX1_empty_0 16 rfl
theorem dX1_empty_31 : decode cX1_empty 31 = .ok (.return_, 1) := dq0 (p := fun a b => decode cX1_empty a = .ok b) dm_cX1_empty_0 17 rfl
theorem dm_cX1_copyFrom_0 : ([(0, .aload_n 1, 1), (1, .getfield 9, 3), (4, .iconst 0, 1), (5, .aload_n 0, 1), (6, .getfield 9, 3), (9, .iconst 0, 1), (10, .bipush 7, 2), (12, .invokestatic 39, 3), (15, .aload_n 1, 1), (16, .getfield 15, 3), (19, .iconst 0, 1), (20, .aload_n 0, 1), (21, .getfield 15, 3), (24, .iconst 0, 1), (25, .bipush 64, 2), (27, .invokestatic 39, 3), (30, .aload_n 0, 1), (31, .aload_n 1, 1), (32, .getfield 32, 3), (35, .putfield 32, 3), (38, .aload_n 0, 1), (39, .aload_n 1, 1), (40, .getfield 36, 3), (43, .putfield 36, 3), (46, .aload_n 0, 1), (47, .aload_n 1, 1), (48, .getfield 25, 3), (51, .putfield 25, 3), (54, .return_, 1)] : List (Nat × Instr × Nat)).all (fun t => decide (decode cX1_copyFrom t.1 = .ok t.2)) = true := by decide +kernel
theorem dX1_copyFrom_0 : decode cX1_copyFrom 0 = .ok (.aload_n 1, 1) := dq0 (p := fun a b => decode cX1_copyFrom a = .ok b) dm_cX1_copyFrom_0 0 rfl
theorem dX1_copyFrom_1 : decode cX1_copyFrom 1 = .ok (.getfield 9, 3) := dq0 (p := fun a b => decode cX1_copyFrom a = .ok b) dm_cX1_copyFrom_0 1 rfl
theorem dX1_copyFrom_4 : decode cX1_copyFrom 4 = .ok (.iconst 0, 1) := dq0 (p := fun a b => decode cX1_copyFrom a = .ok b) dm_cX1_copyFrom_0 2 rfl
theorem dX1_copyFrom_5 : decode cX1_copyFrom 5 = .ok (.aload_n 0, 1) := dq0 (p := fun a b => decode cX1_copyFrom a = .ok b) dm_cX1_copyFrom_0 3 rfl
theorem dX1_copyFrom_6 : decode cX1_copyFrom 6 = .ok (.getfield 9, 3) := dq0 (p := fun a b => decode cX1_copyFrom a = .ok b) dm_cX1_copyFrom_0 4 rfl
theorem dX1_copyFrom_9 : decode cX1_copyFrom 9 = .ok (.iconst 0, 1) := dq0 (p := fun a b => decode cX1_copyFrom a = .ok b) dm_cX1_copyFrom_0 5 rfl
theorem dX1_copyFrom_10 : decode cX1_copyFrom 10 = .ok (.bipush 7, 2) := dq0 (p := fun a b => decode cX1_copyFrom a = .ok b) dm_cX1_copyFrom_0 6 rfl
theorem dX1_copyFrom_12 : decode cX1_copyFrom 12 = .ok (.invokestatic 39, 3) := dq0 (p := fun a b => decode cX1_copyFrom a = .ok b) dm_cX1_copyFrom_0 7 rfl
theorem dX1_copyFrom_15 : decode cX1_copyFrom 15 = .ok (.aload_n 1, 1) := dq0 (p := fun a b => decode cX1_copyFrom a = .ok b) dm_cX1_copyFrom_0 8 rfl
theorem dX1_copyFrom_16 : decode cX1_copyFrom 16 = .ok (.getfield 15, 3) := dq0 (p := fun a b => decode cX1_copyFrom a = .ok b) dm_cX1_copyFrom_0 9 rfl
theorem dX1_copyFrom_19 : decode cX1_copyFrom 19 = .ok (.iconst 0, 1) := dq0 (p := fun a b => decode cX1_copyFrom a = .ok b) dm_cX1_copyFrom_0 10 rfl
theorem dX1_copyFrom_20 : decode cX1_copyFrom 20 = .ok (.aload_n 0, 1) := dq0 (p := fun a b => decode cX1_copyFrom a = .ok b) dm_cX1_copyFrom_0 11 rfl
theorem dX1_copyFrom_21 : decode cX1_copyFrom 21 = .ok (.getfield 15, 3) := dq0 (p := fun a b => decode cX1_copyFrom a = .ok b) dm_cX1_copyFrom_0 12 rfl
theorem dX1_copyFrom_24 : decode cX1_copyFrom 24 = .ok (.iconst 0, 1) := dq0 (p := fun a b => decode cX1_copyFrom a = .ok b) dm_cX1_copyFrom_0 13 rfl
theorem dX1_copyFrom_25 : decode cX1_copyFrom 25 = .ok (.bipush 64, 2) := dq0 (p := fun a b => decode cX1_copyFrom a = .ok b) dm_cX1_copyFrom_0 14 rfl
theorem dX1_copyFrom_27 : decode cX1_copyFrom 27 = .ok (.invokestatic 39, 3) := dq0 (p := fun a b => decode cX1_copyFrom a = .ok b) dm_cX1_copyFrom_0 15 rfl
theorem dX1_copyFrom_30 : decode cX1_copyFrom 30 = .ok (.aload_n 0, 1) := dq0 (p := fun a b => decode cX1_copyFrom a = .ok b) dm_cX1_copyFrom_0 16 rfl
theorem dX1_copyFrom_31 : decode cX1_copyFrom 31 = .ok (.aload_n 1, 1) := dq0 (p := fun a b => decode cX1_copyFrom a = .ok b) dm_cX1_copyFrom_0 17 rfl
theorem dX1_copyFrom_32 : decode cX1_copyFrom 32 = .ok (.getfield 32, 3) := dq0 (p := fun a b => decode cX1_copyFrom a = .ok b) dm_cX1_copyFrom_0 18 rfl
theorem dX1_copyFrom_35 : decode cX1_copyFrom 35 = .ok (.putfield 32, 3) := dq0 (p := fun a b => decode cX1_copyFrom a = .ok b) dm_cX1_copyFrom_0 19 rfl
theorem dX1_copyFrom_38 : decode cX1_copyFrom 38 = .ok (.aload_n 0, 1) := dq0 (p := fun a b => decode cX1_copyFrom a = .ok b) dm_cX1_copyFrom_0 20 rfl
theorem dX1_copyFrom_39 : decode cX1_copyFrom 39 = .ok (.aload_n 1, 1) := dq0 (p := fun a b => decode cX1_copyFrom a = .ok b) dm_cX1_copyFrom_0 21 rfl
theorem dX1_copyFrom_40 : decode cX1_copyFrom 40 = .ok (.getfield 36, 3) := dq0 (p := fun a b => decode cX1_copyFrom a = .ok b) dm_cX1_copyFrom_0 22 rfl
theorem dX1_copyFrom_43 : decode cX1_copyFrom 43 = .ok (.putfield 36, 3) := dq0 (p := fun a b => decode cX1_copyFrom a = .ok b) dm_cX1_copyFrom_0 23 rfl
theorem dX1_copyFrom_46 : decode cX1_copyFrom 46 = .ok (.aload_n 0, 1) := dq0 (p := fun a b => decode cX1_copyFrom a = .ok b) dm_cX1_copyFrom_0 24 rfl
theorem dX1_copyFrom_47 : decode cX1_copyFrom 47 = .ok (.aload_n 1, 1) := dq0 (p := fun a b => decode cX1_copyFrom a = .ok b) dm_cX1_copyFrom_0 25 rfl
theorem dX1_copyFrom_48 : decode cX1_copyFrom 48 = .ok (.getfield 25, 3) := dq0 (p := fun a b => decode cX1_copyFrom a = .ok b) dm_cX1_copyFrom_0 26 rfl
theorem dX1_copyFrom_51 : decode cX1_copyFrom 51 = .ok (.putfield 25, 3) := dq0 (p := fun a b => decode cX1_copyFrom a = .ok b) dm_cX1_copyFrom_0 27 rfl
theorem dX1_copyFrom_54 : decode cX1_copyFrom 54 = .ok (.return_, 1) := dq0 (p := fun a b => decode cX1_copyFrom a = .ok b) dm_cX1_copyFrom_0 28 rfl
theorem dm_cX1_matches_0 : ([(0, .aload_n 0, 1), (1, .getfield 32, 3), (4, .aload_n 1, 1), (5, .getfield 32, 3), (8, .lcmp, 1), (9, .ifCond .ne 26, 3), (12, .aload_n 0, 1), (13, .getfield 36, 3), (16, .aload_n 1, 1), (17, .getfield 36, 3), (20, .lcmp, 1), (21, .ifCond .ne 14, 3), (24, .aload_n 0, 1), (25, .getfield 25, 3), (28, .aload_n 1, 1), (29, .getfield 25, 3), (32, .if_icmp .eq 5, 3), (35, .iconst 0, 1), (36, .ireturn, 1), (37, .iconst 1, 1), (38, .istore_n 2, 1), (39, .iload_n 2, 1), (40, .bipush 7, 2), (42, .if_icmp .ge 27, 3), (45, .aload_n 0, 1), (46, .getfield 9, 3), (49, .iload_n 2, 1), (50, .laload, 1), (51, .aload_n 1, 1), (52, .getfield 9, 3), (55, .iload_n 2, 1), (56, .laload, 1), (57, .lcmp, 1), (58, .ifCond .eq 5, 3), (61, .iconst 0, 1), (62, .ireturn, 1), (63, .iinc 2 1, 3), (66, .goto (-27), 3), (69, .iconst 0, 1), (70, .istore_n 2, 1), (71, .iload_n 2, 1), (72, .bipush 64, 2), (74, .if_icmp .ge 26, 3), (77, .aload_n 0, 1), (78, .getfield 15, 3), (81, .iload_n 2, 1), (82, .iaload, 1), (83, .aload_n 1, 1), (84, .getfield 15, 3), (87, .iload_n 2, 1), (88, .iaload, 1), (89, .if_icmp .eq 5, 3), (92, .iconst 0, 1), (93, .ireturn, 1), (94, .iinc 2 1, 3), (97, .goto (-26), 3), (100, .iconst 1, 1), (101, .ireturn, 1)] : List (Nat × Instr × Nat)).all (fun t => decide (decode cX1_matches t.1 = .ok t.2)) = true := by decide +kernel
theorem dX1_matches_0 : decode cX1_matches 0 = .ok (.aload_n 0, 1) := dq0 (p := fun a b => decode cX1_matches a = .ok b) dm_cX1_matches_0 0 rfl
theorem dX1_matches_1 : decode cX1_matches 1 = .ok (.getfield 32, 3) := dq0 (p := fun a b => decode cX1_matches a = .ok b) dm_cX1_matches_0 1 rfl
theorem dX1_matches_4 : decode cX1_matches 4 = .ok (.aload_n 1, 1) := dq0 (p := fun a b => decode cX1_matches a = .ok b) dm_cX1_matches_0 2 rfl
theorem dX1_matches_5 : decode cX1_matches 5 = .ok (.getfield 32, 3) := dq0 (p := fun a b => decode cX1_matches a = .ok b) dm_cX1_matches_0 3 rfl
theorem dX1_matches_8 : decode cX1_matches 8 = .ok (.lcmp, 1) := dq0 (p := fun a b => decode cX1_matches a = .ok b) dm_cX1_matches_0 4 rfl
theorem dX1_matches_9 : decode cX1_matches 9 = .ok (.ifCond .ne 26, 3) := dq0 (p := fun a b => decode cX1_matches a = .ok b) dm_cX1_matches_0 5 rfl
theorem dX1_matches_12 : decode cX1_matches 12 = .ok (.aload_n 0, 1) := dq0 (p := fun a b => decode cX1_matches a = .ok b) dm_cX1_matches_0 6 rfl
theorem dX1_matches_13 : decode cX1_matches 13 = .ok (.getfield 36, 3) := dq0 (p := fun a b => decode cX1_matches a = .ok b) dm_cX1_matches_0 7 rfl
theorem dX1_matches_16 : decode cX1_matches 16 = .ok (.aload_n 1, 1) := dq0 (p := fun a b => decode cX1_matches a = .ok b) dm_cX1_matches_0 8 rfl
theorem dX1_matches_17 : decode cX1_matches 17 = .ok (.getfield 36, 3) := dq0 (p := fun a b => decode cX1_matches a = .ok b) dm_cX1_matches_0 9 rfl
theorem dX1_matches_20 : decode cX1_matches 20 = .ok (.lcmp, 1) := dq0 (p := fun a b => decode cX1_matches a = .ok b) dm_cX1_matches_0 10 rfl
theorem dX1_matches_21 : decode cX1_matches 21 = .ok (.ifCond .ne 14, 3) := dq0 (p := fun a b => decode cX1_matches a = .ok b) dm_cX1_matches_0 11 rfl
theorem dX1_matches_24 : decode cX1_matches 24 = .ok (.aload_n 0, 1) := dq0 (p := fun a b => decode cX1_matches a = .ok b) dm_cX1_matches_0 12 rfl
theorem dX1_matches_25 : decode cX1_matches 25 = .ok (.getfield 25, 3) := dq0 (p := fun a b => decode cX1_matches a = .ok b) dm_cX1_matches_0 13 rfl
theorem dX1_matches_28 : decode cX1_matches 28 = .ok (.aload_n 1, 1) := dq0 (p := fun a b => decode cX1_matches a = .ok b) dm_cX1_matches_0 14 rfl
theorem dX1_matches_29 : decode cX1_matches 29 = .ok (.getfield 25, 3) := dq0 (p := fun a b => decode cX1_matches a = .ok b) dm_cX1_matches_0 15 rfl
theorem dX1_matches_32 : decode cX1_matches 32 = .ok (.if_icmp .eq 5, 3) := dq0 (p := fun a b => decode cX1_matches a = .ok b) dm_cX1_matches_0 16 rfl
theorem dX1_matches_35 : decode cX1_matches 35 = .ok (.iconst 0, 1) := dq0 (p := fun a b => decode cX1_matches a = .ok b) dm_cX1_matches_0 17 rfl
theorem dX1_matches_36 : decode cX1_matches 36 = .ok (.ireturn, 1) := dq0 (p := fun a b => decode cX1_matches a = .ok b) dm_cX1_matches_0 18 rfl
theorem dX1_matches_37 : decode cX1_matches 37 = .ok (.iconst 1, 1) := dq0 (p := fun a b => decode cX1_matches a = .ok b) dm_cX1_matches_0 19 rfl
theorem dX1_matches_38 : decode cX1_matches 38 = .ok (.istore_n 2, 1) := dq0 (p := fun a b => decode cX1_matches a = .ok b) dm_cX1_matches_0 20 rfl
theorem dX1_matches_39 : decode cX1_matches 39 = .ok (.iload_n 2, 1) := dq0 (p := fun a b => decode cX1_matches a = .ok b) dm_cX1_matches_0 21 rfl
theorem dX1_matches_40 : decode cX1_matches 40 = .ok (.bipush 7, 2) := dq0 (p := fun a b => decode cX1_matches a = .ok b) dm_cX1_matches_0 22 rfl
theorem dX1_matches_42 : decode cX1_matches 42 = .ok (.if_icmp .ge 27, 3) := dq0 (p := fun a b => decode cX1_matches a = .ok b) dm_cX1_matches_0 23 rfl
theorem dX1_matches_45 : decode cX1_matches 45 = .ok (.aload_n 0, 1) := dq0 (p := fun a b => decode cX1_matches a = .ok b) dm_cX1_matches_0 24 rfl
theorem dX1_matches_46 : decode cX1_matches 46 = .ok (.getfield 9, 3) := dq0 (p := fun a b => decode cX1_matches a = .ok b) dm_cX1_matches_0 25 rfl
theorem dX1_matches_49 : decode cX1_matches 49 = .ok (.iload_n 2, 1) := dq0 (p := fun a b => decode cX1_matches a = .ok b) dm_cX1_matches_0 26 rfl
theorem dX1_matches_50 : decode cX1_matches 50 = .ok (.laload, 1) := dq0 (p := fun a b => decode cX1_matches a = .ok b) dm_cX1_matches_0 27 rfl
theorem dX1_matches_51 : decode cX1_matches 51 = .ok (.aload_n 1, 1) := dq0 (p := fun a b => decode cX1_matches a = .ok b) dm_cX1_matches_0 28 rfl
theorem dX1_matches_52 : decode cX1_matches 52 = .ok (.getfield 9, 3) := dq0 (p := fun a b => decode cX1_matches a = .ok b) dm_cX1_matches_0 29 rfl
theorem dX1_matches_55 : decode cX1_matches 55 = .ok (.iload_n 2, 1) := dq0 (p := fun a b => decode cX1_matches a = .ok b) dm_cX1_matches_0 30 rfl
theorem dX1_matches_56 : decode cX1_matches 56 = .ok (.laload, 1) := dq0 (p := fun a b => decode cX1_matches a = .ok b) dm_cX1_matches_0 31 rfl
theorem dX1_matches_57 : decode cX1_matches 57 = .ok (.lcmp, 1) := dq0 (p := fun a b => decode cX1_matches a = .ok b) dm_cX1_matches_0 32 rfl
theorem dX1_matches_58 : decode cX1_matches 58 = .ok (.ifCond .eq 5, 3) := dq0 (p := fun a b => decode cX1_matches a = .ok b) dm_cX1_matches_0 33 rfl
theorem dX1_matches_61 : decode cX1_matches 61 = .ok (.iconst 0, 1) := dq0 (p := fun a b => decode cX1_matches a = .ok b) dm_cX1_matches_0 34 rfl
theorem dX1_matches_62 : decode cX1_matches 62 = .ok (.ireturn, 1) := dq0 (p := fun a b => decode cX1_matches a = .ok b) dm_cX1_matches_0 35 rfl
theorem dX1_matches_63 : decode cX1_matches 63 = .ok (.iinc 2 1, 3) := dq0 (p := fun a b => decode cX1_matches a = .ok b) dm_cX1_matches_0 36 rfl
theorem dX1_matches_66 : decode cX1_matches 66 = .ok (.goto (-27), 3) := dq0 (p := fun a b => decode cX1_matches a = .ok b) dm_cX1_matches_0 37 rfl
theorem dX1_matches_69 : decode cX1_matches 69 = .ok (.iconst 0, 1) := dq0 (p := fun a b => decode cX1_matches a = .ok b) dm_cX1_matches_0 38 rfl
theorem dX1_matches_70 : decode cX1_matches 70 = .ok (.istore_n 2, 1) := dq0 (p := fun a b => decode cX1_matches a = .ok b) dm_cX1_matches_0 39 rfl
theorem dX1_matches_71 : decode cX1_matches 71 = .ok (.iload_n 2, 1) := dq0 (p := fun a b => decode cX1_matches a = .ok b) dm_cX1_matches_0 40 rfl
theorem dX1_matches_72 : decode cX1_matches 72 = .ok (.bipush 64, 2) := dq0 (p := fun a b => decode cX1_matches a = .ok b) dm_cX1_matches_0 41 rfl
theorem dX1_matches_74 : decode cX1_matches 74 = .ok (.if_icmp .ge 26, 3) := dq0 (p := fun a b => decode cX1_matches a = .ok b) dm_cX1_matches_0 42 rfl
theorem dX1_matches_77 : decode cX1_matches 77 = .ok (.aload_n 0, 1) := dq0 (p := fun a b => decode cX1_matches a = .ok b) dm_cX1_matches_0 43 rfl
theorem dX1_matches_78 : decode cX1_matches 78 = .ok (.getfield 15, 3) := dq0 (p := fun a b => decode cX1_matches a = .ok b) dm_cX1_matches_0 44 rfl
theorem dX1_matches_81 : decode cX1_matches 81 = .ok (.iload_n 2, 1) := dq0 (p := fun a b => decode cX1_matches a = .ok b) dm_cX1_matches_0 45 rfl
theorem dX1_matches_82 : decode cX1_matches 82 = .ok (.iaload, 1) := dq0 (p := fun a b => decode cX1_matches a = .ok b) dm_cX1_matches_0 46 rfl
theorem dX1_matches_83 : decode cX1_matches 83 = .ok (.aload_n 1, 1) := dq0 (p := fun a b => decode cX1_matches a = .ok b) dm_cX1_matches_0 47 rfl
theorem dX1_matches_84 : decode cX1_matches 84 = .ok (.getfield 15, 3) := dq0 (p := fun a b => decode cX1_matches a = .ok b) dm_cX1_matches_0 48 rfl
theorem dX1_matches_87 : decode cX1_matches 87 = .ok (.iload_n 2, 1) := dq0 (p := fun a b => decode cX1_matches a = .ok b) dm_cX1_matches_0 49 rfl
theorem dX1_matches_88 : decode cX1_matches 88 = .ok (.iaload, 1) := dq0 (p := fun a b => decode cX1_matches a = .ok b) dm_cX1_matches_0 50 rfl
theorem dX1_matches_89 : decode cX1_matches 89 = .ok (.if_icmp .eq 5, 3) := dq0 (p := fun a b => decode cX1_matches a = .ok b) dm_cX1_matches_0 51 rfl
theorem dX1_matches_92 : decode cX1_matches 92 = .ok (.iconst 0, 1) := dq0 (p := fun a b => decode cX1_matches a = .ok b) dm_cX1_matches_0 52 rfl
theorem dX1_matches_93 : decode cX1_matches 93 = .ok (.ireturn, 1) := dq0 (p := fun a b => decode cX1_matches a = .ok b) dm_cX1_matches_0 53 rfl
theorem dX1_matches_94 : decode cX1_matches 94 = .ok (.iinc 2 1, 3) := dq0 (p := fun a b => decode cX1_matches a = .ok b) dm_cX1_matches_0 54 rfl
theorem dX1_matches_97 : decode cX1_matches 97 = .ok (.goto (-26), 3) := dq0 (p := fun a b => decode cX1_matches a = .ok b) dm_cX1_matches_0 55 rfl
theorem dX1_matches_100 : decode cX1_matches 100 = .ok (.iconst 1, 1) := dq0 (p := fun a b => decode cX1_matches a = .ok b) dm_cX1_matches_0 56 rfl
theorem dX1_matches_101 : decode cX1_matches 101 = .ok (.ireturn, 1) := dq0 (p := fun a b => decode cX1_matches a = .ok b) dm_cX1_matches_0 57 rfl
theorem dm_cX1_occupied_0 : ([(0, .aload_n 0, 1), (1, .getfield 32, 3), (4, .aload_n 0, 1), (5, .getfield 36, 3), (8, .lor, 1), (9, .lreturn, 1)] : List (Nat × Instr × Nat)).all (fun t => decide (decode cX1_occupied t.1 = .ok t.2)) = true := by decide +kernel
theorem dX1_occupied_0 : decode cX1_occupied 0 = .ok (.aload_n 0, 1) := dq0 (p := fun a b => decode cX1_occupied a = .ok b) dm_cX1_occupied_0 0 rfl
theorem dX1_occupied_1 : decode cX1_occupied 1 = .ok (.getfield 32, 3) := dq0 (p := fun a b => decode cX1_occupied a = .ok b) dm_cX1_occupied_0 1 rfl
theorem dX1_occupied_4 : decode cX1_occupied 4 = .ok (.aload_n 0, 1) := dq0 (p := fun a b => decode cX1_occupied a = .ok b) dm_cX1_occupied_0 2 rfl
theorem dX1_occupied_5 : decode cX1_occupied 5 = .ok (.getfield 36, 3) := dq0 (p := fun a b => decode cX1_occupied a = .ok b) dm_cX1_occupied_0 3 rfl
theorem dX1_occupied_8 : decode cX1_occupied 8 = .ok (.lor, 1) := dq0 (p := fun a b => decode cX1_occupied a = .ok b) dm_cX1_occupied_0 4 rfl
theorem dX1_occupied_9 : decode cX1_occupied 9 = .ok (.lreturn, 1) := dq0 (p := fun a b => decode cX1_occupied a = .ok b) dm_cX1_occupied_0 5 rfl
theorem dm_cX1_side_0 : ([(0, .iload_n 1, 1), (1, .ifCond .eq 10, 3), (4, .aload_n 0, 1), (5, .getfield 32, 3), (8, .goto 7, 3), (11, .aload_n 0, 1), (12, .getfield 36, 3), (15, .lreturn, 1)] : List (Nat × Instr × Nat)).all (fun t => decide (decode cX1_side t.1 = .ok t.2)) = true := by decide +kernel
theorem dX1_side_0 : decode cX1_side 0 = .ok (.iload_n 1, 1) := dq0 (p := fun a b => decode cX1_side a = .ok b) dm_cX1_side_0 0 rfl
theorem dX1_side_1 : decode cX1_side 1 = .ok (.ifCond .eq 10, 3) := dq0 (p := fun a b => decode cX1_side a = .ok b) dm_cX1_side_0 1 rfl
theorem dX1_side_4 : decode cX1_side 4 = .ok (.aload_n 0, 1) := dq0 (p := fun a b => decode cX1_side a = .ok b) dm_cX1_side_0 2 rfl
theorem dX1_side_5 : decode cX1_side 5 = .ok (.getfield 32, 3) := dq0 (p := fun a b => decode cX1_side a = .ok b) dm_cX1_side_0 3 rfl
theorem dX1_side_8 : decode cX1_side 8 = .ok (.goto 7, 3) := dq0 (p := fun a b => decode cX1_side a = .ok b) dm_cX1_side_0 4 rfl
theorem dX1_side_11 : decode cX1_side 11 = .ok (.aload_n 0, 1) := dq0 (p := fun a b => decode cX1_side a = .ok b) dm_cX1_side_0 5 rfl
theorem dX1_side_12 : decode cX1_side 12 = .ok (.getfield 36, 3) := dq0 (p := fun a b => decode cX1_side a = .ok b) dm_cX1_side_0 6 rfl
theorem dX1_side_15 : decode cX1_side 15 = .ok (.lreturn, 1) := dq0 (p := fun a b => decode cX1_side a = .ok b) dm_cX1_side_0 7 rfl
theorem dm_cX1_acting_0 : ([(0, .aload_n 0, 1), (1, .aload_n 0, 1), (2, .getfield 25, 3), (5, .invokevirtual 45, 3), (8, .lreturn, 1)] : List (Nat × Instr × Nat)).all (fun t => decide (decode cX1_acting t.1 = .ok t.2)) = true := by decide +kernel
theorem dX1_acting_0 : decode cX1_acting 0 = .ok (.aload_n 0, 1) := dq0 (p := fun a b => decode cX1_acting a = .ok b) dm_cX1_acting_0 0 rfl
theorem dX1_acting_1 : decode cX1_acting 1 = .ok (.aload_n 0, 1) := dq0 (p := fun a b => decode cX1_acting a = .ok b) dm_cX1_acting_0 1 rfl
theorem dX1_acting_2 : decode cX1_acting 2 = .ok (.getfield 25, 3) := dq0 (p := fun a b => decode cX1_acting a = .ok b) dm_cX1_acting_0 2 rfl
theorem dX1_acting_5 : decode cX1_acting 5 = .ok (.invokevirtual 45, 3) := dq0 (p := fun a b => decode cX1_acting a = .ok b) dm_cX1_acting_0 3 rfl
theorem dX1_acting_8 : decode cX1_acting 8 = .ok (.lreturn, 1) := dq0 (p := fun a b => decode cX1_acting a = .ok b) dm_cX1_acting_0 4 rfl
theorem dm_cX1_kings_0 : ([(0, .aload_n 0, 1), (1, .getfield 9, 3), (4, .iconst 1, 1), (5, .laload, 1), (6, .lreturn, 1)] : List (Nat × Instr × Nat)).all (fun t => decide (decode cX1_kings t.1 = .ok t.2)) = true := by decide +kernel
theorem dX1_kings_0 : decode cX1_kings 0 = .ok (.aload_n 0, 1) := dq0 (p := fun a b => decode cX1_kings a = .ok b) dm_cX1_kings_0 0 rfl
theorem dX1_kings_1 : decode cX1_kings 1 = .ok (.getfield 9, 3) := dq0 (p := fun a b => decode cX1_kings a = .ok b) dm_cX1_kings_0 1 rfl
theorem dX1_kings_4 : decode cX1_kings 4 = .ok (.iconst 1, 1) := dq0 (p := fun a b => decode cX1_kings a = .ok b) dm_cX1_kings_0 2 rfl
theorem dX1_kings_5 : decode cX1_kings 5 = .ok (.laload, 1) := dq0 (p := fun a b => decode cX1_kings a = .ok b) dm_cX1_kings_0 3 rfl
theorem dX1_kings_6 : decode cX1_kings 6 = .ok (.lreturn, 1) := dq0 (p := fun a b => decode cX1_kings a = .ok b) dm_cX1_kings_0 4 rfl
theorem dm_cX1_piecesOfKind_0 : ([(0, .iload_n 1, 1), (1, .iconst 1, 1), (2, .if_icmp .lt 24, 3), (5, .iload_n 1, 1), (6, .bipush 7, 2), (8, .if_icmp .ge 18, 3), (11, .aload_n 0, 1), (12, .getfield 9, 3), (15, .iload_n 1, 1), (16, .laload, 1), (17, .aload_n 0, 1), (18, .iload_n 2, 1), (19, .invokevirtual 45, 3), (22, .land, 1), (23, .goto 4, 3), (26, .lconst 0, 1), (27, .lreturn, 1)] : List (Nat × Instr × Nat)).all (fun t => decide (decode cX1_piecesOfKind t.1 = .ok t.2)) = true := by decide +kernel
theorem dX1_piecesOfKind_0 : decode cX1_piecesOfKind 0 = .ok (.iload_n 1, 1) := dq0 (p := fun a b => decode cX1_piecesOfKind a = .ok b) dm_cX1_piecesOfKind_0 0 rfl
theorem dX1_piecesOfKind_1 : decode cX1_piecesOfKind 1 = .ok (.iconst 1, 1) := dq0 (p := fun a b => decode cX1_piecesOfKind a = .ok b) dm_cX1_piecesOfKind_0 1 rfl
theorem dX1_piecesOfKind_2 : decode cX1_piecesOfKind 2 = .ok (.if_icmp .lt 24, 3) := dq0 (p := fun a b => decode cX1_piecesOfKind a = .ok b) dm_cX1_piecesOfKind_0 2 rfl
theorem dX1_piecesOfKind_5 : decode cX1_piecesOfKind 5 = .ok (.iload_n 1, 1) := dq0 (p := fun a b => decode cX1_piecesOfKind a = .ok b) dm_cX1_piecesOfKind_0 3 rfl
theorem dX1_piecesOfKind_6 : decode cX1_piecesOfKind 6 = .ok (.bipush 7, 2) := dq0 (p := fun a b => decode cX1_piecesOfKind a = .ok b) dm_cX1_piecesOfKind_0 4 rfl
theorem dX1_piecesOfKind_8 : decode cX1_piecesOfKind 8 = .ok (.if_icmp .ge 18, 3) := dq0 (p := fun a b => decode cX1_piecesOfKind a = .ok b) dm_cX1_piecesOfKind_0 5 rfl
theorem dX1_piecesOfKind_11 : decode cX1_piecesOfKind 11 = .ok (.aload_n 0, 1) := dq0 (p := fun a b => decode cX1_piecesOfKind a = .ok b) dm_cX1_piecesOfKind_0 6 rfl
theorem dX1_piecesOfKind_12 : decode cX1_piecesOfKind 12 = .ok (.getfield 9, 3) := dq0 (p := fun a b => decode cX1_piecesOfKind a = .ok b) dm_cX1_piecesOfKind_0 7 rfl
theorem dX1_piecesOfKind_15 : decode cX1_piecesOfKind 15 = .ok (.iload_n 1, 1) := dq0 (p := fun a b => decode cX1_piecesOfKind a = .ok b) dm_cX1_piecesOfKind_0 8 rfl
theorem dX1_piecesOfKind_16 : decode cX1_piecesOfKind 16 = .ok (.laload, 1) := dq0 (p := fun a b => decode cX1_piecesOfKind a = .ok b) dm_cX1_piecesOfKind_0 9 rfl
theorem dX1_piecesOfKind_17 : decode cX1_piecesOfKind 17 = .ok (.aload_n 0, 1) := dq0 (p := fun a b => decode cX1_piecesOfKind a = .ok b) dm_cX1_piecesOfKind_0 10 rfl
theorem dX1_piecesOfKind_18 : decode cX1_piecesOfKind 18 = .ok (.iload_n 2, 1) := dq0 (p := fun a b => decode cX1_piecesOfKind a = .ok b) dm_cX1_piecesOfKind_0 11 rfl
theorem dX1_piecesOfKind_19 : decode cX1_piecesOfKind 19 = .ok (.invokevirtual 45, 3) := dq0 (p := fun a b => decode cX1_piecesOfKind a = .ok b) dm_cX1_piecesOfKind_0 12 rfl
theorem dX1_piecesOfKind_22 : decode cX1_piecesOfKind 22 = .ok (.land, 1) := dq0 (p := fun a b => decode cX1_piecesOfKind a = .ok b) dm_cX1_piecesOfKind_0 13 rfl
theorem dX1_piecesOfKind_23 : decode cX1_piecesOfKind 23 = .ok (.goto 4, 3) := dq0 (p := fun a b => decode cX1_piecesOfKind a = .ok b) dm_cX1_piecesOfKind_0 14 rfl
theorem dX1_piecesOfKind_26 : decode cX1_piecesOfKind 26 = .ok (.lconst 0, 1) := dq0 (p := fun a b => decode cX1_piecesOfKind a = .ok b) dm_cX1_piecesOfKind_0 15 rfl
theorem dX1_piecesOfKind_27 : decode cX1_piecesOfKind 27 = .ok (.lreturn, 1) := dq0 (p := fun a b => decode cX1_piecesOfKind a = .ok b) dm_cX1_piecesOfKind_0 16 rfl
theorem dm_cX1_kindOn_0 : ([(0, .iconst 1, 1), (1, .istore_n 2, 1), (2, .iload_n 2, 1), (3, .bipush 7, 2), (5, .if_icmp .ge 24, 3), (8, .aload_n 0, 1), (9, .getfield 9, 3), (12, .iload_n 2, 1), (13, .laload, 1), (14, .iload_n 1, 1), (15, .invokestatic 49, 3), (18, .ifCond .eq 5, 3), (21, .iload_n 2, 1), (22, .ireturn, 1), (23, .iinc 2 1, 3), (26, .goto (-24), 3), (29, .iconst 0, 1), (30, .ireturn, 1)] : List (Nat × Instr × Nat)).all (fun t => decide (decode cX1_kindOn t.1 = .ok t.2)) = true := by decide +kernel
theorem dX1_kindOn_0 : decode cX1_kindOn 0 = .ok (.iconst 1, 1) := dq0 (p := fun a b => decode cX1_kindOn a = .ok b) dm_cX1_kindOn_0 0 rfl
theorem dX1_kindOn_1 : decode cX1_kindOn 1 = .ok (.istore_n 2, 1) := dq0 (p := fun a b => decode cX1_kindOn a = .ok b) dm_cX1_kindOn_0 1 rfl
theorem dX1_kindOn_2 : decode cX1_kindOn 2 = .ok (.iload_n 2, 1) := dq0 (p := fun a b => decode cX1_kindOn a = .ok b) dm_cX1_kindOn_0 2 rfl
theorem dX1_kindOn_3 : decode cX1_kindOn 3 = .ok (.bipush 7, 2) := dq0 (p := fun a b => decode cX1_kindOn a = .ok b) dm_cX1_kindOn_0 3 rfl
theorem dX1_kindOn_5 : decode cX1_kindOn 5 = .ok (.if_icmp .ge 24, 3) := dq0 (p := fun a b => decode cX1_kindOn a = .ok b) dm_cX1_kindOn_0 4 rfl
theorem dX1_kindOn_8 : decode cX1_kindOn 8 = .ok (.aload_n 0, 1) := dq0 (p := fun a b => decode cX1_kindOn a = .ok b) dm_cX1_kindOn_0 5 rfl
theorem dX1_kindOn_9 : decode cX1_kindOn 9 = .ok (.getfield 9, 3) := dq0 (p := fun a b => decode cX1_kindOn a = .ok b) dm_cX1_kindOn_0 6 rfl
theorem dX1_kindOn_12 : decode cX1_kindOn 12 = .ok (.iload_n 2, 1) := dq0 (p := fun a b => decode cX1_kindOn a = .ok b) dm_cX1_kindOn_0 7 rfl
theorem dX1_kindOn_13 : decode cX1_kindOn 13 = .ok (.laload, 1) := dq0 (p := fun a b => decode cX1_kindOn a = .ok b) dm_cX1_kindOn_0 8 rfl
theorem dX1_kindOn_14 : decode cX1_kindOn 14 = .ok (.iload_n 1, 1) := dq0 (p := fun a b => decode cX1_kindOn a = .ok b) dm_cX1_kindOn_0 9 rfl
theorem dX1_kindOn_15 : decode cX1_kindOn 15 = .ok (.invokestatic 49, 3) := dq0 (p := fun a b => decode cX1_kindOn a = .ok b) dm_cX1_kindOn_0 10 rfl
theorem dX1_kindOn_18 : decode cX1_kindOn 18 = .ok (.ifCond .eq 5, 3) := dq0 (p := fun a b => decode cX1_kindOn a = .ok b) dm_cX1_kindOn_0 11 rfl
theorem dX1_kindOn_21 : decode cX1_kindOn 21 = .ok (.iload_n 2, 1) := dq0 (p := fun a b => decode cX1_kindOn a = .ok b) dm_cX1_kindOn_0 12 rfl
theorem dX1_kindOn_22 : decode cX1_kindOn 22 = .ok (.ireturn, 1) := dq0 (p := fun a b => decode cX1_kindOn a = .ok b) dm_cX1_kindOn_0 13 rfl
theorem dX1_kindOn_23 : decode cX1_kindOn 23 = .ok (.iinc 2 1, 3) := dq0 (p := fun a b => decode cX1_kindOn a = .ok b) dm_cX1_kindOn_0 14 rfl
theorem dX1_kindOn_26 : decode cX1_kindOn 26 = .ok (.goto (-24), 3) := dq0 (p := fun a b => decode cX1_kindOn a = .ok b) dm_cX1_kindOn_0 15 rfl
theorem dX1_kindOn_29 : decode cX1_kindOn 29 = .ok (.iconst 0, 1) := dq0 (p := fun a b => decode cX1_kindOn a = .ok b) dm_cX1_kindOn_0 16 rfl
theorem dX1_kindOn_30 : decode cX1_kindOn 30 = .ok (.ireturn, 1) := dq0 (p := fun a b => decode cX1_kindOn a = .ok b) dm_cX1_kindOn_0 17 rfl
theorem dm_cX1_partnerOf_0 : ([(0, .iload_n 1, 1), (1, .ifCond .lt 18, 3), (4, .iload_n 1, 1), (5, .bipush 64, 2), (7, .if_icmp .ge 12, 3), (10, .aload_n 0, 1), (11, .getfield 15, 3), (14, .iload_n 1, 1), (15, .iaload, 1), (16, .goto 4, 3), (19, .iconst (-1), 1), (20, .ireturn, 1)] : List (Nat × Instr × Nat)).all (fun t => decide (decode cX1_partnerOf t.1 = .ok t.2)) = true := by decide +kernel
theorem dX1_partnerOf_0 : decode cX1_partnerOf 0 = .ok (.iload_n 1, 1) := dq0 (p := fun a b => decode cX1_partnerOf a = .ok b) dm_cX1_partnerOf_0 0 rfl
theorem dX1_partnerOf_1 : decode cX1_partnerOf 1 = .ok (.ifCond .lt 18, 3) := dq0 (p := fun a b => decode cX1_partnerOf a = .ok b) dm_cX1_partnerOf_0 1 rfl
theorem dX1_partnerOf_4 : decode cX1_partnerOf 4 = .ok (.iload_n 1, 1) := dq0 (p := fun a b => decode cX1_partnerOf a = .ok b) dm_cX1_partnerOf_0 2 rfl
theorem dX1_partnerOf_5 : decode cX1_partnerOf 5 = .ok (.bipush 64, 2) := dq0 (p := fun a b => decode cX1_partnerOf a = .ok b) dm_cX1_partnerOf_0 3 rfl
theorem dX1_partnerOf_7 : decode cX1_partnerOf 7 = .ok (.if_icmp .ge 12, 3) := dq0 (p := fun a b => decode cX1_partnerOf a = .ok b) dm_cX1_partnerOf_0 4 rfl
theorem dX1_partnerOf_10 : decode cX1_partnerOf 10 = .ok (.aload_n 0, 1) := dq0 (p := fun a b => decode cX1_partnerOf a = .ok b) dm_cX1_partnerOf_0 5 rfl
theorem dX1_partnerOf_11 : decode cX1_partnerOf 11 = .ok (.getfield 15, 3) := dq0 (p := fun a b => decode cX1_partnerOf a = .ok b) dm_cX1_partnerOf_0 6 rfl
theorem dX1_partnerOf_14 : decode cX1_partnerOf 14 = .ok (.iload_n 1, 1) := dq0 (p := fun a b => decode cX1_partnerOf a = .ok b) dm_cX1_partnerOf_0 7 rfl
theorem dX1_partnerOf_15 : decode cX1_partnerOf 15 = .ok (.iaload, 1) := dq0 (p := fun a b => decode cX1_partnerOf a = .ok b) dm_cX1_partnerOf_0 8 rfl
theorem dX1_partnerOf_16 : decode cX1_partnerOf 16 = .ok (.goto 4, 3) := dq0 (p := fun a b => decode cX1_partnerOf a = .ok b) dm_cX1_partnerOf_0 9 rfl
theorem dX1_partnerOf_19 : decode cX1_partnerOf 19 = .ok (.iconst (-1), 1) := dq0 (p := fun a b => decode cX1_partnerOf a = .ok b) dm_cX1_partnerOf_0 10 rfl
theorem dX1_partnerOf_20 : decode cX1_partnerOf 20 = .ok (.ireturn, 1) := dq0 (p := fun a b => decode cX1_partnerOf a = .ok b) dm_cX1_partnerOf_0 11 rfl
theorem dm_cX1_bondedKnights_0 : ([(0, .lconst 0, 1), (1, .lstore_n 2, 1), (2, .iconst 0, 1), (3, .istore 4, 2), (5, .iload 4, 2), (7, .bipush 64, 2), (9, .if_icmp .ge 28, 3), (12, .aload_n 0, 1), (13, .getfield 15, 3), (16, .iload 4, 2), (18, .iaload, 1), (19, .iconst (-1), 1), (20, .if_icmp .eq 11, 3), (23, .lload_n 2, 1), (24, .iload 4, 2), (26, .invokestatic 53, 3), (29, .lor, 1), (30, .lstore_n 2, 1), (31, .iinc 4 1, 3), (34, .goto (-29), 3), (37, .lload_n 2, 1), (38, .aload_n 0, 1), (39, .iload_n 1, 1), (40, .invokevirtual 45, 3), (43, .land, 1), (44, .lreturn, 1)] : List (Nat × Instr × Nat)).all (fun t => decide (decode cX1_bondedKnights t.1 = .ok t.2)) = true := by decide +kernel
theorem dX1_bondedKnights_0 : decode cX1_bondedKnights 0 = .ok (.lconst 0, 1) := dq0 (p := fun a b => decode cX1_bondedKnights a = .ok b) dm_cX1_bondedKnights_0 0 rfl
theorem dX1_bondedKnights_1 : decode cX1_bondedKnights 1 = .ok (.lstore_n 2, 1) := dq0 (p := fun a b => decode cX1_bondedKnights a = .ok b) dm_cX1_bondedKnights_0 1 rfl
theorem dX1_bondedKnights_2 : decode cX1_bondedKnights 2 = .ok (.iconst 0, 1) := dq0 (p := fun a b => decode cX1_bondedKnights a = .ok b) dm_cX1_bondedKnights_0 2 rfl
theorem dX1_bondedKnights_3 : decode cX1_bondedKnights 3 = .ok (.istore 4, 2) := dq0 (p := fun a b => decode cX1_bondedKnights a = .ok b) dm_cX1_bondedKnights_0 3 rfl
theorem dX1_bondedKnights_5 : decode cX1_bondedKnights 5 = .ok (.iload 4, 2) := dq0 (p := fun a b => decode cX1_bondedKnights a = .ok b) dm_cX1_bondedKnights_0 4 rfl
theorem dX1_bondedKnights_7 : decode cX1_bondedKnights 7 = .ok (.bipush 64, 2) := dq0 (p := fun a b => decode cX1_bondedKnights a = .ok b) dm_cX1_bondedKnights_0 5 rfl
theorem dX1_bondedKnights_9 : decode cX1_bondedKnights 9 = .ok (.if_icmp .ge 28, 3) := dq0 (p := fun a b => decode cX1_bondedKnights a = .ok b) dm_cX1_bondedKnights_0 6 rfl
theorem dX1_bondedKnights_12 : decode cX1_bondedKnights 12 = .ok (.aload_n 0, 1) := dq0 (p := fun a b => decode cX1_bondedKnights a = .ok b) dm_cX1_bondedKnights_0 7 rfl
theorem dX1_bondedKnights_13 : decode cX1_bondedKnights 13 = .ok (.getfield 15, 3) := dq0 (p := fun a b => decode cX1_bondedKnights a = .ok b) dm_cX1_bondedKnights_0 8 rfl
theorem dX1_bondedKnights_16 : decode cX1_bondedKnights 16 = .ok (.iload 4, 2) := dq0 (p := fun a b => decode cX1_bondedKnights a = .ok b) dm_cX1_bondedKnights_0 9 rfl
theorem dX1_bondedKnights_18 : decode cX1_bondedKnights 18 = .ok (.iaload, 1) := dq0 (p := fun a b => decode cX1_bondedKnights a = .ok b) dm_cX1_bondedKnights_0 10 rfl
theorem dX1_bondedKnights_19 : decode cX1_bondedKnights 19 = .ok (.iconst (-1), 1) := dq0 (p := fun a b => decode cX1_bondedKnights a = .ok b) dm_cX1_bondedKnights_0 11 rfl
theorem dX1_bondedKnights_20 : decode cX1_bondedKnights 20 = .ok (.if_icmp .eq 11, 3) := dq0 (p := fun a b => decode cX1_bondedKnights a = .ok b) dm_cX1_bondedKnights_0 12 rfl
theorem dX1_bondedKnights_23 : decode cX1_bondedKnights 23 = .ok (.lload_n 2, 1) := dq0 (p := fun a b => decode cX1_bondedKnights a = .ok b) dm_cX1_bondedKnights_0 13 rfl
theorem dX1_bondedKnights_24 : decode cX1_bondedKnights 24 = .ok (.iload 4, 2) := dq0 (p := fun a b => decode cX1_bondedKnights a = .ok b) dm_cX1_bondedKnights_0 14 rfl
theorem dX1_bondedKnights_26 : decode cX1_bondedKnights 26 = .ok (.invokestatic 53, 3) := dq0 (p := fun a b => decode cX1_bondedKnights a = .ok b) dm_cX1_bondedKnights_0 15 rfl
theorem dX1_bondedKnights_29 : decode cX1_bondedKnights 29 = .ok (.lor, 1) := dq0 (p := fun a b => decode cX1_bondedKnights a = .ok b) dm_cX1_bondedKnights_0 16 rfl
theorem dX1_bondedKnights_30 : decode cX1_bondedKnights 30 = .ok (.lstore_n 2, 1) := dq0 (p := fun a b => decode cX1_bondedKnights a = .ok b) dm_cX1_bondedKnights_0 17 rfl
theorem dX1_bondedKnights_31 : decode cX1_bondedKnights 31 = .ok (.iinc 4 1, 3) := dq0 (p := fun a b => decode cX1_bondedKnights a = .ok b) dm_cX1_bondedKnights_0 18 rfl
theorem dX1_bondedKnights_34 : decode cX1_bondedKnights 34 = .ok (.goto (-29), 3) := dq0 (p := fun a b => decode cX1_bondedKnights a = .ok b) dm_cX1_bondedKnights_0 19 rfl
theorem dX1_bondedKnights_37 : decode cX1_bondedKnights 37 = .ok (.lload_n 2, 1) := dq0 (p := fun a b => decode cX1_bondedKnights a = .ok b) dm_cX1_bondedKnights_0 20 rfl
theorem dX1_bondedKnights_38 : decode cX1_bondedKnights 38 = .ok (.aload_n 0, 1) := dq0 (p := fun a b => decode cX1_bondedKnights a = .ok b) dm_cX1_bondedKnights_0 21 rfl
theorem dX1_bondedKnights_39 : decode cX1_bondedKnights 39 = .ok (.iload_n 1, 1) := dq0 (p := fun a b => decode cX1_bondedKnights a = .ok b) dm_cX1_bondedKnights_0 22 rfl
theorem dX1_bondedKnights_40 : decode cX1_bondedKnights 40 = .ok (.invokevirtual 45, 3) := dq0 (p := fun a b => decode cX1_bondedKnights a = .ok b) dm_cX1_bondedKnights_0 23 rfl
theorem dX1_bondedKnights_43 : decode cX1_bondedKnights 43 = .ok (.land, 1) := dq0 (p := fun a b => decode cX1_bondedKnights a = .ok b) dm_cX1_bondedKnights_0 24 rfl
theorem dX1_bondedKnights_44 : decode cX1_bondedKnights 44 = .ok (.lreturn, 1) := dq0 (p := fun a b => decode cX1_bondedKnights a = .ok b) dm_cX1_bondedKnights_0 25 rfl
theorem dm_cX1_hasRoomFor_0 : ([(0, .aload_n 0, 1), (1, .invokevirtual 57, 3), (4, .iload_n 1, 1), (5, .invokestatic 49, 3), (8, .ifCond .eq 5, 3), (11, .iconst 0, 1), (12, .ireturn, 1), (13, .iload_n 2, 1), (14, .iconst 1, 1), (15, .if_icmp .ne 20, 3), (18, .aload_n 0, 1), (19, .iconst 1, 1), (20, .iload_n 3, 1), (21, .invokevirtual 61, 3), (24, .lconst 0, 1), (25, .lcmp, 1), (26, .ifCond .ne 7, 3), (29, .iconst 1, 1), (30, .goto 4, 3), (33, .iconst 0, 1), (34, .ireturn, 1), (35, .iload_n 1, 1), (36, .bipush 8, 2), (38, .idiv, 1), (39, .istore 4, 2), (41, .iload_n 2, 1), (42, .bipush 6, 2), (44, .if_icmp .ne 15, 3), (47, .iload 4, 2), (49, .ifCond .eq 14, 3), (52, .iload 4, 2), (54, .bipush 7, 2), (56, .if_icmp .eq 7, 3), (59, .iconst 1, 1), (60, .goto 4, 3), (63, .iconst 0, 1), (64, .ireturn, 1)] : List (Nat × Instr × Nat)).all (fun t => decide (decode cX1_hasRoomFor t.1 = .ok t.2)) = true := by decide +kernel
theorem dX1_hasRoomFor_0 : decode cX1_hasRoomFor 0 = .ok (.aload_n 0, 1) := dq0 (p := fun a b => decode cX1_hasRoomFor a = .ok b) dm_cX1_hasRoomFor_0 0 rfl
theorem dX1_hasRoomFor_1 : decode cX1_hasRoomFor 1 = .ok (.invokevirtual 57, 3) := dq0 (p := fun a b => decode cX1_hasRoomFor a = .ok b) dm_cX1_hasRoomFor_0 1 rfl
theorem dX1_hasRoomFor_4 : decode cX1_hasRoomFor 4 = .ok (.iload_n 1, 1) := dq0 (p := fun a b => decode cX1_hasRoomFor a = .ok b) dm_cX1_hasRoomFor_0 2 rfl
theorem dX1_hasRoomFor_5 : decode cX1_hasRoomFor 5 = .ok (.invokestatic 49, 3) := dq0 (p := fun a b => decode cX1_hasRoomFor a = .ok b) dm_cX1_hasRoomFor_0 3 rfl
theorem dX1_hasRoomFor_8 : decode cX1_hasRoomFor 8 = .ok (.ifCond .eq 5, 3) := dq0 (p := fun a b => decode cX1_hasRoomFor a = .ok b) dm_cX1_hasRoomFor_0 4 rfl
theorem dX1_hasRoomFor_11 : decode cX1_hasRoomFor 11 = .ok (.iconst 0, 1) := dq0 (p := fun a b => decode cX1_hasRoomFor a = .ok b) dm_cX1_hasRoomFor_0 5 rfl
theorem dX1_hasRoomFor_12 : decode cX1_hasRoomFor 12 = .ok (.ireturn, 1) := dq0 (p := fun a b => decode cX1_hasRoomFor a = .ok b) dm_cX1_hasRoomFor_0 6 rfl
theorem dX1_hasRoomFor_13 : decode cX1_hasRoomFor 13 = .ok (.iload_n 2, 1) := dq0 (p := fun a b => decode cX1_hasRoomFor a = .ok b) dm_cX1_hasRoomFor_0 7 rfl
theorem dX1_hasRoomFor_14 : decode cX1_hasRoomFor 14 = .ok (.iconst 1, 1) := dq0 (p := fun a b => decode cX1_hasRoomFor a = .ok b) dm_cX1_hasRoomFor_0 8 rfl
theorem dX1_hasRoomFor_15 : decode cX1_hasRoomFor 15 = .ok (.if_icmp .ne 20, 3) := dq0 (p := fun a b => decode cX1_hasRoomFor a = .ok b) dm_cX1_hasRoomFor_0 9 rfl
theorem dX1_hasRoomFor_18 : decode cX1_hasRoomFor 18 = .ok (.aload_n 0, 1) := dq0 (p := fun a b => decode cX1_hasRoomFor a = .ok b) dm_cX1_hasRoomFor_0 10 rfl
theorem dX1_hasRoomFor_19 : decode cX1_hasRoomFor 19 = .ok (.iconst 1, 1) := dq0 (p := fun a b => decode cX1_hasRoomFor a = .ok b) dm_cX1_hasRoomFor_0 11 rfl
theorem dX1_hasRoomFor_20 : decode cX1_hasRoomFor 20 = .ok (.iload_n 3, 1) := dq0 (p := fun a b => decode cX1_hasRoomFor a = .ok b) dm_cX1_hasRoomFor_0 12 rfl
theorem dX1_hasRoomFor_21 : decode cX1_hasRoomFor 21 = .ok (.invokevirtual 61, 3) := dq0 (p := fun a b => decode cX1_hasRoomFor a = .ok b) dm_cX1_hasRoomFor_0 13 rfl
theorem dX1_hasRoomFor_24 : decode cX1_hasRoomFor 24 = .ok (.lconst 0, 1) := dq0 (p := fun a b => decode cX1_hasRoomFor a = .ok b) dm_cX1_hasRoomFor_0 14 rfl
theorem dX1_hasRoomFor_25 : decode cX1_hasRoomFor 25 = .ok (.lcmp, 1) := dq0 (p := fun a b => decode cX1_hasRoomFor a = .ok b) dm_cX1_hasRoomFor_0 15 rfl
theorem dX1_hasRoomFor_26 : decode cX1_hasRoomFor 26 = .ok (.ifCond .ne 7, 3) := dq0 (p := fun a b => decode cX1_hasRoomFor a = .ok b) dm_cX1_hasRoomFor_0 16 rfl
theorem dX1_hasRoomFor_29 : decode cX1_hasRoomFor 29 = .ok (.iconst 1, 1) := dq0 (p := fun a b => decode cX1_hasRoomFor a = .ok b) dm_cX1_hasRoomFor_0 17 rfl
theorem dX1_hasRoomFor_30 : decode cX1_hasRoomFor 30 = .ok (.goto 4, 3) := dq0 (p := fun a b => decode cX1_hasRoomFor a = .ok b) dm_cX1_hasRoomFor_0 18 rfl
theorem dX1_hasRoomFor_33 : decode cX1_hasRoomFor 33 = .ok (.iconst 0, 1) := dq0 (p := fun a b => decode cX1_hasRoomFor a = .ok b) dm_cX1_hasRoomFor_0 19 rfl
theorem dX1_hasRoomFor_34 : decode cX1_hasRoomFor 34 = .ok (.ireturn, 1) := dq0 (p := fun a b => decode cX1_hasRoomFor a = .ok b) dm_cX1_hasRoomFor_0 20 rfl
theorem dX1_hasRoomFor_35 : decode cX1_hasRoomFor 35 = .ok (.iload_n 1, 1) := dq0 (p := fun a b => decode cX1_hasRoomFor a = .ok b) dm_cX1_hasRoomFor_0 21 rfl
theorem dX1_hasRoomFor_36 : decode cX1_hasRoomFor 36 = .ok (.bipush 8, 2) := dq0 (p := fun a b => decode cX1_hasRoomFor a = .ok b) dm_cX1_hasRoomFor_0 22 rfl
theorem dX1_hasRoomFor_38 : decode cX1_hasRoomFor 38 = .ok (.idiv, 1) := dq0 (p := fun a b => decode cX1_hasRoomFor a = .ok b) dm_cX1_hasRoomFor_0 23 rfl
theorem dX1_hasRoomFor_39 : decode cX1_hasRoomFor 39 = .ok (.istore 4, 2) := dq0 (p := fun a b => decode cX1_hasRoomFor a = .ok b) dm_cX1_hasRoomFor_0 24 rfl
theorem dX1_hasRoomFor_41 : decode cX1_hasRoomFor 41 = .ok (.iload_n 2, 1) := dq0 (p := fun a b => decode cX1_hasRoomFor a = .ok b) dm_cX1_hasRoomFor_0 25 rfl
theorem dX1_hasRoomFor_42 : decode cX1_hasRoomFor 42 = .ok (.bipush 6, 2) := dq0 (p := fun a b => decode cX1_hasRoomFor a = .ok b) dm_cX1_hasRoomFor_0 26 rfl
theorem dX1_hasRoomFor_44 : decode cX1_hasRoomFor 44 = .ok (.if_icmp .ne 15, 3) := dq0 (p := fun a b => decode cX1_hasRoomFor a = .ok b) dm_cX1_hasRoomFor_0 27 rfl
theorem dX1_hasRoomFor_47 : decode cX1_hasRoomFor 47 = .ok (.iload 4, 2) := dq0 (p := fun a b => decode cX1_hasRoomFor a = .ok b) dm_cX1_hasRoomFor_0 28 rfl
theorem dX1_hasRoomFor_49 : decode cX1_hasRoomFor 49 = .ok (.ifCond .eq 14, 3) := dq0 (p := fun a b => decode cX1_hasRoomFor a = .ok b) dm_cX1_hasRoomFor_0 29 rfl
theorem dX1_hasRoomFor_52 : decode cX1_hasRoomFor 52 = .ok (.iload 4, 2) := dq0 (p := fun a b => decode cX1_hasRoomFor a = .ok b) dm_cX1_hasRoomFor_0 30 rfl
theorem dX1_hasRoomFor_54 : decode cX1_hasRoomFor 54 = .ok (.bipush 7, 2) := dq0 (p := fun a b => decode cX1_hasRoomFor a = .ok b) dm_cX1_hasRoomFor_0 31 rfl
theorem dX1_hasRoomFor_56 : decode cX1_hasRoomFor 56 = .ok (.if_icmp .eq 7, 3) := dq0 (p := fun a b => decode cX1_hasRoomFor a = .ok b) dm_cX1_hasRoomFor_0 32 rfl
theorem dX1_hasRoomFor_59 : decode cX1_hasRoomFor 59 = .ok (.iconst 1, 1) := dq0 (p := fun a b => decode cX1_hasRoomFor a = .ok b) dm_cX1_hasRoomFor_0 33 rfl
theorem dX1_hasRoomFor_60 : decode cX1_hasRoomFor 60 = .ok (.goto 4, 3) := dq0 (p := fun a b => decode cX1_hasRoomFor a = .ok b) dm_cX1_hasRoomFor_0 34 rfl
theorem dX1_hasRoomFor_63 : decode cX1_hasRoomFor 63 = .ok (.iconst 0, 1) := dq0 (p := fun a b => decode cX1_hasRoomFor a = .ok b) dm_cX1_hasRoomFor_0 35 rfl
theorem dX1_hasRoomFor_64 : decode cX1_hasRoomFor 64 = .ok (.ireturn, 1) := dq0 (p := fun a b => decode cX1_hasRoomFor a = .ok b) dm_cX1_hasRoomFor_0 36 rfl
theorem dm_cX1_canBegin_0 : ([(0, .aload_n 0, 1), (1, .iconst 1, 1), (2, .iconst 1, 1), (3, .invokevirtual 61, 3), (6, .lconst 0, 1), (7, .lcmp, 1), (8, .ifCond .eq 34, 3), (11, .aload_n 0, 1), (12, .iconst 1, 1), (13, .iconst 0, 1), (14, .invokevirtual 61, 3), (17, .lconst 0, 1), (18, .lcmp, 1), (19, .ifCond .eq 23, 3), (22, .aload_n 0, 1), (23, .iload_n 1, 1), (24, .ifCond .ne 7, 3), (27, .iconst 1, 1), (28, .goto 4, 3), (31, .iconst 0, 1), (32, .invokevirtual 65, 3), (35, .ifCond .ne 7, 3), (38, .iconst 1, 1), (39, .goto 4, 3), (42, .iconst 0, 1), (43, .ireturn, 1)] : List (Nat × Instr × Nat)).all (fun t => decide (decode cX1_canBegin t.1 = .ok t.2)) = true := by decide +kernel
theorem dX1_canBegin_0 : decode cX1_canBegin 0 = .ok (.aload_n 0, 1) := dq0 (p := fun a b => decode cX1_canBegin a = .ok b) dm_cX1_canBegin_0 0 rfl
theorem dX1_canBegin_1 : decode cX1_canBegin 1 = .ok (.iconst 1, 1) := dq0 (p := fun a b => decode cX1_canBegin a = .ok b) dm_cX1_canBegin_0 1 rfl
theorem dX1_canBegin_2 : decode cX1_canBegin 2 = .ok (.iconst 1, 1) := dq0 (p := fun a b => decode cX1_canBegin a = .ok b) dm_cX1_canBegin_0 2 rfl
theorem dX1_canBegin_3 : decode cX1_canBegin 3 = .ok (.invokevirtual 61, 3) := dq0 (p := fun a b => decode cX1_canBegin a = .ok b) dm_cX1_canBegin_0 3 rfl
theorem dX1_canBegin_6 : decode cX1_canBegin 6 = .ok (.lconst 0, 1) := dq0 (p := fun a b => decode cX1_canBegin a = .ok b) dm_cX1_canBegin_0 4 rfl
theorem dX1_canBegin_7 : decode cX1_canBegin 7 = .ok (.lcmp, 1) := dq0 (p := fun a b => decode cX1_canBegin a = .ok b) dm_cX1_canBegin_0 5 rfl
theorem dX1_canBegin_8 : decode cX1_canBegin 8 = .ok (.ifCond .eq 34, 3) := dq0 (p := fun a b => decode cX1_canBegin a = .ok b) dm_cX1_canBegin_0 6 rfl
theorem dX1_canBegin_11 : decode cX1_canBegin 11 = .ok (.aload_n 0, 1) := dq0 (p := fun a b => decode cX1_canBegin a = .ok b) dm_cX1_canBegin_0 7 rfl
theorem dX1_canBegin_12 : decode cX1_canBegin 12 = .ok (.iconst 1, 1) := dq0 (p := fun a b => decode cX1_canBegin a = .ok b) dm_cX1_canBegin_0 8 rfl
theorem dX1_canBegin_13 : decode cX1_canBegin 13 = .ok (.iconst 0, 1) := dq0 (p := fun a b => decode cX1_canBegin a = .ok b) dm_cX1_canBegin_0 9 rfl
theorem dX1_canBegin_14 : decode cX1_canBegin 14 = .ok (.invokevirtual 61, 3) := dq0 (p := fun a b => decode cX1_canBegin a = .ok b) dm_cX1_canBegin_0 10 rfl
theorem dX1_canBegin_17 : decode cX1_canBegin 17 = .ok (.lconst 0, 1) := dq0 (p := fun a b => decode cX1_canBegin a = .ok b) dm_cX1_canBegin_0 11 rfl
theorem dX1_canBegin_18 : decode cX1_canBegin 18 = .ok (.lcmp, 1) := dq0 (p := fun a b => decode cX1_canBegin a = .ok b) dm_cX1_canBegin_0 12 rfl
theorem dX1_canBegin_19 : decode cX1_canBegin 19 = .ok (.ifCond .eq 23, 3) := dq0 (p := fun a b => decode cX1_canBegin a = .ok b) dm_cX1_canBegin_0 13 rfl
theorem dX1_canBegin_22 : decode cX1_canBegin 22 = .ok (.aload_n 0, 1) := dq0 (p := fun a b => decode cX1_canBegin a = .ok b) dm_cX1_canBegin_0 14 rfl
theorem dX1_canBegin_23 : decode cX1_canBegin 23 = .ok (.iload_n 1, 1) := dq0 (p := fun a b => decode cX1_canBegin a = .ok b) dm_cX1_canBegin_0 15 rfl
theorem dX1_canBegin_24 : decode cX1_canBegin 24 = .ok (.ifCond .ne 7, 3) := dq0 (p := fun a b => decode cX1_canBegin a = .ok b) dm_cX1_canBegin_0 16 rfl
theorem dX1_canBegin_27 : decode cX1_canBegin 27 = .ok (.iconst 1, 1) := dq0 (p := fun a b => decode cX1_canBegin a = .ok b) dm_cX1_canBegin_0 17 rfl
theorem dX1_canBegin_28 : decode cX1_canBegin 28 = .ok (.goto 4, 3) := dq0 (p := fun a b => decode cX1_canBegin a = .ok b) dm_cX1_canBegin_0 18 rfl
theorem dX1_canBegin_31 : decode cX1_canBegin 31 = .ok (.iconst 0, 1) := dq0 (p := fun a b => decode cX1_canBegin a = .ok b) dm_cX1_canBegin_0 19 rfl
theorem dX1_canBegin_32 : decode cX1_canBegin 32 = .ok (.invokevirtual 65, 3) := dq0 (p := fun a b => decode cX1_canBegin a = .ok b) dm_cX1_canBegin_0 20 rfl
theorem dX1_canBegin_35 : decode cX1_canBegin 35 = .ok (.ifCond .ne 7, 3) := dq0 (p := fun a b => decode cX1_canBegin a = .ok b) dm_cX1_canBegin_0 21 rfl
theorem dX1_canBegin_38 : decode cX1_canBegin 38 = .ok (.iconst 1, 1) := dq0 (p := fun a b => decode cX1_canBegin a = .ok b) dm_cX1_canBegin_0 22 rfl
theorem dX1_canBegin_39 : decode cX1_canBegin 39 = .ok (.goto 4, 3) := dq0 (p := fun a b => decode cX1_canBegin a = .ok b) dm_cX1_canBegin_0 23 rfl
theorem dX1_canBegin_42 : decode cX1_canBegin 42 = .ok (.iconst 0, 1) := dq0 (p := fun a b => decode cX1_canBegin a = .ok b) dm_cX1_canBegin_0 24 rfl
theorem dX1_canBegin_43 : decode cX1_canBegin 43 = .ok (.ireturn, 1) := dq0 (p := fun a b => decode cX1_canBegin a = .ok b) dm_cX1_canBegin_0 25 rfl
theorem dm_cX1_put_0 : ([(0, .iload_n 2, 1), (1, .iconst 1, 1), (2, .if_icmp .lt 9, 3), (5, .iload_n 2, 1), (6, .bipush 7, 2), (8, .if_icmp .lt 4, 3), (11, .return_, 1), (12, .aload_n 0, 1), (13, .getfield 9, 3), (16, .iload_n 2, 1), (17, .dup2, 1), (18, .laload, 1), (19, .iload_n 1, 1), (20, .invokestatic 53, 3), (23, .lor, 1), (24, .lastore, 1), (25, .iload_n 3, 1), (26, .ifCond .eq 19, 3), (29, .aload_n 0, 1), (30, .dup, 1), (31, .getfield 32, 3), (34, .iload_n 1, 1), (35, .invokestatic 53, 3), (38, .lor, 1), (39, .putfield 32, 3), (42, .goto 16, 3), (45, .aload_n 0, 1), (46, .dup, 1), (47, .getfield 36, 3), (50, .iload_n 1, 1), (51, .invokestatic 53, 3), (54, .lor, 1), (55, .putfield 36, 3), (58, .return_, 1)] : List (Nat × Instr × Nat)).all (fun t => decide (decode cX1_put t.1 = .ok t.2)) = true := by decide +kernel
theorem dX1_put_0 : decode cX1_put 0 = .ok (.iload_n 2, 1) := dq0 (p := fun a b => decode cX1_put a = .ok b) dm_cX1_put_0 0 rfl
theorem dX1_put_1 : decode cX1_put 1 = .ok (.iconst 1, 1) := dq0 (p := fun a b => decode cX1_put a = .ok b) dm_cX1_put_0 1 rfl
theorem dX1_put_2 : decode cX1_put 2 = .ok (.if_icmp .lt 9, 3) := dq0 (p := fun a b => decode cX1_put a = .ok b) dm_cX1_put_0 2 rfl
theorem dX1_put_5 : decode cX1_put 5 = .ok (.iload_n 2, 1) := dq0 (p := fun a b => decode cX1_put a = .ok b) dm_cX1_put_0 3 rfl
theorem dX1_put_6 : decode cX1_put 6 = .ok (.bipush 7, 2) := dq0 (p := fun a b => decode cX1_put a = .ok b) dm_cX1_put_0 4 rfl
theorem dX1_put_8 : decode cX1_put 8 = .ok (.if_icmp .lt 4, 3) := dq0 (p := fun a b => decode cX1_put a = .ok b) dm_cX1_put_0 5 rfl
theorem dX1_put_11 : decode cX1_put 11 = .ok (.return_, 1) := dq0 (p := fun a b => decode cX1_put a = .ok b) dm_cX1_put_0 6 rfl
theorem dX1_put_12 : decode cX1_put 12 = .ok (.aload_n 0, 1) := dq0 (p := fun a b => decode cX1_put a = .ok b) dm_cX1_put_0 7 rfl
theorem dX1_put_13 : decode cX1_put 13 = .ok (.getfield 9, 3) := dq0 (p := fun a b => decode cX1_put a = .ok b) dm_cX1_put_0 8 rfl
theorem dX1_put_16 : decode cX1_put 16 = .ok (.iload_n 2, 1) := dq0 (p := fun a b => decode cX1_put a = .ok b) dm_cX1_put_0 9 rfl
theorem dX1_put_17 : decode cX1_put 17 = .ok (.dup2, 1) := dq0 (p := fun a b => decode cX1_put a = .ok b) dm_cX1_put_0 10 rfl
theorem dX1_put_18 : decode cX1_put 18 = .ok (.laload, 1) := dq0 (p := fun a b => decode cX1_put a = .ok b) dm_cX1_put_0 11 rfl
theorem dX1_put_19 : decode cX1_put 19 = .ok (.iload_n 1, 1) := dq0 (p := fun a b => decode cX1_put a = .ok b) dm_cX1_put_0 12 rfl
theorem dX1_put_20 : decode cX1_put 20 = .ok (.invokestatic 53, 3) := dq0 (p := fun a b => decode cX1_put a = .ok b) dm_cX1_put_0 13 rfl
theorem dX1_put_23 : decode cX1_put 23 = .ok (.lor, 1) := dq0 (p := fun a b => decode cX1_put a = .ok b) dm_cX1_put_0 14 rfl
theorem dX1_put_24 : decode cX1_put 24 = .ok (.lastore, 1) := dq0 (p := fun a b => decode cX1_put a = .ok b) dm_cX1_put_0 15 rfl
theorem dX1_put_25 : decode cX1_put 25 = .ok (.iload_n 3, 1) := dq0 (p := fun a b => decode cX1_put a = .ok b) dm_cX1_put_0 16 rfl
theorem dX1_put_26 : decode cX1_put 26 = .ok (.ifCond .eq 19, 3) := dq0 (p := fun a b => decode cX1_put a = .ok b) dm_cX1_put_0 17 rfl
theorem dX1_put_29 : decode cX1_put 29 = .ok (.aload_n 0, 1) := dq0 (p := fun a b => decode cX1_put a = .ok b) dm_cX1_put_0 18 rfl
theorem dX1_put_30 : decode cX1_put 30 = .ok (.dup, 1) := dq0 (p := fun a b => decode cX1_put a = .ok b) dm_cX1_put_0 19 rfl
theorem dX1_put_31 : decode cX1_put 31 = .ok (.getfield 32, 3) := dq0 (p := fun a b => decode cX1_put a = .ok b) dm_cX1_put_0 20 rfl
theorem dX1_put_34 : decode cX1_put 34 = .ok (.iload_n 1, 1) := dq0 (p := fun a b => decode cX1_put a = .ok b) dm_cX1_put_0 21 rfl
theorem dX1_put_35 : decode cX1_put 35 = .ok (.invokestatic 53, 3) := dq0 (p := fun a b => decode cX1_put a = .ok b) dm_cX1_put_0 22 rfl
theorem dX1_put_38 : decode cX1_put 38 = .ok (.lor, 1) := dq0 (p := fun a b => decode cX1_put a = .ok b) dm_cX1_put_0 23 rfl
theorem dX1_put_39 : decode cX1_put 39 = .ok (.putfield 32, 3) := dq0 (p := fun a b => decode cX1_put a = .ok b) dm_cX1_put_0 24 rfl
theorem dX1_put_42 : decode cX1_put 42 = .ok (.goto 16, 3) := dq0 (p := fun a b => decode cX1_put a = .ok b) dm_cX1_put_0 25 rfl
theorem dX1_put_45 : decode cX1_put 45 = .ok (.aload_n 0, 1) := dq0 (p := fun a b => decode cX1_put a = .ok b) dm_cX1_put_0 26 rfl
theorem dX1_put_46 : decode cX1_put 46 = .ok (.dup, 1) := dq0 (p := fun a b => decode cX1_put a = .ok b) dm_cX1_put_0 27 rfl
theorem dX1_put_47 : decode cX1_put 47 = .ok (.getfield 36, 3) := dq0 (p := fun a b => decode cX1_put a = .ok b) dm_cX1_put_0 28 rfl
theorem dX1_put_50 : decode cX1_put 50 = .ok (.iload_n 1, 1) := dq0 (p := fun a b => decode cX1_put a = .ok b) dm_cX1_put_0 29 rfl
theorem dX1_put_51 : decode cX1_put 51 = .ok (.invokestatic 53, 3) := dq0 (p := fun a b => decode cX1_put a = .ok b) dm_cX1_put_0 30 rfl
theorem dX1_put_54 : decode cX1_put 54 = .ok (.lor, 1) := dq0 (p := fun a b => decode cX1_put a = .ok b) dm_cX1_put_0 31 rfl
theorem dX1_put_55 : decode cX1_put 55 = .ok (.putfield 36, 3) := dq0 (p := fun a b => decode cX1_put a = .ok b) dm_cX1_put_0 32 rfl
theorem dX1_put_58 : decode cX1_put 58 = .ok (.return_, 1) := dq0 (p := fun a b => decode cX1_put a = .ok b) dm_cX1_put_0 33 rfl
theorem dm_cX1_lift_0 : ([(0, .iload_n 1, 1), (1, .invokestatic 53, 3), (4, .ldc2_w 69, 3), (7, .lxor, 1), (8, .lstore_n 2, 1), (9, .iconst 1, 1), (10, .istore 4, 2), (12, .iload 4, 2), (14, .bipush 7, 2), (16, .if_icmp .ge 20, 3), (19, .aload_n 0, 1), (20, .getfield 9, 3), (23, .iload 4, 2), (25, .dup2, 1), (26, .laload, 1), (27, .lload_n 2, 1), (28, .land, 1), (29, .lastore, 1), (30, .iinc 4 1, 3), (33, .goto (-21), 3), (36, .aload_n 0, 1), (37, .dup, 1), (38, .getfield 32, 3), (41, .lload_n 2, 1), (42, .land, 1), (43, .putfield 32, 3), (46, .aload_n 0, 1), (47, .dup, 1), (48, .getfield 36, 3), (51, .lload_n 2, 1), (52, .land, 1), (53, .putfield 36, 3), (56, .return_, 1)] : List (Nat × Instr × Nat)).all (fun t => decide (decode cX1_lift t.1 = .ok t.2)) = true := by decide +kernel
theorem dX1_lift_0 : decode cX1_lift 0 = .ok (.iload_n 1, 1) := dq0 (p := fun a b => decode cX1_lift a = .ok b) dm_cX1_lift_0 0 rfl
theorem dX1_lift_1 : decode cX1_lift 1 = .ok (.invokestatic 53, 3) := dq0 (p := fun a b => decode cX1_lift a = .ok b) dm_cX1_lift_0 1 rfl
theorem dX1_lift_4 : decode cX1_lift 4 = .ok (.ldc2_w 69, 3) := dq0 (p := fun a b => decode cX1_lift a = .ok b) dm_cX1_lift_0 2 rfl
theorem dX1_lift_7 : decode cX1_lift 7 = .ok (.lxor, 1) := dq0 (p := fun a b => decode cX1_lift a = .ok b) dm_cX1_lift_0 3 rfl
theorem dX1_lift_8 : decode cX1_lift 8 = .ok (.lstore_n 2, 1) := dq0 (p := fun a b => decode cX1_lift a = .ok b) dm_cX1_lift_0 4 rfl
theorem dX1_lift_9 : decode cX1_lift 9 = .ok (.iconst 1, 1) := dq0 (p := fun a b => decode cX1_lift a = .ok b) dm_cX1_lift_0 5 rfl
theorem dX1_lift_10 : decode cX1_lift 10 = .ok (.istore 4, 2) := dq0 (p := fun a b => decode cX1_lift a = .ok b) dm_cX1_lift_0 6 rfl
theorem dX1_lift_12 : decode cX1_lift 12 = .ok (.iload 4, 2) := dq0 (p := fun a b => decode cX1_lift a = .ok b) dm_cX1_lift_0 7 rfl
theorem dX1_lift_14 : decode cX1_lift 14 = .ok (.bipush 7, 2) := dq0 (p := fun a b => decode cX1_lift a = .ok b) dm_cX1_lift_0 8 rfl
theorem dX1_lift_16 : decode cX1_lift 16 = .ok (.if_icmp .ge 20, 3) := dq0 (p := fun a b => decode cX1_lift a = .ok b) dm_cX1_lift_0 9 rfl
theorem dX1_lift_19 : decode cX1_lift 19 = .ok (.aload_n 0, 1) := dq0 (p := fun a b => decode cX1_lift a = .ok b) dm_cX1_lift_0 10 rfl
theorem dX1_lift_20 : decode cX1_lift 20 = .ok (.getfield 9, 3) := dq0 (p := fun a b => decode cX1_lift a = .ok b) dm_cX1_lift_0 11 rfl
theorem dX1_lift_23 : decode cX1_lift 23 = .ok (.iload 4, 2) := dq0 (p := fun a b => decode cX1_lift a = .ok b) dm_cX1_lift_0 12 rfl
theorem dX1_lift_25 : decode cX1_lift 25 = .ok (.dup2, 1) := dq0 (p := fun a b => decode cX1_lift a = .ok b) dm_cX1_lift_0 13 rfl
theorem dX1_lift_26 : decode cX1_lift 26 = .ok (.laload, 1) := dq0 (p := fun a b => decode cX1_lift a = .ok b) dm_cX1_lift_0 14 rfl
theorem dX1_lift_27 : decode cX1_lift 27 = .ok (.lload_n 2, 1) := dq0 (p := fun a b => decode cX1_lift a = .ok b) dm_cX1_lift_0 15 rfl
theorem dX1_lift_28 : decode cX1_lift 28 = .ok (.land, 1) := dq0 (p := fun a b => decode cX1_lift a = .ok b) dm_cX1_lift_0 16 rfl
theorem dX1_lift_29 : decode cX1_lift 29 = .ok (.lastore, 1) := dq0 (p := fun a b => decode cX1_lift a = .ok b) dm_cX1_lift_0 17 rfl
theorem dX1_lift_30 : decode cX1_lift 30 = .ok (.iinc 4 1, 3) := dq0 (p := fun a b => decode cX1_lift a = .ok b) dm_cX1_lift_0 18 rfl
theorem dX1_lift_33 : decode cX1_lift 33 = .ok (.goto (-21), 3) := dq0 (p := fun a b => decode cX1_lift a = .ok b) dm_cX1_lift_0 19 rfl
theorem dX1_lift_36 : decode cX1_lift 36 = .ok (.aload_n 0, 1) := dq0 (p := fun a b => decode cX1_lift a = .ok b) dm_cX1_lift_0 20 rfl
theorem dX1_lift_37 : decode cX1_lift 37 = .ok (.dup, 1) := dq0 (p := fun a b => decode cX1_lift a = .ok b) dm_cX1_lift_0 21 rfl
theorem dX1_lift_38 : decode cX1_lift 38 = .ok (.getfield 32, 3) := dq0 (p := fun a b => decode cX1_lift a = .ok b) dm_cX1_lift_0 22 rfl
theorem dX1_lift_41 : decode cX1_lift 41 = .ok (.lload_n 2, 1) := dq0 (p := fun a b => decode cX1_lift a = .ok b) dm_cX1_lift_0 23 rfl
theorem dX1_lift_42 : decode cX1_lift 42 = .ok (.land, 1) := dq0 (p := fun a b => decode cX1_lift a = .ok b) dm_cX1_lift_0 24 rfl
theorem dX1_lift_43 : decode cX1_lift 43 = .ok (.putfield 32, 3) := dq0 (p := fun a b => decode cX1_lift a = .ok b) dm_cX1_lift_0 25 rfl
theorem dX1_lift_46 : decode cX1_lift 46 = .ok (.aload_n 0, 1) := dq0 (p := fun a b => decode cX1_lift a = .ok b) dm_cX1_lift_0 26 rfl
theorem dX1_lift_47 : decode cX1_lift 47 = .ok (.dup, 1) := dq0 (p := fun a b => decode cX1_lift a = .ok b) dm_cX1_lift_0 27 rfl
theorem dX1_lift_48 : decode cX1_lift 48 = .ok (.getfield 36, 3) := dq0 (p := fun a b => decode cX1_lift a = .ok b) dm_cX1_lift_0 28 rfl
theorem dX1_lift_51 : decode cX1_lift 51 = .ok (.lload_n 2, 1) := dq0 (p := fun a b => decode cX1_lift a = .ok b) dm_cX1_lift_0 29 rfl
theorem dX1_lift_52 : decode cX1_lift 52 = .ok (.land, 1) := dq0 (p := fun a b => decode cX1_lift a = .ok b) dm_cX1_lift_0 30 rfl
theorem dX1_lift_53 : decode cX1_lift 53 = .ok (.putfield 36, 3) := dq0 (p := fun a b => decode cX1_lift a = .ok b) dm_cX1_lift_0 31 rfl
theorem dX1_lift_56 : decode cX1_lift 56 = .ok (.return_, 1) := dq0 (p := fun a b => decode cX1_lift a = .ok b) dm_cX1_lift_0 32 rfl
theorem dm_cX1_join_0 : ([(0, .iload_n 1, 1), (1, .ifCond .lt 33, 3), (4, .iload_n 1, 1), (5, .bipush 64, 2), (7, .if_icmp .ge 27, 3), (10, .iload_n 2, 1), (11, .ifCond .lt 23, 3), (14, .iload_n 2, 1), (15, .bipush 64, 2), (17, .if_icmp .ge 17, 3), (20, .aload_n 0, 1), (21, .getfield 15, 3), (24, .iload_n 1, 1), (25, .iload_n 2, 1), (26, .iastore, 1), (27, .aload_n 0, 1), (28, .getfield 15, 3), (31, .iload_n 2, 1), (32, .iload_n 1, 1), (33, .iastore, 1), (34, .return_, 1)] : List (Nat × Instr × Nat)).all (fun t => decide (decode cX1_join t.1 = .ok t.2)) = true := by decide +kernel
theorem dX1_join_0 : decode cX1_join 0 = .ok (.iload_n 1, 1) := dq0 (p := fun a b => decode cX1_join a = .ok b) dm_cX1_join_0 0 rfl
theorem dX1_join_1 : decode cX1_join 1 = .ok (.ifCond .lt 33, 3) := dq0 (p := fun a b => decode cX1_join a = .ok b) dm_cX1_join_0 1 rfl
theorem dX1_join_4 : decode cX1_join 4 = .ok (.iload_n 1, 1) := dq0 (p := fun a b => decode cX1_join a = .ok b) dm_cX1_join_0 2 rfl
theorem dX1_join_5 : decode cX1_join 5 = .ok (.bipush 64, 2) := dq0 (p := fun a b => decode cX1_join a = .ok b) dm_cX1_join_0 3 rfl
theorem dX1_join_7 : decode cX1_join 7 = .ok (.if_icmp .ge 27, 3) := dq0 (p := fun a b => decode cX1_join a = .ok b) dm_cX1_join_0 4 rfl
theorem dX1_join_10 : decode cX1_join 10 = .ok (.iload_n 2, 1) := dq0 (p := fun a b => decode cX1_join a = .ok b) dm_cX1_join_0 5 rfl
theorem dX1_join_11 : decode cX1_join 11 = .ok (.ifCond .lt 23, 3) := dq0 (p := fun a b => decode cX1_join a = .ok b) dm_cX1_join_0 6 rfl
theorem dX1_join_14 : decode cX1_join 14 = .ok (.iload_n 2, 1) := dq0 (p := fun a b => decode cX1_join a = .ok b) dm_cX1_join_0 7 rfl
theorem dX1_join_15 : decode cX1_join 15 = .ok (.bipush 64, 2) := dq0 (p := fun a b => decode cX1_join a = .ok b) dm_cX1_join_0 8 rfl
theorem dX1_join_17 : decode cX1_join 17 = .ok (.if_icmp .ge 17, 3) := dq0 (p := fun a b => decode cX1_join a = .ok b) dm_cX1_join_0 9 rfl
theorem dX1_join_20 : decode cX1_join 20 = .ok (.aload_n 0, 1) := dq0 (p := fun a b => decode cX1_join a = .ok b) dm_cX1_join_0 10 rfl
theorem dX1_join_21 : decode cX1_join 21 = .ok (.getfield 15, 3) := dq0 (p := fun a b => decode cX1_join a = .ok b) dm_cX1_join_0 11 rfl
theorem dX1_join_24 : decode cX1_join 24 = .ok (.iload_n 1, 1) := dq0 (p := fun a b => decode cX1_join a = .ok b) dm_cX1_join_0 12 rfl
theorem dX1_join_25 : decode cX1_join 25 = .ok (.iload_n 2, 1) := dq0 (p := fun a b => decode cX1_join a = .ok b) dm_cX1_join_0 13 rfl
theorem dX1_join_26 : decode cX1_join 26 = .ok (.iastore, 1) := dq0 (p := fun a b => decode cX1_join a = .ok b) dm_cX1_join_0 14 rfl
theorem dX1_join_27 : decode cX1_join 27 = .ok (.aload_n 0, 1) := dq0 (p := fun a b => decode cX1_join a = .ok b) dm_cX1_join_0 15 rfl
theorem dX1_join_28 : decode cX1_join 28 = .ok (.getfield 15, 3) := dq0 (p := fun a b => decode cX1_join a = .ok b) dm_cX1_join_0 16 rfl
theorem dX1_join_31 : decode cX1_join 31 = .ok (.iload_n 2, 1) := dq0 (p := fun a b => decode cX1_join a = .ok b) dm_cX1_join_0 17 rfl
theorem dX1_join_32 : decode cX1_join 32 = .ok (.iload_n 1, 1) := dq0 (p := fun a b => decode cX1_join a = .ok b) dm_cX1_join_0 18 rfl
theorem dX1_join_33 : decode cX1_join 33 = .ok (.iastore, 1) := dq0 (p := fun a b => decode cX1_join a = .ok b) dm_cX1_join_0 19 rfl
theorem dX1_join_34 : decode cX1_join 34 = .ok (.return_, 1) := dq0 (p := fun a b => decode cX1_join a = .ok b) dm_cX1_join_0 20 rfl
theorem dm_cX1_part_0 : ([(0, .aload_n 0, 1), (1, .iload_n 1, 1), (2, .invokevirtual 71, 3), (5, .istore_n 2, 1), (6, .iload_n 2, 1), (7, .ifCond .lt 33, 3), (10, .iload_n 2, 1), (11, .bipush 64, 2), (13, .if_icmp .ge 27, 3), (16, .iload_n 1, 1), (17, .ifCond .lt 23, 3), (20, .iload_n 1, 1), (21, .bipush 64, 2), (23, .if_icmp .ge 17, 3), (26, .aload_n 0, 1), (27, .getfield 15, 3), (30, .iload_n 1, 1), (31, .iconst (-1), 1), (32, .iastore, 1), (33, .aload_n 0, 1), (34, .getfield 15, 3), (37, .iload_n 2, 1), (38, .iconst (-1), 1), (39, .iastore, 1), (40, .iload_n 2, 1), (41, .ireturn, 1)] : List (Nat × Instr × Nat)).all (fun t => decide (decode cX1_part t.1 = .ok t.2)) = true := by decide +kernel
theorem dX1_part_0 : decode cX1_part 0 = .ok (.aload_n 0, 1) := dq0 (p := fun a b => decode cX1_part a = .ok b) dm_cX1_part_0 0 rfl
theorem dX1_part_1 : decode cX1_part 1 = .ok (.iload_n 1, 1) := dq0 (p := fun a b => decode cX1_part a = .ok b) dm_cX1_part_0 1 rfl
theorem dX1_part_2 : decode cX1_part 2 = .ok (.invokevirtual 71, 3) := dq0 (p := fun a b => decode cX1_part a = .ok b) dm_cX1_part_0 2 rfl
theorem dX1_part_5 : decode cX1_part 5 = .ok (.istore_n 2, 1) := dq0 (p := fun a b => decode cX1_part a = .ok b) dm_cX1_part_0 3 rfl
theorem dX1_part_6 : decode cX1_part 6 = .ok (.iload_n 2, 1) := dq0 (p := fun a b => decode cX1_part a = .ok b) dm_cX1_part_0 4 rfl
theorem dX1_part_7 : decode cX1_part 7 = .ok (.ifCond .lt 33, 3) := dq0 (p := fun a b => decode cX1_part a = .ok b) dm_cX1_part_0 5 rfl
theorem dX1_part_10 : decode cX1_part 10 = .ok (.iload_n 2, 1) := dq0 (p := fun a b => decode cX1_part a = .ok b) dm_cX1_part_0 6 rfl
theorem dX1_part_11 : decode cX1_part 11 = .ok (.bipush 64, 2) := dq0 (p := fun a b => decode cX1_part a = .ok b) dm_cX1_part_0 7 rfl
theorem dX1_part_13 : decode cX1_part 13 = .ok (.if_icmp .ge 27, 3) := dq0 (p := fun a b => decode cX1_part a = .ok b) dm_cX1_part_0 8 rfl
theorem dX1_part_16 : decode cX1_part 16 = .ok (.iload_n 1, 1) := dq0 (p := fun a b => decode cX1_part a = .ok b) dm_cX1_part_0 9 rfl
theorem dX1_part_17 : decode cX1_part 17 = .ok (.ifCond .lt 23, 3) := dq0 (p := fun a b => decode cX1_part a = .ok b) dm_cX1_part_0 10 rfl
theorem dX1_part_20 : decode cX1_part 20 = .ok (.iload_n 1, 1) := dq0 (p := fun a b => decode cX1_part a = .ok b) dm_cX1_part_0 11 rfl
theorem dX1_part_21 : decode cX1_part 21 = .ok (.bipush 64, 2) := dq0 (p := fun a b => decode cX1_part a = .ok b) dm_cX1_part_0 12 rfl
theorem dX1_part_23 : decode cX1_part 23 = .ok (.if_icmp .ge 17, 3) := dq0 (p := fun a b => decode cX1_part a = .ok b) dm_cX1_part_0 13 rfl
theorem dX1_part_26 : decode cX1_part 26 = .ok (.aload_n 0, 1) := dq0 (p := fun a b => decode cX1_part a = .ok b) dm_cX1_part_0 14 rfl
theorem dX1_part_27 : decode cX1_part 27 = .ok (.getfield 15, 3) := dq0 (p := fun a b => decode cX1_part a = .ok b) dm_cX1_part_0 15 rfl
theorem dX1_part_30 : decode cX1_part 30 = .ok (.iload_n 1, 1) := dq0 (p := fun a b => decode cX1_part a = .ok b) dm_cX1_part_0 16 rfl
theorem dX1_part_31 : decode cX1_part 31 = .ok (.iconst (-1), 1) := dq0 (p := fun a b => decode cX1_part a = .ok b) dm_cX1_part_0 17 rfl
theorem dX1_part_32 : decode cX1_part 32 = .ok (.iastore, 1) := dq0 (p := fun a b => decode cX1_part a = .ok b) dm_cX1_part_0 18 rfl
theorem dX1_part_33 : decode cX1_part 33 = .ok (.aload_n 0, 1) := dq0 (p := fun a b => decode cX1_part a = .ok b) dm_cX1_part_0 19 rfl
theorem dX1_part_34 : decode cX1_part 34 = .ok (.getfield 15, 3) := dq0 (p := fun a b => decode cX1_part a = .ok b) dm_cX1_part_0 20 rfl
theorem dX1_part_37 : decode cX1_part 37 = .ok (.iload_n 2, 1) := dq0 (p := fun a b => decode cX1_part a = .ok b) dm_cX1_part_0 21 rfl
theorem dX1_part_38 : decode cX1_part 38 = .ok (.iconst (-1), 1) := dq0 (p := fun a b => decode cX1_part a = .ok b) dm_cX1_part_0 22 rfl
theorem dX1_part_39 : decode cX1_part 39 = .ok (.iastore, 1) := dq0 (p := fun a b => decode cX1_part a = .ok b) dm_cX1_part_0 23 rfl
theorem dX1_part_40 : decode cX1_part 40 = .ok (.iload_n 2, 1) := dq0 (p := fun a b => decode cX1_part a = .ok b) dm_cX1_part_0 24 rfl
theorem dX1_part_41 : decode cX1_part 41 = .ok (.ireturn, 1) := dq0 (p := fun a b => decode cX1_part a = .ok b) dm_cX1_part_0 25 rfl
theorem dm_cX1_shift_0 : ([(0, .aload_n 0, 1), (1, .iload_n 1, 1), (2, .invokevirtual 75, 3), (5, .istore_n 3, 1), (6, .aload_n 0, 1), (7, .iload_n 2, 1), (8, .invokevirtual 75, 3), (11, .istore 4, 2), (13, .aload_n 0, 1), (14, .getfield 32, 3), (17, .iload_n 1, 1), (18, .invokestatic 49, 3), (21, .istore 5, 2), (23, .aload_n 0, 1), (24, .iload_n 2, 1), (25, .invokevirtual 78, 3), (28, .pop, 1), (29, .aload_n 0, 1), (30, .iload_n 1, 1), (31, .invokevirtual 78, 3), (34, .istore 6, 2), (36, .aload_n 0, 1), (37, .iload_n 2, 1), (38, .invokevirtual 81, 3), (41, .aload_n 0, 1), (42, .iload_n 1, 1), (43, .invokevirtual 81, 3), (46, .iload_n 2, 1), (47, .bipush 8, 2), (49, .idiv, 1), (50, .istore 7, 2), (52, .iload_n 3, 1), (53, .bipush 6, 2), (55, .if_icmp .ne 19, 3), (58, .iload 7, 2), (60, .ifCond .eq 10, 3), (63, .iload 7, 2), (65, .bipush 7, 2), (67, .if_icmp .ne 7, 3), (70, .iconst 1, 1), (71, .goto 4, 3), (74, .iconst 0, 1), (75, .istore 8, 2), (77, .aload_n 0, 1), (78, .iload_n 2, 1), (79, .iload 8, 2), (81, .ifCond .eq 7, 3), (84, .iconst 2, 1), (85, .goto 4, 3), (88, .iload_n 3, 1), (89, .iload 5, 2), (91, .invokevirtual 85, 3), (94, .iload 6, 2), (96, .iconst (-1), 1), (97, .if_icmp .eq 10, 3), (100, .aload_n 0, 1), (101, .iload_n 2, 1), (102, .iload 6, 2), (104, .invokevirtual 89, 3), (107, .iload 4, 2)] : List (Nat × Instr × Nat)).all (fun t => decide (decode cX1_shift t.1 = .ok t.2)) = true := by decide +kernel
theorem dX1_shift_0 : decode cX1_shift 0 = .ok (.aload_n 0, 1) := dq0 (p := fun a b => decode cX1_shift a = .ok b) dm_cX1_shift_0 0 rfl
theorem dX1_shift_1 : decode cX1_shift 1 = .ok (.iload_n 1, 1) := dq0 (p := fun a b => decode cX1_shift a = .ok b) dm_cX1_shift_0 1 rfl
theorem dX1_shift_2 : decode cX1_shift 2 = .ok (.invokevirtual 75, 3) := dq0 (p := fun a b => decode cX1_shift a = .ok b) dm_cX1_shift_0 2 rfl
theorem dX1_shift_5 : decode cX1_shift 5 = .ok (.istore_n 3, 1) := dq0 (p := fun a b => decode cX1_shift a = .ok b) dm_cX1_shift_0 3 rfl
theorem dX1_shift_6 : decode cX1_shift 6 = .ok (.aload_n 0, 1) := dq0 (p := fun a b => decode cX1_shift a = .ok b) dm_cX1_shift_0 4 rfl
theorem dX1_shift_7 : decode cX1_shift 7 = .ok (.iload_n 2, 1) := dq0 (p := fun a b => decode cX1_shift a = .ok b) dm_cX1_shift_0 5 rfl
theorem dX1_shift_8 : decode cX1_shift 8 = .ok (.invokevirtual 75, 3) := dq0 (p := fun a b => decode cX1_shift a = .ok b) dm_cX1_shift_0 6 rfl
theorem dX1_shift_11 : decode cX1_shift 11 = .ok (.istore 4, 2) := dq0 (p := fun a b => decode cX1_shift a = .ok b) dm_cX1_shift_0 7 rfl
theorem dX1_shift_13 : decode cX1_shift 13 = .ok (.aload_n 0, 1) := dq0 (p := fun a b => decode cX1_shift a = .ok b) dm_cX1_shift_0 8 rfl
theorem dX1_shift_14 : decode cX1_shift 14 = .ok (.getfield 32, 3) := dq0 (p := fun a b => decode cX1_shift a = .ok b) dm_cX1_shift_0 9 rfl
theorem dX1_shift_17 : decode cX1_shift 17 = .ok (.iload_n 1, 1) := dq0 (p := fun a b => decode cX1_shift a = .ok b) dm_cX1_shift_0 10 rfl
theorem dX1_shift_18 : decode cX1_shift 18 = .ok (.invokestatic 49, 3) := dq0 (p := fun a b => decode cX1_shift a = .ok b) dm_cX1_shift_0 11 rfl
theorem dX1_shift_21 : decode cX1_shift 21 = .ok (.istore 5, 2) := dq0 (p := fun a b => decode cX1_shift a = .ok b) dm_cX1_shift_0 12 rfl
theorem dX1_shift_23 : decode cX1_shift 23 = .ok (.aload_n 0, 1) := dq0 (p := fun a b => decode cX1_shift a = .ok b) dm_cX1_shift_0 13 rfl
theorem dX1_shift_24 : decode cX1_shift 24 = .ok (.iload_n 2, 1) := dq0 (p := fun a b => decode cX1_shift a = .ok b) dm_cX1_shift_0 14 rfl
theorem dX1_shift_25 : decode cX1_shift 25 = .ok (.invokevirtual 78, 3) := dq0 (p := fun a b => decode cX1_shift a = .ok b) dm_cX1_shift_0 15 rfl
theorem dX1_shift_28 : decode cX1_shift 28 = .ok (.pop, 1) := dq0 (p := fun a b => decode cX1_shift a = .ok b) dm_cX1_shift_0 16 rfl
theorem dX1_shift_29 : decode cX1_shift 29 = .ok (.aload_n 0, 1) := dq0 (p := fun a b => decode cX1_shift a = .ok b) dm_cX1_shift_0 17 rfl
theorem dX1_shift_30 : decode cX1_shift 30 = .ok (.iload_n 1, 1) := dq0 (p := fun a b => decode cX1_shift a = .ok b) dm_cX1_shift_0 18 rfl
theorem dX1_shift_31 : decode cX1_shift 31 = .ok (.invokevirtual 78, 3) := dq0 (p := fun a b => decode cX1_shift a = .ok b) dm_cX1_shift_0 19 rfl
theorem dX1_shift_34 : decode cX1_shift 34 = .ok (.istore 6, 2) := dq0 (p := fun a b => decode cX1_shift a = .ok b) dm_cX1_shift_0 20 rfl
theorem dX1_shift_36 : decode cX1_shift 36 = .ok (.aload_n 0, 1) := dq0 (p := fun a b => decode cX1_shift a = .ok b) dm_cX1_shift_0 21 rfl
theorem dX1_shift_37 : decode cX1_shift 37 = .ok (.iload_n 2, 1) := dq0 (p := fun a b => decode cX1_shift a = .ok b) dm_cX1_shift_0 22 rfl
theorem dX1_shift_38 : decode cX1_shift 38 = .ok (.invokevirtual 81, 3) := dq0 (p := fun a b => decode cX1_shift a = .ok b) dm_cX1_shift_0 23 rfl
theorem dX1_shift_41 : decode cX1_shift 41 = .ok (.aload_n 0, 1) := dq0 (p := fun a b => decode cX1_shift a = .ok b) dm_cX1_shift_0 24 rfl
theorem dX1_shift_42 : decode cX1_shift 42 = .ok (.iload_n 1, 1) := dq0 (p := fun a b => decode cX1_shift a = .ok b) dm_cX1_shift_0 25 rfl
theorem dX1_shift_43 : decode cX1_shift 43 = .ok (.invokevirtual 81, 3) := dq0 (p := fun a b => decode cX1_shift a = .ok b) dm_cX1_shift_0 26 rfl
theorem dX1_shift_46 : decode cX1_shift 46 = .ok (.iload_n 2, 1) := dq0 (p := fun a b => decode cX1_shift a = .ok b) dm_cX1_shift_0 27 rfl
theorem dX1_shift_47 : decode cX1_shift 47 = .ok (.bipush 8, 2) := dq0 (p := fun a b => decode cX1_shift a = .ok b) dm_cX1_shift_0 28 rfl
theorem dX1_shift_49 : decode cX1_shift 49 = .ok (.idiv, 1) := dq0 (p := fun a b => decode cX1_shift a = .ok b) dm_cX1_shift_0 29 rfl
theorem dX1_shift_50 : decode cX1_shift 50 = .ok (.istore 7, 2) := dq0 (p := fun a b => decode cX1_shift a = .ok b) dm_cX1_shift_0 30 rfl
theorem dX1_shift_52 : decode cX1_shift 52 = .ok (.iload_n 3, 1) := dq0 (p := fun a b => decode cX1_shift a = .ok b) dm_cX1_shift_0 31 rfl
theorem dX1_shift_53 : decode cX1_shift 53 = .ok (.bipush 6, 2) := dq0 (p := fun a b => decode cX1_shift a = .ok b) dm_cX1_shift_0 32 rfl
theorem dX1_shift_55 : decode cX1_shift 55 = .ok (.if_icmp .ne 19, 3) := dq0 (p := fun a b => decode cX1_shift a = .ok b) dm_cX1_shift_0 33 rfl
theorem dX1_shift_58 : decode cX1_shift 58 = .ok (.iload 7, 2) := dq0 (p := fun a b => decode cX1_shift a = .ok b) dm_cX1_shift_0 34 rfl
theorem dX1_shift_60 : decode cX1_shift 60 = .ok (.ifCond .eq 10, 3) := dq0 (p := fun a b => decode cX1_shift a = .ok b) dm_cX1_shift_0 35 rfl
theorem dX1_shift_63 : decode cX1_shift 63 = .ok (.iload 7, 2) := dq0 (p := fun a b => decode cX1_shift a = .ok b) dm_cX1_shift_0 36 rfl
theorem dX1_shift_65 : decode cX1_shift 65 = .ok (.bipush 7, 2) := dq0 (p := fun a b => decode cX1_shift a = .ok b) dm_cX1_shift_0 37 rfl
theorem dX1_shift_67 : decode cX1_shift 67 = .ok (.if_icmp .ne 7, 3) := dq0 (p := fun a b => decode cX1_shift a = .ok b) dm_cX1_shift_0 38 rfl
theorem dX1_shift_70 : decode cX1_shift 70 = .ok (.iconst 1, 1) := dq0 (p := fun a b => decode cX1_shift a = .ok b) dm_cX1_shift_0 39 rfl
theorem dX1_shift_71 : decode cX1_shift 71 = .ok (.goto 4, 3) := dq0 (p := fun a b => decode cX1_shift a = .ok b) dm_cX1_shift_0 40 rfl
theorem dX1_shift_74 : decode cX1_shift 74 = .ok (.iconst 0, 1) := dq0 (p := fun a b => decode cX1_shift a = .ok b) dm_cX1_shift_0 41 rfl
theorem dX1_shift_75 : decode cX1_shift 75 = .ok (.istore 8, 2) := dq0 (p := fun a b => decode cX1_shift a = .ok b) dm_cX1_shift_0 42 rfl
theorem dX1_shift_77 : decode cX1_shift 77 = .ok (.aload_n 0, 1) := dq0 (p := fun a b => decode cX1_shift a = .ok b) dm_cX1_shift_0 43 rfl
theorem dX1_shift_78 : decode cX1_shift 78 = .ok (.iload_n 2, 1) := dq0 (p := fun a b => decode cX1_shift a = .ok b) dm_cX1_shift_0 44 rfl
theorem dX1_shift_79 : decode cX1_shift 79 = .ok (.iload 8, 2) := dq0 (p := fun a b => decode cX1_shift a = .ok b) dm_cX1_shift_0 45 rfl
theorem dX1_shift_81 : decode cX1_shift 81 = .ok (.ifCond .eq 7, 3) := dq0 (p := fun a b => decode cX1_shift a = .ok b) dm_cX1_shift_0 46 rfl
theorem dX1_shift_84 : decode cX1_shift 84 = .ok (.iconst 2, 1) := dq0 (p := fun a b => decode cX1_shift a = .ok b) dm_cX1_shift_0 47 rfl
theorem dX1_shift_85 : decode cX1_shift 85 = .ok (.goto 4, 3) := dq0 (p := fun a b => decode cX1_shift a = .ok b) dm_cX1_shift_0 48 rfl
theorem dX1_shift_88 : decode cX1_shift 88 = .ok (.iload_n 3, 1) := dq0 (p := fun a b => decode cX1_shift a = .ok b) dm_cX1_shift_0 49 rfl
theorem dX1_shift_89 : decode cX1_shift 89 = .ok (.iload 5, 2) := dq0 (p := fun a b => decode cX1_shift a = .ok b) dm_cX1_shift_0 50 rfl
theorem dX1_shift_91 : decode cX1_shift 91 = .ok (.invokevirtual 85, 3) := dq0 (p := fun a b => decode cX1_shift a = .ok b) dm_cX1_shift_0 51 rfl
theorem dX1_shift_94 : decode cX1_shift 94 = .ok (.iload 6, 2) := dq0 (p := fun a b => decode cX1_shift a = .ok b) dm_cX1_shift_0 52 rfl
theorem dX1_shift_96 : decode cX1_shift 96 = .ok (.iconst (-1), 1) := dq0 (p := fun a b => decode cX1_shift a = .ok b) dm_cX1_shift_0 53 rfl
theorem dX1_shift_97 : decode cX1_shift 97 = .ok (.if_icmp .eq 10, 3) := dq0 (p := fun a b => decode cX1_shift a = .ok b) dm_cX1_shift_0 54 rfl
theorem dX1_shift_100 : decode cX1_shift 100 = .ok (.aload_n 0, 1) := dq0 (p := fun a b => decode cX1_shift a = .ok b) dm_cX1_shift_0 55 rfl
theorem dX1_shift_101 : decode cX1_shift 101 = .ok (.iload_n 2, 1) := dq0 (p := fun a b => decode cX1_shift a = .ok b) dm_cX1_shift_0 56 rfl
theorem dX1_shift_102 : decode cX1_shift 102 = .ok (.iload 6, 2) := dq0 (p := fun a b => decode cX1_shift a = .ok b) dm_cX1_shift_0 57 rfl
theorem dX1_shift_104 : decode cX1_shift 104 = .ok (.invokevirtual 89, 3) := dq0 (p := fun a b => decode cX1_shift a = .ok b) dm_cX1_shift_0 58 rfl
theorem dX1_shift_107 : decode cX1_shift 107 = .ok (.iload 4, 2) := dq0 (p := fun a b => decode cX1_shift a = .ok b) dm_cX1_shift_0 59 rfl
theorem dm_cX1_shift_1 : ([(109, .ireturn, 1)] : List (Nat × Instr × Nat)).all (fun t => decide (decode cX1_shift t.1 = .ok t.2)) = true := by decide +kernel
theorem dX1_shift_109 : decode cX1_shift 109 = .ok (.ireturn, 1) := dq0 (p := fun a b => decode cX1_shift a = .ok b) dm_cX1_shift_1 0 rfl
theorem dm_cX1_passTurn_0 : ([(0, .aload_n 0, 1), (1, .aload_n 0, 1), (2, .getfield 25, 3), (5, .ifCond .ne 7, 3), (8, .iconst 1, 1), (9, .goto 4, 3), (12, .iconst 0, 1), (13, .putfield 25, 3), (16, .return_, 1)] : List (Nat × Instr × Nat)).all (fun t => decide (decode cX1_passTurn t.1 = .ok t.2)) = true := by decide +kernel
theorem dX1_passTurn_0 : decode cX1_passTurn 0 = .ok (.aload_n 0, 1) := dq0 (p := fun a b => decode cX1_passTurn a = .ok b) dm_cX1_passTurn_0 0 rfl
theorem dX1_passTurn_1 : decode cX1_passTurn 1 = .ok (.aload_n 0, 1) := dq0 (p := fun a b => decode cX1_passTurn a = .ok b) dm_cX1_passTurn_0 1 rfl
theorem dX1_passTurn_2 : decode cX1_passTurn 2 = .ok (.getfield 25, 3) := dq0 (p := fun a b => decode cX1_passTurn a = .ok b) dm_cX1_passTurn_0 2 rfl
theorem dX1_passTurn_5 : decode cX1_passTurn 5 = .ok (.ifCond .ne 7, 3) := dq0 (p := fun a b => decode cX1_passTurn a = .ok b) dm_cX1_passTurn_0 3 rfl
theorem dX1_passTurn_8 : decode cX1_passTurn 8 = .ok (.iconst 1, 1) := dq0 (p := fun a b => decode cX1_passTurn a = .ok b) dm_cX1_passTurn_0 4 rfl
theorem dX1_passTurn_9 : decode cX1_passTurn 9 = .ok (.goto 4, 3) := dq0 (p := fun a b => decode cX1_passTurn a = .ok b) dm_cX1_passTurn_0 5 rfl
theorem dX1_passTurn_12 : decode cX1_passTurn 12 = .ok (.iconst 0, 1) := dq0 (p := fun a b => decode cX1_passTurn a = .ok b) dm_cX1_passTurn_0 6 rfl
theorem dX1_passTurn_13 : decode cX1_passTurn 13 = .ok (.putfield 25, 3) := dq0 (p := fun a b => decode cX1_passTurn a = .ok b) dm_cX1_passTurn_0 7 rfl
theorem dX1_passTurn_16 : decode cX1_passTurn 16 = .ok (.return_, 1) := dq0 (p := fun a b => decode cX1_passTurn a = .ok b) dm_cX1_passTurn_0 8 rfl
theorem dm_cX1_attackersOn_0 : ([(0, .aload_n 0, 1), (1, .getfield 9, 3), (4, .iconst 2, 1), (5, .laload, 1), (6, .aload_n 0, 1), (7, .getfield 9, 3), (10, .iconst 3, 1), (11, .laload, 1), (12, .lor, 1), (13, .lstore 6, 2), (15, .aload_n 0, 1), (16, .getfield 9, 3), (19, .iconst 2, 1), (20, .laload, 1), (21, .aload_n 0, 1), (22, .getfield 9, 3), (25, .iconst 4, 1), (26, .laload, 1), (27, .lor, 1), (28, .lstore 8, 2), (30, .lload_n 1, 1), (31, .invokestatic 93, 3), (34, .aload_n 0, 1), (35, .getfield 9, 3), (38, .iconst 1, 1), (39, .laload, 1), (40, .land, 1), (41, .lload_n 1, 1), (42, .invokestatic 99, 3), (45, .aload_n 0, 1), (46, .getfield 9, 3), (49, .iconst 5, 1), (50, .laload, 1), (51, .land, 1), (52, .lor, 1), (53, .lload_n 1, 1), (54, .iload_n 3, 1), (55, .ifCond .ne 7, 3), (58, .iconst 1, 1), (59, .goto 4, 3), (62, .iconst 0, 1), (63, .invokestatic 102, 3), (66, .aload_n 0, 1), (67, .getfield 9, 3), (70, .bipush 6, 2), (72, .laload, 1), (73, .land, 1), (74, .lor, 1), (75, .lload_n 1, 1), (76, .lload 4, 2), (78, .invokestatic 106, 3), (81, .lload 6, 2), (83, .land, 1), (84, .lor, 1), (85, .lload_n 1, 1), (86, .lload 4, 2), (88, .invokestatic 110, 3), (91, .lload 8, 2), (93, .land, 1), (94, .lor, 1)] : List (Nat × Instr × Nat)).all (fun t => decide (decode cX1_attackersOn t.1 = .ok t.2)) = true := by decide +kernel
theorem dX1_attackersOn_0 : decode cX1_attackersOn 0 = .ok (.aload_n 0, 1) := dq0 (p := fun a b => decode cX1_attackersOn a = .ok b) dm_cX1_attackersOn_0 0 rfl
theorem dX1_attackersOn_1 : decode cX1_attackersOn 1 = .ok (.getfield 9, 3) := dq0 (p := fun a b => decode cX1_attackersOn a = .ok b) dm_cX1_attackersOn_0 1 rfl
theorem dX1_attackersOn_4 : decode cX1_attackersOn 4 = .ok (.iconst 2, 1) := dq0 (p := fun a b => decode cX1_attackersOn a = .ok b) dm_cX1_attackersOn_0 2 rfl
theorem dX1_attackersOn_5 : decode cX1_attackersOn 5 = .ok (.laload, 1) := dq0 (p := fun a b => decode cX1_attackersOn a = .ok b) dm_cX1_attackersOn_0 3 rfl
theorem dX1_attackersOn_6 : decode cX1_attackersOn 6 = .ok (.aload_n 0, 1) := dq0 (p := fun a b => decode cX1_attackersOn a = .ok b) dm_cX1_attackersOn_0 4 rfl
theorem dX1_attackersOn_7 : decode cX1_attackersOn 7 = .ok (.getfield 9, 3) := dq0 (p := fun a b => decode cX1_attackersOn a = .ok b) dm_cX1_attackersOn_0 5 rfl
theorem dX1_attackersOn_10 : decode cX1_attackersOn 10 = .ok (.iconst 3, 1) := dq0 (p := fun a b => decode cX1_attackersOn a = .ok b) dm_cX1_attackersOn_0 6 rfl
theorem dX1_attackersOn_11 : decode cX1_attackersOn 11 = .ok (.laload, 1) := dq0 (p := fun a b => decode cX1_attackersOn a = .ok b) dm_cX1_attackersOn_0 7 rfl
theorem dX1_attackersOn_12 : decode cX1_attackersOn 12 = .ok (.lor, 1) := dq0 (p := fun a b => decode cX1_attackersOn a = .ok b) dm_cX1_attackersOn_0 8 rfl
theorem dX1_attackersOn_13 : decode cX1_attackersOn 13 = .ok (.lstore 6, 2) := dq0 (p := fun a b => decode cX1_attackersOn a = .ok b) dm_cX1_attackersOn_0 9 rfl
theorem dX1_attackersOn_15 : decode cX1_attackersOn 15 = .ok (.aload_n 0, 1) := dq0 (p := fun a b => decode cX1_attackersOn a = .ok b) dm_cX1_attackersOn_0 10 rfl
theorem dX1_attackersOn_16 : decode cX1_attackersOn 16 = .ok (.getfield 9, 3) := dq0 (p := fun a b => decode cX1_attackersOn a = .ok b) dm_cX1_attackersOn_0 11 rfl
theorem dX1_attackersOn_19 : decode cX1_attackersOn 19 = .ok (.iconst 2, 1) := dq0 (p := fun a b => decode cX1_attackersOn a = .ok b) dm_cX1_attackersOn_0 12 rfl
theorem dX1_attackersOn_20 : decode cX1_attackersOn 20 = .ok (.laload, 1) := dq0 (p := fun a b => decode cX1_attackersOn a = .ok b) dm_cX1_attackersOn_0 13 rfl
theorem dX1_attackersOn_21 : decode cX1_attackersOn 21 = .ok (.aload_n 0, 1) := dq0 (p := fun a b => decode cX1_attackersOn a = .ok b) dm_cX1_attackersOn_0 14 rfl
theorem dX1_attackersOn_22 : decode cX1_attackersOn 22 = .ok (.getfield 9, 3) := dq0 (p := fun a b => decode cX1_attackersOn a = .ok b) dm_cX1_attackersOn_0 15 rfl
theorem dX1_attackersOn_25 : decode cX1_attackersOn 25 = .ok (.iconst 4, 1) := dq0 (p := fun a b => decode cX1_attackersOn a = .ok b) dm_cX1_attackersOn_0 16 rfl
theorem dX1_attackersOn_26 : decode cX1_attackersOn 26 = .ok (.laload, 1) := dq0 (p := fun a b => decode cX1_attackersOn a = .ok b) dm_cX1_attackersOn_0 17 rfl
theorem dX1_attackersOn_27 : decode cX1_attackersOn 27 = .ok (.lor, 1) := dq0 (p := fun a b => decode cX1_attackersOn a = .ok b) dm_cX1_attackersOn_0 18 rfl
theorem dX1_attackersOn_28 : decode cX1_attackersOn 28 = .ok (.lstore 8, 2) := dq0 (p := fun a b => decode cX1_attackersOn a = .ok b) dm_cX1_attackersOn_0 19 rfl
theorem dX1_attackersOn_30 : decode cX1_attackersOn 30 = .ok (.lload_n 1, 1) := dq0 (p := fun a b => decode cX1_attackersOn a = .ok b) dm_cX1_attackersOn_0 20 rfl
theorem dX1_attackersOn_31 : decode cX1_attackersOn 31 = .ok (.invokestatic 93, 3) := dq0 (p := fun a b => decode cX1_attackersOn a = .ok b) dm_cX1_attackersOn_0 21 rfl
theorem dX1_attackersOn_34 : decode cX1_attackersOn 34 = .ok (.aload_n 0, 1) := dq0 (p := fun a b => decode cX1_attackersOn a = .ok b) dm_cX1_attackersOn_0 22 rfl
theorem dX1_attackersOn_35 : decode cX1_attackersOn 35 = .ok (.getfield 9, 3) := dq0 (p := fun a b => decode cX1_attackersOn a = .ok b) dm_cX1_attackersOn_0 23 rfl
theorem dX1_attackersOn_38 : decode cX1_attackersOn 38 = .ok (.iconst 1, 1) := dq0 (p := fun a b => decode cX1_attackersOn a = .ok b) dm_cX1_attackersOn_0 24 rfl
theorem dX1_attackersOn_39 : decode cX1_attackersOn 39 = .ok (.laload, 1) := dq0 (p := fun a b => decode cX1_attackersOn a = .ok b) dm_cX1_attackersOn_0 25 rfl
theorem dX1_attackersOn_40 : decode cX1_attackersOn 40 = .ok (.land, 1) := dq0 (p := fun a b => decode cX1_attackersOn a = .ok b) dm_cX1_attackersOn_0 26 rfl
theorem dX1_attackersOn_41 : decode cX1_attackersOn 41 = .ok (.lload_n 1, 1) := dq0 (p := fun a b => decode cX1_attackersOn a = .ok b) dm_cX1_attackersOn_0 27 rfl
theorem dX1_attackersOn_42 : decode cX1_attackersOn 42 = .ok (.invokestatic 99, 3) := dq0 (p := fun a b => decode cX1_attackersOn a = .ok b) dm_cX1_attackersOn_0 28 rfl
theorem dX1_attackersOn_45 : decode cX1_attackersOn 45 = .ok (.aload_n 0, 1) := dq0 (p := fun a b => decode cX1_attackersOn a = .ok b) dm_cX1_attackersOn_0 29 rfl
theorem dX1_attackersOn_46 : decode cX1_attackersOn 46 = .ok (.getfield 9, 3) := dq0 (p := fun a b => decode cX1_attackersOn a = .ok b) dm_cX1_attackersOn_0 30 rfl
theorem dX1_attackersOn_49 : decode cX1_attackersOn 49 = .ok (.iconst 5, 1) := dq0 (p := fun a b => decode cX1_attackersOn a = .ok b) dm_cX1_attackersOn_0 31 rfl
theorem dX1_attackersOn_50 : decode cX1_attackersOn 50 = .ok (.laload, 1) := dq0 (p := fun a b => decode cX1_attackersOn a = .ok b) dm_cX1_attackersOn_0 32 rfl
theorem dX1_attackersOn_51 : decode cX1_attackersOn 51 = .ok (.land, 1) := dq0 (p := fun a b => decode cX1_attackersOn a = .ok b) dm_cX1_attackersOn_0 33 rfl
theorem dX1_attackersOn_52 : decode cX1_attackersOn 52 = .ok (.lor, 1) := dq0 (p := fun a b => decode cX1_attackersOn a = .ok b) dm_cX1_attackersOn_0 34 rfl
theorem dX1_attackersOn_53 : decode cX1_attackersOn 53 = .ok (.lload_n 1, 1) := dq0 (p := fun a b => decode cX1_attackersOn a = .ok b) dm_cX1_attackersOn_0 35 rfl
theorem dX1_attackersOn_54 : decode cX1_attackersOn 54 = .ok (.iload_n 3, 1) := dq0 (p := fun a b => decode cX1_attackersOn a = .ok b) dm_cX1_attackersOn_0 36 rfl
theorem dX1_attackersOn_55 : decode cX1_attackersOn 55 = .ok (.ifCond .ne 7, 3) := dq0 (p := fun a b => decode cX1_attackersOn a = .ok b) dm_cX1_attackersOn_0 37 rfl
theorem dX1_attackersOn_58 : decode cX1_attackersOn 58 = .ok (.iconst 1, 1) := dq0 (p := fun a b => decode cX1_attackersOn a = .ok b) dm_cX1_attackersOn_0 38 rfl
theorem dX1_attackersOn_59 : decode cX1_attackersOn 59 = .ok (.goto 4, 3) := dq0 (p := fun a b => decode cX1_attackersOn a = .ok b) dm_cX1_attackersOn_0 39 rfl
theorem dX1_attackersOn_62 : decode cX1_attackersOn 62 = .ok (.iconst 0, 1) := dq0 (p := fun a b => decode cX1_attackersOn a = .ok b) dm_cX1_attackersOn_0 40 rfl
theorem dX1_attackersOn_63 : decode cX1_attackersOn 63 = .ok (.invokestatic 102, 3) := dq0 (p := fun a b => decode cX1_attackersOn a = .ok b) dm_cX1_attackersOn_0 41 rfl
theorem dX1_attackersOn_66 : decode cX1_attackersOn 66 = .ok (.aload_n 0, 1) := dq0 (p := fun a b => decode cX1_attackersOn a = .ok b) dm_cX1_attackersOn_0 42 rfl
theorem dX1_attackersOn_67 : decode cX1_attackersOn 67 = .ok (.getfield 9, 3) := dq0 (p := fun a b => decode cX1_attackersOn a = .ok b) dm_cX1_attackersOn_0 43 rfl
theorem dX1_attackersOn_70 : decode cX1_attackersOn 70 = .ok (.bipush 6, 2) := dq0 (p := fun a b => decode cX1_attackersOn a = .ok b) dm_cX1_attackersOn_0 44 rfl
theorem dX1_attackersOn_72 : decode cX1_attackersOn 72 = .ok (.laload, 1) := dq0 (p := fun a b => decode cX1_attackersOn a = .ok b) dm_cX1_attackersOn_0 45 rfl
theorem dX1_attackersOn_73 : decode cX1_attackersOn 73 = .ok (.land, 1) := dq0 (p := fun a b => decode cX1_attackersOn a = .ok b) dm_cX1_attackersOn_0 46 rfl
theorem dX1_attackersOn_74 : decode cX1_attackersOn 74 = .ok (.lor, 1) := dq0 (p := fun a b => decode cX1_attackersOn a = .ok b) dm_cX1_attackersOn_0 47 rfl
theorem dX1_attackersOn_75 : decode cX1_attackersOn 75 = .ok (.lload_n 1, 1) := dq0 (p := fun a b => decode cX1_attackersOn a = .ok b) dm_cX1_attackersOn_0 48 rfl
theorem dX1_attackersOn_76 : decode cX1_attackersOn 76 = .ok (.lload 4, 2) := dq0 (p := fun a b => decode cX1_attackersOn a = .ok b) dm_cX1_attackersOn_0 49 rfl
theorem dX1_attackersOn_78 : decode cX1_attackersOn 78 = .ok (.invokestatic 106, 3) := dq0 (p := fun a b => decode cX1_attackersOn a = .ok b) dm_cX1_attackersOn_0 50 rfl
theorem dX1_attackersOn_81 : decode cX1_attackersOn 81 = .ok (.lload 6, 2) := dq0 (p := fun a b => decode cX1_attackersOn a = .ok b) dm_cX1_attackersOn_0 51 rfl
theorem dX1_attackersOn_83 : decode cX1_attackersOn 83 = .ok (.land, 1) := dq0 (p := fun a b => decode cX1_attackersOn a = .ok b) dm_cX1_attackersOn_0 52 rfl
theorem dX1_attackersOn_84 : decode cX1_attackersOn 84 = .ok (.lor, 1) := dq0 (p := fun a b => decode cX1_attackersOn a = .ok b) dm_cX1_attackersOn_0 53 rfl
theorem dX1_attackersOn_85 : decode cX1_attackersOn 85 = .ok (.lload_n 1, 1) := dq0 (p := fun a b => decode cX1_attackersOn a = .ok b) dm_cX1_attackersOn_0 54 rfl
theorem dX1_attackersOn_86 : decode cX1_attackersOn 86 = .ok (.lload 4, 2) := dq0 (p := fun a b => decode cX1_attackersOn a = .ok b) dm_cX1_attackersOn_0 55 rfl
theorem dX1_attackersOn_88 : decode cX1_attackersOn 88 = .ok (.invokestatic 110, 3) := dq0 (p := fun a b => decode cX1_attackersOn a = .ok b) dm_cX1_attackersOn_0 56 rfl
theorem dX1_attackersOn_91 : decode cX1_attackersOn 91 = .ok (.lload 8, 2) := dq0 (p := fun a b => decode cX1_attackersOn a = .ok b) dm_cX1_attackersOn_0 57 rfl
theorem dX1_attackersOn_93 : decode cX1_attackersOn 93 = .ok (.land, 1) := dq0 (p := fun a b => decode cX1_attackersOn a = .ok b) dm_cX1_attackersOn_0 58 rfl
theorem dX1_attackersOn_94 : decode cX1_attackersOn 94 = .ok (.lor, 1) := dq0 (p := fun a b => decode cX1_attackersOn a = .ok b) dm_cX1_attackersOn_0 59 rfl
theorem dm_cX1_attackersOn_1 : ([(95, .lstore 10, 2), (97, .lload 10, 2), (99, .aload_n 0, 1), (100, .iload_n 3, 1), (101, .invokevirtual 45, 3), (104, .land, 1), (105, .lreturn, 1)] : List (Nat × Instr × Nat)).all (fun t => decide (decode cX1_attackersOn t.1 = .ok t.2)) = true := by decide +kernel
theorem dX1_attackersOn_95 : decode cX1_attackersOn 95 = .ok (.lstore 10, 2) := dq0 (p := fun a b => decode cX1_attackersOn a = .ok b) dm_cX1_attackersOn_1 0 rfl
theorem dX1_attackersOn_97 : decode cX1_attackersOn 97 = .ok (.lload 10, 2) := dq0 (p := fun a b => decode cX1_attackersOn a = .ok b) dm_cX1_attackersOn_1 1 rfl
theorem dX1_attackersOn_99 : decode cX1_attackersOn 99 = .ok (.aload_n 0, 1) := dq0 (p := fun a b => decode cX1_attackersOn a = .ok b) dm_cX1_attackersOn_1 2 rfl
theorem dX1_attackersOn_100 : decode cX1_attackersOn 100 = .ok (.iload_n 3, 1) := dq0 (p := fun a b => decode cX1_attackersOn a = .ok b) dm_cX1_attackersOn_1 3 rfl
theorem dX1_attackersOn_101 : decode cX1_attackersOn 101 = .ok (.invokevirtual 45, 3) := dq0 (p := fun a b => decode cX1_attackersOn a = .ok b) dm_cX1_attackersOn_1 4 rfl
theorem dX1_attackersOn_104 : decode cX1_attackersOn 104 = .ok (.land, 1) := dq0 (p := fun a b => decode cX1_attackersOn a = .ok b) dm_cX1_attackersOn_1 5 rfl
theorem dX1_attackersOn_105 : decode cX1_attackersOn 105 = .ok (.lreturn, 1) := dq0 (p := fun a b => decode cX1_attackersOn a = .ok b) dm_cX1_attackersOn_1 6 rfl
theorem dm_cX1_attackedBy_0 : ([(0, .lconst 0, 1), (1, .lstore_n 2, 1), (2, .iconst 1, 1), (3, .istore 4, 2), (5, .iload 4, 2), (7, .bipush 7, 2), (9, .if_icmp .ge 35, 3), (12, .lload_n 2, 1), (13, .iload 4, 2), (15, .iload_n 1, 1), (16, .aload_n 0, 1), (17, .getfield 9, 3), (20, .iload 4, 2), (22, .laload, 1), (23, .aload_n 0, 1), (24, .iload_n 1, 1), (25, .invokevirtual 45, 3), (28, .land, 1), (29, .aload_n 0, 1), (30, .invokevirtual 57, 3), (33, .invokestatic 113, 3), (36, .lor, 1), (37, .lstore_n 2, 1), (38, .iinc 4 1, 3), (41, .goto (-36), 3), (44, .lload_n 2, 1), (45, .lreturn, 1)] : List (Nat × Instr × Nat)).all (fun t => decide (decode cX1_attackedBy t.1 = .ok t.2)) = true := by decide +kernel
theorem dX1_attackedBy_0 : decode cX1_attackedBy 0 = .ok (.lconst 0, 1) := dq0 (p := fun a b => decode cX1_attackedBy a = .ok b) dm_cX1_attackedBy_0 0 rfl
theorem dX1_attackedBy_1 : decode cX1_attackedBy 1 = .ok (.lstore_n 2, 1) := dq0 (p := fun a b => decode cX1_attackedBy a = .ok b) dm_cX1_attackedBy_0 1 rfl
theorem dX1_attackedBy_2 : decode cX1_attackedBy 2 = .ok (.iconst 1, 1) := dq0 (p := fun a b => decode cX1_attackedBy a = .ok b) dm_cX1_attackedBy_0 2 rfl
theorem dX1_attackedBy_3 : decode cX1_attackedBy 3 = .ok (.istore 4, 2) := dq0 (p := fun a b => decode cX1_attackedBy a = .ok b) dm_cX1_attackedBy_0 3 rfl
theorem dX1_attackedBy_5 : decode cX1_attackedBy 5 = .ok (.iload 4, 2) := dq0 (p := fun a b => decode cX1_attackedBy a = .ok b) dm_cX1_attackedBy_0 4 rfl
theorem dX1_attackedBy_7 : decode cX1_attackedBy 7 = .ok (.bipush 7, 2) := dq0 (p := fun a b => decode cX1_attackedBy a = .ok b) dm_cX1_attackedBy_0 5 rfl
theorem dX1_attackedBy_9 : decode cX1_attackedBy 9 = .ok (.if_icmp .ge 35, 3) := dq0 (p := fun a b => decode cX1_attackedBy a = .ok b) dm_cX1_attackedBy_0 6 rfl
theorem dX1_attackedBy_12 : decode cX1_attackedBy 12 = .ok (.lload_n 2, 1) := dq0 (p := fun a b => decode cX1_attackedBy a = .ok b) dm_cX1_attackedBy_0 7 rfl
theorem dX1_attackedBy_13 : decode cX1_attackedBy 13 = .ok (.iload 4, 2) := dq0 (p := fun a b => decode cX1_attackedBy a = .ok b) dm_cX1_attackedBy_0 8 rfl
theorem dX1_attackedBy_15 : decode cX1_attackedBy 15 = .ok (.iload_n 1, 1) := dq0 (p := fun a b => decode cX1_attackedBy a = .ok b) dm_cX1_attackedBy_0 9 rfl
theorem dX1_attackedBy_16 : decode cX1_attackedBy 16 = .ok (.aload_n 0, 1) := dq0 (p := fun a b => decode cX1_attackedBy a = .ok b) dm_cX1_attackedBy_0 10 rfl
theorem dX1_attackedBy_17 : decode cX1_attackedBy 17 = .ok (.getfield 9, 3) := dq0 (p := fun a b => decode cX1_attackedBy a = .ok b) dm_cX1_attackedBy_0 11 rfl
theorem dX1_attackedBy_20 : decode cX1_attackedBy 20 = .ok (.iload 4, 2) := dq0 (p := fun a b => decode cX1_attackedBy a = .ok b) dm_cX1_attackedBy_0 12 rfl
theorem dX1_attackedBy_22 : decode cX1_attackedBy 22 = .ok (.laload, 1) := dq0 (p := fun a b => decode cX1_attackedBy a = .ok b) dm_cX1_attackedBy_0 13 rfl
theorem dX1_attackedBy_23 : decode cX1_attackedBy 23 = .ok (.aload_n 0, 1) := dq0 (p := fun a b => decode cX1_attackedBy a = .ok b) dm_cX1_attackedBy_0 14 rfl
theorem dX1_attackedBy_24 : decode cX1_attackedBy 24 = .ok (.iload_n 1, 1) := dq0 (p := fun a b => decode cX1_attackedBy a = .ok b) dm_cX1_attackedBy_0 15 rfl
theorem dX1_attackedBy_25 : decode cX1_attackedBy 25 = .ok (.invokevirtual 45, 3) := dq0 (p := fun a b => decode cX1_attackedBy a = .ok b) dm_cX1_attackedBy_0 16 rfl
theorem dX1_attackedBy_28 : decode cX1_attackedBy 28 = .ok (.land, 1) := dq0 (p := fun a b => decode cX1_attackedBy a = .ok b) dm_cX1_attackedBy_0 17 rfl
theorem dX1_attackedBy_29 : decode cX1_attackedBy 29 = .ok (.aload_n 0, 1) := dq0 (p := fun a b => decode cX1_attackedBy a = .ok b) dm_cX1_attackedBy_0 18 rfl
theorem dX1_attackedBy_30 : decode cX1_attackedBy 30 = .ok (.invokevirtual 57, 3) := dq0 (p := fun a b => decode cX1_attackedBy a = .ok b) dm_cX1_attackedBy_0 19 rfl
theorem dX1_attackedBy_33 : decode cX1_attackedBy 33 = .ok (.invokestatic 113, 3) := dq0 (p := fun a b => decode cX1_attackedBy a = .ok b) dm_cX1_attackedBy_0 20 rfl
theorem dX1_attackedBy_36 : decode cX1_attackedBy 36 = .ok (.lor, 1) := dq0 (p := fun a b => decode cX1_attackedBy a = .ok b) dm_cX1_attackedBy_0 21 rfl
theorem dX1_attackedBy_37 : decode cX1_attackedBy 37 = .ok (.lstore_n 2, 1) := dq0 (p := fun a b => decode cX1_attackedBy a = .ok b) dm_cX1_attackedBy_0 22 rfl
theorem dX1_attackedBy_38 : decode cX1_attackedBy 38 = .ok (.iinc 4 1, 3) := dq0 (p := fun a b => decode cX1_attackedBy a = .ok b) dm_cX1_attackedBy_0 23 rfl
theorem dX1_attackedBy_41 : decode cX1_attackedBy 41 = .ok (.goto (-36), 3) := dq0 (p := fun a b => decode cX1_attackedBy a = .ok b) dm_cX1_attackedBy_0 24 rfl
theorem dX1_attackedBy_44 : decode cX1_attackedBy 44 = .ok (.lload_n 2, 1) := dq0 (p := fun a b => decode cX1_attackedBy a = .ok b) dm_cX1_attackedBy_0 25 rfl
theorem dX1_attackedBy_45 : decode cX1_attackedBy 45 = .ok (.lreturn, 1) := dq0 (p := fun a b => decode cX1_attackedBy a = .ok b) dm_cX1_attackedBy_0 26 rfl
theorem dm_cX1_isChecked_0 : ([(0, .aload_n 0, 1), (1, .aload_n 0, 1), (2, .iconst 1, 1), (3, .iload_n 1, 1), (4, .invokevirtual 61, 3), (7, .iload_n 1, 1), (8, .ifCond .ne 7, 3), (11, .iconst 1, 1), (12, .goto 4, 3), (15, .iconst 0, 1), (16, .aload_n 0, 1), (17, .invokevirtual 57, 3), (20, .invokevirtual 117, 3), (23, .lconst 0, 1), (24, .lcmp, 1), (25, .ifCond .eq 7, 3), (28, .iconst 1, 1), (29, .goto 4, 3), (32, .iconst 0, 1), (33, .ireturn, 1)] : List (Nat × Instr × Nat)).all (fun t => decide (decode cX1_isChecked t.1 = .ok t.2)) = true := by decide +kernel
theorem dX1_isChecked_0 : decode cX1_isChecked 0 = .ok (.aload_n 0, 1) := dq0 (p := fun a b => decode cX1_isChecked a = .ok b) dm_cX1_isChecked_0 0 rfl
theorem dX1_isChecked_1 : decode cX1_isChecked 1 = .ok (.aload_n 0, 1) := dq0 (p := fun a b => decode cX1_isChecked a = .ok b) dm_cX1_isChecked_0 1 rfl
theorem dX1_isChecked_2 : decode cX1_isChecked 2 = .ok (.iconst 1, 1) := dq0 (p := fun a b => decode cX1_isChecked a = .ok b) dm_cX1_isChecked_0 2 rfl
theorem dX1_isChecked_3 : decode cX1_isChecked 3 = .ok (.iload_n 1, 1) := dq0 (p := fun a b => decode cX1_isChecked a = .ok b) dm_cX1_isChecked_0 3 rfl
theorem dX1_isChecked_4 : decode cX1_isChecked 4 = .ok (.invokevirtual 61, 3) := dq0 (p := fun a b => decode cX1_isChecked a = .ok b) dm_cX1_isChecked_0 4 rfl
theorem dX1_isChecked_7 : decode cX1_isChecked 7 = .ok (.iload_n 1, 1) := dq0 (p := fun a b => decode cX1_isChecked a = .ok b) dm_cX1_isChecked_0 5 rfl
theorem dX1_isChecked_8 : decode cX1_isChecked 8 = .ok (.ifCond .ne 7, 3) := dq0 (p := fun a b => decode cX1_isChecked a = .ok b) dm_cX1_isChecked_0 6 rfl
theorem dX1_isChecked_11 : decode cX1_isChecked 11 = .ok (.iconst 1, 1) := dq0 (p := fun a b => decode cX1_isChecked a = .ok b) dm_cX1_isChecked_0 7 rfl
theorem dX1_isChecked_12 : decode cX1_isChecked 12 = .ok (.goto 4, 3) := dq0 (p := fun a b => decode cX1_isChecked a = .ok b) dm_cX1_isChecked_0 8 rfl
theorem dX1_isChecked_15 : decode cX1_isChecked 15 = .ok (.iconst 0, 1) := dq0 (p := fun a b => decode cX1_isChecked a = .ok b) dm_cX1_isChecked_0 9 rfl
theorem dX1_isChecked_16 : decode cX1_isChecked 16 = .ok (.aload_n 0, 1) := dq0 (p := fun a b => decode cX1_isChecked a = .ok b) dm_cX1_isChecked_0 10 rfl
theorem dX1_isChecked_17 : decode cX1_isChecked 17 = .ok (.invokevirtual 57, 3) := dq0 (p := fun a b => decode cX1_isChecked a = .ok b) dm_cX1_isChecked_0 11 rfl
theorem dX1_isChecked_20 : decode cX1_isChecked 20 = .ok (.invokevirtual 117, 3) := dq0 (p := fun a b => decode cX1_isChecked a = .ok b) dm_cX1_isChecked_0 12 rfl
theorem dX1_isChecked_23 : decode cX1_isChecked 23 = .ok (.lconst 0, 1) := dq0 (p := fun a b => decode cX1_isChecked a = .ok b) dm_cX1_isChecked_0 13 rfl
theorem dX1_isChecked_24 : decode cX1_isChecked 24 = .ok (.lcmp, 1) := dq0 (p := fun a b => decode cX1_isChecked a = .ok b) dm_cX1_isChecked_0 14 rfl
theorem dX1_isChecked_25 : decode cX1_isChecked 25 = .ok (.ifCond .eq 7, 3) := dq0 (p := fun a b => decode cX1_isChecked a = .ok b) dm_cX1_isChecked_0 15 rfl
theorem dX1_isChecked_28 : decode cX1_isChecked 28 = .ok (.iconst 1, 1) := dq0 (p := fun a b => decode cX1_isChecked a = .ok b) dm_cX1_isChecked_0 16 rfl
theorem dX1_isChecked_29 : decode cX1_isChecked 29 = .ok (.goto 4, 3) := dq0 (p := fun a b => decode cX1_isChecked a = .ok b) dm_cX1_isChecked_0 17 rfl
theorem dX1_isChecked_32 : decode cX1_isChecked 32 = .ok (.iconst 0, 1) := dq0 (p := fun a b => decode cX1_isChecked a = .ok b) dm_cX1_isChecked_0 18 rfl
theorem dX1_isChecked_33 : decode cX1_isChecked 33 = .ok (.ireturn, 1) := dq0 (p := fun a b => decode cX1_isChecked a = .ok b) dm_cX1_isChecked_0 19 rfl
theorem dm_cX1_targetsFrom_0 : ([(0, .aload_n 0, 1), (1, .iload_n 1, 1), (2, .invokevirtual 75, 3), (5, .istore_n 2, 1), (6, .iload_n 2, 1), (7, .aload_n 0, 1), (8, .getfield 25, 3), (11, .iload_n 1, 1), (12, .invokestatic 53, 3), (15, .aload_n 0, 1), (16, .invokevirtual 57, 3), (19, .invokestatic 113, 3), (22, .lstore_n 3, 1), (23, .iload_n 2, 1), (24, .bipush 6, 2), (26, .if_icmp .eq 14, 3), (29, .lload_n 3, 1), (30, .aload_n 0, 1), (31, .invokevirtual 121, 3), (34, .ldc2_w 69, 3), (37, .lxor, 1), (38, .land, 1), (39, .lreturn, 1), (40, .aload_n 0, 1), (41, .getfield 25, 3), (44, .ifCond .eq 13, 3), (47, .iload_n 1, 1), (48, .invokestatic 53, 3), (51, .bipush 8, 2), (53, .lshl, 1), (54, .goto 10, 3), (57, .iload_n 1, 1), (58, .invokestatic 53, 3), (61, .bipush 8, 2), (63, .lushr, 1), (64, .lstore 5, 2), (66, .lload_n 3, 1), (67, .aload_n 0, 1), (68, .aload_n 0, 1), (69, .getfield 25, 3), (72, .ifCond .ne 7, 3), (75, .iconst 1, 1), (76, .goto 4, 3), (79, .iconst 0, 1), (80, .invokevirtual 45, 3), (83, .land, 1), (84, .lload 5, 2), (86, .aload_n 0, 1), (87, .invokevirtual 57, 3), (90, .ldc2_w 69, 3), (93, .lxor, 1), (94, .land, 1), (95, .lor, 1), (96, .lreturn, 1)] : List (Nat × Instr × Nat)).all (fun t => decide (decode cX1_targetsFrom t.1 = .ok t.2)) = true := by decide +kernel
theorem dX1_targetsFrom_0 : decode cX1_targetsFrom 0 = .ok (.aload_n 0, 1) := dq0 (p := fun a b => decode cX1_targetsFrom a = .ok b) dm_cX1_targetsFrom_0 0 rfl
theorem dX1_targetsFrom_1 : decode cX1_targetsFrom 1 = .ok (.iload_n 1, 1) := dq0 (p := fun a b => decode cX1_targetsFrom a = .ok b) dm_cX1_targetsFrom_0 1 rfl
theorem dX1_targetsFrom_2 : decode cX1_targetsFrom 2 = .ok (.invokevirtual 75, 3) := dq0 (p := fun a b => decode cX1_targetsFrom a = .ok b) dm_cX1_targetsFrom_0 2 rfl
theorem dX1_targetsFrom_5 : decode cX1_targetsFrom 5 = .ok (.istore_n 2, 1) := dq0 (p := fun a b => decode cX1_targetsFrom a = .ok b) dm_cX1_targetsFrom_0 3 rfl
theorem dX1_targetsFrom_6 : decode cX1_targetsFrom 6 = .ok (.iload_n 2, 1) := dq0 (p := fun a b => decode cX1_targetsFrom a = .ok b) dm_cX1_targetsFrom_0 4 rfl
theorem dX1_targetsFrom_7 : decode cX1_targetsFrom 7 = .ok (.aload_n 0, 1) := dq0 (p := fun a b => decode cX1_targetsFrom a = .ok b) dm_cX1_targetsFrom_0 5 rfl
theorem dX1_targetsFrom_8 : decode cX1_targetsFrom 8 = .ok (.getfield 25, 3) := dq0 (p := fun a b => decode cX1_targetsFrom a = .ok b) dm_cX1_targetsFrom_0 6 rfl
theorem dX1_targetsFrom_11 : decode cX1_targetsFrom 11 = .ok (.iload_n 1, 1) := dq0 (p := fun a b => decode cX1_targetsFrom a = .ok b) dm_cX1_targetsFrom_0 7 rfl
theorem dX1_targetsFrom_12 : decode cX1_targetsFrom 12 = .ok (.invokestatic 53, 3) := dq0 (p := fun a b => decode cX1_targetsFrom a = .ok b) dm_cX1_targetsFrom_0 8 rfl
theorem dX1_targetsFrom_15 : decode cX1_targetsFrom 15 = .ok (.aload_n 0, 1) := dq0 (p := fun a b => decode cX1_targetsFrom a = .ok b) dm_cX1_targetsFrom_0 9 rfl
theorem dX1_targetsFrom_16 : decode cX1_targetsFrom 16 = .ok (.invokevirtual 57, 3) := dq0 (p := fun a b => decode cX1_targetsFrom a = .ok b) dm_cX1_targetsFrom_0 10 rfl
theorem dX1_targetsFrom_19 : decode cX1_targetsFrom 19 = .ok (.invokestatic 113, 3) := dq0 (p := fun a b => decode cX1_targetsFrom a = .ok b) dm_cX1_targetsFrom_0 11 rfl
theorem dX1_targetsFrom_22 : decode cX1_targetsFrom 22 = .ok (.lstore_n 3, 1) := dq0 (p := fun a b => decode cX1_targetsFrom a = .ok b) dm_cX1_targetsFrom_0 12 rfl
theorem dX1_targetsFrom_23 : decode cX1_targetsFrom 23 = .ok (.iload_n 2, 1) := dq0 (p := fun a b => decode cX1_targetsFrom a = .ok b) dm_cX1_targetsFrom_0 13 rfl
theorem dX1_targetsFrom_24 : decode cX1_targetsFrom 24 = .ok (.bipush 6, 2) := dq0 (p := fun a b => decode cX1_targetsFrom a = .ok b) dm_cX1_targetsFrom_0 14 rfl
theorem dX1_targetsFrom_26 : decode cX1_targetsFrom 26 = .ok (.if_icmp .eq 14, 3) := dq0 (p := fun a b => decode cX1_targetsFrom a = .ok b) dm_cX1_targetsFrom_0 15 rfl
theorem dX1_targetsFrom_29 : decode cX1_targetsFrom 29 = .ok (.lload_n 3, 1) := dq0 (p := fun a b => decode cX1_targetsFrom a = .ok b) dm_cX1_targetsFrom_0 16 rfl
theorem dX1_targetsFrom_30 : decode cX1_targetsFrom 30 = .ok (.aload_n 0, 1) := dq0 (p := fun a b => decode cX1_targetsFrom a = .ok b) dm_cX1_targetsFrom_0 17 rfl
theorem dX1_targetsFrom_31 : decode cX1_targetsFrom 31 = .ok (.invokevirtual 121, 3) := dq0 (p := fun a b => decode cX1_targetsFrom a = .ok b) dm_cX1_targetsFrom_0 18 rfl
theorem dX1_targetsFrom_34 : decode cX1_targetsFrom 34 = .ok (.ldc2_w 69, 3) := dq0 (p := fun a b => decode cX1_targetsFrom a = .ok b) dm_cX1_targetsFrom_0 19 rfl
theorem dX1_targetsFrom_37 : decode cX1_targetsFrom 37 = .ok (.lxor, 1) := dq0 (p := fun a b => decode cX1_targetsFrom a = .ok b) dm_cX1_targetsFrom_0 20 rfl
theorem dX1_targetsFrom_38 : decode cX1_targetsFrom 38 = .ok (.land, 1) := dq0 (p := fun a b => decode cX1_targetsFrom a = .ok b) dm_cX1_targetsFrom_0 21 rfl
theorem dX1_targetsFrom_39 : decode cX1_targetsFrom 39 = .ok (.lreturn, 1) := dq0 (p := fun a b => decode cX1_targetsFrom a = .ok b) dm_cX1_targetsFrom_0 22 rfl
theorem dX1_targetsFrom_40 : decode cX1_targetsFrom 40 = .ok (.aload_n 0, 1) := dq0 (p := fun a b => decode cX1_targetsFrom a = .ok b) dm_cX1_targetsFrom_0 23 rfl
theorem dX1_targetsFrom_41 : decode cX1_targetsFrom 41 = .ok (.getfield 25, 3) := dq0 (p := fun a b => decode cX1_targetsFrom a = .ok b) dm_cX1_targetsFrom_0 24 rfl
theorem dX1_targetsFrom_44 : decode cX1_targetsFrom 44 = .ok (.ifCond .eq 13, 3) := dq0 (p := fun a b => decode cX1_targetsFrom a = .ok b) dm_cX1_targetsFrom_0 25 rfl
theorem dX1_targetsFrom_47 : decode cX1_targetsFrom 47 = .ok (.iload_n 1, 1) := dq0 (p := fun a b => decode cX1_targetsFrom a = .ok b) dm_cX1_targetsFrom_0 26 rfl
theorem dX1_targetsFrom_48 : decode cX1_targetsFrom 48 = .ok (.invokestatic 53, 3) := dq0 (p := fun a b => decode cX1_targetsFrom a = .ok b) dm_cX1_targetsFrom_0 27 rfl
theorem dX1_targetsFrom_51 : decode cX1_targetsFrom 51 = .ok (.bipush 8, 2) := dq0 (p := fun a b => decode cX1_targetsFrom a = .ok b) dm_cX1_targetsFrom_0 28 rfl
theorem dX1_targetsFrom_53 : decode cX1_targetsFrom 53 = .ok (.lshl, 1) := dq0 (p := fun a b => decode cX1_targetsFrom a = .ok b) dm_cX1_targetsFrom_0 29 rfl
theorem dX1_targetsFrom_54 : decode cX1_targetsFrom 54 = .ok (.goto 10, 3) := dq0 (p := fun a b => decode cX1_targetsFrom a = .ok b) dm_cX1_targetsFrom_0 30 rfl
theorem dX1_targetsFrom_57 : decode cX1_targetsFrom 57 = .ok (.iload_n 1, 1) := dq0 (p := fun a b => decode cX1_targetsFrom a = .ok b) dm_cX1_targetsFrom_0 31 rfl
theorem dX1_targetsFrom_58 : decode cX1_targetsFrom 58 = .ok (.invokestatic 53, 3) := dq0 (p := fun a b => decode cX1_targetsFrom a = .ok b) dm_cX1_targetsFrom_0 32 rfl
theorem dX1_targetsFrom_61 : decode cX1_targetsFrom 61 = .ok (.bipush 8, 2) := dq0 (p := fun a b => decode cX1_targetsFrom a = .ok b) dm_cX1_targetsFrom_0 33 rfl
theorem dX1_targetsFrom_63 : decode cX1_targetsFrom 63 = .ok (.lushr, 1) := dq0 (p := fun a b => decode cX1_targetsFrom a = .ok b) dm_cX1_targetsFrom_0 34 rfl
theorem dX1_targetsFrom_64 : decode cX1_targetsFrom 64 = .ok (.lstore 5, 2) := dq0 (p := fun a b => decode cX1_targetsFrom a = .ok b) dm_cX1_targetsFrom_0 35 rfl
theorem dX1_targetsFrom_66 : decode cX1_targetsFrom 66 = .ok (.lload_n 3, 1) := dq0 (p := fun a b => decode cX1_targetsFrom a = .ok b) dm_cX1_targetsFrom_0 36 rfl
theorem dX1_targetsFrom_67 : decode cX1_targetsFrom 67 = .ok (.aload_n 0, 1) := dq0 (p := fun a b => decode cX1_targetsFrom a = .ok b) dm_cX1_targetsFrom_0 37 rfl
theorem dX1_targetsFrom_68 : decode cX1_targetsFrom 68 = .ok (.aload_n 0, 1) := dq0 (p := fun a b => decode cX1_targetsFrom a = .ok b) dm_cX1_targetsFrom_0 38 rfl
theorem dX1_targetsFrom_69 : decode cX1_targetsFrom 69 = .ok (.getfield 25, 3) := dq0 (p := fun a b => decode cX1_targetsFrom a = .ok b) dm_cX1_targetsFrom_0 39 rfl
theorem dX1_targetsFrom_72 : decode cX1_targetsFrom 72 = .ok (.ifCond .ne 7, 3) := dq0 (p := fun a b => decode cX1_targetsFrom a = .ok b) dm_cX1_targetsFrom_0 40 rfl
theorem dX1_targetsFrom_75 : decode cX1_targetsFrom 75 = .ok (.iconst 1, 1) := dq0 (p := fun a b => decode cX1_targetsFrom a = .ok b) dm_cX1_targetsFrom_0 41 rfl
theorem dX1_targetsFrom_76 : decode cX1_targetsFrom 76 = .ok (.goto 4, 3) := dq0 (p := fun a b => decode cX1_targetsFrom a = .ok b) dm_cX1_targetsFrom_0 42 rfl
theorem dX1_targetsFrom_79 : decode cX1_targetsFrom 79 = .ok (.iconst 0, 1) := dq0 (p := fun a b => decode cX1_targetsFrom a = .ok b) dm_cX1_targetsFrom_0 43 rfl
theorem dX1_targetsFrom_80 : decode cX1_targetsFrom 80 = .ok (.invokevirtual 45, 3) := dq0 (p := fun a b => decode cX1_targetsFrom a = .ok b) dm_cX1_targetsFrom_0 44 rfl
theorem dX1_targetsFrom_83 : decode cX1_targetsFrom 83 = .ok (.land, 1) := dq0 (p := fun a b => decode cX1_targetsFrom a = .ok b) dm_cX1_targetsFrom_0 45 rfl
theorem dX1_targetsFrom_84 : decode cX1_targetsFrom 84 = .ok (.lload 5, 2) := dq0 (p := fun a b => decode cX1_targetsFrom a = .ok b) dm_cX1_targetsFrom_0 46 rfl
theorem dX1_targetsFrom_86 : decode cX1_targetsFrom 86 = .ok (.aload_n 0, 1) := dq0 (p := fun a b => decode cX1_targetsFrom a = .ok b) dm_cX1_targetsFrom_0 47 rfl
theorem dX1_targetsFrom_87 : decode cX1_targetsFrom 87 = .ok (.invokevirtual 57, 3) := dq0 (p := fun a b => decode cX1_targetsFrom a = .ok b) dm_cX1_targetsFrom_0 48 rfl
theorem dX1_targetsFrom_90 : decode cX1_targetsFrom 90 = .ok (.ldc2_w 69, 3) := dq0 (p := fun a b => decode cX1_targetsFrom a = .ok b) dm_cX1_targetsFrom_0 49 rfl
theorem dX1_targetsFrom_93 : decode cX1_targetsFrom 93 = .ok (.lxor, 1) := dq0 (p := fun a b => decode cX1_targetsFrom a = .ok b) dm_cX1_targetsFrom_0 50 rfl
theorem dX1_targetsFrom_94 : decode cX1_targetsFrom 94 = .ok (.land, 1) := dq0 (p := fun a b => decode cX1_targetsFrom a = .ok b) dm_cX1_targetsFrom_0 51 rfl
theorem dX1_targetsFrom_95 : decode cX1_targetsFrom 95 = .ok (.lor, 1) := dq0 (p := fun a b => decode cX1_targetsFrom a = .ok b) dm_cX1_targetsFrom_0 52 rfl
theorem dX1_targetsFrom_96 : decode cX1_targetsFrom 96 = .ok (.lreturn, 1) := dq0 (p := fun a b => decode cX1_targetsFrom a = .ok b) dm_cX1_targetsFrom_0 53 rfl
theorem dm_cX1_bondRange_0 : ([(0, .aload_n 0, 1), (1, .iload_n 1, 1), (2, .invokevirtual 71, 3), (5, .istore_n 2, 1), (6, .iload_n 2, 1), (7, .iconst (-1), 1), (8, .if_icmp .ne 9, 3), (11, .ldc2_w 69, 3), (14, .goto 11, 3), (17, .iload_n 2, 1), (18, .invokestatic 53, 3), (21, .iconst 3, 1), (22, .invokestatic 124, 3), (25, .lreturn, 1)] : List (Nat × Instr × Nat)).all (fun t => decide (decode cX1_bondRange t.1 = .ok t.2)) = true := by decide +kernel
theorem dX1_bondRange_0 : decode cX1_bondRange 0 = .ok (.aload_n 0, 1) := dq0 (p := fun a b => decode cX1_bondRange a = .ok b) dm_cX1_bondRange_0 0 rfl
theorem dX1_bondRange_1 : decode cX1_bondRange 1 = .ok (.iload_n 1, 1) := dq0 (p := fun a b => decode cX1_bondRange a = .ok b) dm_cX1_bondRange_0 1 rfl
theorem dX1_bondRange_2 : decode cX1_bondRange 2 = .ok (.invokevirtual 71, 3) := dq0 (p := fun a b => decode cX1_bondRange a = .ok b) dm_cX1_bondRange_0 2 rfl
theorem dX1_bondRange_5 : decode cX1_bondRange 5 = .ok (.istore_n 2, 1) := dq0 (p := fun a b => decode cX1_bondRange a = .ok b) dm_cX1_bondRange_0 3 rfl
theorem dX1_bondRange_6 : decode cX1_bondRange 6 = .ok (.iload_n 2, 1) := dq0 (p := fun a b => decode cX1_bondRange a = .ok b) dm_cX1_bondRange_0 4 rfl
theorem dX1_bondRange_7 : decode cX1_bondRange 7 = .ok (.iconst (-1), 1) := dq0 (p := fun a b => decode cX1_bondRange a = .ok b) dm_cX1_bondRange_0 5 rfl
theorem dX1_bondRange_8 : decode cX1_bondRange 8 = .ok (.if_icmp .ne 9, 3) := dq0 (p := fun a b => decode cX1_bondRange a = .ok b) dm_cX1_bondRange_0 6 rfl
theorem dX1_bondRange_11 : decode cX1_bondRange 11 = .ok (.ldc2_w 69, 3) := dq0 (p := fun a b => decode cX1_bondRange a = .ok b) dm_cX1_bondRange_0 7 rfl
theorem dX1_bondRange_14 : decode cX1_bondRange 14 = .ok (.goto 11, 3) := dq0 (p := fun a b => decode cX1_bondRange a = .ok b) dm_cX1_bondRange_0 8 rfl
theorem dX1_bondRange_17 : decode cX1_bondRange 17 = .ok (.iload_n 2, 1) := dq0 (p := fun a b => decode cX1_bondRange a = .ok b) dm_cX1_bondRange_0 9 rfl
theorem dX1_bondRange_18 : decode cX1_bondRange 18 = .ok (.invokestatic 53, 3) := dq0 (p := fun a b => decode cX1_bondRange a = .ok b) dm_cX1_bondRange_0 10 rfl
theorem dX1_bondRange_21 : decode cX1_bondRange 21 = .ok (.iconst 3, 1) := dq0 (p := fun a b => decode cX1_bondRange a = .ok b) dm_cX1_bondRange_0 11 rfl
theorem dX1_bondRange_22 : decode cX1_bondRange 22 = .ok (.invokestatic 124, 3) := dq0 (p := fun a b => decode cX1_bondRange a = .ok b) dm_cX1_bondRange_0 12 rfl
theorem dX1_bondRange_25 : decode cX1_bondRange 25 = .ok (.lreturn, 1) := dq0 (p := fun a b => decode cX1_bondRange a = .ok b) dm_cX1_bondRange_0 13 rfl
theorem dm_cX1_keepsKingSafe_0 : ([(0, .aload_n 0, 1), (1, .iconst 1, 1), (2, .aload_n 0, 1), (3, .getfield 25, 3), (6, .invokevirtual 61, 3), (9, .lstore_n 3, 1), (10, .lload_n 3, 1), (11, .iload_n 1, 1), (12, .invokestatic 49, 3), (15, .ifCond .eq 8, 3), (18, .iload_n 2, 1), (19, .invokestatic 53, 3), (22, .lstore_n 3, 1), (23, .aload_n 0, 1), (24, .invokevirtual 57, 3), (27, .iload_n 1, 1), (28, .invokestatic 53, 3), (31, .ldc2_w 69, 3), (34, .lxor, 1), (35, .land, 1), (36, .iload_n 2, 1), (37, .invokestatic 53, 3), (40, .lor, 1), (41, .lstore 5, 2), (43, .aload_n 0, 1), (44, .lload_n 3, 1), (45, .aload_n 0, 1), (46, .getfield 25, 3), (49, .ifCond .ne 7, 3), (52, .iconst 1, 1), (53, .goto 4, 3), (56, .iconst 0, 1), (57, .lload 5, 2), (59, .invokevirtual 117, 3), (62, .iload_n 2, 1), (63, .invokestatic 53, 3), (66, .ldc2_w 69, 3), (69, .lxor, 1), (70, .land, 1), (71, .lconst 0, 1), (72, .lcmp, 1), (73, .ifCond .ne 7, 3), (76, .iconst 1, 1), (77, .goto 4, 3), (80, .iconst 0, 1), (81, .ireturn, 1)] : List (Nat × Instr × Nat)).all (fun t => decide (decode cX1_keepsKingSafe t.1 = .ok t.2)) = true := by decide +kernel
theorem dX1_keepsKingSafe_0 : decode cX1_keepsKingSafe 0 = .ok (.aload_n 0, 1) := dq0 (p := fun a b => decode cX1_keepsKingSafe a = .ok b) dm_cX1_keepsKingSafe_0 0 rfl
theorem dX1_keepsKingSafe_1 : decode cX1_keepsKingSafe 1 = .ok (.iconst 1, 1) := dq0 (p := fun a b => decode cX1_keepsKingSafe a = .ok b) dm_cX1_keepsKingSafe_0 1 rfl
theorem dX1_keepsKingSafe_2 : decode cX1_keepsKingSafe 2 = .ok (.aload_n 0, 1) := dq0 (p := fun a b => decode cX1_keepsKingSafe a = .ok b) dm_cX1_keepsKingSafe_0 2 rfl
theorem dX1_keepsKingSafe_3 : decode cX1_keepsKingSafe 3 = .ok (.getfield 25, 3) := dq0 (p := fun a b => decode cX1_keepsKingSafe a = .ok b) dm_cX1_keepsKingSafe_0 3 rfl
theorem dX1_keepsKingSafe_6 : decode cX1_keepsKingSafe 6 = .ok (.invokevirtual 61, 3) := dq0 (p := fun a b => decode cX1_keepsKingSafe a = .ok b) dm_cX1_keepsKingSafe_0 4 rfl
theorem dX1_keepsKingSafe_9 : decode cX1_keepsKingSafe 9 = .ok (.lstore_n 3, 1) := dq0 (p := fun a b => decode cX1_keepsKingSafe a = .ok b) dm_cX1_keepsKingSafe_0 5 rfl
theorem dX1_keepsKingSafe_10 : decode cX1_keepsKingSafe 10 = .ok (.lload_n 3, 1) := dq0 (p := fun a b => decode cX1_keepsKingSafe a = .ok b) dm_cX1_keepsKingSafe_0 6 rfl
theorem dX1_keepsKingSafe_11 : decode cX1_keepsKingSafe 11 = .ok (.iload_n 1, 1) := dq0 (p := fun a b => decode cX1_keepsKingSafe a = .ok b) dm_cX1_keepsKingSafe_0 7 rfl
theorem dX1_keepsKingSafe_12 : decode cX1_keepsKingSafe 12 = .ok (.invokestatic 49, 3) := dq0 (p := fun a b => decode cX1_keepsKingSafe a = .ok b) dm_cX1_keepsKingSafe_0 8 rfl
theorem dX1_keepsKingSafe_15 : decode cX1_keepsKingSafe 15 = .ok (.ifCond .eq 8, 3) := dq0 (p := fun a b => decode cX1_keepsKingSafe a = .ok b) dm_cX1_keepsKingSafe_0 9 rfl
theorem dX1_keepsKingSafe_18 : decode cX1_keepsKingSafe 18 = .ok (.iload_n 2, 1) := dq0 (p := fun a b => decode cX1_keepsKingSafe a = .ok b) dm_cX1_keepsKingSafe_0 10 rfl
theorem dX1_keepsKingSafe_19 : decode cX1_keepsKingSafe 19 = .ok (.invokestatic 53, 3) := dq0 (p := fun a b => decode cX1_keepsKingSafe a = .ok b) dm_cX1_keepsKingSafe_0 11 rfl
theorem dX1_keepsKingSafe_22 : decode cX1_keepsKingSafe 22 = .ok (.lstore_n 3, 1) := dq0 (p := fun a b => decode cX1_keepsKingSafe a = .ok b) dm_cX1_keepsKingSafe_0 12 rfl
theorem dX1_keepsKingSafe_23 : decode cX1_keepsKingSafe 23 = .ok (.aload_n 0, 1) := dq0 (p := fun a b => decode cX1_keepsKingSafe a = .ok b) dm_cX1_keepsKingSafe_0 13 rfl
theorem dX1_keepsKingSafe_24 : decode cX1_keepsKingSafe 24 = .ok (.invokevirtual 57, 3) := dq0 (p := fun a b => decode cX1_keepsKingSafe a = .ok b) dm_cX1_keepsKingSafe_0 14 rfl
theorem dX1_keepsKingSafe_27 : decode cX1_keepsKingSafe 27 = .ok (.iload_n 1, 1) := dq0 (p := fun a b => decode cX1_keepsKingSafe a = .ok b) dm_cX1_keepsKingSafe_0 15 rfl
theorem dX1_keepsKingSafe_28 : decode cX1_keepsKingSafe 28 = .ok (.invokestatic 53, 3) := dq0 (p := fun a b => decode cX1_keepsKingSafe a = .ok b) dm_cX1_keepsKingSafe_0 16 rfl
theorem dX1_keepsKingSafe_31 : decode cX1_keepsKingSafe 31 = .ok (.ldc2_w 69, 3) := dq0 (p := fun a b => decode cX1_keepsKingSafe a = .ok b) dm_cX1_keepsKingSafe_0 17 rfl
theorem dX1_keepsKingSafe_34 : decode cX1_keepsKingSafe 34 = .ok (.lxor, 1) := dq0 (p := fun a b => decode cX1_keepsKingSafe a = .ok b) dm_cX1_keepsKingSafe_0 18 rfl
theorem dX1_keepsKingSafe_35 : decode cX1_keepsKingSafe 35 = .ok (.land, 1) := dq0 (p := fun a b => decode cX1_keepsKingSafe a = .ok b) dm_cX1_keepsKingSafe_0 19 rfl
theorem dX1_keepsKingSafe_36 : decode cX1_keepsKingSafe 36 = .ok (.iload_n 2, 1) := dq0 (p := fun a b => decode cX1_keepsKingSafe a = .ok b) dm_cX1_keepsKingSafe_0 20 rfl
theorem dX1_keepsKingSafe_37 : decode cX1_keepsKingSafe 37 = .ok (.invokestatic 53, 3) := dq0 (p := fun a b => decode cX1_keepsKingSafe a = .ok b) dm_cX1_keepsKingSafe_0 21 rfl
theorem dX1_keepsKingSafe_40 : decode cX1_keepsKingSafe 40 = .ok (.lor, 1) := dq0 (p := fun a b => decode cX1_keepsKingSafe a = .ok b) dm_cX1_keepsKingSafe_0 22 rfl
theorem dX1_keepsKingSafe_41 : decode cX1_keepsKingSafe 41 = .ok (.lstore 5, 2) := dq0 (p := fun a b => decode cX1_keepsKingSafe a = .ok b) dm_cX1_keepsKingSafe_0 23 rfl
theorem dX1_keepsKingSafe_43 : decode cX1_keepsKingSafe 43 = .ok (.aload_n 0, 1) := dq0 (p := fun a b => decode cX1_keepsKingSafe a = .ok b) dm_cX1_keepsKingSafe_0 24 rfl
theorem dX1_keepsKingSafe_44 : decode cX1_keepsKingSafe 44 = .ok (.lload_n 3, 1) := dq0 (p := fun a b => decode cX1_keepsKingSafe a = .ok b) dm_cX1_keepsKingSafe_0 25 rfl
theorem dX1_keepsKingSafe_45 : decode cX1_keepsKingSafe 45 = .ok (.aload_n 0, 1) := dq0 (p := fun a b => decode cX1_keepsKingSafe a = .ok b) dm_cX1_keepsKingSafe_0 26 rfl
theorem dX1_keepsKingSafe_46 : decode cX1_keepsKingSafe 46 = .ok (.getfield 25, 3) := dq0 (p := fun a b => decode cX1_keepsKingSafe a = .ok b) dm_cX1_keepsKingSafe_0 27 rfl
theorem dX1_keepsKingSafe_49 : decode cX1_keepsKingSafe 49 = .ok (.ifCond .ne 7, 3) := dq0 (p := fun a b => decode cX1_keepsKingSafe a = .ok b) dm_cX1_keepsKingSafe_0 28 rfl
theorem dX1_keepsKingSafe_52 : decode cX1_keepsKingSafe 52 = .ok (.iconst 1, 1) := dq0 (p := fun a b => decode cX1_keepsKingSafe a = .ok b) dm_cX1_keepsKingSafe_0 29 rfl
theorem dX1_keepsKingSafe_53 : decode cX1_keepsKingSafe 53 = .ok (.goto 4, 3) := dq0 (p := fun a b => decode cX1_keepsKingSafe a = .ok b) dm_cX1_keepsKingSafe_0 30 rfl
theorem dX1_keepsKingSafe_56 : decode cX1_keepsKingSafe 56 = .ok (.iconst 0, 1) := dq0 (p := fun a b => decode cX1_keepsKingSafe a = .ok b) dm_cX1_keepsKingSafe_0 31 rfl
theorem dX1_keepsKingSafe_57 : decode cX1_keepsKingSafe 57 = .ok (.lload 5, 2) := dq0 (p := fun a b => decode cX1_keepsKingSafe a = .ok b) dm_cX1_keepsKingSafe_0 32 rfl
theorem dX1_keepsKingSafe_59 : decode cX1_keepsKingSafe 59 = .ok (.invokevirtual 117, 3) := dq0 (p := fun a b => decode cX1_keepsKingSafe a = .ok b) dm_cX1_keepsKingSafe_0 33 rfl
theorem dX1_keepsKingSafe_62 : decode cX1_keepsKingSafe 62 = .ok (.iload_n 2, 1) := dq0 (p := fun a b => decode cX1_keepsKingSafe a = .ok b) dm_cX1_keepsKingSafe_0 34 rfl
theorem dX1_keepsKingSafe_63 : decode cX1_keepsKingSafe 63 = .ok (.invokestatic 53, 3) := dq0 (p := fun a b => decode cX1_keepsKingSafe a = .ok b) dm_cX1_keepsKingSafe_0 35 rfl
theorem dX1_keepsKingSafe_66 : decode cX1_keepsKingSafe 66 = .ok (.ldc2_w 69, 3) := dq0 (p := fun a b => decode cX1_keepsKingSafe a = .ok b) dm_cX1_keepsKingSafe_0 36 rfl
theorem dX1_keepsKingSafe_69 : decode cX1_keepsKingSafe 69 = .ok (.lxor, 1) := dq0 (p := fun a b => decode cX1_keepsKingSafe a = .ok b) dm_cX1_keepsKingSafe_0 37 rfl
theorem dX1_keepsKingSafe_70 : decode cX1_keepsKingSafe 70 = .ok (.land, 1) := dq0 (p := fun a b => decode cX1_keepsKingSafe a = .ok b) dm_cX1_keepsKingSafe_0 38 rfl
theorem dX1_keepsKingSafe_71 : decode cX1_keepsKingSafe 71 = .ok (.lconst 0, 1) := dq0 (p := fun a b => decode cX1_keepsKingSafe a = .ok b) dm_cX1_keepsKingSafe_0 39 rfl
theorem dX1_keepsKingSafe_72 : decode cX1_keepsKingSafe 72 = .ok (.lcmp, 1) := dq0 (p := fun a b => decode cX1_keepsKingSafe a = .ok b) dm_cX1_keepsKingSafe_0 40 rfl
theorem dX1_keepsKingSafe_73 : decode cX1_keepsKingSafe 73 = .ok (.ifCond .ne 7, 3) := dq0 (p := fun a b => decode cX1_keepsKingSafe a = .ok b) dm_cX1_keepsKingSafe_0 41 rfl
theorem dX1_keepsKingSafe_76 : decode cX1_keepsKingSafe 76 = .ok (.iconst 1, 1) := dq0 (p := fun a b => decode cX1_keepsKingSafe a = .ok b) dm_cX1_keepsKingSafe_0 42 rfl
theorem dX1_keepsKingSafe_77 : decode cX1_keepsKingSafe 77 = .ok (.goto 4, 3) := dq0 (p := fun a b => decode cX1_keepsKingSafe a = .ok b) dm_cX1_keepsKingSafe_0 43 rfl
theorem dX1_keepsKingSafe_80 : decode cX1_keepsKingSafe 80 = .ok (.iconst 0, 1) := dq0 (p := fun a b => decode cX1_keepsKingSafe a = .ok b) dm_cX1_keepsKingSafe_0 44 rfl
theorem dX1_keepsKingSafe_81 : decode cX1_keepsKingSafe 81 = .ok (.ireturn, 1) := dq0 (p := fun a b => decode cX1_keepsKingSafe a = .ok b) dm_cX1_keepsKingSafe_0 45 rfl
theorem dm_cX1_delicateSquares_0 : ([(0, .aload_n 0, 1), (1, .iconst 1, 1), (2, .aload_n 0, 1), (3, .getfield 25, 3), (6, .invokevirtual 61, 3), (9, .lstore_n 1, 1), (10, .aload_n 0, 1), (11, .aload_n 0, 1), (12, .getfield 25, 3), (15, .invokevirtual 65, 3), (18, .ifCond .eq 8, 3), (21, .aload_n 0, 1), (22, .invokevirtual 121, 3), (25, .lreturn, 1), (26, .lload_n 1, 1), (27, .aload_n 0, 1), (28, .invokevirtual 57, 3), (31, .invokestatic 106, 3), (34, .lload_n 1, 1), (35, .aload_n 0, 1), (36, .invokevirtual 57, 3), (39, .invokestatic 110, 3), (42, .lor, 1), (43, .lstore_n 3, 1), (44, .lload_n 1, 1), (45, .lload_n 3, 1), (46, .lor, 1), (47, .aload_n 0, 1), (48, .invokevirtual 121, 3), (51, .land, 1), (52, .lreturn, 1)] : List (Nat × Instr × Nat)).all (fun t => decide (decode cX1_delicateSquares t.1 = .ok t.2)) = true := by decide +kernel
theorem dX1_delicateSquares_0 : decode cX1_delicateSquares 0 = .ok (.aload_n 0, 1) := dq0 (p := fun a b => decode cX1_delicateSquares a = .ok b) dm_cX1_delicateSquares_0 0 rfl
theorem dX1_delicateSquares_1 : decode cX1_delicateSquares 1 = .ok (.iconst 1, 1) := dq0 (p := fun a b => decode cX1_delicateSquares a = .ok b) dm_cX1_delicateSquares_0 1 rfl
theorem dX1_delicateSquares_2 : decode cX1_delicateSquares 2 = .ok (.aload_n 0, 1) := dq0 (p := fun a b => decode cX1_delicateSquares a = .ok b) dm_cX1_delicateSquares_0 2 rfl
theorem dX1_delicateSquares_3 : decode cX1_delicateSquares 3 = .ok (.getfield 25, 3) := dq0 (p := fun a b => decode cX1_delicateSquares a = .ok b) dm_cX1_delicateSquares_0 3 rfl
theorem dX1_delicateSquares_6 : decode cX1_delicateSquares 6 = .ok (.invokevirtual 61, 3) := dq0 (p := fun a b => decode cX1_delicateSquares a = .ok b) dm_cX1_delicateSquares_0 4 rfl
theorem dX1_delicateSquares_9 : decode cX1_delicateSquares 9 = .ok (.lstore_n 1, 1) := dq0 (p := fun a b => decode cX1_delicateSquares a = .ok b) dm_cX1_delicateSquares_0 5 rfl
theorem dX1_delicateSquares_10 : decode cX1_delicateSquares 10 = .ok (.aload_n 0, 1) := dq0 (p := fun a b => decode cX1_delicateSquares a = .ok b) dm_cX1_delicateSquares_0 6 rfl
theorem dX1_delicateSquares_11 : decode cX1_delicateSquares 11 = .ok (.aload_n 0, 1) := dq0 (p := fun a b => decode cX1_delicateSquares a = .ok b) dm_cX1_delicateSquares_0 7 rfl
theorem dX1_delicateSquares_12 : decode cX1_delicateSquares 12 = .ok (.getfield 25, 3) := dq0 (p := fun a b => decode cX1_delicateSquares a = .ok b) dm_cX1_delicateSquares_0 8 rfl
theorem dX1_delicateSquares_15 : decode cX1_delicateSquares 15 = .ok (.invokevirtual 65, 3) := dq0 (p := fun a b => decode cX1_delicateSquares a = .ok b) dm_cX1_delicateSquares_0 9 rfl
theorem dX1_delicateSquares_18 : decode cX1_delicateSquares 18 = .ok (.ifCond .eq 8, 3) := dq0 (p := fun a b => decode cX1_delicateSquares a = .ok b) dm_cX1_delicateSquares_0 10 rfl
theorem dX1_delicateSquares_21 : decode cX1_delicateSquares 21 = .ok (.aload_n 0, 1) := dq0 (p := fun a b => decode cX1_delicateSquares a = .ok b) dm_cX1_delicateSquares_0 11 rfl
theorem dX1_delicateSquares_22 : decode cX1_delicateSquares 22 = .ok (.invokevirtual 121, 3) := dq0 (p := fun a b => decode cX1_delicateSquares a = .ok b) dm_cX1_delicateSquares_0 12 rfl
theorem dX1_delicateSquares_25 : decode cX1_delicateSquares 25 = .ok (.lreturn, 1) := dq0 (p := fun a b => decode cX1_delicateSquares a = .ok b) dm_cX1_delicateSquares_0 13 rfl
theorem dX1_delicateSquares_26 : decode cX1_delicateSquares 26 = .ok (.lload_n 1, 1) := dq0 (p := fun a b => decode cX1_delicateSquares a = .ok b) dm_cX1_delicateSquares_0 14 rfl
theorem dX1_delicateSquares_27 : decode cX1_delicateSquares 27 = .ok (.aload_n 0, 1) := dq0 (p := fun a b => decode cX1_delicateSquares a = .ok b) dm_cX1_delicateSquares_0 15 rfl
theorem dX1_delicateSquares_28 : decode cX1_delicateSquares 28 = .ok (.invokevirtual 57, 3) := dq0 (p := fun a b => decode cX1_delicateSquares a = .ok b) dm_cX1_delicateSquares_0 16 rfl
theorem dX1_delicateSquares_31 : decode cX1_delicateSquares 31 = .ok (.invokestatic 106, 3) := dq0 (p := fun a b => decode cX1_delicateSquares a = .ok b) dm_cX1_delicateSquares_0 17 rfl
theorem dX1_delicateSquares_34 : decode cX1_delicateSquares 34 = .ok (.lload_n 1, 1) := dq0 (p := fun a b => decode cX1_delicateSquares a = .ok b) dm_cX1_delicateSquares_0 18 rfl
theorem dX1_delicateSquares_35 : decode cX1_delicateSquares 35 = .ok (.aload_n 0, 1) := dq0 (p := fun a b => decode cX1_delicateSquares a = .ok b) dm_cX1_delicateSquares_0 19 rfl
theorem dX1_delicateSquares_36 : decode cX1_delicateSquares 36 = .ok (.invokevirtual 57, 3) := dq0 (p := fun a b => decode cX1_delicateSquares a = .ok b) dm_cX1_delicateSquares_0 20 rfl
theorem dX1_delicateSquares_39 : decode cX1_delicateSquares 39 = .ok (.invokestatic 110, 3) := dq0 (p := fun a b => decode cX1_delicateSquares a = .ok b) dm_cX1_delicateSquares_0 21 rfl
theorem dX1_delicateSquares_42 : decode cX1_delicateSquares 42 = .ok (.lor, 1) := dq0 (p := fun a b => decode cX1_delicateSquares a = .ok b) dm_cX1_delicateSquares_0 22 rfl
theorem dX1_delicateSquares_43 : decode cX1_delicateSquares 43 = .ok (.lstore_n 3, 1) := dq0 (p := fun a b => decode cX1_delicateSquares a = .ok b) dm_cX1_delicateSquares_0 23 rfl
theorem dX1_delicateSquares_44 : decode cX1_delicateSquares 44 = .ok (.lload_n 1, 1) := dq0 (p := fun a b => decode cX1_delicateSquares a = .ok b) dm_cX1_delicateSquares_0 24 rfl
theorem dX1_delicateSquares_45 : decode cX1_delicateSquares 45 = .ok (.lload_n 3, 1) := dq0 (p := fun a b => decode cX1_delicateSquares a = .ok b) dm_cX1_delicateSquares_0 25 rfl
theorem dX1_delicateSquares_46 : decode cX1_delicateSquares 46 = .ok (.lor, 1) := dq0 (p := fun a b => decode cX1_delicateSquares a = .ok b) dm_cX1_delicateSquares_0 26 rfl
theorem dX1_delicateSquares_47 : decode cX1_delicateSquares 47 = .ok (.aload_n 0, 1) := dq0 (p := fun a b => decode cX1_delicateSquares a = .ok b) dm_cX1_delicateSquares_0 27 rfl
theorem dX1_delicateSquares_48 : decode cX1_delicateSquares 48 = .ok (.invokevirtual 121, 3) := dq0 (p := fun a b => decode cX1_delicateSquares a = .ok b) dm_cX1_delicateSquares_0 28 rfl
theorem dX1_delicateSquares_51 : decode cX1_delicateSquares 51 = .ok (.land, 1) := dq0 (p := fun a b => decode cX1_delicateSquares a = .ok b) dm_cX1_delicateSquares_0 29 rfl
theorem dX1_delicateSquares_52 : decode cX1_delicateSquares 52 = .ok (.lreturn, 1) := dq0 (p := fun a b => decode cX1_delicateSquares a = .ok b) dm_cX1_delicateSquares_0 30 rfl
theorem dm_cX1_lawfulTargets_0 : ([(0, .aload_n 0, 1), (1, .iload_n 1, 1), (2, .invokevirtual 128, 3), (5, .aload_n 0, 1), (6, .iload_n 1, 1), (7, .invokevirtual 131, 3), (10, .land, 1), (11, .lstore 4, 2), (13, .lload_n 2, 1), (14, .iload_n 1, 1), (15, .invokestatic 49, 3), (18, .ifCond .ne 6, 3), (21, .lload 4, 2), (23, .lreturn, 1), (24, .lconst 0, 1), (25, .lstore 6, 2), (27, .iconst 0, 1), (28, .istore 8, 2), (30, .iload 8, 2), (32, .bipush 64, 2), (34, .if_icmp .ge 39, 3), (37, .lload 4, 2), (39, .iload 8, 2), (41, .invokestatic 49, 3), (44, .ifCond .eq 23, 3), (47, .aload_n 0, 1), (48, .iload_n 1, 1), (49, .iload 8, 2), (51, .invokevirtual 134, 3), (54, .ifCond .eq 13, 3), (57, .lload 6, 2), (59, .iload 8, 2), (61, .invokestatic 53, 3), (64, .lor, 1), (65, .lstore 6, 2), (67, .iinc 8 1, 3), (70, .goto (-40), 3), (73, .lload 6, 2), (75, .lreturn, 1)] : List (Nat × Instr × Nat)).all (fun t => decide (decode cX1_lawfulTargets t.1 = .ok t.2)) = true := by decide +kernel
theorem dX1_lawfulTargets_0 : decode cX1_lawfulTargets 0 = .ok (.aload_n 0, 1) := dq0 (p := fun a b => decode cX1_lawfulTargets a = .ok b) dm_cX1_lawfulTargets_0 0 rfl
theorem dX1_lawfulTargets_1 : decode cX1_lawfulTargets 1 = .ok (.iload_n 1, 1) := dq0 (p := fun a b => decode cX1_lawfulTargets a = .ok b) dm_cX1_lawfulTargets_0 1 rfl
theorem dX1_lawfulTargets_2 : decode cX1_lawfulTargets 2 = .ok (.invokevirtual 128, 3) := dq0 (p := fun a b => decode cX1_lawfulTargets a = .ok b) dm_cX1_lawfulTargets_0 2 rfl
theorem dX1_lawfulTargets_5 : decode cX1_lawfulTargets 5 = .ok (.aload_n 0, 1) := dq0 (p := fun a b => decode cX1_lawfulTargets a = .ok b) dm_cX1_lawfulTargets_0 3 rfl
theorem dX1_lawfulTargets_6 : decode cX1_lawfulTargets 6 = .ok (.iload_n 1, 1) := dq0 (p := fun a b => decode cX1_lawfulTargets a = .ok b) dm_cX1_lawfulTargets_0 4 rfl
theorem dX1_lawfulTargets_7 : decode cX1_lawfulTargets 7 = .ok (.invokevirtual 131, 3) := dq0 (p := fun a b => decode cX1_lawfulTargets a = .ok b) dm_cX1_lawfulTargets_0 5 rfl
theorem dX1_lawfulTargets_10 : decode cX1_lawfulTargets 10 = .ok (.land, 1) := dq0 (p := fun a b => decode cX1_lawfulTargets a = .ok b) dm_cX1_lawfulTargets_0 6 rfl
theorem dX1_lawfulTargets_11 : decode cX1_lawfulTargets 11 = .ok (.lstore 4, 2) := dq0 (p := fun a b => decode cX1_lawfulTargets a = .ok b) dm_cX1_lawfulTargets_0 7 rfl
theorem dX1_lawfulTargets_13 : decode cX1_lawfulTargets 13 = .ok (.lload_n 2, 1) := dq0 (p := fun a b => decode cX1_lawfulTargets a = .ok b) dm_cX1_lawfulTargets_0 8 rfl
theorem dX1_lawfulTargets_14 : decode cX1_lawfulTargets 14 = .ok (.iload_n 1, 1) := dq0 (p := fun a b => decode cX1_lawfulTargets a = .ok b) dm_cX1_lawfulTargets_0 9 rfl
theorem dX1_lawfulTargets_15 : decode cX1_lawfulTargets 15 = .ok (.invokestatic 49, 3) := dq0 (p := fun a b => decode cX1_lawfulTargets a = .ok b) dm_cX1_lawfulTargets_0 10 rfl
theorem dX1_lawfulTargets_18 : decode cX1_lawfulTargets 18 = .ok (.ifCond .ne 6, 3) := dq0 (p := fun a b => decode cX1_lawfulTargets a = .ok b) dm_cX1_lawfulTargets_0 11 rfl
theorem dX1_lawfulTargets_21 : decode cX1_lawfulTargets 21 = .ok (.lload 4, 2) := dq0 (p := fun a b => decode cX1_lawfulTargets a = .ok b) dm_cX1_lawfulTargets_0 12 rfl
theorem dX1_lawfulTargets_23 : decode cX1_lawfulTargets 23 = .ok (.lreturn, 1) := dq0 (p := fun a b => decode cX1_lawfulTargets a = .ok b) dm_cX1_lawfulTargets_0 13 rfl
theorem dX1_lawfulTargets_24 : decode cX1_lawfulTargets 24 = .ok (.lconst 0, 1) := dq0 (p := fun a b => decode cX1_lawfulTargets a = .ok b) dm_cX1_lawfulTargets_0 14 rfl
theorem dX1_lawfulTargets_25 : decode cX1_lawfulTargets 25 = .ok (.lstore 6, 2) := dq0 (p := fun a b => decode cX1_lawfulTargets a = .ok b) dm_cX1_lawfulTargets_0 15 rfl
theorem dX1_lawfulTargets_27 : decode cX1_lawfulTargets 27 = .ok (.iconst 0, 1) := dq0 (p := fun a b => decode cX1_lawfulTargets a = .ok b) dm_cX1_lawfulTargets_0 16 rfl
theorem dX1_lawfulTargets_28 : decode cX1_lawfulTargets 28 = .ok (.istore 8, 2) := dq0 (p := fun a b => decode cX1_lawfulTargets a = .ok b) dm_cX1_lawfulTargets_0 17 rfl
theorem dX1_lawfulTargets_30 : decode cX1_lawfulTargets 30 = .ok (.iload 8, 2) := dq0 (p := fun a b => decode cX1_lawfulTargets a = .ok b) dm_cX1_lawfulTargets_0 18 rfl
theorem dX1_lawfulTargets_32 : decode cX1_lawfulTargets 32 = .ok (.bipush 64, 2) := dq0 (p := fun a b => decode cX1_lawfulTargets a = .ok b) dm_cX1_lawfulTargets_0 19 rfl
theorem dX1_lawfulTargets_34 : decode cX1_lawfulTargets 34 = .ok (.if_icmp .ge 39, 3) := dq0 (p := fun a b => decode cX1_lawfulTargets a = .ok b) dm_cX1_lawfulTargets_0 20 rfl
theorem dX1_lawfulTargets_37 : decode cX1_lawfulTargets 37 = .ok (.lload 4, 2) := dq0 (p := fun a b => decode cX1_lawfulTargets a = .ok b) dm_cX1_lawfulTargets_0 21 rfl
theorem dX1_lawfulTargets_39 : decode cX1_lawfulTargets 39 = .ok (.iload 8, 2) := dq0 (p := fun a b => decode cX1_lawfulTargets a = .ok b) dm_cX1_lawfulTargets_0 22 rfl
theorem dX1_lawfulTargets_41 : decode cX1_lawfulTargets 41 = .ok (.invokestatic 49, 3) := dq0 (p := fun a b => decode cX1_lawfulTargets a = .ok b) dm_cX1_lawfulTargets_0 23 rfl
theorem dX1_lawfulTargets_44 : decode cX1_lawfulTargets 44 = .ok (.ifCond .eq 23, 3) := dq0 (p := fun a b => decode cX1_lawfulTargets a = .ok b) dm_cX1_lawfulTargets_0 24 rfl
theorem dX1_lawfulTargets_47 : decode cX1_lawfulTargets 47 = .ok (.aload_n 0, 1) := dq0 (p := fun a b => decode cX1_lawfulTargets a = .ok b) dm_cX1_lawfulTargets_0 25 rfl
theorem dX1_lawfulTargets_48 : decode cX1_lawfulTargets 48 = .ok (.iload_n 1, 1) := dq0 (p := fun a b => decode cX1_lawfulTargets a = .ok b) dm_cX1_lawfulTargets_0 26 rfl
theorem dX1_lawfulTargets_49 : decode cX1_lawfulTargets 49 = .ok (.iload 8, 2) := dq0 (p := fun a b => decode cX1_lawfulTargets a = .ok b) dm_cX1_lawfulTargets_0 27 rfl
theorem dX1_lawfulTargets_51 : decode cX1_lawfulTargets 51 = .ok (.invokevirtual 134, 3) := dq0 (p := fun a b => decode cX1_lawfulTargets a = .ok b) dm_cX1_lawfulTargets_0 28 rfl
theorem dX1_lawfulTargets_54 : decode cX1_lawfulTargets 54 = .ok (.ifCond .eq 13, 3) := dq0 (p := fun a b => decode cX1_lawfulTargets a = .ok b) dm_cX1_lawfulTargets_0 29 rfl
theorem dX1_lawfulTargets_57 : decode cX1_lawfulTargets 57 = .ok (.lload 6, 2) := dq0 (p := fun a b => decode cX1_lawfulTargets a = .ok b) dm_cX1_lawfulTargets_0 30 rfl
theorem dX1_lawfulTargets_59 : decode cX1_lawfulTargets 59 = .ok (.iload 8, 2) := dq0 (p := fun a b => decode cX1_lawfulTargets a = .ok b) dm_cX1_lawfulTargets_0 31 rfl
theorem dX1_lawfulTargets_61 : decode cX1_lawfulTargets 61 = .ok (.invokestatic 53, 3) := dq0 (p := fun a b => decode cX1_lawfulTargets a = .ok b) dm_cX1_lawfulTargets_0 32 rfl
theorem dX1_lawfulTargets_64 : decode cX1_lawfulTargets 64 = .ok (.lor, 1) := dq0 (p := fun a b => decode cX1_lawfulTargets a = .ok b) dm_cX1_lawfulTargets_0 33 rfl
theorem dX1_lawfulTargets_65 : decode cX1_lawfulTargets 65 = .ok (.lstore 6, 2) := dq0 (p := fun a b => decode cX1_lawfulTargets a = .ok b) dm_cX1_lawfulTargets_0 34 rfl
theorem dX1_lawfulTargets_67 : decode cX1_lawfulTargets 67 = .ok (.iinc 8 1, 3) := dq0 (p := fun a b => decode cX1_lawfulTargets a = .ok b) dm_cX1_lawfulTargets_0 35 rfl
theorem dX1_lawfulTargets_70 : decode cX1_lawfulTargets 70 = .ok (.goto (-40), 3) := dq0 (p := fun a b => decode cX1_lawfulTargets a = .ok b) dm_cX1_lawfulTargets_0 36 rfl
theorem dX1_lawfulTargets_73 : decode cX1_lawfulTargets 73 = .ok (.lload 6, 2) := dq0 (p := fun a b => decode cX1_lawfulTargets a = .ok b) dm_cX1_lawfulTargets_0 37 rfl
theorem dX1_lawfulTargets_75 : decode cX1_lawfulTargets 75 = .ok (.lreturn, 1) := dq0 (p := fun a b => decode cX1_lawfulTargets a = .ok b) dm_cX1_lawfulTargets_0 38 rfl
theorem dm_cX1_lawfulMoveCount_0 : ([(0, .aload_n 0, 1), (1, .invokevirtual 138, 3), (4, .lstore_n 1, 1), (5, .iconst 0, 1), (6, .istore_n 3, 1), (7, .iconst 0, 1), (8, .istore 4, 2), (10, .iload 4, 2), (12, .bipush 64, 2), (14, .if_icmp .ge 34, 3), (17, .aload_n 0, 1), (18, .invokevirtual 121, 3), (21, .iload 4, 2), (23, .invokestatic 49, 3), (26, .ifCond .eq 16, 3), (29, .iload_n 3, 1), (30, .aload_n 0, 1), (31, .iload 4, 2), (33, .lload_n 1, 1), (34, .invokevirtual 141, 3), (37, .invokestatic 145, 3), (40, .iadd, 1), (41, .istore_n 3, 1), (42, .iinc 4 1, 3), (45, .goto (-35), 3), (48, .iload_n 3, 1), (49, .ireturn, 1)] : List (Nat × Instr × Nat)).all (fun t => decide (decode cX1_lawfulMoveCount t.1 = .ok t.2)) = true := by decide +kernel
theorem dX1_lawfulMoveCount_0 : decode cX1_lawfulMoveCount 0 = .ok (.aload_n 0, 1) := dq0 (p := fun a b => decode cX1_lawfulMoveCount a = .ok b) dm_cX1_lawfulMoveCount_0 0 rfl
theorem dX1_lawfulMoveCount_1 : decode cX1_lawfulMoveCount 1 = .ok (.invokevirtual 138, 3) := dq0 (p := fun a b => decode cX1_lawfulMoveCount a = .ok b) dm_cX1_lawfulMoveCount_0 1 rfl
theorem dX1_lawfulMoveCount_4 : decode cX1_lawfulMoveCount 4 = .ok (.lstore_n 1, 1) := dq0 (p := fun a b => decode cX1_lawfulMoveCount a = .ok b) dm_cX1_lawfulMoveCount_0 2 rfl
theorem dX1_lawfulMoveCount_5 : decode cX1_lawfulMoveCount 5 = .ok (.iconst 0, 1) := dq0 (p := fun a b => decode cX1_lawfulMoveCount a = .ok b) dm_cX1_lawfulMoveCount_0 3 rfl
theorem dX1_lawfulMoveCount_6 : decode cX1_lawfulMoveCount 6 = .ok (.istore_n 3, 1) := dq0 (p := fun a b => decode cX1_lawfulMoveCount a = .ok b) dm_cX1_lawfulMoveCount_0 4 rfl
theorem dX1_lawfulMoveCount_7 : decode cX1_lawfulMoveCount 7 = .ok (.iconst 0, 1) := dq0 (p := fun a b => decode cX1_lawfulMoveCount a = .ok b) dm_cX1_lawfulMoveCount_0 5 rfl
theorem dX1_lawfulMoveCount_8 : decode cX1_lawfulMoveCount 8 = .ok (.istore 4, 2) := dq0 (p := fun a b => decode cX1_lawfulMoveCount a = .ok b) dm_cX1_lawfulMoveCount_0 6 rfl
theorem dX1_lawfulMoveCount_10 : decode cX1_lawfulMoveCount 10 = .ok (.iload 4, 2) := dq0 (p := fun a b => decode cX1_lawfulMoveCount a = .ok b) dm_cX1_lawfulMoveCount_0 7 rfl
theorem dX1_lawfulMoveCount_12 : decode cX1_lawfulMoveCount 12 = .ok (.bipush 64, 2) := dq0 (p := fun a b => decode cX1_lawfulMoveCount a = .ok b) dm_cX1_lawfulMoveCount_0 8 rfl
theorem dX1_lawfulMoveCount_14 : decode cX1_lawfulMoveCount 14 = .ok (.if_icmp .ge 34, 3) := dq0 (p := fun a b => decode cX1_lawfulMoveCount a = .ok b) dm_cX1_lawfulMoveCount_0 9 rfl
theorem dX1_lawfulMoveCount_17 : decode cX1_lawfulMoveCount 17 = .ok (.aload_n 0, 1) := dq0 (p := fun a b => decode cX1_lawfulMoveCount a = .ok b) dm_cX1_lawfulMoveCount_0 10 rfl
theorem dX1_lawfulMoveCount_18 : decode cX1_lawfulMoveCount 18 = .ok (.invokevirtual 121, 3) := dq0 (p := fun a b => decode cX1_lawfulMoveCount a = .ok b) dm_cX1_lawfulMoveCount_0 11 rfl
theorem dX1_lawfulMoveCount_21 : decode cX1_lawfulMoveCount 21 = .ok (.iload 4, 2) := dq0 (p := fun a b => decode cX1_lawfulMoveCount a = .ok b) dm_cX1_lawfulMoveCount_0 12 rfl
theorem dX1_lawfulMoveCount_23 : decode cX1_lawfulMoveCount 23 = .ok (.invokestatic 49, 3) := dq0 (p := fun a b => decode cX1_lawfulMoveCount a = .ok b) dm_cX1_lawfulMoveCount_0 13 rfl
theorem dX1_lawfulMoveCount_26 : decode cX1_lawfulMoveCount 26 = .ok (.ifCond .eq 16, 3) := dq0 (p := fun a b => decode cX1_lawfulMoveCount a = .ok b) dm_cX1_lawfulMoveCount_0 14 rfl
theorem dX1_lawfulMoveCount_29 : decode cX1_lawfulMoveCount 29 = .ok (.iload_n 3, 1) := dq0 (p := fun a b => decode cX1_lawfulMoveCount a = .ok b) dm_cX1_lawfulMoveCount_0 15 rfl
theorem dX1_lawfulMoveCount_30 : decode cX1_lawfulMoveCount 30 = .ok (.aload_n 0, 1) := dq0 (p := fun a b => decode cX1_lawfulMoveCount a = .ok b) dm_cX1_lawfulMoveCount_0 16 rfl
theorem dX1_lawfulMoveCount_31 : decode cX1_lawfulMoveCount 31 = .ok (.iload 4, 2) := dq0 (p := fun a b => decode cX1_lawfulMoveCount a = .ok b) dm_cX1_lawfulMoveCount_0 17 rfl
theorem dX1_lawfulMoveCount_33 : decode cX1_lawfulMoveCount 33 = .ok (.lload_n 1, 1) := dq0 (p := fun a b => decode cX1_lawfulMoveCount a = .ok b) dm_cX1_lawfulMoveCount_0 18 rfl
theorem dX1_lawfulMoveCount_34 : decode cX1_lawfulMoveCount 34 = .ok (.invokevirtual 141, 3) := dq0 (p := fun a b => decode cX1_lawfulMoveCount a = .ok b) dm_cX1_lawfulMoveCount_0 19 rfl
theorem dX1_lawfulMoveCount_37 : decode cX1_lawfulMoveCount 37 = .ok (.invokestatic 145, 3) := dq0 (p := fun a b => decode cX1_lawfulMoveCount a = .ok b) dm_cX1_lawfulMoveCount_0 20 rfl
theorem dX1_lawfulMoveCount_40 : decode cX1_lawfulMoveCount 40 = .ok (.iadd, 1) := dq0 (p := fun a b => decode cX1_lawfulMoveCount a = .ok b) dm_cX1_lawfulMoveCount_0 21 rfl
theorem dX1_lawfulMoveCount_41 : decode cX1_lawfulMoveCount 41 = .ok (.istore_n 3, 1) := dq0 (p := fun a b => decode cX1_lawfulMoveCount a = .ok b) dm_cX1_lawfulMoveCount_0 22 rfl
theorem dX1_lawfulMoveCount_42 : decode cX1_lawfulMoveCount 42 = .ok (.iinc 4 1, 3) := dq0 (p := fun a b => decode cX1_lawfulMoveCount a = .ok b) dm_cX1_lawfulMoveCount_0 23 rfl
theorem dX1_lawfulMoveCount_45 : decode cX1_lawfulMoveCount 45 = .ok (.goto (-35), 3) := dq0 (p := fun a b => decode cX1_lawfulMoveCount a = .ok b) dm_cX1_lawfulMoveCount_0 24 rfl
theorem dX1_lawfulMoveCount_48 : decode cX1_lawfulMoveCount 48 = .ok (.iload_n 3, 1) := dq0 (p := fun a b => decode cX1_lawfulMoveCount a = .ok b) dm_cX1_lawfulMoveCount_0 25 rfl
theorem dX1_lawfulMoveCount_49 : decode cX1_lawfulMoveCount 49 = .ok (.ireturn, 1) := dq0 (p := fun a b => decode cX1_lawfulMoveCount a = .ok b) dm_cX1_lawfulMoveCount_0 26 rfl
theorem dm_cX1_hasLawfulMove_0 : ([(0, .aload_n 0, 1), (1, .invokevirtual 138, 3), (4, .lstore_n 1, 1), (5, .iconst 0, 1), (6, .istore_n 3, 1), (7, .iload_n 3, 1), (8, .bipush 64, 2), (10, .if_icmp .ge 33, 3), (13, .aload_n 0, 1), (14, .invokevirtual 121, 3), (17, .iload_n 3, 1), (18, .invokestatic 49, 3), (21, .ifCond .eq 16, 3), (24, .aload_n 0, 1), (25, .iload_n 3, 1), (26, .lload_n 1, 1), (27, .invokevirtual 141, 3), (30, .lconst 0, 1), (31, .lcmp, 1), (32, .ifCond .eq 5, 3), (35, .iconst 1, 1), (36, .ireturn, 1), (37, .iinc 3 1, 3), (40, .goto (-33), 3), (43, .iconst 0, 1), (44, .ireturn, 1)] : List (Nat × Instr × Nat)).all (fun t => decide (decode cX1_hasLawfulMove t.1 = .ok t.2)) = true := by decide +kernel
theorem dX1_hasLawfulMove_0 : decode cX1_hasLawfulMove 0 = .ok (.aload_n 0, 1) := dq0 (p := fun a b => decode cX1_hasLawfulMove a = .ok b) dm_cX1_hasLawfulMove_0 0 rfl
theorem dX1_hasLawfulMove_1 : decode cX1_hasLawfulMove 1 = .ok (.invokevirtual 138, 3) := dq0 (p := fun a b => decode cX1_hasLawfulMove a = .ok b) dm_cX1_hasLawfulMove_0 1 rfl
theorem dX1_hasLawfulMove_4 : decode cX1_hasLawfulMove 4 = .ok (.lstore_n 1, 1) := dq0 (p := fun a b => decode cX1_hasLawfulMove a = .ok b) dm_cX1_hasLawfulMove_0 2 rfl
theorem dX1_hasLawfulMove_5 : decode cX1_hasLawfulMove 5 = .ok (.iconst 0, 1) := dq0 (p := fun a b => decode cX1_hasLawfulMove a = .ok b) dm_cX1_hasLawfulMove_0 3 rfl
theorem dX1_hasLawfulMove_6 : decode cX1_hasLawfulMove 6 = .ok (.istore_n 3, 1) := dq0 (p := fun a b => decode cX1_hasLawfulMove a = .ok b) dm_cX1_hasLawfulMove_0 4 rfl
theorem dX1_hasLawfulMove_7 : decode cX1_hasLawfulMove 7 = .ok (.iload_n 3, 1) := dq0 (p := fun a b => decode cX1_hasLawfulMove a = .ok b) dm_cX1_hasLawfulMove_0 5 rfl
theorem dX1_hasLawfulMove_8 : decode cX1_hasLawfulMove 8 = .ok (.bipush 64, 2) := dq0 (p := fun a b => decode cX1_hasLawfulMove a = .ok b) dm_cX1_hasLawfulMove_0 6 rfl
theorem dX1_hasLawfulMove_10 : decode cX1_hasLawfulMove 10 = .ok (.if_icmp .ge 33, 3) := dq0 (p := fun a b => decode cX1_hasLawfulMove a = .ok b) dm_cX1_hasLawfulMove_0 7 rfl
theorem dX1_hasLawfulMove_13 : decode cX1_hasLawfulMove 13 = .ok (.aload_n 0, 1) := dq0 (p := fun a b => decode cX1_hasLawfulMove a = .ok b) dm_cX1_hasLawfulMove_0 8 rfl
theorem dX1_hasLawfulMove_14 : decode cX1_hasLawfulMove 14 = .ok (.invokevirtual 121, 3) := dq0 (p := fun a b => decode cX1_hasLawfulMove a = .ok b) dm_cX1_hasLawfulMove_0 9 rfl
theorem dX1_hasLawfulMove_17 : decode cX1_hasLawfulMove 17 = .ok (.iload_n 3, 1) := dq0 (p := fun a b => decode cX1_hasLawfulMove a = .ok b) dm_cX1_hasLawfulMove_0 10 rfl
theorem dX1_hasLawfulMove_18 : decode cX1_hasLawfulMove 18 = .ok (.invokestatic 49, 3) := dq0 (p := fun a b => decode cX1_hasLawfulMove a = .ok b) dm_cX1_hasLawfulMove_0 11 rfl
theorem dX1_hasLawfulMove_21 : decode cX1_hasLawfulMove 21 = .ok (.ifCond .eq 16, 3) := dq0 (p := fun a b => decode cX1_hasLawfulMove a = .ok b) dm_cX1_hasLawfulMove_0 12 rfl
theorem dX1_hasLawfulMove_24 : decode cX1_hasLawfulMove 24 = .ok (.aload_n 0, 1) := dq0 (p := fun a b => decode cX1_hasLawfulMove a = .ok b) dm_cX1_hasLawfulMove_0 13 rfl
theorem dX1_hasLawfulMove_25 : decode cX1_hasLawfulMove 25 = .ok (.iload_n 3, 1) := dq0 (p := fun a b => decode cX1_hasLawfulMove a = .ok b) dm_cX1_hasLawfulMove_0 14 rfl
theorem dX1_hasLawfulMove_26 : decode cX1_hasLawfulMove 26 = .ok (.lload_n 1, 1) := dq0 (p := fun a b => decode cX1_hasLawfulMove a = .ok b) dm_cX1_hasLawfulMove_0 15 rfl
theorem dX1_hasLawfulMove_27 : decode cX1_hasLawfulMove 27 = .ok (.invokevirtual 141, 3) := dq0 (p := fun a b => decode cX1_hasLawfulMove a = .ok b) dm_cX1_hasLawfulMove_0 16 rfl
theorem dX1_hasLawfulMove_30 : decode cX1_hasLawfulMove 30 = .ok (.lconst 0, 1) := dq0 (p := fun a b => decode cX1_hasLawfulMove a = .ok b) dm_cX1_hasLawfulMove_0 17 rfl
theorem dX1_hasLawfulMove_31 : decode cX1_hasLawfulMove 31 = .ok (.lcmp, 1) := dq0 (p := fun a b => decode cX1_hasLawfulMove a = .ok b) dm_cX1_hasLawfulMove_0 18 rfl
theorem dX1_hasLawfulMove_32 : decode cX1_hasLawfulMove 32 = .ok (.ifCond .eq 5, 3) := dq0 (p := fun a b => decode cX1_hasLawfulMove a = .ok b) dm_cX1_hasLawfulMove_0 19 rfl
theorem dX1_hasLawfulMove_35 : decode cX1_hasLawfulMove 35 = .ok (.iconst 1, 1) := dq0 (p := fun a b => decode cX1_hasLawfulMove a = .ok b) dm_cX1_hasLawfulMove_0 20 rfl
theorem dX1_hasLawfulMove_36 : decode cX1_hasLawfulMove 36 = .ok (.ireturn, 1) := dq0 (p := fun a b => decode cX1_hasLawfulMove a = .ok b) dm_cX1_hasLawfulMove_0 21 rfl
theorem dX1_hasLawfulMove_37 : decode cX1_hasLawfulMove 37 = .ok (.iinc 3 1, 3) := dq0 (p := fun a b => decode cX1_hasLawfulMove a = .ok b) dm_cX1_hasLawfulMove_0 22 rfl
theorem dX1_hasLawfulMove_40 : decode cX1_hasLawfulMove 40 = .ok (.goto (-33), 3) := dq0 (p := fun a b => decode cX1_hasLawfulMove a = .ok b) dm_cX1_hasLawfulMove_0 23 rfl
theorem dX1_hasLawfulMove_43 : decode cX1_hasLawfulMove 43 = .ok (.iconst 0, 1) := dq0 (p := fun a b => decode cX1_hasLawfulMove a = .ok b) dm_cX1_hasLawfulMove_0 24 rfl
theorem dX1_hasLawfulMove_44 : decode cX1_hasLawfulMove 44 = .ok (.ireturn, 1) := dq0 (p := fun a b => decode cX1_hasLawfulMove a = .ok b) dm_cX1_hasLawfulMove_0 25 rfl
theorem dm_cX1_hasBondAction_0 : ([(0, .aload_n 0, 1), (1, .aload_n 0, 1), (2, .getfield 25, 3), (5, .invokevirtual 151, 3), (8, .lconst 0, 1), (9, .lcmp, 1), (10, .ifCond .eq 5, 3), (13, .iconst 1, 1), (14, .ireturn, 1), (15, .aload_n 0, 1), (16, .iconst 5, 1), (17, .aload_n 0, 1), (18, .getfield 25, 3), (21, .invokevirtual 61, 3), (24, .lstore_n 1, 1), (25, .iconst 0, 1), (26, .istore_n 3, 1), (27, .iload_n 3, 1), (28, .bipush 64, 2), (30, .if_icmp .ge 47, 3), (33, .lload_n 1, 1), (34, .iload_n 3, 1), (35, .invokestatic 53, 3), (38, .ldc2_w 69, 3), (41, .lxor, 1), (42, .land, 1), (43, .lstore 4, 2), (45, .lload_n 1, 1), (46, .iload_n 3, 1), (47, .invokestatic 49, 3), (50, .ifCond .eq 21, 3), (53, .iload_n 3, 1), (54, .invokestatic 53, 3), (57, .iconst 3, 1), (58, .invokestatic 124, 3), (61, .lload 4, 2), (63, .land, 1), (64, .lconst 0, 1), (65, .lcmp, 1), (66, .ifCond .eq 5, 3), (69, .iconst 1, 1), (70, .ireturn, 1), (71, .iinc 3 1, 3), (74, .goto (-47), 3), (77, .iconst 0, 1), (78, .ireturn, 1)] : List (Nat × Instr × Nat)).all (fun t => decide (decode cX1_hasBondAction t.1 = .ok t.2)) = true := by decide +kernel
theorem dX1_hasBondAction_0 : decode cX1_hasBondAction 0 = .ok (.aload_n 0, 1) := dq0 (p := fun a b => decode cX1_hasBondAction a = .ok b) dm_cX1_hasBondAction_0 0 rfl
theorem dX1_hasBondAction_1 : decode cX1_hasBondAction 1 = .ok (.aload_n 0, 1) := dq0 (p := fun a b => decode cX1_hasBondAction a = .ok b) dm_cX1_hasBondAction_0 1 rfl
theorem dX1_hasBondAction_2 : decode cX1_hasBondAction 2 = .ok (.getfield 25, 3) := dq0 (p := fun a b => decode cX1_hasBondAction a = .ok b) dm_cX1_hasBondAction_0 2 rfl
theorem dX1_hasBondAction_5 : decode cX1_hasBondAction 5 = .ok (.invokevirtual 151, 3) := dq0 (p := fun a b => decode cX1_hasBondAction a = .ok b) dm_cX1_hasBondAction_0 3 rfl
theorem dX1_hasBondAction_8 : decode cX1_hasBondAction 8 = .ok (.lconst 0, 1) := dq0 (p := fun a b => decode cX1_hasBondAction a = .ok b) dm_cX1_hasBondAction_0 4 rfl
theorem dX1_hasBondAction_9 : decode cX1_hasBondAction 9 = .ok (.lcmp, 1) := dq0 (p := fun a b => decode cX1_hasBondAction a = .ok b) dm_cX1_hasBondAction_0 5 rfl
theorem dX1_hasBondAction_10 : decode cX1_hasBondAction 10 = .ok (.ifCond .eq 5, 3) := dq0 (p := fun a b => decode cX1_hasBondAction a = .ok b) dm_cX1_hasBondAction_0 6 rfl
theorem dX1_hasBondAction_13 : decode cX1_hasBondAction 13 = .ok (.iconst 1, 1) := dq0 (p := fun a b => decode cX1_hasBondAction a = .ok b) dm_cX1_hasBondAction_0 7 rfl
theorem dX1_hasBondAction_14 : decode cX1_hasBondAction 14 = .ok (.ireturn, 1) := dq0 (p := fun a b => decode cX1_hasBondAction a = .ok b) dm_cX1_hasBondAction_0 8 rfl
theorem dX1_hasBondAction_15 : decode cX1_hasBondAction 15 = .ok (.aload_n 0, 1) := dq0 (p := fun a b => decode cX1_hasBondAction a = .ok b) dm_cX1_hasBondAction_0 9 rfl
theorem dX1_hasBondAction_16 : decode cX1_hasBondAction 16 = .ok (.iconst 5, 1) := dq0 (p := fun a b => decode cX1_hasBondAction a = .ok b) dm_cX1_hasBondAction_0 10 rfl
theorem dX1_hasBondAction_17 : decode cX1_hasBondAction 17 = .ok (.aload_n 0, 1) := dq0 (p := fun a b => decode cX1_hasBondAction a = .ok b) dm_cX1_hasBondAction_0 11 rfl
theorem dX1_hasBondAction_18 : decode cX1_hasBondAction 18 = .ok (.getfield 25, 3) := dq0 (p := fun a b => decode cX1_hasBondAction a = .ok b) dm_cX1_hasBondAction_0 12 rfl
theorem dX1_hasBondAction_21 : decode cX1_hasBondAction 21 = .ok (.invokevirtual 61, 3) := dq0 (p := fun a b => decode cX1_hasBondAction a = .ok b) dm_cX1_hasBondAction_0 13 rfl
theorem dX1_hasBondAction_24 : decode cX1_hasBondAction 24 = .ok (.lstore_n 1, 1) := dq0 (p := fun a b => decode cX1_hasBondAction a = .ok b) dm_cX1_hasBondAction_0 14 rfl
theorem dX1_hasBondAction_25 : decode cX1_hasBondAction 25 = .ok (.iconst 0, 1) := dq0 (p := fun a b => decode cX1_hasBondAction a = .ok b) dm_cX1_hasBondAction_0 15 rfl
theorem dX1_hasBondAction_26 : decode cX1_hasBondAction 26 = .ok (.istore_n 3, 1) := dq0 (p := fun a b => decode cX1_hasBondAction a = .ok b) dm_cX1_hasBondAction_0 16 rfl
theorem dX1_hasBondAction_27 : decode cX1_hasBondAction 27 = .ok (.iload_n 3, 1) := dq0 (p := fun a b => decode cX1_hasBondAction a = .ok b) dm_cX1_hasBondAction_0 17 rfl
theorem dX1_hasBondAction_28 : decode cX1_hasBondAction 28 = .ok (.bipush 64, 2) := dq0 (p := fun a b => decode cX1_hasBondAction a = .ok b) dm_cX1_hasBondAction_0 18 rfl
theorem dX1_hasBondAction_30 : decode cX1_hasBondAction 30 = .ok (.if_icmp .ge 47, 3) := dq0 (p := fun a b => decode cX1_hasBondAction a = .ok b) dm_cX1_hasBondAction_0 19 rfl
theorem dX1_hasBondAction_33 : decode cX1_hasBondAction 33 = .ok (.lload_n 1, 1) := dq0 (p := fun a b => decode cX1_hasBondAction a = .ok b) dm_cX1_hasBondAction_0 20 rfl
theorem dX1_hasBondAction_34 : decode cX1_hasBondAction 34 = .ok (.iload_n 3, 1) := dq0 (p := fun a b => decode cX1_hasBondAction a = .ok b) dm_cX1_hasBondAction_0 21 rfl
theorem dX1_hasBondAction_35 : decode cX1_hasBondAction 35 = .ok (.invokestatic 53, 3) := dq0 (p := fun a b => decode cX1_hasBondAction a = .ok b) dm_cX1_hasBondAction_0 22 rfl
theorem dX1_hasBondAction_38 : decode cX1_hasBondAction 38 = .ok (.ldc2_w 69, 3) := dq0 (p := fun a b => decode cX1_hasBondAction a = .ok b) dm_cX1_hasBondAction_0 23 rfl
theorem dX1_hasBondAction_41 : decode cX1_hasBondAction 41 = .ok (.lxor, 1) := dq0 (p := fun a b => decode cX1_hasBondAction a = .ok b) dm_cX1_hasBondAction_0 24 rfl
theorem dX1_hasBondAction_42 : decode cX1_hasBondAction 42 = .ok (.land, 1) := dq0 (p := fun a b => decode cX1_hasBondAction a = .ok b) dm_cX1_hasBondAction_0 25 rfl
theorem dX1_hasBondAction_43 : decode cX1_hasBondAction 43 = .ok (.lstore 4, 2) := dq0 (p := fun a b => decode cX1_hasBondAction a = .ok b) dm_cX1_hasBondAction_0 26 rfl
theorem dX1_hasBondAction_45 : decode cX1_hasBondAction 45 = .ok (.lload_n 1, 1) := dq0 (p := fun a b => decode cX1_hasBondAction a = .ok b) dm_cX1_hasBondAction_0 27 rfl
theorem dX1_hasBondAction_46 : decode cX1_hasBondAction 46 = .ok (.iload_n 3, 1) := dq0 (p := fun a b => decode cX1_hasBondAction a = .ok b) dm_cX1_hasBondAction_0 28 rfl
theorem dX1_hasBondAction_47 : decode cX1_hasBondAction 47 = .ok (.invokestatic 49, 3) := dq0 (p := fun a b => decode cX1_hasBondAction a = .ok b) dm_cX1_hasBondAction_0 29 rfl
theorem dX1_hasBondAction_50 : decode cX1_hasBondAction 50 = .ok (.ifCond .eq 21, 3) := dq0 (p := fun a b => decode cX1_hasBondAction a = .ok b) dm_cX1_hasBondAction_0 30 rfl
theorem dX1_hasBondAction_53 : decode cX1_hasBondAction 53 = .ok (.iload_n 3, 1) := dq0 (p := fun a b => decode cX1_hasBondAction a = .ok b) dm_cX1_hasBondAction_0 31 rfl
theorem dX1_hasBondAction_54 : decode cX1_hasBondAction 54 = .ok (.invokestatic 53, 3) := dq0 (p := fun a b => decode cX1_hasBondAction a = .ok b) dm_cX1_hasBondAction_0 32 rfl
theorem dX1_hasBondAction_57 : decode cX1_hasBondAction 57 = .ok (.iconst 3, 1) := dq0 (p := fun a b => decode cX1_hasBondAction a = .ok b) dm_cX1_hasBondAction_0 33 rfl
theorem dX1_hasBondAction_58 : decode cX1_hasBondAction 58 = .ok (.invokestatic 124, 3) := dq0 (p := fun a b => decode cX1_hasBondAction a = .ok b) dm_cX1_hasBondAction_0 34 rfl
theorem dX1_hasBondAction_61 : decode cX1_hasBondAction 61 = .ok (.lload 4, 2) := dq0 (p := fun a b => decode cX1_hasBondAction a = .ok b) dm_cX1_hasBondAction_0 35 rfl
theorem dX1_hasBondAction_63 : decode cX1_hasBondAction 63 = .ok (.land, 1) := dq0 (p := fun a b => decode cX1_hasBondAction a = .ok b) dm_cX1_hasBondAction_0 36 rfl
theorem dX1_hasBondAction_64 : decode cX1_hasBondAction 64 = .ok (.lconst 0, 1) := dq0 (p := fun a b => decode cX1_hasBondAction a = .ok b) dm_cX1_hasBondAction_0 37 rfl
theorem dX1_hasBondAction_65 : decode cX1_hasBondAction 65 = .ok (.lcmp, 1) := dq0 (p := fun a b => decode cX1_hasBondAction a = .ok b) dm_cX1_hasBondAction_0 38 rfl
theorem dX1_hasBondAction_66 : decode cX1_hasBondAction 66 = .ok (.ifCond .eq 5, 3) := dq0 (p := fun a b => decode cX1_hasBondAction a = .ok b) dm_cX1_hasBondAction_0 39 rfl
theorem dX1_hasBondAction_69 : decode cX1_hasBondAction 69 = .ok (.iconst 1, 1) := dq0 (p := fun a b => decode cX1_hasBondAction a = .ok b) dm_cX1_hasBondAction_0 40 rfl
theorem dX1_hasBondAction_70 : decode cX1_hasBondAction 70 = .ok (.ireturn, 1) := dq0 (p := fun a b => decode cX1_hasBondAction a = .ok b) dm_cX1_hasBondAction_0 41 rfl
theorem dX1_hasBondAction_71 : decode cX1_hasBondAction 71 = .ok (.iinc 3 1, 3) := dq0 (p := fun a b => decode cX1_hasBondAction a = .ok b) dm_cX1_hasBondAction_0 42 rfl
theorem dX1_hasBondAction_74 : decode cX1_hasBondAction 74 = .ok (.goto (-47), 3) := dq0 (p := fun a b => decode cX1_hasBondAction a = .ok b) dm_cX1_hasBondAction_0 43 rfl
theorem dX1_hasBondAction_77 : decode cX1_hasBondAction 77 = .ok (.iconst 0, 1) := dq0 (p := fun a b => decode cX1_hasBondAction a = .ok b) dm_cX1_hasBondAction_0 44 rfl
theorem dX1_hasBondAction_78 : decode cX1_hasBondAction 78 = .ok (.ireturn, 1) := dq0 (p := fun a b => decode cX1_hasBondAction a = .ok b) dm_cX1_hasBondAction_0 45 rfl
theorem dm_cX1_isMated_0 : ([(0, .aload_n 0, 1), (1, .aload_n 0, 1), (2, .getfield 25, 3), (5, .invokevirtual 65, 3), (8, .ifCond .eq 14, 3), (11, .aload_n 0, 1), (12, .invokevirtual 154, 3), (15, .ifCond .ne 7, 3), (18, .iconst 1, 1), (19, .goto 4, 3), (22, .iconst 0, 1), (23, .ireturn, 1)] : List (Nat × Instr × Nat)).all (fun t => decide (decode cX1_isMated t.1 = .ok t.2)) = true := by decide +kernel
theorem dX1_isMated_0 : decode cX1_isMated 0 = .ok (.aload_n 0, 1) := dq0 (p := fun a b => decode cX1_isMated a = .ok b) dm_cX1_isMated_0 0 rfl
theorem dX1_isMated_1 : decode cX1_isMated 1 = .ok (.aload_n 0, 1) := dq0 (p := fun a b => decode cX1_isMated a = .ok b) dm_cX1_isMated_0 1 rfl
theorem dX1_isMated_2 : decode cX1_isMated 2 = .ok (.getfield 25, 3) := dq0 (p := fun a b => decode cX1_isMated a = .ok b) dm_cX1_isMated_0 2 rfl
theorem dX1_isMated_5 : decode cX1_isMated 5 = .ok (.invokevirtual 65, 3) := dq0 (p := fun a b => decode cX1_isMated a = .ok b) dm_cX1_isMated_0 3 rfl
theorem dX1_isMated_8 : decode cX1_isMated 8 = .ok (.ifCond .eq 14, 3) := dq0 (p := fun a b => decode cX1_isMated a = .ok b) dm_cX1_isMated_0 4 rfl
theorem dX1_isMated_11 : decode cX1_isMated 11 = .ok (.aload_n 0, 1) := dq0 (p := fun a b => decode cX1_isMated a = .ok b) dm_cX1_isMated_0 5 rfl
theorem dX1_isMated_12 : decode cX1_isMated 12 = .ok (.invokevirtual 154, 3) := dq0 (p := fun a b => decode cX1_isMated a = .ok b) dm_cX1_isMated_0 6 rfl
theorem dX1_isMated_15 : decode cX1_isMated 15 = .ok (.ifCond .ne 7, 3) := dq0 (p := fun a b => decode cX1_isMated a = .ok b) dm_cX1_isMated_0 7 rfl
theorem dX1_isMated_18 : decode cX1_isMated 18 = .ok (.iconst 1, 1) := dq0 (p := fun a b => decode cX1_isMated a = .ok b) dm_cX1_isMated_0 8 rfl
theorem dX1_isMated_19 : decode cX1_isMated 19 = .ok (.goto 4, 3) := dq0 (p := fun a b => decode cX1_isMated a = .ok b) dm_cX1_isMated_0 9 rfl
theorem dX1_isMated_22 : decode cX1_isMated 22 = .ok (.iconst 0, 1) := dq0 (p := fun a b => decode cX1_isMated a = .ok b) dm_cX1_isMated_0 10 rfl
theorem dX1_isMated_23 : decode cX1_isMated 23 = .ok (.ireturn, 1) := dq0 (p := fun a b => decode cX1_isMated a = .ok b) dm_cX1_isMated_0 11 rfl
theorem dm_cX2_of_0 : ([(0, .iload_n 0, 1), (1, .tableswitch 83 1 6 #[39, 44, 58, 65, 72, 77], 39), (40, .lload_n 2, 1), (41, .invokestatic 9, 3), (44, .lreturn, 1), (45, .lload_n 2, 1), (46, .lload 4, 2), (48, .invokestatic 15, 3), (51, .lload_n 2, 1), (52, .lload 4, 2), (54, .invokestatic 19, 3), (57, .lor, 1), (58, .lreturn, 1), (59, .lload_n 2, 1), (60, .lload 4, 2), (62, .invokestatic 15, 3), (65, .lreturn, 1), (66, .lload_n 2, 1), (67, .lload 4, 2), (69, .invokestatic 19, 3), (72, .lreturn, 1), (73, .lload_n 2, 1), (74, .invokestatic 22, 3), (77, .lreturn, 1), (78, .lload_n 2, 1), (79, .iload_n 1, 1), (80, .invokestatic 25, 3), (83, .lreturn, 1), (84, .lconst 0, 1), (85, .lreturn, 1)] : List (Nat × Instr × Nat)).all (fun t => decide (decode cX2_of t.1 = .ok t.2)) = true := by decide +kernel
theorem dX2_of_0 : decode cX2_of 0 = .ok (.iload_n 0, 1) := dq0 (p := fun a b => decode cX2_of a = .ok b) dm_cX2_of_0 0 rfl
theorem dX2_of_1 : decode cX2_of 1 = .ok (.tableswitch 83 1 6 #[39, 44, 58, 65, 72, 77], 39) := dq0 (p := fun a b => decode cX2_of a = .ok b) dm_cX2_of_0 1 rfl
theorem dX2_of_40 : decode cX2_of 40 = .ok (.lload_n 2, 1) := dq0 (p := fun a b => decode cX2_of a = .ok b) dm_cX2_of_0 2 rfl
theorem dX2_of_41 : decode cX2_of 41 = .ok (.invokestatic 9, 3) := dq0 (p := fun a b => decode cX2_of a = .ok b) dm_cX2_of_0 3 rfl
theorem dX2_of_44 : decode cX2_of 44 = .ok (.lreturn, 1) := dq0 (p := fun a b => decode cX2_of a = .ok b) dm_cX2_of_0 4 rfl
theorem dX2_of_45 : decode cX2_of 45 = .ok (.lload_n 2, 1) := dq0 (p := fun a b => decode cX2_of a = .ok b) dm_cX2_of_0 5 rfl
theorem dX2_of_46 : decode cX2_of 46 = .ok (.lload 4, 2) := dq0 (p := fun a b => decode cX2_of a = .ok b) dm_cX2_of_0 6 rfl
theorem dX2_of_48 : decode cX2_of 48 = .ok (.invokestatic 15, 3) := dq0 (p := fun a b => decode cX2_of a = .ok b) dm_cX2_of_0 7 rfl
theorem dX2_of_51 : decode cX2_of 51 = .ok (.lload_n 2, 1) := dq0 (p := fun a b => decode cX2_of a = .ok b) dm_cX2_of_0 8 rfl
theorem dX2_of_52 : decode cX2_of 52 = .ok (.lload 4, 2) := dq0 (p := fun a b => decode cX2_of a = .ok b) dm_cX2_of_0 9 rfl
theorem dX2_of_54 : decode cX2_of 54 = .ok (.invokestatic 19, 3) := dq0 (p := fun a b => decode cX2_of a = .ok b) dm_cX2_of_0 10 rfl
theorem dX2_of_57 : decode cX2_of 57 = .ok (.lor, 1) := dq0 (p := fun a b => decode cX2_of a = .ok b) dm_cX2_of_0 11 rfl
theorem dX2_of_58 : decode cX2_of 58 = .ok (.lreturn, 1) := dq0 (p := fun a b => decode cX2_of a = .ok b) dm_cX2_of_0 12 rfl
theorem dX2_of_59 : decode cX2_of 59 = .ok (.lload_n 2, 1) := dq0 (p := fun a b => decode cX2_of a = .ok b) dm_cX2_of_0 13 rfl
theorem dX2_of_60 : decode cX2_of 60 = .ok (.lload 4, 2) := dq0 (p := fun a b => decode cX2_of a = .ok b) dm_cX2_of_0 14 rfl
theorem dX2_of_62 : decode cX2_of 62 = .ok (.invokestatic 15, 3) := dq0 (p := fun a b => decode cX2_of a = .ok b) dm_cX2_of_0 15 rfl
theorem dX2_of_65 : decode cX2_of 65 = .ok (.lreturn, 1) := dq0 (p := fun a b => decode cX2_of a = .ok b) dm_cX2_of_0 16 rfl
theorem dX2_of_66 : decode cX2_of 66 = .ok (.lload_n 2, 1) := dq0 (p := fun a b => decode cX2_of a = .ok b) dm_cX2_of_0 17 rfl
theorem dX2_of_67 : decode cX2_of 67 = .ok (.lload 4, 2) := dq0 (p := fun a b => decode cX2_of a = .ok b) dm_cX2_of_0 18 rfl
theorem dX2_of_69 : decode cX2_of 69 = .ok (.invokestatic 19, 3) := dq0 (p := fun a b => decode cX2_of a = .ok b) dm_cX2_of_0 19 rfl
theorem dX2_of_72 : decode cX2_of 72 = .ok (.lreturn, 1) := dq0 (p := fun a b => decode cX2_of a = .ok b) dm_cX2_of_0 20 rfl
theorem dX2_of_73 : decode cX2_of 73 = .ok (.lload_n 2, 1) := dq0 (p := fun a b => decode cX2_of a = .ok b) dm_cX2_of_0 21 rfl
theorem dX2_of_74 : decode cX2_of 74 = .ok (.invokestatic 22, 3) := dq0 (p := fun a b => decode cX2_of a = .ok b) dm_cX2_of_0 22 rfl
theorem dX2_of_77 : decode cX2_of 77 = .ok (.lreturn, 1) := dq0 (p := fun a b => decode cX2_of a = .ok b) dm_cX2_of_0 23 rfl
theorem dX2_of_78 : decode cX2_of 78 = .ok (.lload_n 2, 1) := dq0 (p := fun a b => decode cX2_of a = .ok b) dm_cX2_of_0 24 rfl
theorem dX2_of_79 : decode cX2_of 79 = .ok (.iload_n 1, 1) := dq0 (p := fun a b => decode cX2_of a = .ok b) dm_cX2_of_0 25 rfl
theorem dX2_of_80 : decode cX2_of 80 = .ok (.invokestatic 25, 3) := dq0 (p := fun a b => decode cX2_of a = .ok b) dm_cX2_of_0 26 rfl
theorem dX2_of_83 : decode cX2_of 83 = .ok (.lreturn, 1) := dq0 (p := fun a b => decode cX2_of a = .ok b) dm_cX2_of_0 27 rfl
theorem dX2_of_84 : decode cX2_of 84 = .ok (.lconst 0, 1) := dq0 (p := fun a b => decode cX2_of a = .ok b) dm_cX2_of_0 28 rfl
theorem dX2_of_85 : decode cX2_of 85 = .ok (.lreturn, 1) := dq0 (p := fun a b => decode cX2_of a = .ok b) dm_cX2_of_0 29 rfl
theorem dm_cX2_ofKing_0 : ([(0, .lload_n 0, 1), (1, .ldc2_w 29, 3), (4, .land, 1), (5, .iconst 1, 1), (6, .lushr, 1), (7, .lload_n 0, 1), (8, .ldc2_w 31, 3), (11, .land, 1), (12, .iconst 1, 1), (13, .lshl, 1), (14, .lor, 1), (15, .lstore_n 2, 1), (16, .lload_n 0, 1), (17, .lload_n 2, 1), (18, .lor, 1), (19, .lstore 4, 2), (21, .lload_n 2, 1), (22, .lload 4, 2), (24, .bipush 8, 2), (26, .lshl, 1), (27, .lor, 1), (28, .lload 4, 2), (30, .bipush 8, 2), (32, .lushr, 1), (33, .lor, 1), (34, .lreturn, 1)] : List (Nat × Instr × Nat)).all (fun t => decide (decode cX2_ofKing t.1 = .ok t.2)) = true := by decide +kernel
theorem dX2_ofKing_0 : decode cX2_ofKing 0 = .ok (.lload_n 0, 1) := dq0 (p := fun a b => decode cX2_ofKing a = .ok b) dm_cX2_ofKing_0 0 rfl
theorem dX2_ofKing_1 : decode cX2_ofKing 1 = .ok (.ldc2_w 29, 3) := dq0 (p := fun a b => decode cX2_ofKing a = .ok b) dm_cX2_ofKing_0 1 rfl
theorem dX2_ofKing_4 : decode cX2_ofKing 4 = .ok (.land, 1) := dq0 (p := fun a b => decode cX2_ofKing a = .ok b) dm_cX2_ofKing_0 2 rfl
theorem dX2_ofKing_5 : decode cX2_ofKing 5 = .ok (.iconst 1, 1) := dq0 (p := fun a b => decode cX2_ofKing a = .ok b) dm_cX2_ofKing_0 3 rfl
theorem dX2_ofKing_6 : decode cX2_ofKing 6 = .ok (.lushr, 1) := dq0 (p := fun a b => decode cX2_ofKing a = .ok b) dm_cX2_ofKing_0 4 rfl
theorem dX2_ofKing_7 : decode cX2_ofKing 7 = .ok (.lload_n 0, 1) := dq0 (p := fun a b => decode cX2_ofKing a = .ok b) dm_cX2_ofKing_0 5 rfl
theorem dX2_ofKing_8 : decode cX2_ofKing 8 = .ok (.ldc2_w 31, 3) := dq0 (p := fun a b => decode cX2_ofKing a = .ok b) dm_cX2_ofKing_0 6 rfl
theorem dX2_ofKing_11 : decode cX2_ofKing 11 = .ok (.land, 1) := dq0 (p := fun a b => decode cX2_ofKing a = .ok b) dm_cX2_ofKing_0 7 rfl
theorem dX2_ofKing_12 : decode cX2_ofKing 12 = .ok (.iconst 1, 1) := dq0 (p := fun a b => decode cX2_ofKing a = .ok b) dm_cX2_ofKing_0 8 rfl
theorem dX2_ofKing_13 : decode cX2_ofKing 13 = .ok (.lshl, 1) := dq0 (p := fun a b => decode cX2_ofKing a = .ok b) dm_cX2_ofKing_0 9 rfl
theorem dX2_ofKing_14 : decode cX2_ofKing 14 = .ok (.lor, 1) := dq0 (p := fun a b => decode cX2_ofKing a = .ok b) dm_cX2_ofKing_0 10 rfl
theorem dX2_ofKing_15 : decode cX2_ofKing 15 = .ok (.lstore_n 2, 1) := dq0 (p := fun a b => decode cX2_ofKing a = .ok b) dm_cX2_ofKing_0 11 rfl
theorem dX2_ofKing_16 : decode cX2_ofKing 16 = .ok (.lload_n 0, 1) := dq0 (p := fun a b => decode cX2_ofKing a = .ok b) dm_cX2_ofKing_0 12 rfl
theorem dX2_ofKing_17 : decode cX2_ofKing 17 = .ok (.lload_n 2, 1) := dq0 (p := fun a b => decode cX2_ofKing a = .ok b) dm_cX2_ofKing_0 13 rfl
theorem dX2_ofKing_18 : decode cX2_ofKing 18 = .ok (.lor, 1) := dq0 (p := fun a b => decode cX2_ofKing a = .ok b) dm_cX2_ofKing_0 14 rfl
theorem dX2_ofKing_19 : decode cX2_ofKing 19 = .ok (.lstore 4, 2) := dq0 (p := fun a b => decode cX2_ofKing a = .ok b) dm_cX2_ofKing_0 15 rfl
theorem dX2_ofKing_21 : decode cX2_ofKing 21 = .ok (.lload_n 2, 1) := dq0 (p := fun a b => decode cX2_ofKing a = .ok b) dm_cX2_ofKing_0 16 rfl
theorem dX2_ofKing_22 : decode cX2_ofKing 22 = .ok (.lload 4, 2) := dq0 (p := fun a b => decode cX2_ofKing a = .ok b) dm_cX2_ofKing_0 17 rfl
theorem dX2_ofKing_24 : decode cX2_ofKing 24 = .ok (.bipush 8, 2) := dq0 (p := fun a b => decode cX2_ofKing a = .ok b) dm_cX2_ofKing_0 18 rfl
theorem dX2_ofKing_26 : decode cX2_ofKing 26 = .ok (.lshl, 1) := dq0 (p := fun a b => decode cX2_ofKing a = .ok b) dm_cX2_ofKing_0 19 rfl
theorem dX2_ofKing_27 : decode cX2_ofKing 27 = .ok (.lor, 1) := dq0 (p := fun a b => decode cX2_ofKing a = .ok b) dm_cX2_ofKing_0 20 rfl
theorem dX2_ofKing_28 : decode cX2_ofKing 28 = .ok (.lload 4, 2) := dq0 (p := fun a b => decode cX2_ofKing a = .ok b) dm_cX2_ofKing_0 21 rfl
theorem dX2_ofKing_30 : decode cX2_ofKing 30 = .ok (.bipush 8, 2) := dq0 (p := fun a b => decode cX2_ofKing a = .ok b) dm_cX2_ofKing_0 22 rfl
theorem dX2_ofKing_32 : decode cX2_ofKing 32 = .ok (.lushr, 1) := dq0 (p := fun a b => decode cX2_ofKing a = .ok b) dm_cX2_ofKing_0 23 rfl
theorem dX2_ofKing_33 : decode cX2_ofKing 33 = .ok (.lor, 1) := dq0 (p := fun a b => decode cX2_ofKing a = .ok b) dm_cX2_ofKing_0 24 rfl
theorem dX2_ofKing_34 : decode cX2_ofKing 34 = .ok (.lreturn, 1) := dq0 (p := fun a b => decode cX2_ofKing a = .ok b) dm_cX2_ofKing_0 25 rfl
theorem dm_cX2_ofKnight_0 : ([(0, .lload_n 0, 1), (1, .ldc2_w 29, 3), (4, .land, 1), (5, .iconst 1, 1), (6, .lushr, 1), (7, .lload_n 0, 1), (8, .ldc2_w 31, 3), (11, .land, 1), (12, .iconst 1, 1), (13, .lshl, 1), (14, .lor, 1), (15, .lstore_n 2, 1), (16, .lload_n 0, 1), (17, .ldc2_w 33, 3), (20, .land, 1), (21, .iconst 2, 1), (22, .lushr, 1), (23, .lload_n 0, 1), (24, .ldc2_w 35, 3), (27, .land, 1), (28, .iconst 2, 1), (29, .lshl, 1), (30, .lor, 1), (31, .lstore 4, 2), (33, .lload_n 2, 1), (34, .bipush 16, 2), (36, .lshl, 1), (37, .lload_n 2, 1), (38, .bipush 16, 2), (40, .lushr, 1), (41, .lor, 1), (42, .lload 4, 2), (44, .bipush 8, 2), (46, .lshl, 1), (47, .lor, 1), (48, .lload 4, 2), (50, .bipush 8, 2), (52, .lushr, 1), (53, .lor, 1), (54, .lreturn, 1)] : List (Nat × Instr × Nat)).all (fun t => decide (decode cX2_ofKnight t.1 = .ok t.2)) = true := by decide +kernel
theorem dX2_ofKnight_0 : decode cX2_ofKnight 0 = .ok (.lload_n 0, 1) := dq0 (p := fun a b => decode cX2_ofKnight a = .ok b) dm_cX2_ofKnight_0 0 rfl
theorem dX2_ofKnight_1 : decode cX2_ofKnight 1 = .ok (.ldc2_w 29, 3) := dq0 (p := fun a b => decode cX2_ofKnight a = .ok b) dm_cX2_ofKnight_0 1 rfl
theorem dX2_ofKnight_4 : decode cX2_ofKnight 4 = .ok (.land, 1) := dq0 (p := fun a b => decode cX2_ofKnight a = .ok b) dm_cX2_ofKnight_0 2 rfl
theorem dX2_ofKnight_5 : decode cX2_ofKnight 5 = .ok (.iconst 1, 1) := dq0 (p := fun a b => decode cX2_ofKnight a = .ok b) dm_cX2_ofKnight_0 3 rfl
theorem dX2_ofKnight_6 : decode cX2_ofKnight 6 = .ok (.lushr, 1) := dq0 (p := fun a b => decode cX2_ofKnight a = .ok b) dm_cX2_ofKnight_0 4 rfl
theorem dX2_ofKnight_7 : decode cX2_ofKnight 7 = .ok (.lload_n 0, 1) := dq0 (p := fun a b => decode cX2_ofKnight a = .ok b) dm_cX2_ofKnight_0 5 rfl
theorem dX2_ofKnight_8 : decode cX2_ofKnight 8 = .ok (.ldc2_w 31, 3) := dq0 (p := fun a b => decode cX2_ofKnight a = .ok b) dm_cX2_ofKnight_0 6 rfl
theorem dX2_ofKnight_11 : decode cX2_ofKnight 11 = .ok (.land, 1) := dq0 (p := fun a b => decode cX2_ofKnight a = .ok b) dm_cX2_ofKnight_0 7 rfl
theorem dX2_ofKnight_12 : decode cX2_ofKnight 12 = .ok (.iconst 1, 1) := dq0 (p := fun a b => decode cX2_ofKnight a = .ok b) dm_cX2_ofKnight_0 8 rfl
theorem dX2_ofKnight_13 : decode cX2_ofKnight 13 = .ok (.lshl, 1) := dq0 (p := fun a b => decode cX2_ofKnight a = .ok b) dm_cX2_ofKnight_0 9 rfl
theorem dX2_ofKnight_14 : decode cX2_ofKnight 14 = .ok (.lor, 1) := dq0 (p := fun a b => decode cX2_ofKnight a = .ok b) dm_cX2_ofKnight_0 10 rfl
theorem dX2_ofKnight_15 : decode cX2_ofKnight 15 = .ok (.lstore_n 2, 1) := dq0 (p := fun a b => decode cX2_ofKnight a = .ok b) dm_cX2_ofKnight_0 11 rfl
theorem dX2_ofKnight_16 : decode cX2_ofKnight 16 = .ok (.lload_n 0, 1) := dq0 (p := fun a b => decode cX2_ofKnight a = .ok b) dm_cX2_ofKnight_0 12 rfl
theorem dX2_ofKnight_17 : decode cX2_ofKnight 17 = .ok (.ldc2_w 33, 3) := dq0 (p := fun a b => decode cX2_ofKnight a = .ok b) dm_cX2_ofKnight_0 13 rfl
theorem dX2_ofKnight_20 : decode cX2_ofKnight 20 = .ok (.land, 1) := dq0 (p := fun a b => decode cX2_ofKnight a = .ok b) dm_cX2_ofKnight_0 14 rfl
theorem dX2_ofKnight_21 : decode cX2_ofKnight 21 = .ok (.iconst 2, 1) := dq0 (p := fun a b => decode cX2_ofKnight a = .ok b) dm_cX2_ofKnight_0 15 rfl
theorem dX2_ofKnight_22 : decode cX2_ofKnight 22 = .ok (.lushr, 1) := dq0 (p := fun a b => decode cX2_ofKnight a = .ok b) dm_cX2_ofKnight_0 16 rfl
theorem dX2_ofKnight_23 : decode cX2_ofKnight 23 = .ok (.lload_n 0, 1) := dq0 (p := fun a b => decode cX2_ofKnight a = .ok b) dm_cX2_ofKnight_0 17 rfl
theorem dX2_ofKnight_24 : decode cX2_ofKnight 24 = .ok (.ldc2_w 35, 3) := dq0 (p := fun a b => decode cX2_ofKnight a = .ok b) dm_cX2_ofKnight_0 18 rfl
theorem dX2_ofKnight_27 : decode cX2_ofKnight 27 = .ok (.land, 1) := dq0 (p := fun a b => decode cX2_ofKnight a = .ok b) dm_cX2_ofKnight_0 19 rfl
theorem dX2_ofKnight_28 : decode cX2_ofKnight 28 = .ok (.iconst 2, 1) := dq0 (p := fun a b => decode cX2_ofKnight a = .ok b) dm_cX2_ofKnight_0 20 rfl
theorem dX2_ofKnight_29 : decode cX2_ofKnight 29 = .ok (.lshl, 1) := dq0 (p := fun a b => decode cX2_ofKnight a = .ok b) dm_cX2_ofKnight_0 21 rfl
theorem dX2_ofKnight_30 : decode cX2_ofKnight 30 = .ok (.lor, 1) := dq0 (p := fun a b => decode cX2_ofKnight a = .ok b) dm_cX2_ofKnight_0 22 rfl
theorem dX2_ofKnight_31 : decode cX2_ofKnight 31 = .ok (.lstore 4, 2) := dq0 (p := fun a b => decode cX2_ofKnight a = .ok b) dm_cX2_ofKnight_0 23 rfl
theorem dX2_ofKnight_33 : decode cX2_ofKnight 33 = .ok (.lload_n 2, 1) := dq0 (p := fun a b => decode cX2_ofKnight a = .ok b) dm_cX2_ofKnight_0 24 rfl
theorem dX2_ofKnight_34 : decode cX2_ofKnight 34 = .ok (.bipush 16, 2) := dq0 (p := fun a b => decode cX2_ofKnight a = .ok b) dm_cX2_ofKnight_0 25 rfl
theorem dX2_ofKnight_36 : decode cX2_ofKnight 36 = .ok (.lshl, 1) := dq0 (p := fun a b => decode cX2_ofKnight a = .ok b) dm_cX2_ofKnight_0 26 rfl
theorem dX2_ofKnight_37 : decode cX2_ofKnight 37 = .ok (.lload_n 2, 1) := dq0 (p := fun a b => decode cX2_ofKnight a = .ok b) dm_cX2_ofKnight_0 27 rfl
theorem dX2_ofKnight_38 : decode cX2_ofKnight 38 = .ok (.bipush 16, 2) := dq0 (p := fun a b => decode cX2_ofKnight a = .ok b) dm_cX2_ofKnight_0 28 rfl
theorem dX2_ofKnight_40 : decode cX2_ofKnight 40 = .ok (.lushr, 1) := dq0 (p := fun a b => decode cX2_ofKnight a = .ok b) dm_cX2_ofKnight_0 29 rfl
theorem dX2_ofKnight_41 : decode cX2_ofKnight 41 = .ok (.lor, 1) := dq0 (p := fun a b => decode cX2_ofKnight a = .ok b) dm_cX2_ofKnight_0 30 rfl
theorem dX2_ofKnight_42 : decode cX2_ofKnight 42 = .ok (.lload 4, 2) := dq0 (p := fun a b => decode cX2_ofKnight a = .ok b) dm_cX2_ofKnight_0 31 rfl
theorem dX2_ofKnight_44 : decode cX2_ofKnight 44 = .ok (.bipush 8, 2) := dq0 (p := fun a b => decode cX2_ofKnight a = .ok b) dm_cX2_ofKnight_0 32 rfl
theorem dX2_ofKnight_46 : decode cX2_ofKnight 46 = .ok (.lshl, 1) := dq0 (p := fun a b => decode cX2_ofKnight a = .ok b) dm_cX2_ofKnight_0 33 rfl
theorem dX2_ofKnight_47 : decode cX2_ofKnight 47 = .ok (.lor, 1) := dq0 (p := fun a b => decode cX2_ofKnight a = .ok b) dm_cX2_ofKnight_0 34 rfl
theorem dX2_ofKnight_48 : decode cX2_ofKnight 48 = .ok (.lload 4, 2) := dq0 (p := fun a b => decode cX2_ofKnight a = .ok b) dm_cX2_ofKnight_0 35 rfl
theorem dX2_ofKnight_50 : decode cX2_ofKnight 50 = .ok (.bipush 8, 2) := dq0 (p := fun a b => decode cX2_ofKnight a = .ok b) dm_cX2_ofKnight_0 36 rfl
theorem dX2_ofKnight_52 : decode cX2_ofKnight 52 = .ok (.lushr, 1) := dq0 (p := fun a b => decode cX2_ofKnight a = .ok b) dm_cX2_ofKnight_0 37 rfl
theorem dX2_ofKnight_53 : decode cX2_ofKnight 53 = .ok (.lor, 1) := dq0 (p := fun a b => decode cX2_ofKnight a = .ok b) dm_cX2_ofKnight_0 38 rfl
theorem dX2_ofKnight_54 : decode cX2_ofKnight 54 = .ok (.lreturn, 1) := dq0 (p := fun a b => decode cX2_ofKnight a = .ok b) dm_cX2_ofKnight_0 39 rfl
theorem dm_cX2_ofPawn_0 : ([(0, .iload_n 2, 1), (1, .ifCond .eq 10, 3), (4, .lload_n 0, 1), (5, .bipush 8, 2), (7, .lshl, 1), (8, .goto 7, 3), (11, .lload_n 0, 1), (12, .bipush 8, 2), (14, .lushr, 1), (15, .lstore_n 3, 1), (16, .lload_n 3, 1), (17, .ldc2_w 29, 3), (20, .land, 1), (21, .iconst 1, 1), (22, .lushr, 1), (23, .lload_n 3, 1), (24, .ldc2_w 31, 3), (27, .land, 1), (28, .iconst 1, 1), (29, .lshl, 1), (30, .lor, 1), (31, .lreturn, 1)] : List (Nat × Instr × Nat)).all (fun t => decide (decode cX2_ofPawn t.1 = .ok t.2)) = true := by decide +kernel
theorem dX2_ofPawn_0 : decode cX2_ofPawn 0 = .ok (.iload_n 2, 1) := dq0 (p := fun a b => decode cX2_ofPawn a = .ok b) dm_cX2_ofPawn_0 0 rfl
theorem dX2_ofPawn_1 : decode cX2_ofPawn 1 = .ok (.ifCond .eq 10, 3) := dq0 (p := fun a b => decode cX2_ofPawn a = .ok b) dm_cX2_ofPawn_0 1 rfl
theorem dX2_ofPawn_4 : decode cX2_ofPawn 4 = .ok (.lload_n 0, 1) := dq0 (p := fun a b => decode cX2_ofPawn a = .ok b) dm_cX2_ofPawn_0 2 rfl
theorem dX2_ofPawn_5 : decode cX2_ofPawn 5 = .ok (.bipush 8, 2) := dq0 (p := fun a b => decode cX2_ofPawn a = .ok b) dm_cX2_ofPawn_0 3 rfl
theorem dX2_ofPawn_7 : decode cX2_ofPawn 7 = .ok (.lshl, 1) := dq0 (p := fun a b => decode cX2_ofPawn a = .ok b) dm_cX2_ofPawn_0 4 rfl
theorem dX2_ofPawn_8 : decode cX2_ofPawn 8 = .ok (.goto 7, 3) := dq0 (p := fun a b => decode cX2_ofPawn a = .ok b) dm_cX2_ofPawn_0 5 rfl
theorem dX2_ofPawn_11 : decode cX2_ofPawn 11 = .ok (.lload_n 0, 1) := dq0 (p := fun a b => decode cX2_ofPawn a = .ok b) dm_cX2_ofPawn_0 6 rfl
theorem dX2_ofPawn_12 : decode cX2_ofPawn 12 = .ok (.bipush 8, 2) := dq0 (p := fun a b => decode cX2_ofPawn a = .ok b) dm_cX2_ofPawn_0 7 rfl
theorem dX2_ofPawn_14 : decode cX2_ofPawn 14 = .ok (.lushr, 1) := dq0 (p := fun a b => decode cX2_ofPawn a = .ok b) dm_cX2_ofPawn_0 8 rfl
theorem dX2_ofPawn_15 : decode cX2_ofPawn 15 = .ok (.lstore_n 3, 1) := dq0 (p := fun a b => decode cX2_ofPawn a = .ok b) dm_cX2_ofPawn_0 9 rfl
theorem dX2_ofPawn_16 : decode cX2_ofPawn 16 = .ok (.lload_n 3, 1) := dq0 (p := fun a b => decode cX2_ofPawn a = .ok b) dm_cX2_ofPawn_0 10 rfl
theorem dX2_ofPawn_17 : decode cX2_ofPawn 17 = .ok (.ldc2_w 29, 3) := dq0 (p := fun a b => decode cX2_ofPawn a = .ok b) dm_cX2_ofPawn_0 11 rfl
theorem dX2_ofPawn_20 : decode cX2_ofPawn 20 = .ok (.land, 1) := dq0 (p := fun a b => decode cX2_ofPawn a = .ok b) dm_cX2_ofPawn_0 12 rfl
theorem dX2_ofPawn_21 : decode cX2_ofPawn 21 = .ok (.iconst 1, 1) := dq0 (p := fun a b => decode cX2_ofPawn a = .ok b) dm_cX2_ofPawn_0 13 rfl
theorem dX2_ofPawn_22 : decode cX2_ofPawn 22 = .ok (.lushr, 1) := dq0 (p := fun a b => decode cX2_ofPawn a = .ok b) dm_cX2_ofPawn_0 14 rfl
theorem dX2_ofPawn_23 : decode cX2_ofPawn 23 = .ok (.lload_n 3, 1) := dq0 (p := fun a b => decode cX2_ofPawn a = .ok b) dm_cX2_ofPawn_0 15 rfl
theorem dX2_ofPawn_24 : decode cX2_ofPawn 24 = .ok (.ldc2_w 31, 3) := dq0 (p := fun a b => decode cX2_ofPawn a = .ok b) dm_cX2_ofPawn_0 16 rfl
theorem dX2_ofPawn_27 : decode cX2_ofPawn 27 = .ok (.land, 1) := dq0 (p := fun a b => decode cX2_ofPawn a = .ok b) dm_cX2_ofPawn_0 17 rfl
theorem dX2_ofPawn_28 : decode cX2_ofPawn 28 = .ok (.iconst 1, 1) := dq0 (p := fun a b => decode cX2_ofPawn a = .ok b) dm_cX2_ofPawn_0 18 rfl
theorem dX2_ofPawn_29 : decode cX2_ofPawn 29 = .ok (.lshl, 1) := dq0 (p := fun a b => decode cX2_ofPawn a = .ok b) dm_cX2_ofPawn_0 19 rfl
theorem dX2_ofPawn_30 : decode cX2_ofPawn 30 = .ok (.lor, 1) := dq0 (p := fun a b => decode cX2_ofPawn a = .ok b) dm_cX2_ofPawn_0 20 rfl
theorem dX2_ofPawn_31 : decode cX2_ofPawn 31 = .ok (.lreturn, 1) := dq0 (p := fun a b => decode cX2_ofPawn a = .ok b) dm_cX2_ofPawn_0 21 rfl
theorem dm_cX2_ofRook_0 : ([(0, .lload_n 2, 1), (1, .ldc2_w 37, 3), (4, .lxor, 1), (5, .lstore 4, 2), (7, .lload_n 0, 1), (8, .lstore 6, 2), (10, .lload_n 0, 1), (11, .lstore 8, 2), (13, .lload_n 0, 1), (14, .lstore 10, 2), (16, .lload_n 0, 1), (17, .lstore 12, 2), (19, .lconst 0, 1), (20, .lstore 14, 2), (22, .iconst 1, 1), (23, .istore 16, 2), (25, .iload 16, 2), (27, .bipush 8, 2), (29, .if_icmp .ge 103, 3), (32, .lload 6, 2), (34, .lload 8, 2), (36, .lor, 1), (37, .lload 10, 2), (39, .lor, 1), (40, .lload 12, 2), (42, .lor, 1), (43, .lconst 0, 1), (44, .lcmp, 1), (45, .ifCond .eq 87, 3), (48, .lload 6, 2), (50, .bipush 8, 2), (52, .lshl, 1), (53, .lstore 6, 2), (55, .lload 8, 2), (57, .bipush 8, 2), (59, .lushr, 1), (60, .lstore 8, 2), (62, .lload 10, 2), (64, .ldc2_w 29, 3), (67, .land, 1), (68, .iconst 1, 1), (69, .lushr, 1), (70, .lstore 10, 2), (72, .lload 12, 2), (74, .ldc2_w 31, 3), (77, .land, 1), (78, .iconst 1, 1), (79, .lshl, 1), (80, .lstore 12, 2), (82, .lload 14, 2), (84, .lload 6, 2), (86, .lload 8, 2), (88, .lor, 1), (89, .lload 10, 2), (91, .lor, 1), (92, .lload 12, 2), (94, .lor, 1), (95, .lor, 1), (96, .lstore 14, 2), (98, .lload 6, 2)] : List (Nat × Instr × Nat)).all (fun t => decide (decode cX2_ofRook t.1 = .ok t.2)) = true := by decide +kernel
theorem dX2_ofRook_0 : decode cX2_ofRook 0 = .ok (.lload_n 2, 1) := dq0 (p := fun a b => decode cX2_ofRook a = .ok b) dm_cX2_ofRook_0 0 rfl
theorem dX2_ofRook_1 : decode cX2_ofRook 1 = .ok (.ldc2_w 37, 3) := dq0 (p := fun a b => decode cX2_ofRook a = .ok b) dm_cX2_ofRook_0 1 rfl
theorem dX2_ofRook_4 : decode cX2_ofRook 4 = .ok (.lxor, 1) := dq0 (p := fun a b => decode cX2_ofRook a = .ok b) dm_cX2_ofRook_0 2 rfl
theorem dX2_ofRook_5 : decode cX2_ofRook 5 = .ok (.lstore 4, 2) := dq0 (p := fun a b => decode cX2_ofRook a = .ok b) dm_cX2_ofRook_0 3 rfl
theorem dX2_ofRook_7 : decode cX2_ofRook 7 = .ok (.lload_n 0, 1) := dq0 (p := fun a b => decode cX2_ofRook a = .ok b) dm_cX2_ofRook_0 4 rfl
theorem dX2_ofRook_8 : decode cX2_ofRook 8 = .ok (.lstore 6, 2) := dq0 (p := fun a b => decode cX2_ofRook a = .ok b) dm_cX2_ofRook_0 5 rfl
theorem dX2_ofRook_10 : decode cX2_ofRook 10 = .ok (.lload_n 0, 1) := dq0 (p := fun a b => decode cX2_ofRook a = .ok b) dm_cX2_ofRook_0 6 rfl
theorem dX2_ofRook_11 : decode cX2_ofRook 11 = .ok (.lstore 8, 2) := dq0 (p := fun a b => decode cX2_ofRook a = .ok b) dm_cX2_ofRook_0 7 rfl
theorem dX2_ofRook_13 : decode cX2_ofRook 13 = .ok (.lload_n 0, 1) := dq0 (p := fun a b => decode cX2_ofRook a = .ok b) dm_cX2_ofRook_0 8 rfl
theorem dX2_ofRook_14 : decode cX2_ofRook 14 = .ok (.lstore 10, 2) := dq0 (p := fun a b => decode cX2_ofRook a = .ok b) dm_cX2_ofRook_0 9 rfl
theorem dX2_ofRook_16 : decode cX2_ofRook 16 = .ok (.lload_n 0, 1) := dq0 (p := fun a b => decode cX2_ofRook a = .ok b) dm_cX2_ofRook_0 10 rfl
theorem dX2_ofRook_17 : decode cX2_ofRook 17 = .ok (.lstore 12, 2) := dq0 (p := fun a b => decode cX2_ofRook a = .ok b) dm_cX2_ofRook_0 11 rfl
theorem dX2_ofRook_19 : decode cX2_ofRook 19 = .ok (.lconst 0, 1) := dq0 (p := fun a b => decode cX2_ofRook a = .ok b) dm_cX2_ofRook_0 12 rfl
theorem dX2_ofRook_20 : decode cX2_ofRook 20 = .ok (.lstore 14, 2) := dq0 (p := fun a b => decode cX2_ofRook a = .ok b) dm_cX2_ofRook_0 13 rfl
theorem dX2_ofRook_22 : decode cX2_ofRook 22 = .ok (.iconst 1, 1) := dq0 (p := fun a b => decode cX2_ofRook a = .ok b) dm_cX2_ofRook_0 14 rfl
theorem dX2_ofRook_23 : decode cX2_ofRook 23 = .ok (.istore 16, 2) := dq0 (p := fun a b => decode cX2_ofRook a = .ok b) dm_cX2_ofRook_0 15 rfl
theorem dX2_ofRook_25 : decode cX2_ofRook 25 = .ok (.iload 16, 2) := dq0 (p := fun a b => decode cX2_ofRook a = .ok b) dm_cX2_ofRook_0 16 rfl
theorem dX2_ofRook_27 : decode cX2_ofRook 27 = .ok (.bipush 8, 2) := dq0 (p := fun a b => decode cX2_ofRook a = .ok b) dm_cX2_ofRook_0 17 rfl
theorem dX2_ofRook_29 : decode cX2_ofRook 29 = .ok (.if_icmp .ge 103, 3) := dq0 (p := fun a b => decode cX2_ofRook a = .ok b) dm_cX2_ofRook_0 18 rfl
theorem dX2_ofRook_32 : decode cX2_ofRook 32 = .ok (.lload 6, 2) := dq0 (p := fun a b => decode cX2_ofRook a = .ok b) dm_cX2_ofRook_0 19 rfl
theorem dX2_ofRook_34 : decode cX2_ofRook 34 = .ok (.lload 8, 2) := dq0 (p := fun a b => decode cX2_ofRook a = .ok b) dm_cX2_ofRook_0 20 rfl
theorem dX2_ofRook_36 : decode cX2_ofRook 36 = .ok (.lor, 1) := dq0 (p := fun a b => decode cX2_ofRook a = .ok b) dm_cX2_ofRook_0 21 rfl
theorem dX2_ofRook_37 : decode cX2_ofRook 37 = .ok (.lload 10, 2) := dq0 (p := fun a b => decode cX2_ofRook a = .ok b) dm_cX2_ofRook_0 22 rfl
theorem dX2_ofRook_39 : decode cX2_ofRook 39 = .ok (.lor, 1) := dq0 (p := fun a b => decode cX2_ofRook a = .ok b) dm_cX2_ofRook_0 23 rfl
theorem dX2_ofRook_40 : decode cX2_ofRook 40 = .ok (.lload 12, 2) := dq0 (p := fun a b => decode cX2_ofRook a = .ok b) dm_cX2_ofRook_0 24 rfl
theorem dX2_ofRook_42 : decode cX2_ofRook 42 = .ok (.lor, 1) := dq0 (p := fun a b => decode cX2_ofRook a = .ok b) dm_cX2_ofRook_0 25 rfl
theorem dX2_ofRook_43 : decode cX2_ofRook 43 = .ok (.lconst 0, 1) := dq0 (p := fun a b => decode cX2_ofRook a = .ok b) dm_cX2_ofRook_0 26 rfl
theorem dX2_ofRook_44 : decode cX2_ofRook 44 = .ok (.lcmp, 1) := dq0 (p := fun a b => decode cX2_ofRook a = .ok b) dm_cX2_ofRook_0 27 rfl
theorem dX2_ofRook_45 : decode cX2_ofRook 45 = .ok (.ifCond .eq 87, 3) := dq0 (p := fun a b => decode cX2_ofRook a = .ok b) dm_cX2_ofRook_0 28 rfl
theorem dX2_ofRook_48 : decode cX2_ofRook 48 = .ok (.lload 6, 2) := dq0 (p := fun a b => decode cX2_ofRook a = .ok b) dm_cX2_ofRook_0 29 rfl
theorem dX2_ofRook_50 : decode cX2_ofRook 50 = .ok (.bipush 8, 2) := dq0 (p := fun a b => decode cX2_ofRook a = .ok b) dm_cX2_ofRook_0 30 rfl
theorem dX2_ofRook_52 : decode cX2_ofRook 52 = .ok (.lshl, 1) := dq0 (p := fun a b => decode cX2_ofRook a = .ok b) dm_cX2_ofRook_0 31 rfl
theorem dX2_ofRook_53 : decode cX2_ofRook 53 = .ok (.lstore 6, 2) := dq0 (p := fun a b => decode cX2_ofRook a = .ok b) dm_cX2_ofRook_0 32 rfl
theorem dX2_ofRook_55 : decode cX2_ofRook 55 = .ok (.lload 8, 2) := dq0 (p := fun a b => decode cX2_ofRook a = .ok b) dm_cX2_ofRook_0 33 rfl
theorem dX2_ofRook_57 : decode cX2_ofRook 57 = .ok (.bipush 8, 2) := dq0 (p := fun a b => decode cX2_ofRook a = .ok b) dm_cX2_ofRook_0 34 rfl
theorem dX2_ofRook_59 : decode cX2_ofRook 59 = .ok (.lushr, 1) := dq0 (p := fun a b => decode cX2_ofRook a = .ok b) dm_cX2_ofRook_0 35 rfl
theorem dX2_ofRook_60 : decode cX2_ofRook 60 = .ok (.lstore 8, 2) := dq0 (p := fun a b => decode cX2_ofRook a = .ok b) dm_cX2_ofRook_0 36 rfl
theorem dX2_ofRook_62 : decode cX2_ofRook 62 = .ok (.lload 10, 2) := dq0 (p := fun a b => decode cX2_ofRook a = .ok b) dm_cX2_ofRook_0 37 rfl
theorem dX2_ofRook_64 : decode cX2_ofRook 64 = .ok (.ldc2_w 29, 3) := dq0 (p := fun a b => decode cX2_ofRook a = .ok b) dm_cX2_ofRook_0 38 rfl
theorem dX2_ofRook_67 : decode cX2_ofRook 67 = .ok (.land, 1) := dq0 (p := fun a b => decode cX2_ofRook a = .ok b) dm_cX2_ofRook_0 39 rfl
theorem dX2_ofRook_68 : decode cX2_ofRook 68 = .ok (.iconst 1, 1) := dq0 (p := fun a b => decode cX2_ofRook a = .ok b) dm_cX2_ofRook_0 40 rfl
theorem dX2_ofRook_69 : decode cX2_ofRook 69 = .ok (.lushr, 1) := dq0 (p := fun a b => decode cX2_ofRook a = .ok b) dm_cX2_ofRook_0 41 rfl
theorem dX2_ofRook_70 : decode cX2_ofRook 70 = .ok (.lstore 10, 2) := dq0 (p := fun a b => decode cX2_ofRook a = .ok b) dm_cX2_ofRook_0 42 rfl
theorem dX2_ofRook_72 : decode cX2_ofRook 72 = .ok (.lload 12, 2) := dq0 (p := fun a b => decode cX2_ofRook a = .ok b) dm_cX2_ofRook_0 43 rfl
theorem dX2_ofRook_74 : decode cX2_ofRook 74 = .ok (.ldc2_w 31, 3) := dq0 (p := fun a b => decode cX2_ofRook a = .ok b) dm_cX2_ofRook_0 44 rfl
theorem dX2_ofRook_77 : decode cX2_ofRook 77 = .ok (.land, 1) := dq0 (p := fun a b => decode cX2_ofRook a = .ok b) dm_cX2_ofRook_0 45 rfl
theorem dX2_ofRook_78 : decode cX2_ofRook 78 = .ok (.iconst 1, 1) := dq0 (p := fun a b => decode cX2_ofRook a = .ok b) dm_cX2_ofRook_0 46 rfl
theorem dX2_ofRook_79 : decode cX2_ofRook 79 = .ok (.lshl, 1) := dq0 (p := fun a b => decode cX2_ofRook a = .ok b) dm_cX2_ofRook_0 47 rfl
theorem dX2_ofRook_80 : decode cX2_ofRook 80 = .ok (.lstore 12, 2) := dq0 (p := fun a b => decode cX2_ofRook a = .ok b) dm_cX2_ofRook_0 48 rfl
theorem dX2_ofRook_82 : decode cX2_ofRook 82 = .ok (.lload 14, 2) := dq0 (p := fun a b => decode cX2_ofRook a = .ok b) dm_cX2_ofRook_0 49 rfl
theorem dX2_ofRook_84 : decode cX2_ofRook 84 = .ok (.lload 6, 2) := dq0 (p := fun a b => decode cX2_ofRook a = .ok b) dm_cX2_ofRook_0 50 rfl
theorem dX2_ofRook_86 : decode cX2_ofRook 86 = .ok (.lload 8, 2) := dq0 (p := fun a b => decode cX2_ofRook a = .ok b) dm_cX2_ofRook_0 51 rfl
theorem dX2_ofRook_88 : decode cX2_ofRook 88 = .ok (.lor, 1) := dq0 (p := fun a b => decode cX2_ofRook a = .ok b) dm_cX2_ofRook_0 52 rfl
theorem dX2_ofRook_89 : decode cX2_ofRook 89 = .ok (.lload 10, 2) := dq0 (p := fun a b => decode cX2_ofRook a = .ok b) dm_cX2_ofRook_0 53 rfl
theorem dX2_ofRook_91 : decode cX2_ofRook 91 = .ok (.lor, 1) := dq0 (p := fun a b => decode cX2_ofRook a = .ok b) dm_cX2_ofRook_0 54 rfl
theorem dX2_ofRook_92 : decode cX2_ofRook 92 = .ok (.lload 12, 2) := dq0 (p := fun a b => decode cX2_ofRook a = .ok b) dm_cX2_ofRook_0 55 rfl
theorem dX2_ofRook_94 : decode cX2_ofRook 94 = .ok (.lor, 1) := dq0 (p := fun a b => decode cX2_ofRook a = .ok b) dm_cX2_ofRook_0 56 rfl
theorem dX2_ofRook_95 : decode cX2_ofRook 95 = .ok (.lor, 1) := dq0 (p := fun a b => decode cX2_ofRook a = .ok b) dm_cX2_ofRook_0 57 rfl
theorem dX2_ofRook_96 : decode cX2_ofRook 96 = .ok (.lstore 14, 2) := dq0 (p := fun a b => decode cX2_ofRook a = .ok b) dm_cX2_ofRook_0 58 rfl
theorem dX2_ofRook_98 : decode cX2_ofRook 98 = .ok (.lload 6, 2) := dq0 (p := fun a b => decode cX2_ofRook a = .ok b) dm_cX2_ofRook_0 59 rfl
theorem dm_cX2_ofRook_1 : ([(100, .lload 4, 2), (102, .land, 1), (103, .lstore 6, 2), (105, .lload 8, 2), (107, .lload 4, 2), (109, .land, 1), (110, .lstore 8, 2), (112, .lload 10, 2), (114, .lload 4, 2), (116, .land, 1), (117, .lstore 10, 2), (119, .lload 12, 2), (121, .lload 4, 2), (123, .land, 1), (124, .lstore 12, 2), (126, .iinc 16 1, 3), (129, .goto (-104), 3), (132, .lload 14, 2), (134, .lreturn, 1)] : List (Nat × Instr × Nat)).all (fun t => decide (decode cX2_ofRook t.1 = .ok t.2)) = true := by decide +kernel
theorem dX2_ofRook_100 : decode cX2_ofRook 100 = .ok (.lload 4, 2) := dq0 (p := fun a b => decode cX2_ofRook a = .ok b) dm_cX2_ofRook_1 0 rfl
theorem dX2_ofRook_102 : decode cX2_ofRook 102 = .ok (.land, 1) := dq0 (p := fun a b => decode cX2_ofRook a = .ok b) dm_cX2_ofRook_1 1 rfl
theorem dX2_ofRook_103 : decode cX2_ofRook 103 = .ok (.lstore 6, 2) := dq0 (p := fun a b => decode cX2_ofRook a = .ok b) dm_cX2_ofRook_1 2 rfl
theorem dX2_ofRook_105 : decode cX2_ofRook 105 = .ok (.lload 8, 2) := dq0 (p := fun a b => decode cX2_ofRook a = .ok b) dm_cX2_ofRook_1 3 rfl
theorem dX2_ofRook_107 : decode cX2_ofRook 107 = .ok (.lload 4, 2) := dq0 (p := fun a b => decode cX2_ofRook a = .ok b) dm_cX2_ofRook_1 4 rfl
theorem dX2_ofRook_109 : decode cX2_ofRook 109 = .ok (.land, 1) := dq0 (p := fun a b => decode cX2_ofRook a = .ok b) dm_cX2_ofRook_1 5 rfl
theorem dX2_ofRook_110 : decode cX2_ofRook 110 = .ok (.lstore 8, 2) := dq0 (p := fun a b => decode cX2_ofRook a = .ok b) dm_cX2_ofRook_1 6 rfl
theorem dX2_ofRook_112 : decode cX2_ofRook 112 = .ok (.lload 10, 2) := dq0 (p := fun a b => decode cX2_ofRook a = .ok b) dm_cX2_ofRook_1 7 rfl
theorem dX2_ofRook_114 : decode cX2_ofRook 114 = .ok (.lload 4, 2) := dq0 (p := fun a b => decode cX2_ofRook a = .ok b) dm_cX2_ofRook_1 8 rfl
theorem dX2_ofRook_116 : decode cX2_ofRook 116 = .ok (.land, 1) := dq0 (p := fun a b => decode cX2_ofRook a = .ok b) dm_cX2_ofRook_1 9 rfl
theorem dX2_ofRook_117 : decode cX2_ofRook 117 = .ok (.lstore 10, 2) := dq0 (p := fun a b => decode cX2_ofRook a = .ok b) dm_cX2_ofRook_1 10 rfl
theorem dX2_ofRook_119 : decode cX2_ofRook 119 = .ok (.lload 12, 2) := dq0 (p := fun a b => decode cX2_ofRook a = .ok b) dm_cX2_ofRook_1 11 rfl
theorem dX2_ofRook_121 : decode cX2_ofRook 121 = .ok (.lload 4, 2) := dq0 (p := fun a b => decode cX2_ofRook a = .ok b) dm_cX2_ofRook_1 12 rfl
theorem dX2_ofRook_123 : decode cX2_ofRook 123 = .ok (.land, 1) := dq0 (p := fun a b => decode cX2_ofRook a = .ok b) dm_cX2_ofRook_1 13 rfl
theorem dX2_ofRook_124 : decode cX2_ofRook 124 = .ok (.lstore 12, 2) := dq0 (p := fun a b => decode cX2_ofRook a = .ok b) dm_cX2_ofRook_1 14 rfl
theorem dX2_ofRook_126 : decode cX2_ofRook 126 = .ok (.iinc 16 1, 3) := dq0 (p := fun a b => decode cX2_ofRook a = .ok b) dm_cX2_ofRook_1 15 rfl
theorem dX2_ofRook_129 : decode cX2_ofRook 129 = .ok (.goto (-104), 3) := dq0 (p := fun a b => decode cX2_ofRook a = .ok b) dm_cX2_ofRook_1 16 rfl
theorem dX2_ofRook_132 : decode cX2_ofRook 132 = .ok (.lload 14, 2) := dq0 (p := fun a b => decode cX2_ofRook a = .ok b) dm_cX2_ofRook_1 17 rfl
theorem dX2_ofRook_134 : decode cX2_ofRook 134 = .ok (.lreturn, 1) := dq0 (p := fun a b => decode cX2_ofRook a = .ok b) dm_cX2_ofRook_1 18 rfl
theorem dm_cX2_ofBishop_0 : ([(0, .lload_n 2, 1), (1, .ldc2_w 37, 3), (4, .lxor, 1), (5, .lstore 4, 2), (7, .lload_n 0, 1), (8, .lstore 6, 2), (10, .lload_n 0, 1), (11, .lstore 8, 2), (13, .lload_n 0, 1), (14, .lstore 10, 2), (16, .lload_n 0, 1), (17, .lstore 12, 2), (19, .lconst 0, 1), (20, .lstore 14, 2), (22, .iconst 1, 1), (23, .istore 16, 2), (25, .iload 16, 2), (27, .bipush 8, 2), (29, .if_icmp .ge 113, 3), (32, .lload 6, 2), (34, .lload 8, 2), (36, .lor, 1), (37, .lload 10, 2), (39, .lor, 1), (40, .lload 12, 2), (42, .lor, 1), (43, .lconst 0, 1), (44, .lcmp, 1), (45, .ifCond .eq 97, 3), (48, .lload 6, 2), (50, .ldc2_w 29, 3), (53, .land, 1), (54, .bipush 7, 2), (56, .lshl, 1), (57, .lstore 6, 2), (59, .lload 8, 2), (61, .ldc2_w 31, 3), (64, .land, 1), (65, .bipush 9, 2), (67, .lshl, 1), (68, .lstore 8, 2), (70, .lload 10, 2), (72, .ldc2_w 29, 3), (75, .land, 1), (76, .bipush 9, 2), (78, .lushr, 1), (79, .lstore 10, 2), (81, .lload 12, 2), (83, .ldc2_w 31, 3), (86, .land, 1), (87, .bipush 7, 2), (89, .lushr, 1), (90, .lstore 12, 2), (92, .lload 14, 2), (94, .lload 6, 2), (96, .lload 8, 2), (98, .lor, 1), (99, .lload 10, 2), (101, .lor, 1), (102, .lload 12, 2)] : List (Nat × Instr × Nat)).all (fun t => decide (decode cX2_ofBishop t.1 = .ok t.2)) = true := by decide +kernel
theorem dX2_ofBishop_0 : decode cX2_ofBishop 0 = .ok (.lload_n 2, 1) := dq0 (p := fun a b => decode cX2_ofBishop a = .ok b) dm_cX2_ofBishop_0 0 rfl
theorem dX2_ofBishop_1 : decode cX2_ofBishop 1 = .ok (.ldc2_w 37, 3) := dq0 (p := fun a b => decode cX2_ofBishop a = .ok b) dm_cX2_ofBishop_0 1 rfl
theorem dX2_ofBishop_4 : decode cX2_ofBishop 4 = .ok (.lxor, 1) := dq0 (p := fun a b => decode cX2_ofBishop a = .ok b) dm_cX2_ofBishop_0 2 rfl
theorem dX2_ofBishop_5 : decode cX2_ofBishop 5 = .ok (.lstore 4, 2) := dq0 (p := fun a b => decode cX2_ofBishop a = .ok b) dm_cX2_ofBishop_0 3 rfl
theorem dX2_ofBishop_7 : decode cX2_ofBishop 7 = .ok (.lload_n 0, 1) := dq0 (p := fun a b => decode cX2_ofBishop a = .ok b) dm_cX2_ofBishop_0 4 rfl
theorem dX2_ofBishop_8 : decode cX2_ofBishop 8 = .ok (.lstore 6, 2) := dq0 (p := fun a b => decode cX2_ofBishop a = .ok b) dm_cX2_ofBishop_0 5 rfl
theorem dX2_ofBishop_10 : decode cX2_ofBishop 10 = .ok (.lload_n 0, 1) := dq0 (p := fun a b => decode cX2_ofBishop a = .ok b) dm_cX2_ofBishop_0 6 rfl
theorem dX2_ofBishop_11 : decode cX2_ofBishop 11 = .ok (.lstore 8, 2) := dq0 (p := fun a b => decode cX2_ofBishop a = .ok b) dm_cX2_ofBishop_0 7 rfl
theorem dX2_ofBishop_13 : decode cX2_ofBishop 13 = .ok (.lload_n 0, 1) := dq0 (p := fun a b => decode cX2_ofBishop a = .ok b) dm_cX2_ofBishop_0 8 rfl
theorem dX2_ofBishop_14 : decode cX2_ofBishop 14 = .ok (.lstore 10, 2) := dq0 (p := fun a b => decode cX2_ofBishop a = .ok b) dm_cX2_ofBishop_0 9 rfl
theorem dX2_ofBishop_16 : decode cX2_ofBishop 16 = .ok (.lload_n 0, 1) := dq0 (p := fun a b => decode cX2_ofBishop a = .ok b) dm_cX2_ofBishop_0 10 rfl
theorem dX2_ofBishop_17 : decode cX2_ofBishop 17 = .ok (.lstore 12, 2) := dq0 (p := fun a b => decode cX2_ofBishop a = .ok b) dm_cX2_ofBishop_0 11 rfl
theorem dX2_ofBishop_19 : decode cX2_ofBishop 19 = .ok (.lconst 0, 1) := dq0 (p := fun a b => decode cX2_ofBishop a = .ok b) dm_cX2_ofBishop_0 12 rfl
theorem dX2_ofBishop_20 : decode cX2_ofBishop 20 = .ok (.lstore 14, 2) := dq0 (p := fun a b => decode cX2_ofBishop a = .ok b) dm_cX2_ofBishop_0 13 rfl
theorem dX2_ofBishop_22 : decode cX2_ofBishop 22 = .ok (.iconst 1, 1) := dq0 (p := fun a b => decode cX2_ofBishop a = .ok b) dm_cX2_ofBishop_0 14 rfl
theorem dX2_ofBishop_23 : decode cX2_ofBishop 23 = .ok (.istore 16, 2) := dq0 (p := fun a b => decode cX2_ofBishop a = .ok b) dm_cX2_ofBishop_0 15 rfl
theorem dX2_ofBishop_25 : decode cX2_ofBishop 25 = .ok (.iload 16, 2) := dq0 (p := fun a b => decode cX2_ofBishop a = .ok b) dm_cX2_ofBishop_0 16 rfl
theorem dX2_ofBishop_27 : decode cX2_ofBishop 27 = .ok (.bipush 8, 2) := dq0 (p := fun a b => decode cX2_ofBishop a = .ok b) dm_cX2_ofBishop_0 17 rfl
theorem dX2_ofBishop_29 : decode cX2_ofBishop 29 = .ok (.if_icmp .ge 113, 3) := dq0 (p := fun a b => decode cX2_ofBishop a = .ok b) dm_cX2_ofBishop_0 18 rfl
theorem dX2_ofBishop_32 : decode cX2_ofBishop 32 = .ok (.lload 6, 2) := dq0 (p := fun a b => decode cX2_ofBishop a = .ok b) dm_cX2_ofBishop_0 19 rfl
theorem dX2_ofBishop_34 : decode cX2_ofBishop 34 = .ok (.lload 8, 2) := dq0 (p := fun a b => decode cX2_ofBishop a = .ok b) dm_cX2_ofBishop_0 20 rfl
theorem dX2_ofBishop_36 : decode cX2_ofBishop 36 = .ok (.lor, 1) := dq0 (p := fun a b => decode cX2_ofBishop a = .ok b) dm_cX2_ofBishop_0 21 rfl
theorem dX2_ofBishop_37 : decode cX2_ofBishop 37 = .ok (.lload 10, 2) := dq0 (p := fun a b => decode cX2_ofBishop a = .ok b) dm_cX2_ofBishop_0 22 rfl
theorem dX2_ofBishop_39 : decode cX2_ofBishop 39 = .ok (.lor, 1) := dq0 (p := fun a b => decode cX2_ofBishop a = .ok b) dm_cX2_ofBishop_0 23 rfl
theorem dX2_ofBishop_40 : decode cX2_ofBishop 40 = .ok (.lload 12, 2) := dq0 (p := fun a b => decode cX2_ofBishop a = .ok b) dm_cX2_ofBishop_0 24 rfl
theorem dX2_ofBishop_42 : decode cX2_ofBishop 42 = .ok (.lor, 1) := dq0 (p := fun a b => decode cX2_ofBishop a = .ok b) dm_cX2_ofBishop_0 25 rfl
theorem dX2_ofBishop_43 : decode cX2_ofBishop 43 = .ok (.lconst 0, 1) := dq0 (p := fun a b => decode cX2_ofBishop a = .ok b) dm_cX2_ofBishop_0 26 rfl
theorem dX2_ofBishop_44 : decode cX2_ofBishop 44 = .ok (.lcmp, 1) := dq0 (p := fun a b => decode cX2_ofBishop a = .ok b) dm_cX2_ofBishop_0 27 rfl
theorem dX2_ofBishop_45 : decode cX2_ofBishop 45 = .ok (.ifCond .eq 97, 3) := dq0 (p := fun a b => decode cX2_ofBishop a = .ok b) dm_cX2_ofBishop_0 28 rfl
theorem dX2_ofBishop_48 : decode cX2_ofBishop 48 = .ok (.lload 6, 2) := dq0 (p := fun a b => decode cX2_ofBishop a = .ok b) dm_cX2_ofBishop_0 29 rfl
theorem dX2_ofBishop_50 : decode cX2_ofBishop 50 = .ok (.ldc2_w 29, 3) := dq0 (p := fun a b => decode cX2_ofBishop a = .ok b) dm_cX2_ofBishop_0 30 rfl
theorem dX2_ofBishop_53 : decode cX2_ofBishop 53 = .ok (.land, 1) := dq0 (p := fun a b => decode cX2_ofBishop a = .ok b) dm_cX2_ofBishop_0 31 rfl
theorem dX2_ofBishop_54 : decode cX2_ofBishop 54 = .ok (.bipush 7, 2) := dq0 (p := fun a b => decode cX2_ofBishop a = .ok b) dm_cX2_ofBishop_0 32 rfl
theorem dX2_ofBishop_56 : decode cX2_ofBishop 56 = .ok (.lshl, 1) := dq0 (p := fun a b => decode cX2_ofBishop a = .ok b) dm_cX2_ofBishop_0 33 rfl
theorem dX2_ofBishop_57 : decode cX2_ofBishop 57 = .ok (.lstore 6, 2) := dq0 (p := fun a b => decode cX2_ofBishop a = .ok b) dm_cX2_ofBishop_0 34 rfl
theorem dX2_ofBishop_59 : decode cX2_ofBishop 59 = .ok (.lload 8, 2) := dq0 (p := fun a b => decode cX2_ofBishop a = .ok b) dm_cX2_ofBishop_0 35 rfl
theorem dX2_ofBishop_61 : decode cX2_ofBishop 61 = .ok (.ldc2_w 31, 3) := dq0 (p := fun a b => decode cX2_ofBishop a = .ok b) dm_cX2_ofBishop_0 36 rfl
theorem dX2_ofBishop_64 : decode cX2_ofBishop 64 = .ok (.land, 1) := dq0 (p := fun a b => decode cX2_ofBishop a = .ok b) dm_cX2_ofBishop_0 37 rfl
theorem dX2_ofBishop_65 : decode cX2_ofBishop 65 = .ok (.bipush 9, 2) := dq0 (p := fun a b => decode cX2_ofBishop a = .ok b) dm_cX2_ofBishop_0 38 rfl
theorem dX2_ofBishop_67 : decode cX2_ofBishop 67 = .ok (.lshl, 1) := dq0 (p := fun a b => decode cX2_ofBishop a = .ok b) dm_cX2_ofBishop_0 39 rfl
theorem dX2_ofBishop_68 : decode cX2_ofBishop 68 = .ok (.lstore 8, 2) := dq0 (p := fun a b => decode cX2_ofBishop a = .ok b) dm_cX2_ofBishop_0 40 rfl
theorem dX2_ofBishop_70 : decode cX2_ofBishop 70 = .ok (.lload 10, 2) := dq0 (p := fun a b => decode cX2_ofBishop a = .ok b) dm_cX2_ofBishop_0 41 rfl
theorem dX2_ofBishop_72 : decode cX2_ofBishop 72 = .ok (.ldc2_w 29, 3) := dq0 (p := fun a b => decode cX2_ofBishop a = .ok b) dm_cX2_ofBishop_0 42 rfl
theorem dX2_ofBishop_75 : decode cX2_ofBishop 75 = .ok (.land, 1) := dq0 (p := fun a b => decode cX2_ofBishop a = .ok b) dm_cX2_ofBishop_0 43 rfl
theorem dX2_ofBishop_76 : decode cX2_ofBishop 76 = .ok (.bipush 9, 2) := dq0 (p := fun a b => decode cX2_ofBishop a = .ok b) dm_cX2_ofBishop_0 44 rfl
theorem dX2_ofBishop_78 : decode cX2_ofBishop 78 = .ok (.lushr, 1) := dq0 (p := fun a b => decode cX2_ofBishop a = .ok b) dm_cX2_ofBishop_0 45 rfl
theorem dX2_ofBishop_79 : decode cX2_ofBishop 79 = .ok (.lstore 10, 2) := dq0 (p := fun a b => decode cX2_ofBishop a = .ok b) dm_cX2_ofBishop_0 46 rfl
theorem dX2_ofBishop_81 : decode cX2_ofBishop 81 = .ok (.lload 12, 2) := dq0 (p := fun a b => decode cX2_ofBishop a = .ok b) dm_cX2_ofBishop_0 47 rfl
theorem dX2_ofBishop_83 : decode cX2_ofBishop 83 = .ok (.ldc2_w 31, 3) := dq0 (p := fun a b => decode cX2_ofBishop a = .ok b) dm_cX2_ofBishop_0 48 rfl
theorem dX2_ofBishop_86 : decode cX2_ofBishop 86 = .ok (.land, 1) := dq0 (p := fun a b => decode cX2_ofBishop a = .ok b) dm_cX2_ofBishop_0 49 rfl
theorem dX2_ofBishop_87 : decode cX2_ofBishop 87 = .ok (.bipush 7, 2) := dq0 (p := fun a b => decode cX2_ofBishop a = .ok b) dm_cX2_ofBishop_0 50 rfl
theorem dX2_ofBishop_89 : decode cX2_ofBishop 89 = .ok (.lushr, 1) := dq0 (p := fun a b => decode cX2_ofBishop a = .ok b) dm_cX2_ofBishop_0 51 rfl
theorem dX2_ofBishop_90 : decode cX2_ofBishop 90 = .ok (.lstore 12, 2) := dq0 (p := fun a b => decode cX2_ofBishop a = .ok b) dm_cX2_ofBishop_0 52 rfl
theorem dX2_ofBishop_92 : decode cX2_ofBishop 92 = .ok (.lload 14, 2) := dq0 (p := fun a b => decode cX2_ofBishop a = .ok b) dm_cX2_ofBishop_0 53 rfl
theorem dX2_ofBishop_94 : decode cX2_ofBishop 94 = .ok (.lload 6, 2) := dq0 (p := fun a b => decode cX2_ofBishop a = .ok b) dm_cX2_ofBishop_0 54 rfl
theorem dX2_ofBishop_96 : decode cX2_ofBishop 96 = .ok (.lload 8, 2) := dq0 (p := fun a b => decode cX2_ofBishop a = .ok b) dm_cX2_ofBishop_0 55 rfl
theorem dX2_ofBishop_98 : decode cX2_ofBishop 98 = .ok (.lor, 1) := dq0 (p := fun a b => decode cX2_ofBishop a = .ok b) dm_cX2_ofBishop_0 56 rfl
theorem dX2_ofBishop_99 : decode cX2_ofBishop 99 = .ok (.lload 10, 2) := dq0 (p := fun a b => decode cX2_ofBishop a = .ok b) dm_cX2_ofBishop_0 57 rfl
theorem dX2_ofBishop_101 : decode cX2_ofBishop 101 = .ok (.lor, 1) := dq0 (p := fun a b => decode cX2_ofBishop a = .ok b) dm_cX2_ofBishop_0 58 rfl
theorem dX2_ofBishop_102 : decode cX2_ofBishop 102 = .ok (.lload 12, 2) := dq0 (p := fun a b => decode cX2_ofBishop a = .ok b) dm_cX2_ofBishop_0 59 rfl
theorem dm_cX2_ofBishop_1 : ([(104, .lor, 1), (105, .lor, 1), (106, .lstore 14, 2), (108, .lload 6, 2), (110, .lload 4, 2), (112, .land, 1), (113, .lstore 6, 2), (115, .lload 8, 2), (117, .lload 4, 2), (119, .land, 1), (120, .lstore 8, 2), (122, .lload 10, 2), (124, .lload 4, 2), (126, .land, 1), (127, .lstore 10, 2), (129, .lload 12, 2), (131, .lload 4, 2), (133, .land, 1), (134, .lstore 12, 2), (136, .iinc 16 1, 3), (139, .goto (-114), 3), (142, .lload 14, 2), (144, .lreturn, 1)] : List (Nat × Instr × Nat)).all (fun t => decide (decode cX2_ofBishop t.1 = .ok t.2)) = true := by decide +kernel
theorem dX2_ofBishop_104 : decode cX2_ofBishop 104 = .ok (.lor, 1) := dq0 (p := fun a b => decode cX2_ofBishop a = .ok b) dm_cX2_ofBishop_1 0 rfl
theorem dX2_ofBishop_105 : decode cX2_ofBishop 105 = .ok (.lor, 1) := dq0 (p := fun a b => decode cX2_ofBishop a = .ok b) dm_cX2_ofBishop_1 1 rfl
theorem dX2_ofBishop_106 : decode cX2_ofBishop 106 = .ok (.lstore 14, 2) := dq0 (p := fun a b => decode cX2_ofBishop a = .ok b) dm_cX2_ofBishop_1 2 rfl
theorem dX2_ofBishop_108 : decode cX2_ofBishop 108 = .ok (.lload 6, 2) := dq0 (p := fun a b => decode cX2_ofBishop a = .ok b) dm_cX2_ofBishop_1 3 rfl
theorem dX2_ofBishop_110 : decode cX2_ofBishop 110 = .ok (.lload 4, 2) := dq0 (p := fun a b => decode cX2_ofBishop a = .ok b) dm_cX2_ofBishop_1 4 rfl
theorem dX2_ofBishop_112 : decode cX2_ofBishop 112 = .ok (.land, 1) := dq0 (p := fun a b => decode cX2_ofBishop a = .ok b) dm_cX2_ofBishop_1 5 rfl
theorem dX2_ofBishop_113 : decode cX2_ofBishop 113 = .ok (.lstore 6, 2) := dq0 (p := fun a b => decode cX2_ofBishop a = .ok b) dm_cX2_ofBishop_1 6 rfl
theorem dX2_ofBishop_115 : decode cX2_ofBishop 115 = .ok (.lload 8, 2) := dq0 (p := fun a b => decode cX2_ofBishop a = .ok b) dm_cX2_ofBishop_1 7 rfl
theorem dX2_ofBishop_117 : decode cX2_ofBishop 117 = .ok (.lload 4, 2) := dq0 (p := fun a b => decode cX2_ofBishop a = .ok b) dm_cX2_ofBishop_1 8 rfl
theorem dX2_ofBishop_119 : decode cX2_ofBishop 119 = .ok (.land, 1) := dq0 (p := fun a b => decode cX2_ofBishop a = .ok b) dm_cX2_ofBishop_1 9 rfl
theorem dX2_ofBishop_120 : decode cX2_ofBishop 120 = .ok (.lstore 8, 2) := dq0 (p := fun a b => decode cX2_ofBishop a = .ok b) dm_cX2_ofBishop_1 10 rfl
theorem dX2_ofBishop_122 : decode cX2_ofBishop 122 = .ok (.lload 10, 2) := dq0 (p := fun a b => decode cX2_ofBishop a = .ok b) dm_cX2_ofBishop_1 11 rfl
theorem dX2_ofBishop_124 : decode cX2_ofBishop 124 = .ok (.lload 4, 2) := dq0 (p := fun a b => decode cX2_ofBishop a = .ok b) dm_cX2_ofBishop_1 12 rfl
theorem dX2_ofBishop_126 : decode cX2_ofBishop 126 = .ok (.land, 1) := dq0 (p := fun a b => decode cX2_ofBishop a = .ok b) dm_cX2_ofBishop_1 13 rfl
theorem dX2_ofBishop_127 : decode cX2_ofBishop 127 = .ok (.lstore 10, 2) := dq0 (p := fun a b => decode cX2_ofBishop a = .ok b) dm_cX2_ofBishop_1 14 rfl
theorem dX2_ofBishop_129 : decode cX2_ofBishop 129 = .ok (.lload 12, 2) := dq0 (p := fun a b => decode cX2_ofBishop a = .ok b) dm_cX2_ofBishop_1 15 rfl
theorem dX2_ofBishop_131 : decode cX2_ofBishop 131 = .ok (.lload 4, 2) := dq0 (p := fun a b => decode cX2_ofBishop a = .ok b) dm_cX2_ofBishop_1 16 rfl
theorem dX2_ofBishop_133 : decode cX2_ofBishop 133 = .ok (.land, 1) := dq0 (p := fun a b => decode cX2_ofBishop a = .ok b) dm_cX2_ofBishop_1 17 rfl
theorem dX2_ofBishop_134 : decode cX2_ofBishop 134 = .ok (.lstore 12, 2) := dq0 (p := fun a b => decode cX2_ofBishop a = .ok b) dm_cX2_ofBishop_1 18 rfl
theorem dX2_ofBishop_136 : decode cX2_ofBishop 136 = .ok (.iinc 16 1, 3) := dq0 (p := fun a b => decode cX2_ofBishop a = .ok b) dm_cX2_ofBishop_1 19 rfl
theorem dX2_ofBishop_139 : decode cX2_ofBishop 139 = .ok (.goto (-114), 3) := dq0 (p := fun a b => decode cX2_ofBishop a = .ok b) dm_cX2_ofBishop_1 20 rfl
theorem dX2_ofBishop_142 : decode cX2_ofBishop 142 = .ok (.lload 14, 2) := dq0 (p := fun a b => decode cX2_ofBishop a = .ok b) dm_cX2_ofBishop_1 21 rfl
theorem dX2_ofBishop_144 : decode cX2_ofBishop 144 = .ok (.lreturn, 1) := dq0 (p := fun a b => decode cX2_ofBishop a = .ok b) dm_cX2_ofBishop_1 22 rfl
theorem dm_cX2_withinHops_0 : ([(0, .lload_n 0, 1), (1, .lstore_n 3, 1), (2, .iconst 0, 1), (3, .istore 5, 2), (5, .iload 5, 2), (7, .iload_n 2, 1), (8, .if_icmp .ge 16, 3), (11, .lload_n 3, 1), (12, .lload_n 3, 1), (13, .invokestatic 22, 3), (16, .lor, 1), (17, .lstore_n 3, 1), (18, .iinc 5 1, 3), (21, .goto (-16), 3), (24, .lload_n 3, 1), (25, .lreturn, 1)] : List (Nat × Instr × Nat)).all (fun t => decide (decode cX2_withinHops t.1 = .ok t.2)) = true := by decide +kernel
theorem dX2_withinHops_0 : decode cX2_withinHops 0 = .ok (.lload_n 0, 1) := dq0 (p := fun a b => decode cX2_withinHops a = .ok b) dm_cX2_withinHops_0 0 rfl
theorem dX2_withinHops_1 : decode cX2_withinHops 1 = .ok (.lstore_n 3, 1) := dq0 (p := fun a b => decode cX2_withinHops a = .ok b) dm_cX2_withinHops_0 1 rfl
theorem dX2_withinHops_2 : decode cX2_withinHops 2 = .ok (.iconst 0, 1) := dq0 (p := fun a b => decode cX2_withinHops a = .ok b) dm_cX2_withinHops_0 2 rfl
theorem dX2_withinHops_3 : decode cX2_withinHops 3 = .ok (.istore 5, 2) := dq0 (p := fun a b => decode cX2_withinHops a = .ok b) dm_cX2_withinHops_0 3 rfl
theorem dX2_withinHops_5 : decode cX2_withinHops 5 = .ok (.iload 5, 2) := dq0 (p := fun a b => decode cX2_withinHops a = .ok b) dm_cX2_withinHops_0 4 rfl
theorem dX2_withinHops_7 : decode cX2_withinHops 7 = .ok (.iload_n 2, 1) := dq0 (p := fun a b => decode cX2_withinHops a = .ok b) dm_cX2_withinHops_0 5 rfl
theorem dX2_withinHops_8 : decode cX2_withinHops 8 = .ok (.if_icmp .ge 16, 3) := dq0 (p := fun a b => decode cX2_withinHops a = .ok b) dm_cX2_withinHops_0 6 rfl
theorem dX2_withinHops_11 : decode cX2_withinHops 11 = .ok (.lload_n 3, 1) := dq0 (p := fun a b => decode cX2_withinHops a = .ok b) dm_cX2_withinHops_0 7 rfl
theorem dX2_withinHops_12 : decode cX2_withinHops 12 = .ok (.lload_n 3, 1) := dq0 (p := fun a b => decode cX2_withinHops a = .ok b) dm_cX2_withinHops_0 8 rfl
theorem dX2_withinHops_13 : decode cX2_withinHops 13 = .ok (.invokestatic 22, 3) := dq0 (p := fun a b => decode cX2_withinHops a = .ok b) dm_cX2_withinHops_0 9 rfl
theorem dX2_withinHops_16 : decode cX2_withinHops 16 = .ok (.lor, 1) := dq0 (p := fun a b => decode cX2_withinHops a = .ok b) dm_cX2_withinHops_0 10 rfl
theorem dX2_withinHops_17 : decode cX2_withinHops 17 = .ok (.lstore_n 3, 1) := dq0 (p := fun a b => decode cX2_withinHops a = .ok b) dm_cX2_withinHops_0 11 rfl
theorem dX2_withinHops_18 : decode cX2_withinHops 18 = .ok (.iinc 5 1, 3) := dq0 (p := fun a b => decode cX2_withinHops a = .ok b) dm_cX2_withinHops_0 12 rfl
theorem dX2_withinHops_21 : decode cX2_withinHops 21 = .ok (.goto (-16), 3) := dq0 (p := fun a b => decode cX2_withinHops a = .ok b) dm_cX2_withinHops_0 13 rfl
theorem dX2_withinHops_24 : decode cX2_withinHops 24 = .ok (.lload_n 3, 1) := dq0 (p := fun a b => decode cX2_withinHops a = .ok b) dm_cX2_withinHops_0 14 rfl
theorem dX2_withinHops_25 : decode cX2_withinHops 25 = .ok (.lreturn, 1) := dq0 (p := fun a b => decode cX2_withinHops a = .ok b) dm_cX2_withinHops_0 15 rfl
theorem dm_cX2_hops_0 : ([(0, .iload_n 0, 1), (1, .invokestatic 39, 3), (4, .lstore_n 2, 1), (5, .iconst 0, 1), (6, .istore 4, 2), (8, .iload 4, 2), (10, .bipush 6, 2), (12, .if_icmp .ge 24, 3), (15, .lload_n 2, 1), (16, .iload_n 1, 1), (17, .invokestatic 43, 3), (20, .ifCond .ne 16, 3), (23, .lload_n 2, 1), (24, .lload_n 2, 1), (25, .invokestatic 22, 3), (28, .lor, 1), (29, .lstore_n 2, 1), (30, .iinc 4 1, 3), (33, .goto (-25), 3), (36, .iload 4, 2), (38, .ireturn, 1)] : List (Nat × Instr × Nat)).all (fun t => decide (decode cX2_hops t.1 = .ok t.2)) = true := by decide +kernel
theorem dX2_hops_0 : decode cX2_hops 0 = .ok (.iload_n 0, 1) := dq0 (p := fun a b => decode cX2_hops a = .ok b) dm_cX2_hops_0 0 rfl
theorem dX2_hops_1 : decode cX2_hops 1 = .ok (.invokestatic 39, 3) := dq0 (p := fun a b => decode cX2_hops a = .ok b) dm_cX2_hops_0 1 rfl
theorem dX2_hops_4 : decode cX2_hops 4 = .ok (.lstore_n 2, 1) := dq0 (p := fun a b => decode cX2_hops a = .ok b) dm_cX2_hops_0 2 rfl
theorem dX2_hops_5 : decode cX2_hops 5 = .ok (.iconst 0, 1) := dq0 (p := fun a b => decode cX2_hops a = .ok b) dm_cX2_hops_0 3 rfl
theorem dX2_hops_6 : decode cX2_hops 6 = .ok (.istore 4, 2) := dq0 (p := fun a b => decode cX2_hops a = .ok b) dm_cX2_hops_0 4 rfl
theorem dX2_hops_8 : decode cX2_hops 8 = .ok (.iload 4, 2) := dq0 (p := fun a b => decode cX2_hops a = .ok b) dm_cX2_hops_0 5 rfl
theorem dX2_hops_10 : decode cX2_hops 10 = .ok (.bipush 6, 2) := dq0 (p := fun a b => decode cX2_hops a = .ok b) dm_cX2_hops_0 6 rfl
theorem dX2_hops_12 : decode cX2_hops 12 = .ok (.if_icmp .ge 24, 3) := dq0 (p := fun a b => decode cX2_hops a = .ok b) dm_cX2_hops_0 7 rfl
theorem dX2_hops_15 : decode cX2_hops 15 = .ok (.lload_n 2, 1) := dq0 (p := fun a b => decode cX2_hops a = .ok b) dm_cX2_hops_0 8 rfl
theorem dX2_hops_16 : decode cX2_hops 16 = .ok (.iload_n 1, 1) := dq0 (p := fun a b => decode cX2_hops a = .ok b) dm_cX2_hops_0 9 rfl
theorem dX2_hops_17 : decode cX2_hops 17 = .ok (.invokestatic 43, 3) := dq0 (p := fun a b => decode cX2_hops a = .ok b) dm_cX2_hops_0 10 rfl
theorem dX2_hops_20 : decode cX2_hops 20 = .ok (.ifCond .ne 16, 3) := dq0 (p := fun a b => decode cX2_hops a = .ok b) dm_cX2_hops_0 11 rfl
theorem dX2_hops_23 : decode cX2_hops 23 = .ok (.lload_n 2, 1) := dq0 (p := fun a b => decode cX2_hops a = .ok b) dm_cX2_hops_0 12 rfl
theorem dX2_hops_24 : decode cX2_hops 24 = .ok (.lload_n 2, 1) := dq0 (p := fun a b => decode cX2_hops a = .ok b) dm_cX2_hops_0 13 rfl
theorem dX2_hops_25 : decode cX2_hops 25 = .ok (.invokestatic 22, 3) := dq0 (p := fun a b => decode cX2_hops a = .ok b) dm_cX2_hops_0 14 rfl
theorem dX2_hops_28 : decode cX2_hops 28 = .ok (.lor, 1) := dq0 (p := fun a b => decode cX2_hops a = .ok b) dm_cX2_hops_0 15 rfl
theorem dX2_hops_29 : decode cX2_hops 29 = .ok (.lstore_n 2, 1) := dq0 (p := fun a b => decode cX2_hops a = .ok b) dm_cX2_hops_0 16 rfl
theorem dX2_hops_30 : decode cX2_hops 30 = .ok (.iinc 4 1, 3) := dq0 (p := fun a b => decode cX2_hops a = .ok b) dm_cX2_hops_0 17 rfl
theorem dX2_hops_33 : decode cX2_hops 33 = .ok (.goto (-25), 3) := dq0 (p := fun a b => decode cX2_hops a = .ok b) dm_cX2_hops_0 18 rfl
theorem dX2_hops_36 : decode cX2_hops 36 = .ok (.iload 4, 2) := dq0 (p := fun a b => decode cX2_hops a = .ok b) dm_cX2_hops_0 19 rfl
theorem dX2_hops_38 : decode cX2_hops 38 = .ok (.ireturn, 1) := dq0 (p := fun a b => decode cX2_hops a = .ok b) dm_cX2_hops_0 20 rfl
