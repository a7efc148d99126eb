theorem dm_cX4_thrown_0 : ([(0, .aload_n 0, 1), (1, .getfield 44, 3), (4, .ireturn, 1)] : List (Nat × Instr × Nat)).all (fun t => decide (decode cX4_thrown t.1 = .ok t.2)) = true := by decide +kernel
theorem dX4_thrown_0 : decode cX4_thrown 0 = .ok (.aload_n 0, 1) := dq0 (p := fun a b => decode cX4_thrown a = .ok b) dm_cX4_thrown_0 0 rfl
theorem dX4_thrown_1 : decode cX4_thrown 1 = .ok (.getfield 44, 3) := dq0 (p := fun a b => decode cX4_thrown a = .ok b) dm_cX4_thrown_0 1 rfl
theorem dX4_thrown_4 : decode cX4_thrown 4 = .ok (.ireturn, 1) := dq0 (p := fun a b => decode cX4_thrown a = .ok b) dm_cX4_thrown_0 2 rfl
theorem dm_cX4_fail_0 : ([(0, .aload_n 0, 1), (1, .iload_n 1, 1), (2, .putfield 44, 3), (5, .iconst 0, 1), (6, .ireturn, 1)] : List (Nat × Instr × Nat)).all (fun t => decide (decode cX4_fail t.1 = .ok t.2)) = true := by decide +kernel
theorem dX4_fail_0 : decode cX4_fail 0 = .ok (.aload_n 0, 1) := dq0 (p := fun a b => decode cX4_fail a = .ok b) dm_cX4_fail_0 0 rfl
theorem dX4_fail_1 : decode cX4_fail 1 = .ok (.iload_n 1, 1) := dq0 (p := fun a b => decode cX4_fail a = .ok b) dm_cX4_fail_0 1 rfl
theorem dX4_fail_2 : decode cX4_fail 2 = .ok (.putfield 44, 3) := dq0 (p := fun a b => decode cX4_fail a = .ok b) dm_cX4_fail_0 2 rfl
theorem dX4_fail_5 : decode cX4_fail 5 = .ok (.iconst 0, 1) := dq0 (p := fun a b => decode cX4_fail a = .ok b) dm_cX4_fail_0 3 rfl
theorem dX4_fail_6 : decode cX4_fail 6 = .ok (.ireturn, 1) := dq0 (p := fun a b => decode cX4_fail a = .ok b) dm_cX4_fail_0 4 rfl
theorem dm_cX4_isGood_0 : ([(0, .aload_n 0, 1), (1, .iload_n 1, 1), (2, .ifCond .eq 7, 3), (5, .iconst 0, 1), (6, .goto 4, 3), (9, .iconst 1, 1), (10, .putfield 44, 3), (13, .iload_n 1, 1), (14, .ireturn, 1)] : List (Nat × Instr × Nat)).all (fun t => decide (decode cX4_isGood t.1 = .ok t.2)) = true := by decide +kernel
theorem dX4_isGood_0 : decode cX4_isGood 0 = .ok (.aload_n 0, 1) := dq0 (p := fun a b => decode cX4_isGood a = .ok b) dm_cX4_isGood_0 0 rfl
theorem dX4_isGood_1 : decode cX4_isGood 1 = .ok (.iload_n 1, 1) := dq0 (p := fun a b => decode cX4_isGood a = .ok b) dm_cX4_isGood_0 1 rfl
theorem dX4_isGood_2 : decode cX4_isGood 2 = .ok (.ifCond .eq 7, 3) := dq0 (p := fun a b => decode cX4_isGood a = .ok b) dm_cX4_isGood_0 2 rfl
theorem dX4_isGood_5 : decode cX4_isGood 5 = .ok (.iconst 0, 1) := dq0 (p := fun a b => decode cX4_isGood a = .ok b) dm_cX4_isGood_0 3 rfl
theorem dX4_isGood_6 : decode cX4_isGood 6 = .ok (.goto 4, 3) := dq0 (p := fun a b => decode cX4_isGood a = .ok b) dm_cX4_isGood_0 4 rfl
theorem dX4_isGood_9 : decode cX4_isGood 9 = .ok (.iconst 1, 1) := dq0 (p := fun a b => decode cX4_isGood a = .ok b) dm_cX4_isGood_0 5 rfl
theorem dX4_isGood_10 : decode cX4_isGood 10 = .ok (.putfield 44, 3) := dq0 (p := fun a b => decode cX4_isGood a = .ok b) dm_cX4_isGood_0 6 rfl
theorem dX4_isGood_13 : decode cX4_isGood 13 = .ok (.iload_n 1, 1) := dq0 (p := fun a b => decode cX4_isGood a = .ok b) dm_cX4_isGood_0 7 rfl
theorem dX4_isGood_14 : decode cX4_isGood 14 = .ok (.ireturn, 1) := dq0 (p := fun a b => decode cX4_isGood a = .ok b) dm_cX4_isGood_0 8 rfl
theorem dm_cX4_isSquare_0 : ([(0, .iload_n 0, 1), (1, .ifCond .lt 13, 3), (4, .iload_n 0, 1), (5, .bipush 64, 2), (7, .if_icmp .ge 7, 3), (10, .iconst 1, 1), (11, .goto 4, 3), (14, .iconst 0, 1), (15, .ireturn, 1)] : List (Nat × Instr × Nat)).all (fun t => decide (decode cX4_isSquare t.1 = .ok t.2)) = true := by decide +kernel
theorem dX4_isSquare_0 : decode cX4_isSquare 0 = .ok (.iload_n 0, 1) := dq0 (p := fun a b => decode cX4_isSquare a = .ok b) dm_cX4_isSquare_0 0 rfl
theorem dX4_isSquare_1 : decode cX4_isSquare 1 = .ok (.ifCond .lt 13, 3) := dq0 (p := fun a b => decode cX4_isSquare a = .ok b) dm_cX4_isSquare_0 1 rfl
theorem dX4_isSquare_4 : decode cX4_isSquare 4 = .ok (.iload_n 0, 1) := dq0 (p := fun a b => decode cX4_isSquare a = .ok b) dm_cX4_isSquare_0 2 rfl
theorem dX4_isSquare_5 : decode cX4_isSquare 5 = .ok (.bipush 64, 2) := dq0 (p := fun a b => decode cX4_isSquare a = .ok b) dm_cX4_isSquare_0 3 rfl
theorem dX4_isSquare_7 : decode cX4_isSquare 7 = .ok (.if_icmp .ge 7, 3) := dq0 (p := fun a b => decode cX4_isSquare a = .ok b) dm_cX4_isSquare_0 4 rfl
theorem dX4_isSquare_10 : decode cX4_isSquare 10 = .ok (.iconst 1, 1) := dq0 (p := fun a b => decode cX4_isSquare a = .ok b) dm_cX4_isSquare_0 5 rfl
theorem dX4_isSquare_11 : decode cX4_isSquare 11 = .ok (.goto 4, 3) := dq0 (p := fun a b => decode cX4_isSquare a = .ok b) dm_cX4_isSquare_0 6 rfl
theorem dX4_isSquare_14 : decode cX4_isSquare 14 = .ok (.iconst 0, 1) := dq0 (p := fun a b => decode cX4_isSquare a = .ok b) dm_cX4_isSquare_0 7 rfl
theorem dX4_isSquare_15 : decode cX4_isSquare 15 = .ok (.ireturn, 1) := dq0 (p := fun a b => decode cX4_isSquare a = .ok b) dm_cX4_isSquare_0 8 rfl
theorem dm_cX4_copyRow_0 : ([(0, .iconst 0, 1), (1, .istore 4, 2), (3, .iload 4, 2), (5, .sipush 146, 3), (8, .if_icmp .ge 21, 3), (11, .aload_n 2, 1), (12, .iload_n 3, 1), (13, .iload 4, 2), (15, .iadd, 1), (16, .aload_n 0, 1), (17, .iload_n 1, 1), (18, .iload 4, 2), (20, .iadd, 1), (21, .iaload, 1), (22, .iastore, 1), (23, .iinc 4 1, 3), (26, .goto (-23), 3), (29, .return_, 1)] : List (Nat × Instr × Nat)).all (fun t => decide (decode cX4_copyRow t.1 = .ok t.2)) = true := by decide +kernel
theorem dX4_copyRow_0 : decode cX4_copyRow 0 = .ok (.iconst 0, 1) := dq0 (p := fun a b => decode cX4_copyRow a = .ok b) dm_cX4_copyRow_0 0 rfl
theorem dX4_copyRow_1 : decode cX4_copyRow 1 = .ok (.istore 4, 2) := dq0 (p := fun a b => decode cX4_copyRow a = .ok b) dm_cX4_copyRow_0 1 rfl
theorem dX4_copyRow_3 : decode cX4_copyRow 3 = .ok (.iload 4, 2) := dq0 (p := fun a b => decode cX4_copyRow a = .ok b) dm_cX4_copyRow_0 2 rfl
theorem dX4_copyRow_5 : decode cX4_copyRow 5 = .ok (.sipush 146, 3) := dq0 (p := fun a b => decode cX4_copyRow a = .ok b) dm_cX4_copyRow_0 3 rfl
theorem dX4_copyRow_8 : decode cX4_copyRow 8 = .ok (.if_icmp .ge 21, 3) := dq0 (p := fun a b => decode cX4_copyRow a = .ok b) dm_cX4_copyRow_0 4 rfl
theorem dX4_copyRow_11 : decode cX4_copyRow 11 = .ok (.aload_n 2, 1) := dq0 (p := fun a b => decode cX4_copyRow a = .ok b) dm_cX4_copyRow_0 5 rfl
theorem dX4_copyRow_12 : decode cX4_copyRow 12 = .ok (.iload_n 3, 1) := dq0 (p := fun a b => decode cX4_copyRow a = .ok b) dm_cX4_copyRow_0 6 rfl
theorem dX4_copyRow_13 : decode cX4_copyRow 13 = .ok (.iload 4, 2) := dq0 (p := fun a b => decode cX4_copyRow a = .ok b) dm_cX4_copyRow_0 7 rfl
theorem dX4_copyRow_15 : decode cX4_copyRow 15 = .ok (.iadd, 1) := dq0 (p := fun a b => decode cX4_copyRow a = .ok b) dm_cX4_copyRow_0 8 rfl
theorem dX4_copyRow_16 : decode cX4_copyRow 16 = .ok (.aload_n 0, 1) := dq0 (p := fun a b => decode cX4_copyRow a = .ok b) dm_cX4_copyRow_0 9 rfl
theorem dX4_copyRow_17 : decode cX4_copyRow 17 = .ok (.iload_n 1, 1) := dq0 (p := fun a b => decode cX4_copyRow a = .ok b) dm_cX4_copyRow_0 10 rfl
theorem dX4_copyRow_18 : decode cX4_copyRow 18 = .ok (.iload 4, 2) := dq0 (p := fun a b => decode cX4_copyRow a = .ok b) dm_cX4_copyRow_0 11 rfl
theorem dX4_copyRow_20 : decode cX4_copyRow 20 = .ok (.iadd, 1) := dq0 (p := fun a b => decode cX4_copyRow a = .ok b) dm_cX4_copyRow_0 12 rfl
theorem dX4_copyRow_21 : decode cX4_copyRow 21 = .ok (.iaload, 1) := dq0 (p := fun a b => decode cX4_copyRow a = .ok b) dm_cX4_copyRow_0 13 rfl
theorem dX4_copyRow_22 : decode cX4_copyRow 22 = .ok (.iastore, 1) := dq0 (p := fun a b => decode cX4_copyRow a = .ok b) dm_cX4_copyRow_0 14 rfl
theorem dX4_copyRow_23 : decode cX4_copyRow 23 = .ok (.iinc 4 1, 3) := dq0 (p := fun a b => decode cX4_copyRow a = .ok b) dm_cX4_copyRow_0 15 rfl
theorem dX4_copyRow_26 : decode cX4_copyRow 26 = .ok (.goto (-23), 3) := dq0 (p := fun a b => decode cX4_copyRow a = .ok b) dm_cX4_copyRow_0 16 rfl
theorem dX4_copyRow_29 : decode cX4_copyRow 29 = .ok (.return_, 1) := dq0 (p := fun a b => decode cX4_copyRow a = .ok b) dm_cX4_copyRow_0 17 rfl
theorem dm_cX4_side_0 : ([(0, .iload_n 0, 1), (1, .ifCond .eq 8, 3), (4, .bipush 8, 2), (6, .goto 4, 3), (9, .iconst 0, 1), (10, .ireturn, 1)] : List (Nat × Instr × Nat)).all (fun t => decide (decode cX4_side t.1 = .ok t.2)) = true := by decide +kernel
theorem dX4_side_0 : decode cX4_side 0 = .ok (.iload_n 0, 1) := dq0 (p := fun a b => decode cX4_side a = .ok b) dm_cX4_side_0 0 rfl
theorem dX4_side_1 : decode cX4_side 1 = .ok (.ifCond .eq 8, 3) := dq0 (p := fun a b => decode cX4_side a = .ok b) dm_cX4_side_0 1 rfl
theorem dX4_side_4 : decode cX4_side 4 = .ok (.bipush 8, 2) := dq0 (p := fun a b => decode cX4_side a = .ok b) dm_cX4_side_0 2 rfl
theorem dX4_side_6 : decode cX4_side 6 = .ok (.goto 4, 3) := dq0 (p := fun a b => decode cX4_side a = .ok b) dm_cX4_side_0 3 rfl
theorem dX4_side_9 : decode cX4_side 9 = .ok (.iconst 0, 1) := dq0 (p := fun a b => decode cX4_side a = .ok b) dm_cX4_side_0 4 rfl
theorem dX4_side_10 : decode cX4_side 10 = .ok (.ireturn, 1) := dq0 (p := fun a b => decode cX4_side a = .ok b) dm_cX4_side_0 5 rfl
theorem dm_cX4_away_0 : ([(0, .iload_n 0, 1), (1, .iload_n 1, 1), (2, .if_icmp .le 9, 3), (5, .iload_n 0, 1), (6, .iload_n 1, 1), (7, .isub, 1), (8, .goto 6, 3), (11, .iload_n 1, 1), (12, .iload_n 0, 1), (13, .isub, 1), (14, .ireturn, 1)] : List (Nat × Instr × Nat)).all (fun t => decide (decode cX4_away t.1 = .ok t.2)) = true := by decide +kernel
theorem dX4_away_0 : decode cX4_away 0 = .ok (.iload_n 0, 1) := dq0 (p := fun a b => decode cX4_away a = .ok b) dm_cX4_away_0 0 rfl
theorem dX4_away_1 : decode cX4_away 1 = .ok (.iload_n 1, 1) := dq0 (p := fun a b => decode cX4_away a = .ok b) dm_cX4_away_0 1 rfl
theorem dX4_away_2 : decode cX4_away 2 = .ok (.if_icmp .le 9, 3) := dq0 (p := fun a b => decode cX4_away a = .ok b) dm_cX4_away_0 2 rfl
theorem dX4_away_5 : decode cX4_away 5 = .ok (.iload_n 0, 1) := dq0 (p := fun a b => decode cX4_away a = .ok b) dm_cX4_away_0 3 rfl
theorem dX4_away_6 : decode cX4_away 6 = .ok (.iload_n 1, 1) := dq0 (p := fun a b => decode cX4_away a = .ok b) dm_cX4_away_0 4 rfl
theorem dX4_away_7 : decode cX4_away 7 = .ok (.isub, 1) := dq0 (p := fun a b => decode cX4_away a = .ok b) dm_cX4_away_0 5 rfl
theorem dX4_away_8 : decode cX4_away 8 = .ok (.goto 6, 3) := dq0 (p := fun a b => decode cX4_away a = .ok b) dm_cX4_away_0 6 rfl
theorem dX4_away_11 : decode cX4_away 11 = .ok (.iload_n 1, 1) := dq0 (p := fun a b => decode cX4_away a = .ok b) dm_cX4_away_0 7 rfl
theorem dX4_away_12 : decode cX4_away 12 = .ok (.iload_n 0, 1) := dq0 (p := fun a b => decode cX4_away a = .ok b) dm_cX4_away_0 8 rfl
theorem dX4_away_13 : decode cX4_away 13 = .ok (.isub, 1) := dq0 (p := fun a b => decode cX4_away a = .ok b) dm_cX4_away_0 9 rfl
theorem dX4_away_14 : decode cX4_away 14 = .ok (.ireturn, 1) := dq0 (p := fun a b => decode cX4_away a = .ok b) dm_cX4_away_0 10 rfl
theorem dm_cX4_isLeap_0 : ([(0, .iload_n 0, 1), (1, .bipush 8, 2), (3, .irem, 1), (4, .iload_n 1, 1), (5, .bipush 8, 2), (7, .irem, 1), (8, .invokestatic 48, 3), (11, .iload_n 0, 1), (12, .bipush 8, 2), (14, .idiv, 1), (15, .iload_n 1, 1), (16, .bipush 8, 2), (18, .idiv, 1), (19, .invokestatic 48, 3), (22, .imul, 1), (23, .iconst 2, 1), (24, .if_icmp .ne 7, 3), (27, .iconst 1, 1), (28, .goto 4, 3), (31, .iconst 0, 1), (32, .ireturn, 1)] : List (Nat × Instr × Nat)).all (fun t => decide (decode cX4_isLeap t.1 = .ok t.2)) = true := by decide +kernel
theorem dX4_isLeap_0 : decode cX4_isLeap 0 = .ok (.iload_n 0, 1) := dq0 (p := fun a b => decode cX4_isLeap a = .ok b) dm_cX4_isLeap_0 0 rfl
theorem dX4_isLeap_1 : decode cX4_isLeap 1 = .ok (.bipush 8, 2) := dq0 (p := fun a b => decode cX4_isLeap a = .ok b) dm_cX4_isLeap_0 1 rfl
theorem dX4_isLeap_3 : decode cX4_isLeap 3 = .ok (.irem, 1) := dq0 (p := fun a b => decode cX4_isLeap a = .ok b) dm_cX4_isLeap_0 2 rfl
theorem dX4_isLeap_4 : decode cX4_isLeap 4 = .ok (.iload_n 1, 1) := dq0 (p := fun a b => decode cX4_isLeap a = .ok b) dm_cX4_isLeap_0 3 rfl
theorem dX4_isLeap_5 : decode cX4_isLeap 5 = .ok (.bipush 8, 2) := dq0 (p := fun a b => decode cX4_isLeap a = .ok b) dm_cX4_isLeap_0 4 rfl
theorem dX4_isLeap_7 : decode cX4_isLeap 7 = .ok (.irem, 1) := dq0 (p := fun a b => decode cX4_isLeap a = .ok b) dm_cX4_isLeap_0 5 rfl
theorem dX4_isLeap_8 : decode cX4_isLeap 8 = .ok (.invokestatic 48, 3) := dq0 (p := fun a b => decode cX4_isLeap a = .ok b) dm_cX4_isLeap_0 6 rfl
theorem dX4_isLeap_11 : decode cX4_isLeap 11 = .ok (.iload_n 0, 1) := dq0 (p := fun a b => decode cX4_isLeap a = .ok b) dm_cX4_isLeap_0 7 rfl
theorem dX4_isLeap_12 : decode cX4_isLeap 12 = .ok (.bipush 8, 2) := dq0 (p := fun a b => decode cX4_isLeap a = .ok b) dm_cX4_isLeap_0 8 rfl
theorem dX4_isLeap_14 : decode cX4_isLeap 14 = .ok (.idiv, 1) := dq0 (p := fun a b => decode cX4_isLeap a = .ok b) dm_cX4_isLeap_0 9 rfl
theorem dX4_isLeap_15 : decode cX4_isLeap 15 = .ok (.iload_n 1, 1) := dq0 (p := fun a b => decode cX4_isLeap a = .ok b) dm_cX4_isLeap_0 10 rfl
theorem dX4_isLeap_16 : decode cX4_isLeap 16 = .ok (.bipush 8, 2) := dq0 (p := fun a b => decode cX4_isLeap a = .ok b) dm_cX4_isLeap_0 11 rfl
theorem dX4_isLeap_18 : decode cX4_isLeap 18 = .ok (.idiv, 1) := dq0 (p := fun a b => decode cX4_isLeap a = .ok b) dm_cX4_isLeap_0 12 rfl
theorem dX4_isLeap_19 : decode cX4_isLeap 19 = .ok (.invokestatic 48, 3) := dq0 (p := fun a b => decode cX4_isLeap a = .ok b) dm_cX4_isLeap_0 13 rfl
theorem dX4_isLeap_22 : decode cX4_isLeap 22 = .ok (.imul, 1) := dq0 (p := fun a b => decode cX4_isLeap a = .ok b) dm_cX4_isLeap_0 14 rfl
theorem dX4_isLeap_23 : decode cX4_isLeap 23 = .ok (.iconst 2, 1) := dq0 (p := fun a b => decode cX4_isLeap a = .ok b) dm_cX4_isLeap_0 15 rfl
theorem dX4_isLeap_24 : decode cX4_isLeap 24 = .ok (.if_icmp .ne 7, 3) := dq0 (p := fun a b => decode cX4_isLeap a = .ok b) dm_cX4_isLeap_0 16 rfl
theorem dX4_isLeap_27 : decode cX4_isLeap 27 = .ok (.iconst 1, 1) := dq0 (p := fun a b => decode cX4_isLeap a = .ok b) dm_cX4_isLeap_0 17 rfl
theorem dX4_isLeap_28 : decode cX4_isLeap 28 = .ok (.goto 4, 3) := dq0 (p := fun a b => decode cX4_isLeap a = .ok b) dm_cX4_isLeap_0 18 rfl
theorem dX4_isLeap_31 : decode cX4_isLeap 31 = .ok (.iconst 0, 1) := dq0 (p := fun a b => decode cX4_isLeap a = .ok b) dm_cX4_isLeap_0 19 rfl
theorem dX4_isLeap_32 : decode cX4_isLeap 32 = .ok (.ireturn, 1) := dq0 (p := fun a b => decode cX4_isLeap a = .ok b) dm_cX4_isLeap_0 20 rfl
theorem dm_cX4_findLeaps_0 : ([(0, .iconst 0, 1), (1, .istore_n 1, 1), (2, .iload_n 1, 1), (3, .sipush 4096, 3), (6, .if_icmp .ge 32, 3), (9, .aload_n 0, 1), (10, .getfield 25, 3), (13, .iload_n 1, 1), (14, .iload_n 1, 1), (15, .bipush 64, 2), (17, .idiv, 1), (18, .iload_n 1, 1), (19, .bipush 64, 2), (21, .irem, 1), (22, .if_icmp .ne 7, 3), (25, .iconst 0, 1), (26, .goto 5, 3), (29, .bipush 9, 2), (31, .iastore, 1), (32, .iinc 1 1, 3), (35, .goto (-33), 3), (38, .iconst 1, 1), (39, .istore_n 1, 1), (40, .iload_n 1, 1), (41, .bipush 6, 2), (43, .if_icmp .gt 96, 3), (46, .iconst 0, 1), (47, .istore_n 2, 1), (48, .iload_n 2, 1), (49, .sipush 4096, 3), (52, .if_icmp .ge 81, 3), (55, .iconst 0, 1), (56, .istore_n 3, 1), (57, .iload_n 3, 1), (58, .bipush 64, 2), (60, .if_icmp .ge 67, 3), (63, .aload_n 0, 1), (64, .getfield 25, 3), (67, .iload_n 2, 1), (68, .iaload, 1), (69, .bipush 9, 2), (71, .if_icmp .ne 56, 3), (74, .aload_n 0, 1), (75, .getfield 25, 3), (78, .iload_n 2, 1), (79, .iload_n 3, 1), (80, .iload_n 2, 1), (81, .bipush 64, 2), (83, .irem, 1), (84, .invokestatic 52, 3), (87, .ifCond .eq 27, 3), (90, .aload_n 0, 1), (91, .getfield 25, 3), (94, .iload_n 2, 1), (95, .bipush 64, 2), (97, .idiv, 1), (98, .bipush 64, 2), (100, .imul, 1), (101, .iload_n 3, 1), (102, .iadd, 1)] : List (Nat × Instr × Nat)).all (fun t => decide (decode cX4_findLeaps t.1 = .ok t.2)) = true := by decide +kernel
theorem dX4_findLeaps_0 : decode cX4_findLeaps 0 = .ok (.iconst 0, 1) := dq0 (p := fun a b => decode cX4_findLeaps a = .ok b) dm_cX4_findLeaps_0 0 rfl
theorem dX4_findLeaps_1 : decode cX4_findLeaps 1 = .ok (.istore_n 1, 1) := dq0 (p := fun a b => decode cX4_findLeaps a = .ok b) dm_cX4_findLeaps_0 1 rfl
theorem dX4_findLeaps_2 : decode cX4_findLeaps 2 = .ok (.iload_n 1, 1) := dq0 (p := fun a b => decode cX4_findLeaps a = .ok b) dm_cX4_findLeaps_0 2 rfl
theorem dX4_findLeaps_3 : decode cX4_findLeaps 3 = .ok (.sipush 4096, 3) := dq0 (p := fun a b => decode cX4_findLeaps a = .ok b) dm_cX4_findLeaps_0 3 rfl
theorem dX4_findLeaps_6 : decode cX4_findLeaps 6 = .ok (.if_icmp .ge 32, 3) := dq0 (p := fun a b => decode cX4_findLeaps a = .ok b) dm_cX4_findLeaps_0 4 rfl
theorem dX4_findLeaps_9 : decode cX4_findLeaps 9 = .ok (.aload_n 0, 1) := dq0 (p := fun a b => decode cX4_findLeaps a = .ok b) dm_cX4_findLeaps_0 5 rfl
theorem dX4_findLeaps_10 : decode cX4_findLeaps 10 = .ok (.getfield 25, 3) := dq0 (p := fun a b => decode cX4_findLeaps a = .ok b) dm_cX4_findLeaps_0 6 rfl
theorem dX4_findLeaps_13 : decode cX4_findLeaps 13 = .ok (.iload_n 1, 1) := dq0 (p := fun a b => decode cX4_findLeaps a = .ok b) dm_cX4_findLeaps_0 7 rfl
theorem dX4_findLeaps_14 : decode cX4_findLeaps 14 = .ok (.iload_n 1, 1) := dq0 (p := fun a b => decode cX4_findLeaps a = .ok b) dm_cX4_findLeaps_0 8 rfl
theorem dX4_findLeaps_15 : decode cX4_findLeaps 15 = .ok (.bipush 64, 2) := dq0 (p := fun a b => decode cX4_findLeaps a = .ok b) dm_cX4_findLeaps_0 9 rfl
theorem dX4_findLeaps_17 : decode cX4_findLeaps 17 = .ok (.idiv, 1) := dq0 (p := fun a b => decode cX4_findLeaps a = .ok b) dm_cX4_findLeaps_0 10 rfl
theorem dX4_findLeaps_18 : decode cX4_findLeaps 18 = .ok (.iload_n 1, 1) := dq0 (p := fun a b => decode cX4_findLeaps a = .ok b) dm_cX4_findLeaps_0 11 rfl
theorem dX4_findLeaps_19 : decode cX4_findLeaps 19 = .ok (.bipush 64, 2) := dq0 (p := fun a b => decode cX4_findLeaps a = .ok b) dm_cX4_findLeaps_0 12 rfl
theorem dX4_findLeaps_21 : decode cX4_findLeaps 21 = .ok (.irem, 1) := dq0 (p := fun a b => decode cX4_findLeaps a = .ok b) dm_cX4_findLeaps_0 13 rfl
theorem dX4_findLeaps_22 : decode cX4_findLeaps 22 = .ok (.if_icmp .ne 7, 3) := dq0 (p := fun a b => decode cX4_findLeaps a = .ok b) dm_cX4_findLeaps_0 14 rfl
theorem dX4_findLeaps_25 : decode cX4_findLeaps 25 = .ok (.iconst 0, 1) := dq0 (p := fun a b => decode cX4_findLeaps a = .ok b) dm_cX4_findLeaps_0 15 rfl
theorem dX4_findLeaps_26 : decode cX4_findLeaps 26 = .ok (.goto 5, 3) := dq0 (p := fun a b => decode cX4_findLeaps a = .ok b) dm_cX4_findLeaps_0 16 rfl
theorem dX4_findLeaps_29 : decode cX4_findLeaps 29 = .ok (.bipush 9, 2) := dq0 (p := fun a b => decode cX4_findLeaps a = .ok b) dm_cX4_findLeaps_0 17 rfl
theorem dX4_findLeaps_31 : decode cX4_findLeaps 31 = .ok (.iastore, 1) := dq0 (p := fun a b => decode cX4_findLeaps a = .ok b) dm_cX4_findLeaps_0 18 rfl
theorem dX4_findLeaps_32 : decode cX4_findLeaps 32 = .ok (.iinc 1 1, 3) := dq0 (p := fun a b => decode cX4_findLeaps a = .ok b) dm_cX4_findLeaps_0 19 rfl
theorem dX4_findLeaps_35 : decode cX4_findLeaps 35 = .ok (.goto (-33), 3) := dq0 (p := fun a b => decode cX4_findLeaps a = .ok b) dm_cX4_findLeaps_0 20 rfl
theorem dX4_findLeaps_38 : decode cX4_findLeaps 38 = .ok (.iconst 1, 1) := dq0 (p := fun a b => decode cX4_findLeaps a = .ok b) dm_cX4_findLeaps_0 21 rfl
theorem dX4_findLeaps_39 : decode cX4_findLeaps 39 = .ok (.istore_n 1, 1) := dq0 (p := fun a b => decode cX4_findLeaps a = .ok b) dm_cX4_findLeaps_0 22 rfl
theorem dX4_findLeaps_40 : decode cX4_findLeaps 40 = .ok (.iload_n 1, 1) := dq0 (p := fun a b => decode cX4_findLeaps a = .ok b) dm_cX4_findLeaps_0 23 rfl
theorem dX4_findLeaps_41 : decode cX4_findLeaps 41 = .ok (.bipush 6, 2) := dq0 (p := fun a b => decode cX4_findLeaps a = .ok b) dm_cX4_findLeaps_0 24 rfl
theorem dX4_findLeaps_43 : decode cX4_findLeaps 43 = .ok (.if_icmp .gt 96, 3) := dq0 (p := fun a b => decode cX4_findLeaps a = .ok b) dm_cX4_findLeaps_0 25 rfl
theorem dX4_findLeaps_46 : decode cX4_findLeaps 46 = .ok (.iconst 0, 1) := dq0 (p := fun a b => decode cX4_findLeaps a = .ok b) dm_cX4_findLeaps_0 26 rfl
theorem dX4_findLeaps_47 : decode cX4_findLeaps 47 = .ok (.istore_n 2, 1) := dq0 (p := fun a b => decode cX4_findLeaps a = .ok b) dm_cX4_findLeaps_0 27 rfl
theorem dX4_findLeaps_48 : decode cX4_findLeaps 48 = .ok (.iload_n 2, 1) := dq0 (p := fun a b => decode cX4_findLeaps a = .ok b) dm_cX4_findLeaps_0 28 rfl
theorem dX4_findLeaps_49 : decode cX4_findLeaps 49 = .ok (.sipush 4096, 3) := dq0 (p := fun a b => decode cX4_findLeaps a = .ok b) dm_cX4_findLeaps_0 29 rfl
theorem dX4_findLeaps_52 : decode cX4_findLeaps 52 = .ok (.if_icmp .ge 81, 3) := dq0 (p := fun a b => decode cX4_findLeaps a = .ok b) dm_cX4_findLeaps_0 30 rfl
theorem dX4_findLeaps_55 : decode cX4_findLeaps 55 = .ok (.iconst 0, 1) := dq0 (p := fun a b => decode cX4_findLeaps a = .ok b) dm_cX4_findLeaps_0 31 rfl
theorem dX4_findLeaps_56 : decode cX4_findLeaps 56 = .ok (.istore_n 3, 1) := dq0 (p := fun a b => decode cX4_findLeaps a = .ok b) dm_cX4_findLeaps_0 32 rfl
theorem dX4_findLeaps_57 : decode cX4_findLeaps 57 = .ok (.iload_n 3, 1) := dq0 (p := fun a b => decode cX4_findLeaps a = .ok b) dm_cX4_findLeaps_0 33 rfl
theorem dX4_findLeaps_58 : decode cX4_findLeaps 58 = .ok (.bipush 64, 2) := dq0 (p := fun a b => decode cX4_findLeaps a = .ok b) dm_cX4_findLeaps_0 34 rfl
theorem dX4_findLeaps_60 : decode cX4_findLeaps 60 = .ok (.if_icmp .ge 67, 3) := dq0 (p := fun a b => decode cX4_findLeaps a = .ok b) dm_cX4_findLeaps_0 35 rfl
theorem dX4_findLeaps_63 : decode cX4_findLeaps 63 = .ok (.aload_n 0, 1) := dq0 (p := fun a b => decode cX4_findLeaps a = .ok b) dm_cX4_findLeaps_0 36 rfl
theorem dX4_findLeaps_64 : decode cX4_findLeaps 64 = .ok (.getfield 25, 3) := dq0 (p := fun a b => decode cX4_findLeaps a = .ok b) dm_cX4_findLeaps_0 37 rfl
theorem dX4_findLeaps_67 : decode cX4_findLeaps 67 = .ok (.iload_n 2, 1) := dq0 (p := fun a b => decode cX4_findLeaps a = .ok b) dm_cX4_findLeaps_0 38 rfl
theorem dX4_findLeaps_68 : decode cX4_findLeaps 68 = .ok (.iaload, 1) := dq0 (p := fun a b => decode cX4_findLeaps a = .ok b) dm_cX4_findLeaps_0 39 rfl
theorem dX4_findLeaps_69 : decode cX4_findLeaps 69 = .ok (.bipush 9, 2) := dq0 (p := fun a b => decode cX4_findLeaps a = .ok b) dm_cX4_findLeaps_0 40 rfl
theorem dX4_findLeaps_71 : decode cX4_findLeaps 71 = .ok (.if_icmp .ne 56, 3) := dq0 (p := fun a b => decode cX4_findLeaps a = .ok b) dm_cX4_findLeaps_0 41 rfl
theorem dX4_findLeaps_74 : decode cX4_findLeaps 74 = .ok (.aload_n 0, 1) := dq0 (p := fun a b => decode cX4_findLeaps a = .ok b) dm_cX4_findLeaps_0 42 rfl
theorem dX4_findLeaps_75 : decode cX4_findLeaps 75 = .ok (.getfield 25, 3) := dq0 (p := fun a b => decode cX4_findLeaps a = .ok b) dm_cX4_findLeaps_0 43 rfl
theorem dX4_findLeaps_78 : decode cX4_findLeaps 78 = .ok (.iload_n 2, 1) := dq0 (p := fun a b => decode cX4_findLeaps a = .ok b) dm_cX4_findLeaps_0 44 rfl
theorem dX4_findLeaps_79 : decode cX4_findLeaps 79 = .ok (.iload_n 3, 1) := dq0 (p := fun a b => decode cX4_findLeaps a = .ok b) dm_cX4_findLeaps_0 45 rfl
theorem dX4_findLeaps_80 : decode cX4_findLeaps 80 = .ok (.iload_n 2, 1) := dq0 (p := fun a b => decode cX4_findLeaps a = .ok b) dm_cX4_findLeaps_0 46 rfl
theorem dX4_findLeaps_81 : decode cX4_findLeaps 81 = .ok (.bipush 64, 2) := dq0 (p := fun a b => decode cX4_findLeaps a = .ok b) dm_cX4_findLeaps_0 47 rfl
theorem dX4_findLeaps_83 : decode cX4_findLeaps 83 = .ok (.irem, 1) := dq0 (p := fun a b => decode cX4_findLeaps a = .ok b) dm_cX4_findLeaps_0 48 rfl
theorem dX4_findLeaps_84 : decode cX4_findLeaps 84 = .ok (.invokestatic 52, 3) := dq0 (p := fun a b => decode cX4_findLeaps a = .ok b) dm_cX4_findLeaps_0 49 rfl
theorem dX4_findLeaps_87 : decode cX4_findLeaps 87 = .ok (.ifCond .eq 27, 3) := dq0 (p := fun a b => decode cX4_findLeaps a = .ok b) dm_cX4_findLeaps_0 50 rfl
theorem dX4_findLeaps_90 : decode cX4_findLeaps 90 = .ok (.aload_n 0, 1) := dq0 (p := fun a b => decode cX4_findLeaps a = .ok b) dm_cX4_findLeaps_0 51 rfl
theorem dX4_findLeaps_91 : decode cX4_findLeaps 91 = .ok (.getfield 25, 3) := dq0 (p := fun a b => decode cX4_findLeaps a = .ok b) dm_cX4_findLeaps_0 52 rfl
theorem dX4_findLeaps_94 : decode cX4_findLeaps 94 = .ok (.iload_n 2, 1) := dq0 (p := fun a b => decode cX4_findLeaps a = .ok b) dm_cX4_findLeaps_0 53 rfl
theorem dX4_findLeaps_95 : decode cX4_findLeaps 95 = .ok (.bipush 64, 2) := dq0 (p := fun a b => decode cX4_findLeaps a = .ok b) dm_cX4_findLeaps_0 54 rfl
theorem dX4_findLeaps_97 : decode cX4_findLeaps 97 = .ok (.idiv, 1) := dq0 (p := fun a b => decode cX4_findLeaps a = .ok b) dm_cX4_findLeaps_0 55 rfl
theorem dX4_findLeaps_98 : decode cX4_findLeaps 98 = .ok (.bipush 64, 2) := dq0 (p := fun a b => decode cX4_findLeaps a = .ok b) dm_cX4_findLeaps_0 56 rfl
theorem dX4_findLeaps_100 : decode cX4_findLeaps 100 = .ok (.imul, 1) := dq0 (p := fun a b => decode cX4_findLeaps a = .ok b) dm_cX4_findLeaps_0 57 rfl
theorem dX4_findLeaps_101 : decode cX4_findLeaps 101 = .ok (.iload_n 3, 1) := dq0 (p := fun a b => decode cX4_findLeaps a = .ok b) dm_cX4_findLeaps_0 58 rfl
theorem dX4_findLeaps_102 : decode cX4_findLeaps 102 = .ok (.iadd, 1) := dq0 (p := fun a b => decode cX4_findLeaps a = .ok b) dm_cX4_findLeaps_0 59 rfl
theorem dm_cX4_findLeaps_1 : ([(103, .iaload, 1), (104, .iload_n 1, 1), (105, .iconst 1, 1), (106, .isub, 1), (107, .if_icmp .ne 7, 3), (110, .iload_n 1, 1), (111, .goto 9, 3), (114, .aload_n 0, 1), (115, .getfield 25, 3), (118, .iload_n 2, 1), (119, .iaload, 1), (120, .iastore, 1), (121, .iinc 3 1, 3), (124, .goto (-67), 3), (127, .iinc 2 1, 3), (130, .goto (-82), 3), (133, .iinc 1 1, 3), (136, .goto (-96), 3), (139, .return_, 1)] : List (Nat × Instr × Nat)).all (fun t => decide (decode cX4_findLeaps t.1 = .ok t.2)) = true := by decide +kernel
theorem dX4_findLeaps_103 : decode cX4_findLeaps 103 = .ok (.iaload, 1) := dq0 (p := fun a b => decode cX4_findLeaps a = .ok b) dm_cX4_findLeaps_1 0 rfl
theorem dX4_findLeaps_104 : decode cX4_findLeaps 104 = .ok (.iload_n 1, 1) := dq0 (p := fun a b => decode cX4_findLeaps a = .ok b) dm_cX4_findLeaps_1 1 rfl
theorem dX4_findLeaps_105 : decode cX4_findLeaps 105 = .ok (.iconst 1, 1) := dq0 (p := fun a b => decode cX4_findLeaps a = .ok b) dm_cX4_findLeaps_1 2 rfl
theorem dX4_findLeaps_106 : decode cX4_findLeaps 106 = .ok (.isub, 1) := dq0 (p := fun a b => decode cX4_findLeaps a = .ok b) dm_cX4_findLeaps_1 3 rfl
theorem dX4_findLeaps_107 : decode cX4_findLeaps 107 = .ok (.if_icmp .ne 7, 3) := dq0 (p := fun a b => decode cX4_findLeaps a = .ok b) dm_cX4_findLeaps_1 4 rfl
theorem dX4_findLeaps_110 : decode cX4_findLeaps 110 = .ok (.iload_n 1, 1) := dq0 (p := fun a b => decode cX4_findLeaps a = .ok b) dm_cX4_findLeaps_1 5 rfl
theorem dX4_findLeaps_111 : decode cX4_findLeaps 111 = .ok (.goto 9, 3) := dq0 (p := fun a b => decode cX4_findLeaps a = .ok b) dm_cX4_findLeaps_1 6 rfl
theorem dX4_findLeaps_114 : decode cX4_findLeaps 114 = .ok (.aload_n 0, 1) := dq0 (p := fun a b => decode cX4_findLeaps a = .ok b) dm_cX4_findLeaps_1 7 rfl
theorem dX4_findLeaps_115 : decode cX4_findLeaps 115 = .ok (.getfield 25, 3) := dq0 (p := fun a b => decode cX4_findLeaps a = .ok b) dm_cX4_findLeaps_1 8 rfl
theorem dX4_findLeaps_118 : decode cX4_findLeaps 118 = .ok (.iload_n 2, 1) := dq0 (p := fun a b => decode cX4_findLeaps a = .ok b) dm_cX4_findLeaps_1 9 rfl
theorem dX4_findLeaps_119 : decode cX4_findLeaps 119 = .ok (.iaload, 1) := dq0 (p := fun a b => decode cX4_findLeaps a = .ok b) dm_cX4_findLeaps_1 10 rfl
theorem dX4_findLeaps_120 : decode cX4_findLeaps 120 = .ok (.iastore, 1) := dq0 (p := fun a b => decode cX4_findLeaps a = .ok b) dm_cX4_findLeaps_1 11 rfl
theorem dX4_findLeaps_121 : decode cX4_findLeaps 121 = .ok (.iinc 3 1, 3) := dq0 (p := fun a b => decode cX4_findLeaps a = .ok b) dm_cX4_findLeaps_1 12 rfl
theorem dX4_findLeaps_124 : decode cX4_findLeaps 124 = .ok (.goto (-67), 3) := dq0 (p := fun a b => decode cX4_findLeaps a = .ok b) dm_cX4_findLeaps_1 13 rfl
theorem dX4_findLeaps_127 : decode cX4_findLeaps 127 = .ok (.iinc 2 1, 3) := dq0 (p := fun a b => decode cX4_findLeaps a = .ok b) dm_cX4_findLeaps_1 14 rfl
theorem dX4_findLeaps_130 : decode cX4_findLeaps 130 = .ok (.goto (-82), 3) := dq0 (p := fun a b => decode cX4_findLeaps a = .ok b) dm_cX4_findLeaps_1 15 rfl
theorem dX4_findLeaps_133 : decode cX4_findLeaps 133 = .ok (.iinc 1 1, 3) := dq0 (p := fun a b => decode cX4_findLeaps a = .ok b) dm_cX4_findLeaps_1 16 rfl
theorem dX4_findLeaps_136 : decode cX4_findLeaps 136 = .ok (.goto (-96), 3) := dq0 (p := fun a b => decode cX4_findLeaps a = .ok b) dm_cX4_findLeaps_1 17 rfl
theorem dX4_findLeaps_139 : decode cX4_findLeaps 139 = .ok (.return_, 1) := dq0 (p := fun a b => decode cX4_findLeaps a = .ok b) dm_cX4_findLeaps_1 18 rfl
theorem dm_cX4_leapsOf_0 : ([(0, .aload_n 0, 1), (1, .getfield 25, 3), (4, .bipush 64, 2), (6, .iload_n 1, 1), (7, .imul, 1), (8, .iload_n 2, 1), (9, .iadd, 1), (10, .iaload, 1), (11, .ireturn, 1)] : List (Nat × Instr × Nat)).all (fun t => decide (decode cX4_leapsOf t.1 = .ok t.2)) = true := by decide +kernel
theorem dX4_leapsOf_0 : decode cX4_leapsOf 0 = .ok (.aload_n 0, 1) := dq0 (p := fun a b => decode cX4_leapsOf a = .ok b) dm_cX4_leapsOf_0 0 rfl
theorem dX4_leapsOf_1 : decode cX4_leapsOf 1 = .ok (.getfield 25, 3) := dq0 (p := fun a b => decode cX4_leapsOf a = .ok b) dm_cX4_leapsOf_0 1 rfl
theorem dX4_leapsOf_4 : decode cX4_leapsOf 4 = .ok (.bipush 64, 2) := dq0 (p := fun a b => decode cX4_leapsOf a = .ok b) dm_cX4_leapsOf_0 2 rfl
theorem dX4_leapsOf_6 : decode cX4_leapsOf 6 = .ok (.iload_n 1, 1) := dq0 (p := fun a b => decode cX4_leapsOf a = .ok b) dm_cX4_leapsOf_0 3 rfl
theorem dX4_leapsOf_7 : decode cX4_leapsOf 7 = .ok (.imul, 1) := dq0 (p := fun a b => decode cX4_leapsOf a = .ok b) dm_cX4_leapsOf_0 4 rfl
theorem dX4_leapsOf_8 : decode cX4_leapsOf 8 = .ok (.iload_n 2, 1) := dq0 (p := fun a b => decode cX4_leapsOf a = .ok b) dm_cX4_leapsOf_0 5 rfl
theorem dX4_leapsOf_9 : decode cX4_leapsOf 9 = .ok (.iadd, 1) := dq0 (p := fun a b => decode cX4_leapsOf a = .ok b) dm_cX4_leapsOf_0 6 rfl
theorem dX4_leapsOf_10 : decode cX4_leapsOf 10 = .ok (.iaload, 1) := dq0 (p := fun a b => decode cX4_leapsOf a = .ok b) dm_cX4_leapsOf_0 7 rfl
theorem dX4_leapsOf_11 : decode cX4_leapsOf 11 = .ok (.ireturn, 1) := dq0 (p := fun a b => decode cX4_leapsOf a = .ok b) dm_cX4_leapsOf_0 8 rfl
theorem dm_cX4_kind_0 : ([(0, .aload_n 0, 1), (1, .iload_n 1, 1), (2, .iaload, 1), (3, .bipush 7, 2), (5, .iand, 1), (6, .ireturn, 1)] : List (Nat × Instr × Nat)).all (fun t => decide (decode cX4_kind t.1 = .ok t.2)) = true := by decide +kernel
theorem dX4_kind_0 : decode cX4_kind 0 = .ok (.aload_n 0, 1) := dq0 (p := fun a b => decode cX4_kind a = .ok b) dm_cX4_kind_0 0 rfl
theorem dX4_kind_1 : decode cX4_kind 1 = .ok (.iload_n 1, 1) := dq0 (p := fun a b => decode cX4_kind a = .ok b) dm_cX4_kind_0 1 rfl
theorem dX4_kind_2 : decode cX4_kind 2 = .ok (.iaload, 1) := dq0 (p := fun a b => decode cX4_kind a = .ok b) dm_cX4_kind_0 2 rfl
theorem dX4_kind_3 : decode cX4_kind 3 = .ok (.bipush 7, 2) := dq0 (p := fun a b => decode cX4_kind a = .ok b) dm_cX4_kind_0 3 rfl
theorem dX4_kind_5 : decode cX4_kind 5 = .ok (.iand, 1) := dq0 (p := fun a b => decode cX4_kind a = .ok b) dm_cX4_kind_0 4 rfl
theorem dX4_kind_6 : decode cX4_kind 6 = .ok (.ireturn, 1) := dq0 (p := fun a b => decode cX4_kind a = .ok b) dm_cX4_kind_0 5 rfl
theorem dm_cX4_isOf_0 : ([(0, .aload_n 0, 1), (1, .iload_n 1, 1), (2, .iaload, 1), (3, .ifCond .eq 17, 3), (6, .aload_n 0, 1), (7, .iload_n 1, 1), (8, .iaload, 1), (9, .bipush 8, 2), (11, .iand, 1), (12, .iload_n 2, 1), (13, .if_icmp .ne 7, 3), (16, .iconst 1, 1), (17, .goto 4, 3), (20, .iconst 0, 1), (21, .ireturn, 1)] : List (Nat × Instr × Nat)).all (fun t => decide (decode cX4_isOf t.1 = .ok t.2)) = true := by decide +kernel
theorem dX4_isOf_0 : decode cX4_isOf 0 = .ok (.aload_n 0, 1) := dq0 (p := fun a b => decode cX4_isOf a = .ok b) dm_cX4_isOf_0 0 rfl
theorem dX4_isOf_1 : decode cX4_isOf 1 = .ok (.iload_n 1, 1) := dq0 (p := fun a b => decode cX4_isOf a = .ok b) dm_cX4_isOf_0 1 rfl
theorem dX4_isOf_2 : decode cX4_isOf 2 = .ok (.iaload, 1) := dq0 (p := fun a b => decode cX4_isOf a = .ok b) dm_cX4_isOf_0 2 rfl
theorem dX4_isOf_3 : decode cX4_isOf 3 = .ok (.ifCond .eq 17, 3) := dq0 (p := fun a b => decode cX4_isOf a = .ok b) dm_cX4_isOf_0 3 rfl
theorem dX4_isOf_6 : decode cX4_isOf 6 = .ok (.aload_n 0, 1) := dq0 (p := fun a b => decode cX4_isOf a = .ok b) dm_cX4_isOf_0 4 rfl
theorem dX4_isOf_7 : decode cX4_isOf 7 = .ok (.iload_n 1, 1) := dq0 (p := fun a b => decode cX4_isOf a = .ok b) dm_cX4_isOf_0 5 rfl
theorem dX4_isOf_8 : decode cX4_isOf 8 = .ok (.iaload, 1) := dq0 (p := fun a b => decode cX4_isOf a = .ok b) dm_cX4_isOf_0 6 rfl
theorem dX4_isOf_9 : decode cX4_isOf 9 = .ok (.bipush 8, 2) := dq0 (p := fun a b => decode cX4_isOf a = .ok b) dm_cX4_isOf_0 7 rfl
theorem dX4_isOf_11 : decode cX4_isOf 11 = .ok (.iand, 1) := dq0 (p := fun a b => decode cX4_isOf a = .ok b) dm_cX4_isOf_0 8 rfl
theorem dX4_isOf_12 : decode cX4_isOf 12 = .ok (.iload_n 2, 1) := dq0 (p := fun a b => decode cX4_isOf a = .ok b) dm_cX4_isOf_0 9 rfl
theorem dX4_isOf_13 : decode cX4_isOf 13 = .ok (.if_icmp .ne 7, 3) := dq0 (p := fun a b => decode cX4_isOf a = .ok b) dm_cX4_isOf_0 10 rfl
theorem dX4_isOf_16 : decode cX4_isOf 16 = .ok (.iconst 1, 1) := dq0 (p := fun a b => decode cX4_isOf a = .ok b) dm_cX4_isOf_0 11 rfl
theorem dX4_isOf_17 : decode cX4_isOf 17 = .ok (.goto 4, 3) := dq0 (p := fun a b => decode cX4_isOf a = .ok b) dm_cX4_isOf_0 12 rfl
theorem dX4_isOf_20 : decode cX4_isOf 20 = .ok (.iconst 0, 1) := dq0 (p := fun a b => decode cX4_isOf a = .ok b) dm_cX4_isOf_0 13 rfl
theorem dX4_isOf_21 : decode cX4_isOf 21 = .ok (.ireturn, 1) := dq0 (p := fun a b => decode cX4_isOf a = .ok b) dm_cX4_isOf_0 14 rfl
theorem dm_cX4_isOwn_0 : ([(0, .aload_n 0, 1), (1, .iload_n 1, 1), (2, .iaload, 1), (3, .iload_n 3, 1), (4, .iload_n 2, 1), (5, .iadd, 1), (6, .if_icmp .ne 7, 3), (9, .iconst 1, 1), (10, .goto 4, 3), (13, .iconst 0, 1), (14, .ireturn, 1)] : List (Nat × Instr × Nat)).all (fun t => decide (decode cX4_isOwn t.1 = .ok t.2)) = true := by decide +kernel
theorem dX4_isOwn_0 : decode cX4_isOwn 0 = .ok (.aload_n 0, 1) := dq0 (p := fun a b => decode cX4_isOwn a = .ok b) dm_cX4_isOwn_0 0 rfl
theorem dX4_isOwn_1 : decode cX4_isOwn 1 = .ok (.iload_n 1, 1) := dq0 (p := fun a b => decode cX4_isOwn a = .ok b) dm_cX4_isOwn_0 1 rfl
theorem dX4_isOwn_2 : decode cX4_isOwn 2 = .ok (.iaload, 1) := dq0 (p := fun a b => decode cX4_isOwn a = .ok b) dm_cX4_isOwn_0 2 rfl
theorem dX4_isOwn_3 : decode cX4_isOwn 3 = .ok (.iload_n 3, 1) := dq0 (p := fun a b => decode cX4_isOwn a = .ok b) dm_cX4_isOwn_0 3 rfl
theorem dX4_isOwn_4 : decode cX4_isOwn 4 = .ok (.iload_n 2, 1) := dq0 (p := fun a b => decode cX4_isOwn a = .ok b) dm_cX4_isOwn_0 4 rfl
theorem dX4_isOwn_5 : decode cX4_isOwn 5 = .ok (.iadd, 1) := dq0 (p := fun a b => decode cX4_isOwn a = .ok b) dm_cX4_isOwn_0 5 rfl
theorem dX4_isOwn_6 : decode cX4_isOwn 6 = .ok (.if_icmp .ne 7, 3) := dq0 (p := fun a b => decode cX4_isOwn a = .ok b) dm_cX4_isOwn_0 6 rfl
theorem dX4_isOwn_9 : decode cX4_isOwn 9 = .ok (.iconst 1, 1) := dq0 (p := fun a b => decode cX4_isOwn a = .ok b) dm_cX4_isOwn_0 7 rfl
theorem dX4_isOwn_10 : decode cX4_isOwn 10 = .ok (.goto 4, 3) := dq0 (p := fun a b => decode cX4_isOwn a = .ok b) dm_cX4_isOwn_0 8 rfl
theorem dX4_isOwn_13 : decode cX4_isOwn 13 = .ok (.iconst 0, 1) := dq0 (p := fun a b => decode cX4_isOwn a = .ok b) dm_cX4_isOwn_0 9 rfl
theorem dX4_isOwn_14 : decode cX4_isOwn 14 = .ok (.ireturn, 1) := dq0 (p := fun a b => decode cX4_isOwn a = .ok b) dm_cX4_isOwn_0 10 rfl
theorem dm_cX4_king_0 : ([(0, .iconst 0, 1), (1, .istore_n 2, 1), (2, .iload_n 2, 1), (3, .bipush 64, 2), (5, .if_icmp .ge 21, 3), (8, .aload_n 0, 1), (9, .iload_n 2, 1), (10, .iconst 1, 1), (11, .iload_n 1, 1), (12, .invokestatic 56, 3), (15, .ifCond .eq 5, 3), (18, .iload_n 2, 1), (19, .ireturn, 1), (20, .iinc 2 1, 3), (23, .goto (-21), 3), (26, .iconst (-1), 1), (27, .ireturn, 1)] : List (Nat × Instr × Nat)).all (fun t => decide (decode cX4_king t.1 = .ok t.2)) = true := by decide +kernel
theorem dX4_king_0 : decode cX4_king 0 = .ok (.iconst 0, 1) := dq0 (p := fun a b => decode cX4_king a = .ok b) dm_cX4_king_0 0 rfl
theorem dX4_king_1 : decode cX4_king 1 = .ok (.istore_n 2, 1) := dq0 (p := fun a b => decode cX4_king a = .ok b) dm_cX4_king_0 1 rfl
theorem dX4_king_2 : decode cX4_king 2 = .ok (.iload_n 2, 1) := dq0 (p := fun a b => decode cX4_king a = .ok b) dm_cX4_king_0 2 rfl
theorem dX4_king_3 : decode cX4_king 3 = .ok (.bipush 64, 2) := dq0 (p := fun a b => decode cX4_king a = .ok b) dm_cX4_king_0 3 rfl
theorem dX4_king_5 : decode cX4_king 5 = .ok (.if_icmp .ge 21, 3) := dq0 (p := fun a b => decode cX4_king a = .ok b) dm_cX4_king_0 4 rfl
theorem dX4_king_8 : decode cX4_king 8 = .ok (.aload_n 0, 1) := dq0 (p := fun a b => decode cX4_king a = .ok b) dm_cX4_king_0 5 rfl
theorem dX4_king_9 : decode cX4_king 9 = .ok (.iload_n 2, 1) := dq0 (p := fun a b => decode cX4_king a = .ok b) dm_cX4_king_0 6 rfl
theorem dX4_king_10 : decode cX4_king 10 = .ok (.iconst 1, 1) := dq0 (p := fun a b => decode cX4_king a = .ok b) dm_cX4_king_0 7 rfl
theorem dX4_king_11 : decode cX4_king 11 = .ok (.iload_n 1, 1) := dq0 (p := fun a b => decode cX4_king a = .ok b) dm_cX4_king_0 8 rfl
theorem dX4_king_12 : decode cX4_king 12 = .ok (.invokestatic 56, 3) := dq0 (p := fun a b => decode cX4_king a = .ok b) dm_cX4_king_0 9 rfl
theorem dX4_king_15 : decode cX4_king 15 = .ok (.ifCond .eq 5, 3) := dq0 (p := fun a b => decode cX4_king a = .ok b) dm_cX4_king_0 10 rfl
theorem dX4_king_18 : decode cX4_king 18 = .ok (.iload_n 2, 1) := dq0 (p := fun a b => decode cX4_king a = .ok b) dm_cX4_king_0 11 rfl
theorem dX4_king_19 : decode cX4_king 19 = .ok (.ireturn, 1) := dq0 (p := fun a b => decode cX4_king a = .ok b) dm_cX4_king_0 12 rfl
theorem dX4_king_20 : decode cX4_king 20 = .ok (.iinc 2 1, 3) := dq0 (p := fun a b => decode cX4_king a = .ok b) dm_cX4_king_0 13 rfl
theorem dX4_king_23 : decode cX4_king 23 = .ok (.goto (-21), 3) := dq0 (p := fun a b => decode cX4_king a = .ok b) dm_cX4_king_0 14 rfl
theorem dX4_king_26 : decode cX4_king 26 = .ok (.iconst (-1), 1) := dq0 (p := fun a b => decode cX4_king a = .ok b) dm_cX4_king_0 15 rfl
theorem dX4_king_27 : decode cX4_king 27 = .ok (.ireturn, 1) := dq0 (p := fun a b => decode cX4_king a = .ok b) dm_cX4_king_0 16 rfl
theorem dm_cX4_tie_0 : ([(0, .aload_n 0, 1), (1, .bipush 64, 2), (3, .iload_n 1, 1), (4, .iadd, 1), (5, .iload_n 2, 1), (6, .iastore, 1), (7, .aload_n 0, 1), (8, .bipush 64, 2), (10, .iload_n 2, 1), (11, .iadd, 1), (12, .iload_n 1, 1), (13, .iastore, 1), (14, .return_, 1)] : List (Nat × Instr × Nat)).all (fun t => decide (decode cX4_tie t.1 = .ok t.2)) = true := by decide +kernel
theorem dX4_tie_0 : decode cX4_tie 0 = .ok (.aload_n 0, 1) := dq0 (p := fun a b => decode cX4_tie a = .ok b) dm_cX4_tie_0 0 rfl
theorem dX4_tie_1 : decode cX4_tie 1 = .ok (.bipush 64, 2) := dq0 (p := fun a b => decode cX4_tie a = .ok b) dm_cX4_tie_0 1 rfl
theorem dX4_tie_3 : decode cX4_tie 3 = .ok (.iload_n 1, 1) := dq0 (p := fun a b => decode cX4_tie a = .ok b) dm_cX4_tie_0 2 rfl
theorem dX4_tie_4 : decode cX4_tie 4 = .ok (.iadd, 1) := dq0 (p := fun a b => decode cX4_tie a = .ok b) dm_cX4_tie_0 3 rfl
theorem dX4_tie_5 : decode cX4_tie 5 = .ok (.iload_n 2, 1) := dq0 (p := fun a b => decode cX4_tie a = .ok b) dm_cX4_tie_0 4 rfl
theorem dX4_tie_6 : decode cX4_tie 6 = .ok (.iastore, 1) := dq0 (p := fun a b => decode cX4_tie a = .ok b) dm_cX4_tie_0 5 rfl
theorem dX4_tie_7 : decode cX4_tie 7 = .ok (.aload_n 0, 1) := dq0 (p := fun a b => decode cX4_tie a = .ok b) dm_cX4_tie_0 6 rfl
theorem dX4_tie_8 : decode cX4_tie 8 = .ok (.bipush 64, 2) := dq0 (p := fun a b => decode cX4_tie a = .ok b) dm_cX4_tie_0 7 rfl
theorem dX4_tie_10 : decode cX4_tie 10 = .ok (.iload_n 2, 1) := dq0 (p := fun a b => decode cX4_tie a = .ok b) dm_cX4_tie_0 8 rfl
theorem dX4_tie_11 : decode cX4_tie 11 = .ok (.iadd, 1) := dq0 (p := fun a b => decode cX4_tie a = .ok b) dm_cX4_tie_0 9 rfl
theorem dX4_tie_12 : decode cX4_tie 12 = .ok (.iload_n 1, 1) := dq0 (p := fun a b => decode cX4_tie a = .ok b) dm_cX4_tie_0 10 rfl
theorem dX4_tie_13 : decode cX4_tie 13 = .ok (.iastore, 1) := dq0 (p := fun a b => decode cX4_tie a = .ok b) dm_cX4_tie_0 11 rfl
theorem dX4_tie_14 : decode cX4_tie 14 = .ok (.return_, 1) := dq0 (p := fun a b => decode cX4_tie a = .ok b) dm_cX4_tie_0 12 rfl
theorem dm_cX4_untie_0 : ([(0, .aload_n 0, 1), (1, .bipush 64, 2), (3, .iload_n 1, 1), (4, .iadd, 1), (5, .iaload, 1), (6, .istore_n 2, 1), (7, .iload_n 2, 1), (8, .iconst (-1), 1), (9, .if_icmp .eq 17, 3), (12, .aload_n 0, 1), (13, .bipush 64, 2), (15, .iload_n 2, 1), (16, .iadd, 1), (17, .iconst (-1), 1), (18, .iastore, 1), (19, .aload_n 0, 1), (20, .bipush 64, 2), (22, .iload_n 1, 1), (23, .iadd, 1), (24, .iconst (-1), 1), (25, .iastore, 1), (26, .return_, 1)] : List (Nat × Instr × Nat)).all (fun t => decide (decode cX4_untie t.1 = .ok t.2)) = true := by decide +kernel
theorem dX4_untie_0 : decode cX4_untie 0 = .ok (.aload_n 0, 1) := dq0 (p := fun a b => decode cX4_untie a = .ok b) dm_cX4_untie_0 0 rfl
theorem dX4_untie_1 : decode cX4_untie 1 = .ok (.bipush 64, 2) := dq0 (p := fun a b => decode cX4_untie a = .ok b) dm_cX4_untie_0 1 rfl
theorem dX4_untie_3 : decode cX4_untie 3 = .ok (.iload_n 1, 1) := dq0 (p := fun a b => decode cX4_untie a = .ok b) dm_cX4_untie_0 2 rfl
theorem dX4_untie_4 : decode cX4_untie 4 = .ok (.iadd, 1) := dq0 (p := fun a b => decode cX4_untie a = .ok b) dm_cX4_untie_0 3 rfl
theorem dX4_untie_5 : decode cX4_untie 5 = .ok (.iaload, 1) := dq0 (p := fun a b => decode cX4_untie a = .ok b) dm_cX4_untie_0 4 rfl
theorem dX4_untie_6 : decode cX4_untie 6 = .ok (.istore_n 2, 1) := dq0 (p := fun a b => decode cX4_untie a = .ok b) dm_cX4_untie_0 5 rfl
theorem dX4_untie_7 : decode cX4_untie 7 = .ok (.iload_n 2, 1) := dq0 (p := fun a b => decode cX4_untie a = .ok b) dm_cX4_untie_0 6 rfl
theorem dX4_untie_8 : decode cX4_untie 8 = .ok (.iconst (-1), 1) := dq0 (p := fun a b => decode cX4_untie a = .ok b) dm_cX4_untie_0 7 rfl
theorem dX4_untie_9 : decode cX4_untie 9 = .ok (.if_icmp .eq 17, 3) := dq0 (p := fun a b => decode cX4_untie a = .ok b) dm_cX4_untie_0 8 rfl
theorem dX4_untie_12 : decode cX4_untie 12 = .ok (.aload_n 0, 1) := dq0 (p := fun a b => decode cX4_untie a = .ok b) dm_cX4_untie_0 9 rfl
theorem dX4_untie_13 : decode cX4_untie 13 = .ok (.bipush 64, 2) := dq0 (p := fun a b => decode cX4_untie a = .ok b) dm_cX4_untie_0 10 rfl
theorem dX4_untie_15 : decode cX4_untie 15 = .ok (.iload_n 2, 1) := dq0 (p := fun a b => decode cX4_untie a = .ok b) dm_cX4_untie_0 11 rfl
theorem dX4_untie_16 : decode cX4_untie 16 = .ok (.iadd, 1) := dq0 (p := fun a b => decode cX4_untie a = .ok b) dm_cX4_untie_0 12 rfl
theorem dX4_untie_17 : decode cX4_untie 17 = .ok (.iconst (-1), 1) := dq0 (p := fun a b => decode cX4_untie a = .ok b) dm_cX4_untie_0 13 rfl
theorem dX4_untie_18 : decode cX4_untie 18 = .ok (.iastore, 1) := dq0 (p := fun a b => decode cX4_untie a = .ok b) dm_cX4_untie_0 14 rfl
theorem dX4_untie_19 : decode cX4_untie 19 = .ok (.aload_n 0, 1) := dq0 (p := fun a b => decode cX4_untie a = .ok b) dm_cX4_untie_0 15 rfl
theorem dX4_untie_20 : decode cX4_untie 20 = .ok (.bipush 64, 2) := dq0 (p := fun a b => decode cX4_untie a = .ok b) dm_cX4_untie_0 16 rfl
theorem dX4_untie_22 : decode cX4_untie 22 = .ok (.iload_n 1, 1) := dq0 (p := fun a b => decode cX4_untie a = .ok b) dm_cX4_untie_0 17 rfl
theorem dX4_untie_23 : decode cX4_untie 23 = .ok (.iadd, 1) := dq0 (p := fun a b => decode cX4_untie a = .ok b) dm_cX4_untie_0 18 rfl
theorem dX4_untie_24 : decode cX4_untie 24 = .ok (.iconst (-1), 1) := dq0 (p := fun a b => decode cX4_untie a = .ok b) dm_cX4_untie_0 19 rfl
theorem dX4_untie_25 : decode cX4_untie 25 = .ok (.iastore, 1) := dq0 (p := fun a b => decode cX4_untie a = .ok b) dm_cX4_untie_0 20 rfl
theorem dX4_untie_26 : decode cX4_untie 26 = .ok (.return_, 1) := dq0 (p := fun a b => decode cX4_untie a = .ok b) dm_cX4_untie_0 21 rfl
theorem dm_cX4_clear_0 : ([(0, .iconst 0, 1), (1, .istore_n 1, 1), (2, .iload_n 1, 1), (3, .sipush 146, 3), (6, .if_icmp .ge 33, 3), (9, .aload_n 0, 1), (10, .getfield 13, 3), (13, .iload_n 1, 1), (14, .iload_n 1, 1), (15, .bipush 64, 2), (17, .if_icmp .lt 14, 3), (20, .iload_n 1, 1), (21, .sipush 128, 3), (24, .if_icmp .ge 7, 3), (27, .iconst (-1), 1), (28, .goto 4, 3), (31, .iconst 0, 1), (32, .iastore, 1), (33, .iinc 1 1, 3), (36, .goto (-34), 3), (39, .return_, 1)] : List (Nat × Instr × Nat)).all (fun t => decide (decode cX4_clear t.1 = .ok t.2)) = true := by decide +kernel
theorem dX4_clear_0 : decode cX4_clear 0 = .ok (.iconst 0, 1) := dq0 (p := fun a b => decode cX4_clear a = .ok b) dm_cX4_clear_0 0 rfl
theorem dX4_clear_1 : decode cX4_clear 1 = .ok (.istore_n 1, 1) := dq0 (p := fun a b => decode cX4_clear a = .ok b) dm_cX4_clear_0 1 rfl
theorem dX4_clear_2 : decode cX4_clear 2 = .ok (.iload_n 1, 1) := dq0 (p := fun a b => decode cX4_clear a = .ok b) dm_cX4_clear_0 2 rfl
theorem dX4_clear_3 : decode cX4_clear 3 = .ok (.sipush 146, 3) := dq0 (p := fun a b => decode cX4_clear a = .ok b) dm_cX4_clear_0 3 rfl
theorem dX4_clear_6 : decode cX4_clear 6 = .ok (.if_icmp .ge 33, 3) := dq0 (p := fun a b => decode cX4_clear a = .ok b) dm_cX4_clear_0 4 rfl
theorem dX4_clear_9 : decode cX4_clear 9 = .ok (.aload_n 0, 1) := dq0 (p := fun a b => decode cX4_clear a = .ok b) dm_cX4_clear_0 5 rfl
theorem dX4_clear_10 : decode cX4_clear 10 = .ok (.getfield 13, 3) := dq0 (p := fun a b => decode cX4_clear a = .ok b) dm_cX4_clear_0 6 rfl
theorem dX4_clear_13 : decode cX4_clear 13 = .ok (.iload_n 1, 1) := dq0 (p := fun a b => decode cX4_clear a = .ok b) dm_cX4_clear_0 7 rfl
theorem dX4_clear_14 : decode cX4_clear 14 = .ok (.iload_n 1, 1) := dq0 (p := fun a b => decode cX4_clear a = .ok b) dm_cX4_clear_0 8 rfl
theorem dX4_clear_15 : decode cX4_clear 15 = .ok (.bipush 64, 2) := dq0 (p := fun a b => decode cX4_clear a = .ok b) dm_cX4_clear_0 9 rfl
theorem dX4_clear_17 : decode cX4_clear 17 = .ok (.if_icmp .lt 14, 3) := dq0 (p := fun a b => decode cX4_clear a = .ok b) dm_cX4_clear_0 10 rfl
theorem dX4_clear_20 : decode cX4_clear 20 = .ok (.iload_n 1, 1) := dq0 (p := fun a b => decode cX4_clear a = .ok b) dm_cX4_clear_0 11 rfl
theorem dX4_clear_21 : decode cX4_clear 21 = .ok (.sipush 128, 3) := dq0 (p := fun a b => decode cX4_clear a = .ok b) dm_cX4_clear_0 12 rfl
theorem dX4_clear_24 : decode cX4_clear 24 = .ok (.if_icmp .ge 7, 3) := dq0 (p := fun a b => decode cX4_clear a = .ok b) dm_cX4_clear_0 13 rfl
theorem dX4_clear_27 : decode cX4_clear 27 = .ok (.iconst (-1), 1) := dq0 (p := fun a b => decode cX4_clear a = .ok b) dm_cX4_clear_0 14 rfl
theorem dX4_clear_28 : decode cX4_clear 28 = .ok (.goto 4, 3) := dq0 (p := fun a b => decode cX4_clear a = .ok b) dm_cX4_clear_0 15 rfl
theorem dX4_clear_31 : decode cX4_clear 31 = .ok (.iconst 0, 1) := dq0 (p := fun a b => decode cX4_clear a = .ok b) dm_cX4_clear_0 16 rfl
theorem dX4_clear_32 : decode cX4_clear 32 = .ok (.iastore, 1) := dq0 (p := fun a b => decode cX4_clear a = .ok b) dm_cX4_clear_0 17 rfl
theorem dX4_clear_33 : decode cX4_clear 33 = .ok (.iinc 1 1, 3) := dq0 (p := fun a b => decode cX4_clear a = .ok b) dm_cX4_clear_0 18 rfl
theorem dX4_clear_36 : decode cX4_clear 36 = .ok (.goto (-34), 3) := dq0 (p := fun a b => decode cX4_clear a = .ok b) dm_cX4_clear_0 19 rfl
theorem dX4_clear_39 : decode cX4_clear 39 = .ok (.return_, 1) := dq0 (p := fun a b => decode cX4_clear a = .ok b) dm_cX4_clear_0 20 rfl
theorem dm_cX4_isClear_0 : ([(0, .iload_n 2, 1), (1, .bipush 8, 2), (3, .irem, 1), (4, .iload_n 1, 1), (5, .bipush 8, 2), (7, .irem, 1), (8, .invokestatic 60, 3), (11, .bipush 8, 2), (13, .iload_n 2, 1), (14, .bipush 8, 2), (16, .idiv, 1), (17, .iload_n 1, 1), (18, .bipush 8, 2), (20, .idiv, 1), (21, .invokestatic 60, 3), (24, .imul, 1), (25, .iadd, 1), (26, .istore_n 3, 1), (27, .iload_n 1, 1), (28, .iload_n 3, 1), (29, .iadd, 1), (30, .istore 4, 2), (32, .iload 4, 2), (34, .iload_n 2, 1), (35, .if_icmp .eq 19, 3), (38, .aload_n 0, 1), (39, .iload 4, 2), (41, .iaload, 1), (42, .ifCond .ne 12, 3), (45, .iload 4, 2), (47, .iload_n 3, 1), (48, .iadd, 1), (49, .istore 4, 2), (51, .goto (-19), 3), (54, .iload 4, 2), (56, .iload_n 2, 1), (57, .if_icmp .ne 7, 3), (60, .iconst 1, 1), (61, .goto 4, 3), (64, .iconst 0, 1), (65, .ireturn, 1)] : List (Nat × Instr × Nat)).all (fun t => decide (decode cX4_isClear t.1 = .ok t.2)) = true := by decide +kernel
theorem dX4_isClear_0 : decode cX4_isClear 0 = .ok (.iload_n 2, 1) := dq0 (p := fun a b => decode cX4_isClear a = .ok b) dm_cX4_isClear_0 0 rfl
theorem dX4_isClear_1 : decode cX4_isClear 1 = .ok (.bipush 8, 2) := dq0 (p := fun a b => decode cX4_isClear a = .ok b) dm_cX4_isClear_0 1 rfl
theorem dX4_isClear_3 : decode cX4_isClear 3 = .ok (.irem, 1) := dq0 (p := fun a b => decode cX4_isClear a = .ok b) dm_cX4_isClear_0 2 rfl
theorem dX4_isClear_4 : decode cX4_isClear 4 = .ok (.iload_n 1, 1) := dq0 (p := fun a b => decode cX4_isClear a = .ok b) dm_cX4_isClear_0 3 rfl
theorem dX4_isClear_5 : decode cX4_isClear 5 = .ok (.bipush 8, 2) := dq0 (p := fun a b => decode cX4_isClear a = .ok b) dm_cX4_isClear_0 4 rfl
theorem dX4_isClear_7 : decode cX4_isClear 7 = .ok (.irem, 1) := dq0 (p := fun a b => decode cX4_isClear a = .ok b) dm_cX4_isClear_0 5 rfl
theorem dX4_isClear_8 : decode cX4_isClear 8 = .ok (.invokestatic 60, 3) := dq0 (p := fun a b => decode cX4_isClear a = .ok b) dm_cX4_isClear_0 6 rfl
theorem dX4_isClear_11 : decode cX4_isClear 11 = .ok (.bipush 8, 2) := dq0 (p := fun a b => decode cX4_isClear a = .ok b) dm_cX4_isClear_0 7 rfl
theorem dX4_isClear_13 : decode cX4_isClear 13 = .ok (.iload_n 2, 1) := dq0 (p := fun a b => decode cX4_isClear a = .ok b) dm_cX4_isClear_0 8 rfl
theorem dX4_isClear_14 : decode cX4_isClear 14 = .ok (.bipush 8, 2) := dq0 (p := fun a b => decode cX4_isClear a = .ok b) dm_cX4_isClear_0 9 rfl
theorem dX4_isClear_16 : decode cX4_isClear 16 = .ok (.idiv, 1) := dq0 (p := fun a b => decode cX4_isClear a = .ok b) dm_cX4_isClear_0 10 rfl
theorem dX4_isClear_17 : decode cX4_isClear 17 = .ok (.iload_n 1, 1) := dq0 (p := fun a b => decode cX4_isClear a = .ok b) dm_cX4_isClear_0 11 rfl
theorem dX4_isClear_18 : decode cX4_isClear 18 = .ok (.bipush 8, 2) := dq0 (p := fun a b => decode cX4_isClear a = .ok b) dm_cX4_isClear_0 12 rfl
theorem dX4_isClear_20 : decode cX4_isClear 20 = .ok (.idiv, 1) := dq0 (p := fun a b => decode cX4_isClear a = .ok b) dm_cX4_isClear_0 13 rfl
theorem dX4_isClear_21 : decode cX4_isClear 21 = .ok (.invokestatic 60, 3) := dq0 (p := fun a b => decode cX4_isClear a = .ok b) dm_cX4_isClear_0 14 rfl
theorem dX4_isClear_24 : decode cX4_isClear 24 = .ok (.imul, 1) := dq0 (p := fun a b => decode cX4_isClear a = .ok b) dm_cX4_isClear_0 15 rfl
theorem dX4_isClear_25 : decode cX4_isClear 25 = .ok (.iadd, 1) := dq0 (p := fun a b => decode cX4_isClear a = .ok b) dm_cX4_isClear_0 16 rfl
theorem dX4_isClear_26 : decode cX4_isClear 26 = .ok (.istore_n 3, 1) := dq0 (p := fun a b => decode cX4_isClear a = .ok b) dm_cX4_isClear_0 17 rfl
theorem dX4_isClear_27 : decode cX4_isClear 27 = .ok (.iload_n 1, 1) := dq0 (p := fun a b => decode cX4_isClear a = .ok b) dm_cX4_isClear_0 18 rfl
theorem dX4_isClear_28 : decode cX4_isClear 28 = .ok (.iload_n 3, 1) := dq0 (p := fun a b => decode cX4_isClear a = .ok b) dm_cX4_isClear_0 19 rfl
theorem dX4_isClear_29 : decode cX4_isClear 29 = .ok (.iadd, 1) := dq0 (p := fun a b => decode cX4_isClear a = .ok b) dm_cX4_isClear_0 20 rfl
theorem dX4_isClear_30 : decode cX4_isClear 30 = .ok (.istore 4, 2) := dq0 (p := fun a b => decode cX4_isClear a = .ok b) dm_cX4_isClear_0 21 rfl
theorem dX4_isClear_32 : decode cX4_isClear 32 = .ok (.iload 4, 2) := dq0 (p := fun a b => decode cX4_isClear a = .ok b) dm_cX4_isClear_0 22 rfl
theorem dX4_isClear_34 : decode cX4_isClear 34 = .ok (.iload_n 2, 1) := dq0 (p := fun a b => decode cX4_isClear a = .ok b) dm_cX4_isClear_0 23 rfl
theorem dX4_isClear_35 : decode cX4_isClear 35 = .ok (.if_icmp .eq 19, 3) := dq0 (p := fun a b => decode cX4_isClear a = .ok b) dm_cX4_isClear_0 24 rfl
theorem dX4_isClear_38 : decode cX4_isClear 38 = .ok (.aload_n 0, 1) := dq0 (p := fun a b => decode cX4_isClear a = .ok b) dm_cX4_isClear_0 25 rfl
theorem dX4_isClear_39 : decode cX4_isClear 39 = .ok (.iload 4, 2) := dq0 (p := fun a b => decode cX4_isClear a = .ok b) dm_cX4_isClear_0 26 rfl
theorem dX4_isClear_41 : decode cX4_isClear 41 = .ok (.iaload, 1) := dq0 (p := fun a b => decode cX4_isClear a = .ok b) dm_cX4_isClear_0 27 rfl
theorem dX4_isClear_42 : decode cX4_isClear 42 = .ok (.ifCond .ne 12, 3) := dq0 (p := fun a b => decode cX4_isClear a = .ok b) dm_cX4_isClear_0 28 rfl
theorem dX4_isClear_45 : decode cX4_isClear 45 = .ok (.iload 4, 2) := dq0 (p := fun a b => decode cX4_isClear a = .ok b) dm_cX4_isClear_0 29 rfl
theorem dX4_isClear_47 : decode cX4_isClear 47 = .ok (.iload_n 3, 1) := dq0 (p := fun a b => decode cX4_isClear a = .ok b) dm_cX4_isClear_0 30 rfl
theorem dX4_isClear_48 : decode cX4_isClear 48 = .ok (.iadd, 1) := dq0 (p := fun a b => decode cX4_isClear a = .ok b) dm_cX4_isClear_0 31 rfl
theorem dX4_isClear_49 : decode cX4_isClear 49 = .ok (.istore 4, 2) := dq0 (p := fun a b => decode cX4_isClear a = .ok b) dm_cX4_isClear_0 32 rfl
theorem dX4_isClear_51 : decode cX4_isClear 51 = .ok (.goto (-19), 3) := dq0 (p := fun a b => decode cX4_isClear a = .ok b) dm_cX4_isClear_0 33 rfl
theorem dX4_isClear_54 : decode cX4_isClear 54 = .ok (.iload 4, 2) := dq0 (p := fun a b => decode cX4_isClear a = .ok b) dm_cX4_isClear_0 34 rfl
theorem dX4_isClear_56 : decode cX4_isClear 56 = .ok (.iload_n 2, 1) := dq0 (p := fun a b => decode cX4_isClear a = .ok b) dm_cX4_isClear_0 35 rfl
theorem dX4_isClear_57 : decode cX4_isClear 57 = .ok (.if_icmp .ne 7, 3) := dq0 (p := fun a b => decode cX4_isClear a = .ok b) dm_cX4_isClear_0 36 rfl
theorem dX4_isClear_60 : decode cX4_isClear 60 = .ok (.iconst 1, 1) := dq0 (p := fun a b => decode cX4_isClear a = .ok b) dm_cX4_isClear_0 37 rfl
theorem dX4_isClear_61 : decode cX4_isClear 61 = .ok (.goto 4, 3) := dq0 (p := fun a b => decode cX4_isClear a = .ok b) dm_cX4_isClear_0 38 rfl
theorem dX4_isClear_64 : decode cX4_isClear 64 = .ok (.iconst 0, 1) := dq0 (p := fun a b => decode cX4_isClear a = .ok b) dm_cX4_isClear_0 39 rfl
theorem dX4_isClear_65 : decode cX4_isClear 65 = .ok (.ireturn, 1) := dq0 (p := fun a b => decode cX4_isClear a = .ok b) dm_cX4_isClear_0 40 rfl
theorem dm_cX4_attacks_0 : ([(0, .iload_n 1, 1), (1, .bipush 8, 2), (3, .irem, 1), (4, .iload_n 2, 1), (5, .bipush 8, 2), (7, .irem, 1), (8, .invokestatic 48, 3), (11, .istore_n 3, 1), (12, .iload_n 1, 1), (13, .bipush 8, 2), (15, .idiv, 1), (16, .iload_n 2, 1), (17, .bipush 8, 2), (19, .idiv, 1), (20, .invokestatic 48, 3), (23, .istore 4, 2), (25, .iload_n 3, 1), (26, .ifCond .ne 7, 3), (29, .iconst 1, 1), (30, .goto 4, 3), (33, .iconst 0, 1), (34, .iload 4, 2), (36, .ifCond .ne 7, 3), (39, .iconst 1, 1), (40, .goto 4, 3), (43, .iconst 0, 1), (44, .if_icmp .eq 7, 3), (47, .iconst 1, 1), (48, .goto 4, 3), (51, .iconst 0, 1), (52, .istore 5, 2), (54, .iload_n 3, 1), (55, .iload 4, 2), (57, .if_icmp .ne 11, 3), (60, .iload_n 3, 1), (61, .ifCond .le 7, 3), (64, .iconst 1, 1), (65, .goto 4, 3), (68, .iconst 0, 1), (69, .istore 6, 2), (71, .aload_n 0, 1), (72, .iload_n 1, 1), (73, .invokestatic 65, 3), (76, .tableswitch 166 1 6 #[40, 64, 89, 109, 129, 143], 40), (116, .iload_n 3, 1), (117, .iconst 1, 1), (118, .if_icmp .gt 20, 3), (121, .iload 4, 2), (123, .iconst 1, 1), (124, .if_icmp .gt 14, 3), (127, .iload_n 3, 1), (128, .iload 4, 2), (130, .iadd, 1), (131, .ifCond .le 7, 3), (134, .iconst 1, 1), (135, .goto 4, 3), (138, .iconst 0, 1), (139, .ireturn, 1), (140, .iload 5, 2), (142, .ifCond .ne 8, 3)] : List (Nat × Instr × Nat)).all (fun t => decide (decode cX4_attacks t.1 = .ok t.2)) = true := by decide +kernel
theorem dX4_attacks_0 : decode cX4_attacks 0 = .ok (.iload_n 1, 1) := dq0 (p := fun a b => decode cX4_attacks a = .ok b) dm_cX4_attacks_0 0 rfl
theorem dX4_attacks_1 : decode cX4_attacks 1 = .ok (.bipush 8, 2) := dq0 (p := fun a b => decode cX4_attacks a = .ok b) dm_cX4_attacks_0 1 rfl
theorem dX4_attacks_3 : decode cX4_attacks 3 = .ok (.irem, 1) := dq0 (p := fun a b => decode cX4_attacks a = .ok b) dm_cX4_attacks_0 2 rfl
theorem dX4_attacks_4 : decode cX4_attacks 4 = .ok (.iload_n 2, 1) := dq0 (p := fun a b => decode cX4_attacks a = .ok b) dm_cX4_attacks_0 3 rfl
theorem dX4_attacks_5 : decode cX4_attacks 5 = .ok (.bipush 8, 2) := dq0 (p := fun a b => decode cX4_attacks a = .ok b) dm_cX4_attacks_0 4 rfl
theorem dX4_attacks_7 : decode cX4_attacks 7 = .ok (.irem, 1) := dq0 (p := fun a b => decode cX4_attacks a = .ok b) dm_cX4_attacks_0 5 rfl
theorem dX4_attacks_8 : decode cX4_attacks 8 = .ok (.invokestatic 48, 3) := dq0 (p := fun a b => decode cX4_attacks a = .ok b) dm_cX4_attacks_0 6 rfl
theorem dX4_attacks_11 : decode cX4_attacks 11 = .ok (.istore_n 3, 1) := dq0 (p := fun a b => decode cX4_attacks a = .ok b) dm_cX4_attacks_0 7 rfl
theorem dX4_attacks_12 : decode cX4_attacks 12 = .ok (.iload_n 1, 1) := dq0 (p := fun a b => decode cX4_attacks a = .ok b) dm_cX4_attacks_0 8 rfl
theorem dX4_attacks_13 : decode cX4_attacks 13 = .ok (.bipush 8, 2) := dq0 (p := fun a b => decode cX4_attacks a = .ok b) dm_cX4_attacks_0 9 rfl
theorem dX4_attacks_15 : decode cX4_attacks 15 = .ok (.idiv, 1) := dq0 (p := fun a b => decode cX4_attacks a = .ok b) dm_cX4_attacks_0 10 rfl
theorem dX4_attacks_16 : decode cX4_attacks 16 = .ok (.iload_n 2, 1) := dq0 (p := fun a b => decode cX4_attacks a = .ok b) dm_cX4_attacks_0 11 rfl
theorem dX4_attacks_17 : decode cX4_attacks 17 = .ok (.bipush 8, 2) := dq0 (p := fun a b => decode cX4_attacks a = .ok b) dm_cX4_attacks_0 12 rfl
theorem dX4_attacks_19 : decode cX4_attacks 19 = .ok (.idiv, 1) := dq0 (p := fun a b => decode cX4_attacks a = .ok b) dm_cX4_attacks_0 13 rfl
theorem dX4_attacks_20 : decode cX4_attacks 20 = .ok (.invokestatic 48, 3) := dq0 (p := fun a b => decode cX4_attacks a = .ok b) dm_cX4_attacks_0 14 rfl
theorem dX4_attacks_23 : decode cX4_attacks 23 = .ok (.istore 4, 2) := dq0 (p := fun a b => decode cX4_attacks a = .ok b) dm_cX4_attacks_0 15 rfl
theorem dX4_attacks_25 : decode cX4_attacks 25 = .ok (.iload_n 3, 1) := dq0 (p := fun a b => decode cX4_attacks a = .ok b) dm_cX4_attacks_0 16 rfl
theorem dX4_attacks_26 : decode cX4_attacks 26 = .ok (.ifCond .ne 7, 3) := dq0 (p := fun a b => decode cX4_attacks a = .ok b) dm_cX4_attacks_0 17 rfl
theorem dX4_attacks_29 : decode cX4_attacks 29 = .ok (.iconst 1, 1) := dq0 (p := fun a b => decode cX4_attacks a = .ok b) dm_cX4_attacks_0 18 rfl
theorem dX4_attacks_30 : decode cX4_attacks 30 = .ok (.goto 4, 3) := dq0 (p := fun a b => decode cX4_attacks a = .ok b) dm_cX4_attacks_0 19 rfl
theorem dX4_attacks_33 : decode cX4_attacks 33 = .ok (.iconst 0, 1) := dq0 (p := fun a b => decode cX4_attacks a = .ok b) dm_cX4_attacks_0 20 rfl
theorem dX4_attacks_34 : decode cX4_attacks 34 = .ok (.iload 4, 2) := dq0 (p := fun a b => decode cX4_attacks a = .ok b) dm_cX4_attacks_0 21 rfl
theorem dX4_attacks_36 : decode cX4_attacks 36 = .ok (.ifCond .ne 7, 3) := dq0 (p := fun a b => decode cX4_attacks a = .ok b) dm_cX4_attacks_0 22 rfl
theorem dX4_attacks_39 : decode cX4_attacks 39 = .ok (.iconst 1, 1) := dq0 (p := fun a b => decode cX4_attacks a = .ok b) dm_cX4_attacks_0 23 rfl
theorem dX4_attacks_40 : decode cX4_attacks 40 = .ok (.goto 4, 3) := dq0 (p := fun a b => decode cX4_attacks a = .ok b) dm_cX4_attacks_0 24 rfl
theorem dX4_attacks_43 : decode cX4_attacks 43 = .ok (.iconst 0, 1) := dq0 (p := fun a b => decode cX4_attacks a = .ok b) dm_cX4_attacks_0 25 rfl
theorem dX4_attacks_44 : decode cX4_attacks 44 = .ok (.if_icmp .eq 7, 3) := dq0 (p := fun a b => decode cX4_attacks a = .ok b) dm_cX4_attacks_0 26 rfl
theorem dX4_attacks_47 : decode cX4_attacks 47 = .ok (.iconst 1, 1) := dq0 (p := fun a b => decode cX4_attacks a = .ok b) dm_cX4_attacks_0 27 rfl
theorem dX4_attacks_48 : decode cX4_attacks 48 = .ok (.goto 4, 3) := dq0 (p := fun a b => decode cX4_attacks a = .ok b) dm_cX4_attacks_0 28 rfl
theorem dX4_attacks_51 : decode cX4_attacks 51 = .ok (.iconst 0, 1) := dq0 (p := fun a b => decode cX4_attacks a = .ok b) dm_cX4_attacks_0 29 rfl
theorem dX4_attacks_52 : decode cX4_attacks 52 = .ok (.istore 5, 2) := dq0 (p := fun a b => decode cX4_attacks a = .ok b) dm_cX4_attacks_0 30 rfl
theorem dX4_attacks_54 : decode cX4_attacks 54 = .ok (.iload_n 3, 1) := dq0 (p := fun a b => decode cX4_attacks a = .ok b) dm_cX4_attacks_0 31 rfl
theorem dX4_attacks_55 : decode cX4_attacks 55 = .ok (.iload 4, 2) := dq0 (p := fun a b => decode cX4_attacks a = .ok b) dm_cX4_attacks_0 32 rfl
theorem dX4_attacks_57 : decode cX4_attacks 57 = .ok (.if_icmp .ne 11, 3) := dq0 (p := fun a b => decode cX4_attacks a = .ok b) dm_cX4_attacks_0 33 rfl
theorem dX4_attacks_60 : decode cX4_attacks 60 = .ok (.iload_n 3, 1) := dq0 (p := fun a b => decode cX4_attacks a = .ok b) dm_cX4_attacks_0 34 rfl
theorem dX4_attacks_61 : decode cX4_attacks 61 = .ok (.ifCond .le 7, 3) := dq0 (p := fun a b => decode cX4_attacks a = .ok b) dm_cX4_attacks_0 35 rfl
theorem dX4_attacks_64 : decode cX4_attacks 64 = .ok (.iconst 1, 1) := dq0 (p := fun a b => decode cX4_attacks a = .ok b) dm_cX4_attacks_0 36 rfl
theorem dX4_attacks_65 : decode cX4_attacks 65 = .ok (.goto 4, 3) := dq0 (p := fun a b => decode cX4_attacks a = .ok b) dm_cX4_attacks_0 37 rfl
theorem dX4_attacks_68 : decode cX4_attacks 68 = .ok (.iconst 0, 1) := dq0 (p := fun a b => decode cX4_attacks a = .ok b) dm_cX4_attacks_0 38 rfl
theorem dX4_attacks_69 : decode cX4_attacks 69 = .ok (.istore 6, 2) := dq0 (p := fun a b => decode cX4_attacks a = .ok b) dm_cX4_attacks_0 39 rfl
theorem dX4_attacks_71 : decode cX4_attacks 71 = .ok (.aload_n 0, 1) := dq0 (p := fun a b => decode cX4_attacks a = .ok b) dm_cX4_attacks_0 40 rfl
theorem dX4_attacks_72 : decode cX4_attacks 72 = .ok (.iload_n 1, 1) := dq0 (p := fun a b => decode cX4_attacks a = .ok b) dm_cX4_attacks_0 41 rfl
theorem dX4_attacks_73 : decode cX4_attacks 73 = .ok (.invokestatic 65, 3) := dq0 (p := fun a b => decode cX4_attacks a = .ok b) dm_cX4_attacks_0 42 rfl
theorem dX4_attacks_76 : decode cX4_attacks 76 = .ok (.tableswitch 166 1 6 #[40, 64, 89, 109, 129, 143], 40) := dq0 (p := fun a b => decode cX4_attacks a = .ok b) dm_cX4_attacks_0 43 rfl
theorem dX4_attacks_116 : decode cX4_attacks 116 = .ok (.iload_n 3, 1) := dq0 (p := fun a b => decode cX4_attacks a = .ok b) dm_cX4_attacks_0 44 rfl
theorem dX4_attacks_117 : decode cX4_attacks 117 = .ok (.iconst 1, 1) := dq0 (p := fun a b => decode cX4_attacks a = .ok b) dm_cX4_attacks_0 45 rfl
theorem dX4_attacks_118 : decode cX4_attacks 118 = .ok (.if_icmp .gt 20, 3) := dq0 (p := fun a b => decode cX4_attacks a = .ok b) dm_cX4_attacks_0 46 rfl
theorem dX4_attacks_121 : decode cX4_attacks 121 = .ok (.iload 4, 2) := dq0 (p := fun a b => decode cX4_attacks a = .ok b) dm_cX4_attacks_0 47 rfl
theorem dX4_attacks_123 : decode cX4_attacks 123 = .ok (.iconst 1, 1) := dq0 (p := fun a b => decode cX4_attacks a = .ok b) dm_cX4_attacks_0 48 rfl
theorem dX4_attacks_124 : decode cX4_attacks 124 = .ok (.if_icmp .gt 14, 3) := dq0 (p := fun a b => decode cX4_attacks a = .ok b) dm_cX4_attacks_0 49 rfl
theorem dX4_attacks_127 : decode cX4_attacks 127 = .ok (.iload_n 3, 1) := dq0 (p := fun a b => decode cX4_attacks a = .ok b) dm_cX4_attacks_0 50 rfl
theorem dX4_attacks_128 : decode cX4_attacks 128 = .ok (.iload 4, 2) := dq0 (p := fun a b => decode cX4_attacks a = .ok b) dm_cX4_attacks_0 51 rfl
theorem dX4_attacks_130 : decode cX4_attacks 130 = .ok (.iadd, 1) := dq0 (p := fun a b => decode cX4_attacks a = .ok b) dm_cX4_attacks_0 52 rfl
theorem dX4_attacks_131 : decode cX4_attacks 131 = .ok (.ifCond .le 7, 3) := dq0 (p := fun a b => decode cX4_attacks a = .ok b) dm_cX4_attacks_0 53 rfl
theorem dX4_attacks_134 : decode cX4_attacks 134 = .ok (.iconst 1, 1) := dq0 (p := fun a b => decode cX4_attacks a = .ok b) dm_cX4_attacks_0 54 rfl
theorem dX4_attacks_135 : decode cX4_attacks 135 = .ok (.goto 4, 3) := dq0 (p := fun a b => decode cX4_attacks a = .ok b) dm_cX4_attacks_0 55 rfl
theorem dX4_attacks_138 : decode cX4_attacks 138 = .ok (.iconst 0, 1) := dq0 (p := fun a b => decode cX4_attacks a = .ok b) dm_cX4_attacks_0 56 rfl
theorem dX4_attacks_139 : decode cX4_attacks 139 = .ok (.ireturn, 1) := dq0 (p := fun a b => decode cX4_attacks a = .ok b) dm_cX4_attacks_0 57 rfl
theorem dX4_attacks_140 : decode cX4_attacks 140 = .ok (.iload 5, 2) := dq0 (p := fun a b => decode cX4_attacks a = .ok b) dm_cX4_attacks_0 58 rfl
theorem dX4_attacks_142 : decode cX4_attacks 142 = .ok (.ifCond .ne 8, 3) := dq0 (p := fun a b => decode cX4_attacks a = .ok b) dm_cX4_attacks_0 59 rfl
theorem dm_cX4_attacks_1 : ([(145, .iload 6, 2), (147, .ifCond .eq 16, 3), (150, .aload_n 0, 1), (151, .iload_n 1, 1), (152, .iload_n 2, 1), (153, .invokestatic 69, 3), (156, .ifCond .eq 7, 3), (159, .iconst 1, 1), (160, .goto 4, 3), (163, .iconst 0, 1), (164, .ireturn, 1), (165, .iload 5, 2), (167, .ifCond .eq 16, 3), (170, .aload_n 0, 1), (171, .iload_n 1, 1), (172, .iload_n 2, 1), (173, .invokestatic 69, 3), (176, .ifCond .eq 7, 3), (179, .iconst 1, 1), (180, .goto 4, 3), (183, .iconst 0, 1), (184, .ireturn, 1), (185, .iload 6, 2), (187, .ifCond .eq 16, 3), (190, .aload_n 0, 1), (191, .iload_n 1, 1), (192, .iload_n 2, 1), (193, .invokestatic 69, 3), (196, .ifCond .eq 7, 3), (199, .iconst 1, 1), (200, .goto 4, 3), (203, .iconst 0, 1), (204, .ireturn, 1), (205, .iload_n 3, 1), (206, .iload 4, 2), (208, .imul, 1), (209, .iconst 2, 1), (210, .if_icmp .ne 7, 3), (213, .iconst 1, 1), (214, .goto 4, 3), (217, .iconst 0, 1), (218, .ireturn, 1), (219, .iload_n 3, 1), (220, .iconst 1, 1), (221, .if_icmp .ne 19, 3), (224, .iload_n 2, 1), (225, .bipush 8, 2), (227, .idiv, 1), (228, .aload_n 0, 1), (229, .iload_n 1, 1), (230, .invokestatic 73, 3), (233, .if_icmp .ne 7, 3), (236, .iconst 1, 1), (237, .goto 4, 3), (240, .iconst 0, 1), (241, .ireturn, 1), (242, .iconst 0, 1), (243, .ireturn, 1)] : List (Nat × Instr × Nat)).all (fun t => decide (decode cX4_attacks t.1 = .ok t.2)) = true := by decide +kernel
theorem dX4_attacks_145 : decode cX4_attacks 145 = .ok (.iload 6, 2) := dq0 (p := fun a b => decode cX4_attacks a = .ok b) dm_cX4_attacks_1 0 rfl
theorem dX4_attacks_147 : decode cX4_attacks 147 = .ok (.ifCond .eq 16, 3) := dq0 (p := fun a b => decode cX4_attacks a = .ok b) dm_cX4_attacks_1 1 rfl
theorem dX4_attacks_150 : decode cX4_attacks 150 = .ok (.aload_n 0, 1) := dq0 (p := fun a b => decode cX4_attacks a = .ok b) dm_cX4_attacks_1 2 rfl
theorem dX4_attacks_151 : decode cX4_attacks 151 = .ok (.iload_n 1, 1) := dq0 (p := fun a b => decode cX4_attacks a = .ok b) dm_cX4_attacks_1 3 rfl
theorem dX4_attacks_152 : decode cX4_attacks 152 = .ok (.iload_n 2, 1) := dq0 (p := fun a b => decode cX4_attacks a = .ok b) dm_cX4_attacks_1 4 rfl
theorem dX4_attacks_153 : decode cX4_attacks 153 = .ok (.invokestatic 69, 3) := dq0 (p := fun a b => decode cX4_attacks a = .ok b) dm_cX4_attacks_1 5 rfl
theorem dX4_attacks_156 : decode cX4_attacks 156 = .ok (.ifCond .eq 7, 3) := dq0 (p := fun a b => decode cX4_attacks a = .ok b) dm_cX4_attacks_1 6 rfl
theorem dX4_attacks_159 : decode cX4_attacks 159 = .ok (.iconst 1, 1) := dq0 (p := fun a b => decode cX4_attacks a = .ok b) dm_cX4_attacks_1 7 rfl
theorem dX4_attacks_160 : decode cX4_attacks 160 = .ok (.goto 4, 3) := dq0 (p := fun a b => decode cX4_attacks a = .ok b) dm_cX4_attacks_1 8 rfl
theorem dX4_attacks_163 : decode cX4_attacks 163 = .ok (.iconst 0, 1) := dq0 (p := fun a b => decode cX4_attacks a = .ok b) dm_cX4_attacks_1 9 rfl
theorem dX4_attacks_164 : decode cX4_attacks 164 = .ok (.ireturn, 1) := dq0 (p := fun a b => decode cX4_attacks a = .ok b) dm_cX4_attacks_1 10 rfl
theorem dX4_attacks_165 : decode cX4_attacks 165 = .ok (.iload 5, 2) := dq0 (p := fun a b => decode cX4_attacks a = .ok b) dm_cX4_attacks_1 11 rfl
theorem dX4_attacks_167 : decode cX4_attacks 167 = .ok (.ifCond .eq 16, 3) := dq0 (p := fun a b => decode cX4_attacks a = .ok b) dm_cX4_attacks_1 12 rfl
theorem dX4_attacks_170 : decode cX4_attacks 170 = .ok (.aload_n 0, 1) := dq0 (p := fun a b => decode cX4_attacks a = .ok b) dm_cX4_attacks_1 13 rfl
theorem dX4_attacks_171 : decode cX4_attacks 171 = .ok (.iload_n 1, 1) := dq0 (p := fun a b => decode cX4_attacks a = .ok b) dm_cX4_attacks_1 14 rfl
theorem dX4_attacks_172 : decode cX4_attacks 172 = .ok (.iload_n 2, 1) := dq0 (p := fun a b => decode cX4_attacks a = .ok b) dm_cX4_attacks_1 15 rfl
theorem dX4_attacks_173 : decode cX4_attacks 173 = .ok (.invokestatic 69, 3) := dq0 (p := fun a b => decode cX4_attacks a = .ok b) dm_cX4_attacks_1 16 rfl
theorem dX4_attacks_176 : decode cX4_attacks 176 = .ok (.ifCond .eq 7, 3) := dq0 (p := fun a b => decode cX4_attacks a = .ok b) dm_cX4_attacks_1 17 rfl
theorem dX4_attacks_179 : decode cX4_attacks 179 = .ok (.iconst 1, 1) := dq0 (p := fun a b => decode cX4_attacks a = .ok b) dm_cX4_attacks_1 18 rfl
theorem dX4_attacks_180 : decode cX4_attacks 180 = .ok (.goto 4, 3) := dq0 (p := fun a b => decode cX4_attacks a = .ok b) dm_cX4_attacks_1 19 rfl
theorem dX4_attacks_183 : decode cX4_attacks 183 = .ok (.iconst 0, 1) := dq0 (p := fun a b => decode cX4_attacks a = .ok b) dm_cX4_attacks_1 20 rfl
theorem dX4_attacks_184 : decode cX4_attacks 184 = .ok (.ireturn, 1) := dq0 (p := fun a b => decode cX4_attacks a = .ok b) dm_cX4_attacks_1 21 rfl
theorem dX4_attacks_185 : decode cX4_attacks 185 = .ok (.iload 6, 2) := dq0 (p := fun a b => decode cX4_attacks a = .ok b) dm_cX4_attacks_1 22 rfl
theorem dX4_attacks_187 : decode cX4_attacks 187 = .ok (.ifCond .eq 16, 3) := dq0 (p := fun a b => decode cX4_attacks a = .ok b) dm_cX4_attacks_1 23 rfl
theorem dX4_attacks_190 : decode cX4_attacks 190 = .ok (.aload_n 0, 1) := dq0 (p := fun a b => decode cX4_attacks a = .ok b) dm_cX4_attacks_1 24 rfl
theorem dX4_attacks_191 : decode cX4_attacks 191 = .ok (.iload_n 1, 1) := dq0 (p := fun a b => decode cX4_attacks a = .ok b) dm_cX4_attacks_1 25 rfl
theorem dX4_attacks_192 : decode cX4_attacks 192 = .ok (.iload_n 2, 1) := dq0 (p := fun a b => decode cX4_attacks a = .ok b) dm_cX4_attacks_1 26 rfl
theorem dX4_attacks_193 : decode cX4_attacks 193 = .ok (.invokestatic 69, 3) := dq0 (p := fun a b => decode cX4_attacks a = .ok b) dm_cX4_attacks_1 27 rfl
theorem dX4_attacks_196 : decode cX4_attacks 196 = .ok (.ifCond .eq 7, 3) := dq0 (p := fun a b => decode cX4_attacks a = .ok b) dm_cX4_attacks_1 28 rfl
theorem dX4_attacks_199 : decode cX4_attacks 199 = .ok (.iconst 1, 1) := dq0 (p := fun a b => decode cX4_attacks a = .ok b) dm_cX4_attacks_1 29 rfl
theorem dX4_attacks_200 : decode cX4_attacks 200 = .ok (.goto 4, 3) := dq0 (p := fun a b => decode cX4_attacks a = .ok b) dm_cX4_attacks_1 30 rfl
theorem dX4_attacks_203 : decode cX4_attacks 203 = .ok (.iconst 0, 1) := dq0 (p := fun a b => decode cX4_attacks a = .ok b) dm_cX4_attacks_1 31 rfl
theorem dX4_attacks_204 : decode cX4_attacks 204 = .ok (.ireturn, 1) := dq0 (p := fun a b => decode cX4_attacks a = .ok b) dm_cX4_attacks_1 32 rfl
theorem dX4_attacks_205 : decode cX4_attacks 205 = .ok (.iload_n 3, 1) := dq0 (p := fun a b => decode cX4_attacks a = .ok b) dm_cX4_attacks_1 33 rfl
theorem dX4_attacks_206 : decode cX4_attacks 206 = .ok (.iload 4, 2) := dq0 (p := fun a b => decode cX4_attacks a = .ok b) dm_cX4_attacks_1 34 rfl
theorem dX4_attacks_208 : decode cX4_attacks 208 = .ok (.imul, 1) := dq0 (p := fun a b => decode cX4_attacks a = .ok b) dm_cX4_attacks_1 35 rfl
theorem dX4_attacks_209 : decode cX4_attacks 209 = .ok (.iconst 2, 1) := dq0 (p := fun a b => decode cX4_attacks a = .ok b) dm_cX4_attacks_1 36 rfl
theorem dX4_attacks_210 : decode cX4_attacks 210 = .ok (.if_icmp .ne 7, 3) := dq0 (p := fun a b => decode cX4_attacks a = .ok b) dm_cX4_attacks_1 37 rfl
theorem dX4_attacks_213 : decode cX4_attacks 213 = .ok (.iconst 1, 1) := dq0 (p := fun a b => decode cX4_attacks a = .ok b) dm_cX4_attacks_1 38 rfl
theorem dX4_attacks_214 : decode cX4_attacks 214 = .ok (.goto 4, 3) := dq0 (p := fun a b => decode cX4_attacks a = .ok b) dm_cX4_attacks_1 39 rfl
theorem dX4_attacks_217 : decode cX4_attacks 217 = .ok (.iconst 0, 1) := dq0 (p := fun a b => decode cX4_attacks a = .ok b) dm_cX4_attacks_1 40 rfl
theorem dX4_attacks_218 : decode cX4_attacks 218 = .ok (.ireturn, 1) := dq0 (p := fun a b => decode cX4_attacks a = .ok b) dm_cX4_attacks_1 41 rfl
theorem dX4_attacks_219 : decode cX4_attacks 219 = .ok (.iload_n 3, 1) := dq0 (p := fun a b => decode cX4_attacks a = .ok b) dm_cX4_attacks_1 42 rfl
theorem dX4_attacks_220 : decode cX4_attacks 220 = .ok (.iconst 1, 1) := dq0 (p := fun a b => decode cX4_attacks a = .ok b) dm_cX4_attacks_1 43 rfl
theorem dX4_attacks_221 : decode cX4_attacks 221 = .ok (.if_icmp .ne 19, 3) := dq0 (p := fun a b => decode cX4_attacks a = .ok b) dm_cX4_attacks_1 44 rfl
theorem dX4_attacks_224 : decode cX4_attacks 224 = .ok (.iload_n 2, 1) := dq0 (p := fun a b => decode cX4_attacks a = .ok b) dm_cX4_attacks_1 45 rfl
theorem dX4_attacks_225 : decode cX4_attacks 225 = .ok (.bipush 8, 2) := dq0 (p := fun a b => decode cX4_attacks a = .ok b) dm_cX4_attacks_1 46 rfl
theorem dX4_attacks_227 : decode cX4_attacks 227 = .ok (.idiv, 1) := dq0 (p := fun a b => decode cX4_attacks a = .ok b) dm_cX4_attacks_1 47 rfl
theorem dX4_attacks_228 : decode cX4_attacks 228 = .ok (.aload_n 0, 1) := dq0 (p := fun a b => decode cX4_attacks a = .ok b) dm_cX4_attacks_1 48 rfl
theorem dX4_attacks_229 : decode cX4_attacks 229 = .ok (.iload_n 1, 1) := dq0 (p := fun a b => decode cX4_attacks a = .ok b) dm_cX4_attacks_1 49 rfl
theorem dX4_attacks_230 : decode cX4_attacks 230 = .ok (.invokestatic 73, 3) := dq0 (p := fun a b => decode cX4_attacks a = .ok b) dm_cX4_attacks_1 50 rfl
theorem dX4_attacks_233 : decode cX4_attacks 233 = .ok (.if_icmp .ne 7, 3) := dq0 (p := fun a b => decode cX4_attacks a = .ok b) dm_cX4_attacks_1 51 rfl
theorem dX4_attacks_236 : decode cX4_attacks 236 = .ok (.iconst 1, 1) := dq0 (p := fun a b => decode cX4_attacks a = .ok b) dm_cX4_attacks_1 52 rfl
theorem dX4_attacks_237 : decode cX4_attacks 237 = .ok (.goto 4, 3) := dq0 (p := fun a b => decode cX4_attacks a = .ok b) dm_cX4_attacks_1 53 rfl
theorem dX4_attacks_240 : decode cX4_attacks 240 = .ok (.iconst 0, 1) := dq0 (p := fun a b => decode cX4_attacks a = .ok b) dm_cX4_attacks_1 54 rfl
theorem dX4_attacks_241 : decode cX4_attacks 241 = .ok (.ireturn, 1) := dq0 (p := fun a b => decode cX4_attacks a = .ok b) dm_cX4_attacks_1 55 rfl
theorem dX4_attacks_242 : decode cX4_attacks 242 = .ok (.iconst 0, 1) := dq0 (p := fun a b => decode cX4_attacks a = .ok b) dm_cX4_attacks_1 56 rfl
theorem dX4_attacks_243 : decode cX4_attacks 243 = .ok (.ireturn, 1) := dq0 (p := fun a b => decode cX4_attacks a = .ok b) dm_cX4_attacks_1 57 rfl
theorem dm_cX4_ahead_0 : ([(0, .iload_n 1, 1), (1, .bipush 8, 2), (3, .idiv, 1), (4, .aload_n 0, 1), (5, .iload_n 1, 1), (6, .iaload, 1), (7, .bipush 8, 2), (9, .iand, 1), (10, .bipush 8, 2), (12, .if_icmp .ne 7, 3), (15, .iconst 1, 1), (16, .goto 4, 3), (19, .iconst (-1), 1), (20, .iadd, 1), (21, .ireturn, 1)] : List (Nat × Instr × Nat)).all (fun t => decide (decode cX4_ahead t.1 = .ok t.2)) = true := by decide +kernel
theorem dX4_ahead_0 : decode cX4_ahead 0 = .ok (.iload_n 1, 1) := dq0 (p := fun a b => decode cX4_ahead a = .ok b) dm_cX4_ahead_0 0 rfl
theorem dX4_ahead_1 : decode cX4_ahead 1 = .ok (.bipush 8, 2) := dq0 (p := fun a b => decode cX4_ahead a = .ok b) dm_cX4_ahead_0 1 rfl
theorem dX4_ahead_3 : decode cX4_ahead 3 = .ok (.idiv, 1) := dq0 (p := fun a b => decode cX4_ahead a = .ok b) dm_cX4_ahead_0 2 rfl
theorem dX4_ahead_4 : decode cX4_ahead 4 = .ok (.aload_n 0, 1) := dq0 (p := fun a b => decode cX4_ahead a = .ok b) dm_cX4_ahead_0 3 rfl
theorem dX4_ahead_5 : decode cX4_ahead 5 = .ok (.iload_n 1, 1) := dq0 (p := fun a b => decode cX4_ahead a = .ok b) dm_cX4_ahead_0 4 rfl
theorem dX4_ahead_6 : decode cX4_ahead 6 = .ok (.iaload, 1) := dq0 (p := fun a b => decode cX4_ahead a = .ok b) dm_cX4_ahead_0 5 rfl
theorem dX4_ahead_7 : decode cX4_ahead 7 = .ok (.bipush 8, 2) := dq0 (p := fun a b => decode cX4_ahead a = .ok b) dm_cX4_ahead_0 6 rfl
theorem dX4_ahead_9 : decode cX4_ahead 9 = .ok (.iand, 1) := dq0 (p := fun a b => decode cX4_ahead a = .ok b) dm_cX4_ahead_0 7 rfl
theorem dX4_ahead_10 : decode cX4_ahead 10 = .ok (.bipush 8, 2) := dq0 (p := fun a b => decode cX4_ahead a = .ok b) dm_cX4_ahead_0 8 rfl
theorem dX4_ahead_12 : decode cX4_ahead 12 = .ok (.if_icmp .ne 7, 3) := dq0 (p := fun a b => decode cX4_ahead a = .ok b) dm_cX4_ahead_0 9 rfl
theorem dX4_ahead_15 : decode cX4_ahead 15 = .ok (.iconst 1, 1) := dq0 (p := fun a b => decode cX4_ahead a = .ok b) dm_cX4_ahead_0 10 rfl
theorem dX4_ahead_16 : decode cX4_ahead 16 = .ok (.goto 4, 3) := dq0 (p := fun a b => decode cX4_ahead a = .ok b) dm_cX4_ahead_0 11 rfl
theorem dX4_ahead_19 : decode cX4_ahead 19 = .ok (.iconst (-1), 1) := dq0 (p := fun a b => decode cX4_ahead a = .ok b) dm_cX4_ahead_0 12 rfl
theorem dX4_ahead_20 : decode cX4_ahead 20 = .ok (.iadd, 1) := dq0 (p := fun a b => decode cX4_ahead a = .ok b) dm_cX4_ahead_0 13 rfl
theorem dX4_ahead_21 : decode cX4_ahead 21 = .ok (.ireturn, 1) := dq0 (p := fun a b => decode cX4_ahead a = .ok b) dm_cX4_ahead_0 14 rfl
theorem dm_cX4_isAttacked_0 : ([(0, .iconst 0, 1), (1, .istore_n 3, 1), (2, .iload_n 3, 1), (3, .bipush 64, 2), (5, .if_icmp .ge 29, 3), (8, .aload_n 0, 1), (9, .iload_n 3, 1), (10, .iload_n 2, 1), (11, .invokestatic 76, 3), (14, .ifCond .eq 14, 3), (17, .aload_n 0, 1), (18, .iload_n 3, 1), (19, .iload_n 1, 1), (20, .invokestatic 79, 3), (23, .ifCond .eq 5, 3), (26, .iconst 1, 1), (27, .ireturn, 1), (28, .iinc 3 1, 3), (31, .goto (-29), 3), (34, .iconst 0, 1), (35, .ireturn, 1)] : List (Nat × Instr × Nat)).all (fun t => decide (decode cX4_isAttacked t.1 = .ok t.2)) = true := by decide +kernel
theorem dX4_isAttacked_0 : decode cX4_isAttacked 0 = .ok (.iconst 0, 1) := dq0 (p := fun a b => decode cX4_isAttacked a = .ok b) dm_cX4_isAttacked_0 0 rfl
theorem dX4_isAttacked_1 : decode cX4_isAttacked 1 = .ok (.istore_n 3, 1) := dq0 (p := fun a b => decode cX4_isAttacked a = .ok b) dm_cX4_isAttacked_0 1 rfl
theorem dX4_isAttacked_2 : decode cX4_isAttacked 2 = .ok (.iload_n 3, 1) := dq0 (p := fun a b => decode cX4_isAttacked a = .ok b) dm_cX4_isAttacked_0 2 rfl
theorem dX4_isAttacked_3 : decode cX4_isAttacked 3 = .ok (.bipush 64, 2) := dq0 (p := fun a b => decode cX4_isAttacked a = .ok b) dm_cX4_isAttacked_0 3 rfl
theorem dX4_isAttacked_5 : decode cX4_isAttacked 5 = .ok (.if_icmp .ge 29, 3) := dq0 (p := fun a b => decode cX4_isAttacked a = .ok b) dm_cX4_isAttacked_0 4 rfl
theorem dX4_isAttacked_8 : decode cX4_isAttacked 8 = .ok (.aload_n 0, 1) := dq0 (p := fun a b => decode cX4_isAttacked a = .ok b) dm_cX4_isAttacked_0 5 rfl
theorem dX4_isAttacked_9 : decode cX4_isAttacked 9 = .ok (.iload_n 3, 1) := dq0 (p := fun a b => decode cX4_isAttacked a = .ok b) dm_cX4_isAttacked_0 6 rfl
theorem dX4_isAttacked_10 : decode cX4_isAttacked 10 = .ok (.iload_n 2, 1) := dq0 (p := fun a b => decode cX4_isAttacked a = .ok b) dm_cX4_isAttacked_0 7 rfl
theorem dX4_isAttacked_11 : decode cX4_isAttacked 11 = .ok (.invokestatic 76, 3) := dq0 (p := fun a b => decode cX4_isAttacked a = .ok b) dm_cX4_isAttacked_0 8 rfl
theorem dX4_isAttacked_14 : decode cX4_isAttacked 14 = .ok (.ifCond .eq 14, 3) := dq0 (p := fun a b => decode cX4_isAttacked a = .ok b) dm_cX4_isAttacked_0 9 rfl
theorem dX4_isAttacked_17 : decode cX4_isAttacked 17 = .ok (.aload_n 0, 1) := dq0 (p := fun a b => decode cX4_isAttacked a = .ok b) dm_cX4_isAttacked_0 10 rfl
theorem dX4_isAttacked_18 : decode cX4_isAttacked 18 = .ok (.iload_n 3, 1) := dq0 (p := fun a b => decode cX4_isAttacked a = .ok b) dm_cX4_isAttacked_0 11 rfl
theorem dX4_isAttacked_19 : decode cX4_isAttacked 19 = .ok (.iload_n 1, 1) := dq0 (p := fun a b => decode cX4_isAttacked a = .ok b) dm_cX4_isAttacked_0 12 rfl
theorem dX4_isAttacked_20 : decode cX4_isAttacked 20 = .ok (.invokestatic 79, 3) := dq0 (p := fun a b => decode cX4_isAttacked a = .ok b) dm_cX4_isAttacked_0 13 rfl
theorem dX4_isAttacked_23 : decode cX4_isAttacked 23 = .ok (.ifCond .eq 5, 3) := dq0 (p := fun a b => decode cX4_isAttacked a = .ok b) dm_cX4_isAttacked_0 14 rfl
theorem dX4_isAttacked_26 : decode cX4_isAttacked 26 = .ok (.iconst 1, 1) := dq0 (p := fun a b => decode cX4_isAttacked a = .ok b) dm_cX4_isAttacked_0 15 rfl
theorem dX4_isAttacked_27 : decode cX4_isAttacked 27 = .ok (.ireturn, 1) := dq0 (p := fun a b => decode cX4_isAttacked a = .ok b) dm_cX4_isAttacked_0 16 rfl
theorem dX4_isAttacked_28 : decode cX4_isAttacked 28 = .ok (.iinc 3 1, 3) := dq0 (p := fun a b => decode cX4_isAttacked a = .ok b) dm_cX4_isAttacked_0 17 rfl
theorem dX4_isAttacked_31 : decode cX4_isAttacked 31 = .ok (.goto (-29), 3) := dq0 (p := fun a b => decode cX4_isAttacked a = .ok b) dm_cX4_isAttacked_0 18 rfl
theorem dX4_isAttacked_34 : decode cX4_isAttacked 34 = .ok (.iconst 0, 1) := dq0 (p := fun a b => decode cX4_isAttacked a = .ok b) dm_cX4_isAttacked_0 19 rfl
theorem dX4_isAttacked_35 : decode cX4_isAttacked 35 = .ok (.ireturn, 1) := dq0 (p := fun a b => decode cX4_isAttacked a = .ok b) dm_cX4_isAttacked_0 20 rfl
theorem dm_cX4_inCheck_0 : ([(0, .aload_n 0, 1), (1, .iload_n 1, 1), (2, .invokestatic 82, 3), (5, .istore_n 2, 1), (6, .iload_n 2, 1), (7, .iconst (-1), 1), (8, .if_icmp .eq 19, 3), (11, .aload_n 0, 1), (12, .iload_n 2, 1), (13, .bipush 8, 2), (15, .iload_n 1, 1), (16, .isub, 1), (17, .invokestatic 85, 3), (20, .ifCond .eq 7, 3), (23, .iconst 1, 1), (24, .goto 4, 3), (27, .iconst 0, 1), (28, .ireturn, 1)] : List (Nat × Instr × Nat)).all (fun t => decide (decode cX4_inCheck t.1 = .ok t.2)) = true := by decide +kernel
theorem dX4_inCheck_0 : decode cX4_inCheck 0 = .ok (.aload_n 0, 1) := dq0 (p := fun a b => decode cX4_inCheck a = .ok b) dm_cX4_inCheck_0 0 rfl
theorem dX4_inCheck_1 : decode cX4_inCheck 1 = .ok (.iload_n 1, 1) := dq0 (p := fun a b => decode cX4_inCheck a = .ok b) dm_cX4_inCheck_0 1 rfl
theorem dX4_inCheck_2 : decode cX4_inCheck 2 = .ok (.invokestatic 82, 3) := dq0 (p := fun a b => decode cX4_inCheck a = .ok b) dm_cX4_inCheck_0 2 rfl
theorem dX4_inCheck_5 : decode cX4_inCheck 5 = .ok (.istore_n 2, 1) := dq0 (p := fun a b => decode cX4_inCheck a = .ok b) dm_cX4_inCheck_0 3 rfl
theorem dX4_inCheck_6 : decode cX4_inCheck 6 = .ok (.iload_n 2, 1) := dq0 (p := fun a b => decode cX4_inCheck a = .ok b) dm_cX4_inCheck_0 4 rfl
theorem dX4_inCheck_7 : decode cX4_inCheck 7 = .ok (.iconst (-1), 1) := dq0 (p := fun a b => decode cX4_inCheck a = .ok b) dm_cX4_inCheck_0 5 rfl
theorem dX4_inCheck_8 : decode cX4_inCheck 8 = .ok (.if_icmp .eq 19, 3) := dq0 (p := fun a b => decode cX4_inCheck a = .ok b) dm_cX4_inCheck_0 6 rfl
theorem dX4_inCheck_11 : decode cX4_inCheck 11 = .ok (.aload_n 0, 1) := dq0 (p := fun a b => decode cX4_inCheck a = .ok b) dm_cX4_inCheck_0 7 rfl
theorem dX4_inCheck_12 : decode cX4_inCheck 12 = .ok (.iload_n 2, 1) := dq0 (p := fun a b => decode cX4_inCheck a = .ok b) dm_cX4_inCheck_0 8 rfl
theorem dX4_inCheck_13 : decode cX4_inCheck 13 = .ok (.bipush 8, 2) := dq0 (p := fun a b => decode cX4_inCheck a = .ok b) dm_cX4_inCheck_0 9 rfl
theorem dX4_inCheck_15 : decode cX4_inCheck 15 = .ok (.iload_n 1, 1) := dq0 (p := fun a b => decode cX4_inCheck a = .ok b) dm_cX4_inCheck_0 10 rfl
theorem dX4_inCheck_16 : decode cX4_inCheck 16 = .ok (.isub, 1) := dq0 (p := fun a b => decode cX4_inCheck a = .ok b) dm_cX4_inCheck_0 11 rfl
theorem dX4_inCheck_17 : decode cX4_inCheck 17 = .ok (.invokestatic 85, 3) := dq0 (p := fun a b => decode cX4_inCheck a = .ok b) dm_cX4_inCheck_0 12 rfl
theorem dX4_inCheck_20 : decode cX4_inCheck 20 = .ok (.ifCond .eq 7, 3) := dq0 (p := fun a b => decode cX4_inCheck a = .ok b) dm_cX4_inCheck_0 13 rfl
theorem dX4_inCheck_23 : decode cX4_inCheck 23 = .ok (.iconst 1, 1) := dq0 (p := fun a b => decode cX4_inCheck a = .ok b) dm_cX4_inCheck_0 14 rfl
theorem dX4_inCheck_24 : decode cX4_inCheck 24 = .ok (.goto 4, 3) := dq0 (p := fun a b => decode cX4_inCheck a = .ok b) dm_cX4_inCheck_0 15 rfl
theorem dX4_inCheck_27 : decode cX4_inCheck 27 = .ok (.iconst 0, 1) := dq0 (p := fun a b => decode cX4_inCheck a = .ok b) dm_cX4_inCheck_0 16 rfl
theorem dX4_inCheck_28 : decode cX4_inCheck 28 = .ok (.ireturn, 1) := dq0 (p := fun a b => decode cX4_inCheck a = .ok b) dm_cX4_inCheck_0 17 rfl
theorem dm_cX4_canMove_0 : ([(0, .aload_n 0, 1), (1, .iload_n 1, 1), (2, .iaload, 1), (3, .bipush 8, 2), (5, .iand, 1), (6, .istore_n 3, 1), (7, .aload_n 0, 1), (8, .iload_n 2, 1), (9, .iload_n 3, 1), (10, .invokestatic 76, 3), (13, .ifCond .eq 5, 3), (16, .iconst 0, 1), (17, .ireturn, 1), (18, .aload_n 0, 1), (19, .iload_n 1, 1), (20, .invokestatic 65, 3), (23, .bipush 6, 2), (25, .if_icmp .eq 10, 3), (28, .aload_n 0, 1), (29, .iload_n 1, 1), (30, .iload_n 2, 1), (31, .invokestatic 79, 3), (34, .ireturn, 1), (35, .iload_n 1, 1), (36, .bipush 8, 2), (38, .irem, 1), (39, .iload_n 2, 1), (40, .bipush 8, 2), (42, .irem, 1), (43, .if_icmp .ne 19, 3), (46, .iload_n 2, 1), (47, .bipush 8, 2), (49, .idiv, 1), (50, .aload_n 0, 1), (51, .iload_n 1, 1), (52, .invokestatic 73, 3), (55, .if_icmp .ne 7, 3), (58, .iconst 1, 1), (59, .goto 4, 3), (62, .iconst 0, 1), (63, .istore 4, 2), (65, .aload_n 0, 1), (66, .iload_n 2, 1), (67, .iaload, 1), (68, .ifCond .ne 8, 3), (71, .iload 4, 2), (73, .goto 9, 3), (76, .aload_n 0, 1), (77, .iload_n 1, 1), (78, .iload_n 2, 1), (79, .invokestatic 79, 3), (82, .ireturn, 1)] : List (Nat × Instr × Nat)).all (fun t => decide (decode cX4_canMove t.1 = .ok t.2)) = true := by decide +kernel
theorem dX4_canMove_0 : decode cX4_canMove 0 = .ok (.aload_n 0, 1) := dq0 (p := fun a b => decode cX4_canMove a = .ok b) dm_cX4_canMove_0 0 rfl
theorem dX4_canMove_1 : decode cX4_canMove 1 = .ok (.iload_n 1, 1) := dq0 (p := fun a b => decode cX4_canMove a = .ok b) dm_cX4_canMove_0 1 rfl
theorem dX4_canMove_2 : decode cX4_canMove 2 = .ok (.iaload, 1) := dq0 (p := fun a b => decode cX4_canMove a = .ok b) dm_cX4_canMove_0 2 rfl
theorem dX4_canMove_3 : decode cX4_canMove 3 = .ok (.bipush 8, 2) := dq0 (p := fun a b => decode cX4_canMove a = .ok b) dm_cX4_canMove_0 3 rfl
theorem dX4_canMove_5 : decode cX4_canMove 5 = .ok (.iand, 1) := dq0 (p := fun a b => decode cX4_canMove a = .ok b) dm_cX4_canMove_0 4 rfl
theorem dX4_canMove_6 : decode cX4_canMove 6 = .ok (.istore_n 3, 1) := dq0 (p := fun a b => decode cX4_canMove a = .ok b) dm_cX4_canMove_0 5 rfl
theorem dX4_canMove_7 : decode cX4_canMove 7 = .ok (.aload_n 0, 1) := dq0 (p := fun a b => decode cX4_canMove a = .ok b) dm_cX4_canMove_0 6 rfl
theorem dX4_canMove_8 : decode cX4_canMove 8 = .ok (.iload_n 2, 1) := dq0 (p := fun a b => decode cX4_canMove a = .ok b) dm_cX4_canMove_0 7 rfl
theorem dX4_canMove_9 : decode cX4_canMove 9 = .ok (.iload_n 3, 1) := dq0 (p := fun a b => decode cX4_canMove a = .ok b) dm_cX4_canMove_0 8 rfl
theorem dX4_canMove_10 : decode cX4_canMove 10 = .ok (.invokestatic 76, 3) := dq0 (p := fun a b => decode cX4_canMove a = .ok b) dm_cX4_canMove_0 9 rfl
theorem dX4_canMove_13 : decode cX4_canMove 13 = .ok (.ifCond .eq 5, 3) := dq0 (p := fun a b => decode cX4_canMove a = .ok b) dm_cX4_canMove_0 10 rfl
theorem dX4_canMove_16 : decode cX4_canMove 16 = .ok (.iconst 0, 1) := dq0 (p := fun a b => decode cX4_canMove a = .ok b) dm_cX4_canMove_0 11 rfl
theorem dX4_canMove_17 : decode cX4_canMove 17 = .ok (.ireturn, 1) := dq0 (p := fun a b => decode cX4_canMove a = .ok b) dm_cX4_canMove_0 12 rfl
theorem dX4_canMove_18 : decode cX4_canMove 18 = .ok (.aload_n 0, 1) := dq0 (p := fun a b => decode cX4_canMove a = .ok b) dm_cX4_canMove_0 13 rfl
theorem dX4_canMove_19 : decode cX4_canMove 19 = .ok (.iload_n 1, 1) := dq0 (p := fun a b => decode cX4_canMove a = .ok b) dm_cX4_canMove_0 14 rfl
theorem dX4_canMove_20 : decode cX4_canMove 20 = .ok (.invokestatic 65, 3) := dq0 (p := fun a b => decode cX4_canMove a = .ok b) dm_cX4_canMove_0 15 rfl
theorem dX4_canMove_23 : decode cX4_canMove 23 = .ok (.bipush 6, 2) := dq0 (p := fun a b => decode cX4_canMove a = .ok b) dm_cX4_canMove_0 16 rfl
theorem dX4_canMove_25 : decode cX4_canMove 25 = .ok (.if_icmp .eq 10, 3) := dq0 (p := fun a b => decode cX4_canMove a = .ok b) dm_cX4_canMove_0 17 rfl
theorem dX4_canMove_28 : decode cX4_canMove 28 = .ok (.aload_n 0, 1) := dq0 (p := fun a b => decode cX4_canMove a = .ok b) dm_cX4_canMove_0 18 rfl
theorem dX4_canMove_29 : decode cX4_canMove 29 = .ok (.iload_n 1, 1) := dq0 (p := fun a b => decode cX4_canMove a = .ok b) dm_cX4_canMove_0 19 rfl
theorem dX4_canMove_30 : decode cX4_canMove 30 = .ok (.iload_n 2, 1) := dq0 (p := fun a b => decode cX4_canMove a = .ok b) dm_cX4_canMove_0 20 rfl
theorem dX4_canMove_31 : decode cX4_canMove 31 = .ok (.invokestatic 79, 3) := dq0 (p := fun a b => decode cX4_canMove a = .ok b) dm_cX4_canMove_0 21 rfl
theorem dX4_canMove_34 : decode cX4_canMove 34 = .ok (.ireturn, 1) := dq0 (p := fun a b => decode cX4_canMove a = .ok b) dm_cX4_canMove_0 22 rfl
theorem dX4_canMove_35 : decode cX4_canMove 35 = .ok (.iload_n 1, 1) := dq0 (p := fun a b => decode cX4_canMove a = .ok b) dm_cX4_canMove_0 23 rfl
theorem dX4_canMove_36 : decode cX4_canMove 36 = .ok (.bipush 8, 2) := dq0 (p := fun a b => decode cX4_canMove a = .ok b) dm_cX4_canMove_0 24 rfl
theorem dX4_canMove_38 : decode cX4_canMove 38 = .ok (.irem, 1) := dq0 (p := fun a b => decode cX4_canMove a = .ok b) dm_cX4_canMove_0 25 rfl
theorem dX4_canMove_39 : decode cX4_canMove 39 = .ok (.iload_n 2, 1) := dq0 (p := fun a b => decode cX4_canMove a = .ok b) dm_cX4_canMove_0 26 rfl
theorem dX4_canMove_40 : decode cX4_canMove 40 = .ok (.bipush 8, 2) := dq0 (p := fun a b => decode cX4_canMove a = .ok b) dm_cX4_canMove_0 27 rfl
theorem dX4_canMove_42 : decode cX4_canMove 42 = .ok (.irem, 1) := dq0 (p := fun a b => decode cX4_canMove a = .ok b) dm_cX4_canMove_0 28 rfl
theorem dX4_canMove_43 : decode cX4_canMove 43 = .ok (.if_icmp .ne 19, 3) := dq0 (p := fun a b => decode cX4_canMove a = .ok b) dm_cX4_canMove_0 29 rfl
theorem dX4_canMove_46 : decode cX4_canMove 46 = .ok (.iload_n 2, 1) := dq0 (p := fun a b => decode cX4_canMove a = .ok b) dm_cX4_canMove_0 30 rfl
theorem dX4_canMove_47 : decode cX4_canMove 47 = .ok (.bipush 8, 2) := dq0 (p := fun a b => decode cX4_canMove a = .ok b) dm_cX4_canMove_0 31 rfl
theorem dX4_canMove_49 : decode cX4_canMove 49 = .ok (.idiv, 1) := dq0 (p := fun a b => decode cX4_canMove a = .ok b) dm_cX4_canMove_0 32 rfl
theorem dX4_canMove_50 : decode cX4_canMove 50 = .ok (.aload_n 0, 1) := dq0 (p := fun a b => decode cX4_canMove a = .ok b) dm_cX4_canMove_0 33 rfl
theorem dX4_canMove_51 : decode cX4_canMove 51 = .ok (.iload_n 1, 1) := dq0 (p := fun a b => decode cX4_canMove a = .ok b) dm_cX4_canMove_0 34 rfl
theorem dX4_canMove_52 : decode cX4_canMove 52 = .ok (.invokestatic 73, 3) := dq0 (p := fun a b => decode cX4_canMove a = .ok b) dm_cX4_canMove_0 35 rfl
theorem dX4_canMove_55 : decode cX4_canMove 55 = .ok (.if_icmp .ne 7, 3) := dq0 (p := fun a b => decode cX4_canMove a = .ok b) dm_cX4_canMove_0 36 rfl
theorem dX4_canMove_58 : decode cX4_canMove 58 = .ok (.iconst 1, 1) := dq0 (p := fun a b => decode cX4_canMove a = .ok b) dm_cX4_canMove_0 37 rfl
theorem dX4_canMove_59 : decode cX4_canMove 59 = .ok (.goto 4, 3) := dq0 (p := fun a b => decode cX4_canMove a = .ok b) dm_cX4_canMove_0 38 rfl
theorem dX4_canMove_62 : decode cX4_canMove 62 = .ok (.iconst 0, 1) := dq0 (p := fun a b => decode cX4_canMove a = .ok b) dm_cX4_canMove_0 39 rfl
theorem dX4_canMove_63 : decode cX4_canMove 63 = .ok (.istore 4, 2) := dq0 (p := fun a b => decode cX4_canMove a = .ok b) dm_cX4_canMove_0 40 rfl
theorem dX4_canMove_65 : decode cX4_canMove 65 = .ok (.aload_n 0, 1) := dq0 (p := fun a b => decode cX4_canMove a = .ok b) dm_cX4_canMove_0 41 rfl
theorem dX4_canMove_66 : decode cX4_canMove 66 = .ok (.iload_n 2, 1) := dq0 (p := fun a b => decode cX4_canMove a = .ok b) dm_cX4_canMove_0 42 rfl
theorem dX4_canMove_67 : decode cX4_canMove 67 = .ok (.iaload, 1) := dq0 (p := fun a b => decode cX4_canMove a = .ok b) dm_cX4_canMove_0 43 rfl
theorem dX4_canMove_68 : decode cX4_canMove 68 = .ok (.ifCond .ne 8, 3) := dq0 (p := fun a b => decode cX4_canMove a = .ok b) dm_cX4_canMove_0 44 rfl
theorem dX4_canMove_71 : decode cX4_canMove 71 = .ok (.iload 4, 2) := dq0 (p := fun a b => decode cX4_canMove a = .ok b) dm_cX4_canMove_0 45 rfl
theorem dX4_canMove_73 : decode cX4_canMove 73 = .ok (.goto 9, 3) := dq0 (p := fun a b => decode cX4_canMove a = .ok b) dm_cX4_canMove_0 46 rfl
theorem dX4_canMove_76 : decode cX4_canMove 76 = .ok (.aload_n 0, 1) := dq0 (p := fun a b => decode cX4_canMove a = .ok b) dm_cX4_canMove_0 47 rfl
theorem dX4_canMove_77 : decode cX4_canMove 77 = .ok (.iload_n 1, 1) := dq0 (p := fun a b => decode cX4_canMove a = .ok b) dm_cX4_canMove_0 48 rfl
theorem dX4_canMove_78 : decode cX4_canMove 78 = .ok (.iload_n 2, 1) := dq0 (p := fun a b => decode cX4_canMove a = .ok b) dm_cX4_canMove_0 49 rfl
theorem dX4_canMove_79 : decode cX4_canMove 79 = .ok (.invokestatic 79, 3) := dq0 (p := fun a b => decode cX4_canMove a = .ok b) dm_cX4_canMove_0 50 rfl
theorem dX4_canMove_82 : decode cX4_canMove 82 = .ok (.ireturn, 1) := dq0 (p := fun a b => decode cX4_canMove a = .ok b) dm_cX4_canMove_0 51 rfl
theorem dm_cX4_apply_0 : ([(0, .aload_n 0, 1), (1, .iload_n 2, 1), (2, .iaload, 1), (3, .istore_n 3, 1), (4, .aload_n 0, 1), (5, .iload_n 1, 1), (6, .iaload, 1), (7, .istore 4, 2), (9, .iload_n 3, 1), (10, .ifCond .eq 19, 3), (13, .aload_n 0, 1), (14, .sipush 130, 3), (17, .iload_n 3, 1), (18, .iadd, 1), (19, .dup2, 1), (20, .iaload, 1), (21, .iconst 1, 1), (22, .iadd, 1), (23, .iastore, 1), (24, .aload_n 0, 1), (25, .iload_n 2, 1), (26, .invokestatic 88, 3), (29, .aload_n 0, 1), (30, .iload_n 1, 1), (31, .invokestatic 65, 3), (34, .bipush 6, 2), (36, .if_icmp .ne 7, 3), (39, .iconst 1, 1), (40, .goto 4, 3), (43, .iconst 0, 1), (44, .istore 5, 2), (46, .aload_n 0, 1), (47, .sipush 129, 3), (50, .iload_n 3, 1), (51, .ifCond .ne 8, 3), (54, .iload 5, 2), (56, .ifCond .eq 7, 3), (59, .iconst 0, 1), (60, .goto 10, 3), (63, .aload_n 0, 1), (64, .sipush 129, 3), (67, .iaload, 1), (68, .iconst 1, 1), (69, .iadd, 1), (70, .iastore, 1), (71, .aload_n 0, 1), (72, .iload_n 2, 1), (73, .iload 5, 2), (75, .ifCond .eq 25, 3), (78, .iload_n 2, 1), (79, .bipush 8, 2), (81, .if_icmp .lt 9, 3), (84, .iload_n 2, 1), (85, .bipush 55, 2), (87, .if_icmp .le 13, 3), (90, .iload 4, 2), (92, .bipush 8, 2), (94, .iand, 1), (95, .iconst 2, 1), (96, .iadd, 1)] : List (Nat × Instr × Nat)).all (fun t => decide (decode cX4_apply t.1 = .ok t.2)) = true := by decide +kernel
theorem dX4_apply_0 : decode cX4_apply 0 = .ok (.aload_n 0, 1) := dq0 (p := fun a b => decode cX4_apply a = .ok b) dm_cX4_apply_0 0 rfl
theorem dX4_apply_1 : decode cX4_apply 1 = .ok (.iload_n 2, 1) := dq0 (p := fun a b => decode cX4_apply a = .ok b) dm_cX4_apply_0 1 rfl
theorem dX4_apply_2 : decode cX4_apply 2 = .ok (.iaload, 1) := dq0 (p := fun a b => decode cX4_apply a = .ok b) dm_cX4_apply_0 2 rfl
theorem dX4_apply_3 : decode cX4_apply 3 = .ok (.istore_n 3, 1) := dq0 (p := fun a b => decode cX4_apply a = .ok b) dm_cX4_apply_0 3 rfl
theorem dX4_apply_4 : decode cX4_apply 4 = .ok (.aload_n 0, 1) := dq0 (p := fun a b => decode cX4_apply a = .ok b) dm_cX4_apply_0 4 rfl
theorem dX4_apply_5 : decode cX4_apply 5 = .ok (.iload_n 1, 1) := dq0 (p := fun a b => decode cX4_apply a = .ok b) dm_cX4_apply_0 5 rfl
theorem dX4_apply_6 : decode cX4_apply 6 = .ok (.iaload, 1) := dq0 (p := fun a b => decode cX4_apply a = .ok b) dm_cX4_apply_0 6 rfl
theorem dX4_apply_7 : decode cX4_apply 7 = .ok (.istore 4, 2) := dq0 (p := fun a b => decode cX4_apply a = .ok b) dm_cX4_apply_0 7 rfl
theorem dX4_apply_9 : decode cX4_apply 9 = .ok (.iload_n 3, 1) := dq0 (p := fun a b => decode cX4_apply a = .ok b) dm_cX4_apply_0 8 rfl
theorem dX4_apply_10 : decode cX4_apply 10 = .ok (.ifCond .eq 19, 3) := dq0 (p := fun a b => decode cX4_apply a = .ok b) dm_cX4_apply_0 9 rfl
theorem dX4_apply_13 : decode cX4_apply 13 = .ok (.aload_n 0, 1) := dq0 (p := fun a b => decode cX4_apply a = .ok b) dm_cX4_apply_0 10 rfl
theorem dX4_apply_14 : decode cX4_apply 14 = .ok (.sipush 130, 3) := dq0 (p := fun a b => decode cX4_apply a = .ok b) dm_cX4_apply_0 11 rfl
theorem dX4_apply_17 : decode cX4_apply 17 = .ok (.iload_n 3, 1) := dq0 (p := fun a b => decode cX4_apply a = .ok b) dm_cX4_apply_0 12 rfl
theorem dX4_apply_18 : decode cX4_apply 18 = .ok (.iadd, 1) := dq0 (p := fun a b => decode cX4_apply a = .ok b) dm_cX4_apply_0 13 rfl
theorem dX4_apply_19 : decode cX4_apply 19 = .ok (.dup2, 1) := dq0 (p := fun a b => decode cX4_apply a = .ok b) dm_cX4_apply_0 14 rfl
theorem dX4_apply_20 : decode cX4_apply 20 = .ok (.iaload, 1) := dq0 (p := fun a b => decode cX4_apply a = .ok b) dm_cX4_apply_0 15 rfl
theorem dX4_apply_21 : decode cX4_apply 21 = .ok (.iconst 1, 1) := dq0 (p := fun a b => decode cX4_apply a = .ok b) dm_cX4_apply_0 16 rfl
theorem dX4_apply_22 : decode cX4_apply 22 = .ok (.iadd, 1) := dq0 (p := fun a b => decode cX4_apply a = .ok b) dm_cX4_apply_0 17 rfl
theorem dX4_apply_23 : decode cX4_apply 23 = .ok (.iastore, 1) := dq0 (p := fun a b => decode cX4_apply a = .ok b) dm_cX4_apply_0 18 rfl
theorem dX4_apply_24 : decode cX4_apply 24 = .ok (.aload_n 0, 1) := dq0 (p := fun a b => decode cX4_apply a = .ok b) dm_cX4_apply_0 19 rfl
theorem dX4_apply_25 : decode cX4_apply 25 = .ok (.iload_n 2, 1) := dq0 (p := fun a b => decode cX4_apply a = .ok b) dm_cX4_apply_0 20 rfl
theorem dX4_apply_26 : decode cX4_apply 26 = .ok (.invokestatic 88, 3) := dq0 (p := fun a b => decode cX4_apply a = .ok b) dm_cX4_apply_0 21 rfl
theorem dX4_apply_29 : decode cX4_apply 29 = .ok (.aload_n 0, 1) := dq0 (p := fun a b => decode cX4_apply a = .ok b) dm_cX4_apply_0 22 rfl
theorem dX4_apply_30 : decode cX4_apply 30 = .ok (.iload_n 1, 1) := dq0 (p := fun a b => decode cX4_apply a = .ok b) dm_cX4_apply_0 23 rfl
theorem dX4_apply_31 : decode cX4_apply 31 = .ok (.invokestatic 65, 3) := dq0 (p := fun a b => decode cX4_apply a = .ok b) dm_cX4_apply_0 24 rfl
theorem dX4_apply_34 : decode cX4_apply 34 = .ok (.bipush 6, 2) := dq0 (p := fun a b => decode cX4_apply a = .ok b) dm_cX4_apply_0 25 rfl
theorem dX4_apply_36 : decode cX4_apply 36 = .ok (.if_icmp .ne 7, 3) := dq0 (p := fun a b => decode cX4_apply a = .ok b) dm_cX4_apply_0 26 rfl
theorem dX4_apply_39 : decode cX4_apply 39 = .ok (.iconst 1, 1) := dq0 (p := fun a b => decode cX4_apply a = .ok b) dm_cX4_apply_0 27 rfl
theorem dX4_apply_40 : decode cX4_apply 40 = .ok (.goto 4, 3) := dq0 (p := fun a b => decode cX4_apply a = .ok b) dm_cX4_apply_0 28 rfl
theorem dX4_apply_43 : decode cX4_apply 43 = .ok (.iconst 0, 1) := dq0 (p := fun a b => decode cX4_apply a = .ok b) dm_cX4_apply_0 29 rfl
theorem dX4_apply_44 : decode cX4_apply 44 = .ok (.istore 5, 2) := dq0 (p := fun a b => decode cX4_apply a = .ok b) dm_cX4_apply_0 30 rfl
theorem dX4_apply_46 : decode cX4_apply 46 = .ok (.aload_n 0, 1) := dq0 (p := fun a b => decode cX4_apply a = .ok b) dm_cX4_apply_0 31 rfl
theorem dX4_apply_47 : decode cX4_apply 47 = .ok (.sipush 129, 3) := dq0 (p := fun a b => decode cX4_apply a = .ok b) dm_cX4_apply_0 32 rfl
theorem dX4_apply_50 : decode cX4_apply 50 = .ok (.iload_n 3, 1) := dq0 (p := fun a b => decode cX4_apply a = .ok b) dm_cX4_apply_0 33 rfl
theorem dX4_apply_51 : decode cX4_apply 51 = .ok (.ifCond .ne 8, 3) := dq0 (p := fun a b => decode cX4_apply a = .ok b) dm_cX4_apply_0 34 rfl
theorem dX4_apply_54 : decode cX4_apply 54 = .ok (.iload 5, 2) := dq0 (p := fun a b => decode cX4_apply a = .ok b) dm_cX4_apply_0 35 rfl
theorem dX4_apply_56 : decode cX4_apply 56 = .ok (.ifCond .eq 7, 3) := dq0 (p := fun a b => decode cX4_apply a = .ok b) dm_cX4_apply_0 36 rfl
theorem dX4_apply_59 : decode cX4_apply 59 = .ok (.iconst 0, 1) := dq0 (p := fun a b => decode cX4_apply a = .ok b) dm_cX4_apply_0 37 rfl
theorem dX4_apply_60 : decode cX4_apply 60 = .ok (.goto 10, 3) := dq0 (p := fun a b => decode cX4_apply a = .ok b) dm_cX4_apply_0 38 rfl
theorem dX4_apply_63 : decode cX4_apply 63 = .ok (.aload_n 0, 1) := dq0 (p := fun a b => decode cX4_apply a = .ok b) dm_cX4_apply_0 39 rfl
theorem dX4_apply_64 : decode cX4_apply 64 = .ok (.sipush 129, 3) := dq0 (p := fun a b => decode cX4_apply a = .ok b) dm_cX4_apply_0 40 rfl
theorem dX4_apply_67 : decode cX4_apply 67 = .ok (.iaload, 1) := dq0 (p := fun a b => decode cX4_apply a = .ok b) dm_cX4_apply_0 41 rfl
theorem dX4_apply_68 : decode cX4_apply 68 = .ok (.iconst 1, 1) := dq0 (p := fun a b => decode cX4_apply a = .ok b) dm_cX4_apply_0 42 rfl
theorem dX4_apply_69 : decode cX4_apply 69 = .ok (.iadd, 1) := dq0 (p := fun a b => decode cX4_apply a = .ok b) dm_cX4_apply_0 43 rfl
theorem dX4_apply_70 : decode cX4_apply 70 = .ok (.iastore, 1) := dq0 (p := fun a b => decode cX4_apply a = .ok b) dm_cX4_apply_0 44 rfl
theorem dX4_apply_71 : decode cX4_apply 71 = .ok (.aload_n 0, 1) := dq0 (p := fun a b => decode cX4_apply a = .ok b) dm_cX4_apply_0 45 rfl
theorem dX4_apply_72 : decode cX4_apply 72 = .ok (.iload_n 2, 1) := dq0 (p := fun a b => decode cX4_apply a = .ok b) dm_cX4_apply_0 46 rfl
theorem dX4_apply_73 : decode cX4_apply 73 = .ok (.iload 5, 2) := dq0 (p := fun a b => decode cX4_apply a = .ok b) dm_cX4_apply_0 47 rfl
theorem dX4_apply_75 : decode cX4_apply 75 = .ok (.ifCond .eq 25, 3) := dq0 (p := fun a b => decode cX4_apply a = .ok b) dm_cX4_apply_0 48 rfl
theorem dX4_apply_78 : decode cX4_apply 78 = .ok (.iload_n 2, 1) := dq0 (p := fun a b => decode cX4_apply a = .ok b) dm_cX4_apply_0 49 rfl
theorem dX4_apply_79 : decode cX4_apply 79 = .ok (.bipush 8, 2) := dq0 (p := fun a b => decode cX4_apply a = .ok b) dm_cX4_apply_0 50 rfl
theorem dX4_apply_81 : decode cX4_apply 81 = .ok (.if_icmp .lt 9, 3) := dq0 (p := fun a b => decode cX4_apply a = .ok b) dm_cX4_apply_0 51 rfl
theorem dX4_apply_84 : decode cX4_apply 84 = .ok (.iload_n 2, 1) := dq0 (p := fun a b => decode cX4_apply a = .ok b) dm_cX4_apply_0 52 rfl
theorem dX4_apply_85 : decode cX4_apply 85 = .ok (.bipush 55, 2) := dq0 (p := fun a b => decode cX4_apply a = .ok b) dm_cX4_apply_0 53 rfl
theorem dX4_apply_87 : decode cX4_apply 87 = .ok (.if_icmp .le 13, 3) := dq0 (p := fun a b => decode cX4_apply a = .ok b) dm_cX4_apply_0 54 rfl
theorem dX4_apply_90 : decode cX4_apply 90 = .ok (.iload 4, 2) := dq0 (p := fun a b => decode cX4_apply a = .ok b) dm_cX4_apply_0 55 rfl
theorem dX4_apply_92 : decode cX4_apply 92 = .ok (.bipush 8, 2) := dq0 (p := fun a b => decode cX4_apply a = .ok b) dm_cX4_apply_0 56 rfl
theorem dX4_apply_94 : decode cX4_apply 94 = .ok (.iand, 1) := dq0 (p := fun a b => decode cX4_apply a = .ok b) dm_cX4_apply_0 57 rfl
theorem dX4_apply_95 : decode cX4_apply 95 = .ok (.iconst 2, 1) := dq0 (p := fun a b => decode cX4_apply a = .ok b) dm_cX4_apply_0 58 rfl
theorem dX4_apply_96 : decode cX4_apply 96 = .ok (.iadd, 1) := dq0 (p := fun a b => decode cX4_apply a = .ok b) dm_cX4_apply_0 59 rfl
theorem dm_cX4_apply_1 : ([(97, .goto 5, 3), (100, .iload 4, 2), (102, .iastore, 1), (103, .aload_n 0, 1), (104, .iload_n 1, 1), (105, .iconst 0, 1), (106, .iastore, 1), (107, .aload_n 0, 1), (108, .bipush 64, 2), (110, .iload_n 1, 1), (111, .iadd, 1), (112, .iaload, 1), (113, .istore 6, 2), (115, .iload 6, 2), (117, .iconst (-1), 1), (118, .if_icmp .eq 15, 3), (121, .aload_n 0, 1), (122, .iload_n 1, 1), (123, .invokestatic 88, 3), (126, .aload_n 0, 1), (127, .iload_n 2, 1), (128, .iload 6, 2), (130, .invokestatic 37, 3), (133, .aload_n 0, 1), (134, .sipush 128, 3), (137, .bipush 8, 2), (139, .aload_n 0, 1), (140, .sipush 128, 3), (143, .iaload, 1), (144, .isub, 1), (145, .iastore, 1), (146, .iload_n 3, 1), (147, .bipush 7, 2), (149, .iand, 1), (150, .ireturn, 1)] : List (Nat × Instr × Nat)).all (fun t => decide (decode cX4_apply t.1 = .ok t.2)) = true := by decide +kernel
theorem dX4_apply_97 : decode cX4_apply 97 = .ok (.goto 5, 3) := dq0 (p := fun a b => decode cX4_apply a = .ok b) dm_cX4_apply_1 0 rfl
theorem dX4_apply_100 : decode cX4_apply 100 = .ok (.iload 4, 2) := dq0 (p := fun a b => decode cX4_apply a = .ok b) dm_cX4_apply_1 1 rfl
theorem dX4_apply_102 : decode cX4_apply 102 = .ok (.iastore, 1) := dq0 (p := fun a b => decode cX4_apply a = .ok b) dm_cX4_apply_1 2 rfl
theorem dX4_apply_103 : decode cX4_apply 103 = .ok (.aload_n 0, 1) := dq0 (p := fun a b => decode cX4_apply a = .ok b) dm_cX4_apply_1 3 rfl
theorem dX4_apply_104 : decode cX4_apply 104 = .ok (.iload_n 1, 1) := dq0 (p := fun a b => decode cX4_apply a = .ok b) dm_cX4_apply_1 4 rfl
theorem dX4_apply_105 : decode cX4_apply 105 = .ok (.iconst 0, 1) := dq0 (p := fun a b => decode cX4_apply a = .ok b) dm_cX4_apply_1 5 rfl
theorem dX4_apply_106 : decode cX4_apply 106 = .ok (.iastore, 1) := dq0 (p := fun a b => decode cX4_apply a = .ok b) dm_cX4_apply_1 6 rfl
theorem dX4_apply_107 : decode cX4_apply 107 = .ok (.aload_n 0, 1) := dq0 (p := fun a b => decode cX4_apply a = .ok b) dm_cX4_apply_1 7 rfl
theorem dX4_apply_108 : decode cX4_apply 108 = .ok (.bipush 64, 2) := dq0 (p := fun a b => decode cX4_apply a = .ok b) dm_cX4_apply_1 8 rfl
theorem dX4_apply_110 : decode cX4_apply 110 = .ok (.iload_n 1, 1) := dq0 (p := fun a b => decode cX4_apply a = .ok b) dm_cX4_apply_1 9 rfl
theorem dX4_apply_111 : decode cX4_apply 111 = .ok (.iadd, 1) := dq0 (p := fun a b => decode cX4_apply a = .ok b) dm_cX4_apply_1 10 rfl
theorem dX4_apply_112 : decode cX4_apply 112 = .ok (.iaload, 1) := dq0 (p := fun a b => decode cX4_apply a = .ok b) dm_cX4_apply_1 11 rfl
theorem dX4_apply_113 : decode cX4_apply 113 = .ok (.istore 6, 2) := dq0 (p := fun a b => decode cX4_apply a = .ok b) dm_cX4_apply_1 12 rfl
theorem dX4_apply_115 : decode cX4_apply 115 = .ok (.iload 6, 2) := dq0 (p := fun a b => decode cX4_apply a = .ok b) dm_cX4_apply_1 13 rfl
theorem dX4_apply_117 : decode cX4_apply 117 = .ok (.iconst (-1), 1) := dq0 (p := fun a b => decode cX4_apply a = .ok b) dm_cX4_apply_1 14 rfl
theorem dX4_apply_118 : decode cX4_apply 118 = .ok (.if_icmp .eq 15, 3) := dq0 (p := fun a b => decode cX4_apply a = .ok b) dm_cX4_apply_1 15 rfl
theorem dX4_apply_121 : decode cX4_apply 121 = .ok (.aload_n 0, 1) := dq0 (p := fun a b => decode cX4_apply a = .ok b) dm_cX4_apply_1 16 rfl
theorem dX4_apply_122 : decode cX4_apply 122 = .ok (.iload_n 1, 1) := dq0 (p := fun a b => decode cX4_apply a = .ok b) dm_cX4_apply_1 17 rfl
theorem dX4_apply_123 : decode cX4_apply 123 = .ok (.invokestatic 88, 3) := dq0 (p := fun a b => decode cX4_apply a = .ok b) dm_cX4_apply_1 18 rfl
theorem dX4_apply_126 : decode cX4_apply 126 = .ok (.aload_n 0, 1) := dq0 (p := fun a b => decode cX4_apply a = .ok b) dm_cX4_apply_1 19 rfl
theorem dX4_apply_127 : decode cX4_apply 127 = .ok (.iload_n 2, 1) := dq0 (p := fun a b => decode cX4_apply a = .ok b) dm_cX4_apply_1 20 rfl
theorem dX4_apply_128 : decode cX4_apply 128 = .ok (.iload 6, 2) := dq0 (p := fun a b => decode cX4_apply a = .ok b) dm_cX4_apply_1 21 rfl
theorem dX4_apply_130 : decode cX4_apply 130 = .ok (.invokestatic 37, 3) := dq0 (p := fun a b => decode cX4_apply a = .ok b) dm_cX4_apply_1 22 rfl
theorem dX4_apply_133 : decode cX4_apply 133 = .ok (.aload_n 0, 1) := dq0 (p := fun a b => decode cX4_apply a = .ok b) dm_cX4_apply_1 23 rfl
theorem dX4_apply_134 : decode cX4_apply 134 = .ok (.sipush 128, 3) := dq0 (p := fun a b => decode cX4_apply a = .ok b) dm_cX4_apply_1 24 rfl
theorem dX4_apply_137 : decode cX4_apply 137 = .ok (.bipush 8, 2) := dq0 (p := fun a b => decode cX4_apply a = .ok b) dm_cX4_apply_1 25 rfl
theorem dX4_apply_139 : decode cX4_apply 139 = .ok (.aload_n 0, 1) := dq0 (p := fun a b => decode cX4_apply a = .ok b) dm_cX4_apply_1 26 rfl
theorem dX4_apply_140 : decode cX4_apply 140 = .ok (.sipush 128, 3) := dq0 (p := fun a b => decode cX4_apply a = .ok b) dm_cX4_apply_1 27 rfl
theorem dX4_apply_143 : decode cX4_apply 143 = .ok (.iaload, 1) := dq0 (p := fun a b => decode cX4_apply a = .ok b) dm_cX4_apply_1 28 rfl
theorem dX4_apply_144 : decode cX4_apply 144 = .ok (.isub, 1) := dq0 (p := fun a b => decode cX4_apply a = .ok b) dm_cX4_apply_1 29 rfl
theorem dX4_apply_145 : decode cX4_apply 145 = .ok (.iastore, 1) := dq0 (p := fun a b => decode cX4_apply a = .ok b) dm_cX4_apply_1 30 rfl
theorem dX4_apply_146 : decode cX4_apply 146 = .ok (.iload_n 3, 1) := dq0 (p := fun a b => decode cX4_apply a = .ok b) dm_cX4_apply_1 31 rfl
theorem dX4_apply_147 : decode cX4_apply 147 = .ok (.bipush 7, 2) := dq0 (p := fun a b => decode cX4_apply a = .ok b) dm_cX4_apply_1 32 rfl
theorem dX4_apply_149 : decode cX4_apply 149 = .ok (.iand, 1) := dq0 (p := fun a b => decode cX4_apply a = .ok b) dm_cX4_apply_1 33 rfl
theorem dX4_apply_150 : decode cX4_apply 150 = .ok (.ireturn, 1) := dq0 (p := fun a b => decode cX4_apply a = .ok b) dm_cX4_apply_1 34 rfl
theorem dm_cX4_isFar_0 : ([(0, .iconst 0, 1), (1, .istore_n 3, 1), (2, .iload_n 3, 1), (3, .bipush 64, 2), (5, .if_icmp .ge 45, 3), (8, .aload_n 1, 1), (9, .iload_n 3, 1), (10, .iload_n 2, 1), (11, .invokestatic 76, 3), (14, .ifCond .eq 30, 3), (17, .aload_n 1, 1), (18, .bipush 64, 2), (20, .iload_n 3, 1), (21, .iadd, 1), (22, .iaload, 1), (23, .iconst (-1), 1), (24, .if_icmp .eq 20, 3), (27, .aload_n 0, 1), (28, .iload_n 3, 1), (29, .aload_n 1, 1), (30, .bipush 64, 2), (32, .iload_n 3, 1), (33, .iadd, 1), (34, .iaload, 1), (35, .invokevirtual 92, 3), (38, .iconst 3, 1), (39, .if_icmp .le 5, 3), (42, .iconst 1, 1), (43, .ireturn, 1), (44, .iinc 3 1, 3), (47, .goto (-45), 3), (50, .iconst 0, 1), (51, .ireturn, 1)] : List (Nat × Instr × Nat)).all (fun t => decide (decode cX4_isFar t.1 = .ok t.2)) = true := by decide +kernel
theorem dX4_isFar_0 : decode cX4_isFar 0 = .ok (.iconst 0, 1) := dq0 (p := fun a b => decode cX4_isFar a = .ok b) dm_cX4_isFar_0 0 rfl
theorem dX4_isFar_1 : decode cX4_isFar 1 = .ok (.istore_n 3, 1) := dq0 (p := fun a b => decode cX4_isFar a = .ok b) dm_cX4_isFar_0 1 rfl
theorem dX4_isFar_2 : decode cX4_isFar 2 = .ok (.iload_n 3, 1) := dq0 (p := fun a b => decode cX4_isFar a = .ok b) dm_cX4_isFar_0 2 rfl
theorem dX4_isFar_3 : decode cX4_isFar 3 = .ok (.bipush 64, 2) := dq0 (p := fun a b => decode cX4_isFar a = .ok b) dm_cX4_isFar_0 3 rfl
theorem dX4_isFar_5 : decode cX4_isFar 5 = .ok (.if_icmp .ge 45, 3) := dq0 (p := fun a b => decode cX4_isFar a = .ok b) dm_cX4_isFar_0 4 rfl
theorem dX4_isFar_8 : decode cX4_isFar 8 = .ok (.aload_n 1, 1) := dq0 (p := fun a b => decode cX4_isFar a = .ok b) dm_cX4_isFar_0 5 rfl
theorem dX4_isFar_9 : decode cX4_isFar 9 = .ok (.iload_n 3, 1) := dq0 (p := fun a b => decode cX4_isFar a = .ok b) dm_cX4_isFar_0 6 rfl
theorem dX4_isFar_10 : decode cX4_isFar 10 = .ok (.iload_n 2, 1) := dq0 (p := fun a b => decode cX4_isFar a = .ok b) dm_cX4_isFar_0 7 rfl
theorem dX4_isFar_11 : decode cX4_isFar 11 = .ok (.invokestatic 76, 3) := dq0 (p := fun a b => decode cX4_isFar a = .ok b) dm_cX4_isFar_0 8 rfl
theorem dX4_isFar_14 : decode cX4_isFar 14 = .ok (.ifCond .eq 30, 3) := dq0 (p := fun a b => decode cX4_isFar a = .ok b) dm_cX4_isFar_0 9 rfl
theorem dX4_isFar_17 : decode cX4_isFar 17 = .ok (.aload_n 1, 1) := dq0 (p := fun a b => decode cX4_isFar a = .ok b) dm_cX4_isFar_0 10 rfl
theorem dX4_isFar_18 : decode cX4_isFar 18 = .ok (.bipush 64, 2) := dq0 (p := fun a b => decode cX4_isFar a = .ok b) dm_cX4_isFar_0 11 rfl
theorem dX4_isFar_20 : decode cX4_isFar 20 = .ok (.iload_n 3, 1) := dq0 (p := fun a b => decode cX4_isFar a = .ok b) dm_cX4_isFar_0 12 rfl
theorem dX4_isFar_21 : decode cX4_isFar 21 = .ok (.iadd, 1) := dq0 (p := fun a b => decode cX4_isFar a = .ok b) dm_cX4_isFar_0 13 rfl
theorem dX4_isFar_22 : decode cX4_isFar 22 = .ok (.iaload, 1) := dq0 (p := fun a b => decode cX4_isFar a = .ok b) dm_cX4_isFar_0 14 rfl
theorem dX4_isFar_23 : decode cX4_isFar 23 = .ok (.iconst (-1), 1) := dq0 (p := fun a b => decode cX4_isFar a = .ok b) dm_cX4_isFar_0 15 rfl
theorem dX4_isFar_24 : decode cX4_isFar 24 = .ok (.if_icmp .eq 20, 3) := dq0 (p := fun a b => decode cX4_isFar a = .ok b) dm_cX4_isFar_0 16 rfl
theorem dX4_isFar_27 : decode cX4_isFar 27 = .ok (.aload_n 0, 1) := dq0 (p := fun a b => decode cX4_isFar a = .ok b) dm_cX4_isFar_0 17 rfl
theorem dX4_isFar_28 : decode cX4_isFar 28 = .ok (.iload_n 3, 1) := dq0 (p := fun a b => decode cX4_isFar a = .ok b) dm_cX4_isFar_0 18 rfl
theorem dX4_isFar_29 : decode cX4_isFar 29 = .ok (.aload_n 1, 1) := dq0 (p := fun a b => decode cX4_isFar a = .ok b) dm_cX4_isFar_0 19 rfl
theorem dX4_isFar_30 : decode cX4_isFar 30 = .ok (.bipush 64, 2) := dq0 (p := fun a b => decode cX4_isFar a = .ok b) dm_cX4_isFar_0 20 rfl
theorem dX4_isFar_32 : decode cX4_isFar 32 = .ok (.iload_n 3, 1) := dq0 (p := fun a b => decode cX4_isFar a = .ok b) dm_cX4_isFar_0 21 rfl
theorem dX4_isFar_33 : decode cX4_isFar 33 = .ok (.iadd, 1) := dq0 (p := fun a b => decode cX4_isFar a = .ok b) dm_cX4_isFar_0 22 rfl
theorem dX4_isFar_34 : decode cX4_isFar 34 = .ok (.iaload, 1) := dq0 (p := fun a b => decode cX4_isFar a = .ok b) dm_cX4_isFar_0 23 rfl
theorem dX4_isFar_35 : decode cX4_isFar 35 = .ok (.invokevirtual 92, 3) := dq0 (p := fun a b => decode cX4_isFar a = .ok b) dm_cX4_isFar_0 24 rfl
theorem dX4_isFar_38 : decode cX4_isFar 38 = .ok (.iconst 3, 1) := dq0 (p := fun a b => decode cX4_isFar a = .ok b) dm_cX4_isFar_0 25 rfl
theorem dX4_isFar_39 : decode cX4_isFar 39 = .ok (.if_icmp .le 5, 3) := dq0 (p := fun a b => decode cX4_isFar a = .ok b) dm_cX4_isFar_0 26 rfl
theorem dX4_isFar_42 : decode cX4_isFar 42 = .ok (.iconst 1, 1) := dq0 (p := fun a b => decode cX4_isFar a = .ok b) dm_cX4_isFar_0 27 rfl
theorem dX4_isFar_43 : decode cX4_isFar 43 = .ok (.ireturn, 1) := dq0 (p := fun a b => decode cX4_isFar a = .ok b) dm_cX4_isFar_0 28 rfl
theorem dX4_isFar_44 : decode cX4_isFar 44 = .ok (.iinc 3 1, 3) := dq0 (p := fun a b => decode cX4_isFar a = .ok b) dm_cX4_isFar_0 29 rfl
theorem dX4_isFar_47 : decode cX4_isFar 47 = .ok (.goto (-45), 3) := dq0 (p := fun a b => decode cX4_isFar a = .ok b) dm_cX4_isFar_0 30 rfl
theorem dX4_isFar_50 : decode cX4_isFar 50 = .ok (.iconst 0, 1) := dq0 (p := fun a b => decode cX4_isFar a = .ok b) dm_cX4_isFar_0 31 rfl
theorem dX4_isFar_51 : decode cX4_isFar 51 = .ok (.ireturn, 1) := dq0 (p := fun a b => decode cX4_isFar a = .ok b) dm_cX4_isFar_0 32 rfl
theorem dm_cX4_reason_0 : ([(0, .aload_n 1, 1), (1, .sipush 128, 3), (4, .iaload, 1), (5, .istore 5, 2), (7, .aload_n 1, 1), (8, .iload_n 2, 1), (9, .iload 5, 2), (11, .invokestatic 76, 3), (14, .ifCond .ne 5, 3), (17, .iconst 2, 1), (18, .ireturn, 1), (19, .aload_n 1, 1), (20, .iload_n 2, 1), (21, .iload_n 3, 1), (22, .invokestatic 95, 3), (25, .ifCond .ne 5, 3), (28, .iconst 3, 1), (29, .ireturn, 1), (30, .aload_n 1, 1), (31, .iconst 0, 1), (32, .aload 4, 2), (34, .iconst 0, 1), (35, .invokestatic 98, 3), (38, .aload 4, 2), (40, .iload_n 2, 1), (41, .iload_n 3, 1), (42, .invokestatic 102, 3), (45, .pop, 1), (46, .aload 4, 2), (48, .iload 5, 2), (50, .invokestatic 106, 3), (53, .ifCond .eq 5, 3), (56, .iconst 4, 1), (57, .ireturn, 1), (58, .aload_n 0, 1), (59, .aload 4, 2), (61, .iload 5, 2), (63, .invokevirtual 110, 3), (66, .ifCond .eq 7, 3), (69, .iconst 5, 1), (70, .goto 4, 3), (73, .iconst 0, 1), (74, .ireturn, 1)] : List (Nat × Instr × Nat)).all (fun t => decide (decode cX4_reason t.1 = .ok t.2)) = true := by decide +kernel
theorem dX4_reason_0 : decode cX4_reason 0 = .ok (.aload_n 1, 1) := dq0 (p := fun a b => decode cX4_reason a = .ok b) dm_cX4_reason_0 0 rfl
theorem dX4_reason_1 : decode cX4_reason 1 = .ok (.sipush 128, 3) := dq0 (p := fun a b => decode cX4_reason a = .ok b) dm_cX4_reason_0 1 rfl
theorem dX4_reason_4 : decode cX4_reason 4 = .ok (.iaload, 1) := dq0 (p := fun a b => decode cX4_reason a = .ok b) dm_cX4_reason_0 2 rfl
theorem dX4_reason_5 : decode cX4_reason 5 = .ok (.istore 5, 2) := dq0 (p := fun a b => decode cX4_reason a = .ok b) dm_cX4_reason_0 3 rfl
theorem dX4_reason_7 : decode cX4_reason 7 = .ok (.aload_n 1, 1) := dq0 (p := fun a b => decode cX4_reason a = .ok b) dm_cX4_reason_0 4 rfl
theorem dX4_reason_8 : decode cX4_reason 8 = .ok (.iload_n 2, 1) := dq0 (p := fun a b => decode cX4_reason a = .ok b) dm_cX4_reason_0 5 rfl
theorem dX4_reason_9 : decode cX4_reason 9 = .ok (.iload 5, 2) := dq0 (p := fun a b => decode cX4_reason a = .ok b) dm_cX4_reason_0 6 rfl
theorem dX4_reason_11 : decode cX4_reason 11 = .ok (.invokestatic 76, 3) := dq0 (p := fun a b => decode cX4_reason a = .ok b) dm_cX4_reason_0 7 rfl
theorem dX4_reason_14 : decode cX4_reason 14 = .ok (.ifCond .ne 5, 3) := dq0 (p := fun a b => decode cX4_reason a = .ok b) dm_cX4_reason_0 8 rfl
theorem dX4_reason_17 : decode cX4_reason 17 = .ok (.iconst 2, 1) := dq0 (p := fun a b => decode cX4_reason a = .ok b) dm_cX4_reason_0 9 rfl
theorem dX4_reason_18 : decode cX4_reason 18 = .ok (.ireturn, 1) := dq0 (p := fun a b => decode cX4_reason a = .ok b) dm_cX4_reason_0 10 rfl
theorem dX4_reason_19 : decode cX4_reason 19 = .ok (.aload_n 1, 1) := dq0 (p := fun a b => decode cX4_reason a = .ok b) dm_cX4_reason_0 11 rfl
theorem dX4_reason_20 : decode cX4_reason 20 = .ok (.iload_n 2, 1) := dq0 (p := fun a b => decode cX4_reason a = .ok b) dm_cX4_reason_0 12 rfl
theorem dX4_reason_21 : decode cX4_reason 21 = .ok (.iload_n 3, 1) := dq0 (p := fun a b => decode cX4_reason a = .ok b) dm_cX4_reason_0 13 rfl
theorem dX4_reason_22 : decode cX4_reason 22 = .ok (.invokestatic 95, 3) := dq0 (p := fun a b => decode cX4_reason a = .ok b) dm_cX4_reason_0 14 rfl
theorem dX4_reason_25 : decode cX4_reason 25 = .ok (.ifCond .ne 5, 3) := dq0 (p := fun a b => decode cX4_reason a = .ok b) dm_cX4_reason_0 15 rfl
theorem dX4_reason_28 : decode cX4_reason 28 = .ok (.iconst 3, 1) := dq0 (p := fun a b => decode cX4_reason a = .ok b) dm_cX4_reason_0 16 rfl
theorem dX4_reason_29 : decode cX4_reason 29 = .ok (.ireturn, 1) := dq0 (p := fun a b => decode cX4_reason a = .ok b) dm_cX4_reason_0 17 rfl
theorem dX4_reason_30 : decode cX4_reason 30 = .ok (.aload_n 1, 1) := dq0 (p := fun a b => decode cX4_reason a = .ok b) dm_cX4_reason_0 18 rfl
theorem dX4_reason_31 : decode cX4_reason 31 = .ok (.iconst 0, 1) := dq0 (p := fun a b => decode cX4_reason a = .ok b) dm_cX4_reason_0 19 rfl
theorem dX4_reason_32 : decode cX4_reason 32 = .ok (.aload 4, 2) := dq0 (p := fun a b => decode cX4_reason a = .ok b) dm_cX4_reason_0 20 rfl
theorem dX4_reason_34 : decode cX4_reason 34 = .ok (.iconst 0, 1) := dq0 (p := fun a b => decode cX4_reason a = .ok b) dm_cX4_reason_0 21 rfl
theorem dX4_reason_35 : decode cX4_reason 35 = .ok (.invokestatic 98, 3) := dq0 (p := fun a b => decode cX4_reason a = .ok b) dm_cX4_reason_0 22 rfl
theorem dX4_reason_38 : decode cX4_reason 38 = .ok (.aload 4, 2) := dq0 (p := fun a b => decode cX4_reason a = .ok b) dm_cX4_reason_0 23 rfl
theorem dX4_reason_40 : decode cX4_reason 40 = .ok (.iload_n 2, 1) := dq0 (p := fun a b => decode cX4_reason a = .ok b) dm_cX4_reason_0 24 rfl
theorem dX4_reason_41 : decode cX4_reason 41 = .ok (.iload_n 3, 1) := dq0 (p := fun a b => decode cX4_reason a = .ok b) dm_cX4_reason_0 25 rfl
theorem dX4_reason_42 : decode cX4_reason 42 = .ok (.invokestatic 102, 3) := dq0 (p := fun a b => decode cX4_reason a = .ok b) dm_cX4_reason_0 26 rfl
theorem dX4_reason_45 : decode cX4_reason 45 = .ok (.pop, 1) := dq0 (p := fun a b => decode cX4_reason a = .ok b) dm_cX4_reason_0 27 rfl
theorem dX4_reason_46 : decode cX4_reason 46 = .ok (.aload 4, 2) := dq0 (p := fun a b => decode cX4_reason a = .ok b) dm_cX4_reason_0 28 rfl
theorem dX4_reason_48 : decode cX4_reason 48 = .ok (.iload 5, 2) := dq0 (p := fun a b => decode cX4_reason a = .ok b) dm_cX4_reason_0 29 rfl
theorem dX4_reason_50 : decode cX4_reason 50 = .ok (.invokestatic 106, 3) := dq0 (p := fun a b => decode cX4_reason a = .ok b) dm_cX4_reason_0 30 rfl
theorem dX4_reason_53 : decode cX4_reason 53 = .ok (.ifCond .eq 5, 3) := dq0 (p := fun a b => decode cX4_reason a = .ok b) dm_cX4_reason_0 31 rfl
theorem dX4_reason_56 : decode cX4_reason 56 = .ok (.iconst 4, 1) := dq0 (p := fun a b => decode cX4_reason a = .ok b) dm_cX4_reason_0 32 rfl
theorem dX4_reason_57 : decode cX4_reason 57 = .ok (.ireturn, 1) := dq0 (p := fun a b => decode cX4_reason a = .ok b) dm_cX4_reason_0 33 rfl
theorem dX4_reason_58 : decode cX4_reason 58 = .ok (.aload_n 0, 1) := dq0 (p := fun a b => decode cX4_reason a = .ok b) dm_cX4_reason_0 34 rfl
theorem dX4_reason_59 : decode cX4_reason 59 = .ok (.aload 4, 2) := dq0 (p := fun a b => decode cX4_reason a = .ok b) dm_cX4_reason_0 35 rfl
theorem dX4_reason_61 : decode cX4_reason 61 = .ok (.iload 5, 2) := dq0 (p := fun a b => decode cX4_reason a = .ok b) dm_cX4_reason_0 36 rfl
theorem dX4_reason_63 : decode cX4_reason 63 = .ok (.invokevirtual 110, 3) := dq0 (p := fun a b => decode cX4_reason a = .ok b) dm_cX4_reason_0 37 rfl
theorem dX4_reason_66 : decode cX4_reason 66 = .ok (.ifCond .eq 7, 3) := dq0 (p := fun a b => decode cX4_reason a = .ok b) dm_cX4_reason_0 38 rfl
theorem dX4_reason_69 : decode cX4_reason 69 = .ok (.iconst 5, 1) := dq0 (p := fun a b => decode cX4_reason a = .ok b) dm_cX4_reason_0 39 rfl
theorem dX4_reason_70 : decode cX4_reason 70 = .ok (.goto 4, 3) := dq0 (p := fun a b => decode cX4_reason a = .ok b) dm_cX4_reason_0 40 rfl
theorem dX4_reason_73 : decode cX4_reason 73 = .ok (.iconst 0, 1) := dq0 (p := fun a b => decode cX4_reason a = .ok b) dm_cX4_reason_0 41 rfl
theorem dX4_reason_74 : decode cX4_reason 74 = .ok (.ireturn, 1) := dq0 (p := fun a b => decode cX4_reason a = .ok b) dm_cX4_reason_0 42 rfl
theorem dm_cX4_countMoves_0 : ([(0, .iconst 0, 1), (1, .istore_n 3, 1), (2, .iconst 0, 1), (3, .istore 4, 2), (5, .iload 4, 2), (7, .sipush 4096, 3), (10, .if_icmp .ge 53, 3), (13, .iload_n 3, 1), (14, .aload_n 1, 1), (15, .iload 4, 2), (17, .bipush 64, 2), (19, .idiv, 1), (20, .aload_n 1, 1), (21, .sipush 128, 3), (24, .iaload, 1), (25, .invokestatic 76, 3), (28, .ifCond .eq 26, 3), (31, .aload_n 0, 1), (32, .aload_n 1, 1), (33, .iload 4, 2), (35, .bipush 64, 2), (37, .idiv, 1), (38, .iload 4, 2), (40, .bipush 64, 2), (42, .irem, 1), (43, .aload_n 2, 1), (44, .invokevirtual 113, 3), (47, .ifCond .ne 7, 3), (50, .iconst 1, 1), (51, .goto 4, 3), (54, .iconst 0, 1), (55, .iadd, 1), (56, .istore_n 3, 1), (57, .iinc 4 1, 3), (60, .goto (-55), 3), (63, .iload_n 3, 1), (64, .ireturn, 1)] : List (Nat × Instr × Nat)).all (fun t => decide (decode cX4_countMoves t.1 = .ok t.2)) = true := by decide +kernel
theorem dX4_countMoves_0 : decode cX4_countMoves 0 = .ok (.iconst 0, 1) := dq0 (p := fun a b => decode cX4_countMoves a = .ok b) dm_cX4_countMoves_0 0 rfl
theorem dX4_countMoves_1 : decode cX4_countMoves 1 = .ok (.istore_n 3, 1) := dq0 (p := fun a b => decode cX4_countMoves a = .ok b) dm_cX4_countMoves_0 1 rfl
theorem dX4_countMoves_2 : decode cX4_countMoves 2 = .ok (.iconst 0, 1) := dq0 (p := fun a b => decode cX4_countMoves a = .ok b) dm_cX4_countMoves_0 2 rfl
theorem dX4_countMoves_3 : decode cX4_countMoves 3 = .ok (.istore 4, 2) := dq0 (p := fun a b => decode cX4_countMoves a = .ok b) dm_cX4_countMoves_0 3 rfl
theorem dX4_countMoves_5 : decode cX4_countMoves 5 = .ok (.iload 4, 2) := dq0 (p := fun a b => decode cX4_countMoves a = .ok b) dm_cX4_countMoves_0 4 rfl
theorem dX4_countMoves_7 : decode cX4_countMoves 7 = .ok (.sipush 4096, 3) := dq0 (p := fun a b => decode cX4_countMoves a = .ok b) dm_cX4_countMoves_0 5 rfl
theorem dX4_countMoves_10 : decode cX4_countMoves 10 = .ok (.if_icmp .ge 53, 3) := dq0 (p := fun a b => decode cX4_countMoves a = .ok b) dm_cX4_countMoves_0 6 rfl
theorem dX4_countMoves_13 : decode cX4_countMoves 13 = .ok (.iload_n 3, 1) := dq0 (p := fun a b => decode cX4_countMoves a = .ok b) dm_cX4_countMoves_0 7 rfl
theorem dX4_countMoves_14 : decode cX4_countMoves 14 = .ok (.aload_n 1, 1) := dq0 (p := fun a b => decode cX4_countMoves a = .ok b) dm_cX4_countMoves_0 8 rfl
theorem dX4_countMoves_15 : decode cX4_countMoves 15 = .ok (.iload 4, 2) := dq0 (p := fun a b => decode cX4_countMoves a = .ok b) dm_cX4_countMoves_0 9 rfl
theorem dX4_countMoves_17 : decode cX4_countMoves 17 = .ok (.bipush 64, 2) := dq0 (p := fun a b => decode cX4_countMoves a = .ok b) dm_cX4_countMoves_0 10 rfl
theorem dX4_countMoves_19 : decode cX4_countMoves 19 = .ok (.idiv, 1) := dq0 (p := fun a b => decode cX4_countMoves a = .ok b) dm_cX4_countMoves_0 11 rfl
theorem dX4_countMoves_20 : decode cX4_countMoves 20 = .ok (.aload_n 1, 1) := dq0 (p := fun a b => decode cX4_countMoves a = .ok b) dm_cX4_countMoves_0 12 rfl
theorem dX4_countMoves_21 : decode cX4_countMoves 21 = .ok (.sipush 128, 3) := dq0 (p := fun a b => decode cX4_countMoves a = .ok b) dm_cX4_countMoves_0 13 rfl
theorem dX4_countMoves_24 : decode cX4_countMoves 24 = .ok (.iaload, 1) := dq0 (p := fun a b => decode cX4_countMoves a = .ok b) dm_cX4_countMoves_0 14 rfl
theorem dX4_countMoves_25 : decode cX4_countMoves 25 = .ok (.invokestatic 76, 3) := dq0 (p := fun a b => decode cX4_countMoves a = .ok b) dm_cX4_countMoves_0 15 rfl
theorem dX4_countMoves_28 : decode cX4_countMoves 28 = .ok (.ifCond .eq 26, 3) := dq0 (p := fun a b => decode cX4_countMoves a = .ok b) dm_cX4_countMoves_0 16 rfl
theorem dX4_countMoves_31 : decode cX4_countMoves 31 = .ok (.aload_n 0, 1) := dq0 (p := fun a b => decode cX4_countMoves a = .ok b) dm_cX4_countMoves_0 17 rfl
theorem dX4_countMoves_32 : decode cX4_countMoves 32 = .ok (.aload_n 1, 1) := dq0 (p := fun a b => decode cX4_countMoves a = .ok b) dm_cX4_countMoves_0 18 rfl
theorem dX4_countMoves_33 : decode cX4_countMoves 33 = .ok (.iload 4, 2) := dq0 (p := fun a b => decode cX4_countMoves a = .ok b) dm_cX4_countMoves_0 19 rfl
theorem dX4_countMoves_35 : decode cX4_countMoves 35 = .ok (.bipush 64, 2) := dq0 (p := fun a b => decode cX4_countMoves a = .ok b) dm_cX4_countMoves_0 20 rfl
theorem dX4_countMoves_37 : decode cX4_countMoves 37 = .ok (.idiv, 1) := dq0 (p := fun a b => decode cX4_countMoves a = .ok b) dm_cX4_countMoves_0 21 rfl
theorem dX4_countMoves_38 : decode cX4_countMoves 38 = .ok (.iload 4, 2) := dq0 (p := fun a b => decode cX4_countMoves a = .ok b) dm_cX4_countMoves_0 22 rfl
theorem dX4_countMoves_40 : decode cX4_countMoves 40 = .ok (.bipush 64, 2) := dq0 (p := fun a b => decode cX4_countMoves a = .ok b) dm_cX4_countMoves_0 23 rfl
theorem dX4_countMoves_42 : decode cX4_countMoves 42 = .ok (.irem, 1) := dq0 (p := fun a b => decode cX4_countMoves a = .ok b) dm_cX4_countMoves_0 24 rfl
theorem dX4_countMoves_43 : decode cX4_countMoves 43 = .ok (.aload_n 2, 1) := dq0 (p := fun a b => decode cX4_countMoves a = .ok b) dm_cX4_countMoves_0 25 rfl
theorem dX4_countMoves_44 : decode cX4_countMoves 44 = .ok (.invokevirtual 113, 3) := dq0 (p := fun a b => decode cX4_countMoves a = .ok b) dm_cX4_countMoves_0 26 rfl
theorem dX4_countMoves_47 : decode cX4_countMoves 47 = .ok (.ifCond .ne 7, 3) := dq0 (p := fun a b => decode cX4_countMoves a = .ok b) dm_cX4_countMoves_0 27 rfl
theorem dX4_countMoves_50 : decode cX4_countMoves 50 = .ok (.iconst 1, 1) := dq0 (p := fun a b => decode cX4_countMoves a = .ok b) dm_cX4_countMoves_0 28 rfl
theorem dX4_countMoves_51 : decode cX4_countMoves 51 = .ok (.goto 4, 3) := dq0 (p := fun a b => decode cX4_countMoves a = .ok b) dm_cX4_countMoves_0 29 rfl
theorem dX4_countMoves_54 : decode cX4_countMoves 54 = .ok (.iconst 0, 1) := dq0 (p := fun a b => decode cX4_countMoves a = .ok b) dm_cX4_countMoves_0 30 rfl
theorem dX4_countMoves_55 : decode cX4_countMoves 55 = .ok (.iadd, 1) := dq0 (p := fun a b => decode cX4_countMoves a = .ok b) dm_cX4_countMoves_0 31 rfl
theorem dX4_countMoves_56 : decode cX4_countMoves 56 = .ok (.istore_n 3, 1) := dq0 (p := fun a b => decode cX4_countMoves a = .ok b) dm_cX4_countMoves_0 32 rfl
theorem dX4_countMoves_57 : decode cX4_countMoves 57 = .ok (.iinc 4 1, 3) := dq0 (p := fun a b => decode cX4_countMoves a = .ok b) dm_cX4_countMoves_0 33 rfl
theorem dX4_countMoves_60 : decode cX4_countMoves 60 = .ok (.goto (-55), 3) := dq0 (p := fun a b => decode cX4_countMoves a = .ok b) dm_cX4_countMoves_0 34 rfl
theorem dX4_countMoves_63 : decode cX4_countMoves 63 = .ok (.iload_n 3, 1) := dq0 (p := fun a b => decode cX4_countMoves a = .ok b) dm_cX4_countMoves_0 35 rfl
theorem dX4_countMoves_64 : decode cX4_countMoves 64 = .ok (.ireturn, 1) := dq0 (p := fun a b => decode cX4_countMoves a = .ok b) dm_cX4_countMoves_0 36 rfl
theorem dm_cX4_hasMove_0 : ([(0, .iconst 0, 1), (1, .istore_n 3, 1), (2, .iload_n 3, 1), (3, .sipush 4096, 3), (6, .if_icmp .ge 44, 3), (9, .aload_n 1, 1), (10, .iload_n 3, 1), (11, .bipush 64, 2), (13, .idiv, 1), (14, .aload_n 1, 1), (15, .sipush 128, 3), (18, .iaload, 1), (19, .invokestatic 76, 3), (22, .ifCond .eq 22, 3), (25, .aload_n 0, 1), (26, .aload_n 1, 1), (27, .iload_n 3, 1), (28, .bipush 64, 2), (30, .idiv, 1), (31, .iload_n 3, 1), (32, .bipush 64, 2), (34, .irem, 1), (35, .aload_n 2, 1), (36, .invokevirtual 113, 3), (39, .ifCond .ne 5, 3), (42, .iconst 1, 1), (43, .ireturn, 1), (44, .iinc 3 1, 3), (47, .goto (-45), 3), (50, .iconst 0, 1), (51, .ireturn, 1)] : List (Nat × Instr × Nat)).all (fun t => decide (decode cX4_hasMove t.1 = .ok t.2)) = true := by decide +kernel
theorem dX4_hasMove_0 : decode cX4_hasMove 0 = .ok (.iconst 0, 1) := dq0 (p := fun a b => decode cX4_hasMove a = .ok b) dm_cX4_hasMove_0 0 rfl
theorem dX4_hasMove_1 : decode cX4_hasMove 1 = .ok (.istore_n 3, 1) := dq0 (p := fun a b => decode cX4_hasMove a = .ok b) dm_cX4_hasMove_0 1 rfl
theorem dX4_hasMove_2 : decode cX4_hasMove 2 = .ok (.iload_n 3, 1) := dq0 (p := fun a b => decode cX4_hasMove a = .ok b) dm_cX4_hasMove_0 2 rfl
theorem dX4_hasMove_3 : decode cX4_hasMove 3 = .ok (.sipush 4096, 3) := dq0 (p := fun a b => decode cX4_hasMove a = .ok b) dm_cX4_hasMove_0 3 rfl
theorem dX4_hasMove_6 : decode cX4_hasMove 6 = .ok (.if_icmp .ge 44, 3) := dq0 (p := fun a b => decode cX4_hasMove a = .ok b) dm_cX4_hasMove_0 4 rfl
theorem dX4_hasMove_9 : decode cX4_hasMove 9 = .ok (.aload_n 1, 1) := dq0 (p := fun a b => decode cX4_hasMove a = .ok b) dm_cX4_hasMove_0 5 rfl
theorem dX4_hasMove_10 : decode cX4_hasMove 10 = .ok (.iload_n 3, 1) := dq0 (p := fun a b => decode cX4_hasMove a = .ok b) dm_cX4_hasMove_0 6 rfl
theorem dX4_hasMove_11 : decode cX4_hasMove 11 = .ok (.bipush 64, 2) := dq0 (p := fun a b => decode cX4_hasMove a = .ok b) dm_cX4_hasMove_0 7 rfl
theorem dX4_hasMove_13 : decode cX4_hasMove 13 = .ok (.idiv, 1) := dq0 (p := fun a b => decode cX4_hasMove a = .ok b) dm_cX4_hasMove_0 8 rfl
theorem dX4_hasMove_14 : decode cX4_hasMove 14 = .ok (.aload_n 1, 1) := dq0 (p := fun a b => decode cX4_hasMove a = .ok b) dm_cX4_hasMove_0 9 rfl
theorem dX4_hasMove_15 : decode cX4_hasMove 15 = .ok (.sipush 128, 3) := dq0 (p := fun a b => decode cX4_hasMove a = .ok b) dm_cX4_hasMove_0 10 rfl
theorem dX4_hasMove_18 : decode cX4_hasMove 18 = .ok (.iaload, 1) := dq0 (p := fun a b => decode cX4_hasMove a = .ok b) dm_cX4_hasMove_0 11 rfl
theorem dX4_hasMove_19 : decode cX4_hasMove 19 = .ok (.invokestatic 76, 3) := dq0 (p := fun a b => decode cX4_hasMove a = .ok b) dm_cX4_hasMove_0 12 rfl
theorem dX4_hasMove_22 : decode cX4_hasMove 22 = .ok (.ifCond .eq 22, 3) := dq0 (p := fun a b => decode cX4_hasMove a = .ok b) dm_cX4_hasMove_0 13 rfl
theorem dX4_hasMove_25 : decode cX4_hasMove 25 = .ok (.aload_n 0, 1) := dq0 (p := fun a b => decode cX4_hasMove a = .ok b) dm_cX4_hasMove_0 14 rfl
theorem dX4_hasMove_26 : decode cX4_hasMove 26 = .ok (.aload_n 1, 1) := dq0 (p := fun a b => decode cX4_hasMove a = .ok b) dm_cX4_hasMove_0 15 rfl
theorem dX4_hasMove_27 : decode cX4_hasMove 27 = .ok (.iload_n 3, 1) := dq0 (p := fun a b => decode cX4_hasMove a = .ok b) dm_cX4_hasMove_0 16 rfl
theorem dX4_hasMove_28 : decode cX4_hasMove 28 = .ok (.bipush 64, 2) := dq0 (p := fun a b => decode cX4_hasMove a = .ok b) dm_cX4_hasMove_0 17 rfl
theorem dX4_hasMove_30 : decode cX4_hasMove 30 = .ok (.idiv, 1) := dq0 (p := fun a b => decode cX4_hasMove a = .ok b) dm_cX4_hasMove_0 18 rfl
theorem dX4_hasMove_31 : decode cX4_hasMove 31 = .ok (.iload_n 3, 1) := dq0 (p := fun a b => decode cX4_hasMove a = .ok b) dm_cX4_hasMove_0 19 rfl
theorem dX4_hasMove_32 : decode cX4_hasMove 32 = .ok (.bipush 64, 2) := dq0 (p := fun a b => decode cX4_hasMove a = .ok b) dm_cX4_hasMove_0 20 rfl
theorem dX4_hasMove_34 : decode cX4_hasMove 34 = .ok (.irem, 1) := dq0 (p := fun a b => decode cX4_hasMove a = .ok b) dm_cX4_hasMove_0 21 rfl
theorem dX4_hasMove_35 : decode cX4_hasMove 35 = .ok (.aload_n 2, 1) := dq0 (p := fun a b => decode cX4_hasMove a = .ok b) dm_cX4_hasMove_0 22 rfl
theorem dX4_hasMove_36 : decode cX4_hasMove 36 = .ok (.invokevirtual 113, 3) := dq0 (p := fun a b => decode cX4_hasMove a = .ok b) dm_cX4_hasMove_0 23 rfl
theorem dX4_hasMove_39 : decode cX4_hasMove 39 = .ok (.ifCond .ne 5, 3) := dq0 (p := fun a b => decode cX4_hasMove a = .ok b) dm_cX4_hasMove_0 24 rfl
theorem dX4_hasMove_42 : decode cX4_hasMove 42 = .ok (.iconst 1, 1) := dq0 (p := fun a b => decode cX4_hasMove a = .ok b) dm_cX4_hasMove_0 25 rfl
theorem dX4_hasMove_43 : decode cX4_hasMove 43 = .ok (.ireturn, 1) := dq0 (p := fun a b => decode cX4_hasMove a = .ok b) dm_cX4_hasMove_0 26 rfl
theorem dX4_hasMove_44 : decode cX4_hasMove 44 = .ok (.iinc 3 1, 3) := dq0 (p := fun a b => decode cX4_hasMove a = .ok b) dm_cX4_hasMove_0 27 rfl
theorem dX4_hasMove_47 : decode cX4_hasMove 47 = .ok (.goto (-45), 3) := dq0 (p := fun a b => decode cX4_hasMove a = .ok b) dm_cX4_hasMove_0 28 rfl
theorem dX4_hasMove_50 : decode cX4_hasMove 50 = .ok (.iconst 0, 1) := dq0 (p := fun a b => decode cX4_hasMove a = .ok b) dm_cX4_hasMove_0 29 rfl
theorem dX4_hasMove_51 : decode cX4_hasMove 51 = .ok (.ireturn, 1) := dq0 (p := fun a b => decode cX4_hasMove a = .ok b) dm_cX4_hasMove_0 30 rfl
theorem dm_cX4_bondReason_0 : ([(0, .aload_n 0, 1), (1, .getfield 13, 3), (4, .sipush 128, 3), (7, .iaload, 1), (8, .istore_n 3, 1), (9, .iload_n 1, 1), (10, .iload_n 2, 1), (11, .if_icmp .eq 29, 3), (14, .aload_n 0, 1), (15, .getfield 13, 3), (18, .iload_n 1, 1), (19, .iconst 5, 1), (20, .iload_n 3, 1), (21, .invokestatic 56, 3), (24, .ifCond .eq 16, 3), (27, .aload_n 0, 1), (28, .getfield 13, 3), (31, .iload_n 2, 1), (32, .iconst 5, 1), (33, .iload_n 3, 1), (34, .invokestatic 56, 3), (37, .ifCond .ne 5, 3), (40, .iconst 2, 1), (41, .ireturn, 1), (42, .aload_n 0, 1), (43, .getfield 13, 3), (46, .bipush 64, 2), (48, .iload_n 1, 1), (49, .iadd, 1), (50, .iaload, 1), (51, .iconst (-1), 1), (52, .if_icmp .ne 16, 3), (55, .aload_n 0, 1), (56, .getfield 13, 3), (59, .bipush 64, 2), (61, .iload_n 2, 1), (62, .iadd, 1), (63, .iaload, 1), (64, .iconst (-1), 1), (65, .if_icmp .eq 6, 3), (68, .bipush 6, 2), (70, .ireturn, 1), (71, .aload_n 0, 1), (72, .iload_n 1, 1), (73, .iload_n 2, 1), (74, .invokevirtual 92, 3), (77, .iconst 3, 1), (78, .if_icmp .le 5, 3), (81, .iconst 5, 1), (82, .ireturn, 1), (83, .aload_n 0, 1), (84, .getfield 13, 3), (87, .iload_n 3, 1), (88, .invokestatic 106, 3), (91, .ifCond .eq 7, 3), (94, .iconst 4, 1), (95, .goto 4, 3), (98, .iconst 0, 1), (99, .ireturn, 1)] : List (Nat × Instr × Nat)).all (fun t => decide (decode cX4_bondReason t.1 = .ok t.2)) = true := by decide +kernel
theorem dX4_bondReason_0 : decode cX4_bondReason 0 = .ok (.aload_n 0, 1) := dq0 (p := fun a b => decode cX4_bondReason a = .ok b) dm_cX4_bondReason_0 0 rfl
theorem dX4_bondReason_1 : decode cX4_bondReason 1 = .ok (.getfield 13, 3) := dq0 (p := fun a b => decode cX4_bondReason a = .ok b) dm_cX4_bondReason_0 1 rfl
theorem dX4_bondReason_4 : decode cX4_bondReason 4 = .ok (.sipush 128, 3) := dq0 (p := fun a b => decode cX4_bondReason a = .ok b) dm_cX4_bondReason_0 2 rfl
theorem dX4_bondReason_7 : decode cX4_bondReason 7 = .ok (.iaload, 1) := dq0 (p := fun a b => decode cX4_bondReason a = .ok b) dm_cX4_bondReason_0 3 rfl
theorem dX4_bondReason_8 : decode cX4_bondReason 8 = .ok (.istore_n 3, 1) := dq0 (p := fun a b => decode cX4_bondReason a = .ok b) dm_cX4_bondReason_0 4 rfl
theorem dX4_bondReason_9 : decode cX4_bondReason 9 = .ok (.iload_n 1, 1) := dq0 (p := fun a b => decode cX4_bondReason a = .ok b) dm_cX4_bondReason_0 5 rfl
theorem dX4_bondReason_10 : decode cX4_bondReason 10 = .ok (.iload_n 2, 1) := dq0 (p := fun a b => decode cX4_bondReason a = .ok b) dm_cX4_bondReason_0 6 rfl
theorem dX4_bondReason_11 : decode cX4_bondReason 11 = .ok (.if_icmp .eq 29, 3) := dq0 (p := fun a b => decode cX4_bondReason a = .ok b) dm_cX4_bondReason_0 7 rfl
theorem dX4_bondReason_14 : decode cX4_bondReason 14 = .ok (.aload_n 0, 1) := dq0 (p := fun a b => decode cX4_bondReason a = .ok b) dm_cX4_bondReason_0 8 rfl
theorem dX4_bondReason_15 : decode cX4_bondReason 15 = .ok (.getfield 13, 3) := dq0 (p := fun a b => decode cX4_bondReason a = .ok b) dm_cX4_bondReason_0 9 rfl
theorem dX4_bondReason_18 : decode cX4_bondReason 18 = .ok (.iload_n 1, 1) := dq0 (p := fun a b => decode cX4_bondReason a = .ok b) dm_cX4_bondReason_0 10 rfl
theorem dX4_bondReason_19 : decode cX4_bondReason 19 = .ok (.iconst 5, 1) := dq0 (p := fun a b => decode cX4_bondReason a = .ok b) dm_cX4_bondReason_0 11 rfl
theorem dX4_bondReason_20 : decode cX4_bondReason 20 = .ok (.iload_n 3, 1) := dq0 (p := fun a b => decode cX4_bondReason a = .ok b) dm_cX4_bondReason_0 12 rfl
theorem dX4_bondReason_21 : decode cX4_bondReason 21 = .ok (.invokestatic 56, 3) := dq0 (p := fun a b => decode cX4_bondReason a = .ok b) dm_cX4_bondReason_0 13 rfl
theorem dX4_bondReason_24 : decode cX4_bondReason 24 = .ok (.ifCond .eq 16, 3) := dq0 (p := fun a b => decode cX4_bondReason a = .ok b) dm_cX4_bondReason_0 14 rfl
theorem dX4_bondReason_27 : decode cX4_bondReason 27 = .ok (.aload_n 0, 1) := dq0 (p := fun a b => decode cX4_bondReason a = .ok b) dm_cX4_bondReason_0 15 rfl
theorem dX4_bondReason_28 : decode cX4_bondReason 28 = .ok (.getfield 13, 3) := dq0 (p := fun a b => decode cX4_bondReason a = .ok b) dm_cX4_bondReason_0 16 rfl
theorem dX4_bondReason_31 : decode cX4_bondReason 31 = .ok (.iload_n 2, 1) := dq0 (p := fun a b => decode cX4_bondReason a = .ok b) dm_cX4_bondReason_0 17 rfl
theorem dX4_bondReason_32 : decode cX4_bondReason 32 = .ok (.iconst 5, 1) := dq0 (p := fun a b => decode cX4_bondReason a = .ok b) dm_cX4_bondReason_0 18 rfl
theorem dX4_bondReason_33 : decode cX4_bondReason 33 = .ok (.iload_n 3, 1) := dq0 (p := fun a b => decode cX4_bondReason a = .ok b) dm_cX4_bondReason_0 19 rfl
theorem dX4_bondReason_34 : decode cX4_bondReason 34 = .ok (.invokestatic 56, 3) := dq0 (p := fun a b => decode cX4_bondReason a = .ok b) dm_cX4_bondReason_0 20 rfl
theorem dX4_bondReason_37 : decode cX4_bondReason 37 = .ok (.ifCond .ne 5, 3) := dq0 (p := fun a b => decode cX4_bondReason a = .ok b) dm_cX4_bondReason_0 21 rfl
theorem dX4_bondReason_40 : decode cX4_bondReason 40 = .ok (.iconst 2, 1) := dq0 (p := fun a b => decode cX4_bondReason a = .ok b) dm_cX4_bondReason_0 22 rfl
theorem dX4_bondReason_41 : decode cX4_bondReason 41 = .ok (.ireturn, 1) := dq0 (p := fun a b => decode cX4_bondReason a = .ok b) dm_cX4_bondReason_0 23 rfl
theorem dX4_bondReason_42 : decode cX4_bondReason 42 = .ok (.aload_n 0, 1) := dq0 (p := fun a b => decode cX4_bondReason a = .ok b) dm_cX4_bondReason_0 24 rfl
theorem dX4_bondReason_43 : decode cX4_bondReason 43 = .ok (.getfield 13, 3) := dq0 (p := fun a b => decode cX4_bondReason a = .ok b) dm_cX4_bondReason_0 25 rfl
theorem dX4_bondReason_46 : decode cX4_bondReason 46 = .ok (.bipush 64, 2) := dq0 (p := fun a b => decode cX4_bondReason a = .ok b) dm_cX4_bondReason_0 26 rfl
theorem dX4_bondReason_48 : decode cX4_bondReason 48 = .ok (.iload_n 1, 1) := dq0 (p := fun a b => decode cX4_bondReason a = .ok b) dm_cX4_bondReason_0 27 rfl
theorem dX4_bondReason_49 : decode cX4_bondReason 49 = .ok (.iadd, 1) := dq0 (p := fun a b => decode cX4_bondReason a = .ok b) dm_cX4_bondReason_0 28 rfl
theorem dX4_bondReason_50 : decode cX4_bondReason 50 = .ok (.iaload, 1) := dq0 (p := fun a b => decode cX4_bondReason a = .ok b) dm_cX4_bondReason_0 29 rfl
theorem dX4_bondReason_51 : decode cX4_bondReason 51 = .ok (.iconst (-1), 1) := dq0 (p := fun a b => decode cX4_bondReason a = .ok b) dm_cX4_bondReason_0 30 rfl
theorem dX4_bondReason_52 : decode cX4_bondReason 52 = .ok (.if_icmp .ne 16, 3) := dq0 (p := fun a b => decode cX4_bondReason a = .ok b) dm_cX4_bondReason_0 31 rfl
theorem dX4_bondReason_55 : decode cX4_bondReason 55 = .ok (.aload_n 0, 1) := dq0 (p := fun a b => decode cX4_bondReason a = .ok b) dm_cX4_bondReason_0 32 rfl
theorem dX4_bondReason_56 : decode cX4_bondReason 56 = .ok (.getfield 13, 3) := dq0 (p := fun a b => decode cX4_bondReason a = .ok b) dm_cX4_bondReason_0 33 rfl
theorem dX4_bondReason_59 : decode cX4_bondReason 59 = .ok (.bipush 64, 2) := dq0 (p := fun a b => decode cX4_bondReason a = .ok b) dm_cX4_bondReason_0 34 rfl
theorem dX4_bondReason_61 : decode cX4_bondReason 61 = .ok (.iload_n 2, 1) := dq0 (p := fun a b => decode cX4_bondReason a = .ok b) dm_cX4_bondReason_0 35 rfl
theorem dX4_bondReason_62 : decode cX4_bondReason 62 = .ok (.iadd, 1) := dq0 (p := fun a b => decode cX4_bondReason a = .ok b) dm_cX4_bondReason_0 36 rfl
theorem dX4_bondReason_63 : decode cX4_bondReason 63 = .ok (.iaload, 1) := dq0 (p := fun a b => decode cX4_bondReason a = .ok b) dm_cX4_bondReason_0 37 rfl
theorem dX4_bondReason_64 : decode cX4_bondReason 64 = .ok (.iconst (-1), 1) := dq0 (p := fun a b => decode cX4_bondReason a = .ok b) dm_cX4_bondReason_0 38 rfl
theorem dX4_bondReason_65 : decode cX4_bondReason 65 = .ok (.if_icmp .eq 6, 3) := dq0 (p := fun a b => decode cX4_bondReason a = .ok b) dm_cX4_bondReason_0 39 rfl
theorem dX4_bondReason_68 : decode cX4_bondReason 68 = .ok (.bipush 6, 2) := dq0 (p := fun a b => decode cX4_bondReason a = .ok b) dm_cX4_bondReason_0 40 rfl
theorem dX4_bondReason_70 : decode cX4_bondReason 70 = .ok (.ireturn, 1) := dq0 (p := fun a b => decode cX4_bondReason a = .ok b) dm_cX4_bondReason_0 41 rfl
theorem dX4_bondReason_71 : decode cX4_bondReason 71 = .ok (.aload_n 0, 1) := dq0 (p := fun a b => decode cX4_bondReason a = .ok b) dm_cX4_bondReason_0 42 rfl
theorem dX4_bondReason_72 : decode cX4_bondReason 72 = .ok (.iload_n 1, 1) := dq0 (p := fun a b => decode cX4_bondReason a = .ok b) dm_cX4_bondReason_0 43 rfl
theorem dX4_bondReason_73 : decode cX4_bondReason 73 = .ok (.iload_n 2, 1) := dq0 (p := fun a b => decode cX4_bondReason a = .ok b) dm_cX4_bondReason_0 44 rfl
theorem dX4_bondReason_74 : decode cX4_bondReason 74 = .ok (.invokevirtual 92, 3) := dq0 (p := fun a b => decode cX4_bondReason a = .ok b) dm_cX4_bondReason_0 45 rfl
theorem dX4_bondReason_77 : decode cX4_bondReason 77 = .ok (.iconst 3, 1) := dq0 (p := fun a b => decode cX4_bondReason a = .ok b) dm_cX4_bondReason_0 46 rfl
theorem dX4_bondReason_78 : decode cX4_bondReason 78 = .ok (.if_icmp .le 5, 3) := dq0 (p := fun a b => decode cX4_bondReason a = .ok b) dm_cX4_bondReason_0 47 rfl
theorem dX4_bondReason_81 : decode cX4_bondReason 81 = .ok (.iconst 5, 1) := dq0 (p := fun a b => decode cX4_bondReason a = .ok b) dm_cX4_bondReason_0 48 rfl
theorem dX4_bondReason_82 : decode cX4_bondReason 82 = .ok (.ireturn, 1) := dq0 (p := fun a b => decode cX4_bondReason a = .ok b) dm_cX4_bondReason_0 49 rfl
theorem dX4_bondReason_83 : decode cX4_bondReason 83 = .ok (.aload_n 0, 1) := dq0 (p := fun a b => decode cX4_bondReason a = .ok b) dm_cX4_bondReason_0 50 rfl
theorem dX4_bondReason_84 : decode cX4_bondReason 84 = .ok (.getfield 13, 3) := dq0 (p := fun a b => decode cX4_bondReason a = .ok b) dm_cX4_bondReason_0 51 rfl
theorem dX4_bondReason_87 : decode cX4_bondReason 87 = .ok (.iload_n 3, 1) := dq0 (p := fun a b => decode cX4_bondReason a = .ok b) dm_cX4_bondReason_0 52 rfl
theorem dX4_bondReason_88 : decode cX4_bondReason 88 = .ok (.invokestatic 106, 3) := dq0 (p := fun a b => decode cX4_bondReason a = .ok b) dm_cX4_bondReason_0 53 rfl
theorem dX4_bondReason_91 : decode cX4_bondReason 91 = .ok (.ifCond .eq 7, 3) := dq0 (p := fun a b => decode cX4_bondReason a = .ok b) dm_cX4_bondReason_0 54 rfl
theorem dX4_bondReason_94 : decode cX4_bondReason 94 = .ok (.iconst 4, 1) := dq0 (p := fun a b => decode cX4_bondReason a = .ok b) dm_cX4_bondReason_0 55 rfl
theorem dX4_bondReason_95 : decode cX4_bondReason 95 = .ok (.goto 4, 3) := dq0 (p := fun a b => decode cX4_bondReason a = .ok b) dm_cX4_bondReason_0 56 rfl
theorem dX4_bondReason_98 : decode cX4_bondReason 98 = .ok (.iconst 0, 1) := dq0 (p := fun a b => decode cX4_bondReason a = .ok b) dm_cX4_bondReason_0 57 rfl
theorem dX4_bondReason_99 : decode cX4_bondReason 99 = .ok (.ireturn, 1) := dq0 (p := fun a b => decode cX4_bondReason a = .ok b) dm_cX4_bondReason_0 58 rfl
theorem dm_cX4_dissolveReason_0 : ([(0, .aload_n 0, 1), (1, .getfield 13, 3), (4, .iload_n 1, 1), (5, .iconst 5, 1), (6, .aload_n 0, 1), (7, .getfield 13, 3), (10, .sipush 128, 3), (13, .iaload, 1), (14, .invokestatic 56, 3), (17, .ifCond .ne 5, 3), (20, .iconst 2, 1), (21, .ireturn, 1), (22, .aload_n 0, 1), (23, .getfield 13, 3), (26, .bipush 64, 2), (28, .iload_n 1, 1), (29, .iadd, 1), (30, .iaload, 1), (31, .iconst (-1), 1), (32, .if_icmp .ne 6, 3), (35, .bipush 7, 2), (37, .ireturn, 1), (38, .aload_n 0, 1), (39, .getfield 13, 3), (42, .aload_n 0, 1), (43, .getfield 13, 3), (46, .sipush 128, 3), (49, .iaload, 1), (50, .invokestatic 106, 3), (53, .ifCond .eq 7, 3), (56, .iconst 4, 1), (57, .goto 4, 3), (60, .iconst 0, 1), (61, .ireturn, 1)] : List (Nat × Instr × Nat)).all (fun t => decide (decode cX4_dissolveReason t.1 = .ok t.2)) = true := by decide +kernel
theorem dX4_dissolveReason_0 : decode cX4_dissolveReason 0 = .ok (.aload_n 0, 1) := dq0 (p := fun a b => decode cX4_dissolveReason a = .ok b) dm_cX4_dissolveReason_0 0 rfl
theorem dX4_dissolveReason_1 : decode cX4_dissolveReason 1 = .ok (.getfield 13, 3) := dq0 (p := fun a b => decode cX4_dissolveReason a = .ok b) dm_cX4_dissolveReason_0 1 rfl
theorem dX4_dissolveReason_4 : decode cX4_dissolveReason 4 = .ok (.iload_n 1, 1) := dq0 (p := fun a b => decode cX4_dissolveReason a = .ok b) dm_cX4_dissolveReason_0 2 rfl
theorem dX4_dissolveReason_5 : decode cX4_dissolveReason 5 = .ok (.iconst 5, 1) := dq0 (p := fun a b => decode cX4_dissolveReason a = .ok b) dm_cX4_dissolveReason_0 3 rfl
theorem dX4_dissolveReason_6 : decode cX4_dissolveReason 6 = .ok (.aload_n 0, 1) := dq0 (p := fun a b => decode cX4_dissolveReason a = .ok b) dm_cX4_dissolveReason_0 4 rfl
theorem dX4_dissolveReason_7 : decode cX4_dissolveReason 7 = .ok (.getfield 13, 3) := dq0 (p := fun a b => decode cX4_dissolveReason a = .ok b) dm_cX4_dissolveReason_0 5 rfl
theorem dX4_dissolveReason_10 : decode cX4_dissolveReason 10 = .ok (.sipush 128, 3) := dq0 (p := fun a b => decode cX4_dissolveReason a = .ok b) dm_cX4_dissolveReason_0 6 rfl
theorem dX4_dissolveReason_13 : decode cX4_dissolveReason 13 = .ok (.iaload, 1) := dq0 (p := fun a b => decode cX4_dissolveReason a = .ok b) dm_cX4_dissolveReason_0 7 rfl
theorem dX4_dissolveReason_14 : decode cX4_dissolveReason 14 = .ok (.invokestatic 56, 3) := dq0 (p := fun a b => decode cX4_dissolveReason a = .ok b) dm_cX4_dissolveReason_0 8 rfl
theorem dX4_dissolveReason_17 : decode cX4_dissolveReason 17 = .ok (.ifCond .ne 5, 3) := dq0 (p := fun a b => decode cX4_dissolveReason a = .ok b) dm_cX4_dissolveReason_0 9 rfl
theorem dX4_dissolveReason_20 : decode cX4_dissolveReason 20 = .ok (.iconst 2, 1) := dq0 (p := fun a b => decode cX4_dissolveReason a = .ok b) dm_cX4_dissolveReason_0 10 rfl
theorem dX4_dissolveReason_21 : decode cX4_dissolveReason 21 = .ok (.ireturn, 1) := dq0 (p := fun a b => decode cX4_dissolveReason a = .ok b) dm_cX4_dissolveReason_0 11 rfl
theorem dX4_dissolveReason_22 : decode cX4_dissolveReason 22 = .ok (.aload_n 0, 1) := dq0 (p := fun a b => decode cX4_dissolveReason a = .ok b) dm_cX4_dissolveReason_0 12 rfl
theorem dX4_dissolveReason_23 : decode cX4_dissolveReason 23 = .ok (.getfield 13, 3) := dq0 (p := fun a b => decode cX4_dissolveReason a = .ok b) dm_cX4_dissolveReason_0 13 rfl
theorem dX4_dissolveReason_26 : decode cX4_dissolveReason 26 = .ok (.bipush 64, 2) := dq0 (p := fun a b => decode cX4_dissolveReason a = .ok b) dm_cX4_dissolveReason_0 14 rfl
theorem dX4_dissolveReason_28 : decode cX4_dissolveReason 28 = .ok (.iload_n 1, 1) := dq0 (p := fun a b => decode cX4_dissolveReason a = .ok b) dm_cX4_dissolveReason_0 15 rfl
theorem dX4_dissolveReason_29 : decode cX4_dissolveReason 29 = .ok (.iadd, 1) := dq0 (p := fun a b => decode cX4_dissolveReason a = .ok b) dm_cX4_dissolveReason_0 16 rfl
theorem dX4_dissolveReason_30 : decode cX4_dissolveReason 30 = .ok (.iaload, 1) := dq0 (p := fun a b => decode cX4_dissolveReason a = .ok b) dm_cX4_dissolveReason_0 17 rfl
theorem dX4_dissolveReason_31 : decode cX4_dissolveReason 31 = .ok (.iconst (-1), 1) := dq0 (p := fun a b => decode cX4_dissolveReason a = .ok b) dm_cX4_dissolveReason_0 18 rfl
theorem dX4_dissolveReason_32 : decode cX4_dissolveReason 32 = .ok (.if_icmp .ne 6, 3) := dq0 (p := fun a b => decode cX4_dissolveReason a = .ok b) dm_cX4_dissolveReason_0 19 rfl
theorem dX4_dissolveReason_35 : decode cX4_dissolveReason 35 = .ok (.bipush 7, 2) := dq0 (p := fun a b => decode cX4_dissolveReason a = .ok b) dm_cX4_dissolveReason_0 20 rfl
theorem dX4_dissolveReason_37 : decode cX4_dissolveReason 37 = .ok (.ireturn, 1) := dq0 (p := fun a b => decode cX4_dissolveReason a = .ok b) dm_cX4_dissolveReason_0 21 rfl
theorem dX4_dissolveReason_38 : decode cX4_dissolveReason 38 = .ok (.aload_n 0, 1) := dq0 (p := fun a b => decode cX4_dissolveReason a = .ok b) dm_cX4_dissolveReason_0 22 rfl
theorem dX4_dissolveReason_39 : decode cX4_dissolveReason 39 = .ok (.getfield 13, 3) := dq0 (p := fun a b => decode cX4_dissolveReason a = .ok b) dm_cX4_dissolveReason_0 23 rfl
theorem dX4_dissolveReason_42 : decode cX4_dissolveReason 42 = .ok (.aload_n 0, 1) := dq0 (p := fun a b => decode cX4_dissolveReason a = .ok b) dm_cX4_dissolveReason_0 24 rfl
theorem dX4_dissolveReason_43 : decode cX4_dissolveReason 43 = .ok (.getfield 13, 3) := dq0 (p := fun a b => decode cX4_dissolveReason a = .ok b) dm_cX4_dissolveReason_0 25 rfl
theorem dX4_dissolveReason_46 : decode cX4_dissolveReason 46 = .ok (.sipush 128, 3) := dq0 (p := fun a b => decode cX4_dissolveReason a = .ok b) dm_cX4_dissolveReason_0 26 rfl
theorem dX4_dissolveReason_49 : decode cX4_dissolveReason 49 = .ok (.iaload, 1) := dq0 (p := fun a b => decode cX4_dissolveReason a = .ok b) dm_cX4_dissolveReason_0 27 rfl
theorem dX4_dissolveReason_50 : decode cX4_dissolveReason 50 = .ok (.invokestatic 106, 3) := dq0 (p := fun a b => decode cX4_dissolveReason a = .ok b) dm_cX4_dissolveReason_0 28 rfl
theorem dX4_dissolveReason_53 : decode cX4_dissolveReason 53 = .ok (.ifCond .eq 7, 3) := dq0 (p := fun a b => decode cX4_dissolveReason a = .ok b) dm_cX4_dissolveReason_0 29 rfl
theorem dX4_dissolveReason_56 : decode cX4_dissolveReason 56 = .ok (.iconst 4, 1) := dq0 (p := fun a b => decode cX4_dissolveReason a = .ok b) dm_cX4_dissolveReason_0 30 rfl
theorem dX4_dissolveReason_57 : decode cX4_dissolveReason 57 = .ok (.goto 4, 3) := dq0 (p := fun a b => decode cX4_dissolveReason a = .ok b) dm_cX4_dissolveReason_0 31 rfl
theorem dX4_dissolveReason_60 : decode cX4_dissolveReason 60 = .ok (.iconst 0, 1) := dq0 (p := fun a b => decode cX4_dissolveReason a = .ok b) dm_cX4_dissolveReason_0 32 rfl
theorem dX4_dissolveReason_61 : decode cX4_dissolveReason 61 = .ok (.ireturn, 1) := dq0 (p := fun a b => decode cX4_dissolveReason a = .ok b) dm_cX4_dissolveReason_0 33 rfl
theorem dm_cX4_hasBondAction_0 : ([(0, .iconst 0, 1), (1, .istore_n 1, 1), (2, .iload_n 1, 1), (3, .bipush 64, 2), (5, .if_icmp .ge 43, 3), (8, .aload_n 0, 1), (9, .iload_n 1, 1), (10, .invokevirtual 117, 3), (13, .ifCond .ne 5, 3), (16, .iconst 1, 1), (17, .ireturn, 1), (18, .iconst 0, 1), (19, .istore_n 2, 1), (20, .iload_n 2, 1), (21, .iload_n 1, 1), (22, .if_icmp .ge 20, 3), (25, .aload_n 0, 1), (26, .iload_n 1, 1), (27, .iload_n 2, 1), (28, .invokevirtual 121, 3), (31, .ifCond .ne 5, 3), (34, .iconst 1, 1), (35, .ireturn, 1), (36, .iinc 2 1, 3), (39, .goto (-19), 3), (42, .iinc 1 1, 3), (45, .goto (-43), 3), (48, .iconst 0, 1), (49, .ireturn, 1)] : List (Nat × Instr × Nat)).all (fun t => decide (decode cX4_hasBondAction t.1 = .ok t.2)) = true := by decide +kernel
theorem dX4_hasBondAction_0 : decode cX4_hasBondAction 0 = .ok (.iconst 0, 1) := dq0 (p := fun a b => decode cX4_hasBondAction a = .ok b) dm_cX4_hasBondAction_0 0 rfl
theorem dX4_hasBondAction_1 : decode cX4_hasBondAction 1 = .ok (.istore_n 1, 1) := dq0 (p := fun a b => decode cX4_hasBondAction a = .ok b) dm_cX4_hasBondAction_0 1 rfl
theorem dX4_hasBondAction_2 : decode cX4_hasBondAction 2 = .ok (.iload_n 1, 1) := dq0 (p := fun a b => decode cX4_hasBondAction a = .ok b) dm_cX4_hasBondAction_0 2 rfl
theorem dX4_hasBondAction_3 : decode cX4_hasBondAction 3 = .ok (.bipush 64, 2) := dq0 (p := fun a b => decode cX4_hasBondAction a = .ok b) dm_cX4_hasBondAction_0 3 rfl
theorem dX4_hasBondAction_5 : decode cX4_hasBondAction 5 = .ok (.if_icmp .ge 43, 3) := dq0 (p := fun a b => decode cX4_hasBondAction a = .ok b) dm_cX4_hasBondAction_0 4 rfl
theorem dX4_hasBondAction_8 : decode cX4_hasBondAction 8 = .ok (.aload_n 0, 1) := dq0 (p := fun a b => decode cX4_hasBondAction a = .ok b) dm_cX4_hasBondAction_0 5 rfl
theorem dX4_hasBondAction_9 : decode cX4_hasBondAction 9 = .ok (.iload_n 1, 1) := dq0 (p := fun a b => decode cX4_hasBondAction a = .ok b) dm_cX4_hasBondAction_0 6 rfl
theorem dX4_hasBondAction_10 : decode cX4_hasBondAction 10 = .ok (.invokevirtual 117, 3) := dq0 (p := fun a b => decode cX4_hasBondAction a = .ok b) dm_cX4_hasBondAction_0 7 rfl
theorem dX4_hasBondAction_13 : decode cX4_hasBondAction 13 = .ok (.ifCond .ne 5, 3) := dq0 (p := fun a b => decode cX4_hasBondAction a = .ok b) dm_cX4_hasBondAction_0 8 rfl
theorem dX4_hasBondAction_16 : decode cX4_hasBondAction 16 = .ok (.iconst 1, 1) := dq0 (p := fun a b => decode cX4_hasBondAction a = .ok b) dm_cX4_hasBondAction_0 9 rfl
theorem dX4_hasBondAction_17 : decode cX4_hasBondAction 17 = .ok (.ireturn, 1) := dq0 (p := fun a b => decode cX4_hasBondAction a = .ok b) dm_cX4_hasBondAction_0 10 rfl
theorem dX4_hasBondAction_18 : decode cX4_hasBondAction 18 = .ok (.iconst 0, 1) := dq0 (p := fun a b => decode cX4_hasBondAction a = .ok b) dm_cX4_hasBondAction_0 11 rfl
theorem dX4_hasBondAction_19 : decode cX4_hasBondAction 19 = .ok (.istore_n 2, 1) := dq0 (p := fun a b => decode cX4_hasBondAction a = .ok b) dm_cX4_hasBondAction_0 12 rfl
theorem dX4_hasBondAction_20 : decode cX4_hasBondAction 20 = .ok (.iload_n 2, 1) := dq0 (p := fun a b => decode cX4_hasBondAction a = .ok b) dm_cX4_hasBondAction_0 13 rfl
theorem dX4_hasBondAction_21 : decode cX4_hasBondAction 21 = .ok (.iload_n 1, 1) := dq0 (p := fun a b => decode cX4_hasBondAction a = .ok b) dm_cX4_hasBondAction_0 14 rfl
theorem dX4_hasBondAction_22 : decode cX4_hasBondAction 22 = .ok (.if_icmp .ge 20, 3) := dq0 (p := fun a b => decode cX4_hasBondAction a = .ok b) dm_cX4_hasBondAction_0 15 rfl
theorem dX4_hasBondAction_25 : decode cX4_hasBondAction 25 = .ok (.aload_n 0, 1) := dq0 (p := fun a b => decode cX4_hasBondAction a = .ok b) dm_cX4_hasBondAction_0 16 rfl
theorem dX4_hasBondAction_26 : decode cX4_hasBondAction 26 = .ok (.iload_n 1, 1) := dq0 (p := fun a b => decode cX4_hasBondAction a = .ok b) dm_cX4_hasBondAction_0 17 rfl
theorem dX4_hasBondAction_27 : decode cX4_hasBondAction 27 = .ok (.iload_n 2, 1) := dq0 (p := fun a b => decode cX4_hasBondAction a = .ok b) dm_cX4_hasBondAction_0 18 rfl
theorem dX4_hasBondAction_28 : decode cX4_hasBondAction 28 = .ok (.invokevirtual 121, 3) := dq0 (p := fun a b => decode cX4_hasBondAction a = .ok b) dm_cX4_hasBondAction_0 19 rfl
theorem dX4_hasBondAction_31 : decode cX4_hasBondAction 31 = .ok (.ifCond .ne 5, 3) := dq0 (p := fun a b => decode cX4_hasBondAction a = .ok b) dm_cX4_hasBondAction_0 20 rfl
theorem dX4_hasBondAction_34 : decode cX4_hasBondAction 34 = .ok (.iconst 1, 1) := dq0 (p := fun a b => decode cX4_hasBondAction a = .ok b) dm_cX4_hasBondAction_0 21 rfl
theorem dX4_hasBondAction_35 : decode cX4_hasBondAction 35 = .ok (.ireturn, 1) := dq0 (p := fun a b => decode cX4_hasBondAction a = .ok b) dm_cX4_hasBondAction_0 22 rfl
theorem dX4_hasBondAction_36 : decode cX4_hasBondAction 36 = .ok (.iinc 2 1, 3) := dq0 (p := fun a b => decode cX4_hasBondAction a = .ok b) dm_cX4_hasBondAction_0 23 rfl
theorem dX4_hasBondAction_39 : decode cX4_hasBondAction 39 = .ok (.goto (-19), 3) := dq0 (p := fun a b => decode cX4_hasBondAction a = .ok b) dm_cX4_hasBondAction_0 24 rfl
theorem dX4_hasBondAction_42 : decode cX4_hasBondAction 42 = .ok (.iinc 1 1, 3) := dq0 (p := fun a b => decode cX4_hasBondAction a = .ok b) dm_cX4_hasBondAction_0 25 rfl
theorem dX4_hasBondAction_45 : decode cX4_hasBondAction 45 = .ok (.goto (-43), 3) := dq0 (p := fun a b => decode cX4_hasBondAction a = .ok b) dm_cX4_hasBondAction_0 26 rfl
theorem dX4_hasBondAction_48 : decode cX4_hasBondAction 48 = .ok (.iconst 0, 1) := dq0 (p := fun a b => decode cX4_hasBondAction a = .ok b) dm_cX4_hasBondAction_0 27 rfl
theorem dX4_hasBondAction_49 : decode cX4_hasBondAction 49 = .ok (.ireturn, 1) := dq0 (p := fun a b => decode cX4_hasBondAction a = .ok b) dm_cX4_hasBondAction_0 28 rfl
theorem dm_cX4_isSame_0 : ([(0, .iconst 1, 1), (1, .istore_n 2, 1), (2, .iconst 0, 1), (3, .istore_n 3, 1), (4, .iload_n 3, 1), (5, .sipush 128, 3), (8, .if_icmp .gt 40, 3), (11, .iload_n 2, 1), (12, .ifCond .eq 28, 3), (15, .aload_n 0, 1), (16, .getfield 7, 3), (19, .sipush 146, 3), (22, .iload_n 1, 1), (23, .imul, 1), (24, .iload_n 3, 1), (25, .iadd, 1), (26, .iaload, 1), (27, .aload_n 0, 1), (28, .getfield 13, 3), (31, .iload_n 3, 1), (32, .iaload, 1), (33, .if_icmp .ne 7, 3), (36, .iconst 1, 1), (37, .goto 4, 3), (40, .iconst 0, 1), (41, .istore_n 2, 1), (42, .iinc 3 1, 3), (45, .goto (-41), 3), (48, .iload_n 2, 1), (49, .ireturn, 1)] : List (Nat × Instr × Nat)).all (fun t => decide (decode cX4_isSame t.1 = .ok t.2)) = true := by decide +kernel
theorem dX4_isSame_0 : decode cX4_isSame 0 = .ok (.iconst 1, 1) := dq0 (p := fun a b => decode cX4_isSame a = .ok b) dm_cX4_isSame_0 0 rfl
theorem dX4_isSame_1 : decode cX4_isSame 1 = .ok (.istore_n 2, 1) := dq0 (p := fun a b => decode cX4_isSame a = .ok b) dm_cX4_isSame_0 1 rfl
theorem dX4_isSame_2 : decode cX4_isSame 2 = .ok (.iconst 0, 1) := dq0 (p := fun a b => decode cX4_isSame a = .ok b) dm_cX4_isSame_0 2 rfl
theorem dX4_isSame_3 : decode cX4_isSame 3 = .ok (.istore_n 3, 1) := dq0 (p := fun a b => decode cX4_isSame a = .ok b) dm_cX4_isSame_0 3 rfl
theorem dX4_isSame_4 : decode cX4_isSame 4 = .ok (.iload_n 3, 1) := dq0 (p := fun a b => decode cX4_isSame a = .ok b) dm_cX4_isSame_0 4 rfl
theorem dX4_isSame_5 : decode cX4_isSame 5 = .ok (.sipush 128, 3) := dq0 (p := fun a b => decode cX4_isSame a = .ok b) dm_cX4_isSame_0 5 rfl
theorem dX4_isSame_8 : decode cX4_isSame 8 = .ok (.if_icmp .gt 40, 3) := dq0 (p := fun a b => decode cX4_isSame a = .ok b) dm_cX4_isSame_0 6 rfl
theorem dX4_isSame_11 : decode cX4_isSame 11 = .ok (.iload_n 2, 1) := dq0 (p := fun a b => decode cX4_isSame a = .ok b) dm_cX4_isSame_0 7 rfl
theorem dX4_isSame_12 : decode cX4_isSame 12 = .ok (.ifCond .eq 28, 3) := dq0 (p := fun a b => decode cX4_isSame a = .ok b) dm_cX4_isSame_0 8 rfl
theorem dX4_isSame_15 : decode cX4_isSame 15 = .ok (.aload_n 0, 1) := dq0 (p := fun a b => decode cX4_isSame a = .ok b) dm_cX4_isSame_0 9 rfl
theorem dX4_isSame_16 : decode cX4_isSame 16 = .ok (.getfield 7, 3) := dq0 (p := fun a b => decode cX4_isSame a = .ok b) dm_cX4_isSame_0 10 rfl
theorem dX4_isSame_19 : decode cX4_isSame 19 = .ok (.sipush 146, 3) := dq0 (p := fun a b => decode cX4_isSame a = .ok b) dm_cX4_isSame_0 11 rfl
theorem dX4_isSame_22 : decode cX4_isSame 22 = .ok (.iload_n 1, 1) := dq0 (p := fun a b => decode cX4_isSame a = .ok b) dm_cX4_isSame_0 12 rfl
theorem dX4_isSame_23 : decode cX4_isSame 23 = .ok (.imul, 1) := dq0 (p := fun a b => decode cX4_isSame a = .ok b) dm_cX4_isSame_0 13 rfl
theorem dX4_isSame_24 : decode cX4_isSame 24 = .ok (.iload_n 3, 1) := dq0 (p := fun a b => decode cX4_isSame a = .ok b) dm_cX4_isSame_0 14 rfl
theorem dX4_isSame_25 : decode cX4_isSame 25 = .ok (.iadd, 1) := dq0 (p := fun a b => decode cX4_isSame a = .ok b) dm_cX4_isSame_0 15 rfl
theorem dX4_isSame_26 : decode cX4_isSame 26 = .ok (.iaload, 1) := dq0 (p := fun a b => decode cX4_isSame a = .ok b) dm_cX4_isSame_0 16 rfl
theorem dX4_isSame_27 : decode cX4_isSame 27 = .ok (.aload_n 0, 1) := dq0 (p := fun a b => decode cX4_isSame a = .ok b) dm_cX4_isSame_0 17 rfl
theorem dX4_isSame_28 : decode cX4_isSame 28 = .ok (.getfield 13, 3) := dq0 (p := fun a b => decode cX4_isSame a = .ok b) dm_cX4_isSame_0 18 rfl
theorem dX4_isSame_31 : decode cX4_isSame 31 = .ok (.iload_n 3, 1) := dq0 (p := fun a b => decode cX4_isSame a = .ok b) dm_cX4_isSame_0 19 rfl
theorem dX4_isSame_32 : decode cX4_isSame 32 = .ok (.iaload, 1) := dq0 (p := fun a b => decode cX4_isSame a = .ok b) dm_cX4_isSame_0 20 rfl
theorem dX4_isSame_33 : decode cX4_isSame 33 = .ok (.if_icmp .ne 7, 3) := dq0 (p := fun a b => decode cX4_isSame a = .ok b) dm_cX4_isSame_0 21 rfl
theorem dX4_isSame_36 : decode cX4_isSame 36 = .ok (.iconst 1, 1) := dq0 (p := fun a b => decode cX4_isSame a = .ok b) dm_cX4_isSame_0 22 rfl
theorem dX4_isSame_37 : decode cX4_isSame 37 = .ok (.goto 4, 3) := dq0 (p := fun a b => decode cX4_isSame a = .ok b) dm_cX4_isSame_0 23 rfl
theorem dX4_isSame_40 : decode cX4_isSame 40 = .ok (.iconst 0, 1) := dq0 (p := fun a b => decode cX4_isSame a = .ok b) dm_cX4_isSame_0 24 rfl
theorem dX4_isSame_41 : decode cX4_isSame 41 = .ok (.istore_n 2, 1) := dq0 (p := fun a b => decode cX4_isSame a = .ok b) dm_cX4_isSame_0 25 rfl
theorem dX4_isSame_42 : decode cX4_isSame 42 = .ok (.iinc 3 1, 3) := dq0 (p := fun a b => decode cX4_isSame a = .ok b) dm_cX4_isSame_0 26 rfl
theorem dX4_isSame_45 : decode cX4_isSame 45 = .ok (.goto (-41), 3) := dq0 (p := fun a b => decode cX4_isSame a = .ok b) dm_cX4_isSame_0 27 rfl
theorem dX4_isSame_48 : decode cX4_isSame 48 = .ok (.iload_n 2, 1) := dq0 (p := fun a b => decode cX4_isSame a = .ok b) dm_cX4_isSame_0 28 rfl
theorem dX4_isSame_49 : decode cX4_isSame 49 = .ok (.ireturn, 1) := dq0 (p := fun a b => decode cX4_isSame a = .ok b) dm_cX4_isSame_0 29 rfl
theorem dm_cX4_occurred_0 : ([(0, .iconst 0, 1), (1, .istore_n 1, 1), (2, .iconst 0, 1), (3, .istore_n 2, 1), (4, .iload_n 2, 1), (5, .aload_n 0, 1), (6, .getfield 124, 3), (9, .if_icmp .gt 25, 3), (12, .iload_n 1, 1), (13, .aload_n 0, 1), (14, .iload_n 2, 1), (15, .invokevirtual 127, 3), (18, .ifCond .eq 7, 3), (21, .iconst 1, 1), (22, .goto 4, 3), (25, .iconst 0, 1), (26, .iadd, 1), (27, .istore_n 1, 1), (28, .iinc 2 1, 3), (31, .goto (-27), 3), (34, .iload_n 1, 1), (35, .ireturn, 1)] : List (Nat × Instr × Nat)).all (fun t => decide (decode cX4_occurred t.1 = .ok t.2)) = true := by decide +kernel
theorem dX4_occurred_0 : decode cX4_occurred 0 = .ok (.iconst 0, 1) := dq0 (p := fun a b => decode cX4_occurred a = .ok b) dm_cX4_occurred_0 0 rfl
theorem dX4_occurred_1 : decode cX4_occurred 1 = .ok (.istore_n 1, 1) := dq0 (p := fun a b => decode cX4_occurred a = .ok b) dm_cX4_occurred_0 1 rfl
theorem dX4_occurred_2 : decode cX4_occurred 2 = .ok (.iconst 0, 1) := dq0 (p := fun a b => decode cX4_occurred a = .ok b) dm_cX4_occurred_0 2 rfl
theorem dX4_occurred_3 : decode cX4_occurred 3 = .ok (.istore_n 2, 1) := dq0 (p := fun a b => decode cX4_occurred a = .ok b) dm_cX4_occurred_0 3 rfl
theorem dX4_occurred_4 : decode cX4_occurred 4 = .ok (.iload_n 2, 1) := dq0 (p := fun a b => decode cX4_occurred a = .ok b) dm_cX4_occurred_0 4 rfl
theorem dX4_occurred_5 : decode cX4_occurred 5 = .ok (.aload_n 0, 1) := dq0 (p := fun a b => decode cX4_occurred a = .ok b) dm_cX4_occurred_0 5 rfl
theorem dX4_occurred_6 : decode cX4_occurred 6 = .ok (.getfield 124, 3) := dq0 (p := fun a b => decode cX4_occurred a = .ok b) dm_cX4_occurred_0 6 rfl
theorem dX4_occurred_9 : decode cX4_occurred 9 = .ok (.if_icmp .gt 25, 3) := dq0 (p := fun a b => decode cX4_occurred a = .ok b) dm_cX4_occurred_0 7 rfl
theorem dX4_occurred_12 : decode cX4_occurred 12 = .ok (.iload_n 1, 1) := dq0 (p := fun a b => decode cX4_occurred a = .ok b) dm_cX4_occurred_0 8 rfl
theorem dX4_occurred_13 : decode cX4_occurred 13 = .ok (.aload_n 0, 1) := dq0 (p := fun a b => decode cX4_occurred a = .ok b) dm_cX4_occurred_0 9 rfl
theorem dX4_occurred_14 : decode cX4_occurred 14 = .ok (.iload_n 2, 1) := dq0 (p := fun a b => decode cX4_occurred a = .ok b) dm_cX4_occurred_0 10 rfl
theorem dX4_occurred_15 : decode cX4_occurred 15 = .ok (.invokevirtual 127, 3) := dq0 (p := fun a b => decode cX4_occurred a = .ok b) dm_cX4_occurred_0 11 rfl
theorem dX4_occurred_18 : decode cX4_occurred 18 = .ok (.ifCond .eq 7, 3) := dq0 (p := fun a b => decode cX4_occurred a = .ok b) dm_cX4_occurred_0 12 rfl
theorem dX4_occurred_21 : decode cX4_occurred 21 = .ok (.iconst 1, 1) := dq0 (p := fun a b => decode cX4_occurred a = .ok b) dm_cX4_occurred_0 13 rfl
theorem dX4_occurred_22 : decode cX4_occurred 22 = .ok (.goto 4, 3) := dq0 (p := fun a b => decode cX4_occurred a = .ok b) dm_cX4_occurred_0 14 rfl
theorem dX4_occurred_25 : decode cX4_occurred 25 = .ok (.iconst 0, 1) := dq0 (p := fun a b => decode cX4_occurred a = .ok b) dm_cX4_occurred_0 15 rfl
theorem dX4_occurred_26 : decode cX4_occurred 26 = .ok (.iadd, 1) := dq0 (p := fun a b => decode cX4_occurred a = .ok b) dm_cX4_occurred_0 16 rfl
theorem dX4_occurred_27 : decode cX4_occurred 27 = .ok (.istore_n 1, 1) := dq0 (p := fun a b => decode cX4_occurred a = .ok b) dm_cX4_occurred_0 17 rfl
theorem dX4_occurred_28 : decode cX4_occurred 28 = .ok (.iinc 2 1, 3) := dq0 (p := fun a b => decode cX4_occurred a = .ok b) dm_cX4_occurred_0 18 rfl
theorem dX4_occurred_31 : decode cX4_occurred 31 = .ok (.goto (-27), 3) := dq0 (p := fun a b => decode cX4_occurred a = .ok b) dm_cX4_occurred_0 19 rfl
theorem dX4_occurred_34 : decode cX4_occurred 34 = .ok (.iload_n 1, 1) := dq0 (p := fun a b => decode cX4_occurred a = .ok b) dm_cX4_occurred_0 20 rfl
theorem dX4_occurred_35 : decode cX4_occurred 35 = .ok (.ireturn, 1) := dq0 (p := fun a b => decode cX4_occurred a = .ok b) dm_cX4_occurred_0 21 rfl
theorem dm_cX4_pieces_0 : ([(0, .iconst 0, 1), (1, .istore_n 1, 1), (2, .iconst 0, 1), (3, .istore_n 2, 1), (4, .iload_n 2, 1), (5, .bipush 64, 2), (7, .if_icmp .ge 23, 3), (10, .iload_n 1, 1), (11, .aload_n 0, 1), (12, .iload_n 2, 1), (13, .iaload, 1), (14, .ifCond .ne 7, 3), (17, .iconst 0, 1), (18, .goto 4, 3), (21, .iconst 1, 1), (22, .iadd, 1), (23, .istore_n 1, 1), (24, .iinc 2 1, 3), (27, .goto (-23), 3), (30, .iload_n 1, 1), (31, .ireturn, 1)] : List (Nat × Instr × Nat)).all (fun t => decide (decode cX4_pieces t.1 = .ok t.2)) = true := by decide +kernel
theorem dX4_pieces_0 : decode cX4_pieces 0 = .ok (.iconst 0, 1) := dq0 (p := fun a b => decode cX4_pieces a = .ok b) dm_cX4_pieces_0 0 rfl
theorem dX4_pieces_1 : decode cX4_pieces 1 = .ok (.istore_n 1, 1) := dq0 (p := fun a b => decode cX4_pieces a = .ok b) dm_cX4_pieces_0 1 rfl
theorem dX4_pieces_2 : decode cX4_pieces 2 = .ok (.iconst 0, 1) := dq0 (p := fun a b => decode cX4_pieces a = .ok b) dm_cX4_pieces_0 2 rfl
theorem dX4_pieces_3 : decode cX4_pieces 3 = .ok (.istore_n 2, 1) := dq0 (p := fun a b => decode cX4_pieces a = .ok b) dm_cX4_pieces_0 3 rfl
theorem dX4_pieces_4 : decode cX4_pieces 4 = .ok (.iload_n 2, 1) := dq0 (p := fun a b => decode cX4_pieces a = .ok b) dm_cX4_pieces_0 4 rfl
theorem dX4_pieces_5 : decode cX4_pieces 5 = .ok (.bipush 64, 2) := dq0 (p := fun a b => decode cX4_pieces a = .ok b) dm_cX4_pieces_0 5 rfl
theorem dX4_pieces_7 : decode cX4_pieces 7 = .ok (.if_icmp .ge 23, 3) := dq0 (p := fun a b => decode cX4_pieces a = .ok b) dm_cX4_pieces_0 6 rfl
theorem dX4_pieces_10 : decode cX4_pieces 10 = .ok (.iload_n 1, 1) := dq0 (p := fun a b => decode cX4_pieces a = .ok b) dm_cX4_pieces_0 7 rfl
theorem dX4_pieces_11 : decode cX4_pieces 11 = .ok (.aload_n 0, 1) := dq0 (p := fun a b => decode cX4_pieces a = .ok b) dm_cX4_pieces_0 8 rfl
theorem dX4_pieces_12 : decode cX4_pieces 12 = .ok (.iload_n 2, 1) := dq0 (p := fun a b => decode cX4_pieces a = .ok b) dm_cX4_pieces_0 9 rfl
theorem dX4_pieces_13 : decode cX4_pieces 13 = .ok (.iaload, 1) := dq0 (p := fun a b => decode cX4_pieces a = .ok b) dm_cX4_pieces_0 10 rfl
theorem dX4_pieces_14 : decode cX4_pieces 14 = .ok (.ifCond .ne 7, 3) := dq0 (p := fun a b => decode cX4_pieces a = .ok b) dm_cX4_pieces_0 11 rfl
theorem dX4_pieces_17 : decode cX4_pieces 17 = .ok (.iconst 0, 1) := dq0 (p := fun a b => decode cX4_pieces a = .ok b) dm_cX4_pieces_0 12 rfl
theorem dX4_pieces_18 : decode cX4_pieces 18 = .ok (.goto 4, 3) := dq0 (p := fun a b => decode cX4_pieces a = .ok b) dm_cX4_pieces_0 13 rfl
theorem dX4_pieces_21 : decode cX4_pieces 21 = .ok (.iconst 1, 1) := dq0 (p := fun a b => decode cX4_pieces a = .ok b) dm_cX4_pieces_0 14 rfl
theorem dX4_pieces_22 : decode cX4_pieces 22 = .ok (.iadd, 1) := dq0 (p := fun a b => decode cX4_pieces a = .ok b) dm_cX4_pieces_0 15 rfl
theorem dX4_pieces_23 : decode cX4_pieces 23 = .ok (.istore_n 1, 1) := dq0 (p := fun a b => decode cX4_pieces a = .ok b) dm_cX4_pieces_0 16 rfl
theorem dX4_pieces_24 : decode cX4_pieces 24 = .ok (.iinc 2 1, 3) := dq0 (p := fun a b => decode cX4_pieces a = .ok b) dm_cX4_pieces_0 17 rfl
theorem dX4_pieces_27 : decode cX4_pieces 27 = .ok (.goto (-23), 3) := dq0 (p := fun a b => decode cX4_pieces a = .ok b) dm_cX4_pieces_0 18 rfl
theorem dX4_pieces_30 : decode cX4_pieces 30 = .ok (.iload_n 1, 1) := dq0 (p := fun a b => decode cX4_pieces a = .ok b) dm_cX4_pieces_0 19 rfl
theorem dX4_pieces_31 : decode cX4_pieces 31 = .ok (.ireturn, 1) := dq0 (p := fun a b => decode cX4_pieces a = .ok b) dm_cX4_pieces_0 20 rfl
theorem dm_cX4_findOutcome_0 : ([(0, .aload_n 0, 1), (1, .getfield 13, 3), (4, .aload_n 0, 1), (5, .getfield 13, 3), (8, .sipush 128, 3), (11, .iaload, 1), (12, .invokestatic 106, 3), (15, .istore_n 1, 1), (16, .aload_n 0, 1), (17, .aload_n 0, 1), (18, .getfield 13, 3), (21, .aload_n 0, 1), (22, .getfield 16, 3), (25, .invokevirtual 131, 3), (28, .istore_n 2, 1), (29, .iload_n 1, 1), (30, .ifCond .eq 15, 3), (33, .iload_n 2, 1), (34, .ifCond .ne 11, 3), (37, .aload_n 0, 1), (38, .iconst 1, 1), (39, .putfield 135, 3), (42, .goto 83, 3), (45, .iload_n 1, 1), (46, .ifCond .ne 22, 3), (49, .iload_n 2, 1), (50, .ifCond .ne 18, 3), (53, .aload_n 0, 1), (54, .invokevirtual 138, 3), (57, .ifCond .ne 11, 3), (60, .aload_n 0, 1), (61, .iconst 2, 1), (62, .putfield 135, 3), (65, .goto 60, 3), (68, .aload_n 0, 1), (69, .getfield 13, 3), (72, .invokestatic 142, 3), (75, .iconst 2, 1), (76, .if_icmp .ne 11, 3), (79, .aload_n 0, 1), (80, .iconst 3, 1), (81, .putfield 135, 3), (84, .goto 41, 3), (87, .aload_n 0, 1), (88, .invokevirtual 146, 3), (91, .iconst 3, 1), (92, .if_icmp .lt 11, 3), (95, .aload_n 0, 1), (96, .iconst 4, 1), (97, .putfield 135, 3), (100, .goto 25, 3), (103, .aload_n 0, 1), (104, .aload_n 0, 1), (105, .getfield 13, 3), (108, .sipush 129, 3), (111, .iaload, 1), (112, .bipush 40, 2), (114, .if_icmp .lt 7, 3), (117, .iconst 5, 1), (118, .goto 4, 3)] : List (Nat × Instr × Nat)).all (fun t => decide (decode cX4_findOutcome t.1 = .ok t.2)) = true := by decide +kernel
theorem dX4_findOutcome_0 : decode cX4_findOutcome 0 = .ok (.aload_n 0, 1) := dq0 (p := fun a b => decode cX4_findOutcome a = .ok b) dm_cX4_findOutcome_0 0 rfl
theorem dX4_findOutcome_1 : decode cX4_findOutcome 1 = .ok (.getfield 13, 3) := dq0 (p := fun a b => decode cX4_findOutcome a = .ok b) dm_cX4_findOutcome_0 1 rfl
theorem dX4_findOutcome_4 : decode cX4_findOutcome 4 = .ok (.aload_n 0, 1) := dq0 (p := fun a b => decode cX4_findOutcome a = .ok b) dm_cX4_findOutcome_0 2 rfl
theorem dX4_findOutcome_5 : decode cX4_findOutcome 5 = .ok (.getfield 13, 3) := dq0 (p := fun a b => decode cX4_findOutcome a = .ok b) dm_cX4_findOutcome_0 3 rfl
theorem dX4_findOutcome_8 : decode cX4_findOutcome 8 = .ok (.sipush 128, 3) := dq0 (p := fun a b => decode cX4_findOutcome a = .ok b) dm_cX4_findOutcome_0 4 rfl
theorem dX4_findOutcome_11 : decode cX4_findOutcome 11 = .ok (.iaload, 1) := dq0 (p := fun a b => decode cX4_findOutcome a = .ok b) dm_cX4_findOutcome_0 5 rfl
theorem dX4_findOutcome_12 : decode cX4_findOutcome 12 = .ok (.invokestatic 106, 3) := dq0 (p := fun a b => decode cX4_findOutcome a = .ok b) dm_cX4_findOutcome_0 6 rfl
theorem dX4_findOutcome_15 : decode cX4_findOutcome 15 = .ok (.istore_n 1, 1) := dq0 (p := fun a b => decode cX4_findOutcome a = .ok b) dm_cX4_findOutcome_0 7 rfl
theorem dX4_findOutcome_16 : decode cX4_findOutcome 16 = .ok (.aload_n 0, 1) := dq0 (p := fun a b => decode cX4_findOutcome a = .ok b) dm_cX4_findOutcome_0 8 rfl
theorem dX4_findOutcome_17 : decode cX4_findOutcome 17 = .ok (.aload_n 0, 1) := dq0 (p := fun a b => decode cX4_findOutcome a = .ok b) dm_cX4_findOutcome_0 9 rfl
theorem dX4_findOutcome_18 : decode cX4_findOutcome 18 = .ok (.getfield 13, 3) := dq0 (p := fun a b => decode cX4_findOutcome a = .ok b) dm_cX4_findOutcome_0 10 rfl
theorem dX4_findOutcome_21 : decode cX4_findOutcome 21 = .ok (.aload_n 0, 1) := dq0 (p := fun a b => decode cX4_findOutcome a = .ok b) dm_cX4_findOutcome_0 11 rfl
theorem dX4_findOutcome_22 : decode cX4_findOutcome 22 = .ok (.getfield 16, 3) := dq0 (p := fun a b => decode cX4_findOutcome a = .ok b) dm_cX4_findOutcome_0 12 rfl
theorem dX4_findOutcome_25 : decode cX4_findOutcome 25 = .ok (.invokevirtual 131, 3) := dq0 (p := fun a b => decode cX4_findOutcome a = .ok b) dm_cX4_findOutcome_0 13 rfl
theorem dX4_findOutcome_28 : decode cX4_findOutcome 28 = .ok (.istore_n 2, 1) := dq0 (p := fun a b => decode cX4_findOutcome a = .ok b) dm_cX4_findOutcome_0 14 rfl
theorem dX4_findOutcome_29 : decode cX4_findOutcome 29 = .ok (.iload_n 1, 1) := dq0 (p := fun a b => decode cX4_findOutcome a = .ok b) dm_cX4_findOutcome_0 15 rfl
theorem dX4_findOutcome_30 : decode cX4_findOutcome 30 = .ok (.ifCond .eq 15, 3) := dq0 (p := fun a b => decode cX4_findOutcome a = .ok b) dm_cX4_findOutcome_0 16 rfl
theorem dX4_findOutcome_33 : decode cX4_findOutcome 33 = .ok (.iload_n 2, 1) := dq0 (p := fun a b => decode cX4_findOutcome a = .ok b) dm_cX4_findOutcome_0 17 rfl
theorem dX4_findOutcome_34 : decode cX4_findOutcome 34 = .ok (.ifCond .ne 11, 3) := dq0 (p := fun a b => decode cX4_findOutcome a = .ok b) dm_cX4_findOutcome_0 18 rfl
theorem dX4_findOutcome_37 : decode cX4_findOutcome 37 = .ok (.aload_n 0, 1) := dq0 (p := fun a b => decode cX4_findOutcome a = .ok b) dm_cX4_findOutcome_0 19 rfl
theorem dX4_findOutcome_38 : decode cX4_findOutcome 38 = .ok (.iconst 1, 1) := dq0 (p := fun a b => decode cX4_findOutcome a = .ok b) dm_cX4_findOutcome_0 20 rfl
theorem dX4_findOutcome_39 : decode cX4_findOutcome 39 = .ok (.putfield 135, 3) := dq0 (p := fun a b => decode cX4_findOutcome a = .ok b) dm_cX4_findOutcome_0 21 rfl
theorem dX4_findOutcome_42 : decode cX4_findOutcome 42 = .ok (.goto 83, 3) := dq0 (p := fun a b => decode cX4_findOutcome a = .ok b) dm_cX4_findOutcome_0 22 rfl
theorem dX4_findOutcome_45 : decode cX4_findOutcome 45 = .ok (.iload_n 1, 1) := dq0 (p := fun a b => decode cX4_findOutcome a = .ok b) dm_cX4_findOutcome_0 23 rfl
theorem dX4_findOutcome_46 : decode cX4_findOutcome 46 = .ok (.ifCond .ne 22, 3) := dq0 (p := fun a b => decode cX4_findOutcome a = .ok b) dm_cX4_findOutcome_0 24 rfl
theorem dX4_findOutcome_49 : decode cX4_findOutcome 49 = .ok (.iload_n 2, 1) := dq0 (p := fun a b => decode cX4_findOutcome a = .ok b) dm_cX4_findOutcome_0 25 rfl
theorem dX4_findOutcome_50 : decode cX4_findOutcome 50 = .ok (.ifCond .ne 18, 3) := dq0 (p := fun a b => decode cX4_findOutcome a = .ok b) dm_cX4_findOutcome_0 26 rfl
theorem dX4_findOutcome_53 : decode cX4_findOutcome 53 = .ok (.aload_n 0, 1) := dq0 (p := fun a b => decode cX4_findOutcome a = .ok b) dm_cX4_findOutcome_0 27 rfl
theorem dX4_findOutcome_54 : decode cX4_findOutcome 54 = .ok (.invokevirtual 138, 3) := dq0 (p := fun a b => decode cX4_findOutcome a = .ok b) dm_cX4_findOutcome_0 28 rfl
theorem dX4_findOutcome_57 : decode cX4_findOutcome 57 = .ok (.ifCond .ne 11, 3) := dq0 (p := fun a b => decode cX4_findOutcome a = .ok b) dm_cX4_findOutcome_0 29 rfl
theorem dX4_findOutcome_60 : decode cX4_findOutcome 60 = .ok (.aload_n 0, 1) := dq0 (p := fun a b => decode cX4_findOutcome a = .ok b) dm_cX4_findOutcome_0 30 rfl
theorem dX4_findOutcome_61 : decode cX4_findOutcome 61 = .ok (.iconst 2, 1) := dq0 (p := fun a b => decode cX4_findOutcome a = .ok b) dm_cX4_findOutcome_0 31 rfl
theorem dX4_findOutcome_62 : decode cX4_findOutcome 62 = .ok (.putfield 135, 3) := dq0 (p := fun a b => decode cX4_findOutcome a = .ok b) dm_cX4_findOutcome_0 32 rfl
theorem dX4_findOutcome_65 : decode cX4_findOutcome 65 = .ok (.goto 60, 3) := dq0 (p := fun a b => decode cX4_findOutcome a = .ok b) dm_cX4_findOutcome_0 33 rfl
theorem dX4_findOutcome_68 : decode cX4_findOutcome 68 = .ok (.aload_n 0, 1) := dq0 (p := fun a b => decode cX4_findOutcome a = .ok b) dm_cX4_findOutcome_0 34 rfl
theorem dX4_findOutcome_69 : decode cX4_findOutcome 69 = .ok (.getfield 13, 3) := dq0 (p := fun a b => decode cX4_findOutcome a = .ok b) dm_cX4_findOutcome_0 35 rfl
theorem dX4_findOutcome_72 : decode cX4_findOutcome 72 = .ok (.invokestatic 142, 3) := dq0 (p := fun a b => decode cX4_findOutcome a = .ok b) dm_cX4_findOutcome_0 36 rfl
theorem dX4_findOutcome_75 : decode cX4_findOutcome 75 = .ok (.iconst 2, 1) := dq0 (p := fun a b => decode cX4_findOutcome a = .ok b) dm_cX4_findOutcome_0 37 rfl
theorem dX4_findOutcome_76 : decode cX4_findOutcome 76 = .ok (.if_icmp .ne 11, 3) := dq0 (p := fun a b => decode cX4_findOutcome a = .ok b) dm_cX4_findOutcome_0 38 rfl
theorem dX4_findOutcome_79 : decode cX4_findOutcome 79 = .ok (.aload_n 0, 1) := dq0 (p := fun a b => decode cX4_findOutcome a = .ok b) dm_cX4_findOutcome_0 39 rfl
theorem dX4_findOutcome_80 : decode cX4_findOutcome 80 = .ok (.iconst 3, 1) := dq0 (p := fun a b => decode cX4_findOutcome a = .ok b) dm_cX4_findOutcome_0 40 rfl
theorem dX4_findOutcome_81 : decode cX4_findOutcome 81 = .ok (.putfield 135, 3) := dq0 (p := fun a b => decode cX4_findOutcome a = .ok b) dm_cX4_findOutcome_0 41 rfl
theorem dX4_findOutcome_84 : decode cX4_findOutcome 84 = .ok (.goto 41, 3) := dq0 (p := fun a b => decode cX4_findOutcome a = .ok b) dm_cX4_findOutcome_0 42 rfl
theorem dX4_findOutcome_87 : decode cX4_findOutcome 87 = .ok (.aload_n 0, 1) := dq0 (p := fun a b => decode cX4_findOutcome a = .ok b) dm_cX4_findOutcome_0 43 rfl
theorem dX4_findOutcome_88 : decode cX4_findOutcome 88 = .ok (.invokevirtual 146, 3) := dq0 (p := fun a b => decode cX4_findOutcome a = .ok b) dm_cX4_findOutcome_0 44 rfl
theorem dX4_findOutcome_91 : decode cX4_findOutcome 91 = .ok (.iconst 3, 1) := dq0 (p := fun a b => decode cX4_findOutcome a = .ok b) dm_cX4_findOutcome_0 45 rfl
theorem dX4_findOutcome_92 : decode cX4_findOutcome 92 = .ok (.if_icmp .lt 11, 3) := dq0 (p := fun a b => decode cX4_findOutcome a = .ok b) dm_cX4_findOutcome_0 46 rfl
theorem dX4_findOutcome_95 : decode cX4_findOutcome 95 = .ok (.aload_n 0, 1) := dq0 (p := fun a b => decode cX4_findOutcome a = .ok b) dm_cX4_findOutcome_0 47 rfl
theorem dX4_findOutcome_96 : decode cX4_findOutcome 96 = .ok (.iconst 4, 1) := dq0 (p := fun a b => decode cX4_findOutcome a = .ok b) dm_cX4_findOutcome_0 48 rfl
theorem dX4_findOutcome_97 : decode cX4_findOutcome 97 = .ok (.putfield 135, 3) := dq0 (p := fun a b => decode cX4_findOutcome a = .ok b) dm_cX4_findOutcome_0 49 rfl
theorem dX4_findOutcome_100 : decode cX4_findOutcome 100 = .ok (.goto 25, 3) := dq0 (p := fun a b => decode cX4_findOutcome a = .ok b) dm_cX4_findOutcome_0 50 rfl
theorem dX4_findOutcome_103 : decode cX4_findOutcome 103 = .ok (.aload_n 0, 1) := dq0 (p := fun a b => decode cX4_findOutcome a = .ok b) dm_cX4_findOutcome_0 51 rfl
theorem dX4_findOutcome_104 : decode cX4_findOutcome 104 = .ok (.aload_n 0, 1) := dq0 (p := fun a b => decode cX4_findOutcome a = .ok b) dm_cX4_findOutcome_0 52 rfl
theorem dX4_findOutcome_105 : decode cX4_findOutcome 105 = .ok (.getfield 13, 3) := dq0 (p := fun a b => decode cX4_findOutcome a = .ok b) dm_cX4_findOutcome_0 53 rfl
theorem dX4_findOutcome_108 : decode cX4_findOutcome 108 = .ok (.sipush 129, 3) := dq0 (p := fun a b => decode cX4_findOutcome a = .ok b) dm_cX4_findOutcome_0 54 rfl
theorem dX4_findOutcome_111 : decode cX4_findOutcome 111 = .ok (.iaload, 1) := dq0 (p := fun a b => decode cX4_findOutcome a = .ok b) dm_cX4_findOutcome_0 55 rfl
theorem dX4_findOutcome_112 : decode cX4_findOutcome 112 = .ok (.bipush 40, 2) := dq0 (p := fun a b => decode cX4_findOutcome a = .ok b) dm_cX4_findOutcome_0 56 rfl
theorem dX4_findOutcome_114 : decode cX4_findOutcome 114 = .ok (.if_icmp .lt 7, 3) := dq0 (p := fun a b => decode cX4_findOutcome a = .ok b) dm_cX4_findOutcome_0 57 rfl
theorem dX4_findOutcome_117 : decode cX4_findOutcome 117 = .ok (.iconst 5, 1) := dq0 (p := fun a b => decode cX4_findOutcome a = .ok b) dm_cX4_findOutcome_0 58 rfl
theorem dX4_findOutcome_118 : decode cX4_findOutcome 118 = .ok (.goto 4, 3) := dq0 (p := fun a b => decode cX4_findOutcome a = .ok b) dm_cX4_findOutcome_0 59 rfl
theorem dm_cX4_findOutcome_1 : ([(121, .iconst 0, 1), (122, .putfield 135, 3), (125, .return_, 1)] : List (Nat × Instr × Nat)).all (fun t => decide (decode cX4_findOutcome t.1 = .ok t.2)) = true := by decide +kernel
theorem dX4_findOutcome_121 : decode cX4_findOutcome 121 = .ok (.iconst 0, 1) := dq0 (p := fun a b => decode cX4_findOutcome a = .ok b) dm_cX4_findOutcome_1 0 rfl
theorem dX4_findOutcome_122 : decode cX4_findOutcome 122 = .ok (.putfield 135, 3) := dq0 (p := fun a b => decode cX4_findOutcome a = .ok b) dm_cX4_findOutcome_1 1 rfl
theorem dX4_findOutcome_125 : decode cX4_findOutcome 125 = .ok (.return_, 1) := dq0 (p := fun a b => decode cX4_findOutcome a = .ok b) dm_cX4_findOutcome_1 2 rfl
theorem dm_cX4_keep_0 : ([(0, .sipush 146, 3), (3, .aload_n 0, 1), (4, .getfield 124, 3), (7, .iconst 1, 1), (8, .iadd, 1), (9, .imul, 1), (10, .aload_n 0, 1), (11, .getfield 7, 3), (14, .arraylength, 1), (15, .if_icmp .le 44, 3), (18, .iconst 2, 1), (19, .aload_n 0, 1), (20, .getfield 7, 3), (23, .arraylength, 1), (24, .imul, 1), (25, .newarray .int, 2), (27, .astore_n 1, 1), (28, .iconst 0, 1), (29, .istore_n 2, 1), (30, .iload_n 2, 1), (31, .aload_n 0, 1), (32, .getfield 7, 3), (35, .arraylength, 1), (36, .if_icmp .ge 18, 3), (39, .aload_n 1, 1), (40, .iload_n 2, 1), (41, .aload_n 0, 1), (42, .getfield 7, 3), (45, .iload_n 2, 1), (46, .iaload, 1), (47, .iastore, 1), (48, .iinc 2 1, 3), (51, .goto (-21), 3), (54, .aload_n 0, 1), (55, .aload_n 1, 1), (56, .putfield 7, 3), (59, .aload_n 0, 1), (60, .getfield 13, 3), (63, .iconst 0, 1), (64, .aload_n 0, 1), (65, .getfield 7, 3), (68, .sipush 146, 3), (71, .aload_n 0, 1), (72, .getfield 124, 3), (75, .imul, 1), (76, .invokestatic 98, 3), (79, .aload_n 0, 1), (80, .invokevirtual 150, 3), (83, .return_, 1)] : List (Nat × Instr × Nat)).all (fun t => decide (decode cX4_keep t.1 = .ok t.2)) = true := by decide +kernel
theorem dX4_keep_0 : decode cX4_keep 0 = .ok (.sipush 146, 3) := dq0 (p := fun a b => decode cX4_keep a = .ok b) dm_cX4_keep_0 0 rfl
theorem dX4_keep_3 : decode cX4_keep 3 = .ok (.aload_n 0, 1) := dq0 (p := fun a b => decode cX4_keep a = .ok b) dm_cX4_keep_0 1 rfl
theorem dX4_keep_4 : decode cX4_keep 4 = .ok (.getfield 124, 3) := dq0 (p := fun a b => decode cX4_keep a = .ok b) dm_cX4_keep_0 2 rfl
theorem dX4_keep_7 : decode cX4_keep 7 = .ok (.iconst 1, 1) := dq0 (p := fun a b => decode cX4_keep a = .ok b) dm_cX4_keep_0 3 rfl
theorem dX4_keep_8 : decode cX4_keep 8 = .ok (.iadd, 1) := dq0 (p := fun a b => decode cX4_keep a = .ok b) dm_cX4_keep_0 4 rfl
theorem dX4_keep_9 : decode cX4_keep 9 = .ok (.imul, 1) := dq0 (p := fun a b => decode cX4_keep a = .ok b) dm_cX4_keep_0 5 rfl
theorem dX4_keep_10 : decode cX4_keep 10 = .ok (.aload_n 0, 1) := dq0 (p := fun a b => decode cX4_keep a = .ok b) dm_cX4_keep_0 6 rfl
theorem dX4_keep_11 : decode cX4_keep 11 = .ok (.getfield 7, 3) := dq0 (p := fun a b => decode cX4_keep a = .ok b) dm_cX4_keep_0 7 rfl
theorem dX4_keep_14 : decode cX4_keep 14 = .ok (.arraylength, 1) := dq0 (p := fun a b => decode cX4_keep a = .ok b) dm_cX4_keep_0 8 rfl
theorem dX4_keep_15 : decode cX4_keep 15 = .ok (.if_icmp .le 44, 3) := dq0 (p := fun a b => decode cX4_keep a = .ok b) dm_cX4_keep_0 9 rfl
theorem dX4_keep_18 : decode cX4_keep 18 = .ok (.iconst 2, 1) := dq0 (p := fun a b => decode cX4_keep a = .ok b) dm_cX4_keep_0 10 rfl
theorem dX4_keep_19 : decode cX4_keep 19 = .ok (.aload_n 0, 1) := dq0 (p := fun a b => decode cX4_keep a = .ok b) dm_cX4_keep_0 11 rfl
theorem dX4_keep_20 : decode cX4_keep 20 = .ok (.getfield 7, 3) := dq0 (p := fun a b => decode cX4_keep a = .ok b) dm_cX4_keep_0 12 rfl
theorem dX4_keep_23 : decode cX4_keep 23 = .ok (.arraylength, 1) := dq0 (p := fun a b => decode cX4_keep a = .ok b) dm_cX4_keep_0 13 rfl
theorem dX4_keep_24 : decode cX4_keep 24 = .ok (.imul, 1) := dq0 (p := fun a b => decode cX4_keep a = .ok b) dm_cX4_keep_0 14 rfl
theorem dX4_keep_25 : decode cX4_keep 25 = .ok (.newarray .int, 2) := dq0 (p := fun a b => decode cX4_keep a = .ok b) dm_cX4_keep_0 15 rfl
theorem dX4_keep_27 : decode cX4_keep 27 = .ok (.astore_n 1, 1) := dq0 (p := fun a b => decode cX4_keep a = .ok b) dm_cX4_keep_0 16 rfl
theorem dX4_keep_28 : decode cX4_keep 28 = .ok (.iconst 0, 1) := dq0 (p := fun a b => decode cX4_keep a = .ok b) dm_cX4_keep_0 17 rfl
theorem dX4_keep_29 : decode cX4_keep 29 = .ok (.istore_n 2, 1) := dq0 (p := fun a b => decode cX4_keep a = .ok b) dm_cX4_keep_0 18 rfl
theorem dX4_keep_30 : decode cX4_keep 30 = .ok (.iload_n 2, 1) := dq0 (p := fun a b => decode cX4_keep a = .ok b) dm_cX4_keep_0 19 rfl
theorem dX4_keep_31 : decode cX4_keep 31 = .ok (.aload_n 0, 1) := dq0 (p := fun a b => decode cX4_keep a = .ok b) dm_cX4_keep_0 20 rfl
theorem dX4_keep_32 : decode cX4_keep 32 = .ok (.getfield 7, 3) := dq0 (p := fun a b => decode cX4_keep a = .ok b) dm_cX4_keep_0 21 rfl
theorem dX4_keep_35 : decode cX4_keep 35 = .ok (.arraylength, 1) := dq0 (p := fun a b => decode cX4_keep a = .ok b) dm_cX4_keep_0 22 rfl
theorem dX4_keep_36 : decode cX4_keep 36 = .ok (.if_icmp .ge 18, 3) := dq0 (p := fun a b => decode cX4_keep a = .ok b) dm_cX4_keep_0 23 rfl
theorem dX4_keep_39 : decode cX4_keep 39 = .ok (.aload_n 1, 1) := dq0 (p := fun a b => decode cX4_keep a = .ok b) dm_cX4_keep_0 24 rfl
theorem dX4_keep_40 : decode cX4_keep 40 = .ok (.iload_n 2, 1) := dq0 (p := fun a b => decode cX4_keep a = .ok b) dm_cX4_keep_0 25 rfl
theorem dX4_keep_41 : decode cX4_keep 41 = .ok (.aload_n 0, 1) := dq0 (p := fun a b => decode cX4_keep a = .ok b) dm_cX4_keep_0 26 rfl
theorem dX4_keep_42 : decode cX4_keep 42 = .ok (.getfield 7, 3) := dq0 (p := fun a b => decode cX4_keep a = .ok b) dm_cX4_keep_0 27 rfl
theorem dX4_keep_45 : decode cX4_keep 45 = .ok (.iload_n 2, 1) := dq0 (p := fun a b => decode cX4_keep a = .ok b) dm_cX4_keep_0 28 rfl
theorem dX4_keep_46 : decode cX4_keep 46 = .ok (.iaload, 1) := dq0 (p := fun a b => decode cX4_keep a = .ok b) dm_cX4_keep_0 29 rfl
theorem dX4_keep_47 : decode cX4_keep 47 = .ok (.iastore, 1) := dq0 (p := fun a b => decode cX4_keep a = .ok b) dm_cX4_keep_0 30 rfl
theorem dX4_keep_48 : decode cX4_keep 48 = .ok (.iinc 2 1, 3) := dq0 (p := fun a b => decode cX4_keep a = .ok b) dm_cX4_keep_0 31 rfl
theorem dX4_keep_51 : decode cX4_keep 51 = .ok (.goto (-21), 3) := dq0 (p := fun a b => decode cX4_keep a = .ok b) dm_cX4_keep_0 32 rfl
theorem dX4_keep_54 : decode cX4_keep 54 = .ok (.aload_n 0, 1) := dq0 (p := fun a b => decode cX4_keep a = .ok b) dm_cX4_keep_0 33 rfl
theorem dX4_keep_55 : decode cX4_keep 55 = .ok (.aload_n 1, 1) := dq0 (p := fun a b => decode cX4_keep a = .ok b) dm_cX4_keep_0 34 rfl
theorem dX4_keep_56 : decode cX4_keep 56 = .ok (.putfield 7, 3) := dq0 (p := fun a b => decode cX4_keep a = .ok b) dm_cX4_keep_0 35 rfl
theorem dX4_keep_59 : decode cX4_keep 59 = .ok (.aload_n 0, 1) := dq0 (p := fun a b => decode cX4_keep a = .ok b) dm_cX4_keep_0 36 rfl
theorem dX4_keep_60 : decode cX4_keep 60 = .ok (.getfield 13, 3) := dq0 (p := fun a b => decode cX4_keep a = .ok b) dm_cX4_keep_0 37 rfl
theorem dX4_keep_63 : decode cX4_keep 63 = .ok (.iconst 0, 1) := dq0 (p := fun a b => decode cX4_keep a = .ok b) dm_cX4_keep_0 38 rfl
theorem dX4_keep_64 : decode cX4_keep 64 = .ok (.aload_n 0, 1) := dq0 (p := fun a b => decode cX4_keep a = .ok b) dm_cX4_keep_0 39 rfl
theorem dX4_keep_65 : decode cX4_keep 65 = .ok (.getfield 7, 3) := dq0 (p := fun a b => decode cX4_keep a = .ok b) dm_cX4_keep_0 40 rfl
theorem dX4_keep_68 : decode cX4_keep 68 = .ok (.sipush 146, 3) := dq0 (p := fun a b => decode cX4_keep a = .ok b) dm_cX4_keep_0 41 rfl
theorem dX4_keep_71 : decode cX4_keep 71 = .ok (.aload_n 0, 1) := dq0 (p := fun a b => decode cX4_keep a = .ok b) dm_cX4_keep_0 42 rfl
theorem dX4_keep_72 : decode cX4_keep 72 = .ok (.getfield 124, 3) := dq0 (p := fun a b => decode cX4_keep a = .ok b) dm_cX4_keep_0 43 rfl
theorem dX4_keep_75 : decode cX4_keep 75 = .ok (.imul, 1) := dq0 (p := fun a b => decode cX4_keep a = .ok b) dm_cX4_keep_0 44 rfl
theorem dX4_keep_76 : decode cX4_keep 76 = .ok (.invokestatic 98, 3) := dq0 (p := fun a b => decode cX4_keep a = .ok b) dm_cX4_keep_0 45 rfl
theorem dX4_keep_79 : decode cX4_keep 79 = .ok (.aload_n 0, 1) := dq0 (p := fun a b => decode cX4_keep a = .ok b) dm_cX4_keep_0 46 rfl
theorem dX4_keep_80 : decode cX4_keep 80 = .ok (.invokevirtual 150, 3) := dq0 (p := fun a b => decode cX4_keep a = .ok b) dm_cX4_keep_0 47 rfl
theorem dX4_keep_83 : decode cX4_keep 83 = .ok (.return_, 1) := dq0 (p := fun a b => decode cX4_keep a = .ok b) dm_cX4_keep_0 48 rfl
theorem dm_cX4_begin_0 : ([(0, .aload_n 0, 1), (1, .iconst 0, 1), (2, .putfield 153, 3), (5, .aload_n 0, 1), (6, .iconst 0, 1), (7, .putfield 124, 3), (10, .aload_n 0, 1), (11, .invokevirtual 157, 3), (14, .return_, 1)] : List (Nat × Instr × Nat)).all (fun t => decide (decode cX4_begin t.1 = .ok t.2)) = true := by decide +kernel
theorem dX4_begin_0 : decode cX4_begin 0 = .ok (.aload_n 0, 1) := dq0 (p := fun a b => decode cX4_begin a = .ok b) dm_cX4_begin_0 0 rfl
theorem dX4_begin_1 : decode cX4_begin 1 = .ok (.iconst 0, 1) := dq0 (p := fun a b => decode cX4_begin a = .ok b) dm_cX4_begin_0 1 rfl
theorem dX4_begin_2 : decode cX4_begin 2 = .ok (.putfield 153, 3) := dq0 (p := fun a b => decode cX4_begin a = .ok b) dm_cX4_begin_0 2 rfl
theorem dX4_begin_5 : decode cX4_begin 5 = .ok (.aload_n 0, 1) := dq0 (p := fun a b => decode cX4_begin a = .ok b) dm_cX4_begin_0 3 rfl
theorem dX4_begin_6 : decode cX4_begin 6 = .ok (.iconst 0, 1) := dq0 (p := fun a b => decode cX4_begin a = .ok b) dm_cX4_begin_0 4 rfl
theorem dX4_begin_7 : decode cX4_begin 7 = .ok (.putfield 124, 3) := dq0 (p := fun a b => decode cX4_begin a = .ok b) dm_cX4_begin_0 5 rfl
theorem dX4_begin_10 : decode cX4_begin 10 = .ok (.aload_n 0, 1) := dq0 (p := fun a b => decode cX4_begin a = .ok b) dm_cX4_begin_0 6 rfl
theorem dX4_begin_11 : decode cX4_begin 11 = .ok (.invokevirtual 157, 3) := dq0 (p := fun a b => decode cX4_begin a = .ok b) dm_cX4_begin_0 7 rfl
theorem dX4_begin_14 : decode cX4_begin 14 = .ok (.return_, 1) := dq0 (p := fun a b => decode cX4_begin a = .ok b) dm_cX4_begin_0 8 rfl
theorem dm_cX4_isPlayed_0 : ([(0, .aload_n 0, 1), (1, .getfield 153, 3), (4, .ifCond .ne 14, 3), (7, .aload_n 0, 1), (8, .getfield 135, 3), (11, .ifCond .ne 7, 3), (14, .iconst 1, 1), (15, .goto 4, 3), (18, .iconst 0, 1), (19, .ireturn, 1)] : List (Nat × Instr × Nat)).all (fun t => decide (decode cX4_isPlayed t.1 = .ok t.2)) = true := by decide +kernel
theorem dX4_isPlayed_0 : decode cX4_isPlayed 0 = .ok (.aload_n 0, 1) := dq0 (p := fun a b => decode cX4_isPlayed a = .ok b) dm_cX4_isPlayed_0 0 rfl
theorem dX4_isPlayed_1 : decode cX4_isPlayed 1 = .ok (.getfield 153, 3) := dq0 (p := fun a b => decode cX4_isPlayed a = .ok b) dm_cX4_isPlayed_0 1 rfl
theorem dX4_isPlayed_4 : decode cX4_isPlayed 4 = .ok (.ifCond .ne 14, 3) := dq0 (p := fun a b => decode cX4_isPlayed a = .ok b) dm_cX4_isPlayed_0 2 rfl
theorem dX4_isPlayed_7 : decode cX4_isPlayed 7 = .ok (.aload_n 0, 1) := dq0 (p := fun a b => decode cX4_isPlayed a = .ok b) dm_cX4_isPlayed_0 3 rfl
theorem dX4_isPlayed_8 : decode cX4_isPlayed 8 = .ok (.getfield 135, 3) := dq0 (p := fun a b => decode cX4_isPlayed a = .ok b) dm_cX4_isPlayed_0 4 rfl
theorem dX4_isPlayed_11 : decode cX4_isPlayed 11 = .ok (.ifCond .ne 7, 3) := dq0 (p := fun a b => decode cX4_isPlayed a = .ok b) dm_cX4_isPlayed_0 5 rfl
theorem dX4_isPlayed_14 : decode cX4_isPlayed 14 = .ok (.iconst 1, 1) := dq0 (p := fun a b => decode cX4_isPlayed a = .ok b) dm_cX4_isPlayed_0 6 rfl
theorem dX4_isPlayed_15 : decode cX4_isPlayed 15 = .ok (.goto 4, 3) := dq0 (p := fun a b => decode cX4_isPlayed a = .ok b) dm_cX4_isPlayed_0 7 rfl
theorem dX4_isPlayed_18 : decode cX4_isPlayed 18 = .ok (.iconst 0, 1) := dq0 (p := fun a b => decode cX4_isPlayed a = .ok b) dm_cX4_isPlayed_0 8 rfl
theorem dX4_isPlayed_19 : decode cX4_isPlayed 19 = .ok (.ireturn, 1) := dq0 (p := fun a b => decode cX4_isPlayed a = .ok b) dm_cX4_isPlayed_0 9 rfl
theorem dm_cX4_beginSetup_0 : ([(0, .aload_n 0, 1), (1, .iconst 0, 1), (2, .putfield 44, 3), (5, .aload_n 0, 1), (6, .iconst 1, 1), (7, .putfield 153, 3), (10, .aload_n 0, 1), (11, .invokevirtual 34, 3), (14, .aload_n 0, 1), (15, .getfield 13, 3), (18, .sipush 128, 3), (21, .bipush 8, 2), (23, .iastore, 1), (24, .aload_n 0, 1), (25, .iconst 0, 1), (26, .putfield 124, 3), (29, .aload_n 0, 1), (30, .iconst 0, 1), (31, .putfield 135, 3), (34, .return_, 1)] : List (Nat × Instr × Nat)).all (fun t => decide (decode cX4_beginSetup t.1 = .ok t.2)) = true := by decide +kernel
theorem dX4_beginSetup_0 : decode cX4_beginSetup 0 = .ok (.aload_n 0, 1) := dq0 (p := fun a b => decode cX4_beginSetup a = .ok b) dm_cX4_beginSetup_0 0 rfl
theorem dX4_beginSetup_1 : decode cX4_beginSetup 1 = .ok (.iconst 0, 1) := dq0 (p := fun a b => decode cX4_beginSetup a = .ok b) dm_cX4_beginSetup_0 1 rfl
theorem dX4_beginSetup_2 : decode cX4_beginSetup 2 = .ok (.putfield 44, 3) := dq0 (p := fun a b => decode cX4_beginSetup a = .ok b) dm_cX4_beginSetup_0 2 rfl
theorem dX4_beginSetup_5 : decode cX4_beginSetup 5 = .ok (.aload_n 0, 1) := dq0 (p := fun a b => decode cX4_beginSetup a = .ok b) dm_cX4_beginSetup_0 3 rfl
theorem dX4_beginSetup_6 : decode cX4_beginSetup 6 = .ok (.iconst 1, 1) := dq0 (p := fun a b => decode cX4_beginSetup a = .ok b) dm_cX4_beginSetup_0 4 rfl
theorem dX4_beginSetup_7 : decode cX4_beginSetup 7 = .ok (.putfield 153, 3) := dq0 (p := fun a b => decode cX4_beginSetup a = .ok b) dm_cX4_beginSetup_0 5 rfl
theorem dX4_beginSetup_10 : decode cX4_beginSetup 10 = .ok (.aload_n 0, 1) := dq0 (p := fun a b => decode cX4_beginSetup a = .ok b) dm_cX4_beginSetup_0 6 rfl
theorem dX4_beginSetup_11 : decode cX4_beginSetup 11 = .ok (.invokevirtual 34, 3) := dq0 (p := fun a b => decode cX4_beginSetup a = .ok b) dm_cX4_beginSetup_0 7 rfl
theorem dX4_beginSetup_14 : decode cX4_beginSetup 14 = .ok (.aload_n 0, 1) := dq0 (p := fun a b => decode cX4_beginSetup a = .ok b) dm_cX4_beginSetup_0 8 rfl
theorem dX4_beginSetup_15 : decode cX4_beginSetup 15 = .ok (.getfield 13, 3) := dq0 (p := fun a b => decode cX4_beginSetup a = .ok b) dm_cX4_beginSetup_0 9 rfl
theorem dX4_beginSetup_18 : decode cX4_beginSetup 18 = .ok (.sipush 128, 3) := dq0 (p := fun a b => decode cX4_beginSetup a = .ok b) dm_cX4_beginSetup_0 10 rfl
theorem dX4_beginSetup_21 : decode cX4_beginSetup 21 = .ok (.bipush 8, 2) := dq0 (p := fun a b => decode cX4_beginSetup a = .ok b) dm_cX4_beginSetup_0 11 rfl
theorem dX4_beginSetup_23 : decode cX4_beginSetup 23 = .ok (.iastore, 1) := dq0 (p := fun a b => decode cX4_beginSetup a = .ok b) dm_cX4_beginSetup_0 12 rfl
theorem dX4_beginSetup_24 : decode cX4_beginSetup 24 = .ok (.aload_n 0, 1) := dq0 (p := fun a b => decode cX4_beginSetup a = .ok b) dm_cX4_beginSetup_0 13 rfl
theorem dX4_beginSetup_25 : decode cX4_beginSetup 25 = .ok (.iconst 0, 1) := dq0 (p := fun a b => decode cX4_beginSetup a = .ok b) dm_cX4_beginSetup_0 14 rfl
theorem dX4_beginSetup_26 : decode cX4_beginSetup 26 = .ok (.putfield 124, 3) := dq0 (p := fun a b => decode cX4_beginSetup a = .ok b) dm_cX4_beginSetup_0 15 rfl
theorem dX4_beginSetup_29 : decode cX4_beginSetup 29 = .ok (.aload_n 0, 1) := dq0 (p := fun a b => decode cX4_beginSetup a = .ok b) dm_cX4_beginSetup_0 16 rfl
theorem dX4_beginSetup_30 : decode cX4_beginSetup 30 = .ok (.iconst 0, 1) := dq0 (p := fun a b => decode cX4_beginSetup a = .ok b) dm_cX4_beginSetup_0 17 rfl
theorem dX4_beginSetup_31 : decode cX4_beginSetup 31 = .ok (.putfield 135, 3) := dq0 (p := fun a b => decode cX4_beginSetup a = .ok b) dm_cX4_beginSetup_0 18 rfl
theorem dX4_beginSetup_34 : decode cX4_beginSetup 34 = .ok (.return_, 1) := dq0 (p := fun a b => decode cX4_beginSetup a = .ok b) dm_cX4_beginSetup_0 19 rfl
theorem dm_cX4_place_0 : ([(0, .aload_n 0, 1), (1, .iload_n 1, 1), (2, .invokestatic 160, 3), (5, .invokevirtual 163, 3), (8, .ifCond .ne 5, 3), (11, .iconst 0, 1), (12, .ireturn, 1), (13, .iload_n 2, 1), (14, .iconst 1, 1), (15, .if_icmp .lt 9, 3), (18, .iload_n 2, 1), (19, .bipush 6, 2), (21, .if_icmp .le 9, 3), (24, .aload_n 0, 1), (25, .iconst 2, 1), (26, .invokevirtual 167, 3), (29, .ireturn, 1), (30, .iload_n 2, 1), (31, .iconst 1, 1), (32, .if_icmp .ne 22, 3), (35, .aload_n 0, 1), (36, .getfield 13, 3), (39, .iload_n 3, 1), (40, .invokestatic 170, 3), (43, .invokestatic 82, 3), (46, .iconst (-1), 1), (47, .if_icmp .eq 7, 3), (50, .iconst 1, 1), (51, .goto 4, 3), (54, .iconst 0, 1), (55, .istore 4, 2), (57, .iload_n 2, 1), (58, .bipush 6, 2), (60, .if_icmp .ne 19, 3), (63, .iload_n 1, 1), (64, .bipush 8, 2), (66, .if_icmp .lt 9, 3), (69, .iload_n 1, 1), (70, .bipush 55, 2), (72, .if_icmp .le 7, 3), (75, .iconst 1, 1), (76, .goto 4, 3), (79, .iconst 0, 1), (80, .istore 5, 2), (82, .aload_n 0, 1), (83, .getfield 153, 3), (86, .ifCond .eq 22, 3), (89, .aload_n 0, 1), (90, .getfield 13, 3), (93, .iload_n 1, 1), (94, .iaload, 1), (95, .ifCond .ne 13, 3), (98, .iload 4, 2), (100, .ifCond .ne 8, 3), (103, .iload 5, 2), (105, .ifCond .eq 9, 3), (108, .aload_n 0, 1), (109, .iconst 3, 1), (110, .invokevirtual 167, 3), (113, .ireturn, 1)] : List (Nat × Instr × Nat)).all (fun t => decide (decode cX4_place t.1 = .ok t.2)) = true := by decide +kernel
theorem dX4_place_0 : decode cX4_place 0 = .ok (.aload_n 0, 1) := dq0 (p := fun a b => decode cX4_place a = .ok b) dm_cX4_place_0 0 rfl
theorem dX4_place_1 : decode cX4_place 1 = .ok (.iload_n 1, 1) := dq0 (p := fun a b => decode cX4_place a = .ok b) dm_cX4_place_0 1 rfl
theorem dX4_place_2 : decode cX4_place 2 = .ok (.invokestatic 160, 3) := dq0 (p := fun a b => decode cX4_place a = .ok b) dm_cX4_place_0 2 rfl
theorem dX4_place_5 : decode cX4_place 5 = .ok (.invokevirtual 163, 3) := dq0 (p := fun a b => decode cX4_place a = .ok b) dm_cX4_place_0 3 rfl
theorem dX4_place_8 : decode cX4_place 8 = .ok (.ifCond .ne 5, 3) := dq0 (p := fun a b => decode cX4_place a = .ok b) dm_cX4_place_0 4 rfl
theorem dX4_place_11 : decode cX4_place 11 = .ok (.iconst 0, 1) := dq0 (p := fun a b => decode cX4_place a = .ok b) dm_cX4_place_0 5 rfl
theorem dX4_place_12 : decode cX4_place 12 = .ok (.ireturn, 1) := dq0 (p := fun a b => decode cX4_place a = .ok b) dm_cX4_place_0 6 rfl
theorem dX4_place_13 : decode cX4_place 13 = .ok (.iload_n 2, 1) := dq0 (p := fun a b => decode cX4_place a = .ok b) dm_cX4_place_0 7 rfl
theorem dX4_place_14 : decode cX4_place 14 = .ok (.iconst 1, 1) := dq0 (p := fun a b => decode cX4_place a = .ok b) dm_cX4_place_0 8 rfl
theorem dX4_place_15 : decode cX4_place 15 = .ok (.if_icmp .lt 9, 3) := dq0 (p := fun a b => decode cX4_place a = .ok b) dm_cX4_place_0 9 rfl
theorem dX4_place_18 : decode cX4_place 18 = .ok (.iload_n 2, 1) := dq0 (p := fun a b => decode cX4_place a = .ok b) dm_cX4_place_0 10 rfl
theorem dX4_place_19 : decode cX4_place 19 = .ok (.bipush 6, 2) := dq0 (p := fun a b => decode cX4_place a = .ok b) dm_cX4_place_0 11 rfl
theorem dX4_place_21 : decode cX4_place 21 = .ok (.if_icmp .le 9, 3) := dq0 (p := fun a b => decode cX4_place a = .ok b) dm_cX4_place_0 12 rfl
theorem dX4_place_24 : decode cX4_place 24 = .ok (.aload_n 0, 1) := dq0 (p := fun a b => decode cX4_place a = .ok b) dm_cX4_place_0 13 rfl
theorem dX4_place_25 : decode cX4_place 25 = .ok (.iconst 2, 1) := dq0 (p := fun a b => decode cX4_place a = .ok b) dm_cX4_place_0 14 rfl
theorem dX4_place_26 : decode cX4_place 26 = .ok (.invokevirtual 167, 3) := dq0 (p := fun a b => decode cX4_place a = .ok b) dm_cX4_place_0 15 rfl
theorem dX4_place_29 : decode cX4_place 29 = .ok (.ireturn, 1) := dq0 (p := fun a b => decode cX4_place a = .ok b) dm_cX4_place_0 16 rfl
theorem dX4_place_30 : decode cX4_place 30 = .ok (.iload_n 2, 1) := dq0 (p := fun a b => decode cX4_place a = .ok b) dm_cX4_place_0 17 rfl
theorem dX4_place_31 : decode cX4_place 31 = .ok (.iconst 1, 1) := dq0 (p := fun a b => decode cX4_place a = .ok b) dm_cX4_place_0 18 rfl
theorem dX4_place_32 : decode cX4_place 32 = .ok (.if_icmp .ne 22, 3) := dq0 (p := fun a b => decode cX4_place a = .ok b) dm_cX4_place_0 19 rfl
theorem dX4_place_35 : decode cX4_place 35 = .ok (.aload_n 0, 1) := dq0 (p := fun a b => decode cX4_place a = .ok b) dm_cX4_place_0 20 rfl
theorem dX4_place_36 : decode cX4_place 36 = .ok (.getfield 13, 3) := dq0 (p := fun a b => decode cX4_place a = .ok b) dm_cX4_place_0 21 rfl
theorem dX4_place_39 : decode cX4_place 39 = .ok (.iload_n 3, 1) := dq0 (p := fun a b => decode cX4_place a = .ok b) dm_cX4_place_0 22 rfl
theorem dX4_place_40 : decode cX4_place 40 = .ok (.invokestatic 170, 3) := dq0 (p := fun a b => decode cX4_place a = .ok b) dm_cX4_place_0 23 rfl
theorem dX4_place_43 : decode cX4_place 43 = .ok (.invokestatic 82, 3) := dq0 (p := fun a b => decode cX4_place a = .ok b) dm_cX4_place_0 24 rfl
theorem dX4_place_46 : decode cX4_place 46 = .ok (.iconst (-1), 1) := dq0 (p := fun a b => decode cX4_place a = .ok b) dm_cX4_place_0 25 rfl
theorem dX4_place_47 : decode cX4_place 47 = .ok (.if_icmp .eq 7, 3) := dq0 (p := fun a b => decode cX4_place a = .ok b) dm_cX4_place_0 26 rfl
theorem dX4_place_50 : decode cX4_place 50 = .ok (.iconst 1, 1) := dq0 (p := fun a b => decode cX4_place a = .ok b) dm_cX4_place_0 27 rfl
theorem dX4_place_51 : decode cX4_place 51 = .ok (.goto 4, 3) := dq0 (p := fun a b => decode cX4_place a = .ok b) dm_cX4_place_0 28 rfl
theorem dX4_place_54 : decode cX4_place 54 = .ok (.iconst 0, 1) := dq0 (p := fun a b => decode cX4_place a = .ok b) dm_cX4_place_0 29 rfl
theorem dX4_place_55 : decode cX4_place 55 = .ok (.istore 4, 2) := dq0 (p := fun a b => decode cX4_place a = .ok b) dm_cX4_place_0 30 rfl
theorem dX4_place_57 : decode cX4_place 57 = .ok (.iload_n 2, 1) := dq0 (p := fun a b => decode cX4_place a = .ok b) dm_cX4_place_0 31 rfl
theorem dX4_place_58 : decode cX4_place 58 = .ok (.bipush 6, 2) := dq0 (p := fun a b => decode cX4_place a = .ok b) dm_cX4_place_0 32 rfl
theorem dX4_place_60 : decode cX4_place 60 = .ok (.if_icmp .ne 19, 3) := dq0 (p := fun a b => decode cX4_place a = .ok b) dm_cX4_place_0 33 rfl
theorem dX4_place_63 : decode cX4_place 63 = .ok (.iload_n 1, 1) := dq0 (p := fun a b => decode cX4_place a = .ok b) dm_cX4_place_0 34 rfl
theorem dX4_place_64 : decode cX4_place 64 = .ok (.bipush 8, 2) := dq0 (p := fun a b => decode cX4_place a = .ok b) dm_cX4_place_0 35 rfl
theorem dX4_place_66 : decode cX4_place 66 = .ok (.if_icmp .lt 9, 3) := dq0 (p := fun a b => decode cX4_place a = .ok b) dm_cX4_place_0 36 rfl
theorem dX4_place_69 : decode cX4_place 69 = .ok (.iload_n 1, 1) := dq0 (p := fun a b => decode cX4_place a = .ok b) dm_cX4_place_0 37 rfl
theorem dX4_place_70 : decode cX4_place 70 = .ok (.bipush 55, 2) := dq0 (p := fun a b => decode cX4_place a = .ok b) dm_cX4_place_0 38 rfl
theorem dX4_place_72 : decode cX4_place 72 = .ok (.if_icmp .le 7, 3) := dq0 (p := fun a b => decode cX4_place a = .ok b) dm_cX4_place_0 39 rfl
theorem dX4_place_75 : decode cX4_place 75 = .ok (.iconst 1, 1) := dq0 (p := fun a b => decode cX4_place a = .ok b) dm_cX4_place_0 40 rfl
theorem dX4_place_76 : decode cX4_place 76 = .ok (.goto 4, 3) := dq0 (p := fun a b => decode cX4_place a = .ok b) dm_cX4_place_0 41 rfl
theorem dX4_place_79 : decode cX4_place 79 = .ok (.iconst 0, 1) := dq0 (p := fun a b => decode cX4_place a = .ok b) dm_cX4_place_0 42 rfl
theorem dX4_place_80 : decode cX4_place 80 = .ok (.istore 5, 2) := dq0 (p := fun a b => decode cX4_place a = .ok b) dm_cX4_place_0 43 rfl
theorem dX4_place_82 : decode cX4_place 82 = .ok (.aload_n 0, 1) := dq0 (p := fun a b => decode cX4_place a = .ok b) dm_cX4_place_0 44 rfl
theorem dX4_place_83 : decode cX4_place 83 = .ok (.getfield 153, 3) := dq0 (p := fun a b => decode cX4_place a = .ok b) dm_cX4_place_0 45 rfl
theorem dX4_place_86 : decode cX4_place 86 = .ok (.ifCond .eq 22, 3) := dq0 (p := fun a b => decode cX4_place a = .ok b) dm_cX4_place_0 46 rfl
theorem dX4_place_89 : decode cX4_place 89 = .ok (.aload_n 0, 1) := dq0 (p := fun a b => decode cX4_place a = .ok b) dm_cX4_place_0 47 rfl
theorem dX4_place_90 : decode cX4_place 90 = .ok (.getfield 13, 3) := dq0 (p := fun a b => decode cX4_place a = .ok b) dm_cX4_place_0 48 rfl
theorem dX4_place_93 : decode cX4_place 93 = .ok (.iload_n 1, 1) := dq0 (p := fun a b => decode cX4_place a = .ok b) dm_cX4_place_0 49 rfl
theorem dX4_place_94 : decode cX4_place 94 = .ok (.iaload, 1) := dq0 (p := fun a b => decode cX4_place a = .ok b) dm_cX4_place_0 50 rfl
theorem dX4_place_95 : decode cX4_place 95 = .ok (.ifCond .ne 13, 3) := dq0 (p := fun a b => decode cX4_place a = .ok b) dm_cX4_place_0 51 rfl
theorem dX4_place_98 : decode cX4_place 98 = .ok (.iload 4, 2) := dq0 (p := fun a b => decode cX4_place a = .ok b) dm_cX4_place_0 52 rfl
theorem dX4_place_100 : decode cX4_place 100 = .ok (.ifCond .ne 8, 3) := dq0 (p := fun a b => decode cX4_place a = .ok b) dm_cX4_place_0 53 rfl
theorem dX4_place_103 : decode cX4_place 103 = .ok (.iload 5, 2) := dq0 (p := fun a b => decode cX4_place a = .ok b) dm_cX4_place_0 54 rfl
theorem dX4_place_105 : decode cX4_place 105 = .ok (.ifCond .eq 9, 3) := dq0 (p := fun a b => decode cX4_place a = .ok b) dm_cX4_place_0 55 rfl
theorem dX4_place_108 : decode cX4_place 108 = .ok (.aload_n 0, 1) := dq0 (p := fun a b => decode cX4_place a = .ok b) dm_cX4_place_0 56 rfl
theorem dX4_place_109 : decode cX4_place 109 = .ok (.iconst 3, 1) := dq0 (p := fun a b => decode cX4_place a = .ok b) dm_cX4_place_0 57 rfl
theorem dX4_place_110 : decode cX4_place 110 = .ok (.invokevirtual 167, 3) := dq0 (p := fun a b => decode cX4_place a = .ok b) dm_cX4_place_0 58 rfl
theorem dX4_place_113 : decode cX4_place 113 = .ok (.ireturn, 1) := dq0 (p := fun a b => decode cX4_place a = .ok b) dm_cX4_place_0 59 rfl
theorem dm_cX4_place_1 : ([(114, .aload_n 0, 1), (115, .getfield 13, 3), (118, .iload_n 1, 1), (119, .iload_n 3, 1), (120, .invokestatic 170, 3), (123, .iload_n 2, 1), (124, .iadd, 1), (125, .iastore, 1), (126, .aload_n 0, 1), (127, .getfield 13, 3), (130, .invokestatic 142, 3), (133, .ireturn, 1)] : List (Nat × Instr × Nat)).all (fun t => decide (decode cX4_place t.1 = .ok t.2)) = true := by decide +kernel
theorem dX4_place_114 : decode cX4_place 114 = .ok (.aload_n 0, 1) := dq0 (p := fun a b => decode cX4_place a = .ok b) dm_cX4_place_1 0 rfl
theorem dX4_place_115 : decode cX4_place 115 = .ok (.getfield 13, 3) := dq0 (p := fun a b => decode cX4_place a = .ok b) dm_cX4_place_1 1 rfl
theorem dX4_place_118 : decode cX4_place 118 = .ok (.iload_n 1, 1) := dq0 (p := fun a b => decode cX4_place a = .ok b) dm_cX4_place_1 2 rfl
theorem dX4_place_119 : decode cX4_place 119 = .ok (.iload_n 3, 1) := dq0 (p := fun a b => decode cX4_place a = .ok b) dm_cX4_place_1 3 rfl
theorem dX4_place_120 : decode cX4_place 120 = .ok (.invokestatic 170, 3) := dq0 (p := fun a b => decode cX4_place a = .ok b) dm_cX4_place_1 4 rfl
theorem dX4_place_123 : decode cX4_place 123 = .ok (.iload_n 2, 1) := dq0 (p := fun a b => decode cX4_place a = .ok b) dm_cX4_place_1 5 rfl
theorem dX4_place_124 : decode cX4_place 124 = .ok (.iadd, 1) := dq0 (p := fun a b => decode cX4_place a = .ok b) dm_cX4_place_1 6 rfl
theorem dX4_place_125 : decode cX4_place 125 = .ok (.iastore, 1) := dq0 (p := fun a b => decode cX4_place a = .ok b) dm_cX4_place_1 7 rfl
theorem dX4_place_126 : decode cX4_place 126 = .ok (.aload_n 0, 1) := dq0 (p := fun a b => decode cX4_place a = .ok b) dm_cX4_place_1 8 rfl
theorem dX4_place_127 : decode cX4_place 127 = .ok (.getfield 13, 3) := dq0 (p := fun a b => decode cX4_place a = .ok b) dm_cX4_place_1 9 rfl
theorem dX4_place_130 : decode cX4_place 130 = .ok (.invokestatic 142, 3) := dq0 (p := fun a b => decode cX4_place a = .ok b) dm_cX4_place_1 10 rfl
theorem dX4_place_133 : decode cX4_place 133 = .ok (.ireturn, 1) := dq0 (p := fun a b => decode cX4_place a = .ok b) dm_cX4_place_1 11 rfl
theorem dm_cX4_remove_0 : ([(0, .aload_n 0, 1), (1, .iload_n 1, 1), (2, .invokestatic 160, 3), (5, .invokevirtual 163, 3), (8, .ifCond .ne 5, 3), (11, .iconst 0, 1), (12, .ireturn, 1), (13, .aload_n 0, 1), (14, .getfield 153, 3), (17, .ifCond .eq 12, 3), (20, .aload_n 0, 1), (21, .getfield 13, 3), (24, .iload_n 1, 1), (25, .iaload, 1), (26, .ifCond .ne 9, 3), (29, .aload_n 0, 1), (30, .iconst 2, 1), (31, .invokevirtual 167, 3), (34, .ireturn, 1), (35, .aload_n 0, 1), (36, .getfield 13, 3), (39, .iload_n 1, 1), (40, .invokestatic 65, 3), (43, .istore_n 2, 1), (44, .aload_n 0, 1), (45, .getfield 13, 3), (48, .iload_n 1, 1), (49, .iconst 0, 1), (50, .iastore, 1), (51, .iload_n 2, 1), (52, .ireturn, 1)] : List (Nat × Instr × Nat)).all (fun t => decide (decode cX4_remove t.1 = .ok t.2)) = true := by decide +kernel
theorem dX4_remove_0 : decode cX4_remove 0 = .ok (.aload_n 0, 1) := dq0 (p := fun a b => decode cX4_remove a = .ok b) dm_cX4_remove_0 0 rfl
theorem dX4_remove_1 : decode cX4_remove 1 = .ok (.iload_n 1, 1) := dq0 (p := fun a b => decode cX4_remove a = .ok b) dm_cX4_remove_0 1 rfl
theorem dX4_remove_2 : decode cX4_remove 2 = .ok (.invokestatic 160, 3) := dq0 (p := fun a b => decode cX4_remove a = .ok b) dm_cX4_remove_0 2 rfl
theorem dX4_remove_5 : decode cX4_remove 5 = .ok (.invokevirtual 163, 3) := dq0 (p := fun a b => decode cX4_remove a = .ok b) dm_cX4_remove_0 3 rfl
theorem dX4_remove_8 : decode cX4_remove 8 = .ok (.ifCond .ne 5, 3) := dq0 (p := fun a b => decode cX4_remove a = .ok b) dm_cX4_remove_0 4 rfl
theorem dX4_remove_11 : decode cX4_remove 11 = .ok (.iconst 0, 1) := dq0 (p := fun a b => decode cX4_remove a = .ok b) dm_cX4_remove_0 5 rfl
theorem dX4_remove_12 : decode cX4_remove 12 = .ok (.ireturn, 1) := dq0 (p := fun a b => decode cX4_remove a = .ok b) dm_cX4_remove_0 6 rfl
theorem dX4_remove_13 : decode cX4_remove 13 = .ok (.aload_n 0, 1) := dq0 (p := fun a b => decode cX4_remove a = .ok b) dm_cX4_remove_0 7 rfl
theorem dX4_remove_14 : decode cX4_remove 14 = .ok (.getfield 153, 3) := dq0 (p := fun a b => decode cX4_remove a = .ok b) dm_cX4_remove_0 8 rfl
theorem dX4_remove_17 : decode cX4_remove 17 = .ok (.ifCond .eq 12, 3) := dq0 (p := fun a b => decode cX4_remove a = .ok b) dm_cX4_remove_0 9 rfl
theorem dX4_remove_20 : decode cX4_remove 20 = .ok (.aload_n 0, 1) := dq0 (p := fun a b => decode cX4_remove a = .ok b) dm_cX4_remove_0 10 rfl
theorem dX4_remove_21 : decode cX4_remove 21 = .ok (.getfield 13, 3) := dq0 (p := fun a b => decode cX4_remove a = .ok b) dm_cX4_remove_0 11 rfl
theorem dX4_remove_24 : decode cX4_remove 24 = .ok (.iload_n 1, 1) := dq0 (p := fun a b => decode cX4_remove a = .ok b) dm_cX4_remove_0 12 rfl
theorem dX4_remove_25 : decode cX4_remove 25 = .ok (.iaload, 1) := dq0 (p := fun a b => decode cX4_remove a = .ok b) dm_cX4_remove_0 13 rfl
theorem dX4_remove_26 : decode cX4_remove 26 = .ok (.ifCond .ne 9, 3) := dq0 (p := fun a b => decode cX4_remove a = .ok b) dm_cX4_remove_0 14 rfl
theorem dX4_remove_29 : decode cX4_remove 29 = .ok (.aload_n 0, 1) := dq0 (p := fun a b => decode cX4_remove a = .ok b) dm_cX4_remove_0 15 rfl
theorem dX4_remove_30 : decode cX4_remove 30 = .ok (.iconst 2, 1) := dq0 (p := fun a b => decode cX4_remove a = .ok b) dm_cX4_remove_0 16 rfl
theorem dX4_remove_31 : decode cX4_remove 31 = .ok (.invokevirtual 167, 3) := dq0 (p := fun a b => decode cX4_remove a = .ok b) dm_cX4_remove_0 17 rfl
theorem dX4_remove_34 : decode cX4_remove 34 = .ok (.ireturn, 1) := dq0 (p := fun a b => decode cX4_remove a = .ok b) dm_cX4_remove_0 18 rfl
theorem dX4_remove_35 : decode cX4_remove 35 = .ok (.aload_n 0, 1) := dq0 (p := fun a b => decode cX4_remove a = .ok b) dm_cX4_remove_0 19 rfl
theorem dX4_remove_36 : decode cX4_remove 36 = .ok (.getfield 13, 3) := dq0 (p := fun a b => decode cX4_remove a = .ok b) dm_cX4_remove_0 20 rfl
theorem dX4_remove_39 : decode cX4_remove 39 = .ok (.iload_n 1, 1) := dq0 (p := fun a b => decode cX4_remove a = .ok b) dm_cX4_remove_0 21 rfl
theorem dX4_remove_40 : decode cX4_remove 40 = .ok (.invokestatic 65, 3) := dq0 (p := fun a b => decode cX4_remove a = .ok b) dm_cX4_remove_0 22 rfl
theorem dX4_remove_43 : decode cX4_remove 43 = .ok (.istore_n 2, 1) := dq0 (p := fun a b => decode cX4_remove a = .ok b) dm_cX4_remove_0 23 rfl
theorem dX4_remove_44 : decode cX4_remove 44 = .ok (.aload_n 0, 1) := dq0 (p := fun a b => decode cX4_remove a = .ok b) dm_cX4_remove_0 24 rfl
theorem dX4_remove_45 : decode cX4_remove 45 = .ok (.getfield 13, 3) := dq0 (p := fun a b => decode cX4_remove a = .ok b) dm_cX4_remove_0 25 rfl
theorem dX4_remove_48 : decode cX4_remove 48 = .ok (.iload_n 1, 1) := dq0 (p := fun a b => decode cX4_remove a = .ok b) dm_cX4_remove_0 26 rfl
theorem dX4_remove_49 : decode cX4_remove 49 = .ok (.iconst 0, 1) := dq0 (p := fun a b => decode cX4_remove a = .ok b) dm_cX4_remove_0 27 rfl
theorem dX4_remove_50 : decode cX4_remove 50 = .ok (.iastore, 1) := dq0 (p := fun a b => decode cX4_remove a = .ok b) dm_cX4_remove_0 28 rfl
theorem dX4_remove_51 : decode cX4_remove 51 = .ok (.iload_n 2, 1) := dq0 (p := fun a b => decode cX4_remove a = .ok b) dm_cX4_remove_0 29 rfl
theorem dX4_remove_52 : decode cX4_remove 52 = .ok (.ireturn, 1) := dq0 (p := fun a b => decode cX4_remove a = .ok b) dm_cX4_remove_0 30 rfl
