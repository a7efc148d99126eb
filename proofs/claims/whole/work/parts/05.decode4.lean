theorem dm_cX4_endSetup_0 : ([(0, .aload_n 0, 1), (1, .getfield 13, 3), (4, .iconst 0, 1), (5, .invokestatic 82, 3), (8, .iconst (-1), 1), (9, .if_icmp .eq 20, 3), (12, .aload_n 0, 1), (13, .getfield 13, 3), (16, .bipush 8, 2), (18, .invokestatic 82, 3), (21, .iconst (-1), 1), (22, .if_icmp .eq 7, 3), (25, .iconst 1, 1), (26, .goto 4, 3), (29, .iconst 0, 1), (30, .istore_n 2, 1), (31, .aload_n 0, 1), (32, .aload_n 0, 1), (33, .getfield 153, 3), (36, .ifCond .eq 33, 3), (39, .iload_n 2, 1), (40, .ifCond .eq 29, 3), (43, .aload_n 0, 1), (44, .getfield 13, 3), (47, .iload_n 1, 1), (48, .ifCond .ne 7, 3), (51, .iconst 1, 1), (52, .goto 4, 3), (55, .iconst 0, 1), (56, .invokestatic 170, 3), (59, .invokestatic 106, 3), (62, .ifCond .ne 7, 3), (65, .iconst 1, 1), (66, .goto 4, 3), (69, .iconst 0, 1), (70, .invokevirtual 163, 3), (73, .ifCond .ne 5, 3), (76, .iconst 0, 1), (77, .ireturn, 1), (78, .aload_n 0, 1), (79, .getfield 13, 3), (82, .sipush 128, 3), (85, .iload_n 1, 1), (86, .invokestatic 170, 3), (89, .iastore, 1), (90, .aload_n 0, 1), (91, .invokevirtual 41, 3), (94, .aload_n 0, 1), (95, .getfield 135, 3), (98, .ireturn, 1)] : List (Nat × Instr × Nat)).all (fun t => decide (decode cX4_endSetup t.1 = .ok t.2)) = true := by decide +kernel
theorem dX4_endSetup_0 : decode cX4_endSetup 0 = .ok (.aload_n 0, 1) := dq0 (p := fun a b => decode cX4_endSetup a = .ok b) dm_cX4_endSetup_0 0 rfl
theorem dX4_endSetup_1 : decode cX4_endSetup 1 = .ok (.getfield 13, 3) := dq0 (p := fun a b => decode cX4_endSetup a = .ok b) dm_cX4_endSetup_0 1 rfl
theorem dX4_endSetup_4 : decode cX4_endSetup 4 = .ok (.iconst 0, 1) := dq0 (p := fun a b => decode cX4_endSetup a = .ok b) dm_cX4_endSetup_0 2 rfl
theorem dX4_endSetup_5 : decode cX4_endSetup 5 = .ok (.invokestatic 82, 3) := dq0 (p := fun a b => decode cX4_endSetup a = .ok b) dm_cX4_endSetup_0 3 rfl
theorem dX4_endSetup_8 : decode cX4_endSetup 8 = .ok (.iconst (-1), 1) := dq0 (p := fun a b => decode cX4_endSetup a = .ok b) dm_cX4_endSetup_0 4 rfl
theorem dX4_endSetup_9 : decode cX4_endSetup 9 = .ok (.if_icmp .eq 20, 3) := dq0 (p := fun a b => decode cX4_endSetup a = .ok b) dm_cX4_endSetup_0 5 rfl
theorem dX4_endSetup_12 : decode cX4_endSetup 12 = .ok (.aload_n 0, 1) := dq0 (p := fun a b => decode cX4_endSetup a = .ok b) dm_cX4_endSetup_0 6 rfl
theorem dX4_endSetup_13 : decode cX4_endSetup 13 = .ok (.getfield 13, 3) := dq0 (p := fun a b => decode cX4_endSetup a = .ok b) dm_cX4_endSetup_0 7 rfl
theorem dX4_endSetup_16 : decode cX4_endSetup 16 = .ok (.bipush 8, 2) := dq0 (p := fun a b => decode cX4_endSetup a = .ok b) dm_cX4_endSetup_0 8 rfl
theorem dX4_endSetup_18 : decode cX4_endSetup 18 = .ok (.invokestatic 82, 3) := dq0 (p := fun a b => decode cX4_endSetup a = .ok b) dm_cX4_endSetup_0 9 rfl
theorem dX4_endSetup_21 : decode cX4_endSetup 21 = .ok (.iconst (-1), 1) := dq0 (p := fun a b => decode cX4_endSetup a = .ok b) dm_cX4_endSetup_0 10 rfl
theorem dX4_endSetup_22 : decode cX4_endSetup 22 = .ok (.if_icmp .eq 7, 3) := dq0 (p := fun a b => decode cX4_endSetup a = .ok b) dm_cX4_endSetup_0 11 rfl
theorem dX4_endSetup_25 : decode cX4_endSetup 25 = .ok (.iconst 1, 1) := dq0 (p := fun a b => decode cX4_endSetup a = .ok b) dm_cX4_endSetup_0 12 rfl
theorem dX4_endSetup_26 : decode cX4_endSetup 26 = .ok (.goto 4, 3) := dq0 (p := fun a b => decode cX4_endSetup a = .ok b) dm_cX4_endSetup_0 13 rfl
theorem dX4_endSetup_29 : decode cX4_endSetup 29 = .ok (.iconst 0, 1) := dq0 (p := fun a b => decode cX4_endSetup a = .ok b) dm_cX4_endSetup_0 14 rfl
theorem dX4_endSetup_30 : decode cX4_endSetup 30 = .ok (.istore_n 2, 1) := dq0 (p := fun a b => decode cX4_endSetup a = .ok b) dm_cX4_endSetup_0 15 rfl
theorem dX4_endSetup_31 : decode cX4_endSetup 31 = .ok (.aload_n 0, 1) := dq0 (p := fun a b => decode cX4_endSetup a = .ok b) dm_cX4_endSetup_0 16 rfl
theorem dX4_endSetup_32 : decode cX4_endSetup 32 = .ok (.aload_n 0, 1) := dq0 (p := fun a b => decode cX4_endSetup a = .ok b) dm_cX4_endSetup_0 17 rfl
theorem dX4_endSetup_33 : decode cX4_endSetup 33 = .ok (.getfield 153, 3) := dq0 (p := fun a b => decode cX4_endSetup a = .ok b) dm_cX4_endSetup_0 18 rfl
theorem dX4_endSetup_36 : decode cX4_endSetup 36 = .ok (.ifCond .eq 33, 3) := dq0 (p := fun a b => decode cX4_endSetup a = .ok b) dm_cX4_endSetup_0 19 rfl
theorem dX4_endSetup_39 : decode cX4_endSetup 39 = .ok (.iload_n 2, 1) := dq0 (p := fun a b => decode cX4_endSetup a = .ok b) dm_cX4_endSetup_0 20 rfl
theorem dX4_endSetup_40 : decode cX4_endSetup 40 = .ok (.ifCond .eq 29, 3) := dq0 (p := fun a b => decode cX4_endSetup a = .ok b) dm_cX4_endSetup_0 21 rfl
theorem dX4_endSetup_43 : decode cX4_endSetup 43 = .ok (.aload_n 0, 1) := dq0 (p := fun a b => decode cX4_endSetup a = .ok b) dm_cX4_endSetup_0 22 rfl
theorem dX4_endSetup_44 : decode cX4_endSetup 44 = .ok (.getfield 13, 3) := dq0 (p := fun a b => decode cX4_endSetup a = .ok b) dm_cX4_endSetup_0 23 rfl
theorem dX4_endSetup_47 : decode cX4_endSetup 47 = .ok (.iload_n 1, 1) := dq0 (p := fun a b => decode cX4_endSetup a = .ok b) dm_cX4_endSetup_0 24 rfl
theorem dX4_endSetup_48 : decode cX4_endSetup 48 = .ok (.ifCond .ne 7, 3) := dq0 (p := fun a b => decode cX4_endSetup a = .ok b) dm_cX4_endSetup_0 25 rfl
theorem dX4_endSetup_51 : decode cX4_endSetup 51 = .ok (.iconst 1, 1) := dq0 (p := fun a b => decode cX4_endSetup a = .ok b) dm_cX4_endSetup_0 26 rfl
theorem dX4_endSetup_52 : decode cX4_endSetup 52 = .ok (.goto 4, 3) := dq0 (p := fun a b => decode cX4_endSetup a = .ok b) dm_cX4_endSetup_0 27 rfl
theorem dX4_endSetup_55 : decode cX4_endSetup 55 = .ok (.iconst 0, 1) := dq0 (p := fun a b => decode cX4_endSetup a = .ok b) dm_cX4_endSetup_0 28 rfl
theorem dX4_endSetup_56 : decode cX4_endSetup 56 = .ok (.invokestatic 170, 3) := dq0 (p := fun a b => decode cX4_endSetup a = .ok b) dm_cX4_endSetup_0 29 rfl
theorem dX4_endSetup_59 : decode cX4_endSetup 59 = .ok (.invokestatic 106, 3) := dq0 (p := fun a b => decode cX4_endSetup a = .ok b) dm_cX4_endSetup_0 30 rfl
theorem dX4_endSetup_62 : decode cX4_endSetup 62 = .ok (.ifCond .ne 7, 3) := dq0 (p := fun a b => decode cX4_endSetup a = .ok b) dm_cX4_endSetup_0 31 rfl
theorem dX4_endSetup_65 : decode cX4_endSetup 65 = .ok (.iconst 1, 1) := dq0 (p := fun a b => decode cX4_endSetup a = .ok b) dm_cX4_endSetup_0 32 rfl
theorem dX4_endSetup_66 : decode cX4_endSetup 66 = .ok (.goto 4, 3) := dq0 (p := fun a b => decode cX4_endSetup a = .ok b) dm_cX4_endSetup_0 33 rfl
theorem dX4_endSetup_69 : decode cX4_endSetup 69 = .ok (.iconst 0, 1) := dq0 (p := fun a b => decode cX4_endSetup a = .ok b) dm_cX4_endSetup_0 34 rfl
theorem dX4_endSetup_70 : decode cX4_endSetup 70 = .ok (.invokevirtual 163, 3) := dq0 (p := fun a b => decode cX4_endSetup a = .ok b) dm_cX4_endSetup_0 35 rfl
theorem dX4_endSetup_73 : decode cX4_endSetup 73 = .ok (.ifCond .ne 5, 3) := dq0 (p := fun a b => decode cX4_endSetup a = .ok b) dm_cX4_endSetup_0 36 rfl
theorem dX4_endSetup_76 : decode cX4_endSetup 76 = .ok (.iconst 0, 1) := dq0 (p := fun a b => decode cX4_endSetup a = .ok b) dm_cX4_endSetup_0 37 rfl
theorem dX4_endSetup_77 : decode cX4_endSetup 77 = .ok (.ireturn, 1) := dq0 (p := fun a b => decode cX4_endSetup a = .ok b) dm_cX4_endSetup_0 38 rfl
theorem dX4_endSetup_78 : decode cX4_endSetup 78 = .ok (.aload_n 0, 1) := dq0 (p := fun a b => decode cX4_endSetup a = .ok b) dm_cX4_endSetup_0 39 rfl
theorem dX4_endSetup_79 : decode cX4_endSetup 79 = .ok (.getfield 13, 3) := dq0 (p := fun a b => decode cX4_endSetup a = .ok b) dm_cX4_endSetup_0 40 rfl
theorem dX4_endSetup_82 : decode cX4_endSetup 82 = .ok (.sipush 128, 3) := dq0 (p := fun a b => decode cX4_endSetup a = .ok b) dm_cX4_endSetup_0 41 rfl
theorem dX4_endSetup_85 : decode cX4_endSetup 85 = .ok (.iload_n 1, 1) := dq0 (p := fun a b => decode cX4_endSetup a = .ok b) dm_cX4_endSetup_0 42 rfl
theorem dX4_endSetup_86 : decode cX4_endSetup 86 = .ok (.invokestatic 170, 3) := dq0 (p := fun a b => decode cX4_endSetup a = .ok b) dm_cX4_endSetup_0 43 rfl
theorem dX4_endSetup_89 : decode cX4_endSetup 89 = .ok (.iastore, 1) := dq0 (p := fun a b => decode cX4_endSetup a = .ok b) dm_cX4_endSetup_0 44 rfl
theorem dX4_endSetup_90 : decode cX4_endSetup 90 = .ok (.aload_n 0, 1) := dq0 (p := fun a b => decode cX4_endSetup a = .ok b) dm_cX4_endSetup_0 45 rfl
theorem dX4_endSetup_91 : decode cX4_endSetup 91 = .ok (.invokevirtual 41, 3) := dq0 (p := fun a b => decode cX4_endSetup a = .ok b) dm_cX4_endSetup_0 46 rfl
theorem dX4_endSetup_94 : decode cX4_endSetup 94 = .ok (.aload_n 0, 1) := dq0 (p := fun a b => decode cX4_endSetup a = .ok b) dm_cX4_endSetup_0 47 rfl
theorem dX4_endSetup_95 : decode cX4_endSetup 95 = .ok (.getfield 135, 3) := dq0 (p := fun a b => decode cX4_endSetup a = .ok b) dm_cX4_endSetup_0 48 rfl
theorem dX4_endSetup_98 : decode cX4_endSetup 98 = .ok (.ireturn, 1) := dq0 (p := fun a b => decode cX4_endSetup a = .ok b) dm_cX4_endSetup_0 49 rfl
theorem dm_cX4_isSetup_0 : ([(0, .aload_n 0, 1), (1, .iconst 0, 1), (2, .putfield 44, 3), (5, .aload_n 0, 1), (6, .getfield 153, 3), (9, .ireturn, 1)] : List (Nat × Instr × Nat)).all (fun t => decide (decode cX4_isSetup t.1 = .ok t.2)) = true := by decide +kernel
theorem dX4_isSetup_0 : decode cX4_isSetup 0 = .ok (.aload_n 0, 1) := dq0 (p := fun a b => decode cX4_isSetup a = .ok b) dm_cX4_isSetup_0 0 rfl
theorem dX4_isSetup_1 : decode cX4_isSetup 1 = .ok (.iconst 0, 1) := dq0 (p := fun a b => decode cX4_isSetup a = .ok b) dm_cX4_isSetup_0 1 rfl
theorem dX4_isSetup_2 : decode cX4_isSetup 2 = .ok (.putfield 44, 3) := dq0 (p := fun a b => decode cX4_isSetup a = .ok b) dm_cX4_isSetup_0 2 rfl
theorem dX4_isSetup_5 : decode cX4_isSetup 5 = .ok (.aload_n 0, 1) := dq0 (p := fun a b => decode cX4_isSetup a = .ok b) dm_cX4_isSetup_0 3 rfl
theorem dX4_isSetup_6 : decode cX4_isSetup 6 = .ok (.getfield 153, 3) := dq0 (p := fun a b => decode cX4_isSetup a = .ok b) dm_cX4_isSetup_0 4 rfl
theorem dX4_isSetup_9 : decode cX4_isSetup 9 = .ok (.ireturn, 1) := dq0 (p := fun a b => decode cX4_isSetup a = .ok b) dm_cX4_isSetup_0 5 rfl
theorem dm_cX4_whiteToAct_0 : ([(0, .aload_n 0, 1), (1, .iconst 0, 1), (2, .putfield 44, 3), (5, .aload_n 0, 1), (6, .getfield 13, 3), (9, .sipush 128, 3), (12, .iaload, 1), (13, .bipush 8, 2), (15, .if_icmp .ne 7, 3), (18, .iconst 1, 1), (19, .goto 4, 3), (22, .iconst 0, 1), (23, .ireturn, 1)] : List (Nat × Instr × Nat)).all (fun t => decide (decode cX4_whiteToAct t.1 = .ok t.2)) = true := by decide +kernel
theorem dX4_whiteToAct_0 : decode cX4_whiteToAct 0 = .ok (.aload_n 0, 1) := dq0 (p := fun a b => decode cX4_whiteToAct a = .ok b) dm_cX4_whiteToAct_0 0 rfl
theorem dX4_whiteToAct_1 : decode cX4_whiteToAct 1 = .ok (.iconst 0, 1) := dq0 (p := fun a b => decode cX4_whiteToAct a = .ok b) dm_cX4_whiteToAct_0 1 rfl
theorem dX4_whiteToAct_2 : decode cX4_whiteToAct 2 = .ok (.putfield 44, 3) := dq0 (p := fun a b => decode cX4_whiteToAct a = .ok b) dm_cX4_whiteToAct_0 2 rfl
theorem dX4_whiteToAct_5 : decode cX4_whiteToAct 5 = .ok (.aload_n 0, 1) := dq0 (p := fun a b => decode cX4_whiteToAct a = .ok b) dm_cX4_whiteToAct_0 3 rfl
theorem dX4_whiteToAct_6 : decode cX4_whiteToAct 6 = .ok (.getfield 13, 3) := dq0 (p := fun a b => decode cX4_whiteToAct a = .ok b) dm_cX4_whiteToAct_0 4 rfl
theorem dX4_whiteToAct_9 : decode cX4_whiteToAct 9 = .ok (.sipush 128, 3) := dq0 (p := fun a b => decode cX4_whiteToAct a = .ok b) dm_cX4_whiteToAct_0 5 rfl
theorem dX4_whiteToAct_12 : decode cX4_whiteToAct 12 = .ok (.iaload, 1) := dq0 (p := fun a b => decode cX4_whiteToAct a = .ok b) dm_cX4_whiteToAct_0 6 rfl
theorem dX4_whiteToAct_13 : decode cX4_whiteToAct 13 = .ok (.bipush 8, 2) := dq0 (p := fun a b => decode cX4_whiteToAct a = .ok b) dm_cX4_whiteToAct_0 7 rfl
theorem dX4_whiteToAct_15 : decode cX4_whiteToAct 15 = .ok (.if_icmp .ne 7, 3) := dq0 (p := fun a b => decode cX4_whiteToAct a = .ok b) dm_cX4_whiteToAct_0 8 rfl
theorem dX4_whiteToAct_18 : decode cX4_whiteToAct 18 = .ok (.iconst 1, 1) := dq0 (p := fun a b => decode cX4_whiteToAct a = .ok b) dm_cX4_whiteToAct_0 9 rfl
theorem dX4_whiteToAct_19 : decode cX4_whiteToAct 19 = .ok (.goto 4, 3) := dq0 (p := fun a b => decode cX4_whiteToAct a = .ok b) dm_cX4_whiteToAct_0 10 rfl
theorem dX4_whiteToAct_22 : decode cX4_whiteToAct 22 = .ok (.iconst 0, 1) := dq0 (p := fun a b => decode cX4_whiteToAct a = .ok b) dm_cX4_whiteToAct_0 11 rfl
theorem dX4_whiteToAct_23 : decode cX4_whiteToAct 23 = .ok (.ireturn, 1) := dq0 (p := fun a b => decode cX4_whiteToAct a = .ok b) dm_cX4_whiteToAct_0 12 rfl
theorem dm_cX4_pieceAt_0 : ([(0, .aload_n 0, 1), (1, .iload_n 1, 1), (2, .invokestatic 160, 3), (5, .invokevirtual 163, 3), (8, .ifCond .eq 14, 3), (11, .aload_n 0, 1), (12, .getfield 13, 3), (15, .iload_n 1, 1), (16, .invokestatic 65, 3), (19, .goto 4, 3), (22, .iconst 0, 1), (23, .ireturn, 1)] : List (Nat × Instr × Nat)).all (fun t => decide (decode cX4_pieceAt t.1 = .ok t.2)) = true := by decide +kernel
theorem dX4_pieceAt_0 : decode cX4_pieceAt 0 = .ok (.aload_n 0, 1) := dq0 (p := fun a b => decode cX4_pieceAt a = .ok b) dm_cX4_pieceAt_0 0 rfl
theorem dX4_pieceAt_1 : decode cX4_pieceAt 1 = .ok (.iload_n 1, 1) := dq0 (p := fun a b => decode cX4_pieceAt a = .ok b) dm_cX4_pieceAt_0 1 rfl
theorem dX4_pieceAt_2 : decode cX4_pieceAt 2 = .ok (.invokestatic 160, 3) := dq0 (p := fun a b => decode cX4_pieceAt a = .ok b) dm_cX4_pieceAt_0 2 rfl
theorem dX4_pieceAt_5 : decode cX4_pieceAt 5 = .ok (.invokevirtual 163, 3) := dq0 (p := fun a b => decode cX4_pieceAt a = .ok b) dm_cX4_pieceAt_0 3 rfl
theorem dX4_pieceAt_8 : decode cX4_pieceAt 8 = .ok (.ifCond .eq 14, 3) := dq0 (p := fun a b => decode cX4_pieceAt a = .ok b) dm_cX4_pieceAt_0 4 rfl
theorem dX4_pieceAt_11 : decode cX4_pieceAt 11 = .ok (.aload_n 0, 1) := dq0 (p := fun a b => decode cX4_pieceAt a = .ok b) dm_cX4_pieceAt_0 5 rfl
theorem dX4_pieceAt_12 : decode cX4_pieceAt 12 = .ok (.getfield 13, 3) := dq0 (p := fun a b => decode cX4_pieceAt a = .ok b) dm_cX4_pieceAt_0 6 rfl
theorem dX4_pieceAt_15 : decode cX4_pieceAt 15 = .ok (.iload_n 1, 1) := dq0 (p := fun a b => decode cX4_pieceAt a = .ok b) dm_cX4_pieceAt_0 7 rfl
theorem dX4_pieceAt_16 : decode cX4_pieceAt 16 = .ok (.invokestatic 65, 3) := dq0 (p := fun a b => decode cX4_pieceAt a = .ok b) dm_cX4_pieceAt_0 8 rfl
theorem dX4_pieceAt_19 : decode cX4_pieceAt 19 = .ok (.goto 4, 3) := dq0 (p := fun a b => decode cX4_pieceAt a = .ok b) dm_cX4_pieceAt_0 9 rfl
theorem dX4_pieceAt_22 : decode cX4_pieceAt 22 = .ok (.iconst 0, 1) := dq0 (p := fun a b => decode cX4_pieceAt a = .ok b) dm_cX4_pieceAt_0 10 rfl
theorem dX4_pieceAt_23 : decode cX4_pieceAt 23 = .ok (.ireturn, 1) := dq0 (p := fun a b => decode cX4_pieceAt a = .ok b) dm_cX4_pieceAt_0 11 rfl
theorem dm_cX4_isWhite_0 : ([(0, .aload_n 0, 1), (1, .iload_n 1, 1), (2, .invokestatic 160, 3), (5, .invokevirtual 163, 3), (8, .ifCond .ne 5, 3), (11, .iconst 0, 1), (12, .ireturn, 1), (13, .aload_n 0, 1), (14, .getfield 13, 3), (17, .iload_n 1, 1), (18, .iaload, 1), (19, .ifCond .ne 20, 3), (22, .aload_n 0, 1), (23, .iconst 2, 1), (24, .invokevirtual 167, 3), (27, .iconst 1, 1), (28, .if_icmp .ne 7, 3), (31, .iconst 1, 1), (32, .goto 17, 3), (35, .iconst 0, 1), (36, .goto 13, 3), (39, .aload_n 0, 1), (40, .getfield 13, 3), (43, .iload_n 1, 1), (44, .bipush 8, 2), (46, .invokestatic 76, 3), (49, .ireturn, 1)] : List (Nat × Instr × Nat)).all (fun t => decide (decode cX4_isWhite t.1 = .ok t.2)) = true := by decide +kernel
theorem dX4_isWhite_0 : decode cX4_isWhite 0 = .ok (.aload_n 0, 1) := dq0 (p := fun a b => decode cX4_isWhite a = .ok b) dm_cX4_isWhite_0 0 rfl
theorem dX4_isWhite_1 : decode cX4_isWhite 1 = .ok (.iload_n 1, 1) := dq0 (p := fun a b => decode cX4_isWhite a = .ok b) dm_cX4_isWhite_0 1 rfl
theorem dX4_isWhite_2 : decode cX4_isWhite 2 = .ok (.invokestatic 160, 3) := dq0 (p := fun a b => decode cX4_isWhite a = .ok b) dm_cX4_isWhite_0 2 rfl
theorem dX4_isWhite_5 : decode cX4_isWhite 5 = .ok (.invokevirtual 163, 3) := dq0 (p := fun a b => decode cX4_isWhite a = .ok b) dm_cX4_isWhite_0 3 rfl
theorem dX4_isWhite_8 : decode cX4_isWhite 8 = .ok (.ifCond .ne 5, 3) := dq0 (p := fun a b => decode cX4_isWhite a = .ok b) dm_cX4_isWhite_0 4 rfl
theorem dX4_isWhite_11 : decode cX4_isWhite 11 = .ok (.iconst 0, 1) := dq0 (p := fun a b => decode cX4_isWhite a = .ok b) dm_cX4_isWhite_0 5 rfl
theorem dX4_isWhite_12 : decode cX4_isWhite 12 = .ok (.ireturn, 1) := dq0 (p := fun a b => decode cX4_isWhite a = .ok b) dm_cX4_isWhite_0 6 rfl
theorem dX4_isWhite_13 : decode cX4_isWhite 13 = .ok (.aload_n 0, 1) := dq0 (p := fun a b => decode cX4_isWhite a = .ok b) dm_cX4_isWhite_0 7 rfl
theorem dX4_isWhite_14 : decode cX4_isWhite 14 = .ok (.getfield 13, 3) := dq0 (p := fun a b => decode cX4_isWhite a = .ok b) dm_cX4_isWhite_0 8 rfl
theorem dX4_isWhite_17 : decode cX4_isWhite 17 = .ok (.iload_n 1, 1) := dq0 (p := fun a b => decode cX4_isWhite a = .ok b) dm_cX4_isWhite_0 9 rfl
theorem dX4_isWhite_18 : decode cX4_isWhite 18 = .ok (.iaload, 1) := dq0 (p := fun a b => decode cX4_isWhite a = .ok b) dm_cX4_isWhite_0 10 rfl
theorem dX4_isWhite_19 : decode cX4_isWhite 19 = .ok (.ifCond .ne 20, 3) := dq0 (p := fun a b => decode cX4_isWhite a = .ok b) dm_cX4_isWhite_0 11 rfl
theorem dX4_isWhite_22 : decode cX4_isWhite 22 = .ok (.aload_n 0, 1) := dq0 (p := fun a b => decode cX4_isWhite a = .ok b) dm_cX4_isWhite_0 12 rfl
theorem dX4_isWhite_23 : decode cX4_isWhite 23 = .ok (.iconst 2, 1) := dq0 (p := fun a b => decode cX4_isWhite a = .ok b) dm_cX4_isWhite_0 13 rfl
theorem dX4_isWhite_24 : decode cX4_isWhite 24 = .ok (.invokevirtual 167, 3) := dq0 (p := fun a b => decode cX4_isWhite a = .ok b) dm_cX4_isWhite_0 14 rfl
theorem dX4_isWhite_27 : decode cX4_isWhite 27 = .ok (.iconst 1, 1) := dq0 (p := fun a b => decode cX4_isWhite a = .ok b) dm_cX4_isWhite_0 15 rfl
theorem dX4_isWhite_28 : decode cX4_isWhite 28 = .ok (.if_icmp .ne 7, 3) := dq0 (p := fun a b => decode cX4_isWhite a = .ok b) dm_cX4_isWhite_0 16 rfl
theorem dX4_isWhite_31 : decode cX4_isWhite 31 = .ok (.iconst 1, 1) := dq0 (p := fun a b => decode cX4_isWhite a = .ok b) dm_cX4_isWhite_0 17 rfl
theorem dX4_isWhite_32 : decode cX4_isWhite 32 = .ok (.goto 17, 3) := dq0 (p := fun a b => decode cX4_isWhite a = .ok b) dm_cX4_isWhite_0 18 rfl
theorem dX4_isWhite_35 : decode cX4_isWhite 35 = .ok (.iconst 0, 1) := dq0 (p := fun a b => decode cX4_isWhite a = .ok b) dm_cX4_isWhite_0 19 rfl
theorem dX4_isWhite_36 : decode cX4_isWhite 36 = .ok (.goto 13, 3) := dq0 (p := fun a b => decode cX4_isWhite a = .ok b) dm_cX4_isWhite_0 20 rfl
theorem dX4_isWhite_39 : decode cX4_isWhite 39 = .ok (.aload_n 0, 1) := dq0 (p := fun a b => decode cX4_isWhite a = .ok b) dm_cX4_isWhite_0 21 rfl
theorem dX4_isWhite_40 : decode cX4_isWhite 40 = .ok (.getfield 13, 3) := dq0 (p := fun a b => decode cX4_isWhite a = .ok b) dm_cX4_isWhite_0 22 rfl
theorem dX4_isWhite_43 : decode cX4_isWhite 43 = .ok (.iload_n 1, 1) := dq0 (p := fun a b => decode cX4_isWhite a = .ok b) dm_cX4_isWhite_0 23 rfl
theorem dX4_isWhite_44 : decode cX4_isWhite 44 = .ok (.bipush 8, 2) := dq0 (p := fun a b => decode cX4_isWhite a = .ok b) dm_cX4_isWhite_0 24 rfl
theorem dX4_isWhite_46 : decode cX4_isWhite 46 = .ok (.invokestatic 76, 3) := dq0 (p := fun a b => decode cX4_isWhite a = .ok b) dm_cX4_isWhite_0 25 rfl
theorem dX4_isWhite_49 : decode cX4_isWhite 49 = .ok (.ireturn, 1) := dq0 (p := fun a b => decode cX4_isWhite a = .ok b) dm_cX4_isWhite_0 26 rfl
theorem dm_cX4_piecesOf_0 : ([(0, .aload_n 0, 1), (1, .iconst 0, 1), (2, .putfield 44, 3), (5, .lconst 0, 1), (6, .lstore_n 2, 1), (7, .iconst 0, 1), (8, .istore 4, 2), (10, .iload 4, 2), (12, .bipush 64, 2), (14, .if_icmp .ge 36, 3), (17, .lload_n 2, 1), (18, .aload_n 0, 1), (19, .getfield 13, 3), (22, .iload 4, 2), (24, .iload_n 1, 1), (25, .invokestatic 170, 3), (28, .invokestatic 76, 3), (31, .ifCond .eq 10, 3), (34, .lconst 1, 1), (35, .iload 4, 2), (37, .lshl, 1), (38, .goto 4, 3), (41, .lconst 0, 1), (42, .lor, 1), (43, .lstore_n 2, 1), (44, .iinc 4 1, 3), (47, .goto (-37), 3), (50, .lload_n 2, 1), (51, .lreturn, 1)] : List (Nat × Instr × Nat)).all (fun t => decide (decode cX4_piecesOf t.1 = .ok t.2)) = true := by decide +kernel
theorem dX4_piecesOf_0 : decode cX4_piecesOf 0 = .ok (.aload_n 0, 1) := dq0 (p := fun a b => decode cX4_piecesOf a = .ok b) dm_cX4_piecesOf_0 0 rfl
theorem dX4_piecesOf_1 : decode cX4_piecesOf 1 = .ok (.iconst 0, 1) := dq0 (p := fun a b => decode cX4_piecesOf a = .ok b) dm_cX4_piecesOf_0 1 rfl
theorem dX4_piecesOf_2 : decode cX4_piecesOf 2 = .ok (.putfield 44, 3) := dq0 (p := fun a b => decode cX4_piecesOf a = .ok b) dm_cX4_piecesOf_0 2 rfl
theorem dX4_piecesOf_5 : decode cX4_piecesOf 5 = .ok (.lconst 0, 1) := dq0 (p := fun a b => decode cX4_piecesOf a = .ok b) dm_cX4_piecesOf_0 3 rfl
theorem dX4_piecesOf_6 : decode cX4_piecesOf 6 = .ok (.lstore_n 2, 1) := dq0 (p := fun a b => decode cX4_piecesOf a = .ok b) dm_cX4_piecesOf_0 4 rfl
theorem dX4_piecesOf_7 : decode cX4_piecesOf 7 = .ok (.iconst 0, 1) := dq0 (p := fun a b => decode cX4_piecesOf a = .ok b) dm_cX4_piecesOf_0 5 rfl
theorem dX4_piecesOf_8 : decode cX4_piecesOf 8 = .ok (.istore 4, 2) := dq0 (p := fun a b => decode cX4_piecesOf a = .ok b) dm_cX4_piecesOf_0 6 rfl
theorem dX4_piecesOf_10 : decode cX4_piecesOf 10 = .ok (.iload 4, 2) := dq0 (p := fun a b => decode cX4_piecesOf a = .ok b) dm_cX4_piecesOf_0 7 rfl
theorem dX4_piecesOf_12 : decode cX4_piecesOf 12 = .ok (.bipush 64, 2) := dq0 (p := fun a b => decode cX4_piecesOf a = .ok b) dm_cX4_piecesOf_0 8 rfl
theorem dX4_piecesOf_14 : decode cX4_piecesOf 14 = .ok (.if_icmp .ge 36, 3) := dq0 (p := fun a b => decode cX4_piecesOf a = .ok b) dm_cX4_piecesOf_0 9 rfl
theorem dX4_piecesOf_17 : decode cX4_piecesOf 17 = .ok (.lload_n 2, 1) := dq0 (p := fun a b => decode cX4_piecesOf a = .ok b) dm_cX4_piecesOf_0 10 rfl
theorem dX4_piecesOf_18 : decode cX4_piecesOf 18 = .ok (.aload_n 0, 1) := dq0 (p := fun a b => decode cX4_piecesOf a = .ok b) dm_cX4_piecesOf_0 11 rfl
theorem dX4_piecesOf_19 : decode cX4_piecesOf 19 = .ok (.getfield 13, 3) := dq0 (p := fun a b => decode cX4_piecesOf a = .ok b) dm_cX4_piecesOf_0 12 rfl
theorem dX4_piecesOf_22 : decode cX4_piecesOf 22 = .ok (.iload 4, 2) := dq0 (p := fun a b => decode cX4_piecesOf a = .ok b) dm_cX4_piecesOf_0 13 rfl
theorem dX4_piecesOf_24 : decode cX4_piecesOf 24 = .ok (.iload_n 1, 1) := dq0 (p := fun a b => decode cX4_piecesOf a = .ok b) dm_cX4_piecesOf_0 14 rfl
theorem dX4_piecesOf_25 : decode cX4_piecesOf 25 = .ok (.invokestatic 170, 3) := dq0 (p := fun a b => decode cX4_piecesOf a = .ok b) dm_cX4_piecesOf_0 15 rfl
theorem dX4_piecesOf_28 : decode cX4_piecesOf 28 = .ok (.invokestatic 76, 3) := dq0 (p := fun a b => decode cX4_piecesOf a = .ok b) dm_cX4_piecesOf_0 16 rfl
theorem dX4_piecesOf_31 : decode cX4_piecesOf 31 = .ok (.ifCond .eq 10, 3) := dq0 (p := fun a b => decode cX4_piecesOf a = .ok b) dm_cX4_piecesOf_0 17 rfl
theorem dX4_piecesOf_34 : decode cX4_piecesOf 34 = .ok (.lconst 1, 1) := dq0 (p := fun a b => decode cX4_piecesOf a = .ok b) dm_cX4_piecesOf_0 18 rfl
theorem dX4_piecesOf_35 : decode cX4_piecesOf 35 = .ok (.iload 4, 2) := dq0 (p := fun a b => decode cX4_piecesOf a = .ok b) dm_cX4_piecesOf_0 19 rfl
theorem dX4_piecesOf_37 : decode cX4_piecesOf 37 = .ok (.lshl, 1) := dq0 (p := fun a b => decode cX4_piecesOf a = .ok b) dm_cX4_piecesOf_0 20 rfl
theorem dX4_piecesOf_38 : decode cX4_piecesOf 38 = .ok (.goto 4, 3) := dq0 (p := fun a b => decode cX4_piecesOf a = .ok b) dm_cX4_piecesOf_0 21 rfl
theorem dX4_piecesOf_41 : decode cX4_piecesOf 41 = .ok (.lconst 0, 1) := dq0 (p := fun a b => decode cX4_piecesOf a = .ok b) dm_cX4_piecesOf_0 22 rfl
theorem dX4_piecesOf_42 : decode cX4_piecesOf 42 = .ok (.lor, 1) := dq0 (p := fun a b => decode cX4_piecesOf a = .ok b) dm_cX4_piecesOf_0 23 rfl
theorem dX4_piecesOf_43 : decode cX4_piecesOf 43 = .ok (.lstore_n 2, 1) := dq0 (p := fun a b => decode cX4_piecesOf a = .ok b) dm_cX4_piecesOf_0 24 rfl
theorem dX4_piecesOf_44 : decode cX4_piecesOf 44 = .ok (.iinc 4 1, 3) := dq0 (p := fun a b => decode cX4_piecesOf a = .ok b) dm_cX4_piecesOf_0 25 rfl
theorem dX4_piecesOf_47 : decode cX4_piecesOf 47 = .ok (.goto (-37), 3) := dq0 (p := fun a b => decode cX4_piecesOf a = .ok b) dm_cX4_piecesOf_0 26 rfl
theorem dX4_piecesOf_50 : decode cX4_piecesOf 50 = .ok (.lload_n 2, 1) := dq0 (p := fun a b => decode cX4_piecesOf a = .ok b) dm_cX4_piecesOf_0 27 rfl
theorem dX4_piecesOf_51 : decode cX4_piecesOf 51 = .ok (.lreturn, 1) := dq0 (p := fun a b => decode cX4_piecesOf a = .ok b) dm_cX4_piecesOf_0 28 rfl
theorem dm_cX4_kingSquare_0 : ([(0, .aload_n 0, 1), (1, .iconst 0, 1), (2, .putfield 44, 3), (5, .aload_n 0, 1), (6, .getfield 13, 3), (9, .iload_n 1, 1), (10, .invokestatic 170, 3), (13, .invokestatic 82, 3), (16, .ireturn, 1)] : List (Nat × Instr × Nat)).all (fun t => decide (decode cX4_kingSquare t.1 = .ok t.2)) = true := by decide +kernel
theorem dX4_kingSquare_0 : decode cX4_kingSquare 0 = .ok (.aload_n 0, 1) := dq0 (p := fun a b => decode cX4_kingSquare a = .ok b) dm_cX4_kingSquare_0 0 rfl
theorem dX4_kingSquare_1 : decode cX4_kingSquare 1 = .ok (.iconst 0, 1) := dq0 (p := fun a b => decode cX4_kingSquare a = .ok b) dm_cX4_kingSquare_0 1 rfl
theorem dX4_kingSquare_2 : decode cX4_kingSquare 2 = .ok (.putfield 44, 3) := dq0 (p := fun a b => decode cX4_kingSquare a = .ok b) dm_cX4_kingSquare_0 2 rfl
theorem dX4_kingSquare_5 : decode cX4_kingSquare 5 = .ok (.aload_n 0, 1) := dq0 (p := fun a b => decode cX4_kingSquare a = .ok b) dm_cX4_kingSquare_0 3 rfl
theorem dX4_kingSquare_6 : decode cX4_kingSquare 6 = .ok (.getfield 13, 3) := dq0 (p := fun a b => decode cX4_kingSquare a = .ok b) dm_cX4_kingSquare_0 4 rfl
theorem dX4_kingSquare_9 : decode cX4_kingSquare 9 = .ok (.iload_n 1, 1) := dq0 (p := fun a b => decode cX4_kingSquare a = .ok b) dm_cX4_kingSquare_0 5 rfl
theorem dX4_kingSquare_10 : decode cX4_kingSquare 10 = .ok (.invokestatic 170, 3) := dq0 (p := fun a b => decode cX4_kingSquare a = .ok b) dm_cX4_kingSquare_0 6 rfl
theorem dX4_kingSquare_13 : decode cX4_kingSquare 13 = .ok (.invokestatic 82, 3) := dq0 (p := fun a b => decode cX4_kingSquare a = .ok b) dm_cX4_kingSquare_0 7 rfl
theorem dX4_kingSquare_16 : decode cX4_kingSquare 16 = .ok (.ireturn, 1) := dq0 (p := fun a b => decode cX4_kingSquare a = .ok b) dm_cX4_kingSquare_0 8 rfl
theorem dm_cX4_bondOf_0 : ([(0, .aload_n 0, 1), (1, .iload_n 1, 1), (2, .invokestatic 160, 3), (5, .invokevirtual 163, 3), (8, .ifCond .eq 15, 3), (11, .aload_n 0, 1), (12, .getfield 13, 3), (15, .bipush 64, 2), (17, .iload_n 1, 1), (18, .iadd, 1), (19, .iaload, 1), (20, .goto 4, 3), (23, .iconst 0, 1), (24, .ireturn, 1)] : List (Nat × Instr × Nat)).all (fun t => decide (decode cX4_bondOf t.1 = .ok t.2)) = true := by decide +kernel
theorem dX4_bondOf_0 : decode cX4_bondOf 0 = .ok (.aload_n 0, 1) := dq0 (p := fun a b => decode cX4_bondOf a = .ok b) dm_cX4_bondOf_0 0 rfl
theorem dX4_bondOf_1 : decode cX4_bondOf 1 = .ok (.iload_n 1, 1) := dq0 (p := fun a b => decode cX4_bondOf a = .ok b) dm_cX4_bondOf_0 1 rfl
theorem dX4_bondOf_2 : decode cX4_bondOf 2 = .ok (.invokestatic 160, 3) := dq0 (p := fun a b => decode cX4_bondOf a = .ok b) dm_cX4_bondOf_0 2 rfl
theorem dX4_bondOf_5 : decode cX4_bondOf 5 = .ok (.invokevirtual 163, 3) := dq0 (p := fun a b => decode cX4_bondOf a = .ok b) dm_cX4_bondOf_0 3 rfl
theorem dX4_bondOf_8 : decode cX4_bondOf 8 = .ok (.ifCond .eq 15, 3) := dq0 (p := fun a b => decode cX4_bondOf a = .ok b) dm_cX4_bondOf_0 4 rfl
theorem dX4_bondOf_11 : decode cX4_bondOf 11 = .ok (.aload_n 0, 1) := dq0 (p := fun a b => decode cX4_bondOf a = .ok b) dm_cX4_bondOf_0 5 rfl
theorem dX4_bondOf_12 : decode cX4_bondOf 12 = .ok (.getfield 13, 3) := dq0 (p := fun a b => decode cX4_bondOf a = .ok b) dm_cX4_bondOf_0 6 rfl
theorem dX4_bondOf_15 : decode cX4_bondOf 15 = .ok (.bipush 64, 2) := dq0 (p := fun a b => decode cX4_bondOf a = .ok b) dm_cX4_bondOf_0 7 rfl
theorem dX4_bondOf_17 : decode cX4_bondOf 17 = .ok (.iload_n 1, 1) := dq0 (p := fun a b => decode cX4_bondOf a = .ok b) dm_cX4_bondOf_0 8 rfl
theorem dX4_bondOf_18 : decode cX4_bondOf 18 = .ok (.iadd, 1) := dq0 (p := fun a b => decode cX4_bondOf a = .ok b) dm_cX4_bondOf_0 9 rfl
theorem dX4_bondOf_19 : decode cX4_bondOf 19 = .ok (.iaload, 1) := dq0 (p := fun a b => decode cX4_bondOf a = .ok b) dm_cX4_bondOf_0 10 rfl
theorem dX4_bondOf_20 : decode cX4_bondOf 20 = .ok (.goto 4, 3) := dq0 (p := fun a b => decode cX4_bondOf a = .ok b) dm_cX4_bondOf_0 11 rfl
theorem dX4_bondOf_23 : decode cX4_bondOf 23 = .ok (.iconst 0, 1) := dq0 (p := fun a b => decode cX4_bondOf a = .ok b) dm_cX4_bondOf_0 12 rfl
theorem dX4_bondOf_24 : decode cX4_bondOf 24 = .ok (.ireturn, 1) := dq0 (p := fun a b => decode cX4_bondOf a = .ok b) dm_cX4_bondOf_0 13 rfl
theorem dm_cX4_bondCount_0 : ([(0, .aload_n 0, 1), (1, .iconst 0, 1), (2, .putfield 44, 3), (5, .iconst 0, 1), (6, .istore_n 2, 1), (7, .iconst 0, 1), (8, .istore_n 3, 1), (9, .iload_n 3, 1), (10, .bipush 64, 2), (12, .if_icmp .ge 45, 3), (15, .iload_n 2, 1), (16, .aload_n 0, 1), (17, .getfield 13, 3), (20, .iload_n 3, 1), (21, .iload_n 1, 1), (22, .invokestatic 170, 3), (25, .invokestatic 76, 3), (28, .ifCond .eq 20, 3), (31, .aload_n 0, 1), (32, .getfield 13, 3), (35, .bipush 64, 2), (37, .iload_n 3, 1), (38, .iadd, 1), (39, .iaload, 1), (40, .iload_n 3, 1), (41, .if_icmp .le 7, 3), (44, .iconst 1, 1), (45, .goto 4, 3), (48, .iconst 0, 1), (49, .iadd, 1), (50, .istore_n 2, 1), (51, .iinc 3 1, 3), (54, .goto (-45), 3), (57, .iload_n 2, 1), (58, .ireturn, 1)] : List (Nat × Instr × Nat)).all (fun t => decide (decode cX4_bondCount t.1 = .ok t.2)) = true := by decide +kernel
theorem dX4_bondCount_0 : decode cX4_bondCount 0 = .ok (.aload_n 0, 1) := dq0 (p := fun a b => decode cX4_bondCount a = .ok b) dm_cX4_bondCount_0 0 rfl
theorem dX4_bondCount_1 : decode cX4_bondCount 1 = .ok (.iconst 0, 1) := dq0 (p := fun a b => decode cX4_bondCount a = .ok b) dm_cX4_bondCount_0 1 rfl
theorem dX4_bondCount_2 : decode cX4_bondCount 2 = .ok (.putfield 44, 3) := dq0 (p := fun a b => decode cX4_bondCount a = .ok b) dm_cX4_bondCount_0 2 rfl
theorem dX4_bondCount_5 : decode cX4_bondCount 5 = .ok (.iconst 0, 1) := dq0 (p := fun a b => decode cX4_bondCount a = .ok b) dm_cX4_bondCount_0 3 rfl
theorem dX4_bondCount_6 : decode cX4_bondCount 6 = .ok (.istore_n 2, 1) := dq0 (p := fun a b => decode cX4_bondCount a = .ok b) dm_cX4_bondCount_0 4 rfl
theorem dX4_bondCount_7 : decode cX4_bondCount 7 = .ok (.iconst 0, 1) := dq0 (p := fun a b => decode cX4_bondCount a = .ok b) dm_cX4_bondCount_0 5 rfl
theorem dX4_bondCount_8 : decode cX4_bondCount 8 = .ok (.istore_n 3, 1) := dq0 (p := fun a b => decode cX4_bondCount a = .ok b) dm_cX4_bondCount_0 6 rfl
theorem dX4_bondCount_9 : decode cX4_bondCount 9 = .ok (.iload_n 3, 1) := dq0 (p := fun a b => decode cX4_bondCount a = .ok b) dm_cX4_bondCount_0 7 rfl
theorem dX4_bondCount_10 : decode cX4_bondCount 10 = .ok (.bipush 64, 2) := dq0 (p := fun a b => decode cX4_bondCount a = .ok b) dm_cX4_bondCount_0 8 rfl
theorem dX4_bondCount_12 : decode cX4_bondCount 12 = .ok (.if_icmp .ge 45, 3) := dq0 (p := fun a b => decode cX4_bondCount a = .ok b) dm_cX4_bondCount_0 9 rfl
theorem dX4_bondCount_15 : decode cX4_bondCount 15 = .ok (.iload_n 2, 1) := dq0 (p := fun a b => decode cX4_bondCount a = .ok b) dm_cX4_bondCount_0 10 rfl
theorem dX4_bondCount_16 : decode cX4_bondCount 16 = .ok (.aload_n 0, 1) := dq0 (p := fun a b => decode cX4_bondCount a = .ok b) dm_cX4_bondCount_0 11 rfl
theorem dX4_bondCount_17 : decode cX4_bondCount 17 = .ok (.getfield 13, 3) := dq0 (p := fun a b => decode cX4_bondCount a = .ok b) dm_cX4_bondCount_0 12 rfl
theorem dX4_bondCount_20 : decode cX4_bondCount 20 = .ok (.iload_n 3, 1) := dq0 (p := fun a b => decode cX4_bondCount a = .ok b) dm_cX4_bondCount_0 13 rfl
theorem dX4_bondCount_21 : decode cX4_bondCount 21 = .ok (.iload_n 1, 1) := dq0 (p := fun a b => decode cX4_bondCount a = .ok b) dm_cX4_bondCount_0 14 rfl
theorem dX4_bondCount_22 : decode cX4_bondCount 22 = .ok (.invokestatic 170, 3) := dq0 (p := fun a b => decode cX4_bondCount a = .ok b) dm_cX4_bondCount_0 15 rfl
theorem dX4_bondCount_25 : decode cX4_bondCount 25 = .ok (.invokestatic 76, 3) := dq0 (p := fun a b => decode cX4_bondCount a = .ok b) dm_cX4_bondCount_0 16 rfl
theorem dX4_bondCount_28 : decode cX4_bondCount 28 = .ok (.ifCond .eq 20, 3) := dq0 (p := fun a b => decode cX4_bondCount a = .ok b) dm_cX4_bondCount_0 17 rfl
theorem dX4_bondCount_31 : decode cX4_bondCount 31 = .ok (.aload_n 0, 1) := dq0 (p := fun a b => decode cX4_bondCount a = .ok b) dm_cX4_bondCount_0 18 rfl
theorem dX4_bondCount_32 : decode cX4_bondCount 32 = .ok (.getfield 13, 3) := dq0 (p := fun a b => decode cX4_bondCount a = .ok b) dm_cX4_bondCount_0 19 rfl
theorem dX4_bondCount_35 : decode cX4_bondCount 35 = .ok (.bipush 64, 2) := dq0 (p := fun a b => decode cX4_bondCount a = .ok b) dm_cX4_bondCount_0 20 rfl
theorem dX4_bondCount_37 : decode cX4_bondCount 37 = .ok (.iload_n 3, 1) := dq0 (p := fun a b => decode cX4_bondCount a = .ok b) dm_cX4_bondCount_0 21 rfl
theorem dX4_bondCount_38 : decode cX4_bondCount 38 = .ok (.iadd, 1) := dq0 (p := fun a b => decode cX4_bondCount a = .ok b) dm_cX4_bondCount_0 22 rfl
theorem dX4_bondCount_39 : decode cX4_bondCount 39 = .ok (.iaload, 1) := dq0 (p := fun a b => decode cX4_bondCount a = .ok b) dm_cX4_bondCount_0 23 rfl
theorem dX4_bondCount_40 : decode cX4_bondCount 40 = .ok (.iload_n 3, 1) := dq0 (p := fun a b => decode cX4_bondCount a = .ok b) dm_cX4_bondCount_0 24 rfl
theorem dX4_bondCount_41 : decode cX4_bondCount 41 = .ok (.if_icmp .le 7, 3) := dq0 (p := fun a b => decode cX4_bondCount a = .ok b) dm_cX4_bondCount_0 25 rfl
theorem dX4_bondCount_44 : decode cX4_bondCount 44 = .ok (.iconst 1, 1) := dq0 (p := fun a b => decode cX4_bondCount a = .ok b) dm_cX4_bondCount_0 26 rfl
theorem dX4_bondCount_45 : decode cX4_bondCount 45 = .ok (.goto 4, 3) := dq0 (p := fun a b => decode cX4_bondCount a = .ok b) dm_cX4_bondCount_0 27 rfl
theorem dX4_bondCount_48 : decode cX4_bondCount 48 = .ok (.iconst 0, 1) := dq0 (p := fun a b => decode cX4_bondCount a = .ok b) dm_cX4_bondCount_0 28 rfl
theorem dX4_bondCount_49 : decode cX4_bondCount 49 = .ok (.iadd, 1) := dq0 (p := fun a b => decode cX4_bondCount a = .ok b) dm_cX4_bondCount_0 29 rfl
theorem dX4_bondCount_50 : decode cX4_bondCount 50 = .ok (.istore_n 2, 1) := dq0 (p := fun a b => decode cX4_bondCount a = .ok b) dm_cX4_bondCount_0 30 rfl
theorem dX4_bondCount_51 : decode cX4_bondCount 51 = .ok (.iinc 3 1, 3) := dq0 (p := fun a b => decode cX4_bondCount a = .ok b) dm_cX4_bondCount_0 31 rfl
theorem dX4_bondCount_54 : decode cX4_bondCount 54 = .ok (.goto (-45), 3) := dq0 (p := fun a b => decode cX4_bondCount a = .ok b) dm_cX4_bondCount_0 32 rfl
theorem dX4_bondCount_57 : decode cX4_bondCount 57 = .ok (.iload_n 2, 1) := dq0 (p := fun a b => decode cX4_bondCount a = .ok b) dm_cX4_bondCount_0 33 rfl
theorem dX4_bondCount_58 : decode cX4_bondCount 58 = .ok (.ireturn, 1) := dq0 (p := fun a b => decode cX4_bondCount a = .ok b) dm_cX4_bondCount_0 34 rfl
theorem dm_cX4_longestBond_0 : ([(0, .aload_n 0, 1), (1, .iconst 0, 1), (2, .putfield 44, 3), (5, .iconst 0, 1), (6, .istore_n 2, 1), (7, .iconst 0, 1), (8, .istore_n 3, 1), (9, .iload_n 3, 1), (10, .bipush 64, 2), (12, .if_icmp .ge 56, 3), (15, .aload_n 0, 1), (16, .getfield 13, 3), (19, .iload_n 3, 1), (20, .iload_n 1, 1), (21, .invokestatic 170, 3), (24, .invokestatic 76, 3), (27, .ifCond .eq 35, 3), (30, .aload_n 0, 1), (31, .getfield 13, 3), (34, .bipush 64, 2), (36, .iload_n 3, 1), (37, .iadd, 1), (38, .iaload, 1), (39, .iconst (-1), 1), (40, .if_icmp .eq 22, 3), (43, .iload_n 2, 1), (44, .aload_n 0, 1), (45, .iload_n 3, 1), (46, .aload_n 0, 1), (47, .getfield 13, 3), (50, .bipush 64, 2), (52, .iload_n 3, 1), (53, .iadd, 1), (54, .iaload, 1), (55, .invokevirtual 92, 3), (58, .invokestatic 174, 3), (61, .istore_n 2, 1), (62, .iinc 3 1, 3), (65, .goto (-56), 3), (68, .iload_n 2, 1), (69, .ireturn, 1)] : List (Nat × Instr × Nat)).all (fun t => decide (decode cX4_longestBond t.1 = .ok t.2)) = true := by decide +kernel
theorem dX4_longestBond_0 : decode cX4_longestBond 0 = .ok (.aload_n 0, 1) := dq0 (p := fun a b => decode cX4_longestBond a = .ok b) dm_cX4_longestBond_0 0 rfl
theorem dX4_longestBond_1 : decode cX4_longestBond 1 = .ok (.iconst 0, 1) := dq0 (p := fun a b => decode cX4_longestBond a = .ok b) dm_cX4_longestBond_0 1 rfl
theorem dX4_longestBond_2 : decode cX4_longestBond 2 = .ok (.putfield 44, 3) := dq0 (p := fun a b => decode cX4_longestBond a = .ok b) dm_cX4_longestBond_0 2 rfl
theorem dX4_longestBond_5 : decode cX4_longestBond 5 = .ok (.iconst 0, 1) := dq0 (p := fun a b => decode cX4_longestBond a = .ok b) dm_cX4_longestBond_0 3 rfl
theorem dX4_longestBond_6 : decode cX4_longestBond 6 = .ok (.istore_n 2, 1) := dq0 (p := fun a b => decode cX4_longestBond a = .ok b) dm_cX4_longestBond_0 4 rfl
theorem dX4_longestBond_7 : decode cX4_longestBond 7 = .ok (.iconst 0, 1) := dq0 (p := fun a b => decode cX4_longestBond a = .ok b) dm_cX4_longestBond_0 5 rfl
theorem dX4_longestBond_8 : decode cX4_longestBond 8 = .ok (.istore_n 3, 1) := dq0 (p := fun a b => decode cX4_longestBond a = .ok b) dm_cX4_longestBond_0 6 rfl
theorem dX4_longestBond_9 : decode cX4_longestBond 9 = .ok (.iload_n 3, 1) := dq0 (p := fun a b => decode cX4_longestBond a = .ok b) dm_cX4_longestBond_0 7 rfl
theorem dX4_longestBond_10 : decode cX4_longestBond 10 = .ok (.bipush 64, 2) := dq0 (p := fun a b => decode cX4_longestBond a = .ok b) dm_cX4_longestBond_0 8 rfl
theorem dX4_longestBond_12 : decode cX4_longestBond 12 = .ok (.if_icmp .ge 56, 3) := dq0 (p := fun a b => decode cX4_longestBond a = .ok b) dm_cX4_longestBond_0 9 rfl
theorem dX4_longestBond_15 : decode cX4_longestBond 15 = .ok (.aload_n 0, 1) := dq0 (p := fun a b => decode cX4_longestBond a = .ok b) dm_cX4_longestBond_0 10 rfl
theorem dX4_longestBond_16 : decode cX4_longestBond 16 = .ok (.getfield 13, 3) := dq0 (p := fun a b => decode cX4_longestBond a = .ok b) dm_cX4_longestBond_0 11 rfl
theorem dX4_longestBond_19 : decode cX4_longestBond 19 = .ok (.iload_n 3, 1) := dq0 (p := fun a b => decode cX4_longestBond a = .ok b) dm_cX4_longestBond_0 12 rfl
theorem dX4_longestBond_20 : decode cX4_longestBond 20 = .ok (.iload_n 1, 1) := dq0 (p := fun a b => decode cX4_longestBond a = .ok b) dm_cX4_longestBond_0 13 rfl
theorem dX4_longestBond_21 : decode cX4_longestBond 21 = .ok (.invokestatic 170, 3) := dq0 (p := fun a b => decode cX4_longestBond a = .ok b) dm_cX4_longestBond_0 14 rfl
theorem dX4_longestBond_24 : decode cX4_longestBond 24 = .ok (.invokestatic 76, 3) := dq0 (p := fun a b => decode cX4_longestBond a = .ok b) dm_cX4_longestBond_0 15 rfl
theorem dX4_longestBond_27 : decode cX4_longestBond 27 = .ok (.ifCond .eq 35, 3) := dq0 (p := fun a b => decode cX4_longestBond a = .ok b) dm_cX4_longestBond_0 16 rfl
theorem dX4_longestBond_30 : decode cX4_longestBond 30 = .ok (.aload_n 0, 1) := dq0 (p := fun a b => decode cX4_longestBond a = .ok b) dm_cX4_longestBond_0 17 rfl
theorem dX4_longestBond_31 : decode cX4_longestBond 31 = .ok (.getfield 13, 3) := dq0 (p := fun a b => decode cX4_longestBond a = .ok b) dm_cX4_longestBond_0 18 rfl
theorem dX4_longestBond_34 : decode cX4_longestBond 34 = .ok (.bipush 64, 2) := dq0 (p := fun a b => decode cX4_longestBond a = .ok b) dm_cX4_longestBond_0 19 rfl
theorem dX4_longestBond_36 : decode cX4_longestBond 36 = .ok (.iload_n 3, 1) := dq0 (p := fun a b => decode cX4_longestBond a = .ok b) dm_cX4_longestBond_0 20 rfl
theorem dX4_longestBond_37 : decode cX4_longestBond 37 = .ok (.iadd, 1) := dq0 (p := fun a b => decode cX4_longestBond a = .ok b) dm_cX4_longestBond_0 21 rfl
theorem dX4_longestBond_38 : decode cX4_longestBond 38 = .ok (.iaload, 1) := dq0 (p := fun a b => decode cX4_longestBond a = .ok b) dm_cX4_longestBond_0 22 rfl
theorem dX4_longestBond_39 : decode cX4_longestBond 39 = .ok (.iconst (-1), 1) := dq0 (p := fun a b => decode cX4_longestBond a = .ok b) dm_cX4_longestBond_0 23 rfl
theorem dX4_longestBond_40 : decode cX4_longestBond 40 = .ok (.if_icmp .eq 22, 3) := dq0 (p := fun a b => decode cX4_longestBond a = .ok b) dm_cX4_longestBond_0 24 rfl
theorem dX4_longestBond_43 : decode cX4_longestBond 43 = .ok (.iload_n 2, 1) := dq0 (p := fun a b => decode cX4_longestBond a = .ok b) dm_cX4_longestBond_0 25 rfl
theorem dX4_longestBond_44 : decode cX4_longestBond 44 = .ok (.aload_n 0, 1) := dq0 (p := fun a b => decode cX4_longestBond a = .ok b) dm_cX4_longestBond_0 26 rfl
theorem dX4_longestBond_45 : decode cX4_longestBond 45 = .ok (.iload_n 3, 1) := dq0 (p := fun a b => decode cX4_longestBond a = .ok b) dm_cX4_longestBond_0 27 rfl
theorem dX4_longestBond_46 : decode cX4_longestBond 46 = .ok (.aload_n 0, 1) := dq0 (p := fun a b => decode cX4_longestBond a = .ok b) dm_cX4_longestBond_0 28 rfl
theorem dX4_longestBond_47 : decode cX4_longestBond 47 = .ok (.getfield 13, 3) := dq0 (p := fun a b => decode cX4_longestBond a = .ok b) dm_cX4_longestBond_0 29 rfl
theorem dX4_longestBond_50 : decode cX4_longestBond 50 = .ok (.bipush 64, 2) := dq0 (p := fun a b => decode cX4_longestBond a = .ok b) dm_cX4_longestBond_0 30 rfl
theorem dX4_longestBond_52 : decode cX4_longestBond 52 = .ok (.iload_n 3, 1) := dq0 (p := fun a b => decode cX4_longestBond a = .ok b) dm_cX4_longestBond_0 31 rfl
theorem dX4_longestBond_53 : decode cX4_longestBond 53 = .ok (.iadd, 1) := dq0 (p := fun a b => decode cX4_longestBond a = .ok b) dm_cX4_longestBond_0 32 rfl
theorem dX4_longestBond_54 : decode cX4_longestBond 54 = .ok (.iaload, 1) := dq0 (p := fun a b => decode cX4_longestBond a = .ok b) dm_cX4_longestBond_0 33 rfl
theorem dX4_longestBond_55 : decode cX4_longestBond 55 = .ok (.invokevirtual 92, 3) := dq0 (p := fun a b => decode cX4_longestBond a = .ok b) dm_cX4_longestBond_0 34 rfl
theorem dX4_longestBond_58 : decode cX4_longestBond 58 = .ok (.invokestatic 174, 3) := dq0 (p := fun a b => decode cX4_longestBond a = .ok b) dm_cX4_longestBond_0 35 rfl
theorem dX4_longestBond_61 : decode cX4_longestBond 61 = .ok (.istore_n 2, 1) := dq0 (p := fun a b => decode cX4_longestBond a = .ok b) dm_cX4_longestBond_0 36 rfl
theorem dX4_longestBond_62 : decode cX4_longestBond 62 = .ok (.iinc 3 1, 3) := dq0 (p := fun a b => decode cX4_longestBond a = .ok b) dm_cX4_longestBond_0 37 rfl
theorem dX4_longestBond_65 : decode cX4_longestBond 65 = .ok (.goto (-56), 3) := dq0 (p := fun a b => decode cX4_longestBond a = .ok b) dm_cX4_longestBond_0 38 rfl
theorem dX4_longestBond_68 : decode cX4_longestBond 68 = .ok (.iload_n 2, 1) := dq0 (p := fun a b => decode cX4_longestBond a = .ok b) dm_cX4_longestBond_0 39 rfl
theorem dX4_longestBond_69 : decode cX4_longestBond 69 = .ok (.ireturn, 1) := dq0 (p := fun a b => decode cX4_longestBond a = .ok b) dm_cX4_longestBond_0 40 rfl
theorem dm_cX4_knightDistance_0 : ([(0, .aload_n 0, 1), (1, .iload_n 1, 1), (2, .invokestatic 160, 3), (5, .ifCond .eq 14, 3), (8, .iload_n 2, 1), (9, .invokestatic 160, 3), (12, .ifCond .eq 7, 3), (15, .iconst 1, 1), (16, .goto 4, 3), (19, .iconst 0, 1), (20, .invokevirtual 163, 3), (23, .ifCond .eq 12, 3), (26, .aload_n 0, 1), (27, .iload_n 1, 1), (28, .iload_n 2, 1), (29, .invokevirtual 92, 3), (32, .goto 4, 3), (35, .iconst 0, 1), (36, .ireturn, 1)] : List (Nat × Instr × Nat)).all (fun t => decide (decode cX4_knightDistance t.1 = .ok t.2)) = true := by decide +kernel
theorem dX4_knightDistance_0 : decode cX4_knightDistance 0 = .ok (.aload_n 0, 1) := dq0 (p := fun a b => decode cX4_knightDistance a = .ok b) dm_cX4_knightDistance_0 0 rfl
theorem dX4_knightDistance_1 : decode cX4_knightDistance 1 = .ok (.iload_n 1, 1) := dq0 (p := fun a b => decode cX4_knightDistance a = .ok b) dm_cX4_knightDistance_0 1 rfl
theorem dX4_knightDistance_2 : decode cX4_knightDistance 2 = .ok (.invokestatic 160, 3) := dq0 (p := fun a b => decode cX4_knightDistance a = .ok b) dm_cX4_knightDistance_0 2 rfl
theorem dX4_knightDistance_5 : decode cX4_knightDistance 5 = .ok (.ifCond .eq 14, 3) := dq0 (p := fun a b => decode cX4_knightDistance a = .ok b) dm_cX4_knightDistance_0 3 rfl
theorem dX4_knightDistance_8 : decode cX4_knightDistance 8 = .ok (.iload_n 2, 1) := dq0 (p := fun a b => decode cX4_knightDistance a = .ok b) dm_cX4_knightDistance_0 4 rfl
theorem dX4_knightDistance_9 : decode cX4_knightDistance 9 = .ok (.invokestatic 160, 3) := dq0 (p := fun a b => decode cX4_knightDistance a = .ok b) dm_cX4_knightDistance_0 5 rfl
theorem dX4_knightDistance_12 : decode cX4_knightDistance 12 = .ok (.ifCond .eq 7, 3) := dq0 (p := fun a b => decode cX4_knightDistance a = .ok b) dm_cX4_knightDistance_0 6 rfl
theorem dX4_knightDistance_15 : decode cX4_knightDistance 15 = .ok (.iconst 1, 1) := dq0 (p := fun a b => decode cX4_knightDistance a = .ok b) dm_cX4_knightDistance_0 7 rfl
theorem dX4_knightDistance_16 : decode cX4_knightDistance 16 = .ok (.goto 4, 3) := dq0 (p := fun a b => decode cX4_knightDistance a = .ok b) dm_cX4_knightDistance_0 8 rfl
theorem dX4_knightDistance_19 : decode cX4_knightDistance 19 = .ok (.iconst 0, 1) := dq0 (p := fun a b => decode cX4_knightDistance a = .ok b) dm_cX4_knightDistance_0 9 rfl
theorem dX4_knightDistance_20 : decode cX4_knightDistance 20 = .ok (.invokevirtual 163, 3) := dq0 (p := fun a b => decode cX4_knightDistance a = .ok b) dm_cX4_knightDistance_0 10 rfl
theorem dX4_knightDistance_23 : decode cX4_knightDistance 23 = .ok (.ifCond .eq 12, 3) := dq0 (p := fun a b => decode cX4_knightDistance a = .ok b) dm_cX4_knightDistance_0 11 rfl
theorem dX4_knightDistance_26 : decode cX4_knightDistance 26 = .ok (.aload_n 0, 1) := dq0 (p := fun a b => decode cX4_knightDistance a = .ok b) dm_cX4_knightDistance_0 12 rfl
theorem dX4_knightDistance_27 : decode cX4_knightDistance 27 = .ok (.iload_n 1, 1) := dq0 (p := fun a b => decode cX4_knightDistance a = .ok b) dm_cX4_knightDistance_0 13 rfl
theorem dX4_knightDistance_28 : decode cX4_knightDistance 28 = .ok (.iload_n 2, 1) := dq0 (p := fun a b => decode cX4_knightDistance a = .ok b) dm_cX4_knightDistance_0 14 rfl
theorem dX4_knightDistance_29 : decode cX4_knightDistance 29 = .ok (.invokevirtual 92, 3) := dq0 (p := fun a b => decode cX4_knightDistance a = .ok b) dm_cX4_knightDistance_0 15 rfl
theorem dX4_knightDistance_32 : decode cX4_knightDistance 32 = .ok (.goto 4, 3) := dq0 (p := fun a b => decode cX4_knightDistance a = .ok b) dm_cX4_knightDistance_0 16 rfl
theorem dX4_knightDistance_35 : decode cX4_knightDistance 35 = .ok (.iconst 0, 1) := dq0 (p := fun a b => decode cX4_knightDistance a = .ok b) dm_cX4_knightDistance_0 17 rfl
theorem dX4_knightDistance_36 : decode cX4_knightDistance 36 = .ok (.ireturn, 1) := dq0 (p := fun a b => decode cX4_knightDistance a = .ok b) dm_cX4_knightDistance_0 18 rfl
theorem dm_cX4_attackers_0 : ([(0, .aload_n 0, 1), (1, .iload_n 1, 1), (2, .invokestatic 160, 3), (5, .invokevirtual 163, 3), (8, .ifCond .ne 5, 3), (11, .lconst 0, 1), (12, .lreturn, 1), (13, .lconst 0, 1), (14, .lstore_n 3, 1), (15, .iconst 0, 1), (16, .istore 5, 2), (18, .iload 5, 2), (20, .bipush 64, 2), (22, .if_icmp .ge 49, 3), (25, .lload_n 3, 1), (26, .aload_n 0, 1), (27, .getfield 13, 3), (30, .iload 5, 2), (32, .iload_n 2, 1), (33, .invokestatic 170, 3), (36, .invokestatic 76, 3), (39, .ifCond .eq 23, 3), (42, .aload_n 0, 1), (43, .getfield 13, 3), (46, .iload 5, 2), (48, .iload_n 1, 1), (49, .invokestatic 79, 3), (52, .ifCond .eq 10, 3), (55, .lconst 1, 1), (56, .iload 5, 2), (58, .lshl, 1), (59, .goto 4, 3), (62, .lconst 0, 1), (63, .lor, 1), (64, .lstore_n 3, 1), (65, .iinc 5 1, 3), (68, .goto (-50), 3), (71, .lload_n 3, 1), (72, .lreturn, 1)] : List (Nat × Instr × Nat)).all (fun t => decide (decode cX4_attackers t.1 = .ok t.2)) = true := by decide +kernel
theorem dX4_attackers_0 : decode cX4_attackers 0 = .ok (.aload_n 0, 1) := dq0 (p := fun a b => decode cX4_attackers a = .ok b) dm_cX4_attackers_0 0 rfl
theorem dX4_attackers_1 : decode cX4_attackers 1 = .ok (.iload_n 1, 1) := dq0 (p := fun a b => decode cX4_attackers a = .ok b) dm_cX4_attackers_0 1 rfl
theorem dX4_attackers_2 : decode cX4_attackers 2 = .ok (.invokestatic 160, 3) := dq0 (p := fun a b => decode cX4_attackers a = .ok b) dm_cX4_attackers_0 2 rfl
theorem dX4_attackers_5 : decode cX4_attackers 5 = .ok (.invokevirtual 163, 3) := dq0 (p := fun a b => decode cX4_attackers a = .ok b) dm_cX4_attackers_0 3 rfl
theorem dX4_attackers_8 : decode cX4_attackers 8 = .ok (.ifCond .ne 5, 3) := dq0 (p := fun a b => decode cX4_attackers a = .ok b) dm_cX4_attackers_0 4 rfl
theorem dX4_attackers_11 : decode cX4_attackers 11 = .ok (.lconst 0, 1) := dq0 (p := fun a b => decode cX4_attackers a = .ok b) dm_cX4_attackers_0 5 rfl
theorem dX4_attackers_12 : decode cX4_attackers 12 = .ok (.lreturn, 1) := dq0 (p := fun a b => decode cX4_attackers a = .ok b) dm_cX4_attackers_0 6 rfl
theorem dX4_attackers_13 : decode cX4_attackers 13 = .ok (.lconst 0, 1) := dq0 (p := fun a b => decode cX4_attackers a = .ok b) dm_cX4_attackers_0 7 rfl
theorem dX4_attackers_14 : decode cX4_attackers 14 = .ok (.lstore_n 3, 1) := dq0 (p := fun a b => decode cX4_attackers a = .ok b) dm_cX4_attackers_0 8 rfl
theorem dX4_attackers_15 : decode cX4_attackers 15 = .ok (.iconst 0, 1) := dq0 (p := fun a b => decode cX4_attackers a = .ok b) dm_cX4_attackers_0 9 rfl
theorem dX4_attackers_16 : decode cX4_attackers 16 = .ok (.istore 5, 2) := dq0 (p := fun a b => decode cX4_attackers a = .ok b) dm_cX4_attackers_0 10 rfl
theorem dX4_attackers_18 : decode cX4_attackers 18 = .ok (.iload 5, 2) := dq0 (p := fun a b => decode cX4_attackers a = .ok b) dm_cX4_attackers_0 11 rfl
theorem dX4_attackers_20 : decode cX4_attackers 20 = .ok (.bipush 64, 2) := dq0 (p := fun a b => decode cX4_attackers a = .ok b) dm_cX4_attackers_0 12 rfl
theorem dX4_attackers_22 : decode cX4_attackers 22 = .ok (.if_icmp .ge 49, 3) := dq0 (p := fun a b => decode cX4_attackers a = .ok b) dm_cX4_attackers_0 13 rfl
theorem dX4_attackers_25 : decode cX4_attackers 25 = .ok (.lload_n 3, 1) := dq0 (p := fun a b => decode cX4_attackers a = .ok b) dm_cX4_attackers_0 14 rfl
theorem dX4_attackers_26 : decode cX4_attackers 26 = .ok (.aload_n 0, 1) := dq0 (p := fun a b => decode cX4_attackers a = .ok b) dm_cX4_attackers_0 15 rfl
theorem dX4_attackers_27 : decode cX4_attackers 27 = .ok (.getfield 13, 3) := dq0 (p := fun a b => decode cX4_attackers a = .ok b) dm_cX4_attackers_0 16 rfl
theorem dX4_attackers_30 : decode cX4_attackers 30 = .ok (.iload 5, 2) := dq0 (p := fun a b => decode cX4_attackers a = .ok b) dm_cX4_attackers_0 17 rfl
theorem dX4_attackers_32 : decode cX4_attackers 32 = .ok (.iload_n 2, 1) := dq0 (p := fun a b => decode cX4_attackers a = .ok b) dm_cX4_attackers_0 18 rfl
theorem dX4_attackers_33 : decode cX4_attackers 33 = .ok (.invokestatic 170, 3) := dq0 (p := fun a b => decode cX4_attackers a = .ok b) dm_cX4_attackers_0 19 rfl
theorem dX4_attackers_36 : decode cX4_attackers 36 = .ok (.invokestatic 76, 3) := dq0 (p := fun a b => decode cX4_attackers a = .ok b) dm_cX4_attackers_0 20 rfl
theorem dX4_attackers_39 : decode cX4_attackers 39 = .ok (.ifCond .eq 23, 3) := dq0 (p := fun a b => decode cX4_attackers a = .ok b) dm_cX4_attackers_0 21 rfl
theorem dX4_attackers_42 : decode cX4_attackers 42 = .ok (.aload_n 0, 1) := dq0 (p := fun a b => decode cX4_attackers a = .ok b) dm_cX4_attackers_0 22 rfl
theorem dX4_attackers_43 : decode cX4_attackers 43 = .ok (.getfield 13, 3) := dq0 (p := fun a b => decode cX4_attackers a = .ok b) dm_cX4_attackers_0 23 rfl
theorem dX4_attackers_46 : decode cX4_attackers 46 = .ok (.iload 5, 2) := dq0 (p := fun a b => decode cX4_attackers a = .ok b) dm_cX4_attackers_0 24 rfl
theorem dX4_attackers_48 : decode cX4_attackers 48 = .ok (.iload_n 1, 1) := dq0 (p := fun a b => decode cX4_attackers a = .ok b) dm_cX4_attackers_0 25 rfl
theorem dX4_attackers_49 : decode cX4_attackers 49 = .ok (.invokestatic 79, 3) := dq0 (p := fun a b => decode cX4_attackers a = .ok b) dm_cX4_attackers_0 26 rfl
theorem dX4_attackers_52 : decode cX4_attackers 52 = .ok (.ifCond .eq 10, 3) := dq0 (p := fun a b => decode cX4_attackers a = .ok b) dm_cX4_attackers_0 27 rfl
theorem dX4_attackers_55 : decode cX4_attackers 55 = .ok (.lconst 1, 1) := dq0 (p := fun a b => decode cX4_attackers a = .ok b) dm_cX4_attackers_0 28 rfl
theorem dX4_attackers_56 : decode cX4_attackers 56 = .ok (.iload 5, 2) := dq0 (p := fun a b => decode cX4_attackers a = .ok b) dm_cX4_attackers_0 29 rfl
theorem dX4_attackers_58 : decode cX4_attackers 58 = .ok (.lshl, 1) := dq0 (p := fun a b => decode cX4_attackers a = .ok b) dm_cX4_attackers_0 30 rfl
theorem dX4_attackers_59 : decode cX4_attackers 59 = .ok (.goto 4, 3) := dq0 (p := fun a b => decode cX4_attackers a = .ok b) dm_cX4_attackers_0 31 rfl
theorem dX4_attackers_62 : decode cX4_attackers 62 = .ok (.lconst 0, 1) := dq0 (p := fun a b => decode cX4_attackers a = .ok b) dm_cX4_attackers_0 32 rfl
theorem dX4_attackers_63 : decode cX4_attackers 63 = .ok (.lor, 1) := dq0 (p := fun a b => decode cX4_attackers a = .ok b) dm_cX4_attackers_0 33 rfl
theorem dX4_attackers_64 : decode cX4_attackers 64 = .ok (.lstore_n 3, 1) := dq0 (p := fun a b => decode cX4_attackers a = .ok b) dm_cX4_attackers_0 34 rfl
theorem dX4_attackers_65 : decode cX4_attackers 65 = .ok (.iinc 5 1, 3) := dq0 (p := fun a b => decode cX4_attackers a = .ok b) dm_cX4_attackers_0 35 rfl
theorem dX4_attackers_68 : decode cX4_attackers 68 = .ok (.goto (-50), 3) := dq0 (p := fun a b => decode cX4_attackers a = .ok b) dm_cX4_attackers_0 36 rfl
theorem dX4_attackers_71 : decode cX4_attackers 71 = .ok (.lload_n 3, 1) := dq0 (p := fun a b => decode cX4_attackers a = .ok b) dm_cX4_attackers_0 37 rfl
theorem dX4_attackers_72 : decode cX4_attackers 72 = .ok (.lreturn, 1) := dq0 (p := fun a b => decode cX4_attackers a = .ok b) dm_cX4_attackers_0 38 rfl
theorem dm_cX4_attacked_0 : ([(0, .lconst 0, 1), (1, .lstore_n 2, 1), (2, .iconst 0, 1), (3, .istore 4, 2), (5, .iload 4, 2), (7, .bipush 64, 2), (9, .if_icmp .ge 33, 3), (12, .lload_n 2, 1), (13, .aload_n 0, 1), (14, .getfield 13, 3), (17, .iload 4, 2), (19, .iload_n 1, 1), (20, .invokestatic 85, 3), (23, .ifCond .eq 10, 3), (26, .lconst 1, 1), (27, .iload 4, 2), (29, .lshl, 1), (30, .goto 4, 3), (33, .lconst 0, 1), (34, .lor, 1), (35, .lstore_n 2, 1), (36, .iinc 4 1, 3), (39, .goto (-34), 3), (42, .lload_n 2, 1), (43, .lreturn, 1)] : List (Nat × Instr × Nat)).all (fun t => decide (decode cX4_attacked t.1 = .ok t.2)) = true := by decide +kernel
theorem dX4_attacked_0 : decode cX4_attacked 0 = .ok (.lconst 0, 1) := dq0 (p := fun a b => decode cX4_attacked a = .ok b) dm_cX4_attacked_0 0 rfl
theorem dX4_attacked_1 : decode cX4_attacked 1 = .ok (.lstore_n 2, 1) := dq0 (p := fun a b => decode cX4_attacked a = .ok b) dm_cX4_attacked_0 1 rfl
theorem dX4_attacked_2 : decode cX4_attacked 2 = .ok (.iconst 0, 1) := dq0 (p := fun a b => decode cX4_attacked a = .ok b) dm_cX4_attacked_0 2 rfl
theorem dX4_attacked_3 : decode cX4_attacked 3 = .ok (.istore 4, 2) := dq0 (p := fun a b => decode cX4_attacked a = .ok b) dm_cX4_attacked_0 3 rfl
theorem dX4_attacked_5 : decode cX4_attacked 5 = .ok (.iload 4, 2) := dq0 (p := fun a b => decode cX4_attacked a = .ok b) dm_cX4_attacked_0 4 rfl
theorem dX4_attacked_7 : decode cX4_attacked 7 = .ok (.bipush 64, 2) := dq0 (p := fun a b => decode cX4_attacked a = .ok b) dm_cX4_attacked_0 5 rfl
theorem dX4_attacked_9 : decode cX4_attacked 9 = .ok (.if_icmp .ge 33, 3) := dq0 (p := fun a b => decode cX4_attacked a = .ok b) dm_cX4_attacked_0 6 rfl
theorem dX4_attacked_12 : decode cX4_attacked 12 = .ok (.lload_n 2, 1) := dq0 (p := fun a b => decode cX4_attacked a = .ok b) dm_cX4_attacked_0 7 rfl
theorem dX4_attacked_13 : decode cX4_attacked 13 = .ok (.aload_n 0, 1) := dq0 (p := fun a b => decode cX4_attacked a = .ok b) dm_cX4_attacked_0 8 rfl
theorem dX4_attacked_14 : decode cX4_attacked 14 = .ok (.getfield 13, 3) := dq0 (p := fun a b => decode cX4_attacked a = .ok b) dm_cX4_attacked_0 9 rfl
theorem dX4_attacked_17 : decode cX4_attacked 17 = .ok (.iload 4, 2) := dq0 (p := fun a b => decode cX4_attacked a = .ok b) dm_cX4_attacked_0 10 rfl
theorem dX4_attacked_19 : decode cX4_attacked 19 = .ok (.iload_n 1, 1) := dq0 (p := fun a b => decode cX4_attacked a = .ok b) dm_cX4_attacked_0 11 rfl
theorem dX4_attacked_20 : decode cX4_attacked 20 = .ok (.invokestatic 85, 3) := dq0 (p := fun a b => decode cX4_attacked a = .ok b) dm_cX4_attacked_0 12 rfl
theorem dX4_attacked_23 : decode cX4_attacked 23 = .ok (.ifCond .eq 10, 3) := dq0 (p := fun a b => decode cX4_attacked a = .ok b) dm_cX4_attacked_0 13 rfl
theorem dX4_attacked_26 : decode cX4_attacked 26 = .ok (.lconst 1, 1) := dq0 (p := fun a b => decode cX4_attacked a = .ok b) dm_cX4_attacked_0 14 rfl
theorem dX4_attacked_27 : decode cX4_attacked 27 = .ok (.iload 4, 2) := dq0 (p := fun a b => decode cX4_attacked a = .ok b) dm_cX4_attacked_0 15 rfl
theorem dX4_attacked_29 : decode cX4_attacked 29 = .ok (.lshl, 1) := dq0 (p := fun a b => decode cX4_attacked a = .ok b) dm_cX4_attacked_0 16 rfl
theorem dX4_attacked_30 : decode cX4_attacked 30 = .ok (.goto 4, 3) := dq0 (p := fun a b => decode cX4_attacked a = .ok b) dm_cX4_attacked_0 17 rfl
theorem dX4_attacked_33 : decode cX4_attacked 33 = .ok (.lconst 0, 1) := dq0 (p := fun a b => decode cX4_attacked a = .ok b) dm_cX4_attacked_0 18 rfl
theorem dX4_attacked_34 : decode cX4_attacked 34 = .ok (.lor, 1) := dq0 (p := fun a b => decode cX4_attacked a = .ok b) dm_cX4_attacked_0 19 rfl
theorem dX4_attacked_35 : decode cX4_attacked 35 = .ok (.lstore_n 2, 1) := dq0 (p := fun a b => decode cX4_attacked a = .ok b) dm_cX4_attacked_0 20 rfl
theorem dX4_attacked_36 : decode cX4_attacked 36 = .ok (.iinc 4 1, 3) := dq0 (p := fun a b => decode cX4_attacked a = .ok b) dm_cX4_attacked_0 21 rfl
theorem dX4_attacked_39 : decode cX4_attacked 39 = .ok (.goto (-34), 3) := dq0 (p := fun a b => decode cX4_attacked a = .ok b) dm_cX4_attacked_0 22 rfl
theorem dX4_attacked_42 : decode cX4_attacked 42 = .ok (.lload_n 2, 1) := dq0 (p := fun a b => decode cX4_attacked a = .ok b) dm_cX4_attacked_0 23 rfl
theorem dX4_attacked_43 : decode cX4_attacked 43 = .ok (.lreturn, 1) := dq0 (p := fun a b => decode cX4_attacked a = .ok b) dm_cX4_attacked_0 24 rfl
theorem dm_cX4_attackedSquares_0 : ([(0, .aload_n 0, 1), (1, .iconst 0, 1), (2, .putfield 44, 3), (5, .aload_n 0, 1), (6, .iload_n 1, 1), (7, .invokestatic 170, 3), (10, .invokevirtual 179, 3), (13, .lreturn, 1)] : List (Nat × Instr × Nat)).all (fun t => decide (decode cX4_attackedSquares t.1 = .ok t.2)) = true := by decide +kernel
theorem dX4_attackedSquares_0 : decode cX4_attackedSquares 0 = .ok (.aload_n 0, 1) := dq0 (p := fun a b => decode cX4_attackedSquares a = .ok b) dm_cX4_attackedSquares_0 0 rfl
theorem dX4_attackedSquares_1 : decode cX4_attackedSquares 1 = .ok (.iconst 0, 1) := dq0 (p := fun a b => decode cX4_attackedSquares a = .ok b) dm_cX4_attackedSquares_0 1 rfl
theorem dX4_attackedSquares_2 : decode cX4_attackedSquares 2 = .ok (.putfield 44, 3) := dq0 (p := fun a b => decode cX4_attackedSquares a = .ok b) dm_cX4_attackedSquares_0 2 rfl
theorem dX4_attackedSquares_5 : decode cX4_attackedSquares 5 = .ok (.aload_n 0, 1) := dq0 (p := fun a b => decode cX4_attackedSquares a = .ok b) dm_cX4_attackedSquares_0 3 rfl
theorem dX4_attackedSquares_6 : decode cX4_attackedSquares 6 = .ok (.iload_n 1, 1) := dq0 (p := fun a b => decode cX4_attackedSquares a = .ok b) dm_cX4_attackedSquares_0 4 rfl
theorem dX4_attackedSquares_7 : decode cX4_attackedSquares 7 = .ok (.invokestatic 170, 3) := dq0 (p := fun a b => decode cX4_attackedSquares a = .ok b) dm_cX4_attackedSquares_0 5 rfl
theorem dX4_attackedSquares_10 : decode cX4_attackedSquares 10 = .ok (.invokevirtual 179, 3) := dq0 (p := fun a b => decode cX4_attackedSquares a = .ok b) dm_cX4_attackedSquares_0 6 rfl
theorem dX4_attackedSquares_13 : decode cX4_attackedSquares 13 = .ok (.lreturn, 1) := dq0 (p := fun a b => decode cX4_attackedSquares a = .ok b) dm_cX4_attackedSquares_0 7 rfl
theorem dm_cX4_isInCheck_0 : ([(0, .aload_n 0, 1), (1, .iconst 0, 1), (2, .putfield 44, 3), (5, .aload_n 0, 1), (6, .getfield 13, 3), (9, .iload_n 1, 1), (10, .invokestatic 170, 3), (13, .invokestatic 106, 3), (16, .ireturn, 1)] : List (Nat × Instr × Nat)).all (fun t => decide (decode cX4_isInCheck t.1 = .ok t.2)) = true := by decide +kernel
theorem dX4_isInCheck_0 : decode cX4_isInCheck 0 = .ok (.aload_n 0, 1) := dq0 (p := fun a b => decode cX4_isInCheck a = .ok b) dm_cX4_isInCheck_0 0 rfl
theorem dX4_isInCheck_1 : decode cX4_isInCheck 1 = .ok (.iconst 0, 1) := dq0 (p := fun a b => decode cX4_isInCheck a = .ok b) dm_cX4_isInCheck_0 1 rfl
theorem dX4_isInCheck_2 : decode cX4_isInCheck 2 = .ok (.putfield 44, 3) := dq0 (p := fun a b => decode cX4_isInCheck a = .ok b) dm_cX4_isInCheck_0 2 rfl
theorem dX4_isInCheck_5 : decode cX4_isInCheck 5 = .ok (.aload_n 0, 1) := dq0 (p := fun a b => decode cX4_isInCheck a = .ok b) dm_cX4_isInCheck_0 3 rfl
theorem dX4_isInCheck_6 : decode cX4_isInCheck 6 = .ok (.getfield 13, 3) := dq0 (p := fun a b => decode cX4_isInCheck a = .ok b) dm_cX4_isInCheck_0 4 rfl
theorem dX4_isInCheck_9 : decode cX4_isInCheck 9 = .ok (.iload_n 1, 1) := dq0 (p := fun a b => decode cX4_isInCheck a = .ok b) dm_cX4_isInCheck_0 5 rfl
theorem dX4_isInCheck_10 : decode cX4_isInCheck 10 = .ok (.invokestatic 170, 3) := dq0 (p := fun a b => decode cX4_isInCheck a = .ok b) dm_cX4_isInCheck_0 6 rfl
theorem dX4_isInCheck_13 : decode cX4_isInCheck 13 = .ok (.invokestatic 106, 3) := dq0 (p := fun a b => decode cX4_isInCheck a = .ok b) dm_cX4_isInCheck_0 7 rfl
theorem dX4_isInCheck_16 : decode cX4_isInCheck 16 = .ok (.ireturn, 1) := dq0 (p := fun a b => decode cX4_isInCheck a = .ok b) dm_cX4_isInCheck_0 8 rfl
theorem dm_cX4_legalMoves_0 : ([(0, .aload_n 0, 1), (1, .iload_n 1, 1), (2, .invokestatic 160, 3), (5, .invokevirtual 163, 3), (8, .ifCond .ne 5, 3), (11, .lconst 0, 1), (12, .lreturn, 1), (13, .lconst 0, 1), (14, .lstore_n 2, 1), (15, .iconst 0, 1), (16, .istore 4, 2), (18, .iload 4, 2), (20, .bipush 64, 2), (22, .if_icmp .ge 45, 3), (25, .aload_n 0, 1), (26, .invokevirtual 183, 3), (29, .ifCond .eq 38, 3), (32, .lload_n 2, 1), (33, .aload_n 0, 1), (34, .aload_n 0, 1), (35, .getfield 13, 3), (38, .iload_n 1, 1), (39, .iload 4, 2), (41, .aload_n 0, 1), (42, .getfield 16, 3), (45, .invokevirtual 113, 3), (48, .ifCond .ne 10, 3), (51, .lconst 1, 1), (52, .iload 4, 2), (54, .lshl, 1), (55, .goto 4, 3), (58, .lconst 0, 1), (59, .lor, 1), (60, .lstore_n 2, 1), (61, .iinc 4 1, 3), (64, .goto (-46), 3), (67, .lload_n 2, 1), (68, .lreturn, 1)] : List (Nat × Instr × Nat)).all (fun t => decide (decode cX4_legalMoves t.1 = .ok t.2)) = true := by decide +kernel
theorem dX4_legalMoves_0 : decode cX4_legalMoves 0 = .ok (.aload_n 0, 1) := dq0 (p := fun a b => decode cX4_legalMoves a = .ok b) dm_cX4_legalMoves_0 0 rfl
theorem dX4_legalMoves_1 : decode cX4_legalMoves 1 = .ok (.iload_n 1, 1) := dq0 (p := fun a b => decode cX4_legalMoves a = .ok b) dm_cX4_legalMoves_0 1 rfl
theorem dX4_legalMoves_2 : decode cX4_legalMoves 2 = .ok (.invokestatic 160, 3) := dq0 (p := fun a b => decode cX4_legalMoves a = .ok b) dm_cX4_legalMoves_0 2 rfl
theorem dX4_legalMoves_5 : decode cX4_legalMoves 5 = .ok (.invokevirtual 163, 3) := dq0 (p := fun a b => decode cX4_legalMoves a = .ok b) dm_cX4_legalMoves_0 3 rfl
theorem dX4_legalMoves_8 : decode cX4_legalMoves 8 = .ok (.ifCond .ne 5, 3) := dq0 (p := fun a b => decode cX4_legalMoves a = .ok b) dm_cX4_legalMoves_0 4 rfl
theorem dX4_legalMoves_11 : decode cX4_legalMoves 11 = .ok (.lconst 0, 1) := dq0 (p := fun a b => decode cX4_legalMoves a = .ok b) dm_cX4_legalMoves_0 5 rfl
theorem dX4_legalMoves_12 : decode cX4_legalMoves 12 = .ok (.lreturn, 1) := dq0 (p := fun a b => decode cX4_legalMoves a = .ok b) dm_cX4_legalMoves_0 6 rfl
theorem dX4_legalMoves_13 : decode cX4_legalMoves 13 = .ok (.lconst 0, 1) := dq0 (p := fun a b => decode cX4_legalMoves a = .ok b) dm_cX4_legalMoves_0 7 rfl
theorem dX4_legalMoves_14 : decode cX4_legalMoves 14 = .ok (.lstore_n 2, 1) := dq0 (p := fun a b => decode cX4_legalMoves a = .ok b) dm_cX4_legalMoves_0 8 rfl
theorem dX4_legalMoves_15 : decode cX4_legalMoves 15 = .ok (.iconst 0, 1) := dq0 (p := fun a b => decode cX4_legalMoves a = .ok b) dm_cX4_legalMoves_0 9 rfl
theorem dX4_legalMoves_16 : decode cX4_legalMoves 16 = .ok (.istore 4, 2) := dq0 (p := fun a b => decode cX4_legalMoves a = .ok b) dm_cX4_legalMoves_0 10 rfl
theorem dX4_legalMoves_18 : decode cX4_legalMoves 18 = .ok (.iload 4, 2) := dq0 (p := fun a b => decode cX4_legalMoves a = .ok b) dm_cX4_legalMoves_0 11 rfl
theorem dX4_legalMoves_20 : decode cX4_legalMoves 20 = .ok (.bipush 64, 2) := dq0 (p := fun a b => decode cX4_legalMoves a = .ok b) dm_cX4_legalMoves_0 12 rfl
theorem dX4_legalMoves_22 : decode cX4_legalMoves 22 = .ok (.if_icmp .ge 45, 3) := dq0 (p := fun a b => decode cX4_legalMoves a = .ok b) dm_cX4_legalMoves_0 13 rfl
theorem dX4_legalMoves_25 : decode cX4_legalMoves 25 = .ok (.aload_n 0, 1) := dq0 (p := fun a b => decode cX4_legalMoves a = .ok b) dm_cX4_legalMoves_0 14 rfl
theorem dX4_legalMoves_26 : decode cX4_legalMoves 26 = .ok (.invokevirtual 183, 3) := dq0 (p := fun a b => decode cX4_legalMoves a = .ok b) dm_cX4_legalMoves_0 15 rfl
theorem dX4_legalMoves_29 : decode cX4_legalMoves 29 = .ok (.ifCond .eq 38, 3) := dq0 (p := fun a b => decode cX4_legalMoves a = .ok b) dm_cX4_legalMoves_0 16 rfl
theorem dX4_legalMoves_32 : decode cX4_legalMoves 32 = .ok (.lload_n 2, 1) := dq0 (p := fun a b => decode cX4_legalMoves a = .ok b) dm_cX4_legalMoves_0 17 rfl
theorem dX4_legalMoves_33 : decode cX4_legalMoves 33 = .ok (.aload_n 0, 1) := dq0 (p := fun a b => decode cX4_legalMoves a = .ok b) dm_cX4_legalMoves_0 18 rfl
theorem dX4_legalMoves_34 : decode cX4_legalMoves 34 = .ok (.aload_n 0, 1) := dq0 (p := fun a b => decode cX4_legalMoves a = .ok b) dm_cX4_legalMoves_0 19 rfl
theorem dX4_legalMoves_35 : decode cX4_legalMoves 35 = .ok (.getfield 13, 3) := dq0 (p := fun a b => decode cX4_legalMoves a = .ok b) dm_cX4_legalMoves_0 20 rfl
theorem dX4_legalMoves_38 : decode cX4_legalMoves 38 = .ok (.iload_n 1, 1) := dq0 (p := fun a b => decode cX4_legalMoves a = .ok b) dm_cX4_legalMoves_0 21 rfl
theorem dX4_legalMoves_39 : decode cX4_legalMoves 39 = .ok (.iload 4, 2) := dq0 (p := fun a b => decode cX4_legalMoves a = .ok b) dm_cX4_legalMoves_0 22 rfl
theorem dX4_legalMoves_41 : decode cX4_legalMoves 41 = .ok (.aload_n 0, 1) := dq0 (p := fun a b => decode cX4_legalMoves a = .ok b) dm_cX4_legalMoves_0 23 rfl
theorem dX4_legalMoves_42 : decode cX4_legalMoves 42 = .ok (.getfield 16, 3) := dq0 (p := fun a b => decode cX4_legalMoves a = .ok b) dm_cX4_legalMoves_0 24 rfl
theorem dX4_legalMoves_45 : decode cX4_legalMoves 45 = .ok (.invokevirtual 113, 3) := dq0 (p := fun a b => decode cX4_legalMoves a = .ok b) dm_cX4_legalMoves_0 25 rfl
theorem dX4_legalMoves_48 : decode cX4_legalMoves 48 = .ok (.ifCond .ne 10, 3) := dq0 (p := fun a b => decode cX4_legalMoves a = .ok b) dm_cX4_legalMoves_0 26 rfl
theorem dX4_legalMoves_51 : decode cX4_legalMoves 51 = .ok (.lconst 1, 1) := dq0 (p := fun a b => decode cX4_legalMoves a = .ok b) dm_cX4_legalMoves_0 27 rfl
theorem dX4_legalMoves_52 : decode cX4_legalMoves 52 = .ok (.iload 4, 2) := dq0 (p := fun a b => decode cX4_legalMoves a = .ok b) dm_cX4_legalMoves_0 28 rfl
theorem dX4_legalMoves_54 : decode cX4_legalMoves 54 = .ok (.lshl, 1) := dq0 (p := fun a b => decode cX4_legalMoves a = .ok b) dm_cX4_legalMoves_0 29 rfl
theorem dX4_legalMoves_55 : decode cX4_legalMoves 55 = .ok (.goto 4, 3) := dq0 (p := fun a b => decode cX4_legalMoves a = .ok b) dm_cX4_legalMoves_0 30 rfl
theorem dX4_legalMoves_58 : decode cX4_legalMoves 58 = .ok (.lconst 0, 1) := dq0 (p := fun a b => decode cX4_legalMoves a = .ok b) dm_cX4_legalMoves_0 31 rfl
theorem dX4_legalMoves_59 : decode cX4_legalMoves 59 = .ok (.lor, 1) := dq0 (p := fun a b => decode cX4_legalMoves a = .ok b) dm_cX4_legalMoves_0 32 rfl
theorem dX4_legalMoves_60 : decode cX4_legalMoves 60 = .ok (.lstore_n 2, 1) := dq0 (p := fun a b => decode cX4_legalMoves a = .ok b) dm_cX4_legalMoves_0 33 rfl
theorem dX4_legalMoves_61 : decode cX4_legalMoves 61 = .ok (.iinc 4 1, 3) := dq0 (p := fun a b => decode cX4_legalMoves a = .ok b) dm_cX4_legalMoves_0 34 rfl
theorem dX4_legalMoves_64 : decode cX4_legalMoves 64 = .ok (.goto (-46), 3) := dq0 (p := fun a b => decode cX4_legalMoves a = .ok b) dm_cX4_legalMoves_0 35 rfl
theorem dX4_legalMoves_67 : decode cX4_legalMoves 67 = .ok (.lload_n 2, 1) := dq0 (p := fun a b => decode cX4_legalMoves a = .ok b) dm_cX4_legalMoves_0 36 rfl
theorem dX4_legalMoves_68 : decode cX4_legalMoves 68 = .ok (.lreturn, 1) := dq0 (p := fun a b => decode cX4_legalMoves a = .ok b) dm_cX4_legalMoves_0 37 rfl
theorem dm_cX4_legalMoveCount_0 : ([(0, .aload_n 0, 1), (1, .iconst 0, 1), (2, .putfield 44, 3), (5, .aload_n 0, 1), (6, .invokevirtual 183, 3), (9, .ifCond .eq 18, 3), (12, .aload_n 0, 1), (13, .aload_n 0, 1), (14, .getfield 13, 3), (17, .aload_n 0, 1), (18, .getfield 16, 3), (21, .invokevirtual 186, 3), (24, .goto 4, 3), (27, .iconst 0, 1), (28, .ireturn, 1)] : List (Nat × Instr × Nat)).all (fun t => decide (decode cX4_legalMoveCount t.1 = .ok t.2)) = true := by decide +kernel
theorem dX4_legalMoveCount_0 : decode cX4_legalMoveCount 0 = .ok (.aload_n 0, 1) := dq0 (p := fun a b => decode cX4_legalMoveCount a = .ok b) dm_cX4_legalMoveCount_0 0 rfl
theorem dX4_legalMoveCount_1 : decode cX4_legalMoveCount 1 = .ok (.iconst 0, 1) := dq0 (p := fun a b => decode cX4_legalMoveCount a = .ok b) dm_cX4_legalMoveCount_0 1 rfl
theorem dX4_legalMoveCount_2 : decode cX4_legalMoveCount 2 = .ok (.putfield 44, 3) := dq0 (p := fun a b => decode cX4_legalMoveCount a = .ok b) dm_cX4_legalMoveCount_0 2 rfl
theorem dX4_legalMoveCount_5 : decode cX4_legalMoveCount 5 = .ok (.aload_n 0, 1) := dq0 (p := fun a b => decode cX4_legalMoveCount a = .ok b) dm_cX4_legalMoveCount_0 3 rfl
theorem dX4_legalMoveCount_6 : decode cX4_legalMoveCount 6 = .ok (.invokevirtual 183, 3) := dq0 (p := fun a b => decode cX4_legalMoveCount a = .ok b) dm_cX4_legalMoveCount_0 4 rfl
theorem dX4_legalMoveCount_9 : decode cX4_legalMoveCount 9 = .ok (.ifCond .eq 18, 3) := dq0 (p := fun a b => decode cX4_legalMoveCount a = .ok b) dm_cX4_legalMoveCount_0 5 rfl
theorem dX4_legalMoveCount_12 : decode cX4_legalMoveCount 12 = .ok (.aload_n 0, 1) := dq0 (p := fun a b => decode cX4_legalMoveCount a = .ok b) dm_cX4_legalMoveCount_0 6 rfl
theorem dX4_legalMoveCount_13 : decode cX4_legalMoveCount 13 = .ok (.aload_n 0, 1) := dq0 (p := fun a b => decode cX4_legalMoveCount a = .ok b) dm_cX4_legalMoveCount_0 7 rfl
theorem dX4_legalMoveCount_14 : decode cX4_legalMoveCount 14 = .ok (.getfield 13, 3) := dq0 (p := fun a b => decode cX4_legalMoveCount a = .ok b) dm_cX4_legalMoveCount_0 8 rfl
theorem dX4_legalMoveCount_17 : decode cX4_legalMoveCount 17 = .ok (.aload_n 0, 1) := dq0 (p := fun a b => decode cX4_legalMoveCount a = .ok b) dm_cX4_legalMoveCount_0 9 rfl
theorem dX4_legalMoveCount_18 : decode cX4_legalMoveCount 18 = .ok (.getfield 16, 3) := dq0 (p := fun a b => decode cX4_legalMoveCount a = .ok b) dm_cX4_legalMoveCount_0 10 rfl
theorem dX4_legalMoveCount_21 : decode cX4_legalMoveCount 21 = .ok (.invokevirtual 186, 3) := dq0 (p := fun a b => decode cX4_legalMoveCount a = .ok b) dm_cX4_legalMoveCount_0 11 rfl
theorem dX4_legalMoveCount_24 : decode cX4_legalMoveCount 24 = .ok (.goto 4, 3) := dq0 (p := fun a b => decode cX4_legalMoveCount a = .ok b) dm_cX4_legalMoveCount_0 12 rfl
theorem dX4_legalMoveCount_27 : decode cX4_legalMoveCount 27 = .ok (.iconst 0, 1) := dq0 (p := fun a b => decode cX4_legalMoveCount a = .ok b) dm_cX4_legalMoveCount_0 13 rfl
theorem dX4_legalMoveCount_28 : decode cX4_legalMoveCount 28 = .ok (.ireturn, 1) := dq0 (p := fun a b => decode cX4_legalMoveCount a = .ok b) dm_cX4_legalMoveCount_0 14 rfl
theorem dm_cX4_areSquares_0 : ([(0, .aload_n 0, 1), (1, .iload_n 1, 1), (2, .invokestatic 160, 3), (5, .ifCond .eq 14, 3), (8, .iload_n 2, 1), (9, .invokestatic 160, 3), (12, .ifCond .eq 7, 3), (15, .iconst 1, 1), (16, .goto 4, 3), (19, .iconst 0, 1), (20, .invokevirtual 163, 3), (23, .ireturn, 1)] : List (Nat × Instr × Nat)).all (fun t => decide (decode cX4_areSquares t.1 = .ok t.2)) = true := by decide +kernel
theorem dX4_areSquares_0 : decode cX4_areSquares 0 = .ok (.aload_n 0, 1) := dq0 (p := fun a b => decode cX4_areSquares a = .ok b) dm_cX4_areSquares_0 0 rfl
theorem dX4_areSquares_1 : decode cX4_areSquares 1 = .ok (.iload_n 1, 1) := dq0 (p := fun a b => decode cX4_areSquares a = .ok b) dm_cX4_areSquares_0 1 rfl
theorem dX4_areSquares_2 : decode cX4_areSquares 2 = .ok (.invokestatic 160, 3) := dq0 (p := fun a b => decode cX4_areSquares a = .ok b) dm_cX4_areSquares_0 2 rfl
theorem dX4_areSquares_5 : decode cX4_areSquares 5 = .ok (.ifCond .eq 14, 3) := dq0 (p := fun a b => decode cX4_areSquares a = .ok b) dm_cX4_areSquares_0 3 rfl
theorem dX4_areSquares_8 : decode cX4_areSquares 8 = .ok (.iload_n 2, 1) := dq0 (p := fun a b => decode cX4_areSquares a = .ok b) dm_cX4_areSquares_0 4 rfl
theorem dX4_areSquares_9 : decode cX4_areSquares 9 = .ok (.invokestatic 160, 3) := dq0 (p := fun a b => decode cX4_areSquares a = .ok b) dm_cX4_areSquares_0 5 rfl
theorem dX4_areSquares_12 : decode cX4_areSquares 12 = .ok (.ifCond .eq 7, 3) := dq0 (p := fun a b => decode cX4_areSquares a = .ok b) dm_cX4_areSquares_0 6 rfl
theorem dX4_areSquares_15 : decode cX4_areSquares 15 = .ok (.iconst 1, 1) := dq0 (p := fun a b => decode cX4_areSquares a = .ok b) dm_cX4_areSquares_0 7 rfl
theorem dX4_areSquares_16 : decode cX4_areSquares 16 = .ok (.goto 4, 3) := dq0 (p := fun a b => decode cX4_areSquares a = .ok b) dm_cX4_areSquares_0 8 rfl
theorem dX4_areSquares_19 : decode cX4_areSquares 19 = .ok (.iconst 0, 1) := dq0 (p := fun a b => decode cX4_areSquares a = .ok b) dm_cX4_areSquares_0 9 rfl
theorem dX4_areSquares_20 : decode cX4_areSquares 20 = .ok (.invokevirtual 163, 3) := dq0 (p := fun a b => decode cX4_areSquares a = .ok b) dm_cX4_areSquares_0 10 rfl
theorem dX4_areSquares_23 : decode cX4_areSquares 23 = .ok (.ireturn, 1) := dq0 (p := fun a b => decode cX4_areSquares a = .ok b) dm_cX4_areSquares_0 11 rfl
theorem dm_cX4_moveRefusal_0 : ([(0, .aload_n 0, 1), (1, .iload_n 1, 1), (2, .iload_n 2, 1), (3, .invokevirtual 190, 3), (6, .ifCond .ne 5, 3), (9, .iconst 0, 1), (10, .ireturn, 1), (11, .aload_n 0, 1), (12, .invokevirtual 183, 3), (15, .ifCond .eq 20, 3), (18, .aload_n 0, 1), (19, .aload_n 0, 1), (20, .getfield 13, 3), (23, .iload_n 1, 1), (24, .iload_n 2, 1), (25, .aload_n 0, 1), (26, .getfield 16, 3), (29, .invokevirtual 113, 3), (32, .goto 4, 3), (35, .iconst 1, 1), (36, .ireturn, 1)] : List (Nat × Instr × Nat)).all (fun t => decide (decode cX4_moveRefusal t.1 = .ok t.2)) = true := by decide +kernel
theorem dX4_moveRefusal_0 : decode cX4_moveRefusal 0 = .ok (.aload_n 0, 1) := dq0 (p := fun a b => decode cX4_moveRefusal a = .ok b) dm_cX4_moveRefusal_0 0 rfl
theorem dX4_moveRefusal_1 : decode cX4_moveRefusal 1 = .ok (.iload_n 1, 1) := dq0 (p := fun a b => decode cX4_moveRefusal a = .ok b) dm_cX4_moveRefusal_0 1 rfl
theorem dX4_moveRefusal_2 : decode cX4_moveRefusal 2 = .ok (.iload_n 2, 1) := dq0 (p := fun a b => decode cX4_moveRefusal a = .ok b) dm_cX4_moveRefusal_0 2 rfl
theorem dX4_moveRefusal_3 : decode cX4_moveRefusal 3 = .ok (.invokevirtual 190, 3) := dq0 (p := fun a b => decode cX4_moveRefusal a = .ok b) dm_cX4_moveRefusal_0 3 rfl
theorem dX4_moveRefusal_6 : decode cX4_moveRefusal 6 = .ok (.ifCond .ne 5, 3) := dq0 (p := fun a b => decode cX4_moveRefusal a = .ok b) dm_cX4_moveRefusal_0 4 rfl
theorem dX4_moveRefusal_9 : decode cX4_moveRefusal 9 = .ok (.iconst 0, 1) := dq0 (p := fun a b => decode cX4_moveRefusal a = .ok b) dm_cX4_moveRefusal_0 5 rfl
theorem dX4_moveRefusal_10 : decode cX4_moveRefusal 10 = .ok (.ireturn, 1) := dq0 (p := fun a b => decode cX4_moveRefusal a = .ok b) dm_cX4_moveRefusal_0 6 rfl
theorem dX4_moveRefusal_11 : decode cX4_moveRefusal 11 = .ok (.aload_n 0, 1) := dq0 (p := fun a b => decode cX4_moveRefusal a = .ok b) dm_cX4_moveRefusal_0 7 rfl
theorem dX4_moveRefusal_12 : decode cX4_moveRefusal 12 = .ok (.invokevirtual 183, 3) := dq0 (p := fun a b => decode cX4_moveRefusal a = .ok b) dm_cX4_moveRefusal_0 8 rfl
theorem dX4_moveRefusal_15 : decode cX4_moveRefusal 15 = .ok (.ifCond .eq 20, 3) := dq0 (p := fun a b => decode cX4_moveRefusal a = .ok b) dm_cX4_moveRefusal_0 9 rfl
theorem dX4_moveRefusal_18 : decode cX4_moveRefusal 18 = .ok (.aload_n 0, 1) := dq0 (p := fun a b => decode cX4_moveRefusal a = .ok b) dm_cX4_moveRefusal_0 10 rfl
theorem dX4_moveRefusal_19 : decode cX4_moveRefusal 19 = .ok (.aload_n 0, 1) := dq0 (p := fun a b => decode cX4_moveRefusal a = .ok b) dm_cX4_moveRefusal_0 11 rfl
theorem dX4_moveRefusal_20 : decode cX4_moveRefusal 20 = .ok (.getfield 13, 3) := dq0 (p := fun a b => decode cX4_moveRefusal a = .ok b) dm_cX4_moveRefusal_0 12 rfl
theorem dX4_moveRefusal_23 : decode cX4_moveRefusal 23 = .ok (.iload_n 1, 1) := dq0 (p := fun a b => decode cX4_moveRefusal a = .ok b) dm_cX4_moveRefusal_0 13 rfl
theorem dX4_moveRefusal_24 : decode cX4_moveRefusal 24 = .ok (.iload_n 2, 1) := dq0 (p := fun a b => decode cX4_moveRefusal a = .ok b) dm_cX4_moveRefusal_0 14 rfl
theorem dX4_moveRefusal_25 : decode cX4_moveRefusal 25 = .ok (.aload_n 0, 1) := dq0 (p := fun a b => decode cX4_moveRefusal a = .ok b) dm_cX4_moveRefusal_0 15 rfl
theorem dX4_moveRefusal_26 : decode cX4_moveRefusal 26 = .ok (.getfield 16, 3) := dq0 (p := fun a b => decode cX4_moveRefusal a = .ok b) dm_cX4_moveRefusal_0 16 rfl
theorem dX4_moveRefusal_29 : decode cX4_moveRefusal 29 = .ok (.invokevirtual 113, 3) := dq0 (p := fun a b => decode cX4_moveRefusal a = .ok b) dm_cX4_moveRefusal_0 17 rfl
theorem dX4_moveRefusal_32 : decode cX4_moveRefusal 32 = .ok (.goto 4, 3) := dq0 (p := fun a b => decode cX4_moveRefusal a = .ok b) dm_cX4_moveRefusal_0 18 rfl
theorem dX4_moveRefusal_35 : decode cX4_moveRefusal 35 = .ok (.iconst 1, 1) := dq0 (p := fun a b => decode cX4_moveRefusal a = .ok b) dm_cX4_moveRefusal_0 19 rfl
theorem dX4_moveRefusal_36 : decode cX4_moveRefusal 36 = .ok (.ireturn, 1) := dq0 (p := fun a b => decode cX4_moveRefusal a = .ok b) dm_cX4_moveRefusal_0 20 rfl
theorem dm_cX4_bondRefusal_0 : ([(0, .aload_n 0, 1), (1, .iload_n 1, 1), (2, .iload_n 2, 1), (3, .invokevirtual 190, 3), (6, .ifCond .ne 5, 3), (9, .iconst 0, 1), (10, .ireturn, 1), (11, .aload_n 0, 1), (12, .invokevirtual 183, 3), (15, .ifCond .eq 12, 3), (18, .aload_n 0, 1), (19, .iload_n 1, 1), (20, .iload_n 2, 1), (21, .invokevirtual 121, 3), (24, .goto 4, 3), (27, .iconst 1, 1), (28, .ireturn, 1)] : List (Nat × Instr × Nat)).all (fun t => decide (decode cX4_bondRefusal t.1 = .ok t.2)) = true := by decide +kernel
theorem dX4_bondRefusal_0 : decode cX4_bondRefusal 0 = .ok (.aload_n 0, 1) := dq0 (p := fun a b => decode cX4_bondRefusal a = .ok b) dm_cX4_bondRefusal_0 0 rfl
theorem dX4_bondRefusal_1 : decode cX4_bondRefusal 1 = .ok (.iload_n 1, 1) := dq0 (p := fun a b => decode cX4_bondRefusal a = .ok b) dm_cX4_bondRefusal_0 1 rfl
theorem dX4_bondRefusal_2 : decode cX4_bondRefusal 2 = .ok (.iload_n 2, 1) := dq0 (p := fun a b => decode cX4_bondRefusal a = .ok b) dm_cX4_bondRefusal_0 2 rfl
theorem dX4_bondRefusal_3 : decode cX4_bondRefusal 3 = .ok (.invokevirtual 190, 3) := dq0 (p := fun a b => decode cX4_bondRefusal a = .ok b) dm_cX4_bondRefusal_0 3 rfl
theorem dX4_bondRefusal_6 : decode cX4_bondRefusal 6 = .ok (.ifCond .ne 5, 3) := dq0 (p := fun a b => decode cX4_bondRefusal a = .ok b) dm_cX4_bondRefusal_0 4 rfl
theorem dX4_bondRefusal_9 : decode cX4_bondRefusal 9 = .ok (.iconst 0, 1) := dq0 (p := fun a b => decode cX4_bondRefusal a = .ok b) dm_cX4_bondRefusal_0 5 rfl
theorem dX4_bondRefusal_10 : decode cX4_bondRefusal 10 = .ok (.ireturn, 1) := dq0 (p := fun a b => decode cX4_bondRefusal a = .ok b) dm_cX4_bondRefusal_0 6 rfl
theorem dX4_bondRefusal_11 : decode cX4_bondRefusal 11 = .ok (.aload_n 0, 1) := dq0 (p := fun a b => decode cX4_bondRefusal a = .ok b) dm_cX4_bondRefusal_0 7 rfl
theorem dX4_bondRefusal_12 : decode cX4_bondRefusal 12 = .ok (.invokevirtual 183, 3) := dq0 (p := fun a b => decode cX4_bondRefusal a = .ok b) dm_cX4_bondRefusal_0 8 rfl
theorem dX4_bondRefusal_15 : decode cX4_bondRefusal 15 = .ok (.ifCond .eq 12, 3) := dq0 (p := fun a b => decode cX4_bondRefusal a = .ok b) dm_cX4_bondRefusal_0 9 rfl
theorem dX4_bondRefusal_18 : decode cX4_bondRefusal 18 = .ok (.aload_n 0, 1) := dq0 (p := fun a b => decode cX4_bondRefusal a = .ok b) dm_cX4_bondRefusal_0 10 rfl
theorem dX4_bondRefusal_19 : decode cX4_bondRefusal 19 = .ok (.iload_n 1, 1) := dq0 (p := fun a b => decode cX4_bondRefusal a = .ok b) dm_cX4_bondRefusal_0 11 rfl
theorem dX4_bondRefusal_20 : decode cX4_bondRefusal 20 = .ok (.iload_n 2, 1) := dq0 (p := fun a b => decode cX4_bondRefusal a = .ok b) dm_cX4_bondRefusal_0 12 rfl
theorem dX4_bondRefusal_21 : decode cX4_bondRefusal 21 = .ok (.invokevirtual 121, 3) := dq0 (p := fun a b => decode cX4_bondRefusal a = .ok b) dm_cX4_bondRefusal_0 13 rfl
theorem dX4_bondRefusal_24 : decode cX4_bondRefusal 24 = .ok (.goto 4, 3) := dq0 (p := fun a b => decode cX4_bondRefusal a = .ok b) dm_cX4_bondRefusal_0 14 rfl
theorem dX4_bondRefusal_27 : decode cX4_bondRefusal 27 = .ok (.iconst 1, 1) := dq0 (p := fun a b => decode cX4_bondRefusal a = .ok b) dm_cX4_bondRefusal_0 15 rfl
theorem dX4_bondRefusal_28 : decode cX4_bondRefusal 28 = .ok (.ireturn, 1) := dq0 (p := fun a b => decode cX4_bondRefusal a = .ok b) dm_cX4_bondRefusal_0 16 rfl
theorem dm_cX4_dissolveRefusal_0 : ([(0, .aload_n 0, 1), (1, .iload_n 1, 1), (2, .invokestatic 160, 3), (5, .invokevirtual 163, 3), (8, .ifCond .ne 5, 3), (11, .iconst 0, 1), (12, .ireturn, 1), (13, .aload_n 0, 1), (14, .invokevirtual 183, 3), (17, .ifCond .eq 11, 3), (20, .aload_n 0, 1), (21, .iload_n 1, 1), (22, .invokevirtual 117, 3), (25, .goto 4, 3), (28, .iconst 1, 1), (29, .ireturn, 1)] : List (Nat × Instr × Nat)).all (fun t => decide (decode cX4_dissolveRefusal t.1 = .ok t.2)) = true := by decide +kernel
theorem dX4_dissolveRefusal_0 : decode cX4_dissolveRefusal 0 = .ok (.aload_n 0, 1) := dq0 (p := fun a b => decode cX4_dissolveRefusal a = .ok b) dm_cX4_dissolveRefusal_0 0 rfl
theorem dX4_dissolveRefusal_1 : decode cX4_dissolveRefusal 1 = .ok (.iload_n 1, 1) := dq0 (p := fun a b => decode cX4_dissolveRefusal a = .ok b) dm_cX4_dissolveRefusal_0 1 rfl
theorem dX4_dissolveRefusal_2 : decode cX4_dissolveRefusal 2 = .ok (.invokestatic 160, 3) := dq0 (p := fun a b => decode cX4_dissolveRefusal a = .ok b) dm_cX4_dissolveRefusal_0 2 rfl
theorem dX4_dissolveRefusal_5 : decode cX4_dissolveRefusal 5 = .ok (.invokevirtual 163, 3) := dq0 (p := fun a b => decode cX4_dissolveRefusal a = .ok b) dm_cX4_dissolveRefusal_0 3 rfl
theorem dX4_dissolveRefusal_8 : decode cX4_dissolveRefusal 8 = .ok (.ifCond .ne 5, 3) := dq0 (p := fun a b => decode cX4_dissolveRefusal a = .ok b) dm_cX4_dissolveRefusal_0 4 rfl
theorem dX4_dissolveRefusal_11 : decode cX4_dissolveRefusal 11 = .ok (.iconst 0, 1) := dq0 (p := fun a b => decode cX4_dissolveRefusal a = .ok b) dm_cX4_dissolveRefusal_0 5 rfl
theorem dX4_dissolveRefusal_12 : decode cX4_dissolveRefusal 12 = .ok (.ireturn, 1) := dq0 (p := fun a b => decode cX4_dissolveRefusal a = .ok b) dm_cX4_dissolveRefusal_0 6 rfl
theorem dX4_dissolveRefusal_13 : decode cX4_dissolveRefusal 13 = .ok (.aload_n 0, 1) := dq0 (p := fun a b => decode cX4_dissolveRefusal a = .ok b) dm_cX4_dissolveRefusal_0 7 rfl
theorem dX4_dissolveRefusal_14 : decode cX4_dissolveRefusal 14 = .ok (.invokevirtual 183, 3) := dq0 (p := fun a b => decode cX4_dissolveRefusal a = .ok b) dm_cX4_dissolveRefusal_0 8 rfl
theorem dX4_dissolveRefusal_17 : decode cX4_dissolveRefusal 17 = .ok (.ifCond .eq 11, 3) := dq0 (p := fun a b => decode cX4_dissolveRefusal a = .ok b) dm_cX4_dissolveRefusal_0 9 rfl
theorem dX4_dissolveRefusal_20 : decode cX4_dissolveRefusal 20 = .ok (.aload_n 0, 1) := dq0 (p := fun a b => decode cX4_dissolveRefusal a = .ok b) dm_cX4_dissolveRefusal_0 10 rfl
theorem dX4_dissolveRefusal_21 : decode cX4_dissolveRefusal 21 = .ok (.iload_n 1, 1) := dq0 (p := fun a b => decode cX4_dissolveRefusal a = .ok b) dm_cX4_dissolveRefusal_0 11 rfl
theorem dX4_dissolveRefusal_22 : decode cX4_dissolveRefusal 22 = .ok (.invokevirtual 117, 3) := dq0 (p := fun a b => decode cX4_dissolveRefusal a = .ok b) dm_cX4_dissolveRefusal_0 12 rfl
theorem dX4_dissolveRefusal_25 : decode cX4_dissolveRefusal 25 = .ok (.goto 4, 3) := dq0 (p := fun a b => decode cX4_dissolveRefusal a = .ok b) dm_cX4_dissolveRefusal_0 13 rfl
theorem dX4_dissolveRefusal_28 : decode cX4_dissolveRefusal 28 = .ok (.iconst 1, 1) := dq0 (p := fun a b => decode cX4_dissolveRefusal a = .ok b) dm_cX4_dissolveRefusal_0 14 rfl
theorem dX4_dissolveRefusal_29 : decode cX4_dissolveRefusal 29 = .ok (.ireturn, 1) := dq0 (p := fun a b => decode cX4_dissolveRefusal a = .ok b) dm_cX4_dissolveRefusal_0 15 rfl
theorem dm_cX4_matingMove_0 : ([(0, .aload_n 0, 1), (1, .iconst 0, 1), (2, .putfield 44, 3), (5, .iconst 0, 1), (6, .istore_n 1, 1), (7, .iload_n 1, 1), (8, .sipush 4096, 3), (11, .if_icmp .ge 96, 3), (14, .aload_n 0, 1), (15, .invokevirtual 183, 3), (18, .ifCond .eq 89, 3), (21, .aload_n 0, 1), (22, .getfield 13, 3), (25, .iload_n 1, 1), (26, .bipush 64, 2), (28, .idiv, 1), (29, .aload_n 0, 1), (30, .getfield 13, 3), (33, .sipush 128, 3), (36, .iaload, 1), (37, .invokestatic 76, 3), (40, .ifCond .eq 61, 3), (43, .aload_n 0, 1), (44, .aload_n 0, 1), (45, .getfield 13, 3), (48, .iload_n 1, 1), (49, .bipush 64, 2), (51, .idiv, 1), (52, .iload_n 1, 1), (53, .bipush 64, 2), (55, .irem, 1), (56, .aload_n 0, 1), (57, .getfield 16, 3), (60, .invokevirtual 113, 3), (63, .ifCond .ne 38, 3), (66, .aload_n 0, 1), (67, .getfield 16, 3), (70, .aload_n 0, 1), (71, .getfield 16, 3), (74, .sipush 128, 3), (77, .iaload, 1), (78, .invokestatic 106, 3), (81, .ifCond .eq 20, 3), (84, .aload_n 0, 1), (85, .aload_n 0, 1), (86, .getfield 16, 3), (89, .aload_n 0, 1), (90, .getfield 19, 3), (93, .invokevirtual 131, 3), (96, .ifCond .ne 5, 3), (99, .iload_n 1, 1), (100, .ireturn, 1), (101, .iinc 1 1, 3), (104, .goto (-97), 3), (107, .iconst (-1), 1), (108, .ireturn, 1)] : List (Nat × Instr × Nat)).all (fun t => decide (decode cX4_matingMove t.1 = .ok t.2)) = true := by decide +kernel
theorem dX4_matingMove_0 : decode cX4_matingMove 0 = .ok (.aload_n 0, 1) := dq0 (p := fun a b => decode cX4_matingMove a = .ok b) dm_cX4_matingMove_0 0 rfl
theorem dX4_matingMove_1 : decode cX4_matingMove 1 = .ok (.iconst 0, 1) := dq0 (p := fun a b => decode cX4_matingMove a = .ok b) dm_cX4_matingMove_0 1 rfl
theorem dX4_matingMove_2 : decode cX4_matingMove 2 = .ok (.putfield 44, 3) := dq0 (p := fun a b => decode cX4_matingMove a = .ok b) dm_cX4_matingMove_0 2 rfl
theorem dX4_matingMove_5 : decode cX4_matingMove 5 = .ok (.iconst 0, 1) := dq0 (p := fun a b => decode cX4_matingMove a = .ok b) dm_cX4_matingMove_0 3 rfl
theorem dX4_matingMove_6 : decode cX4_matingMove 6 = .ok (.istore_n 1, 1) := dq0 (p := fun a b => decode cX4_matingMove a = .ok b) dm_cX4_matingMove_0 4 rfl
theorem dX4_matingMove_7 : decode cX4_matingMove 7 = .ok (.iload_n 1, 1) := dq0 (p := fun a b => decode cX4_matingMove a = .ok b) dm_cX4_matingMove_0 5 rfl
theorem dX4_matingMove_8 : decode cX4_matingMove 8 = .ok (.sipush 4096, 3) := dq0 (p := fun a b => decode cX4_matingMove a = .ok b) dm_cX4_matingMove_0 6 rfl
theorem dX4_matingMove_11 : decode cX4_matingMove 11 = .ok (.if_icmp .ge 96, 3) := dq0 (p := fun a b => decode cX4_matingMove a = .ok b) dm_cX4_matingMove_0 7 rfl
theorem dX4_matingMove_14 : decode cX4_matingMove 14 = .ok (.aload_n 0, 1) := dq0 (p := fun a b => decode cX4_matingMove a = .ok b) dm_cX4_matingMove_0 8 rfl
theorem dX4_matingMove_15 : decode cX4_matingMove 15 = .ok (.invokevirtual 183, 3) := dq0 (p := fun a b => decode cX4_matingMove a = .ok b) dm_cX4_matingMove_0 9 rfl
theorem dX4_matingMove_18 : decode cX4_matingMove 18 = .ok (.ifCond .eq 89, 3) := dq0 (p := fun a b => decode cX4_matingMove a = .ok b) dm_cX4_matingMove_0 10 rfl
theorem dX4_matingMove_21 : decode cX4_matingMove 21 = .ok (.aload_n 0, 1) := dq0 (p := fun a b => decode cX4_matingMove a = .ok b) dm_cX4_matingMove_0 11 rfl
theorem dX4_matingMove_22 : decode cX4_matingMove 22 = .ok (.getfield 13, 3) := dq0 (p := fun a b => decode cX4_matingMove a = .ok b) dm_cX4_matingMove_0 12 rfl
theorem dX4_matingMove_25 : decode cX4_matingMove 25 = .ok (.iload_n 1, 1) := dq0 (p := fun a b => decode cX4_matingMove a = .ok b) dm_cX4_matingMove_0 13 rfl
theorem dX4_matingMove_26 : decode cX4_matingMove 26 = .ok (.bipush 64, 2) := dq0 (p := fun a b => decode cX4_matingMove a = .ok b) dm_cX4_matingMove_0 14 rfl
theorem dX4_matingMove_28 : decode cX4_matingMove 28 = .ok (.idiv, 1) := dq0 (p := fun a b => decode cX4_matingMove a = .ok b) dm_cX4_matingMove_0 15 rfl
theorem dX4_matingMove_29 : decode cX4_matingMove 29 = .ok (.aload_n 0, 1) := dq0 (p := fun a b => decode cX4_matingMove a = .ok b) dm_cX4_matingMove_0 16 rfl
theorem dX4_matingMove_30 : decode cX4_matingMove 30 = .ok (.getfield 13, 3) := dq0 (p := fun a b => decode cX4_matingMove a = .ok b) dm_cX4_matingMove_0 17 rfl
theorem dX4_matingMove_33 : decode cX4_matingMove 33 = .ok (.sipush 128, 3) := dq0 (p := fun a b => decode cX4_matingMove a = .ok b) dm_cX4_matingMove_0 18 rfl
theorem dX4_matingMove_36 : decode cX4_matingMove 36 = .ok (.iaload, 1) := dq0 (p := fun a b => decode cX4_matingMove a = .ok b) dm_cX4_matingMove_0 19 rfl
theorem dX4_matingMove_37 : decode cX4_matingMove 37 = .ok (.invokestatic 76, 3) := dq0 (p := fun a b => decode cX4_matingMove a = .ok b) dm_cX4_matingMove_0 20 rfl
theorem dX4_matingMove_40 : decode cX4_matingMove 40 = .ok (.ifCond .eq 61, 3) := dq0 (p := fun a b => decode cX4_matingMove a = .ok b) dm_cX4_matingMove_0 21 rfl
theorem dX4_matingMove_43 : decode cX4_matingMove 43 = .ok (.aload_n 0, 1) := dq0 (p := fun a b => decode cX4_matingMove a = .ok b) dm_cX4_matingMove_0 22 rfl
theorem dX4_matingMove_44 : decode cX4_matingMove 44 = .ok (.aload_n 0, 1) := dq0 (p := fun a b => decode cX4_matingMove a = .ok b) dm_cX4_matingMove_0 23 rfl
theorem dX4_matingMove_45 : decode cX4_matingMove 45 = .ok (.getfield 13, 3) := dq0 (p := fun a b => decode cX4_matingMove a = .ok b) dm_cX4_matingMove_0 24 rfl
theorem dX4_matingMove_48 : decode cX4_matingMove 48 = .ok (.iload_n 1, 1) := dq0 (p := fun a b => decode cX4_matingMove a = .ok b) dm_cX4_matingMove_0 25 rfl
theorem dX4_matingMove_49 : decode cX4_matingMove 49 = .ok (.bipush 64, 2) := dq0 (p := fun a b => decode cX4_matingMove a = .ok b) dm_cX4_matingMove_0 26 rfl
theorem dX4_matingMove_51 : decode cX4_matingMove 51 = .ok (.idiv, 1) := dq0 (p := fun a b => decode cX4_matingMove a = .ok b) dm_cX4_matingMove_0 27 rfl
theorem dX4_matingMove_52 : decode cX4_matingMove 52 = .ok (.iload_n 1, 1) := dq0 (p := fun a b => decode cX4_matingMove a = .ok b) dm_cX4_matingMove_0 28 rfl
theorem dX4_matingMove_53 : decode cX4_matingMove 53 = .ok (.bipush 64, 2) := dq0 (p := fun a b => decode cX4_matingMove a = .ok b) dm_cX4_matingMove_0 29 rfl
theorem dX4_matingMove_55 : decode cX4_matingMove 55 = .ok (.irem, 1) := dq0 (p := fun a b => decode cX4_matingMove a = .ok b) dm_cX4_matingMove_0 30 rfl
theorem dX4_matingMove_56 : decode cX4_matingMove 56 = .ok (.aload_n 0, 1) := dq0 (p := fun a b => decode cX4_matingMove a = .ok b) dm_cX4_matingMove_0 31 rfl
theorem dX4_matingMove_57 : decode cX4_matingMove 57 = .ok (.getfield 16, 3) := dq0 (p := fun a b => decode cX4_matingMove a = .ok b) dm_cX4_matingMove_0 32 rfl
theorem dX4_matingMove_60 : decode cX4_matingMove 60 = .ok (.invokevirtual 113, 3) := dq0 (p := fun a b => decode cX4_matingMove a = .ok b) dm_cX4_matingMove_0 33 rfl
theorem dX4_matingMove_63 : decode cX4_matingMove 63 = .ok (.ifCond .ne 38, 3) := dq0 (p := fun a b => decode cX4_matingMove a = .ok b) dm_cX4_matingMove_0 34 rfl
theorem dX4_matingMove_66 : decode cX4_matingMove 66 = .ok (.aload_n 0, 1) := dq0 (p := fun a b => decode cX4_matingMove a = .ok b) dm_cX4_matingMove_0 35 rfl
theorem dX4_matingMove_67 : decode cX4_matingMove 67 = .ok (.getfield 16, 3) := dq0 (p := fun a b => decode cX4_matingMove a = .ok b) dm_cX4_matingMove_0 36 rfl
theorem dX4_matingMove_70 : decode cX4_matingMove 70 = .ok (.aload_n 0, 1) := dq0 (p := fun a b => decode cX4_matingMove a = .ok b) dm_cX4_matingMove_0 37 rfl
theorem dX4_matingMove_71 : decode cX4_matingMove 71 = .ok (.getfield 16, 3) := dq0 (p := fun a b => decode cX4_matingMove a = .ok b) dm_cX4_matingMove_0 38 rfl
theorem dX4_matingMove_74 : decode cX4_matingMove 74 = .ok (.sipush 128, 3) := dq0 (p := fun a b => decode cX4_matingMove a = .ok b) dm_cX4_matingMove_0 39 rfl
theorem dX4_matingMove_77 : decode cX4_matingMove 77 = .ok (.iaload, 1) := dq0 (p := fun a b => decode cX4_matingMove a = .ok b) dm_cX4_matingMove_0 40 rfl
theorem dX4_matingMove_78 : decode cX4_matingMove 78 = .ok (.invokestatic 106, 3) := dq0 (p := fun a b => decode cX4_matingMove a = .ok b) dm_cX4_matingMove_0 41 rfl
theorem dX4_matingMove_81 : decode cX4_matingMove 81 = .ok (.ifCond .eq 20, 3) := dq0 (p := fun a b => decode cX4_matingMove a = .ok b) dm_cX4_matingMove_0 42 rfl
theorem dX4_matingMove_84 : decode cX4_matingMove 84 = .ok (.aload_n 0, 1) := dq0 (p := fun a b => decode cX4_matingMove a = .ok b) dm_cX4_matingMove_0 43 rfl
theorem dX4_matingMove_85 : decode cX4_matingMove 85 = .ok (.aload_n 0, 1) := dq0 (p := fun a b => decode cX4_matingMove a = .ok b) dm_cX4_matingMove_0 44 rfl
theorem dX4_matingMove_86 : decode cX4_matingMove 86 = .ok (.getfield 16, 3) := dq0 (p := fun a b => decode cX4_matingMove a = .ok b) dm_cX4_matingMove_0 45 rfl
theorem dX4_matingMove_89 : decode cX4_matingMove 89 = .ok (.aload_n 0, 1) := dq0 (p := fun a b => decode cX4_matingMove a = .ok b) dm_cX4_matingMove_0 46 rfl
theorem dX4_matingMove_90 : decode cX4_matingMove 90 = .ok (.getfield 19, 3) := dq0 (p := fun a b => decode cX4_matingMove a = .ok b) dm_cX4_matingMove_0 47 rfl
theorem dX4_matingMove_93 : decode cX4_matingMove 93 = .ok (.invokevirtual 131, 3) := dq0 (p := fun a b => decode cX4_matingMove a = .ok b) dm_cX4_matingMove_0 48 rfl
theorem dX4_matingMove_96 : decode cX4_matingMove 96 = .ok (.ifCond .ne 5, 3) := dq0 (p := fun a b => decode cX4_matingMove a = .ok b) dm_cX4_matingMove_0 49 rfl
theorem dX4_matingMove_99 : decode cX4_matingMove 99 = .ok (.iload_n 1, 1) := dq0 (p := fun a b => decode cX4_matingMove a = .ok b) dm_cX4_matingMove_0 50 rfl
theorem dX4_matingMove_100 : decode cX4_matingMove 100 = .ok (.ireturn, 1) := dq0 (p := fun a b => decode cX4_matingMove a = .ok b) dm_cX4_matingMove_0 51 rfl
theorem dX4_matingMove_101 : decode cX4_matingMove 101 = .ok (.iinc 1 1, 3) := dq0 (p := fun a b => decode cX4_matingMove a = .ok b) dm_cX4_matingMove_0 52 rfl
theorem dX4_matingMove_104 : decode cX4_matingMove 104 = .ok (.goto (-97), 3) := dq0 (p := fun a b => decode cX4_matingMove a = .ok b) dm_cX4_matingMove_0 53 rfl
theorem dX4_matingMove_107 : decode cX4_matingMove 107 = .ok (.iconst (-1), 1) := dq0 (p := fun a b => decode cX4_matingMove a = .ok b) dm_cX4_matingMove_0 54 rfl
theorem dX4_matingMove_108 : decode cX4_matingMove 108 = .ok (.ireturn, 1) := dq0 (p := fun a b => decode cX4_matingMove a = .ok b) dm_cX4_matingMove_0 55 rfl
theorem dm_cX4_countSequences_0 : ([(0, .aload_n 0, 1), (1, .iload_n 1, 1), (2, .iconst 1, 1), (3, .if_icmp .eq 8, 3), (6, .iload_n 1, 1), (7, .iconst 2, 1), (8, .if_icmp .ne 7, 3), (11, .iconst 1, 1), (12, .goto 4, 3), (15, .iconst 0, 1), (16, .invokevirtual 163, 3), (19, .ifCond .ne 5, 3), (22, .iconst 0, 1), (23, .ireturn, 1), (24, .aload_n 0, 1), (25, .getfield 153, 3), (28, .ifCond .ne 8, 3), (31, .iload_n 1, 1), (32, .iconst 1, 1), (33, .if_icmp .ne 27, 3), (36, .aload_n 0, 1), (37, .getfield 153, 3), (40, .ifCond .eq 7, 3), (43, .iconst 0, 1), (44, .goto 15, 3), (47, .aload_n 0, 1), (48, .aload_n 0, 1), (49, .getfield 13, 3), (52, .aload_n 0, 1), (53, .getfield 16, 3), (56, .invokevirtual 186, 3), (59, .ireturn, 1), (60, .iconst 0, 1), (61, .istore_n 2, 1), (62, .iconst 0, 1), (63, .istore_n 3, 1), (64, .iload_n 3, 1), (65, .sipush 4096, 3), (68, .if_icmp .ge 69, 3), (71, .aload_n 0, 1), (72, .getfield 13, 3), (75, .iload_n 3, 1), (76, .bipush 64, 2), (78, .idiv, 1), (79, .aload_n 0, 1), (80, .getfield 13, 3), (83, .sipush 128, 3), (86, .iaload, 1), (87, .invokestatic 76, 3), (90, .ifCond .eq 41, 3), (93, .aload_n 0, 1), (94, .aload_n 0, 1), (95, .getfield 13, 3), (98, .iload_n 3, 1), (99, .bipush 64, 2), (101, .idiv, 1), (102, .iload_n 3, 1), (103, .bipush 64, 2), (105, .irem, 1), (106, .aload_n 0, 1)] : List (Nat × Instr × Nat)).all (fun t => decide (decode cX4_countSequences t.1 = .ok t.2)) = true := by decide +kernel
theorem dX4_countSequences_0 : decode cX4_countSequences 0 = .ok (.aload_n 0, 1) := dq0 (p := fun a b => decode cX4_countSequences a = .ok b) dm_cX4_countSequences_0 0 rfl
theorem dX4_countSequences_1 : decode cX4_countSequences 1 = .ok (.iload_n 1, 1) := dq0 (p := fun a b => decode cX4_countSequences a = .ok b) dm_cX4_countSequences_0 1 rfl
theorem dX4_countSequences_2 : decode cX4_countSequences 2 = .ok (.iconst 1, 1) := dq0 (p := fun a b => decode cX4_countSequences a = .ok b) dm_cX4_countSequences_0 2 rfl
theorem dX4_countSequences_3 : decode cX4_countSequences 3 = .ok (.if_icmp .eq 8, 3) := dq0 (p := fun a b => decode cX4_countSequences a = .ok b) dm_cX4_countSequences_0 3 rfl
theorem dX4_countSequences_6 : decode cX4_countSequences 6 = .ok (.iload_n 1, 1) := dq0 (p := fun a b => decode cX4_countSequences a = .ok b) dm_cX4_countSequences_0 4 rfl
theorem dX4_countSequences_7 : decode cX4_countSequences 7 = .ok (.iconst 2, 1) := dq0 (p := fun a b => decode cX4_countSequences a = .ok b) dm_cX4_countSequences_0 5 rfl
theorem dX4_countSequences_8 : decode cX4_countSequences 8 = .ok (.if_icmp .ne 7, 3) := dq0 (p := fun a b => decode cX4_countSequences a = .ok b) dm_cX4_countSequences_0 6 rfl
theorem dX4_countSequences_11 : decode cX4_countSequences 11 = .ok (.iconst 1, 1) := dq0 (p := fun a b => decode cX4_countSequences a = .ok b) dm_cX4_countSequences_0 7 rfl
theorem dX4_countSequences_12 : decode cX4_countSequences 12 = .ok (.goto 4, 3) := dq0 (p := fun a b => decode cX4_countSequences a = .ok b) dm_cX4_countSequences_0 8 rfl
theorem dX4_countSequences_15 : decode cX4_countSequences 15 = .ok (.iconst 0, 1) := dq0 (p := fun a b => decode cX4_countSequences a = .ok b) dm_cX4_countSequences_0 9 rfl
theorem dX4_countSequences_16 : decode cX4_countSequences 16 = .ok (.invokevirtual 163, 3) := dq0 (p := fun a b => decode cX4_countSequences a = .ok b) dm_cX4_countSequences_0 10 rfl
theorem dX4_countSequences_19 : decode cX4_countSequences 19 = .ok (.ifCond .ne 5, 3) := dq0 (p := fun a b => decode cX4_countSequences a = .ok b) dm_cX4_countSequences_0 11 rfl
theorem dX4_countSequences_22 : decode cX4_countSequences 22 = .ok (.iconst 0, 1) := dq0 (p := fun a b => decode cX4_countSequences a = .ok b) dm_cX4_countSequences_0 12 rfl
theorem dX4_countSequences_23 : decode cX4_countSequences 23 = .ok (.ireturn, 1) := dq0 (p := fun a b => decode cX4_countSequences a = .ok b) dm_cX4_countSequences_0 13 rfl
theorem dX4_countSequences_24 : decode cX4_countSequences 24 = .ok (.aload_n 0, 1) := dq0 (p := fun a b => decode cX4_countSequences a = .ok b) dm_cX4_countSequences_0 14 rfl
theorem dX4_countSequences_25 : decode cX4_countSequences 25 = .ok (.getfield 153, 3) := dq0 (p := fun a b => decode cX4_countSequences a = .ok b) dm_cX4_countSequences_0 15 rfl
theorem dX4_countSequences_28 : decode cX4_countSequences 28 = .ok (.ifCond .ne 8, 3) := dq0 (p := fun a b => decode cX4_countSequences a = .ok b) dm_cX4_countSequences_0 16 rfl
theorem dX4_countSequences_31 : decode cX4_countSequences 31 = .ok (.iload_n 1, 1) := dq0 (p := fun a b => decode cX4_countSequences a = .ok b) dm_cX4_countSequences_0 17 rfl
theorem dX4_countSequences_32 : decode cX4_countSequences 32 = .ok (.iconst 1, 1) := dq0 (p := fun a b => decode cX4_countSequences a = .ok b) dm_cX4_countSequences_0 18 rfl
theorem dX4_countSequences_33 : decode cX4_countSequences 33 = .ok (.if_icmp .ne 27, 3) := dq0 (p := fun a b => decode cX4_countSequences a = .ok b) dm_cX4_countSequences_0 19 rfl
theorem dX4_countSequences_36 : decode cX4_countSequences 36 = .ok (.aload_n 0, 1) := dq0 (p := fun a b => decode cX4_countSequences a = .ok b) dm_cX4_countSequences_0 20 rfl
theorem dX4_countSequences_37 : decode cX4_countSequences 37 = .ok (.getfield 153, 3) := dq0 (p := fun a b => decode cX4_countSequences a = .ok b) dm_cX4_countSequences_0 21 rfl
theorem dX4_countSequences_40 : decode cX4_countSequences 40 = .ok (.ifCond .eq 7, 3) := dq0 (p := fun a b => decode cX4_countSequences a = .ok b) dm_cX4_countSequences_0 22 rfl
theorem dX4_countSequences_43 : decode cX4_countSequences 43 = .ok (.iconst 0, 1) := dq0 (p := fun a b => decode cX4_countSequences a = .ok b) dm_cX4_countSequences_0 23 rfl
theorem dX4_countSequences_44 : decode cX4_countSequences 44 = .ok (.goto 15, 3) := dq0 (p := fun a b => decode cX4_countSequences a = .ok b) dm_cX4_countSequences_0 24 rfl
theorem dX4_countSequences_47 : decode cX4_countSequences 47 = .ok (.aload_n 0, 1) := dq0 (p := fun a b => decode cX4_countSequences a = .ok b) dm_cX4_countSequences_0 25 rfl
theorem dX4_countSequences_48 : decode cX4_countSequences 48 = .ok (.aload_n 0, 1) := dq0 (p := fun a b => decode cX4_countSequences a = .ok b) dm_cX4_countSequences_0 26 rfl
theorem dX4_countSequences_49 : decode cX4_countSequences 49 = .ok (.getfield 13, 3) := dq0 (p := fun a b => decode cX4_countSequences a = .ok b) dm_cX4_countSequences_0 27 rfl
theorem dX4_countSequences_52 : decode cX4_countSequences 52 = .ok (.aload_n 0, 1) := dq0 (p := fun a b => decode cX4_countSequences a = .ok b) dm_cX4_countSequences_0 28 rfl
theorem dX4_countSequences_53 : decode cX4_countSequences 53 = .ok (.getfield 16, 3) := dq0 (p := fun a b => decode cX4_countSequences a = .ok b) dm_cX4_countSequences_0 29 rfl
theorem dX4_countSequences_56 : decode cX4_countSequences 56 = .ok (.invokevirtual 186, 3) := dq0 (p := fun a b => decode cX4_countSequences a = .ok b) dm_cX4_countSequences_0 30 rfl
theorem dX4_countSequences_59 : decode cX4_countSequences 59 = .ok (.ireturn, 1) := dq0 (p := fun a b => decode cX4_countSequences a = .ok b) dm_cX4_countSequences_0 31 rfl
theorem dX4_countSequences_60 : decode cX4_countSequences 60 = .ok (.iconst 0, 1) := dq0 (p := fun a b => decode cX4_countSequences a = .ok b) dm_cX4_countSequences_0 32 rfl
theorem dX4_countSequences_61 : decode cX4_countSequences 61 = .ok (.istore_n 2, 1) := dq0 (p := fun a b => decode cX4_countSequences a = .ok b) dm_cX4_countSequences_0 33 rfl
theorem dX4_countSequences_62 : decode cX4_countSequences 62 = .ok (.iconst 0, 1) := dq0 (p := fun a b => decode cX4_countSequences a = .ok b) dm_cX4_countSequences_0 34 rfl
theorem dX4_countSequences_63 : decode cX4_countSequences 63 = .ok (.istore_n 3, 1) := dq0 (p := fun a b => decode cX4_countSequences a = .ok b) dm_cX4_countSequences_0 35 rfl
theorem dX4_countSequences_64 : decode cX4_countSequences 64 = .ok (.iload_n 3, 1) := dq0 (p := fun a b => decode cX4_countSequences a = .ok b) dm_cX4_countSequences_0 36 rfl
theorem dX4_countSequences_65 : decode cX4_countSequences 65 = .ok (.sipush 4096, 3) := dq0 (p := fun a b => decode cX4_countSequences a = .ok b) dm_cX4_countSequences_0 37 rfl
theorem dX4_countSequences_68 : decode cX4_countSequences 68 = .ok (.if_icmp .ge 69, 3) := dq0 (p := fun a b => decode cX4_countSequences a = .ok b) dm_cX4_countSequences_0 38 rfl
theorem dX4_countSequences_71 : decode cX4_countSequences 71 = .ok (.aload_n 0, 1) := dq0 (p := fun a b => decode cX4_countSequences a = .ok b) dm_cX4_countSequences_0 39 rfl
theorem dX4_countSequences_72 : decode cX4_countSequences 72 = .ok (.getfield 13, 3) := dq0 (p := fun a b => decode cX4_countSequences a = .ok b) dm_cX4_countSequences_0 40 rfl
theorem dX4_countSequences_75 : decode cX4_countSequences 75 = .ok (.iload_n 3, 1) := dq0 (p := fun a b => decode cX4_countSequences a = .ok b) dm_cX4_countSequences_0 41 rfl
theorem dX4_countSequences_76 : decode cX4_countSequences 76 = .ok (.bipush 64, 2) := dq0 (p := fun a b => decode cX4_countSequences a = .ok b) dm_cX4_countSequences_0 42 rfl
theorem dX4_countSequences_78 : decode cX4_countSequences 78 = .ok (.idiv, 1) := dq0 (p := fun a b => decode cX4_countSequences a = .ok b) dm_cX4_countSequences_0 43 rfl
theorem dX4_countSequences_79 : decode cX4_countSequences 79 = .ok (.aload_n 0, 1) := dq0 (p := fun a b => decode cX4_countSequences a = .ok b) dm_cX4_countSequences_0 44 rfl
theorem dX4_countSequences_80 : decode cX4_countSequences 80 = .ok (.getfield 13, 3) := dq0 (p := fun a b => decode cX4_countSequences a = .ok b) dm_cX4_countSequences_0 45 rfl
theorem dX4_countSequences_83 : decode cX4_countSequences 83 = .ok (.sipush 128, 3) := dq0 (p := fun a b => decode cX4_countSequences a = .ok b) dm_cX4_countSequences_0 46 rfl
theorem dX4_countSequences_86 : decode cX4_countSequences 86 = .ok (.iaload, 1) := dq0 (p := fun a b => decode cX4_countSequences a = .ok b) dm_cX4_countSequences_0 47 rfl
theorem dX4_countSequences_87 : decode cX4_countSequences 87 = .ok (.invokestatic 76, 3) := dq0 (p := fun a b => decode cX4_countSequences a = .ok b) dm_cX4_countSequences_0 48 rfl
theorem dX4_countSequences_90 : decode cX4_countSequences 90 = .ok (.ifCond .eq 41, 3) := dq0 (p := fun a b => decode cX4_countSequences a = .ok b) dm_cX4_countSequences_0 49 rfl
theorem dX4_countSequences_93 : decode cX4_countSequences 93 = .ok (.aload_n 0, 1) := dq0 (p := fun a b => decode cX4_countSequences a = .ok b) dm_cX4_countSequences_0 50 rfl
theorem dX4_countSequences_94 : decode cX4_countSequences 94 = .ok (.aload_n 0, 1) := dq0 (p := fun a b => decode cX4_countSequences a = .ok b) dm_cX4_countSequences_0 51 rfl
theorem dX4_countSequences_95 : decode cX4_countSequences 95 = .ok (.getfield 13, 3) := dq0 (p := fun a b => decode cX4_countSequences a = .ok b) dm_cX4_countSequences_0 52 rfl
theorem dX4_countSequences_98 : decode cX4_countSequences 98 = .ok (.iload_n 3, 1) := dq0 (p := fun a b => decode cX4_countSequences a = .ok b) dm_cX4_countSequences_0 53 rfl
theorem dX4_countSequences_99 : decode cX4_countSequences 99 = .ok (.bipush 64, 2) := dq0 (p := fun a b => decode cX4_countSequences a = .ok b) dm_cX4_countSequences_0 54 rfl
theorem dX4_countSequences_101 : decode cX4_countSequences 101 = .ok (.idiv, 1) := dq0 (p := fun a b => decode cX4_countSequences a = .ok b) dm_cX4_countSequences_0 55 rfl
theorem dX4_countSequences_102 : decode cX4_countSequences 102 = .ok (.iload_n 3, 1) := dq0 (p := fun a b => decode cX4_countSequences a = .ok b) dm_cX4_countSequences_0 56 rfl
theorem dX4_countSequences_103 : decode cX4_countSequences 103 = .ok (.bipush 64, 2) := dq0 (p := fun a b => decode cX4_countSequences a = .ok b) dm_cX4_countSequences_0 57 rfl
theorem dX4_countSequences_105 : decode cX4_countSequences 105 = .ok (.irem, 1) := dq0 (p := fun a b => decode cX4_countSequences a = .ok b) dm_cX4_countSequences_0 58 rfl
theorem dX4_countSequences_106 : decode cX4_countSequences 106 = .ok (.aload_n 0, 1) := dq0 (p := fun a b => decode cX4_countSequences a = .ok b) dm_cX4_countSequences_0 59 rfl
theorem dm_cX4_countSequences_1 : ([(107, .getfield 19, 3), (110, .invokevirtual 113, 3), (113, .ifCond .ne 18, 3), (116, .iload_n 2, 1), (117, .aload_n 0, 1), (118, .aload_n 0, 1), (119, .getfield 19, 3), (122, .aload_n 0, 1), (123, .getfield 22, 3), (126, .invokevirtual 186, 3), (129, .iadd, 1), (130, .istore_n 2, 1), (131, .iinc 3 1, 3), (134, .goto (-70), 3), (137, .iload_n 2, 1), (138, .ireturn, 1)] : List (Nat × Instr × Nat)).all (fun t => decide (decode cX4_countSequences t.1 = .ok t.2)) = true := by decide +kernel
theorem dX4_countSequences_107 : decode cX4_countSequences 107 = .ok (.getfield 19, 3) := dq0 (p := fun a b => decode cX4_countSequences a = .ok b) dm_cX4_countSequences_1 0 rfl
theorem dX4_countSequences_110 : decode cX4_countSequences 110 = .ok (.invokevirtual 113, 3) := dq0 (p := fun a b => decode cX4_countSequences a = .ok b) dm_cX4_countSequences_1 1 rfl
theorem dX4_countSequences_113 : decode cX4_countSequences 113 = .ok (.ifCond .ne 18, 3) := dq0 (p := fun a b => decode cX4_countSequences a = .ok b) dm_cX4_countSequences_1 2 rfl
theorem dX4_countSequences_116 : decode cX4_countSequences 116 = .ok (.iload_n 2, 1) := dq0 (p := fun a b => decode cX4_countSequences a = .ok b) dm_cX4_countSequences_1 3 rfl
theorem dX4_countSequences_117 : decode cX4_countSequences 117 = .ok (.aload_n 0, 1) := dq0 (p := fun a b => decode cX4_countSequences a = .ok b) dm_cX4_countSequences_1 4 rfl
theorem dX4_countSequences_118 : decode cX4_countSequences 118 = .ok (.aload_n 0, 1) := dq0 (p := fun a b => decode cX4_countSequences a = .ok b) dm_cX4_countSequences_1 5 rfl
theorem dX4_countSequences_119 : decode cX4_countSequences 119 = .ok (.getfield 19, 3) := dq0 (p := fun a b => decode cX4_countSequences a = .ok b) dm_cX4_countSequences_1 6 rfl
theorem dX4_countSequences_122 : decode cX4_countSequences 122 = .ok (.aload_n 0, 1) := dq0 (p := fun a b => decode cX4_countSequences a = .ok b) dm_cX4_countSequences_1 7 rfl
theorem dX4_countSequences_123 : decode cX4_countSequences 123 = .ok (.getfield 22, 3) := dq0 (p := fun a b => decode cX4_countSequences a = .ok b) dm_cX4_countSequences_1 8 rfl
theorem dX4_countSequences_126 : decode cX4_countSequences 126 = .ok (.invokevirtual 186, 3) := dq0 (p := fun a b => decode cX4_countSequences a = .ok b) dm_cX4_countSequences_1 9 rfl
theorem dX4_countSequences_129 : decode cX4_countSequences 129 = .ok (.iadd, 1) := dq0 (p := fun a b => decode cX4_countSequences a = .ok b) dm_cX4_countSequences_1 10 rfl
theorem dX4_countSequences_130 : decode cX4_countSequences 130 = .ok (.istore_n 2, 1) := dq0 (p := fun a b => decode cX4_countSequences a = .ok b) dm_cX4_countSequences_1 11 rfl
theorem dX4_countSequences_131 : decode cX4_countSequences 131 = .ok (.iinc 3 1, 3) := dq0 (p := fun a b => decode cX4_countSequences a = .ok b) dm_cX4_countSequences_1 12 rfl
theorem dX4_countSequences_134 : decode cX4_countSequences 134 = .ok (.goto (-70), 3) := dq0 (p := fun a b => decode cX4_countSequences a = .ok b) dm_cX4_countSequences_1 13 rfl
theorem dX4_countSequences_137 : decode cX4_countSequences 137 = .ok (.iload_n 2, 1) := dq0 (p := fun a b => decode cX4_countSequences a = .ok b) dm_cX4_countSequences_1 14 rfl
theorem dX4_countSequences_138 : decode cX4_countSequences 138 = .ok (.ireturn, 1) := dq0 (p := fun a b => decode cX4_countSequences a = .ok b) dm_cX4_countSequences_1 15 rfl
theorem dm_cX4_move_0 : ([(0, .aload_n 0, 1), (1, .iload_n 1, 1), (2, .iload_n 2, 1), (3, .invokevirtual 190, 3), (6, .ifCond .ne 5, 3), (9, .iconst 0, 1), (10, .ireturn, 1), (11, .aload_n 0, 1), (12, .invokevirtual 183, 3), (15, .ifCond .eq 20, 3), (18, .aload_n 0, 1), (19, .aload_n 0, 1), (20, .getfield 13, 3), (23, .iload_n 1, 1), (24, .iload_n 2, 1), (25, .aload_n 0, 1), (26, .getfield 16, 3), (29, .invokevirtual 113, 3), (32, .ifCond .eq 9, 3), (35, .aload_n 0, 1), (36, .iconst 2, 1), (37, .invokevirtual 167, 3), (40, .ireturn, 1), (41, .aload_n 0, 1), (42, .getfield 13, 3), (45, .iload_n 1, 1), (46, .iload_n 2, 1), (47, .invokestatic 102, 3), (50, .istore_n 3, 1), (51, .aload_n 0, 1), (52, .dup, 1), (53, .getfield 124, 3), (56, .iconst 1, 1), (57, .iadd, 1), (58, .putfield 124, 3), (61, .aload_n 0, 1), (62, .invokevirtual 157, 3), (65, .iload_n 3, 1), (66, .ireturn, 1)] : List (Nat × Instr × Nat)).all (fun t => decide (decode cX4_move t.1 = .ok t.2)) = true := by decide +kernel
theorem dX4_move_0 : decode cX4_move 0 = .ok (.aload_n 0, 1) := dq0 (p := fun a b => decode cX4_move a = .ok b) dm_cX4_move_0 0 rfl
theorem dX4_move_1 : decode cX4_move 1 = .ok (.iload_n 1, 1) := dq0 (p := fun a b => decode cX4_move a = .ok b) dm_cX4_move_0 1 rfl
theorem dX4_move_2 : decode cX4_move 2 = .ok (.iload_n 2, 1) := dq0 (p := fun a b => decode cX4_move a = .ok b) dm_cX4_move_0 2 rfl
theorem dX4_move_3 : decode cX4_move 3 = .ok (.invokevirtual 190, 3) := dq0 (p := fun a b => decode cX4_move a = .ok b) dm_cX4_move_0 3 rfl
theorem dX4_move_6 : decode cX4_move 6 = .ok (.ifCond .ne 5, 3) := dq0 (p := fun a b => decode cX4_move a = .ok b) dm_cX4_move_0 4 rfl
theorem dX4_move_9 : decode cX4_move 9 = .ok (.iconst 0, 1) := dq0 (p := fun a b => decode cX4_move a = .ok b) dm_cX4_move_0 5 rfl
theorem dX4_move_10 : decode cX4_move 10 = .ok (.ireturn, 1) := dq0 (p := fun a b => decode cX4_move a = .ok b) dm_cX4_move_0 6 rfl
theorem dX4_move_11 : decode cX4_move 11 = .ok (.aload_n 0, 1) := dq0 (p := fun a b => decode cX4_move a = .ok b) dm_cX4_move_0 7 rfl
theorem dX4_move_12 : decode cX4_move 12 = .ok (.invokevirtual 183, 3) := dq0 (p := fun a b => decode cX4_move a = .ok b) dm_cX4_move_0 8 rfl
theorem dX4_move_15 : decode cX4_move 15 = .ok (.ifCond .eq 20, 3) := dq0 (p := fun a b => decode cX4_move a = .ok b) dm_cX4_move_0 9 rfl
theorem dX4_move_18 : decode cX4_move 18 = .ok (.aload_n 0, 1) := dq0 (p := fun a b => decode cX4_move a = .ok b) dm_cX4_move_0 10 rfl
theorem dX4_move_19 : decode cX4_move 19 = .ok (.aload_n 0, 1) := dq0 (p := fun a b => decode cX4_move a = .ok b) dm_cX4_move_0 11 rfl
theorem dX4_move_20 : decode cX4_move 20 = .ok (.getfield 13, 3) := dq0 (p := fun a b => decode cX4_move a = .ok b) dm_cX4_move_0 12 rfl
theorem dX4_move_23 : decode cX4_move 23 = .ok (.iload_n 1, 1) := dq0 (p := fun a b => decode cX4_move a = .ok b) dm_cX4_move_0 13 rfl
theorem dX4_move_24 : decode cX4_move 24 = .ok (.iload_n 2, 1) := dq0 (p := fun a b => decode cX4_move a = .ok b) dm_cX4_move_0 14 rfl
theorem dX4_move_25 : decode cX4_move 25 = .ok (.aload_n 0, 1) := dq0 (p := fun a b => decode cX4_move a = .ok b) dm_cX4_move_0 15 rfl
theorem dX4_move_26 : decode cX4_move 26 = .ok (.getfield 16, 3) := dq0 (p := fun a b => decode cX4_move a = .ok b) dm_cX4_move_0 16 rfl
theorem dX4_move_29 : decode cX4_move 29 = .ok (.invokevirtual 113, 3) := dq0 (p := fun a b => decode cX4_move a = .ok b) dm_cX4_move_0 17 rfl
theorem dX4_move_32 : decode cX4_move 32 = .ok (.ifCond .eq 9, 3) := dq0 (p := fun a b => decode cX4_move a = .ok b) dm_cX4_move_0 18 rfl
theorem dX4_move_35 : decode cX4_move 35 = .ok (.aload_n 0, 1) := dq0 (p := fun a b => decode cX4_move a = .ok b) dm_cX4_move_0 19 rfl
theorem dX4_move_36 : decode cX4_move 36 = .ok (.iconst 2, 1) := dq0 (p := fun a b => decode cX4_move a = .ok b) dm_cX4_move_0 20 rfl
theorem dX4_move_37 : decode cX4_move 37 = .ok (.invokevirtual 167, 3) := dq0 (p := fun a b => decode cX4_move a = .ok b) dm_cX4_move_0 21 rfl
theorem dX4_move_40 : decode cX4_move 40 = .ok (.ireturn, 1) := dq0 (p := fun a b => decode cX4_move a = .ok b) dm_cX4_move_0 22 rfl
theorem dX4_move_41 : decode cX4_move 41 = .ok (.aload_n 0, 1) := dq0 (p := fun a b => decode cX4_move a = .ok b) dm_cX4_move_0 23 rfl
theorem dX4_move_42 : decode cX4_move 42 = .ok (.getfield 13, 3) := dq0 (p := fun a b => decode cX4_move a = .ok b) dm_cX4_move_0 24 rfl
theorem dX4_move_45 : decode cX4_move 45 = .ok (.iload_n 1, 1) := dq0 (p := fun a b => decode cX4_move a = .ok b) dm_cX4_move_0 25 rfl
theorem dX4_move_46 : decode cX4_move 46 = .ok (.iload_n 2, 1) := dq0 (p := fun a b => decode cX4_move a = .ok b) dm_cX4_move_0 26 rfl
theorem dX4_move_47 : decode cX4_move 47 = .ok (.invokestatic 102, 3) := dq0 (p := fun a b => decode cX4_move a = .ok b) dm_cX4_move_0 27 rfl
theorem dX4_move_50 : decode cX4_move 50 = .ok (.istore_n 3, 1) := dq0 (p := fun a b => decode cX4_move a = .ok b) dm_cX4_move_0 28 rfl
theorem dX4_move_51 : decode cX4_move 51 = .ok (.aload_n 0, 1) := dq0 (p := fun a b => decode cX4_move a = .ok b) dm_cX4_move_0 29 rfl
theorem dX4_move_52 : decode cX4_move 52 = .ok (.dup, 1) := dq0 (p := fun a b => decode cX4_move a = .ok b) dm_cX4_move_0 30 rfl
theorem dX4_move_53 : decode cX4_move 53 = .ok (.getfield 124, 3) := dq0 (p := fun a b => decode cX4_move a = .ok b) dm_cX4_move_0 31 rfl
theorem dX4_move_56 : decode cX4_move 56 = .ok (.iconst 1, 1) := dq0 (p := fun a b => decode cX4_move a = .ok b) dm_cX4_move_0 32 rfl
theorem dX4_move_57 : decode cX4_move 57 = .ok (.iadd, 1) := dq0 (p := fun a b => decode cX4_move a = .ok b) dm_cX4_move_0 33 rfl
theorem dX4_move_58 : decode cX4_move 58 = .ok (.putfield 124, 3) := dq0 (p := fun a b => decode cX4_move a = .ok b) dm_cX4_move_0 34 rfl
theorem dX4_move_61 : decode cX4_move 61 = .ok (.aload_n 0, 1) := dq0 (p := fun a b => decode cX4_move a = .ok b) dm_cX4_move_0 35 rfl
theorem dX4_move_62 : decode cX4_move 62 = .ok (.invokevirtual 157, 3) := dq0 (p := fun a b => decode cX4_move a = .ok b) dm_cX4_move_0 36 rfl
theorem dX4_move_65 : decode cX4_move 65 = .ok (.iload_n 3, 1) := dq0 (p := fun a b => decode cX4_move a = .ok b) dm_cX4_move_0 37 rfl
theorem dX4_move_66 : decode cX4_move 66 = .ok (.ireturn, 1) := dq0 (p := fun a b => decode cX4_move a = .ok b) dm_cX4_move_0 38 rfl
theorem dm_cX4_endCalmly_0 : ([(0, .aload_n 0, 1), (1, .getfield 13, 3), (4, .sipush 129, 3), (7, .dup2, 1), (8, .iaload, 1), (9, .iconst 1, 1), (10, .iadd, 1), (11, .iastore, 1), (12, .aload_n 0, 1), (13, .getfield 13, 3), (16, .sipush 128, 3), (19, .bipush 8, 2), (21, .aload_n 0, 1), (22, .getfield 13, 3), (25, .sipush 128, 3), (28, .iaload, 1), (29, .isub, 1), (30, .iastore, 1), (31, .aload_n 0, 1), (32, .dup, 1), (33, .getfield 124, 3), (36, .iconst 1, 1), (37, .iadd, 1), (38, .putfield 124, 3), (41, .aload_n 0, 1), (42, .invokevirtual 157, 3), (45, .return_, 1)] : List (Nat × Instr × Nat)).all (fun t => decide (decode cX4_endCalmly t.1 = .ok t.2)) = true := by decide +kernel
theorem dX4_endCalmly_0 : decode cX4_endCalmly 0 = .ok (.aload_n 0, 1) := dq0 (p := fun a b => decode cX4_endCalmly a = .ok b) dm_cX4_endCalmly_0 0 rfl
theorem dX4_endCalmly_1 : decode cX4_endCalmly 1 = .ok (.getfield 13, 3) := dq0 (p := fun a b => decode cX4_endCalmly a = .ok b) dm_cX4_endCalmly_0 1 rfl
theorem dX4_endCalmly_4 : decode cX4_endCalmly 4 = .ok (.sipush 129, 3) := dq0 (p := fun a b => decode cX4_endCalmly a = .ok b) dm_cX4_endCalmly_0 2 rfl
theorem dX4_endCalmly_7 : decode cX4_endCalmly 7 = .ok (.dup2, 1) := dq0 (p := fun a b => decode cX4_endCalmly a = .ok b) dm_cX4_endCalmly_0 3 rfl
theorem dX4_endCalmly_8 : decode cX4_endCalmly 8 = .ok (.iaload, 1) := dq0 (p := fun a b => decode cX4_endCalmly a = .ok b) dm_cX4_endCalmly_0 4 rfl
theorem dX4_endCalmly_9 : decode cX4_endCalmly 9 = .ok (.iconst 1, 1) := dq0 (p := fun a b => decode cX4_endCalmly a = .ok b) dm_cX4_endCalmly_0 5 rfl
theorem dX4_endCalmly_10 : decode cX4_endCalmly 10 = .ok (.iadd, 1) := dq0 (p := fun a b => decode cX4_endCalmly a = .ok b) dm_cX4_endCalmly_0 6 rfl
theorem dX4_endCalmly_11 : decode cX4_endCalmly 11 = .ok (.iastore, 1) := dq0 (p := fun a b => decode cX4_endCalmly a = .ok b) dm_cX4_endCalmly_0 7 rfl
theorem dX4_endCalmly_12 : decode cX4_endCalmly 12 = .ok (.aload_n 0, 1) := dq0 (p := fun a b => decode cX4_endCalmly a = .ok b) dm_cX4_endCalmly_0 8 rfl
theorem dX4_endCalmly_13 : decode cX4_endCalmly 13 = .ok (.getfield 13, 3) := dq0 (p := fun a b => decode cX4_endCalmly a = .ok b) dm_cX4_endCalmly_0 9 rfl
theorem dX4_endCalmly_16 : decode cX4_endCalmly 16 = .ok (.sipush 128, 3) := dq0 (p := fun a b => decode cX4_endCalmly a = .ok b) dm_cX4_endCalmly_0 10 rfl
theorem dX4_endCalmly_19 : decode cX4_endCalmly 19 = .ok (.bipush 8, 2) := dq0 (p := fun a b => decode cX4_endCalmly a = .ok b) dm_cX4_endCalmly_0 11 rfl
theorem dX4_endCalmly_21 : decode cX4_endCalmly 21 = .ok (.aload_n 0, 1) := dq0 (p := fun a b => decode cX4_endCalmly a = .ok b) dm_cX4_endCalmly_0 12 rfl
theorem dX4_endCalmly_22 : decode cX4_endCalmly 22 = .ok (.getfield 13, 3) := dq0 (p := fun a b => decode cX4_endCalmly a = .ok b) dm_cX4_endCalmly_0 13 rfl
theorem dX4_endCalmly_25 : decode cX4_endCalmly 25 = .ok (.sipush 128, 3) := dq0 (p := fun a b => decode cX4_endCalmly a = .ok b) dm_cX4_endCalmly_0 14 rfl
theorem dX4_endCalmly_28 : decode cX4_endCalmly 28 = .ok (.iaload, 1) := dq0 (p := fun a b => decode cX4_endCalmly a = .ok b) dm_cX4_endCalmly_0 15 rfl
theorem dX4_endCalmly_29 : decode cX4_endCalmly 29 = .ok (.isub, 1) := dq0 (p := fun a b => decode cX4_endCalmly a = .ok b) dm_cX4_endCalmly_0 16 rfl
theorem dX4_endCalmly_30 : decode cX4_endCalmly 30 = .ok (.iastore, 1) := dq0 (p := fun a b => decode cX4_endCalmly a = .ok b) dm_cX4_endCalmly_0 17 rfl
theorem dX4_endCalmly_31 : decode cX4_endCalmly 31 = .ok (.aload_n 0, 1) := dq0 (p := fun a b => decode cX4_endCalmly a = .ok b) dm_cX4_endCalmly_0 18 rfl
theorem dX4_endCalmly_32 : decode cX4_endCalmly 32 = .ok (.dup, 1) := dq0 (p := fun a b => decode cX4_endCalmly a = .ok b) dm_cX4_endCalmly_0 19 rfl
theorem dX4_endCalmly_33 : decode cX4_endCalmly 33 = .ok (.getfield 124, 3) := dq0 (p := fun a b => decode cX4_endCalmly a = .ok b) dm_cX4_endCalmly_0 20 rfl
theorem dX4_endCalmly_36 : decode cX4_endCalmly 36 = .ok (.iconst 1, 1) := dq0 (p := fun a b => decode cX4_endCalmly a = .ok b) dm_cX4_endCalmly_0 21 rfl
theorem dX4_endCalmly_37 : decode cX4_endCalmly 37 = .ok (.iadd, 1) := dq0 (p := fun a b => decode cX4_endCalmly a = .ok b) dm_cX4_endCalmly_0 22 rfl
theorem dX4_endCalmly_38 : decode cX4_endCalmly 38 = .ok (.putfield 124, 3) := dq0 (p := fun a b => decode cX4_endCalmly a = .ok b) dm_cX4_endCalmly_0 23 rfl
theorem dX4_endCalmly_41 : decode cX4_endCalmly 41 = .ok (.aload_n 0, 1) := dq0 (p := fun a b => decode cX4_endCalmly a = .ok b) dm_cX4_endCalmly_0 24 rfl
theorem dX4_endCalmly_42 : decode cX4_endCalmly 42 = .ok (.invokevirtual 157, 3) := dq0 (p := fun a b => decode cX4_endCalmly a = .ok b) dm_cX4_endCalmly_0 25 rfl
theorem dX4_endCalmly_45 : decode cX4_endCalmly 45 = .ok (.return_, 1) := dq0 (p := fun a b => decode cX4_endCalmly a = .ok b) dm_cX4_endCalmly_0 26 rfl
theorem dm_cX4_bond_0 : ([(0, .aload_n 0, 1), (1, .iload_n 1, 1), (2, .iload_n 2, 1), (3, .invokevirtual 190, 3), (6, .ifCond .ne 5, 3), (9, .iconst 0, 1), (10, .ireturn, 1), (11, .aload_n 0, 1), (12, .invokevirtual 183, 3), (15, .ifCond .eq 12, 3), (18, .aload_n 0, 1), (19, .iload_n 1, 1), (20, .iload_n 2, 1), (21, .invokevirtual 121, 3), (24, .ifCond .eq 9, 3), (27, .aload_n 0, 1), (28, .iconst 2, 1), (29, .invokevirtual 167, 3), (32, .ireturn, 1), (33, .aload_n 0, 1), (34, .getfield 13, 3), (37, .iload_n 1, 1), (38, .iload_n 2, 1), (39, .invokestatic 37, 3), (42, .aload_n 0, 1), (43, .invokevirtual 193, 3), (46, .aload_n 0, 1), (47, .iload_n 1, 1), (48, .iload_n 2, 1), (49, .invokevirtual 92, 3), (52, .ireturn, 1)] : List (Nat × Instr × Nat)).all (fun t => decide (decode cX4_bond t.1 = .ok t.2)) = true := by decide +kernel
theorem dX4_bond_0 : decode cX4_bond 0 = .ok (.aload_n 0, 1) := dq0 (p := fun a b => decode cX4_bond a = .ok b) dm_cX4_bond_0 0 rfl
theorem dX4_bond_1 : decode cX4_bond 1 = .ok (.iload_n 1, 1) := dq0 (p := fun a b => decode cX4_bond a = .ok b) dm_cX4_bond_0 1 rfl
theorem dX4_bond_2 : decode cX4_bond 2 = .ok (.iload_n 2, 1) := dq0 (p := fun a b => decode cX4_bond a = .ok b) dm_cX4_bond_0 2 rfl
theorem dX4_bond_3 : decode cX4_bond 3 = .ok (.invokevirtual 190, 3) := dq0 (p := fun a b => decode cX4_bond a = .ok b) dm_cX4_bond_0 3 rfl
theorem dX4_bond_6 : decode cX4_bond 6 = .ok (.ifCond .ne 5, 3) := dq0 (p := fun a b => decode cX4_bond a = .ok b) dm_cX4_bond_0 4 rfl
theorem dX4_bond_9 : decode cX4_bond 9 = .ok (.iconst 0, 1) := dq0 (p := fun a b => decode cX4_bond a = .ok b) dm_cX4_bond_0 5 rfl
theorem dX4_bond_10 : decode cX4_bond 10 = .ok (.ireturn, 1) := dq0 (p := fun a b => decode cX4_bond a = .ok b) dm_cX4_bond_0 6 rfl
theorem dX4_bond_11 : decode cX4_bond 11 = .ok (.aload_n 0, 1) := dq0 (p := fun a b => decode cX4_bond a = .ok b) dm_cX4_bond_0 7 rfl
theorem dX4_bond_12 : decode cX4_bond 12 = .ok (.invokevirtual 183, 3) := dq0 (p := fun a b => decode cX4_bond a = .ok b) dm_cX4_bond_0 8 rfl
theorem dX4_bond_15 : decode cX4_bond 15 = .ok (.ifCond .eq 12, 3) := dq0 (p := fun a b => decode cX4_bond a = .ok b) dm_cX4_bond_0 9 rfl
theorem dX4_bond_18 : decode cX4_bond 18 = .ok (.aload_n 0, 1) := dq0 (p := fun a b => decode cX4_bond a = .ok b) dm_cX4_bond_0 10 rfl
theorem dX4_bond_19 : decode cX4_bond 19 = .ok (.iload_n 1, 1) := dq0 (p := fun a b => decode cX4_bond a = .ok b) dm_cX4_bond_0 11 rfl
theorem dX4_bond_20 : decode cX4_bond 20 = .ok (.iload_n 2, 1) := dq0 (p := fun a b => decode cX4_bond a = .ok b) dm_cX4_bond_0 12 rfl
theorem dX4_bond_21 : decode cX4_bond 21 = .ok (.invokevirtual 121, 3) := dq0 (p := fun a b => decode cX4_bond a = .ok b) dm_cX4_bond_0 13 rfl
theorem dX4_bond_24 : decode cX4_bond 24 = .ok (.ifCond .eq 9, 3) := dq0 (p := fun a b => decode cX4_bond a = .ok b) dm_cX4_bond_0 14 rfl
theorem dX4_bond_27 : decode cX4_bond 27 = .ok (.aload_n 0, 1) := dq0 (p := fun a b => decode cX4_bond a = .ok b) dm_cX4_bond_0 15 rfl
theorem dX4_bond_28 : decode cX4_bond 28 = .ok (.iconst 2, 1) := dq0 (p := fun a b => decode cX4_bond a = .ok b) dm_cX4_bond_0 16 rfl
theorem dX4_bond_29 : decode cX4_bond 29 = .ok (.invokevirtual 167, 3) := dq0 (p := fun a b => decode cX4_bond a = .ok b) dm_cX4_bond_0 17 rfl
theorem dX4_bond_32 : decode cX4_bond 32 = .ok (.ireturn, 1) := dq0 (p := fun a b => decode cX4_bond a = .ok b) dm_cX4_bond_0 18 rfl
theorem dX4_bond_33 : decode cX4_bond 33 = .ok (.aload_n 0, 1) := dq0 (p := fun a b => decode cX4_bond a = .ok b) dm_cX4_bond_0 19 rfl
theorem dX4_bond_34 : decode cX4_bond 34 = .ok (.getfield 13, 3) := dq0 (p := fun a b => decode cX4_bond a = .ok b) dm_cX4_bond_0 20 rfl
theorem dX4_bond_37 : decode cX4_bond 37 = .ok (.iload_n 1, 1) := dq0 (p := fun a b => decode cX4_bond a = .ok b) dm_cX4_bond_0 21 rfl
theorem dX4_bond_38 : decode cX4_bond 38 = .ok (.iload_n 2, 1) := dq0 (p := fun a b => decode cX4_bond a = .ok b) dm_cX4_bond_0 22 rfl
theorem dX4_bond_39 : decode cX4_bond 39 = .ok (.invokestatic 37, 3) := dq0 (p := fun a b => decode cX4_bond a = .ok b) dm_cX4_bond_0 23 rfl
theorem dX4_bond_42 : decode cX4_bond 42 = .ok (.aload_n 0, 1) := dq0 (p := fun a b => decode cX4_bond a = .ok b) dm_cX4_bond_0 24 rfl
theorem dX4_bond_43 : decode cX4_bond 43 = .ok (.invokevirtual 193, 3) := dq0 (p := fun a b => decode cX4_bond a = .ok b) dm_cX4_bond_0 25 rfl
theorem dX4_bond_46 : decode cX4_bond 46 = .ok (.aload_n 0, 1) := dq0 (p := fun a b => decode cX4_bond a = .ok b) dm_cX4_bond_0 26 rfl
theorem dX4_bond_47 : decode cX4_bond 47 = .ok (.iload_n 1, 1) := dq0 (p := fun a b => decode cX4_bond a = .ok b) dm_cX4_bond_0 27 rfl
theorem dX4_bond_48 : decode cX4_bond 48 = .ok (.iload_n 2, 1) := dq0 (p := fun a b => decode cX4_bond a = .ok b) dm_cX4_bond_0 28 rfl
theorem dX4_bond_49 : decode cX4_bond 49 = .ok (.invokevirtual 92, 3) := dq0 (p := fun a b => decode cX4_bond a = .ok b) dm_cX4_bond_0 29 rfl
theorem dX4_bond_52 : decode cX4_bond 52 = .ok (.ireturn, 1) := dq0 (p := fun a b => decode cX4_bond a = .ok b) dm_cX4_bond_0 30 rfl
theorem dm_cX4_dissolve_0 : ([(0, .aload_n 0, 1), (1, .iload_n 1, 1), (2, .invokestatic 160, 3), (5, .invokevirtual 163, 3), (8, .ifCond .ne 5, 3), (11, .iconst 0, 1), (12, .ireturn, 1), (13, .aload_n 0, 1), (14, .invokevirtual 183, 3), (17, .ifCond .eq 11, 3), (20, .aload_n 0, 1), (21, .iload_n 1, 1), (22, .invokevirtual 117, 3), (25, .ifCond .eq 9, 3), (28, .aload_n 0, 1), (29, .iconst 2, 1), (30, .invokevirtual 167, 3), (33, .ireturn, 1), (34, .aload_n 0, 1), (35, .getfield 13, 3), (38, .bipush 64, 2), (40, .iload_n 1, 1), (41, .iadd, 1), (42, .iaload, 1), (43, .istore_n 2, 1), (44, .aload_n 0, 1), (45, .getfield 13, 3), (48, .iload_n 1, 1), (49, .invokestatic 88, 3), (52, .aload_n 0, 1), (53, .invokevirtual 193, 3), (56, .iload_n 2, 1), (57, .ireturn, 1)] : List (Nat × Instr × Nat)).all (fun t => decide (decode cX4_dissolve t.1 = .ok t.2)) = true := by decide +kernel
theorem dX4_dissolve_0 : decode cX4_dissolve 0 = .ok (.aload_n 0, 1) := dq0 (p := fun a b => decode cX4_dissolve a = .ok b) dm_cX4_dissolve_0 0 rfl
theorem dX4_dissolve_1 : decode cX4_dissolve 1 = .ok (.iload_n 1, 1) := dq0 (p := fun a b => decode cX4_dissolve a = .ok b) dm_cX4_dissolve_0 1 rfl
theorem dX4_dissolve_2 : decode cX4_dissolve 2 = .ok (.invokestatic 160, 3) := dq0 (p := fun a b => decode cX4_dissolve a = .ok b) dm_cX4_dissolve_0 2 rfl
theorem dX4_dissolve_5 : decode cX4_dissolve 5 = .ok (.invokevirtual 163, 3) := dq0 (p := fun a b => decode cX4_dissolve a = .ok b) dm_cX4_dissolve_0 3 rfl
theorem dX4_dissolve_8 : decode cX4_dissolve 8 = .ok (.ifCond .ne 5, 3) := dq0 (p := fun a b => decode cX4_dissolve a = .ok b) dm_cX4_dissolve_0 4 rfl
theorem dX4_dissolve_11 : decode cX4_dissolve 11 = .ok (.iconst 0, 1) := dq0 (p := fun a b => decode cX4_dissolve a = .ok b) dm_cX4_dissolve_0 5 rfl
theorem dX4_dissolve_12 : decode cX4_dissolve 12 = .ok (.ireturn, 1) := dq0 (p := fun a b => decode cX4_dissolve a = .ok b) dm_cX4_dissolve_0 6 rfl
theorem dX4_dissolve_13 : decode cX4_dissolve 13 = .ok (.aload_n 0, 1) := dq0 (p := fun a b => decode cX4_dissolve a = .ok b) dm_cX4_dissolve_0 7 rfl
theorem dX4_dissolve_14 : decode cX4_dissolve 14 = .ok (.invokevirtual 183, 3) := dq0 (p := fun a b => decode cX4_dissolve a = .ok b) dm_cX4_dissolve_0 8 rfl
theorem dX4_dissolve_17 : decode cX4_dissolve 17 = .ok (.ifCond .eq 11, 3) := dq0 (p := fun a b => decode cX4_dissolve a = .ok b) dm_cX4_dissolve_0 9 rfl
theorem dX4_dissolve_20 : decode cX4_dissolve 20 = .ok (.aload_n 0, 1) := dq0 (p := fun a b => decode cX4_dissolve a = .ok b) dm_cX4_dissolve_0 10 rfl
theorem dX4_dissolve_21 : decode cX4_dissolve 21 = .ok (.iload_n 1, 1) := dq0 (p := fun a b => decode cX4_dissolve a = .ok b) dm_cX4_dissolve_0 11 rfl
theorem dX4_dissolve_22 : decode cX4_dissolve 22 = .ok (.invokevirtual 117, 3) := dq0 (p := fun a b => decode cX4_dissolve a = .ok b) dm_cX4_dissolve_0 12 rfl
theorem dX4_dissolve_25 : decode cX4_dissolve 25 = .ok (.ifCond .eq 9, 3) := dq0 (p := fun a b => decode cX4_dissolve a = .ok b) dm_cX4_dissolve_0 13 rfl
theorem dX4_dissolve_28 : decode cX4_dissolve 28 = .ok (.aload_n 0, 1) := dq0 (p := fun a b => decode cX4_dissolve a = .ok b) dm_cX4_dissolve_0 14 rfl
theorem dX4_dissolve_29 : decode cX4_dissolve 29 = .ok (.iconst 2, 1) := dq0 (p := fun a b => decode cX4_dissolve a = .ok b) dm_cX4_dissolve_0 15 rfl
theorem dX4_dissolve_30 : decode cX4_dissolve 30 = .ok (.invokevirtual 167, 3) := dq0 (p := fun a b => decode cX4_dissolve a = .ok b) dm_cX4_dissolve_0 16 rfl
theorem dX4_dissolve_33 : decode cX4_dissolve 33 = .ok (.ireturn, 1) := dq0 (p := fun a b => decode cX4_dissolve a = .ok b) dm_cX4_dissolve_0 17 rfl
theorem dX4_dissolve_34 : decode cX4_dissolve 34 = .ok (.aload_n 0, 1) := dq0 (p := fun a b => decode cX4_dissolve a = .ok b) dm_cX4_dissolve_0 18 rfl
theorem dX4_dissolve_35 : decode cX4_dissolve 35 = .ok (.getfield 13, 3) := dq0 (p := fun a b => decode cX4_dissolve a = .ok b) dm_cX4_dissolve_0 19 rfl
theorem dX4_dissolve_38 : decode cX4_dissolve 38 = .ok (.bipush 64, 2) := dq0 (p := fun a b => decode cX4_dissolve a = .ok b) dm_cX4_dissolve_0 20 rfl
theorem dX4_dissolve_40 : decode cX4_dissolve 40 = .ok (.iload_n 1, 1) := dq0 (p := fun a b => decode cX4_dissolve a = .ok b) dm_cX4_dissolve_0 21 rfl
theorem dX4_dissolve_41 : decode cX4_dissolve 41 = .ok (.iadd, 1) := dq0 (p := fun a b => decode cX4_dissolve a = .ok b) dm_cX4_dissolve_0 22 rfl
theorem dX4_dissolve_42 : decode cX4_dissolve 42 = .ok (.iaload, 1) := dq0 (p := fun a b => decode cX4_dissolve a = .ok b) dm_cX4_dissolve_0 23 rfl
theorem dX4_dissolve_43 : decode cX4_dissolve 43 = .ok (.istore_n 2, 1) := dq0 (p := fun a b => decode cX4_dissolve a = .ok b) dm_cX4_dissolve_0 24 rfl
theorem dX4_dissolve_44 : decode cX4_dissolve 44 = .ok (.aload_n 0, 1) := dq0 (p := fun a b => decode cX4_dissolve a = .ok b) dm_cX4_dissolve_0 25 rfl
theorem dX4_dissolve_45 : decode cX4_dissolve 45 = .ok (.getfield 13, 3) := dq0 (p := fun a b => decode cX4_dissolve a = .ok b) dm_cX4_dissolve_0 26 rfl
theorem dX4_dissolve_48 : decode cX4_dissolve 48 = .ok (.iload_n 1, 1) := dq0 (p := fun a b => decode cX4_dissolve a = .ok b) dm_cX4_dissolve_0 27 rfl
theorem dX4_dissolve_49 : decode cX4_dissolve 49 = .ok (.invokestatic 88, 3) := dq0 (p := fun a b => decode cX4_dissolve a = .ok b) dm_cX4_dissolve_0 28 rfl
theorem dX4_dissolve_52 : decode cX4_dissolve 52 = .ok (.aload_n 0, 1) := dq0 (p := fun a b => decode cX4_dissolve a = .ok b) dm_cX4_dissolve_0 29 rfl
theorem dX4_dissolve_53 : decode cX4_dissolve 53 = .ok (.invokevirtual 193, 3) := dq0 (p := fun a b => decode cX4_dissolve a = .ok b) dm_cX4_dissolve_0 30 rfl
theorem dX4_dissolve_56 : decode cX4_dissolve 56 = .ok (.iload_n 2, 1) := dq0 (p := fun a b => decode cX4_dissolve a = .ok b) dm_cX4_dissolve_0 31 rfl
theorem dX4_dissolve_57 : decode cX4_dissolve 57 = .ok (.ireturn, 1) := dq0 (p := fun a b => decode cX4_dissolve a = .ok b) dm_cX4_dissolve_0 32 rfl
theorem dm_cX4_takeBack_0 : ([(0, .aload_n 0, 1), (1, .aload_n 0, 1), (2, .getfield 153, 3), (5, .ifCond .ne 14, 3), (8, .aload_n 0, 1), (9, .getfield 124, 3), (12, .ifCond .le 7, 3), (15, .iconst 1, 1), (16, .goto 4, 3), (19, .iconst 0, 1), (20, .invokevirtual 163, 3), (23, .ifCond .ne 5, 3), (26, .iconst 0, 1), (27, .ireturn, 1), (28, .aload_n 0, 1), (29, .dup, 1), (30, .getfield 124, 3), (33, .iconst 1, 1), (34, .isub, 1), (35, .putfield 124, 3), (38, .aload_n 0, 1), (39, .getfield 7, 3), (42, .sipush 146, 3), (45, .aload_n 0, 1), (46, .getfield 124, 3), (49, .imul, 1), (50, .aload_n 0, 1), (51, .getfield 13, 3), (54, .iconst 0, 1), (55, .invokestatic 98, 3), (58, .aload_n 0, 1), (59, .invokevirtual 150, 3), (62, .aload_n 0, 1), (63, .getfield 124, 3), (66, .ireturn, 1)] : List (Nat × Instr × Nat)).all (fun t => decide (decode cX4_takeBack t.1 = .ok t.2)) = true := by decide +kernel
theorem dX4_takeBack_0 : decode cX4_takeBack 0 = .ok (.aload_n 0, 1) := dq0 (p := fun a b => decode cX4_takeBack a = .ok b) dm_cX4_takeBack_0 0 rfl
theorem dX4_takeBack_1 : decode cX4_takeBack 1 = .ok (.aload_n 0, 1) := dq0 (p := fun a b => decode cX4_takeBack a = .ok b) dm_cX4_takeBack_0 1 rfl
theorem dX4_takeBack_2 : decode cX4_takeBack 2 = .ok (.getfield 153, 3) := dq0 (p := fun a b => decode cX4_takeBack a = .ok b) dm_cX4_takeBack_0 2 rfl
theorem dX4_takeBack_5 : decode cX4_takeBack 5 = .ok (.ifCond .ne 14, 3) := dq0 (p := fun a b => decode cX4_takeBack a = .ok b) dm_cX4_takeBack_0 3 rfl
theorem dX4_takeBack_8 : decode cX4_takeBack 8 = .ok (.aload_n 0, 1) := dq0 (p := fun a b => decode cX4_takeBack a = .ok b) dm_cX4_takeBack_0 4 rfl
theorem dX4_takeBack_9 : decode cX4_takeBack 9 = .ok (.getfield 124, 3) := dq0 (p := fun a b => decode cX4_takeBack a = .ok b) dm_cX4_takeBack_0 5 rfl
theorem dX4_takeBack_12 : decode cX4_takeBack 12 = .ok (.ifCond .le 7, 3) := dq0 (p := fun a b => decode cX4_takeBack a = .ok b) dm_cX4_takeBack_0 6 rfl
theorem dX4_takeBack_15 : decode cX4_takeBack 15 = .ok (.iconst 1, 1) := dq0 (p := fun a b => decode cX4_takeBack a = .ok b) dm_cX4_takeBack_0 7 rfl
theorem dX4_takeBack_16 : decode cX4_takeBack 16 = .ok (.goto 4, 3) := dq0 (p := fun a b => decode cX4_takeBack a = .ok b) dm_cX4_takeBack_0 8 rfl
theorem dX4_takeBack_19 : decode cX4_takeBack 19 = .ok (.iconst 0, 1) := dq0 (p := fun a b => decode cX4_takeBack a = .ok b) dm_cX4_takeBack_0 9 rfl
theorem dX4_takeBack_20 : decode cX4_takeBack 20 = .ok (.invokevirtual 163, 3) := dq0 (p := fun a b => decode cX4_takeBack a = .ok b) dm_cX4_takeBack_0 10 rfl
theorem dX4_takeBack_23 : decode cX4_takeBack 23 = .ok (.ifCond .ne 5, 3) := dq0 (p := fun a b => decode cX4_takeBack a = .ok b) dm_cX4_takeBack_0 11 rfl
theorem dX4_takeBack_26 : decode cX4_takeBack 26 = .ok (.iconst 0, 1) := dq0 (p := fun a b => decode cX4_takeBack a = .ok b) dm_cX4_takeBack_0 12 rfl
theorem dX4_takeBack_27 : decode cX4_takeBack 27 = .ok (.ireturn, 1) := dq0 (p := fun a b => decode cX4_takeBack a = .ok b) dm_cX4_takeBack_0 13 rfl
theorem dX4_takeBack_28 : decode cX4_takeBack 28 = .ok (.aload_n 0, 1) := dq0 (p := fun a b => decode cX4_takeBack a = .ok b) dm_cX4_takeBack_0 14 rfl
theorem dX4_takeBack_29 : decode cX4_takeBack 29 = .ok (.dup, 1) := dq0 (p := fun a b => decode cX4_takeBack a = .ok b) dm_cX4_takeBack_0 15 rfl
theorem dX4_takeBack_30 : decode cX4_takeBack 30 = .ok (.getfield 124, 3) := dq0 (p := fun a b => decode cX4_takeBack a = .ok b) dm_cX4_takeBack_0 16 rfl
theorem dX4_takeBack_33 : decode cX4_takeBack 33 = .ok (.iconst 1, 1) := dq0 (p := fun a b => decode cX4_takeBack a = .ok b) dm_cX4_takeBack_0 17 rfl
theorem dX4_takeBack_34 : decode cX4_takeBack 34 = .ok (.isub, 1) := dq0 (p := fun a b => decode cX4_takeBack a = .ok b) dm_cX4_takeBack_0 18 rfl
theorem dX4_takeBack_35 : decode cX4_takeBack 35 = .ok (.putfield 124, 3) := dq0 (p := fun a b => decode cX4_takeBack a = .ok b) dm_cX4_takeBack_0 19 rfl
theorem dX4_takeBack_38 : decode cX4_takeBack 38 = .ok (.aload_n 0, 1) := dq0 (p := fun a b => decode cX4_takeBack a = .ok b) dm_cX4_takeBack_0 20 rfl
theorem dX4_takeBack_39 : decode cX4_takeBack 39 = .ok (.getfield 7, 3) := dq0 (p := fun a b => decode cX4_takeBack a = .ok b) dm_cX4_takeBack_0 21 rfl
theorem dX4_takeBack_42 : decode cX4_takeBack 42 = .ok (.sipush 146, 3) := dq0 (p := fun a b => decode cX4_takeBack a = .ok b) dm_cX4_takeBack_0 22 rfl
theorem dX4_takeBack_45 : decode cX4_takeBack 45 = .ok (.aload_n 0, 1) := dq0 (p := fun a b => decode cX4_takeBack a = .ok b) dm_cX4_takeBack_0 23 rfl
theorem dX4_takeBack_46 : decode cX4_takeBack 46 = .ok (.getfield 124, 3) := dq0 (p := fun a b => decode cX4_takeBack a = .ok b) dm_cX4_takeBack_0 24 rfl
theorem dX4_takeBack_49 : decode cX4_takeBack 49 = .ok (.imul, 1) := dq0 (p := fun a b => decode cX4_takeBack a = .ok b) dm_cX4_takeBack_0 25 rfl
theorem dX4_takeBack_50 : decode cX4_takeBack 50 = .ok (.aload_n 0, 1) := dq0 (p := fun a b => decode cX4_takeBack a = .ok b) dm_cX4_takeBack_0 26 rfl
theorem dX4_takeBack_51 : decode cX4_takeBack 51 = .ok (.getfield 13, 3) := dq0 (p := fun a b => decode cX4_takeBack a = .ok b) dm_cX4_takeBack_0 27 rfl
theorem dX4_takeBack_54 : decode cX4_takeBack 54 = .ok (.iconst 0, 1) := dq0 (p := fun a b => decode cX4_takeBack a = .ok b) dm_cX4_takeBack_0 28 rfl
theorem dX4_takeBack_55 : decode cX4_takeBack 55 = .ok (.invokestatic 98, 3) := dq0 (p := fun a b => decode cX4_takeBack a = .ok b) dm_cX4_takeBack_0 29 rfl
theorem dX4_takeBack_58 : decode cX4_takeBack 58 = .ok (.aload_n 0, 1) := dq0 (p := fun a b => decode cX4_takeBack a = .ok b) dm_cX4_takeBack_0 30 rfl
theorem dX4_takeBack_59 : decode cX4_takeBack 59 = .ok (.invokevirtual 150, 3) := dq0 (p := fun a b => decode cX4_takeBack a = .ok b) dm_cX4_takeBack_0 31 rfl
theorem dX4_takeBack_62 : decode cX4_takeBack 62 = .ok (.aload_n 0, 1) := dq0 (p := fun a b => decode cX4_takeBack a = .ok b) dm_cX4_takeBack_0 32 rfl
theorem dX4_takeBack_63 : decode cX4_takeBack 63 = .ok (.getfield 124, 3) := dq0 (p := fun a b => decode cX4_takeBack a = .ok b) dm_cX4_takeBack_0 33 rfl
theorem dX4_takeBack_66 : decode cX4_takeBack 66 = .ok (.ireturn, 1) := dq0 (p := fun a b => decode cX4_takeBack a = .ok b) dm_cX4_takeBack_0 34 rfl
theorem dm_cX4_actionCount_0 : ([(0, .aload_n 0, 1), (1, .iconst 0, 1), (2, .putfield 44, 3), (5, .aload_n 0, 1), (6, .getfield 124, 3), (9, .ireturn, 1)] : List (Nat × Instr × Nat)).all (fun t => decide (decode cX4_actionCount t.1 = .ok t.2)) = true := by decide +kernel
theorem dX4_actionCount_0 : decode cX4_actionCount 0 = .ok (.aload_n 0, 1) := dq0 (p := fun a b => decode cX4_actionCount a = .ok b) dm_cX4_actionCount_0 0 rfl
theorem dX4_actionCount_1 : decode cX4_actionCount 1 = .ok (.iconst 0, 1) := dq0 (p := fun a b => decode cX4_actionCount a = .ok b) dm_cX4_actionCount_0 1 rfl
theorem dX4_actionCount_2 : decode cX4_actionCount 2 = .ok (.putfield 44, 3) := dq0 (p := fun a b => decode cX4_actionCount a = .ok b) dm_cX4_actionCount_0 2 rfl
theorem dX4_actionCount_5 : decode cX4_actionCount 5 = .ok (.aload_n 0, 1) := dq0 (p := fun a b => decode cX4_actionCount a = .ok b) dm_cX4_actionCount_0 3 rfl
theorem dX4_actionCount_6 : decode cX4_actionCount 6 = .ok (.getfield 124, 3) := dq0 (p := fun a b => decode cX4_actionCount a = .ok b) dm_cX4_actionCount_0 4 rfl
theorem dX4_actionCount_9 : decode cX4_actionCount 9 = .ok (.ireturn, 1) := dq0 (p := fun a b => decode cX4_actionCount a = .ok b) dm_cX4_actionCount_0 5 rfl
theorem dm_cX4_outcome_0 : ([(0, .aload_n 0, 1), (1, .iconst 0, 1), (2, .putfield 44, 3), (5, .aload_n 0, 1), (6, .getfield 135, 3), (9, .ireturn, 1)] : List (Nat × Instr × Nat)).all (fun t => decide (decode cX4_outcome t.1 = .ok t.2)) = true := by decide +kernel
theorem dX4_outcome_0 : decode cX4_outcome 0 = .ok (.aload_n 0, 1) := dq0 (p := fun a b => decode cX4_outcome a = .ok b) dm_cX4_outcome_0 0 rfl
theorem dX4_outcome_1 : decode cX4_outcome 1 = .ok (.iconst 0, 1) := dq0 (p := fun a b => decode cX4_outcome a = .ok b) dm_cX4_outcome_0 1 rfl
theorem dX4_outcome_2 : decode cX4_outcome 2 = .ok (.putfield 44, 3) := dq0 (p := fun a b => decode cX4_outcome a = .ok b) dm_cX4_outcome_0 2 rfl
theorem dX4_outcome_5 : decode cX4_outcome 5 = .ok (.aload_n 0, 1) := dq0 (p := fun a b => decode cX4_outcome a = .ok b) dm_cX4_outcome_0 3 rfl
theorem dX4_outcome_6 : decode cX4_outcome 6 = .ok (.getfield 135, 3) := dq0 (p := fun a b => decode cX4_outcome a = .ok b) dm_cX4_outcome_0 4 rfl
theorem dX4_outcome_9 : decode cX4_outcome 9 = .ok (.ireturn, 1) := dq0 (p := fun a b => decode cX4_outcome a = .ok b) dm_cX4_outcome_0 5 rfl
theorem dm_cX4_occurrences_0 : ([(0, .aload_n 0, 1), (1, .iconst 0, 1), (2, .putfield 44, 3), (5, .aload_n 0, 1), (6, .getfield 153, 3), (9, .ifCond .eq 7, 3), (12, .iconst 0, 1), (13, .goto 7, 3), (16, .aload_n 0, 1), (17, .invokevirtual 146, 3), (20, .ireturn, 1)] : List (Nat × Instr × Nat)).all (fun t => decide (decode cX4_occurrences t.1 = .ok t.2)) = true := by decide +kernel
theorem dX4_occurrences_0 : decode cX4_occurrences 0 = .ok (.aload_n 0, 1) := dq0 (p := fun a b => decode cX4_occurrences a = .ok b) dm_cX4_occurrences_0 0 rfl
theorem dX4_occurrences_1 : decode cX4_occurrences 1 = .ok (.iconst 0, 1) := dq0 (p := fun a b => decode cX4_occurrences a = .ok b) dm_cX4_occurrences_0 1 rfl
theorem dX4_occurrences_2 : decode cX4_occurrences 2 = .ok (.putfield 44, 3) := dq0 (p := fun a b => decode cX4_occurrences a = .ok b) dm_cX4_occurrences_0 2 rfl
theorem dX4_occurrences_5 : decode cX4_occurrences 5 = .ok (.aload_n 0, 1) := dq0 (p := fun a b => decode cX4_occurrences a = .ok b) dm_cX4_occurrences_0 3 rfl
theorem dX4_occurrences_6 : decode cX4_occurrences 6 = .ok (.getfield 153, 3) := dq0 (p := fun a b => decode cX4_occurrences a = .ok b) dm_cX4_occurrences_0 4 rfl
theorem dX4_occurrences_9 : decode cX4_occurrences 9 = .ok (.ifCond .eq 7, 3) := dq0 (p := fun a b => decode cX4_occurrences a = .ok b) dm_cX4_occurrences_0 5 rfl
theorem dX4_occurrences_12 : decode cX4_occurrences 12 = .ok (.iconst 0, 1) := dq0 (p := fun a b => decode cX4_occurrences a = .ok b) dm_cX4_occurrences_0 6 rfl
theorem dX4_occurrences_13 : decode cX4_occurrences 13 = .ok (.goto 7, 3) := dq0 (p := fun a b => decode cX4_occurrences a = .ok b) dm_cX4_occurrences_0 7 rfl
theorem dX4_occurrences_16 : decode cX4_occurrences 16 = .ok (.aload_n 0, 1) := dq0 (p := fun a b => decode cX4_occurrences a = .ok b) dm_cX4_occurrences_0 8 rfl
theorem dX4_occurrences_17 : decode cX4_occurrences 17 = .ok (.invokevirtual 146, 3) := dq0 (p := fun a b => decode cX4_occurrences a = .ok b) dm_cX4_occurrences_0 9 rfl
theorem dX4_occurrences_20 : decode cX4_occurrences 20 = .ok (.ireturn, 1) := dq0 (p := fun a b => decode cX4_occurrences a = .ok b) dm_cX4_occurrences_0 10 rfl
theorem dm_cX4_quietActions_0 : ([(0, .aload_n 0, 1), (1, .iconst 0, 1), (2, .putfield 44, 3), (5, .aload_n 0, 1), (6, .getfield 13, 3), (9, .sipush 129, 3), (12, .iaload, 1), (13, .ireturn, 1)] : List (Nat × Instr × Nat)).all (fun t => decide (decode cX4_quietActions t.1 = .ok t.2)) = true := by decide +kernel
theorem dX4_quietActions_0 : decode cX4_quietActions 0 = .ok (.aload_n 0, 1) := dq0 (p := fun a b => decode cX4_quietActions a = .ok b) dm_cX4_quietActions_0 0 rfl
theorem dX4_quietActions_1 : decode cX4_quietActions 1 = .ok (.iconst 0, 1) := dq0 (p := fun a b => decode cX4_quietActions a = .ok b) dm_cX4_quietActions_0 1 rfl
theorem dX4_quietActions_2 : decode cX4_quietActions 2 = .ok (.putfield 44, 3) := dq0 (p := fun a b => decode cX4_quietActions a = .ok b) dm_cX4_quietActions_0 2 rfl
theorem dX4_quietActions_5 : decode cX4_quietActions 5 = .ok (.aload_n 0, 1) := dq0 (p := fun a b => decode cX4_quietActions a = .ok b) dm_cX4_quietActions_0 3 rfl
theorem dX4_quietActions_6 : decode cX4_quietActions 6 = .ok (.getfield 13, 3) := dq0 (p := fun a b => decode cX4_quietActions a = .ok b) dm_cX4_quietActions_0 4 rfl
theorem dX4_quietActions_9 : decode cX4_quietActions 9 = .ok (.sipush 129, 3) := dq0 (p := fun a b => decode cX4_quietActions a = .ok b) dm_cX4_quietActions_0 5 rfl
theorem dX4_quietActions_12 : decode cX4_quietActions 12 = .ok (.iaload, 1) := dq0 (p := fun a b => decode cX4_quietActions a = .ok b) dm_cX4_quietActions_0 6 rfl
theorem dX4_quietActions_13 : decode cX4_quietActions 13 = .ok (.ireturn, 1) := dq0 (p := fun a b => decode cX4_quietActions a = .ok b) dm_cX4_quietActions_0 7 rfl
theorem dm_cX4_capturedCount_0 : ([(0, .aload_n 0, 1), (1, .iload_n 1, 1), (2, .iconst 1, 1), (3, .if_icmp .lt 13, 3), (6, .iload_n 1, 1), (7, .bipush 6, 2), (9, .if_icmp .gt 7, 3), (12, .iconst 1, 1), (13, .goto 4, 3), (16, .iconst 0, 1), (17, .invokevirtual 163, 3), (20, .ifCond .eq 21, 3), (23, .aload_n 0, 1), (24, .getfield 13, 3), (27, .sipush 130, 3), (30, .iload_n 2, 1), (31, .invokestatic 170, 3), (34, .iadd, 1), (35, .iload_n 1, 1), (36, .iadd, 1), (37, .iaload, 1), (38, .goto 4, 3), (41, .iconst 0, 1), (42, .ireturn, 1)] : List (Nat × Instr × Nat)).all (fun t => decide (decode cX4_capturedCount t.1 = .ok t.2)) = true := by decide +kernel
theorem dX4_capturedCount_0 : decode cX4_capturedCount 0 = .ok (.aload_n 0, 1) := dq0 (p := fun a b => decode cX4_capturedCount a = .ok b) dm_cX4_capturedCount_0 0 rfl
theorem dX4_capturedCount_1 : decode cX4_capturedCount 1 = .ok (.iload_n 1, 1) := dq0 (p := fun a b => decode cX4_capturedCount a = .ok b) dm_cX4_capturedCount_0 1 rfl
theorem dX4_capturedCount_2 : decode cX4_capturedCount 2 = .ok (.iconst 1, 1) := dq0 (p := fun a b => decode cX4_capturedCount a = .ok b) dm_cX4_capturedCount_0 2 rfl
theorem dX4_capturedCount_3 : decode cX4_capturedCount 3 = .ok (.if_icmp .lt 13, 3) := dq0 (p := fun a b => decode cX4_capturedCount a = .ok b) dm_cX4_capturedCount_0 3 rfl
theorem dX4_capturedCount_6 : decode cX4_capturedCount 6 = .ok (.iload_n 1, 1) := dq0 (p := fun a b => decode cX4_capturedCount a = .ok b) dm_cX4_capturedCount_0 4 rfl
theorem dX4_capturedCount_7 : decode cX4_capturedCount 7 = .ok (.bipush 6, 2) := dq0 (p := fun a b => decode cX4_capturedCount a = .ok b) dm_cX4_capturedCount_0 5 rfl
theorem dX4_capturedCount_9 : decode cX4_capturedCount 9 = .ok (.if_icmp .gt 7, 3) := dq0 (p := fun a b => decode cX4_capturedCount a = .ok b) dm_cX4_capturedCount_0 6 rfl
theorem dX4_capturedCount_12 : decode cX4_capturedCount 12 = .ok (.iconst 1, 1) := dq0 (p := fun a b => decode cX4_capturedCount a = .ok b) dm_cX4_capturedCount_0 7 rfl
theorem dX4_capturedCount_13 : decode cX4_capturedCount 13 = .ok (.goto 4, 3) := dq0 (p := fun a b => decode cX4_capturedCount a = .ok b) dm_cX4_capturedCount_0 8 rfl
theorem dX4_capturedCount_16 : decode cX4_capturedCount 16 = .ok (.iconst 0, 1) := dq0 (p := fun a b => decode cX4_capturedCount a = .ok b) dm_cX4_capturedCount_0 9 rfl
theorem dX4_capturedCount_17 : decode cX4_capturedCount 17 = .ok (.invokevirtual 163, 3) := dq0 (p := fun a b => decode cX4_capturedCount a = .ok b) dm_cX4_capturedCount_0 10 rfl
theorem dX4_capturedCount_20 : decode cX4_capturedCount 20 = .ok (.ifCond .eq 21, 3) := dq0 (p := fun a b => decode cX4_capturedCount a = .ok b) dm_cX4_capturedCount_0 11 rfl
theorem dX4_capturedCount_23 : decode cX4_capturedCount 23 = .ok (.aload_n 0, 1) := dq0 (p := fun a b => decode cX4_capturedCount a = .ok b) dm_cX4_capturedCount_0 12 rfl
theorem dX4_capturedCount_24 : decode cX4_capturedCount 24 = .ok (.getfield 13, 3) := dq0 (p := fun a b => decode cX4_capturedCount a = .ok b) dm_cX4_capturedCount_0 13 rfl
theorem dX4_capturedCount_27 : decode cX4_capturedCount 27 = .ok (.sipush 130, 3) := dq0 (p := fun a b => decode cX4_capturedCount a = .ok b) dm_cX4_capturedCount_0 14 rfl
theorem dX4_capturedCount_30 : decode cX4_capturedCount 30 = .ok (.iload_n 2, 1) := dq0 (p := fun a b => decode cX4_capturedCount a = .ok b) dm_cX4_capturedCount_0 15 rfl
theorem dX4_capturedCount_31 : decode cX4_capturedCount 31 = .ok (.invokestatic 170, 3) := dq0 (p := fun a b => decode cX4_capturedCount a = .ok b) dm_cX4_capturedCount_0 16 rfl
theorem dX4_capturedCount_34 : decode cX4_capturedCount 34 = .ok (.iadd, 1) := dq0 (p := fun a b => decode cX4_capturedCount a = .ok b) dm_cX4_capturedCount_0 17 rfl
theorem dX4_capturedCount_35 : decode cX4_capturedCount 35 = .ok (.iload_n 1, 1) := dq0 (p := fun a b => decode cX4_capturedCount a = .ok b) dm_cX4_capturedCount_0 18 rfl
theorem dX4_capturedCount_36 : decode cX4_capturedCount 36 = .ok (.iadd, 1) := dq0 (p := fun a b => decode cX4_capturedCount a = .ok b) dm_cX4_capturedCount_0 19 rfl
theorem dX4_capturedCount_37 : decode cX4_capturedCount 37 = .ok (.iaload, 1) := dq0 (p := fun a b => decode cX4_capturedCount a = .ok b) dm_cX4_capturedCount_0 20 rfl
theorem dX4_capturedCount_38 : decode cX4_capturedCount 38 = .ok (.goto 4, 3) := dq0 (p := fun a b => decode cX4_capturedCount a = .ok b) dm_cX4_capturedCount_0 21 rfl
theorem dX4_capturedCount_41 : decode cX4_capturedCount 41 = .ok (.iconst 0, 1) := dq0 (p := fun a b => decode cX4_capturedCount a = .ok b) dm_cX4_capturedCount_0 22 rfl
theorem dX4_capturedCount_42 : decode cX4_capturedCount 42 = .ok (.ireturn, 1) := dq0 (p := fun a b => decode cX4_capturedCount a = .ok b) dm_cX4_capturedCount_0 23 rfl
theorem dm_cX4_weight_0 : ([(0, .aload_n 0, 1), (1, .getfield 13, 3), (4, .iload_n 1, 1), (5, .invokestatic 65, 3), (8, .tableswitch 68 2 6 #[36, 39, 42, 45, 66], 36), (44, .ldc 196, 2), (46, .freturn, 1), (47, .ldc 197, 2), (49, .freturn, 1), (50, .ldc 198, 2), (52, .freturn, 1), (53, .aload_n 0, 1), (54, .getfield 13, 3), (57, .bipush 64, 2), (59, .iload_n 1, 1), (60, .iadd, 1), (61, .iaload, 1), (62, .iconst (-1), 1), (63, .if_icmp .ne 8, 3), (66, .ldc 199, 2), (68, .goto 5, 3), (71, .ldc 200, 2), (73, .freturn, 1), (74, .fconst 1, 1), (75, .freturn, 1), (76, .fconst 0, 1), (77, .freturn, 1)] : List (Nat × Instr × Nat)).all (fun t => decide (decode cX4_weight t.1 = .ok t.2)) = true := by decide +kernel
theorem dX4_weight_0 : decode cX4_weight 0 = .ok (.aload_n 0, 1) := dq0 (p := fun a b => decode cX4_weight a = .ok b) dm_cX4_weight_0 0 rfl
theorem dX4_weight_1 : decode cX4_weight 1 = .ok (.getfield 13, 3) := dq0 (p := fun a b => decode cX4_weight a = .ok b) dm_cX4_weight_0 1 rfl
theorem dX4_weight_4 : decode cX4_weight 4 = .ok (.iload_n 1, 1) := dq0 (p := fun a b => decode cX4_weight a = .ok b) dm_cX4_weight_0 2 rfl
theorem dX4_weight_5 : decode cX4_weight 5 = .ok (.invokestatic 65, 3) := dq0 (p := fun a b => decode cX4_weight a = .ok b) dm_cX4_weight_0 3 rfl
theorem dX4_weight_8 : decode cX4_weight 8 = .ok (.tableswitch 68 2 6 #[36, 39, 42, 45, 66], 36) := dq0 (p := fun a b => decode cX4_weight a = .ok b) dm_cX4_weight_0 4 rfl
theorem dX4_weight_44 : decode cX4_weight 44 = .ok (.ldc 196, 2) := dq0 (p := fun a b => decode cX4_weight a = .ok b) dm_cX4_weight_0 5 rfl
theorem dX4_weight_46 : decode cX4_weight 46 = .ok (.freturn, 1) := dq0 (p := fun a b => decode cX4_weight a = .ok b) dm_cX4_weight_0 6 rfl
theorem dX4_weight_47 : decode cX4_weight 47 = .ok (.ldc 197, 2) := dq0 (p := fun a b => decode cX4_weight a = .ok b) dm_cX4_weight_0 7 rfl
theorem dX4_weight_49 : decode cX4_weight 49 = .ok (.freturn, 1) := dq0 (p := fun a b => decode cX4_weight a = .ok b) dm_cX4_weight_0 8 rfl
theorem dX4_weight_50 : decode cX4_weight 50 = .ok (.ldc 198, 2) := dq0 (p := fun a b => decode cX4_weight a = .ok b) dm_cX4_weight_0 9 rfl
theorem dX4_weight_52 : decode cX4_weight 52 = .ok (.freturn, 1) := dq0 (p := fun a b => decode cX4_weight a = .ok b) dm_cX4_weight_0 10 rfl
theorem dX4_weight_53 : decode cX4_weight 53 = .ok (.aload_n 0, 1) := dq0 (p := fun a b => decode cX4_weight a = .ok b) dm_cX4_weight_0 11 rfl
theorem dX4_weight_54 : decode cX4_weight 54 = .ok (.getfield 13, 3) := dq0 (p := fun a b => decode cX4_weight a = .ok b) dm_cX4_weight_0 12 rfl
theorem dX4_weight_57 : decode cX4_weight 57 = .ok (.bipush 64, 2) := dq0 (p := fun a b => decode cX4_weight a = .ok b) dm_cX4_weight_0 13 rfl
theorem dX4_weight_59 : decode cX4_weight 59 = .ok (.iload_n 1, 1) := dq0 (p := fun a b => decode cX4_weight a = .ok b) dm_cX4_weight_0 14 rfl
theorem dX4_weight_60 : decode cX4_weight 60 = .ok (.iadd, 1) := dq0 (p := fun a b => decode cX4_weight a = .ok b) dm_cX4_weight_0 15 rfl
theorem dX4_weight_61 : decode cX4_weight 61 = .ok (.iaload, 1) := dq0 (p := fun a b => decode cX4_weight a = .ok b) dm_cX4_weight_0 16 rfl
theorem dX4_weight_62 : decode cX4_weight 62 = .ok (.iconst (-1), 1) := dq0 (p := fun a b => decode cX4_weight a = .ok b) dm_cX4_weight_0 17 rfl
theorem dX4_weight_63 : decode cX4_weight 63 = .ok (.if_icmp .ne 8, 3) := dq0 (p := fun a b => decode cX4_weight a = .ok b) dm_cX4_weight_0 18 rfl
theorem dX4_weight_66 : decode cX4_weight 66 = .ok (.ldc 199, 2) := dq0 (p := fun a b => decode cX4_weight a = .ok b) dm_cX4_weight_0 19 rfl
theorem dX4_weight_68 : decode cX4_weight 68 = .ok (.goto 5, 3) := dq0 (p := fun a b => decode cX4_weight a = .ok b) dm_cX4_weight_0 20 rfl
theorem dX4_weight_71 : decode cX4_weight 71 = .ok (.ldc 200, 2) := dq0 (p := fun a b => decode cX4_weight a = .ok b) dm_cX4_weight_0 21 rfl
theorem dX4_weight_73 : decode cX4_weight 73 = .ok (.freturn, 1) := dq0 (p := fun a b => decode cX4_weight a = .ok b) dm_cX4_weight_0 22 rfl
theorem dX4_weight_74 : decode cX4_weight 74 = .ok (.fconst 1, 1) := dq0 (p := fun a b => decode cX4_weight a = .ok b) dm_cX4_weight_0 23 rfl
theorem dX4_weight_75 : decode cX4_weight 75 = .ok (.freturn, 1) := dq0 (p := fun a b => decode cX4_weight a = .ok b) dm_cX4_weight_0 24 rfl
theorem dX4_weight_76 : decode cX4_weight 76 = .ok (.fconst 0, 1) := dq0 (p := fun a b => decode cX4_weight a = .ok b) dm_cX4_weight_0 25 rfl
theorem dX4_weight_77 : decode cX4_weight 77 = .ok (.freturn, 1) := dq0 (p := fun a b => decode cX4_weight a = .ok b) dm_cX4_weight_0 26 rfl
theorem dm_cX4_strength_0 : ([(0, .fconst 0, 1), (1, .fstore_n 2, 1), (2, .iconst 0, 1), (3, .istore_n 3, 1), (4, .iload_n 3, 1), (5, .bipush 64, 2), (7, .if_icmp .ge 32, 3), (10, .aload_n 0, 1), (11, .getfield 13, 3), (14, .iload_n 3, 1), (15, .iload_n 1, 1), (16, .invokestatic 170, 3), (19, .invokestatic 76, 3), (22, .ifCond .eq 11, 3), (25, .fload_n 2, 1), (26, .aload_n 0, 1), (27, .iload_n 3, 1), (28, .invokevirtual 201, 3), (31, .fadd, 1), (32, .fstore_n 2, 1), (33, .iinc 3 1, 3), (36, .goto (-32), 3), (39, .fload_n 2, 1), (40, .ldc 205, 2), (42, .aload_n 0, 1), (43, .iload_n 1, 1), (44, .invokestatic 170, 3), (47, .invokevirtual 179, 3), (50, .invokestatic 206, 3), (53, .i2f, 1), (54, .fmul, 1), (55, .fadd, 1), (56, .freturn, 1)] : List (Nat × Instr × Nat)).all (fun t => decide (decode cX4_strength t.1 = .ok t.2)) = true := by decide +kernel
theorem dX4_strength_0 : decode cX4_strength 0 = .ok (.fconst 0, 1) := dq0 (p := fun a b => decode cX4_strength a = .ok b) dm_cX4_strength_0 0 rfl
theorem dX4_strength_1 : decode cX4_strength 1 = .ok (.fstore_n 2, 1) := dq0 (p := fun a b => decode cX4_strength a = .ok b) dm_cX4_strength_0 1 rfl
theorem dX4_strength_2 : decode cX4_strength 2 = .ok (.iconst 0, 1) := dq0 (p := fun a b => decode cX4_strength a = .ok b) dm_cX4_strength_0 2 rfl
theorem dX4_strength_3 : decode cX4_strength 3 = .ok (.istore_n 3, 1) := dq0 (p := fun a b => decode cX4_strength a = .ok b) dm_cX4_strength_0 3 rfl
theorem dX4_strength_4 : decode cX4_strength 4 = .ok (.iload_n 3, 1) := dq0 (p := fun a b => decode cX4_strength a = .ok b) dm_cX4_strength_0 4 rfl
theorem dX4_strength_5 : decode cX4_strength 5 = .ok (.bipush 64, 2) := dq0 (p := fun a b => decode cX4_strength a = .ok b) dm_cX4_strength_0 5 rfl
theorem dX4_strength_7 : decode cX4_strength 7 = .ok (.if_icmp .ge 32, 3) := dq0 (p := fun a b => decode cX4_strength a = .ok b) dm_cX4_strength_0 6 rfl
theorem dX4_strength_10 : decode cX4_strength 10 = .ok (.aload_n 0, 1) := dq0 (p := fun a b => decode cX4_strength a = .ok b) dm_cX4_strength_0 7 rfl
theorem dX4_strength_11 : decode cX4_strength 11 = .ok (.getfield 13, 3) := dq0 (p := fun a b => decode cX4_strength a = .ok b) dm_cX4_strength_0 8 rfl
theorem dX4_strength_14 : decode cX4_strength 14 = .ok (.iload_n 3, 1) := dq0 (p := fun a b => decode cX4_strength a = .ok b) dm_cX4_strength_0 9 rfl
theorem dX4_strength_15 : decode cX4_strength 15 = .ok (.iload_n 1, 1) := dq0 (p := fun a b => decode cX4_strength a = .ok b) dm_cX4_strength_0 10 rfl
theorem dX4_strength_16 : decode cX4_strength 16 = .ok (.invokestatic 170, 3) := dq0 (p := fun a b => decode cX4_strength a = .ok b) dm_cX4_strength_0 11 rfl
theorem dX4_strength_19 : decode cX4_strength 19 = .ok (.invokestatic 76, 3) := dq0 (p := fun a b => decode cX4_strength a = .ok b) dm_cX4_strength_0 12 rfl
theorem dX4_strength_22 : decode cX4_strength 22 = .ok (.ifCond .eq 11, 3) := dq0 (p := fun a b => decode cX4_strength a = .ok b) dm_cX4_strength_0 13 rfl
theorem dX4_strength_25 : decode cX4_strength 25 = .ok (.fload_n 2, 1) := dq0 (p := fun a b => decode cX4_strength a = .ok b) dm_cX4_strength_0 14 rfl
theorem dX4_strength_26 : decode cX4_strength 26 = .ok (.aload_n 0, 1) := dq0 (p := fun a b => decode cX4_strength a = .ok b) dm_cX4_strength_0 15 rfl
theorem dX4_strength_27 : decode cX4_strength 27 = .ok (.iload_n 3, 1) := dq0 (p := fun a b => decode cX4_strength a = .ok b) dm_cX4_strength_0 16 rfl
theorem dX4_strength_28 : decode cX4_strength 28 = .ok (.invokevirtual 201, 3) := dq0 (p := fun a b => decode cX4_strength a = .ok b) dm_cX4_strength_0 17 rfl
theorem dX4_strength_31 : decode cX4_strength 31 = .ok (.fadd, 1) := dq0 (p := fun a b => decode cX4_strength a = .ok b) dm_cX4_strength_0 18 rfl
theorem dX4_strength_32 : decode cX4_strength 32 = .ok (.fstore_n 2, 1) := dq0 (p := fun a b => decode cX4_strength a = .ok b) dm_cX4_strength_0 19 rfl
theorem dX4_strength_33 : decode cX4_strength 33 = .ok (.iinc 3 1, 3) := dq0 (p := fun a b => decode cX4_strength a = .ok b) dm_cX4_strength_0 20 rfl
theorem dX4_strength_36 : decode cX4_strength 36 = .ok (.goto (-32), 3) := dq0 (p := fun a b => decode cX4_strength a = .ok b) dm_cX4_strength_0 21 rfl
theorem dX4_strength_39 : decode cX4_strength 39 = .ok (.fload_n 2, 1) := dq0 (p := fun a b => decode cX4_strength a = .ok b) dm_cX4_strength_0 22 rfl
theorem dX4_strength_40 : decode cX4_strength 40 = .ok (.ldc 205, 2) := dq0 (p := fun a b => decode cX4_strength a = .ok b) dm_cX4_strength_0 23 rfl
theorem dX4_strength_42 : decode cX4_strength 42 = .ok (.aload_n 0, 1) := dq0 (p := fun a b => decode cX4_strength a = .ok b) dm_cX4_strength_0 24 rfl
theorem dX4_strength_43 : decode cX4_strength 43 = .ok (.iload_n 1, 1) := dq0 (p := fun a b => decode cX4_strength a = .ok b) dm_cX4_strength_0 25 rfl
theorem dX4_strength_44 : decode cX4_strength 44 = .ok (.invokestatic 170, 3) := dq0 (p := fun a b => decode cX4_strength a = .ok b) dm_cX4_strength_0 26 rfl
theorem dX4_strength_47 : decode cX4_strength 47 = .ok (.invokevirtual 179, 3) := dq0 (p := fun a b => decode cX4_strength a = .ok b) dm_cX4_strength_0 27 rfl
theorem dX4_strength_50 : decode cX4_strength 50 = .ok (.invokestatic 206, 3) := dq0 (p := fun a b => decode cX4_strength a = .ok b) dm_cX4_strength_0 28 rfl
theorem dX4_strength_53 : decode cX4_strength 53 = .ok (.i2f, 1) := dq0 (p := fun a b => decode cX4_strength a = .ok b) dm_cX4_strength_0 29 rfl
theorem dX4_strength_54 : decode cX4_strength 54 = .ok (.fmul, 1) := dq0 (p := fun a b => decode cX4_strength a = .ok b) dm_cX4_strength_0 30 rfl
theorem dX4_strength_55 : decode cX4_strength 55 = .ok (.fadd, 1) := dq0 (p := fun a b => decode cX4_strength a = .ok b) dm_cX4_strength_0 31 rfl
theorem dX4_strength_56 : decode cX4_strength 56 = .ok (.freturn, 1) := dq0 (p := fun a b => decode cX4_strength a = .ok b) dm_cX4_strength_0 32 rfl
theorem dm_cX4_strengthOf_0 : ([(0, .aload_n 0, 1), (1, .iconst 0, 1), (2, .putfield 44, 3), (5, .aload_n 0, 1), (6, .iload_n 1, 1), (7, .invokevirtual 212, 3), (10, .freturn, 1)] : List (Nat × Instr × Nat)).all (fun t => decide (decode cX4_strengthOf t.1 = .ok t.2)) = true := by decide +kernel
theorem dX4_strengthOf_0 : decode cX4_strengthOf 0 = .ok (.aload_n 0, 1) := dq0 (p := fun a b => decode cX4_strengthOf a = .ok b) dm_cX4_strengthOf_0 0 rfl
theorem dX4_strengthOf_1 : decode cX4_strengthOf 1 = .ok (.iconst 0, 1) := dq0 (p := fun a b => decode cX4_strengthOf a = .ok b) dm_cX4_strengthOf_0 1 rfl
theorem dX4_strengthOf_2 : decode cX4_strengthOf 2 = .ok (.putfield 44, 3) := dq0 (p := fun a b => decode cX4_strengthOf a = .ok b) dm_cX4_strengthOf_0 2 rfl
theorem dX4_strengthOf_5 : decode cX4_strengthOf 5 = .ok (.aload_n 0, 1) := dq0 (p := fun a b => decode cX4_strengthOf a = .ok b) dm_cX4_strengthOf_0 3 rfl
theorem dX4_strengthOf_6 : decode cX4_strengthOf 6 = .ok (.iload_n 1, 1) := dq0 (p := fun a b => decode cX4_strengthOf a = .ok b) dm_cX4_strengthOf_0 4 rfl
theorem dX4_strengthOf_7 : decode cX4_strengthOf 7 = .ok (.invokevirtual 212, 3) := dq0 (p := fun a b => decode cX4_strengthOf a = .ok b) dm_cX4_strengthOf_0 5 rfl
theorem dX4_strengthOf_10 : decode cX4_strengthOf 10 = .ok (.freturn, 1) := dq0 (p := fun a b => decode cX4_strengthOf a = .ok b) dm_cX4_strengthOf_0 6 rfl
theorem dm_cX4_strengthBits_0 : ([(0, .aload_n 0, 1), (1, .iconst 0, 1), (2, .putfield 44, 3), (5, .aload_n 0, 1), (6, .iload_n 1, 1), (7, .invokevirtual 212, 3), (10, .invokestatic 216, 3), (13, .ireturn, 1)] : List (Nat × Instr × Nat)).all (fun t => decide (decode cX4_strengthBits t.1 = .ok t.2)) = true := by decide +kernel
theorem dX4_strengthBits_0 : decode cX4_strengthBits 0 = .ok (.aload_n 0, 1) := dq0 (p := fun a b => decode cX4_strengthBits a = .ok b) dm_cX4_strengthBits_0 0 rfl
theorem dX4_strengthBits_1 : decode cX4_strengthBits 1 = .ok (.iconst 0, 1) := dq0 (p := fun a b => decode cX4_strengthBits a = .ok b) dm_cX4_strengthBits_0 1 rfl
theorem dX4_strengthBits_2 : decode cX4_strengthBits 2 = .ok (.putfield 44, 3) := dq0 (p := fun a b => decode cX4_strengthBits a = .ok b) dm_cX4_strengthBits_0 2 rfl
theorem dX4_strengthBits_5 : decode cX4_strengthBits 5 = .ok (.aload_n 0, 1) := dq0 (p := fun a b => decode cX4_strengthBits a = .ok b) dm_cX4_strengthBits_0 3 rfl
theorem dX4_strengthBits_6 : decode cX4_strengthBits 6 = .ok (.iload_n 1, 1) := dq0 (p := fun a b => decode cX4_strengthBits a = .ok b) dm_cX4_strengthBits_0 4 rfl
theorem dX4_strengthBits_7 : decode cX4_strengthBits 7 = .ok (.invokevirtual 212, 3) := dq0 (p := fun a b => decode cX4_strengthBits a = .ok b) dm_cX4_strengthBits_0 5 rfl
theorem dX4_strengthBits_10 : decode cX4_strengthBits 10 = .ok (.invokestatic 216, 3) := dq0 (p := fun a b => decode cX4_strengthBits a = .ok b) dm_cX4_strengthBits_0 6 rfl
theorem dX4_strengthBits_13 : decode cX4_strengthBits 13 = .ok (.ireturn, 1) := dq0 (p := fun a b => decode cX4_strengthBits a = .ok b) dm_cX4_strengthBits_0 7 rfl
theorem dm_cX4_balance_0 : ([(0, .aload_n 0, 1), (1, .iconst 0, 1), (2, .putfield 44, 3), (5, .aload_n 0, 1), (6, .iconst 1, 1), (7, .invokevirtual 212, 3), (10, .f2d, 1), (11, .aload_n 0, 1), (12, .iconst 0, 1), (13, .invokevirtual 212, 3), (16, .f2d, 1), (17, .dsub, 1), (18, .dreturn, 1)] : List (Nat × Instr × Nat)).all (fun t => decide (decode cX4_balance t.1 = .ok t.2)) = true := by decide +kernel
theorem dX4_balance_0 : decode cX4_balance 0 = .ok (.aload_n 0, 1) := dq0 (p := fun a b => decode cX4_balance a = .ok b) dm_cX4_balance_0 0 rfl
theorem dX4_balance_1 : decode cX4_balance 1 = .ok (.iconst 0, 1) := dq0 (p := fun a b => decode cX4_balance a = .ok b) dm_cX4_balance_0 1 rfl
theorem dX4_balance_2 : decode cX4_balance 2 = .ok (.putfield 44, 3) := dq0 (p := fun a b => decode cX4_balance a = .ok b) dm_cX4_balance_0 2 rfl
theorem dX4_balance_5 : decode cX4_balance 5 = .ok (.aload_n 0, 1) := dq0 (p := fun a b => decode cX4_balance a = .ok b) dm_cX4_balance_0 3 rfl
theorem dX4_balance_6 : decode cX4_balance 6 = .ok (.iconst 1, 1) := dq0 (p := fun a b => decode cX4_balance a = .ok b) dm_cX4_balance_0 4 rfl
theorem dX4_balance_7 : decode cX4_balance 7 = .ok (.invokevirtual 212, 3) := dq0 (p := fun a b => decode cX4_balance a = .ok b) dm_cX4_balance_0 5 rfl
theorem dX4_balance_10 : decode cX4_balance 10 = .ok (.f2d, 1) := dq0 (p := fun a b => decode cX4_balance a = .ok b) dm_cX4_balance_0 6 rfl
theorem dX4_balance_11 : decode cX4_balance 11 = .ok (.aload_n 0, 1) := dq0 (p := fun a b => decode cX4_balance a = .ok b) dm_cX4_balance_0 7 rfl
theorem dX4_balance_12 : decode cX4_balance 12 = .ok (.iconst 0, 1) := dq0 (p := fun a b => decode cX4_balance a = .ok b) dm_cX4_balance_0 8 rfl
theorem dX4_balance_13 : decode cX4_balance 13 = .ok (.invokevirtual 212, 3) := dq0 (p := fun a b => decode cX4_balance a = .ok b) dm_cX4_balance_0 9 rfl
theorem dX4_balance_16 : decode cX4_balance 16 = .ok (.f2d, 1) := dq0 (p := fun a b => decode cX4_balance a = .ok b) dm_cX4_balance_0 10 rfl
theorem dX4_balance_17 : decode cX4_balance 17 = .ok (.dsub, 1) := dq0 (p := fun a b => decode cX4_balance a = .ok b) dm_cX4_balance_0 11 rfl
theorem dX4_balance_18 : decode cX4_balance 18 = .ok (.dreturn, 1) := dq0 (p := fun a b => decode cX4_balance a = .ok b) dm_cX4_balance_0 12 rfl
theorem dm_cJxf58ca_isNaN_12338_0 : ([(0, .fload_n 0, 1), (1, .fload_n 0, 1), (2, .fcmp .l, 1), (3, .ifCond .eq 7, 3), (6, .iconst 1, 1), (7, .goto 4, 3), (10, .iconst 0, 1), (11, .ireturn, 1)] : List (Nat × Instr × Nat)).all (fun t => decide (decode cJxf58ca_isNaN_12338 t.1 = .ok t.2)) = true := by decide +kernel
theorem dJxf58ca_isNaN_12338_0 : decode cJxf58ca_isNaN_12338 0 = .ok (.fload_n 0, 1) := dq0 (p := fun a b => decode cJxf58ca_isNaN_12338 a = .ok b) dm_cJxf58ca_isNaN_12338_0 0 rfl
theorem dJxf58ca_isNaN_12338_1 : decode cJxf58ca_isNaN_12338 1 = .ok (.fload_n 0, 1) := dq0 (p := fun a b => decode cJxf58ca_isNaN_12338 a = .ok b) dm_cJxf58ca_isNaN_12338_0 1 rfl
theorem dJxf58ca_isNaN_12338_2 : decode cJxf58ca_isNaN_12338 2 = .ok (.fcmp .l, 1) := dq0 (p := fun a b => decode cJxf58ca_isNaN_12338 a = .ok b) dm_cJxf58ca_isNaN_12338_0 2 rfl
theorem dJxf58ca_isNaN_12338_3 : decode cJxf58ca_isNaN_12338 3 = .ok (.ifCond .eq 7, 3) := dq0 (p := fun a b => decode cJxf58ca_isNaN_12338 a = .ok b) dm_cJxf58ca_isNaN_12338_0 3 rfl
theorem dJxf58ca_isNaN_12338_6 : decode cJxf58ca_isNaN_12338 6 = .ok (.iconst 1, 1) := dq0 (p := fun a b => decode cJxf58ca_isNaN_12338 a = .ok b) dm_cJxf58ca_isNaN_12338_0 4 rfl
theorem dJxf58ca_isNaN_12338_7 : decode cJxf58ca_isNaN_12338 7 = .ok (.goto 4, 3) := dq0 (p := fun a b => decode cJxf58ca_isNaN_12338 a = .ok b) dm_cJxf58ca_isNaN_12338_0 5 rfl
theorem dJxf58ca_isNaN_12338_10 : decode cJxf58ca_isNaN_12338 10 = .ok (.iconst 0, 1) := dq0 (p := fun a b => decode cJxf58ca_isNaN_12338 a = .ok b) dm_cJxf58ca_isNaN_12338_0 6 rfl
theorem dJxf58ca_isNaN_12338_11 : decode cJxf58ca_isNaN_12338 11 = .ok (.ireturn, 1) := dq0 (p := fun a b => decode cJxf58ca_isNaN_12338 a = .ok b) dm_cJxf58ca_isNaN_12338_0 7 rfl
theorem dm_cJxf58ca_floatToIntBits_5c35a_0 : ([(0, .fload_n 0, 1), (1, .invokestatic 59, 3), (4, .ifCond .ne 8, 3), (7, .fload_n 0, 1), (8, .invokestatic 74, 3), (11, .ireturn, 1), (12, .ldc 77, 2), (14, .ireturn, 1)] : List (Nat × Instr × Nat)).all (fun t => decide (decode cJxf58ca_floatToIntBits_5c35a t.1 = .ok t.2)) = true := by decide +kernel
theorem dJxf58ca_floatToIntBits_5c35a_0 : decode cJxf58ca_floatToIntBits_5c35a 0 = .ok (.fload_n 0, 1) := dq0 (p := fun a b => decode cJxf58ca_floatToIntBits_5c35a a = .ok b) dm_cJxf58ca_floatToIntBits_5c35a_0 0 rfl
theorem dJxf58ca_floatToIntBits_5c35a_1 : decode cJxf58ca_floatToIntBits_5c35a 1 = .ok (.invokestatic 59, 3) := dq0 (p := fun a b => decode cJxf58ca_floatToIntBits_5c35a a = .ok b) dm_cJxf58ca_floatToIntBits_5c35a_0 1 rfl
theorem dJxf58ca_floatToIntBits_5c35a_4 : decode cJxf58ca_floatToIntBits_5c35a 4 = .ok (.ifCond .ne 8, 3) := dq0 (p := fun a b => decode cJxf58ca_floatToIntBits_5c35a a = .ok b) dm_cJxf58ca_floatToIntBits_5c35a_0 2 rfl
theorem dJxf58ca_floatToIntBits_5c35a_7 : decode cJxf58ca_floatToIntBits_5c35a 7 = .ok (.fload_n 0, 1) := dq0 (p := fun a b => decode cJxf58ca_floatToIntBits_5c35a a = .ok b) dm_cJxf58ca_floatToIntBits_5c35a_0 3 rfl
theorem dJxf58ca_floatToIntBits_5c35a_8 : decode cJxf58ca_floatToIntBits_5c35a 8 = .ok (.invokestatic 74, 3) := dq0 (p := fun a b => decode cJxf58ca_floatToIntBits_5c35a a = .ok b) dm_cJxf58ca_floatToIntBits_5c35a_0 4 rfl
theorem dJxf58ca_floatToIntBits_5c35a_11 : decode cJxf58ca_floatToIntBits_5c35a 11 = .ok (.ireturn, 1) := dq0 (p := fun a b => decode cJxf58ca_floatToIntBits_5c35a a = .ok b) dm_cJxf58ca_floatToIntBits_5c35a_0 5 rfl
theorem dJxf58ca_floatToIntBits_5c35a_12 : decode cJxf58ca_floatToIntBits_5c35a 12 = .ok (.ldc 77, 2) := dq0 (p := fun a b => decode cJxf58ca_floatToIntBits_5c35a a = .ok b) dm_cJxf58ca_floatToIntBits_5c35a_0 6 rfl
theorem dJxf58ca_floatToIntBits_5c35a_14 : decode cJxf58ca_floatToIntBits_5c35a 14 = .ok (.ireturn, 1) := dq0 (p := fun a b => decode cJxf58ca_floatToIntBits_5c35a a = .ok b) dm_cJxf58ca_floatToIntBits_5c35a_0 7 rfl
theorem dm_cJ6_compare_7cf53_0 : ([(0, .iload_n 0, 1), (1, .iload_n 1, 1), (2, .if_icmp .ge 7, 3), (5, .iconst (-1), 1), (6, .goto 13, 3), (9, .iload_n 0, 1), (10, .iload_n 1, 1), (11, .if_icmp .ne 7, 3), (14, .iconst 0, 1), (15, .goto 4, 3), (18, .iconst 1, 1), (19, .ireturn, 1)] : List (Nat × Instr × Nat)).all (fun t => decide (decode cJ6_compare_7cf53 t.1 = .ok t.2)) = true := by decide +kernel
theorem dJ6_compare_7cf53_0 : decode cJ6_compare_7cf53 0 = .ok (.iload_n 0, 1) := dq0 (p := fun a b => decode cJ6_compare_7cf53 a = .ok b) dm_cJ6_compare_7cf53_0 0 rfl
theorem dJ6_compare_7cf53_1 : decode cJ6_compare_7cf53 1 = .ok (.iload_n 1, 1) := dq0 (p := fun a b => decode cJ6_compare_7cf53 a = .ok b) dm_cJ6_compare_7cf53_0 1 rfl
theorem dJ6_compare_7cf53_2 : decode cJ6_compare_7cf53 2 = .ok (.if_icmp .ge 7, 3) := dq0 (p := fun a b => decode cJ6_compare_7cf53 a = .ok b) dm_cJ6_compare_7cf53_0 2 rfl
theorem dJ6_compare_7cf53_5 : decode cJ6_compare_7cf53 5 = .ok (.iconst (-1), 1) := dq0 (p := fun a b => decode cJ6_compare_7cf53 a = .ok b) dm_cJ6_compare_7cf53_0 3 rfl
theorem dJ6_compare_7cf53_6 : decode cJ6_compare_7cf53 6 = .ok (.goto 13, 3) := dq0 (p := fun a b => decode cJ6_compare_7cf53 a = .ok b) dm_cJ6_compare_7cf53_0 4 rfl
theorem dJ6_compare_7cf53_9 : decode cJ6_compare_7cf53 9 = .ok (.iload_n 0, 1) := dq0 (p := fun a b => decode cJ6_compare_7cf53 a = .ok b) dm_cJ6_compare_7cf53_0 5 rfl
theorem dJ6_compare_7cf53_10 : decode cJ6_compare_7cf53 10 = .ok (.iload_n 1, 1) := dq0 (p := fun a b => decode cJ6_compare_7cf53 a = .ok b) dm_cJ6_compare_7cf53_0 6 rfl
theorem dJ6_compare_7cf53_11 : decode cJ6_compare_7cf53 11 = .ok (.if_icmp .ne 7, 3) := dq0 (p := fun a b => decode cJ6_compare_7cf53 a = .ok b) dm_cJ6_compare_7cf53_0 7 rfl
theorem dJ6_compare_7cf53_14 : decode cJ6_compare_7cf53 14 = .ok (.iconst 0, 1) := dq0 (p := fun a b => decode cJ6_compare_7cf53 a = .ok b) dm_cJ6_compare_7cf53_0 8 rfl
theorem dJ6_compare_7cf53_15 : decode cJ6_compare_7cf53 15 = .ok (.goto 4, 3) := dq0 (p := fun a b => decode cJ6_compare_7cf53 a = .ok b) dm_cJ6_compare_7cf53_0 9 rfl
theorem dJ6_compare_7cf53_18 : decode cJ6_compare_7cf53 18 = .ok (.iconst 1, 1) := dq0 (p := fun a b => decode cJ6_compare_7cf53 a = .ok b) dm_cJ6_compare_7cf53_0 10 rfl
theorem dJ6_compare_7cf53_19 : decode cJ6_compare_7cf53 19 = .ok (.ireturn, 1) := dq0 (p := fun a b => decode cJ6_compare_7cf53 a = .ok b) dm_cJ6_compare_7cf53_0 11 rfl
theorem dm_cJ13_bitCount_95d88_0 : ([(0, .lload_n 0, 1), (1, .lload_n 0, 1), (2, .iconst 1, 1), (3, .lushr, 1), (4, .ldc2_w 314, 3), (7, .land, 1), (8, .lsub, 1), (9, .lstore_n 0, 1), (10, .lload_n 0, 1), (11, .ldc2_w 316, 3), (14, .land, 1), (15, .lload_n 0, 1), (16, .iconst 2, 1), (17, .lushr, 1), (18, .ldc2_w 316, 3), (21, .land, 1), (22, .ladd, 1), (23, .lstore_n 0, 1), (24, .lload_n 0, 1), (25, .lload_n 0, 1), (26, .iconst 4, 1), (27, .lushr, 1), (28, .ladd, 1), (29, .ldc2_w 318, 3), (32, .land, 1), (33, .lstore_n 0, 1), (34, .lload_n 0, 1), (35, .lload_n 0, 1), (36, .bipush 8, 2), (38, .lushr, 1), (39, .ladd, 1), (40, .lstore_n 0, 1), (41, .lload_n 0, 1), (42, .lload_n 0, 1), (43, .bipush 16, 2), (45, .lushr, 1), (46, .ladd, 1), (47, .lstore_n 0, 1), (48, .lload_n 0, 1), (49, .lload_n 0, 1), (50, .bipush 32, 2), (52, .lushr, 1), (53, .ladd, 1), (54, .lstore_n 0, 1), (55, .lload_n 0, 1), (56, .l2i, 1), (57, .bipush 127, 2), (59, .iand, 1), (60, .ireturn, 1)] : List (Nat × Instr × Nat)).all (fun t => decide (decode cJ13_bitCount_95d88 t.1 = .ok t.2)) = true := by decide +kernel
theorem dJ13_bitCount_95d88_0 : decode cJ13_bitCount_95d88 0 = .ok (.lload_n 0, 1) := dq0 (p := fun a b => decode cJ13_bitCount_95d88 a = .ok b) dm_cJ13_bitCount_95d88_0 0 rfl
theorem dJ13_bitCount_95d88_1 : decode cJ13_bitCount_95d88 1 = .ok (.lload_n 0, 1) := dq0 (p := fun a b => decode cJ13_bitCount_95d88 a = .ok b) dm_cJ13_bitCount_95d88_0 1 rfl
theorem dJ13_bitCount_95d88_2 : decode cJ13_bitCount_95d88 2 = .ok (.iconst 1, 1) := dq0 (p := fun a b => decode cJ13_bitCount_95d88 a = .ok b) dm_cJ13_bitCount_95d88_0 2 rfl
theorem dJ13_bitCount_95d88_3 : decode cJ13_bitCount_95d88 3 = .ok (.lushr, 1) := dq0 (p := fun a b => decode cJ13_bitCount_95d88 a = .ok b) dm_cJ13_bitCount_95d88_0 3 rfl
theorem dJ13_bitCount_95d88_4 : decode cJ13_bitCount_95d88 4 = .ok (.ldc2_w 314, 3) := dq0 (p := fun a b => decode cJ13_bitCount_95d88 a = .ok b) dm_cJ13_bitCount_95d88_0 4 rfl
theorem dJ13_bitCount_95d88_7 : decode cJ13_bitCount_95d88 7 = .ok (.land, 1) := dq0 (p := fun a b => decode cJ13_bitCount_95d88 a = .ok b) dm_cJ13_bitCount_95d88_0 5 rfl
theorem dJ13_bitCount_95d88_8 : decode cJ13_bitCount_95d88 8 = .ok (.lsub, 1) := dq0 (p := fun a b => decode cJ13_bitCount_95d88 a = .ok b) dm_cJ13_bitCount_95d88_0 6 rfl
theorem dJ13_bitCount_95d88_9 : decode cJ13_bitCount_95d88 9 = .ok (.lstore_n 0, 1) := dq0 (p := fun a b => decode cJ13_bitCount_95d88 a = .ok b) dm_cJ13_bitCount_95d88_0 7 rfl
theorem dJ13_bitCount_95d88_10 : decode cJ13_bitCount_95d88 10 = .ok (.lload_n 0, 1) := dq0 (p := fun a b => decode cJ13_bitCount_95d88 a = .ok b) dm_cJ13_bitCount_95d88_0 8 rfl
theorem dJ13_bitCount_95d88_11 : decode cJ13_bitCount_95d88 11 = .ok (.ldc2_w 316, 3) := dq0 (p := fun a b => decode cJ13_bitCount_95d88 a = .ok b) dm_cJ13_bitCount_95d88_0 9 rfl
theorem dJ13_bitCount_95d88_14 : decode cJ13_bitCount_95d88 14 = .ok (.land, 1) := dq0 (p := fun a b => decode cJ13_bitCount_95d88 a = .ok b) dm_cJ13_bitCount_95d88_0 10 rfl
theorem dJ13_bitCount_95d88_15 : decode cJ13_bitCount_95d88 15 = .ok (.lload_n 0, 1) := dq0 (p := fun a b => decode cJ13_bitCount_95d88 a = .ok b) dm_cJ13_bitCount_95d88_0 11 rfl
theorem dJ13_bitCount_95d88_16 : decode cJ13_bitCount_95d88 16 = .ok (.iconst 2, 1) := dq0 (p := fun a b => decode cJ13_bitCount_95d88 a = .ok b) dm_cJ13_bitCount_95d88_0 12 rfl
theorem dJ13_bitCount_95d88_17 : decode cJ13_bitCount_95d88 17 = .ok (.lushr, 1) := dq0 (p := fun a b => decode cJ13_bitCount_95d88 a = .ok b) dm_cJ13_bitCount_95d88_0 13 rfl
theorem dJ13_bitCount_95d88_18 : decode cJ13_bitCount_95d88 18 = .ok (.ldc2_w 316, 3) := dq0 (p := fun a b => decode cJ13_bitCount_95d88 a = .ok b) dm_cJ13_bitCount_95d88_0 14 rfl
theorem dJ13_bitCount_95d88_21 : decode cJ13_bitCount_95d88 21 = .ok (.land, 1) := dq0 (p := fun a b => decode cJ13_bitCount_95d88 a = .ok b) dm_cJ13_bitCount_95d88_0 15 rfl
theorem dJ13_bitCount_95d88_22 : decode cJ13_bitCount_95d88 22 = .ok (.ladd, 1) := dq0 (p := fun a b => decode cJ13_bitCount_95d88 a = .ok b) dm_cJ13_bitCount_95d88_0 16 rfl
theorem dJ13_bitCount_95d88_23 : decode cJ13_bitCount_95d88 23 = .ok (.lstore_n 0, 1) := dq0 (p := fun a b => decode cJ13_bitCount_95d88 a = .ok b) dm_cJ13_bitCount_95d88_0 17 rfl
theorem dJ13_bitCount_95d88_24 : decode cJ13_bitCount_95d88 24 = .ok (.lload_n 0, 1) := dq0 (p := fun a b => decode cJ13_bitCount_95d88 a = .ok b) dm_cJ13_bitCount_95d88_0 18 rfl
theorem dJ13_bitCount_95d88_25 : decode cJ13_bitCount_95d88 25 = .ok (.lload_n 0, 1) := dq0 (p := fun a b => decode cJ13_bitCount_95d88 a = .ok b) dm_cJ13_bitCount_95d88_0 19 rfl
theorem dJ13_bitCount_95d88_26 : decode cJ13_bitCount_95d88 26 = .ok (.iconst 4, 1) := dq0 (p := fun a b => decode cJ13_bitCount_95d88 a = .ok b) dm_cJ13_bitCount_95d88_0 20 rfl
theorem dJ13_bitCount_95d88_27 : decode cJ13_bitCount_95d88 27 = .ok (.lushr, 1) := dq0 (p := fun a b => decode cJ13_bitCount_95d88 a = .ok b) dm_cJ13_bitCount_95d88_0 21 rfl
theorem dJ13_bitCount_95d88_28 : decode cJ13_bitCount_95d88 28 = .ok (.ladd, 1) := dq0 (p := fun a b => decode cJ13_bitCount_95d88 a = .ok b) dm_cJ13_bitCount_95d88_0 22 rfl
theorem dJ13_bitCount_95d88_29 : decode cJ13_bitCount_95d88 29 = .ok (.ldc2_w 318, 3) := dq0 (p := fun a b => decode cJ13_bitCount_95d88 a = .ok b) dm_cJ13_bitCount_95d88_0 23 rfl
theorem dJ13_bitCount_95d88_32 : decode cJ13_bitCount_95d88 32 = .ok (.land, 1) := dq0 (p := fun a b => decode cJ13_bitCount_95d88 a = .ok b) dm_cJ13_bitCount_95d88_0 24 rfl
theorem dJ13_bitCount_95d88_33 : decode cJ13_bitCount_95d88 33 = .ok (.lstore_n 0, 1) := dq0 (p := fun a b => decode cJ13_bitCount_95d88 a = .ok b) dm_cJ13_bitCount_95d88_0 25 rfl
theorem dJ13_bitCount_95d88_34 : decode cJ13_bitCount_95d88 34 = .ok (.lload_n 0, 1) := dq0 (p := fun a b => decode cJ13_bitCount_95d88 a = .ok b) dm_cJ13_bitCount_95d88_0 26 rfl
theorem dJ13_bitCount_95d88_35 : decode cJ13_bitCount_95d88 35 = .ok (.lload_n 0, 1) := dq0 (p := fun a b => decode cJ13_bitCount_95d88 a = .ok b) dm_cJ13_bitCount_95d88_0 27 rfl
theorem dJ13_bitCount_95d88_36 : decode cJ13_bitCount_95d88 36 = .ok (.bipush 8, 2) := dq0 (p := fun a b => decode cJ13_bitCount_95d88 a = .ok b) dm_cJ13_bitCount_95d88_0 28 rfl
theorem dJ13_bitCount_95d88_38 : decode cJ13_bitCount_95d88 38 = .ok (.lushr, 1) := dq0 (p := fun a b => decode cJ13_bitCount_95d88 a = .ok b) dm_cJ13_bitCount_95d88_0 29 rfl
theorem dJ13_bitCount_95d88_39 : decode cJ13_bitCount_95d88 39 = .ok (.ladd, 1) := dq0 (p := fun a b => decode cJ13_bitCount_95d88 a = .ok b) dm_cJ13_bitCount_95d88_0 30 rfl
theorem dJ13_bitCount_95d88_40 : decode cJ13_bitCount_95d88 40 = .ok (.lstore_n 0, 1) := dq0 (p := fun a b => decode cJ13_bitCount_95d88 a = .ok b) dm_cJ13_bitCount_95d88_0 31 rfl
theorem dJ13_bitCount_95d88_41 : decode cJ13_bitCount_95d88 41 = .ok (.lload_n 0, 1) := dq0 (p := fun a b => decode cJ13_bitCount_95d88 a = .ok b) dm_cJ13_bitCount_95d88_0 32 rfl
theorem dJ13_bitCount_95d88_42 : decode cJ13_bitCount_95d88 42 = .ok (.lload_n 0, 1) := dq0 (p := fun a b => decode cJ13_bitCount_95d88 a = .ok b) dm_cJ13_bitCount_95d88_0 33 rfl
theorem dJ13_bitCount_95d88_43 : decode cJ13_bitCount_95d88 43 = .ok (.bipush 16, 2) := dq0 (p := fun a b => decode cJ13_bitCount_95d88 a = .ok b) dm_cJ13_bitCount_95d88_0 34 rfl
theorem dJ13_bitCount_95d88_45 : decode cJ13_bitCount_95d88 45 = .ok (.lushr, 1) := dq0 (p := fun a b => decode cJ13_bitCount_95d88 a = .ok b) dm_cJ13_bitCount_95d88_0 35 rfl
theorem dJ13_bitCount_95d88_46 : decode cJ13_bitCount_95d88 46 = .ok (.ladd, 1) := dq0 (p := fun a b => decode cJ13_bitCount_95d88 a = .ok b) dm_cJ13_bitCount_95d88_0 36 rfl
theorem dJ13_bitCount_95d88_47 : decode cJ13_bitCount_95d88 47 = .ok (.lstore_n 0, 1) := dq0 (p := fun a b => decode cJ13_bitCount_95d88 a = .ok b) dm_cJ13_bitCount_95d88_0 37 rfl
theorem dJ13_bitCount_95d88_48 : decode cJ13_bitCount_95d88 48 = .ok (.lload_n 0, 1) := dq0 (p := fun a b => decode cJ13_bitCount_95d88 a = .ok b) dm_cJ13_bitCount_95d88_0 38 rfl
theorem dJ13_bitCount_95d88_49 : decode cJ13_bitCount_95d88 49 = .ok (.lload_n 0, 1) := dq0 (p := fun a b => decode cJ13_bitCount_95d88 a = .ok b) dm_cJ13_bitCount_95d88_0 39 rfl
theorem dJ13_bitCount_95d88_50 : decode cJ13_bitCount_95d88 50 = .ok (.bipush 32, 2) := dq0 (p := fun a b => decode cJ13_bitCount_95d88 a = .ok b) dm_cJ13_bitCount_95d88_0 40 rfl
theorem dJ13_bitCount_95d88_52 : decode cJ13_bitCount_95d88 52 = .ok (.lushr, 1) := dq0 (p := fun a b => decode cJ13_bitCount_95d88 a = .ok b) dm_cJ13_bitCount_95d88_0 41 rfl
theorem dJ13_bitCount_95d88_53 : decode cJ13_bitCount_95d88 53 = .ok (.ladd, 1) := dq0 (p := fun a b => decode cJ13_bitCount_95d88 a = .ok b) dm_cJ13_bitCount_95d88_0 42 rfl
theorem dJ13_bitCount_95d88_54 : decode cJ13_bitCount_95d88 54 = .ok (.lstore_n 0, 1) := dq0 (p := fun a b => decode cJ13_bitCount_95d88 a = .ok b) dm_cJ13_bitCount_95d88_0 43 rfl
theorem dJ13_bitCount_95d88_55 : decode cJ13_bitCount_95d88 55 = .ok (.lload_n 0, 1) := dq0 (p := fun a b => decode cJ13_bitCount_95d88 a = .ok b) dm_cJ13_bitCount_95d88_0 44 rfl
theorem dJ13_bitCount_95d88_56 : decode cJ13_bitCount_95d88 56 = .ok (.l2i, 1) := dq0 (p := fun a b => decode cJ13_bitCount_95d88 a = .ok b) dm_cJ13_bitCount_95d88_0 45 rfl
theorem dJ13_bitCount_95d88_57 : decode cJ13_bitCount_95d88 57 = .ok (.bipush 127, 2) := dq0 (p := fun a b => decode cJ13_bitCount_95d88 a = .ok b) dm_cJ13_bitCount_95d88_0 46 rfl
theorem dJ13_bitCount_95d88_59 : decode cJ13_bitCount_95d88 59 = .ok (.iand, 1) := dq0 (p := fun a b => decode cJ13_bitCount_95d88 a = .ok b) dm_cJ13_bitCount_95d88_0 47 rfl
theorem dJ13_bitCount_95d88_60 : decode cJ13_bitCount_95d88 60 = .ok (.ireturn, 1) := dq0 (p := fun a b => decode cJ13_bitCount_95d88 a = .ok b) dm_cJ13_bitCount_95d88_0 48 rfl
theorem dm_cJ9_max_7cf53_0 : ([(0, .iload_n 0, 1), (1, .iload_n 1, 1), (2, .if_icmp .lt 7, 3), (5, .iload_n 0, 1), (6, .goto 4, 3), (9, .iload_n 1, 1), (10, .ireturn, 1)] : List (Nat × Instr × Nat)).all (fun t => decide (decode cJ9_max_7cf53 t.1 = .ok t.2)) = true := by decide +kernel
theorem dJ9_max_7cf53_0 : decode cJ9_max_7cf53 0 = .ok (.iload_n 0, 1) := dq0 (p := fun a b => decode cJ9_max_7cf53 a = .ok b) dm_cJ9_max_7cf53_0 0 rfl
theorem dJ9_max_7cf53_1 : decode cJ9_max_7cf53 1 = .ok (.iload_n 1, 1) := dq0 (p := fun a b => decode cJ9_max_7cf53 a = .ok b) dm_cJ9_max_7cf53_0 1 rfl
theorem dJ9_max_7cf53_2 : decode cJ9_max_7cf53 2 = .ok (.if_icmp .lt 7, 3) := dq0 (p := fun a b => decode cJ9_max_7cf53 a = .ok b) dm_cJ9_max_7cf53_0 2 rfl
theorem dJ9_max_7cf53_5 : decode cJ9_max_7cf53 5 = .ok (.iload_n 0, 1) := dq0 (p := fun a b => decode cJ9_max_7cf53 a = .ok b) dm_cJ9_max_7cf53_0 3 rfl
theorem dJ9_max_7cf53_6 : decode cJ9_max_7cf53 6 = .ok (.goto 4, 3) := dq0 (p := fun a b => decode cJ9_max_7cf53 a = .ok b) dm_cJ9_max_7cf53_0 4 rfl
theorem dJ9_max_7cf53_9 : decode cJ9_max_7cf53 9 = .ok (.iload_n 1, 1) := dq0 (p := fun a b => decode cJ9_max_7cf53 a = .ok b) dm_cJ9_max_7cf53_0 5 rfl
theorem dJ9_max_7cf53_10 : decode cJ9_max_7cf53 10 = .ok (.ireturn, 1) := dq0 (p := fun a b => decode cJ9_max_7cf53 a = .ok b) dm_cJ9_max_7cf53_0 6 rfl
theorem dm_cJ7_fill_d0a16_0 : ([(0, .iconst 0, 1), (1, .istore_n 3, 1), (2, .aload_n 0, 1), (3, .arraylength, 1), (4, .istore 4, 2), (6, .iload_n 3, 1), (7, .iload 4, 2), (9, .if_icmp .ge 13, 3), (12, .aload_n 0, 1), (13, .iload_n 3, 1), (14, .lload_n 1, 1), (15, .lastore, 1), (16, .iinc 3 1, 3), (19, .goto (-13), 3), (22, .return_, 1)] : List (Nat × Instr × Nat)).all (fun t => decide (decode cJ7_fill_d0a16 t.1 = .ok t.2)) = true := by decide +kernel
theorem dJ7_fill_d0a16_0 : decode cJ7_fill_d0a16 0 = .ok (.iconst 0, 1) := dq0 (p := fun a b => decode cJ7_fill_d0a16 a = .ok b) dm_cJ7_fill_d0a16_0 0 rfl
theorem dJ7_fill_d0a16_1 : decode cJ7_fill_d0a16 1 = .ok (.istore_n 3, 1) := dq0 (p := fun a b => decode cJ7_fill_d0a16 a = .ok b) dm_cJ7_fill_d0a16_0 1 rfl
theorem dJ7_fill_d0a16_2 : decode cJ7_fill_d0a16 2 = .ok (.aload_n 0, 1) := dq0 (p := fun a b => decode cJ7_fill_d0a16 a = .ok b) dm_cJ7_fill_d0a16_0 2 rfl
theorem dJ7_fill_d0a16_3 : decode cJ7_fill_d0a16 3 = .ok (.arraylength, 1) := dq0 (p := fun a b => decode cJ7_fill_d0a16 a = .ok b) dm_cJ7_fill_d0a16_0 3 rfl
theorem dJ7_fill_d0a16_4 : decode cJ7_fill_d0a16 4 = .ok (.istore 4, 2) := dq0 (p := fun a b => decode cJ7_fill_d0a16 a = .ok b) dm_cJ7_fill_d0a16_0 4 rfl
theorem dJ7_fill_d0a16_6 : decode cJ7_fill_d0a16 6 = .ok (.iload_n 3, 1) := dq0 (p := fun a b => decode cJ7_fill_d0a16 a = .ok b) dm_cJ7_fill_d0a16_0 5 rfl
theorem dJ7_fill_d0a16_7 : decode cJ7_fill_d0a16 7 = .ok (.iload 4, 2) := dq0 (p := fun a b => decode cJ7_fill_d0a16 a = .ok b) dm_cJ7_fill_d0a16_0 6 rfl
theorem dJ7_fill_d0a16_9 : decode cJ7_fill_d0a16 9 = .ok (.if_icmp .ge 13, 3) := dq0 (p := fun a b => decode cJ7_fill_d0a16 a = .ok b) dm_cJ7_fill_d0a16_0 7 rfl
theorem dJ7_fill_d0a16_12 : decode cJ7_fill_d0a16 12 = .ok (.aload_n 0, 1) := dq0 (p := fun a b => decode cJ7_fill_d0a16 a = .ok b) dm_cJ7_fill_d0a16_0 8 rfl
theorem dJ7_fill_d0a16_13 : decode cJ7_fill_d0a16 13 = .ok (.iload_n 3, 1) := dq0 (p := fun a b => decode cJ7_fill_d0a16 a = .ok b) dm_cJ7_fill_d0a16_0 9 rfl
theorem dJ7_fill_d0a16_14 : decode cJ7_fill_d0a16 14 = .ok (.lload_n 1, 1) := dq0 (p := fun a b => decode cJ7_fill_d0a16 a = .ok b) dm_cJ7_fill_d0a16_0 10 rfl
theorem dJ7_fill_d0a16_15 : decode cJ7_fill_d0a16 15 = .ok (.lastore, 1) := dq0 (p := fun a b => decode cJ7_fill_d0a16 a = .ok b) dm_cJ7_fill_d0a16_0 11 rfl
theorem dJ7_fill_d0a16_16 : decode cJ7_fill_d0a16 16 = .ok (.iinc 3 1, 3) := dq0 (p := fun a b => decode cJ7_fill_d0a16 a = .ok b) dm_cJ7_fill_d0a16_0 12 rfl
theorem dJ7_fill_d0a16_19 : decode cJ7_fill_d0a16 19 = .ok (.goto (-13), 3) := dq0 (p := fun a b => decode cJ7_fill_d0a16 a = .ok b) dm_cJ7_fill_d0a16_0 13 rfl
theorem dJ7_fill_d0a16_22 : decode cJ7_fill_d0a16 22 = .ok (.return_, 1) := dq0 (p := fun a b => decode cJ7_fill_d0a16 a = .ok b) dm_cJ7_fill_d0a16_0 14 rfl
theorem dm_cJ7_fill_53178_0 : ([(0, .iconst 0, 1), (1, .istore_n 2, 1), (2, .aload_n 0, 1), (3, .arraylength, 1), (4, .istore_n 3, 1), (5, .iload_n 2, 1), (6, .iload_n 3, 1), (7, .if_icmp .ge 13, 3), (10, .aload_n 0, 1), (11, .iload_n 2, 1), (12, .iload_n 1, 1), (13, .iastore, 1), (14, .iinc 2 1, 3), (17, .goto (-12), 3), (20, .return_, 1)] : List (Nat × Instr × Nat)).all (fun t => decide (decode cJ7_fill_53178 t.1 = .ok t.2)) = true := by decide +kernel
theorem dJ7_fill_53178_0 : decode cJ7_fill_53178 0 = .ok (.iconst 0, 1) := dq0 (p := fun a b => decode cJ7_fill_53178 a = .ok b) dm_cJ7_fill_53178_0 0 rfl
theorem dJ7_fill_53178_1 : decode cJ7_fill_53178 1 = .ok (.istore_n 2, 1) := dq0 (p := fun a b => decode cJ7_fill_53178 a = .ok b) dm_cJ7_fill_53178_0 1 rfl
theorem dJ7_fill_53178_2 : decode cJ7_fill_53178 2 = .ok (.aload_n 0, 1) := dq0 (p := fun a b => decode cJ7_fill_53178 a = .ok b) dm_cJ7_fill_53178_0 2 rfl
theorem dJ7_fill_53178_3 : decode cJ7_fill_53178 3 = .ok (.arraylength, 1) := dq0 (p := fun a b => decode cJ7_fill_53178 a = .ok b) dm_cJ7_fill_53178_0 3 rfl
theorem dJ7_fill_53178_4 : decode cJ7_fill_53178 4 = .ok (.istore_n 3, 1) := dq0 (p := fun a b => decode cJ7_fill_53178 a = .ok b) dm_cJ7_fill_53178_0 4 rfl
theorem dJ7_fill_53178_5 : decode cJ7_fill_53178 5 = .ok (.iload_n 2, 1) := dq0 (p := fun a b => decode cJ7_fill_53178 a = .ok b) dm_cJ7_fill_53178_0 5 rfl
theorem dJ7_fill_53178_6 : decode cJ7_fill_53178 6 = .ok (.iload_n 3, 1) := dq0 (p := fun a b => decode cJ7_fill_53178 a = .ok b) dm_cJ7_fill_53178_0 6 rfl
theorem dJ7_fill_53178_7 : decode cJ7_fill_53178 7 = .ok (.if_icmp .ge 13, 3) := dq0 (p := fun a b => decode cJ7_fill_53178 a = .ok b) dm_cJ7_fill_53178_0 7 rfl
theorem dJ7_fill_53178_10 : decode cJ7_fill_53178 10 = .ok (.aload_n 0, 1) := dq0 (p := fun a b => decode cJ7_fill_53178 a = .ok b) dm_cJ7_fill_53178_0 8 rfl
theorem dJ7_fill_53178_11 : decode cJ7_fill_53178 11 = .ok (.iload_n 2, 1) := dq0 (p := fun a b => decode cJ7_fill_53178 a = .ok b) dm_cJ7_fill_53178_0 9 rfl
theorem dJ7_fill_53178_12 : decode cJ7_fill_53178 12 = .ok (.iload_n 1, 1) := dq0 (p := fun a b => decode cJ7_fill_53178 a = .ok b) dm_cJ7_fill_53178_0 10 rfl
theorem dJ7_fill_53178_13 : decode cJ7_fill_53178 13 = .ok (.iastore, 1) := dq0 (p := fun a b => decode cJ7_fill_53178 a = .ok b) dm_cJ7_fill_53178_0 11 rfl
theorem dJ7_fill_53178_14 : decode cJ7_fill_53178 14 = .ok (.iinc 2 1, 3) := dq0 (p := fun a b => decode cJ7_fill_53178 a = .ok b) dm_cJ7_fill_53178_0 12 rfl
theorem dJ7_fill_53178_17 : decode cJ7_fill_53178 17 = .ok (.goto (-12), 3) := dq0 (p := fun a b => decode cJ7_fill_53178 a = .ok b) dm_cJ7_fill_53178_0 13 rfl
theorem dJ7_fill_53178_20 : decode cJ7_fill_53178 20 = .ok (.return_, 1) := dq0 (p := fun a b => decode cJ7_fill_53178 a = .ok b) dm_cJ7_fill_53178_0 14 rfl
theorem dm_cL_place_0 : ([(0, .aload 4, 2), (2, .iconst 0, 1), (3, .aload_n 0, 1), (4, .iload_n 1, 1), (5, .iload_n 2, 1), (6, .iload_n 3, 1), (7, .invokevirtual 7, 3), (10, .i2l, 1), (11, .lastore, 1), (12, .goto 15, 3), (15, .astore 5, 2), (17, .iconst 1, 1), (18, .ireturn, 1), (19, .astore 5, 2), (21, .iconst 2, 1), (22, .ireturn, 1), (23, .astore 5, 2), (25, .iconst 3, 1), (26, .ireturn, 1), (27, .iconst 0, 1), (28, .ireturn, 1)] : List (Nat × Instr × Nat)).all (fun t => decide (decode cL_place t.1 = .ok t.2)) = true := by decide +kernel
theorem dL_place_0 : decode cL_place 0 = .ok (.aload 4, 2) := dq0 (p := fun a b => decode cL_place a = .ok b) dm_cL_place_0 0 rfl
theorem dL_place_2 : decode cL_place 2 = .ok (.iconst 0, 1) := dq0 (p := fun a b => decode cL_place a = .ok b) dm_cL_place_0 1 rfl
theorem dL_place_3 : decode cL_place 3 = .ok (.aload_n 0, 1) := dq0 (p := fun a b => decode cL_place a = .ok b) dm_cL_place_0 2 rfl
theorem dL_place_4 : decode cL_place 4 = .ok (.iload_n 1, 1) := dq0 (p := fun a b => decode cL_place a = .ok b) dm_cL_place_0 3 rfl
theorem dL_place_5 : decode cL_place 5 = .ok (.iload_n 2, 1) := dq0 (p := fun a b => decode cL_place a = .ok b) dm_cL_place_0 4 rfl
theorem dL_place_6 : decode cL_place 6 = .ok (.iload_n 3, 1) := dq0 (p := fun a b => decode cL_place a = .ok b) dm_cL_place_0 5 rfl
theorem dL_place_7 : decode cL_place 7 = .ok (.invokevirtual 7, 3) := dq0 (p := fun a b => decode cL_place a = .ok b) dm_cL_place_0 6 rfl
theorem dL_place_10 : decode cL_place 10 = .ok (.i2l, 1) := dq0 (p := fun a b => decode cL_place a = .ok b) dm_cL_place_0 7 rfl
theorem dL_place_11 : decode cL_place 11 = .ok (.lastore, 1) := dq0 (p := fun a b => decode cL_place a = .ok b) dm_cL_place_0 8 rfl
theorem dL_place_12 : decode cL_place 12 = .ok (.goto 15, 3) := dq0 (p := fun a b => decode cL_place a = .ok b) dm_cL_place_0 9 rfl
theorem dL_place_15 : decode cL_place 15 = .ok (.astore 5, 2) := dq0 (p := fun a b => decode cL_place a = .ok b) dm_cL_place_0 10 rfl
theorem dL_place_17 : decode cL_place 17 = .ok (.iconst 1, 1) := dq0 (p := fun a b => decode cL_place a = .ok b) dm_cL_place_0 11 rfl
theorem dL_place_18 : decode cL_place 18 = .ok (.ireturn, 1) := dq0 (p := fun a b => decode cL_place a = .ok b) dm_cL_place_0 12 rfl
theorem dL_place_19 : decode cL_place 19 = .ok (.astore 5, 2) := dq0 (p := fun a b => decode cL_place a = .ok b) dm_cL_place_0 13 rfl
theorem dL_place_21 : decode cL_place 21 = .ok (.iconst 2, 1) := dq0 (p := fun a b => decode cL_place a = .ok b) dm_cL_place_0 14 rfl
theorem dL_place_22 : decode cL_place 22 = .ok (.ireturn, 1) := dq0 (p := fun a b => decode cL_place a = .ok b) dm_cL_place_0 15 rfl
theorem dL_place_23 : decode cL_place 23 = .ok (.astore 5, 2) := dq0 (p := fun a b => decode cL_place a = .ok b) dm_cL_place_0 16 rfl
theorem dL_place_25 : decode cL_place 25 = .ok (.iconst 3, 1) := dq0 (p := fun a b => decode cL_place a = .ok b) dm_cL_place_0 17 rfl
theorem dL_place_26 : decode cL_place 26 = .ok (.ireturn, 1) := dq0 (p := fun a b => decode cL_place a = .ok b) dm_cL_place_0 18 rfl
theorem dL_place_27 : decode cL_place 27 = .ok (.iconst 0, 1) := dq0 (p := fun a b => decode cL_place a = .ok b) dm_cL_place_0 19 rfl
theorem dL_place_28 : decode cL_place 28 = .ok (.ireturn, 1) := dq0 (p := fun a b => decode cL_place a = .ok b) dm_cL_place_0 20 rfl
theorem dm_cL_remove_0 : ([(0, .aload_n 2, 1), (1, .iconst 0, 1), (2, .aload_n 0, 1), (3, .iload_n 1, 1), (4, .invokevirtual 19, 3), (7, .i2l, 1), (8, .lastore, 1), (9, .goto 9, 3), (12, .astore_n 3, 1), (13, .iconst 1, 1), (14, .ireturn, 1), (15, .astore_n 3, 1), (16, .iconst 2, 1), (17, .ireturn, 1), (18, .iconst 0, 1), (19, .ireturn, 1)] : List (Nat × Instr × Nat)).all (fun t => decide (decode cL_remove t.1 = .ok t.2)) = true := by decide +kernel
theorem dL_remove_0 : decode cL_remove 0 = .ok (.aload_n 2, 1) := dq0 (p := fun a b => decode cL_remove a = .ok b) dm_cL_remove_0 0 rfl
theorem dL_remove_1 : decode cL_remove 1 = .ok (.iconst 0, 1) := dq0 (p := fun a b => decode cL_remove a = .ok b) dm_cL_remove_0 1 rfl
theorem dL_remove_2 : decode cL_remove 2 = .ok (.aload_n 0, 1) := dq0 (p := fun a b => decode cL_remove a = .ok b) dm_cL_remove_0 2 rfl
theorem dL_remove_3 : decode cL_remove 3 = .ok (.iload_n 1, 1) := dq0 (p := fun a b => decode cL_remove a = .ok b) dm_cL_remove_0 3 rfl
theorem dL_remove_4 : decode cL_remove 4 = .ok (.invokevirtual 19, 3) := dq0 (p := fun a b => decode cL_remove a = .ok b) dm_cL_remove_0 4 rfl
theorem dL_remove_7 : decode cL_remove 7 = .ok (.i2l, 1) := dq0 (p := fun a b => decode cL_remove a = .ok b) dm_cL_remove_0 5 rfl
theorem dL_remove_8 : decode cL_remove 8 = .ok (.lastore, 1) := dq0 (p := fun a b => decode cL_remove a = .ok b) dm_cL_remove_0 6 rfl
theorem dL_remove_9 : decode cL_remove 9 = .ok (.goto 9, 3) := dq0 (p := fun a b => decode cL_remove a = .ok b) dm_cL_remove_0 7 rfl
theorem dL_remove_12 : decode cL_remove 12 = .ok (.astore_n 3, 1) := dq0 (p := fun a b => decode cL_remove a = .ok b) dm_cL_remove_0 8 rfl
theorem dL_remove_13 : decode cL_remove 13 = .ok (.iconst 1, 1) := dq0 (p := fun a b => decode cL_remove a = .ok b) dm_cL_remove_0 9 rfl
theorem dL_remove_14 : decode cL_remove 14 = .ok (.ireturn, 1) := dq0 (p := fun a b => decode cL_remove a = .ok b) dm_cL_remove_0 10 rfl
theorem dL_remove_15 : decode cL_remove 15 = .ok (.astore_n 3, 1) := dq0 (p := fun a b => decode cL_remove a = .ok b) dm_cL_remove_0 11 rfl
theorem dL_remove_16 : decode cL_remove 16 = .ok (.iconst 2, 1) := dq0 (p := fun a b => decode cL_remove a = .ok b) dm_cL_remove_0 12 rfl
theorem dL_remove_17 : decode cL_remove 17 = .ok (.ireturn, 1) := dq0 (p := fun a b => decode cL_remove a = .ok b) dm_cL_remove_0 13 rfl
theorem dL_remove_18 : decode cL_remove 18 = .ok (.iconst 0, 1) := dq0 (p := fun a b => decode cL_remove a = .ok b) dm_cL_remove_0 14 rfl
theorem dL_remove_19 : decode cL_remove 19 = .ok (.ireturn, 1) := dq0 (p := fun a b => decode cL_remove a = .ok b) dm_cL_remove_0 15 rfl
theorem dm_cL_endSetup_0 : ([(0, .aload_n 2, 1), (1, .iconst 0, 1), (2, .aload_n 0, 1), (3, .iload_n 1, 1), (4, .invokevirtual 23, 3), (7, .i2l, 1), (8, .lastore, 1), (9, .goto 6, 3), (12, .astore_n 3, 1), (13, .iconst 1, 1), (14, .ireturn, 1), (15, .iconst 0, 1), (16, .ireturn, 1)] : List (Nat × Instr × Nat)).all (fun t => decide (decode cL_endSetup t.1 = .ok t.2)) = true := by decide +kernel
theorem dL_endSetup_0 : decode cL_endSetup 0 = .ok (.aload_n 2, 1) := dq0 (p := fun a b => decode cL_endSetup a = .ok b) dm_cL_endSetup_0 0 rfl
theorem dL_endSetup_1 : decode cL_endSetup 1 = .ok (.iconst 0, 1) := dq0 (p := fun a b => decode cL_endSetup a = .ok b) dm_cL_endSetup_0 1 rfl
theorem dL_endSetup_2 : decode cL_endSetup 2 = .ok (.aload_n 0, 1) := dq0 (p := fun a b => decode cL_endSetup a = .ok b) dm_cL_endSetup_0 2 rfl
theorem dL_endSetup_3 : decode cL_endSetup 3 = .ok (.iload_n 1, 1) := dq0 (p := fun a b => decode cL_endSetup a = .ok b) dm_cL_endSetup_0 3 rfl
theorem dL_endSetup_4 : decode cL_endSetup 4 = .ok (.invokevirtual 23, 3) := dq0 (p := fun a b => decode cL_endSetup a = .ok b) dm_cL_endSetup_0 4 rfl
theorem dL_endSetup_7 : decode cL_endSetup 7 = .ok (.i2l, 1) := dq0 (p := fun a b => decode cL_endSetup a = .ok b) dm_cL_endSetup_0 5 rfl
theorem dL_endSetup_8 : decode cL_endSetup 8 = .ok (.lastore, 1) := dq0 (p := fun a b => decode cL_endSetup a = .ok b) dm_cL_endSetup_0 6 rfl
theorem dL_endSetup_9 : decode cL_endSetup 9 = .ok (.goto 6, 3) := dq0 (p := fun a b => decode cL_endSetup a = .ok b) dm_cL_endSetup_0 7 rfl
theorem dL_endSetup_12 : decode cL_endSetup 12 = .ok (.astore_n 3, 1) := dq0 (p := fun a b => decode cL_endSetup a = .ok b) dm_cL_endSetup_0 8 rfl
theorem dL_endSetup_13 : decode cL_endSetup 13 = .ok (.iconst 1, 1) := dq0 (p := fun a b => decode cL_endSetup a = .ok b) dm_cL_endSetup_0 9 rfl
theorem dL_endSetup_14 : decode cL_endSetup 14 = .ok (.ireturn, 1) := dq0 (p := fun a b => decode cL_endSetup a = .ok b) dm_cL_endSetup_0 10 rfl
theorem dL_endSetup_15 : decode cL_endSetup 15 = .ok (.iconst 0, 1) := dq0 (p := fun a b => decode cL_endSetup a = .ok b) dm_cL_endSetup_0 11 rfl
theorem dL_endSetup_16 : decode cL_endSetup 16 = .ok (.ireturn, 1) := dq0 (p := fun a b => decode cL_endSetup a = .ok b) dm_cL_endSetup_0 12 rfl
theorem dm_cL_pieceAt_0 : ([(0, .aload_n 2, 1), (1, .iconst 0, 1), (2, .aload_n 0, 1), (3, .iload_n 1, 1), (4, .invokevirtual 27, 3), (7, .i2l, 1), (8, .lastore, 1), (9, .goto 6, 3), (12, .astore_n 3, 1), (13, .iconst 1, 1), (14, .ireturn, 1), (15, .iconst 0, 1), (16, .ireturn, 1)] : List (Nat × Instr × Nat)).all (fun t => decide (decode cL_pieceAt t.1 = .ok t.2)) = true := by decide +kernel
theorem dL_pieceAt_0 : decode cL_pieceAt 0 = .ok (.aload_n 2, 1) := dq0 (p := fun a b => decode cL_pieceAt a = .ok b) dm_cL_pieceAt_0 0 rfl
theorem dL_pieceAt_1 : decode cL_pieceAt 1 = .ok (.iconst 0, 1) := dq0 (p := fun a b => decode cL_pieceAt a = .ok b) dm_cL_pieceAt_0 1 rfl
theorem dL_pieceAt_2 : decode cL_pieceAt 2 = .ok (.aload_n 0, 1) := dq0 (p := fun a b => decode cL_pieceAt a = .ok b) dm_cL_pieceAt_0 2 rfl
theorem dL_pieceAt_3 : decode cL_pieceAt 3 = .ok (.iload_n 1, 1) := dq0 (p := fun a b => decode cL_pieceAt a = .ok b) dm_cL_pieceAt_0 3 rfl
theorem dL_pieceAt_4 : decode cL_pieceAt 4 = .ok (.invokevirtual 27, 3) := dq0 (p := fun a b => decode cL_pieceAt a = .ok b) dm_cL_pieceAt_0 4 rfl
theorem dL_pieceAt_7 : decode cL_pieceAt 7 = .ok (.i2l, 1) := dq0 (p := fun a b => decode cL_pieceAt a = .ok b) dm_cL_pieceAt_0 5 rfl
theorem dL_pieceAt_8 : decode cL_pieceAt 8 = .ok (.lastore, 1) := dq0 (p := fun a b => decode cL_pieceAt a = .ok b) dm_cL_pieceAt_0 6 rfl
theorem dL_pieceAt_9 : decode cL_pieceAt 9 = .ok (.goto 6, 3) := dq0 (p := fun a b => decode cL_pieceAt a = .ok b) dm_cL_pieceAt_0 7 rfl
theorem dL_pieceAt_12 : decode cL_pieceAt 12 = .ok (.astore_n 3, 1) := dq0 (p := fun a b => decode cL_pieceAt a = .ok b) dm_cL_pieceAt_0 8 rfl
theorem dL_pieceAt_13 : decode cL_pieceAt 13 = .ok (.iconst 1, 1) := dq0 (p := fun a b => decode cL_pieceAt a = .ok b) dm_cL_pieceAt_0 9 rfl
theorem dL_pieceAt_14 : decode cL_pieceAt 14 = .ok (.ireturn, 1) := dq0 (p := fun a b => decode cL_pieceAt a = .ok b) dm_cL_pieceAt_0 10 rfl
theorem dL_pieceAt_15 : decode cL_pieceAt 15 = .ok (.iconst 0, 1) := dq0 (p := fun a b => decode cL_pieceAt a = .ok b) dm_cL_pieceAt_0 11 rfl
theorem dL_pieceAt_16 : decode cL_pieceAt 16 = .ok (.ireturn, 1) := dq0 (p := fun a b => decode cL_pieceAt a = .ok b) dm_cL_pieceAt_0 12 rfl
theorem dm_cL_isWhite_0 : ([(0, .aload_n 2, 1), (1, .iconst 0, 1), (2, .aload_n 0, 1), (3, .iload_n 1, 1), (4, .invokevirtual 30, 3), (7, .ifCond .eq 7, 3), (10, .lconst 1, 1), (11, .goto 4, 3), (14, .lconst 0, 1), (15, .lastore, 1), (16, .goto 9, 3), (19, .astore_n 3, 1), (20, .iconst 1, 1), (21, .ireturn, 1), (22, .astore_n 3, 1), (23, .iconst 2, 1), (24, .ireturn, 1), (25, .iconst 0, 1), (26, .ireturn, 1)] : List (Nat × Instr × Nat)).all (fun t => decide (decode cL_isWhite t.1 = .ok t.2)) = true := by decide +kernel
theorem dL_isWhite_0 : decode cL_isWhite 0 = .ok (.aload_n 2, 1) := dq0 (p := fun a b => decode cL_isWhite a = .ok b) dm_cL_isWhite_0 0 rfl
theorem dL_isWhite_1 : decode cL_isWhite 1 = .ok (.iconst 0, 1) := dq0 (p := fun a b => decode cL_isWhite a = .ok b) dm_cL_isWhite_0 1 rfl
theorem dL_isWhite_2 : decode cL_isWhite 2 = .ok (.aload_n 0, 1) := dq0 (p := fun a b => decode cL_isWhite a = .ok b) dm_cL_isWhite_0 2 rfl
theorem dL_isWhite_3 : decode cL_isWhite 3 = .ok (.iload_n 1, 1) := dq0 (p := fun a b => decode cL_isWhite a = .ok b) dm_cL_isWhite_0 3 rfl
theorem dL_isWhite_4 : decode cL_isWhite 4 = .ok (.invokevirtual 30, 3) := dq0 (p := fun a b => decode cL_isWhite a = .ok b) dm_cL_isWhite_0 4 rfl
theorem dL_isWhite_7 : decode cL_isWhite 7 = .ok (.ifCond .eq 7, 3) := dq0 (p := fun a b => decode cL_isWhite a = .ok b) dm_cL_isWhite_0 5 rfl
theorem dL_isWhite_10 : decode cL_isWhite 10 = .ok (.lconst 1, 1) := dq0 (p := fun a b => decode cL_isWhite a = .ok b) dm_cL_isWhite_0 6 rfl
theorem dL_isWhite_11 : decode cL_isWhite 11 = .ok (.goto 4, 3) := dq0 (p := fun a b => decode cL_isWhite a = .ok b) dm_cL_isWhite_0 7 rfl
theorem dL_isWhite_14 : decode cL_isWhite 14 = .ok (.lconst 0, 1) := dq0 (p := fun a b => decode cL_isWhite a = .ok b) dm_cL_isWhite_0 8 rfl
theorem dL_isWhite_15 : decode cL_isWhite 15 = .ok (.lastore, 1) := dq0 (p := fun a b => decode cL_isWhite a = .ok b) dm_cL_isWhite_0 9 rfl
theorem dL_isWhite_16 : decode cL_isWhite 16 = .ok (.goto 9, 3) := dq0 (p := fun a b => decode cL_isWhite a = .ok b) dm_cL_isWhite_0 10 rfl
theorem dL_isWhite_19 : decode cL_isWhite 19 = .ok (.astore_n 3, 1) := dq0 (p := fun a b => decode cL_isWhite a = .ok b) dm_cL_isWhite_0 11 rfl
theorem dL_isWhite_20 : decode cL_isWhite 20 = .ok (.iconst 1, 1) := dq0 (p := fun a b => decode cL_isWhite a = .ok b) dm_cL_isWhite_0 12 rfl
theorem dL_isWhite_21 : decode cL_isWhite 21 = .ok (.ireturn, 1) := dq0 (p := fun a b => decode cL_isWhite a = .ok b) dm_cL_isWhite_0 13 rfl
theorem dL_isWhite_22 : decode cL_isWhite 22 = .ok (.astore_n 3, 1) := dq0 (p := fun a b => decode cL_isWhite a = .ok b) dm_cL_isWhite_0 14 rfl
theorem dL_isWhite_23 : decode cL_isWhite 23 = .ok (.iconst 2, 1) := dq0 (p := fun a b => decode cL_isWhite a = .ok b) dm_cL_isWhite_0 15 rfl
theorem dL_isWhite_24 : decode cL_isWhite 24 = .ok (.ireturn, 1) := dq0 (p := fun a b => decode cL_isWhite a = .ok b) dm_cL_isWhite_0 16 rfl
theorem dL_isWhite_25 : decode cL_isWhite 25 = .ok (.iconst 0, 1) := dq0 (p := fun a b => decode cL_isWhite a = .ok b) dm_cL_isWhite_0 17 rfl
theorem dL_isWhite_26 : decode cL_isWhite 26 = .ok (.ireturn, 1) := dq0 (p := fun a b => decode cL_isWhite a = .ok b) dm_cL_isWhite_0 18 rfl
theorem dm_cL_bondOf_0 : ([(0, .aload_n 2, 1), (1, .iconst 0, 1), (2, .aload_n 0, 1), (3, .iload_n 1, 1), (4, .invokevirtual 36, 3), (7, .i2l, 1), (8, .lastore, 1), (9, .goto 6, 3), (12, .astore_n 3, 1), (13, .iconst 1, 1), (14, .ireturn, 1), (15, .iconst 0, 1), (16, .ireturn, 1)] : List (Nat × Instr × Nat)).all (fun t => decide (decode cL_bondOf t.1 = .ok t.2)) = true := by decide +kernel
theorem dL_bondOf_0 : decode cL_bondOf 0 = .ok (.aload_n 2, 1) := dq0 (p := fun a b => decode cL_bondOf a = .ok b) dm_cL_bondOf_0 0 rfl
theorem dL_bondOf_1 : decode cL_bondOf 1 = .ok (.iconst 0, 1) := dq0 (p := fun a b => decode cL_bondOf a = .ok b) dm_cL_bondOf_0 1 rfl
theorem dL_bondOf_2 : decode cL_bondOf 2 = .ok (.aload_n 0, 1) := dq0 (p := fun a b => decode cL_bondOf a = .ok b) dm_cL_bondOf_0 2 rfl
theorem dL_bondOf_3 : decode cL_bondOf 3 = .ok (.iload_n 1, 1) := dq0 (p := fun a b => decode cL_bondOf a = .ok b) dm_cL_bondOf_0 3 rfl
theorem dL_bondOf_4 : decode cL_bondOf 4 = .ok (.invokevirtual 36, 3) := dq0 (p := fun a b => decode cL_bondOf a = .ok b) dm_cL_bondOf_0 4 rfl
theorem dL_bondOf_7 : decode cL_bondOf 7 = .ok (.i2l, 1) := dq0 (p := fun a b => decode cL_bondOf a = .ok b) dm_cL_bondOf_0 5 rfl
theorem dL_bondOf_8 : decode cL_bondOf 8 = .ok (.lastore, 1) := dq0 (p := fun a b => decode cL_bondOf a = .ok b) dm_cL_bondOf_0 6 rfl
theorem dL_bondOf_9 : decode cL_bondOf 9 = .ok (.goto 6, 3) := dq0 (p := fun a b => decode cL_bondOf a = .ok b) dm_cL_bondOf_0 7 rfl
theorem dL_bondOf_12 : decode cL_bondOf 12 = .ok (.astore_n 3, 1) := dq0 (p := fun a b => decode cL_bondOf a = .ok b) dm_cL_bondOf_0 8 rfl
theorem dL_bondOf_13 : decode cL_bondOf 13 = .ok (.iconst 1, 1) := dq0 (p := fun a b => decode cL_bondOf a = .ok b) dm_cL_bondOf_0 9 rfl
theorem dL_bondOf_14 : decode cL_bondOf 14 = .ok (.ireturn, 1) := dq0 (p := fun a b => decode cL_bondOf a = .ok b) dm_cL_bondOf_0 10 rfl
theorem dL_bondOf_15 : decode cL_bondOf 15 = .ok (.iconst 0, 1) := dq0 (p := fun a b => decode cL_bondOf a = .ok b) dm_cL_bondOf_0 11 rfl
theorem dL_bondOf_16 : decode cL_bondOf 16 = .ok (.ireturn, 1) := dq0 (p := fun a b => decode cL_bondOf a = .ok b) dm_cL_bondOf_0 12 rfl
theorem dm_cL_knightDistance_0 : ([(0, .aload_n 3, 1), (1, .iconst 0, 1), (2, .aload_n 0, 1), (3, .iload_n 1, 1), (4, .iload_n 2, 1), (5, .invokevirtual 39, 3), (8, .i2l, 1), (9, .lastore, 1), (10, .goto 7, 3), (13, .astore 4, 2), (15, .iconst 1, 1), (16, .ireturn, 1), (17, .iconst 0, 1), (18, .ireturn, 1)] : List (Nat × Instr × Nat)).all (fun t => decide (decode cL_knightDistance t.1 = .ok t.2)) = true := by decide +kernel
theorem dL_knightDistance_0 : decode cL_knightDistance 0 = .ok (.aload_n 3, 1) := dq0 (p := fun a b => decode cL_knightDistance a = .ok b) dm_cL_knightDistance_0 0 rfl
theorem dL_knightDistance_1 : decode cL_knightDistance 1 = .ok (.iconst 0, 1) := dq0 (p := fun a b => decode cL_knightDistance a = .ok b) dm_cL_knightDistance_0 1 rfl
theorem dL_knightDistance_2 : decode cL_knightDistance 2 = .ok (.aload_n 0, 1) := dq0 (p := fun a b => decode cL_knightDistance a = .ok b) dm_cL_knightDistance_0 2 rfl
theorem dL_knightDistance_3 : decode cL_knightDistance 3 = .ok (.iload_n 1, 1) := dq0 (p := fun a b => decode cL_knightDistance a = .ok b) dm_cL_knightDistance_0 3 rfl
theorem dL_knightDistance_4 : decode cL_knightDistance 4 = .ok (.iload_n 2, 1) := dq0 (p := fun a b => decode cL_knightDistance a = .ok b) dm_cL_knightDistance_0 4 rfl
theorem dL_knightDistance_5 : decode cL_knightDistance 5 = .ok (.invokevirtual 39, 3) := dq0 (p := fun a b => decode cL_knightDistance a = .ok b) dm_cL_knightDistance_0 5 rfl
theorem dL_knightDistance_8 : decode cL_knightDistance 8 = .ok (.i2l, 1) := dq0 (p := fun a b => decode cL_knightDistance a = .ok b) dm_cL_knightDistance_0 6 rfl
theorem dL_knightDistance_9 : decode cL_knightDistance 9 = .ok (.lastore, 1) := dq0 (p := fun a b => decode cL_knightDistance a = .ok b) dm_cL_knightDistance_0 7 rfl
theorem dL_knightDistance_10 : decode cL_knightDistance 10 = .ok (.goto 7, 3) := dq0 (p := fun a b => decode cL_knightDistance a = .ok b) dm_cL_knightDistance_0 8 rfl
theorem dL_knightDistance_13 : decode cL_knightDistance 13 = .ok (.astore 4, 2) := dq0 (p := fun a b => decode cL_knightDistance a = .ok b) dm_cL_knightDistance_0 9 rfl
theorem dL_knightDistance_15 : decode cL_knightDistance 15 = .ok (.iconst 1, 1) := dq0 (p := fun a b => decode cL_knightDistance a = .ok b) dm_cL_knightDistance_0 10 rfl
theorem dL_knightDistance_16 : decode cL_knightDistance 16 = .ok (.ireturn, 1) := dq0 (p := fun a b => decode cL_knightDistance a = .ok b) dm_cL_knightDistance_0 11 rfl
theorem dL_knightDistance_17 : decode cL_knightDistance 17 = .ok (.iconst 0, 1) := dq0 (p := fun a b => decode cL_knightDistance a = .ok b) dm_cL_knightDistance_0 12 rfl
theorem dL_knightDistance_18 : decode cL_knightDistance 18 = .ok (.ireturn, 1) := dq0 (p := fun a b => decode cL_knightDistance a = .ok b) dm_cL_knightDistance_0 13 rfl
theorem dm_cL_attackers_0 : ([(0, .aload_n 3, 1), (1, .iconst 0, 1), (2, .aload_n 0, 1), (3, .iload_n 1, 1), (4, .iload_n 2, 1), (5, .invokevirtual 43, 3), (8, .lastore, 1), (9, .goto 7, 3), (12, .astore 4, 2), (14, .iconst 1, 1), (15, .ireturn, 1), (16, .iconst 0, 1), (17, .ireturn, 1)] : List (Nat × Instr × Nat)).all (fun t => decide (decode cL_attackers t.1 = .ok t.2)) = true := by decide +kernel
theorem dL_attackers_0 : decode cL_attackers 0 = .ok (.aload_n 3, 1) := dq0 (p := fun a b => decode cL_attackers a = .ok b) dm_cL_attackers_0 0 rfl
theorem dL_attackers_1 : decode cL_attackers 1 = .ok (.iconst 0, 1) := dq0 (p := fun a b => decode cL_attackers a = .ok b) dm_cL_attackers_0 1 rfl
theorem dL_attackers_2 : decode cL_attackers 2 = .ok (.aload_n 0, 1) := dq0 (p := fun a b => decode cL_attackers a = .ok b) dm_cL_attackers_0 2 rfl
theorem dL_attackers_3 : decode cL_attackers 3 = .ok (.iload_n 1, 1) := dq0 (p := fun a b => decode cL_attackers a = .ok b) dm_cL_attackers_0 3 rfl
theorem dL_attackers_4 : decode cL_attackers 4 = .ok (.iload_n 2, 1) := dq0 (p := fun a b => decode cL_attackers a = .ok b) dm_cL_attackers_0 4 rfl
theorem dL_attackers_5 : decode cL_attackers 5 = .ok (.invokevirtual 43, 3) := dq0 (p := fun a b => decode cL_attackers a = .ok b) dm_cL_attackers_0 5 rfl
theorem dL_attackers_8 : decode cL_attackers 8 = .ok (.lastore, 1) := dq0 (p := fun a b => decode cL_attackers a = .ok b) dm_cL_attackers_0 6 rfl
theorem dL_attackers_9 : decode cL_attackers 9 = .ok (.goto 7, 3) := dq0 (p := fun a b => decode cL_attackers a = .ok b) dm_cL_attackers_0 7 rfl
theorem dL_attackers_12 : decode cL_attackers 12 = .ok (.astore 4, 2) := dq0 (p := fun a b => decode cL_attackers a = .ok b) dm_cL_attackers_0 8 rfl
theorem dL_attackers_14 : decode cL_attackers 14 = .ok (.iconst 1, 1) := dq0 (p := fun a b => decode cL_attackers a = .ok b) dm_cL_attackers_0 9 rfl
theorem dL_attackers_15 : decode cL_attackers 15 = .ok (.ireturn, 1) := dq0 (p := fun a b => decode cL_attackers a = .ok b) dm_cL_attackers_0 10 rfl
theorem dL_attackers_16 : decode cL_attackers 16 = .ok (.iconst 0, 1) := dq0 (p := fun a b => decode cL_attackers a = .ok b) dm_cL_attackers_0 11 rfl
theorem dL_attackers_17 : decode cL_attackers 17 = .ok (.ireturn, 1) := dq0 (p := fun a b => decode cL_attackers a = .ok b) dm_cL_attackers_0 12 rfl
theorem dm_cL_legalMoves_0 : ([(0, .aload_n 2, 1), (1, .iconst 0, 1), (2, .aload_n 0, 1), (3, .iload_n 1, 1), (4, .invokevirtual 47, 3), (7, .lastore, 1), (8, .goto 6, 3), (11, .astore_n 3, 1), (12, .iconst 1, 1), (13, .ireturn, 1), (14, .iconst 0, 1), (15, .ireturn, 1)] : List (Nat × Instr × Nat)).all (fun t => decide (decode cL_legalMoves t.1 = .ok t.2)) = true := by decide +kernel
theorem dL_legalMoves_0 : decode cL_legalMoves 0 = .ok (.aload_n 2, 1) := dq0 (p := fun a b => decode cL_legalMoves a = .ok b) dm_cL_legalMoves_0 0 rfl
theorem dL_legalMoves_1 : decode cL_legalMoves 1 = .ok (.iconst 0, 1) := dq0 (p := fun a b => decode cL_legalMoves a = .ok b) dm_cL_legalMoves_0 1 rfl
theorem dL_legalMoves_2 : decode cL_legalMoves 2 = .ok (.aload_n 0, 1) := dq0 (p := fun a b => decode cL_legalMoves a = .ok b) dm_cL_legalMoves_0 2 rfl
theorem dL_legalMoves_3 : decode cL_legalMoves 3 = .ok (.iload_n 1, 1) := dq0 (p := fun a b => decode cL_legalMoves a = .ok b) dm_cL_legalMoves_0 3 rfl
theorem dL_legalMoves_4 : decode cL_legalMoves 4 = .ok (.invokevirtual 47, 3) := dq0 (p := fun a b => decode cL_legalMoves a = .ok b) dm_cL_legalMoves_0 4 rfl
theorem dL_legalMoves_7 : decode cL_legalMoves 7 = .ok (.lastore, 1) := dq0 (p := fun a b => decode cL_legalMoves a = .ok b) dm_cL_legalMoves_0 5 rfl
theorem dL_legalMoves_8 : decode cL_legalMoves 8 = .ok (.goto 6, 3) := dq0 (p := fun a b => decode cL_legalMoves a = .ok b) dm_cL_legalMoves_0 6 rfl
theorem dL_legalMoves_11 : decode cL_legalMoves 11 = .ok (.astore_n 3, 1) := dq0 (p := fun a b => decode cL_legalMoves a = .ok b) dm_cL_legalMoves_0 7 rfl
theorem dL_legalMoves_12 : decode cL_legalMoves 12 = .ok (.iconst 1, 1) := dq0 (p := fun a b => decode cL_legalMoves a = .ok b) dm_cL_legalMoves_0 8 rfl
theorem dL_legalMoves_13 : decode cL_legalMoves 13 = .ok (.ireturn, 1) := dq0 (p := fun a b => decode cL_legalMoves a = .ok b) dm_cL_legalMoves_0 9 rfl
theorem dL_legalMoves_14 : decode cL_legalMoves 14 = .ok (.iconst 0, 1) := dq0 (p := fun a b => decode cL_legalMoves a = .ok b) dm_cL_legalMoves_0 10 rfl
theorem dL_legalMoves_15 : decode cL_legalMoves 15 = .ok (.ireturn, 1) := dq0 (p := fun a b => decode cL_legalMoves a = .ok b) dm_cL_legalMoves_0 11 rfl
theorem dm_cL_moveRefusal_0 : ([(0, .aload_n 3, 1), (1, .iconst 0, 1), (2, .aload_n 0, 1), (3, .iload_n 1, 1), (4, .iload_n 2, 1), (5, .invokevirtual 51, 3), (8, .i2l, 1), (9, .lastore, 1), (10, .goto 7, 3), (13, .astore 4, 2), (15, .iconst 1, 1), (16, .ireturn, 1), (17, .iconst 0, 1), (18, .ireturn, 1)] : List (Nat × Instr × Nat)).all (fun t => decide (decode cL_moveRefusal t.1 = .ok t.2)) = true := by decide +kernel
theorem dL_moveRefusal_0 : decode cL_moveRefusal 0 = .ok (.aload_n 3, 1) := dq0 (p := fun a b => decode cL_moveRefusal a = .ok b) dm_cL_moveRefusal_0 0 rfl
theorem dL_moveRefusal_1 : decode cL_moveRefusal 1 = .ok (.iconst 0, 1) := dq0 (p := fun a b => decode cL_moveRefusal a = .ok b) dm_cL_moveRefusal_0 1 rfl
theorem dL_moveRefusal_2 : decode cL_moveRefusal 2 = .ok (.aload_n 0, 1) := dq0 (p := fun a b => decode cL_moveRefusal a = .ok b) dm_cL_moveRefusal_0 2 rfl
theorem dL_moveRefusal_3 : decode cL_moveRefusal 3 = .ok (.iload_n 1, 1) := dq0 (p := fun a b => decode cL_moveRefusal a = .ok b) dm_cL_moveRefusal_0 3 rfl
theorem dL_moveRefusal_4 : decode cL_moveRefusal 4 = .ok (.iload_n 2, 1) := dq0 (p := fun a b => decode cL_moveRefusal a = .ok b) dm_cL_moveRefusal_0 4 rfl
theorem dL_moveRefusal_5 : decode cL_moveRefusal 5 = .ok (.invokevirtual 51, 3) := dq0 (p := fun a b => decode cL_moveRefusal a = .ok b) dm_cL_moveRefusal_0 5 rfl
theorem dL_moveRefusal_8 : decode cL_moveRefusal 8 = .ok (.i2l, 1) := dq0 (p := fun a b => decode cL_moveRefusal a = .ok b) dm_cL_moveRefusal_0 6 rfl
theorem dL_moveRefusal_9 : decode cL_moveRefusal 9 = .ok (.lastore, 1) := dq0 (p := fun a b => decode cL_moveRefusal a = .ok b) dm_cL_moveRefusal_0 7 rfl
theorem dL_moveRefusal_10 : decode cL_moveRefusal 10 = .ok (.goto 7, 3) := dq0 (p := fun a b => decode cL_moveRefusal a = .ok b) dm_cL_moveRefusal_0 8 rfl
theorem dL_moveRefusal_13 : decode cL_moveRefusal 13 = .ok (.astore 4, 2) := dq0 (p := fun a b => decode cL_moveRefusal a = .ok b) dm_cL_moveRefusal_0 9 rfl
theorem dL_moveRefusal_15 : decode cL_moveRefusal 15 = .ok (.iconst 1, 1) := dq0 (p := fun a b => decode cL_moveRefusal a = .ok b) dm_cL_moveRefusal_0 10 rfl
theorem dL_moveRefusal_16 : decode cL_moveRefusal 16 = .ok (.ireturn, 1) := dq0 (p := fun a b => decode cL_moveRefusal a = .ok b) dm_cL_moveRefusal_0 11 rfl
theorem dL_moveRefusal_17 : decode cL_moveRefusal 17 = .ok (.iconst 0, 1) := dq0 (p := fun a b => decode cL_moveRefusal a = .ok b) dm_cL_moveRefusal_0 12 rfl
theorem dL_moveRefusal_18 : decode cL_moveRefusal 18 = .ok (.ireturn, 1) := dq0 (p := fun a b => decode cL_moveRefusal a = .ok b) dm_cL_moveRefusal_0 13 rfl
theorem dm_cL_bondRefusal_0 : ([(0, .aload_n 3, 1), (1, .iconst 0, 1), (2, .aload_n 0, 1), (3, .iload_n 1, 1), (4, .iload_n 2, 1), (5, .invokevirtual 54, 3), (8, .i2l, 1), (9, .lastore, 1), (10, .goto 7, 3), (13, .astore 4, 2), (15, .iconst 1, 1), (16, .ireturn, 1), (17, .iconst 0, 1), (18, .ireturn, 1)] : List (Nat × Instr × Nat)).all (fun t => decide (decode cL_bondRefusal t.1 = .ok t.2)) = true := by decide +kernel
theorem dL_bondRefusal_0 : decode cL_bondRefusal 0 = .ok (.aload_n 3, 1) := dq0 (p := fun a b => decode cL_bondRefusal a = .ok b) dm_cL_bondRefusal_0 0 rfl
theorem dL_bondRefusal_1 : decode cL_bondRefusal 1 = .ok (.iconst 0, 1) := dq0 (p := fun a b => decode cL_bondRefusal a = .ok b) dm_cL_bondRefusal_0 1 rfl
theorem dL_bondRefusal_2 : decode cL_bondRefusal 2 = .ok (.aload_n 0, 1) := dq0 (p := fun a b => decode cL_bondRefusal a = .ok b) dm_cL_bondRefusal_0 2 rfl
theorem dL_bondRefusal_3 : decode cL_bondRefusal 3 = .ok (.iload_n 1, 1) := dq0 (p := fun a b => decode cL_bondRefusal a = .ok b) dm_cL_bondRefusal_0 3 rfl
theorem dL_bondRefusal_4 : decode cL_bondRefusal 4 = .ok (.iload_n 2, 1) := dq0 (p := fun a b => decode cL_bondRefusal a = .ok b) dm_cL_bondRefusal_0 4 rfl
theorem dL_bondRefusal_5 : decode cL_bondRefusal 5 = .ok (.invokevirtual 54, 3) := dq0 (p := fun a b => decode cL_bondRefusal a = .ok b) dm_cL_bondRefusal_0 5 rfl
theorem dL_bondRefusal_8 : decode cL_bondRefusal 8 = .ok (.i2l, 1) := dq0 (p := fun a b => decode cL_bondRefusal a = .ok b) dm_cL_bondRefusal_0 6 rfl
theorem dL_bondRefusal_9 : decode cL_bondRefusal 9 = .ok (.lastore, 1) := dq0 (p := fun a b => decode cL_bondRefusal a = .ok b) dm_cL_bondRefusal_0 7 rfl
theorem dL_bondRefusal_10 : decode cL_bondRefusal 10 = .ok (.goto 7, 3) := dq0 (p := fun a b => decode cL_bondRefusal a = .ok b) dm_cL_bondRefusal_0 8 rfl
theorem dL_bondRefusal_13 : decode cL_bondRefusal 13 = .ok (.astore 4, 2) := dq0 (p := fun a b => decode cL_bondRefusal a = .ok b) dm_cL_bondRefusal_0 9 rfl
theorem dL_bondRefusal_15 : decode cL_bondRefusal 15 = .ok (.iconst 1, 1) := dq0 (p := fun a b => decode cL_bondRefusal a = .ok b) dm_cL_bondRefusal_0 10 rfl
theorem dL_bondRefusal_16 : decode cL_bondRefusal 16 = .ok (.ireturn, 1) := dq0 (p := fun a b => decode cL_bondRefusal a = .ok b) dm_cL_bondRefusal_0 11 rfl
theorem dL_bondRefusal_17 : decode cL_bondRefusal 17 = .ok (.iconst 0, 1) := dq0 (p := fun a b => decode cL_bondRefusal a = .ok b) dm_cL_bondRefusal_0 12 rfl
theorem dL_bondRefusal_18 : decode cL_bondRefusal 18 = .ok (.ireturn, 1) := dq0 (p := fun a b => decode cL_bondRefusal a = .ok b) dm_cL_bondRefusal_0 13 rfl
theorem dm_cL_dissolveRefusal_0 : ([(0, .aload_n 2, 1), (1, .iconst 0, 1), (2, .aload_n 0, 1), (3, .iload_n 1, 1), (4, .invokevirtual 57, 3), (7, .i2l, 1), (8, .lastore, 1), (9, .goto 6, 3), (12, .astore_n 3, 1), (13, .iconst 1, 1), (14, .ireturn, 1), (15, .iconst 0, 1), (16, .ireturn, 1)] : List (Nat × Instr × Nat)).all (fun t => decide (decode cL_dissolveRefusal t.1 = .ok t.2)) = true := by decide +kernel
theorem dL_dissolveRefusal_0 : decode cL_dissolveRefusal 0 = .ok (.aload_n 2, 1) := dq0 (p := fun a b => decode cL_dissolveRefusal a = .ok b) dm_cL_dissolveRefusal_0 0 rfl
theorem dL_dissolveRefusal_1 : decode cL_dissolveRefusal 1 = .ok (.iconst 0, 1) := dq0 (p := fun a b => decode cL_dissolveRefusal a = .ok b) dm_cL_dissolveRefusal_0 1 rfl
theorem dL_dissolveRefusal_2 : decode cL_dissolveRefusal 2 = .ok (.aload_n 0, 1) := dq0 (p := fun a b => decode cL_dissolveRefusal a = .ok b) dm_cL_dissolveRefusal_0 2 rfl
theorem dL_dissolveRefusal_3 : decode cL_dissolveRefusal 3 = .ok (.iload_n 1, 1) := dq0 (p := fun a b => decode cL_dissolveRefusal a = .ok b) dm_cL_dissolveRefusal_0 3 rfl
theorem dL_dissolveRefusal_4 : decode cL_dissolveRefusal 4 = .ok (.invokevirtual 57, 3) := dq0 (p := fun a b => decode cL_dissolveRefusal a = .ok b) dm_cL_dissolveRefusal_0 4 rfl
theorem dL_dissolveRefusal_7 : decode cL_dissolveRefusal 7 = .ok (.i2l, 1) := dq0 (p := fun a b => decode cL_dissolveRefusal a = .ok b) dm_cL_dissolveRefusal_0 5 rfl
theorem dL_dissolveRefusal_8 : decode cL_dissolveRefusal 8 = .ok (.lastore, 1) := dq0 (p := fun a b => decode cL_dissolveRefusal a = .ok b) dm_cL_dissolveRefusal_0 6 rfl
theorem dL_dissolveRefusal_9 : decode cL_dissolveRefusal 9 = .ok (.goto 6, 3) := dq0 (p := fun a b => decode cL_dissolveRefusal a = .ok b) dm_cL_dissolveRefusal_0 7 rfl
theorem dL_dissolveRefusal_12 : decode cL_dissolveRefusal 12 = .ok (.astore_n 3, 1) := dq0 (p := fun a b => decode cL_dissolveRefusal a = .ok b) dm_cL_dissolveRefusal_0 8 rfl
theorem dL_dissolveRefusal_13 : decode cL_dissolveRefusal 13 = .ok (.iconst 1, 1) := dq0 (p := fun a b => decode cL_dissolveRefusal a = .ok b) dm_cL_dissolveRefusal_0 9 rfl
theorem dL_dissolveRefusal_14 : decode cL_dissolveRefusal 14 = .ok (.ireturn, 1) := dq0 (p := fun a b => decode cL_dissolveRefusal a = .ok b) dm_cL_dissolveRefusal_0 10 rfl
theorem dL_dissolveRefusal_15 : decode cL_dissolveRefusal 15 = .ok (.iconst 0, 1) := dq0 (p := fun a b => decode cL_dissolveRefusal a = .ok b) dm_cL_dissolveRefusal_0 11 rfl
theorem dL_dissolveRefusal_16 : decode cL_dissolveRefusal 16 = .ok (.ireturn, 1) := dq0 (p := fun a b => decode cL_dissolveRefusal a = .ok b) dm_cL_dissolveRefusal_0 12 rfl
theorem dm_cL_countSequences_0 : ([(0, .aload_n 2, 1), (1, .iconst 0, 1), (2, .aload_n 0, 1), (3, .iload_n 1, 1), (4, .invokevirtual 60, 3), (7, .i2l, 1), (8, .lastore, 1), (9, .goto 6, 3), (12, .astore_n 3, 1), (13, .iconst 1, 1), (14, .ireturn, 1), (15, .iconst 0, 1), (16, .ireturn, 1)] : List (Nat × Instr × Nat)).all (fun t => decide (decode cL_countSequences t.1 = .ok t.2)) = true := by decide +kernel
theorem dL_countSequences_0 : decode cL_countSequences 0 = .ok (.aload_n 2, 1) := dq0 (p := fun a b => decode cL_countSequences a = .ok b) dm_cL_countSequences_0 0 rfl
theorem dL_countSequences_1 : decode cL_countSequences 1 = .ok (.iconst 0, 1) := dq0 (p := fun a b => decode cL_countSequences a = .ok b) dm_cL_countSequences_0 1 rfl
theorem dL_countSequences_2 : decode cL_countSequences 2 = .ok (.aload_n 0, 1) := dq0 (p := fun a b => decode cL_countSequences a = .ok b) dm_cL_countSequences_0 2 rfl
theorem dL_countSequences_3 : decode cL_countSequences 3 = .ok (.iload_n 1, 1) := dq0 (p := fun a b => decode cL_countSequences a = .ok b) dm_cL_countSequences_0 3 rfl
theorem dL_countSequences_4 : decode cL_countSequences 4 = .ok (.invokevirtual 60, 3) := dq0 (p := fun a b => decode cL_countSequences a = .ok b) dm_cL_countSequences_0 4 rfl
theorem dL_countSequences_7 : decode cL_countSequences 7 = .ok (.i2l, 1) := dq0 (p := fun a b => decode cL_countSequences a = .ok b) dm_cL_countSequences_0 5 rfl
theorem dL_countSequences_8 : decode cL_countSequences 8 = .ok (.lastore, 1) := dq0 (p := fun a b => decode cL_countSequences a = .ok b) dm_cL_countSequences_0 6 rfl
theorem dL_countSequences_9 : decode cL_countSequences 9 = .ok (.goto 6, 3) := dq0 (p := fun a b => decode cL_countSequences a = .ok b) dm_cL_countSequences_0 7 rfl
theorem dL_countSequences_12 : decode cL_countSequences 12 = .ok (.astore_n 3, 1) := dq0 (p := fun a b => decode cL_countSequences a = .ok b) dm_cL_countSequences_0 8 rfl
theorem dL_countSequences_13 : decode cL_countSequences 13 = .ok (.iconst 1, 1) := dq0 (p := fun a b => decode cL_countSequences a = .ok b) dm_cL_countSequences_0 9 rfl
theorem dL_countSequences_14 : decode cL_countSequences 14 = .ok (.ireturn, 1) := dq0 (p := fun a b => decode cL_countSequences a = .ok b) dm_cL_countSequences_0 10 rfl
theorem dL_countSequences_15 : decode cL_countSequences 15 = .ok (.iconst 0, 1) := dq0 (p := fun a b => decode cL_countSequences a = .ok b) dm_cL_countSequences_0 11 rfl
theorem dL_countSequences_16 : decode cL_countSequences 16 = .ok (.ireturn, 1) := dq0 (p := fun a b => decode cL_countSequences a = .ok b) dm_cL_countSequences_0 12 rfl
theorem dm_cL_move_0 : ([(0, .aload_n 3, 1), (1, .iconst 0, 1), (2, .aload_n 0, 1), (3, .iload_n 1, 1), (4, .iload_n 2, 1), (5, .invokevirtual 63, 3), (8, .i2l, 1), (9, .lastore, 1), (10, .goto 11, 3), (13, .astore 4, 2), (15, .iconst 1, 1), (16, .ireturn, 1), (17, .astore 4, 2), (19, .iconst 2, 1), (20, .ireturn, 1), (21, .iconst 0, 1), (22, .ireturn, 1)] : List (Nat × Instr × Nat)).all (fun t => decide (decode cL_move t.1 = .ok t.2)) = true := by decide +kernel
theorem dL_move_0 : decode cL_move 0 = .ok (.aload_n 3, 1) := dq0 (p := fun a b => decode cL_move a = .ok b) dm_cL_move_0 0 rfl
theorem dL_move_1 : decode cL_move 1 = .ok (.iconst 0, 1) := dq0 (p := fun a b => decode cL_move a = .ok b) dm_cL_move_0 1 rfl
theorem dL_move_2 : decode cL_move 2 = .ok (.aload_n 0, 1) := dq0 (p := fun a b => decode cL_move a = .ok b) dm_cL_move_0 2 rfl
theorem dL_move_3 : decode cL_move 3 = .ok (.iload_n 1, 1) := dq0 (p := fun a b => decode cL_move a = .ok b) dm_cL_move_0 3 rfl
theorem dL_move_4 : decode cL_move 4 = .ok (.iload_n 2, 1) := dq0 (p := fun a b => decode cL_move a = .ok b) dm_cL_move_0 4 rfl
theorem dL_move_5 : decode cL_move 5 = .ok (.invokevirtual 63, 3) := dq0 (p := fun a b => decode cL_move a = .ok b) dm_cL_move_0 5 rfl
theorem dL_move_8 : decode cL_move 8 = .ok (.i2l, 1) := dq0 (p := fun a b => decode cL_move a = .ok b) dm_cL_move_0 6 rfl
theorem dL_move_9 : decode cL_move 9 = .ok (.lastore, 1) := dq0 (p := fun a b => decode cL_move a = .ok b) dm_cL_move_0 7 rfl
theorem dL_move_10 : decode cL_move 10 = .ok (.goto 11, 3) := dq0 (p := fun a b => decode cL_move a = .ok b) dm_cL_move_0 8 rfl
theorem dL_move_13 : decode cL_move 13 = .ok (.astore 4, 2) := dq0 (p := fun a b => decode cL_move a = .ok b) dm_cL_move_0 9 rfl
theorem dL_move_15 : decode cL_move 15 = .ok (.iconst 1, 1) := dq0 (p := fun a b => decode cL_move a = .ok b) dm_cL_move_0 10 rfl
theorem dL_move_16 : decode cL_move 16 = .ok (.ireturn, 1) := dq0 (p := fun a b => decode cL_move a = .ok b) dm_cL_move_0 11 rfl
theorem dL_move_17 : decode cL_move 17 = .ok (.astore 4, 2) := dq0 (p := fun a b => decode cL_move a = .ok b) dm_cL_move_0 12 rfl
theorem dL_move_19 : decode cL_move 19 = .ok (.iconst 2, 1) := dq0 (p := fun a b => decode cL_move a = .ok b) dm_cL_move_0 13 rfl
theorem dL_move_20 : decode cL_move 20 = .ok (.ireturn, 1) := dq0 (p := fun a b => decode cL_move a = .ok b) dm_cL_move_0 14 rfl
theorem dL_move_21 : decode cL_move 21 = .ok (.iconst 0, 1) := dq0 (p := fun a b => decode cL_move a = .ok b) dm_cL_move_0 15 rfl
theorem dL_move_22 : decode cL_move 22 = .ok (.ireturn, 1) := dq0 (p := fun a b => decode cL_move a = .ok b) dm_cL_move_0 16 rfl
