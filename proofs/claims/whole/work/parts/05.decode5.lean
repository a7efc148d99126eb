theorem dm_cL_bond_0 : ([(0, .aload_n 3, 1), (1, .iconst 0, 1), (2, .aload_n 0, 1), (3, .iload_n 1, 1), (4, .iload_n 2, 1), (5, .invokevirtual 66, 3), (8, .i2l, 1), (9, .lastore, 1), (10, .goto 11, 3), (13, .astore 4, 2), (15, .iconst 1, 1), (16, .ireturn, 1), (17, .astore 4, 2), (19, .iconst 2, 1), (20, .ireturn, 1), (21, .iconst 0, 1), (22, .ireturn, 1)] : List (Nat × Instr × Nat)).all (fun t => decide (decode cL_bond t.1 = .ok t.2)) = true := by decide +kernel
theorem dL_bond_0 : decode cL_bond 0 = .ok (.aload_n 3, 1) := dq0 (p := fun a b => decode cL_bond a = .ok b) dm_cL_bond_0 0 rfl
theorem dL_bond_1 : decode cL_bond 1 = .ok (.iconst 0, 1) := dq0 (p := fun a b => decode cL_bond a = .ok b) dm_cL_bond_0 1 rfl
theorem dL_bond_2 : decode cL_bond 2 = .ok (.aload_n 0, 1) := dq0 (p := fun a b => decode cL_bond a = .ok b) dm_cL_bond_0 2 rfl
theorem dL_bond_3 : decode cL_bond 3 = .ok (.iload_n 1, 1) := dq0 (p := fun a b => decode cL_bond a = .ok b) dm_cL_bond_0 3 rfl
theorem dL_bond_4 : decode cL_bond 4 = .ok (.iload_n 2, 1) := dq0 (p := fun a b => decode cL_bond a = .ok b) dm_cL_bond_0 4 rfl
theorem dL_bond_5 : decode cL_bond 5 = .ok (.invokevirtual 66, 3) := dq0 (p := fun a b => decode cL_bond a = .ok b) dm_cL_bond_0 5 rfl
theorem dL_bond_8 : decode cL_bond 8 = .ok (.i2l, 1) := dq0 (p := fun a b => decode cL_bond a = .ok b) dm_cL_bond_0 6 rfl
theorem dL_bond_9 : decode cL_bond 9 = .ok (.lastore, 1) := dq0 (p := fun a b => decode cL_bond a = .ok b) dm_cL_bond_0 7 rfl
theorem dL_bond_10 : decode cL_bond 10 = .ok (.goto 11, 3) := dq0 (p := fun a b => decode cL_bond a = .ok b) dm_cL_bond_0 8 rfl
theorem dL_bond_13 : decode cL_bond 13 = .ok (.astore 4, 2) := dq0 (p := fun a b => decode cL_bond a = .ok b) dm_cL_bond_0 9 rfl
theorem dL_bond_15 : decode cL_bond 15 = .ok (.iconst 1, 1) := dq0 (p := fun a b => decode cL_bond a = .ok b) dm_cL_bond_0 10 rfl
theorem dL_bond_16 : decode cL_bond 16 = .ok (.ireturn, 1) := dq0 (p := fun a b => decode cL_bond a = .ok b) dm_cL_bond_0 11 rfl
theorem dL_bond_17 : decode cL_bond 17 = .ok (.astore 4, 2) := dq0 (p := fun a b => decode cL_bond a = .ok b) dm_cL_bond_0 12 rfl
theorem dL_bond_19 : decode cL_bond 19 = .ok (.iconst 2, 1) := dq0 (p := fun a b => decode cL_bond a = .ok b) dm_cL_bond_0 13 rfl
theorem dL_bond_20 : decode cL_bond 20 = .ok (.ireturn, 1) := dq0 (p := fun a b => decode cL_bond a = .ok b) dm_cL_bond_0 14 rfl
theorem dL_bond_21 : decode cL_bond 21 = .ok (.iconst 0, 1) := dq0 (p := fun a b => decode cL_bond a = .ok b) dm_cL_bond_0 15 rfl
theorem dL_bond_22 : decode cL_bond 22 = .ok (.ireturn, 1) := dq0 (p := fun a b => decode cL_bond a = .ok b) dm_cL_bond_0 16 rfl
theorem dm_cL_dissolve_0 : ([(0, .aload_n 2, 1), (1, .iconst 0, 1), (2, .aload_n 0, 1), (3, .iload_n 1, 1), (4, .invokevirtual 69, 3), (7, .i2l, 1), (8, .lastore, 1), (9, .goto 9, 3), (12, .astore_n 3, 1), (13, .iconst 1, 1), (14, .ireturn, 1), (15, .astore_n 3, 1), (16, .iconst 2, 1), (17, .ireturn, 1), (18, .iconst 0, 1), (19, .ireturn, 1)] : List (Nat × Instr × Nat)).all (fun t => decide (decode cL_dissolve t.1 = .ok t.2)) = true := by decide +kernel
theorem dL_dissolve_0 : decode cL_dissolve 0 = .ok (.aload_n 2, 1) := dq0 (p := fun a b => decode cL_dissolve a = .ok b) dm_cL_dissolve_0 0 rfl
theorem dL_dissolve_1 : decode cL_dissolve 1 = .ok (.iconst 0, 1) := dq0 (p := fun a b => decode cL_dissolve a = .ok b) dm_cL_dissolve_0 1 rfl
theorem dL_dissolve_2 : decode cL_dissolve 2 = .ok (.aload_n 0, 1) := dq0 (p := fun a b => decode cL_dissolve a = .ok b) dm_cL_dissolve_0 2 rfl
theorem dL_dissolve_3 : decode cL_dissolve 3 = .ok (.iload_n 1, 1) := dq0 (p := fun a b => decode cL_dissolve a = .ok b) dm_cL_dissolve_0 3 rfl
theorem dL_dissolve_4 : decode cL_dissolve 4 = .ok (.invokevirtual 69, 3) := dq0 (p := fun a b => decode cL_dissolve a = .ok b) dm_cL_dissolve_0 4 rfl
theorem dL_dissolve_7 : decode cL_dissolve 7 = .ok (.i2l, 1) := dq0 (p := fun a b => decode cL_dissolve a = .ok b) dm_cL_dissolve_0 5 rfl
theorem dL_dissolve_8 : decode cL_dissolve 8 = .ok (.lastore, 1) := dq0 (p := fun a b => decode cL_dissolve a = .ok b) dm_cL_dissolve_0 6 rfl
theorem dL_dissolve_9 : decode cL_dissolve 9 = .ok (.goto 9, 3) := dq0 (p := fun a b => decode cL_dissolve a = .ok b) dm_cL_dissolve_0 7 rfl
theorem dL_dissolve_12 : decode cL_dissolve 12 = .ok (.astore_n 3, 1) := dq0 (p := fun a b => decode cL_dissolve a = .ok b) dm_cL_dissolve_0 8 rfl
theorem dL_dissolve_13 : decode cL_dissolve 13 = .ok (.iconst 1, 1) := dq0 (p := fun a b => decode cL_dissolve a = .ok b) dm_cL_dissolve_0 9 rfl
theorem dL_dissolve_14 : decode cL_dissolve 14 = .ok (.ireturn, 1) := dq0 (p := fun a b => decode cL_dissolve a = .ok b) dm_cL_dissolve_0 10 rfl
theorem dL_dissolve_15 : decode cL_dissolve 15 = .ok (.astore_n 3, 1) := dq0 (p := fun a b => decode cL_dissolve a = .ok b) dm_cL_dissolve_0 11 rfl
theorem dL_dissolve_16 : decode cL_dissolve 16 = .ok (.iconst 2, 1) := dq0 (p := fun a b => decode cL_dissolve a = .ok b) dm_cL_dissolve_0 12 rfl
theorem dL_dissolve_17 : decode cL_dissolve 17 = .ok (.ireturn, 1) := dq0 (p := fun a b => decode cL_dissolve a = .ok b) dm_cL_dissolve_0 13 rfl
theorem dL_dissolve_18 : decode cL_dissolve 18 = .ok (.iconst 0, 1) := dq0 (p := fun a b => decode cL_dissolve a = .ok b) dm_cL_dissolve_0 14 rfl
theorem dL_dissolve_19 : decode cL_dissolve 19 = .ok (.ireturn, 1) := dq0 (p := fun a b => decode cL_dissolve a = .ok b) dm_cL_dissolve_0 15 rfl
theorem dm_cL_takeBack_0 : ([(0, .aload_n 1, 1), (1, .iconst 0, 1), (2, .aload_n 0, 1), (3, .invokevirtual 72, 3), (6, .i2l, 1), (7, .lastore, 1), (8, .goto 6, 3), (11, .astore_n 2, 1), (12, .iconst 1, 1), (13, .ireturn, 1), (14, .iconst 0, 1), (15, .ireturn, 1)] : List (Nat × Instr × Nat)).all (fun t => decide (decode cL_takeBack t.1 = .ok t.2)) = true := by decide +kernel
theorem dL_takeBack_0 : decode cL_takeBack 0 = .ok (.aload_n 1, 1) := dq0 (p := fun a b => decode cL_takeBack a = .ok b) dm_cL_takeBack_0 0 rfl
theorem dL_takeBack_1 : decode cL_takeBack 1 = .ok (.iconst 0, 1) := dq0 (p := fun a b => decode cL_takeBack a = .ok b) dm_cL_takeBack_0 1 rfl
theorem dL_takeBack_2 : decode cL_takeBack 2 = .ok (.aload_n 0, 1) := dq0 (p := fun a b => decode cL_takeBack a = .ok b) dm_cL_takeBack_0 2 rfl
theorem dL_takeBack_3 : decode cL_takeBack 3 = .ok (.invokevirtual 72, 3) := dq0 (p := fun a b => decode cL_takeBack a = .ok b) dm_cL_takeBack_0 3 rfl
theorem dL_takeBack_6 : decode cL_takeBack 6 = .ok (.i2l, 1) := dq0 (p := fun a b => decode cL_takeBack a = .ok b) dm_cL_takeBack_0 4 rfl
theorem dL_takeBack_7 : decode cL_takeBack 7 = .ok (.lastore, 1) := dq0 (p := fun a b => decode cL_takeBack a = .ok b) dm_cL_takeBack_0 5 rfl
theorem dL_takeBack_8 : decode cL_takeBack 8 = .ok (.goto 6, 3) := dq0 (p := fun a b => decode cL_takeBack a = .ok b) dm_cL_takeBack_0 6 rfl
theorem dL_takeBack_11 : decode cL_takeBack 11 = .ok (.astore_n 2, 1) := dq0 (p := fun a b => decode cL_takeBack a = .ok b) dm_cL_takeBack_0 7 rfl
theorem dL_takeBack_12 : decode cL_takeBack 12 = .ok (.iconst 1, 1) := dq0 (p := fun a b => decode cL_takeBack a = .ok b) dm_cL_takeBack_0 8 rfl
theorem dL_takeBack_13 : decode cL_takeBack 13 = .ok (.ireturn, 1) := dq0 (p := fun a b => decode cL_takeBack a = .ok b) dm_cL_takeBack_0 9 rfl
theorem dL_takeBack_14 : decode cL_takeBack 14 = .ok (.iconst 0, 1) := dq0 (p := fun a b => decode cL_takeBack a = .ok b) dm_cL_takeBack_0 10 rfl
theorem dL_takeBack_15 : decode cL_takeBack 15 = .ok (.ireturn, 1) := dq0 (p := fun a b => decode cL_takeBack a = .ok b) dm_cL_takeBack_0 11 rfl
theorem dm_cL_capturedCount_0 : ([(0, .aload_n 3, 1), (1, .iconst 0, 1), (2, .aload_n 0, 1), (3, .iload_n 1, 1), (4, .iload_n 2, 1), (5, .invokevirtual 76, 3), (8, .i2l, 1), (9, .lastore, 1), (10, .goto 7, 3), (13, .astore 4, 2), (15, .iconst 1, 1), (16, .ireturn, 1), (17, .iconst 0, 1), (18, .ireturn, 1)] : List (Nat × Instr × Nat)).all (fun t => decide (decode cL_capturedCount t.1 = .ok t.2)) = true := by decide +kernel
theorem dL_capturedCount_0 : decode cL_capturedCount 0 = .ok (.aload_n 3, 1) := dq0 (p := fun a b => decode cL_capturedCount a = .ok b) dm_cL_capturedCount_0 0 rfl
theorem dL_capturedCount_1 : decode cL_capturedCount 1 = .ok (.iconst 0, 1) := dq0 (p := fun a b => decode cL_capturedCount a = .ok b) dm_cL_capturedCount_0 1 rfl
theorem dL_capturedCount_2 : decode cL_capturedCount 2 = .ok (.aload_n 0, 1) := dq0 (p := fun a b => decode cL_capturedCount a = .ok b) dm_cL_capturedCount_0 2 rfl
theorem dL_capturedCount_3 : decode cL_capturedCount 3 = .ok (.iload_n 1, 1) := dq0 (p := fun a b => decode cL_capturedCount a = .ok b) dm_cL_capturedCount_0 3 rfl
theorem dL_capturedCount_4 : decode cL_capturedCount 4 = .ok (.iload_n 2, 1) := dq0 (p := fun a b => decode cL_capturedCount a = .ok b) dm_cL_capturedCount_0 4 rfl
theorem dL_capturedCount_5 : decode cL_capturedCount 5 = .ok (.invokevirtual 76, 3) := dq0 (p := fun a b => decode cL_capturedCount a = .ok b) dm_cL_capturedCount_0 5 rfl
theorem dL_capturedCount_8 : decode cL_capturedCount 8 = .ok (.i2l, 1) := dq0 (p := fun a b => decode cL_capturedCount a = .ok b) dm_cL_capturedCount_0 6 rfl
theorem dL_capturedCount_9 : decode cL_capturedCount 9 = .ok (.lastore, 1) := dq0 (p := fun a b => decode cL_capturedCount a = .ok b) dm_cL_capturedCount_0 7 rfl
theorem dL_capturedCount_10 : decode cL_capturedCount 10 = .ok (.goto 7, 3) := dq0 (p := fun a b => decode cL_capturedCount a = .ok b) dm_cL_capturedCount_0 8 rfl
theorem dL_capturedCount_13 : decode cL_capturedCount 13 = .ok (.astore 4, 2) := dq0 (p := fun a b => decode cL_capturedCount a = .ok b) dm_cL_capturedCount_0 9 rfl
theorem dL_capturedCount_15 : decode cL_capturedCount 15 = .ok (.iconst 1, 1) := dq0 (p := fun a b => decode cL_capturedCount a = .ok b) dm_cL_capturedCount_0 10 rfl
theorem dL_capturedCount_16 : decode cL_capturedCount 16 = .ok (.ireturn, 1) := dq0 (p := fun a b => decode cL_capturedCount a = .ok b) dm_cL_capturedCount_0 11 rfl
theorem dL_capturedCount_17 : decode cL_capturedCount 17 = .ok (.iconst 0, 1) := dq0 (p := fun a b => decode cL_capturedCount a = .ok b) dm_cL_capturedCount_0 12 rfl
theorem dL_capturedCount_18 : decode cL_capturedCount 18 = .ok (.ireturn, 1) := dq0 (p := fun a b => decode cL_capturedCount a = .ok b) dm_cL_capturedCount_0 13 rfl
theorem dm_cL_law_0 : ([(0, .new 8, 3), (3, .dup, 1), (4, .invokespecial 80, 3), (7, .astore_n 1, 1), (8, .new 81, 3), (11, .dup, 1), (12, .invokespecial 83, 3), (15, .astore_n 2, 1), (16, .iconst 1, 1), (17, .newarray .long, 2), (19, .astore_n 3, 1), (20, .iconst 0, 1), (21, .istore 4, 2), (23, .iload 4, 2), (25, .aload_n 0, 1), (26, .arraylength, 1), (27, .iconst 4, 1), (28, .isub, 1), (29, .if_icmp .gt 1862, 3), (32, .aload_n 0, 1), (33, .iload 4, 2), (35, .iaload, 1), (36, .bipush 63, 2), (38, .iand, 1), (39, .tableswitch 1846 0 35 #[157, 168, 264, 320, 392, 405, 418, 474, 537, 579, 620, 676, 717, 758, 826, 909, 951, 992, 1047, 1060, 1128, 1196, 1252, 1265, 1321, 1389, 1457, 1513, 1557, 1570, 1583, 1596, 1609, 1693, 1764, 1805], 157), (196, .aload_n 1, 1), (197, .invokevirtual 84, 3), (200, .aload_n 2, 1), (201, .invokevirtual 87, 3), (204, .goto 1681, 3), (207, .aload_n 1, 1), (208, .aload_n 0, 1), (209, .iload 4, 2), (211, .iconst 1, 1), (212, .iadd, 1), (213, .iaload, 1), (214, .aload_n 0, 1), (215, .iload 4, 2), (217, .iconst 2, 1), (218, .iadd, 1), (219, .iaload, 1), (220, .aload_n 0, 1), (221, .iload 4, 2), (223, .iconst 3, 1), (224, .iadd, 1), (225, .iaload, 1), (226, .ifCond .eq 7, 3), (229, .iconst 1, 1), (230, .goto 4, 3), (233, .iconst 0, 1), (234, .aload_n 3, 1), (235, .invokestatic 88, 3), (238, .istore 5, 2), (240, .aload_n 2, 1), (241, .aload_n 0, 1), (242, .iload 4, 2), (244, .iconst 1, 1), (245, .iadd, 1), (246, .iaload, 1), (247, .aload_n 0, 1)] : List (Nat × Instr × Nat)).all (fun t => decide (decode cL_law t.1 = .ok t.2)) = true := by decide +kernel
theorem dL_law_0 : decode cL_law 0 = .ok (.new 8, 3) := dq0 (p := fun a b => decode cL_law a = .ok b) dm_cL_law_0 0 rfl
theorem dL_law_3 : decode cL_law 3 = .ok (.dup, 1) := dq0 (p := fun a b => decode cL_law a = .ok b) dm_cL_law_0 1 rfl
theorem dL_law_4 : decode cL_law 4 = .ok (.invokespecial 80, 3) := dq0 (p := fun a b => decode cL_law a = .ok b) dm_cL_law_0 2 rfl
theorem dL_law_7 : decode cL_law 7 = .ok (.astore_n 1, 1) := dq0 (p := fun a b => decode cL_law a = .ok b) dm_cL_law_0 3 rfl
theorem dL_law_8 : decode cL_law 8 = .ok (.new 81, 3) := dq0 (p := fun a b => decode cL_law a = .ok b) dm_cL_law_0 4 rfl
theorem dL_law_11 : decode cL_law 11 = .ok (.dup, 1) := dq0 (p := fun a b => decode cL_law a = .ok b) dm_cL_law_0 5 rfl
theorem dL_law_12 : decode cL_law 12 = .ok (.invokespecial 83, 3) := dq0 (p := fun a b => decode cL_law a = .ok b) dm_cL_law_0 6 rfl
theorem dL_law_15 : decode cL_law 15 = .ok (.astore_n 2, 1) := dq0 (p := fun a b => decode cL_law a = .ok b) dm_cL_law_0 7 rfl
theorem dL_law_16 : decode cL_law 16 = .ok (.iconst 1, 1) := dq0 (p := fun a b => decode cL_law a = .ok b) dm_cL_law_0 8 rfl
theorem dL_law_17 : decode cL_law 17 = .ok (.newarray .long, 2) := dq0 (p := fun a b => decode cL_law a = .ok b) dm_cL_law_0 9 rfl
theorem dL_law_19 : decode cL_law 19 = .ok (.astore_n 3, 1) := dq0 (p := fun a b => decode cL_law a = .ok b) dm_cL_law_0 10 rfl
theorem dL_law_20 : decode cL_law 20 = .ok (.iconst 0, 1) := dq0 (p := fun a b => decode cL_law a = .ok b) dm_cL_law_0 11 rfl
theorem dL_law_21 : decode cL_law 21 = .ok (.istore 4, 2) := dq0 (p := fun a b => decode cL_law a = .ok b) dm_cL_law_0 12 rfl
theorem dL_law_23 : decode cL_law 23 = .ok (.iload 4, 2) := dq0 (p := fun a b => decode cL_law a = .ok b) dm_cL_law_0 13 rfl
theorem dL_law_25 : decode cL_law 25 = .ok (.aload_n 0, 1) := dq0 (p := fun a b => decode cL_law a = .ok b) dm_cL_law_0 14 rfl
theorem dL_law_26 : decode cL_law 26 = .ok (.arraylength, 1) := dq0 (p := fun a b => decode cL_law a = .ok b) dm_cL_law_0 15 rfl
theorem dL_law_27 : decode cL_law 27 = .ok (.iconst 4, 1) := dq0 (p := fun a b => decode cL_law a = .ok b) dm_cL_law_0 16 rfl
theorem dL_law_28 : decode cL_law 28 = .ok (.isub, 1) := dq0 (p := fun a b => decode cL_law a = .ok b) dm_cL_law_0 17 rfl
theorem dL_law_29 : decode cL_law 29 = .ok (.if_icmp .gt 1862, 3) := dq0 (p := fun a b => decode cL_law a = .ok b) dm_cL_law_0 18 rfl
theorem dL_law_32 : decode cL_law 32 = .ok (.aload_n 0, 1) := dq0 (p := fun a b => decode cL_law a = .ok b) dm_cL_law_0 19 rfl
theorem dL_law_33 : decode cL_law 33 = .ok (.iload 4, 2) := dq0 (p := fun a b => decode cL_law a = .ok b) dm_cL_law_0 20 rfl
theorem dL_law_35 : decode cL_law 35 = .ok (.iaload, 1) := dq0 (p := fun a b => decode cL_law a = .ok b) dm_cL_law_0 21 rfl
theorem dL_law_36 : decode cL_law 36 = .ok (.bipush 63, 2) := dq0 (p := fun a b => decode cL_law a = .ok b) dm_cL_law_0 22 rfl
theorem dL_law_38 : decode cL_law 38 = .ok (.iand, 1) := dq0 (p := fun a b => decode cL_law a = .ok b) dm_cL_law_0 23 rfl
theorem dL_law_39 : decode cL_law 39 = .ok (.tableswitch 1846 0 35 #[157, 168, 264, 320, 392, 405, 418, 474, 537, 579, 620, 676, 717, 758, 826, 909, 951, 992, 1047, 1060, 1128, 1196, 1252, 1265, 1321, 1389, 1457, 1513, 1557, 1570, 1583, 1596, 1609, 1693, 1764, 1805], 157) := dq0 (p := fun a b => decode cL_law a = .ok b) dm_cL_law_0 24 rfl
theorem dL_law_196 : decode cL_law 196 = .ok (.aload_n 1, 1) := dq0 (p := fun a b => decode cL_law a = .ok b) dm_cL_law_0 25 rfl
theorem dL_law_197 : decode cL_law 197 = .ok (.invokevirtual 84, 3) := dq0 (p := fun a b => decode cL_law a = .ok b) dm_cL_law_0 26 rfl
theorem dL_law_200 : decode cL_law 200 = .ok (.aload_n 2, 1) := dq0 (p := fun a b => decode cL_law a = .ok b) dm_cL_law_0 27 rfl
theorem dL_law_201 : decode cL_law 201 = .ok (.invokevirtual 87, 3) := dq0 (p := fun a b => decode cL_law a = .ok b) dm_cL_law_0 28 rfl
theorem dL_law_204 : decode cL_law 204 = .ok (.goto 1681, 3) := dq0 (p := fun a b => decode cL_law a = .ok b) dm_cL_law_0 29 rfl
theorem dL_law_207 : decode cL_law 207 = .ok (.aload_n 1, 1) := dq0 (p := fun a b => decode cL_law a = .ok b) dm_cL_law_0 30 rfl
theorem dL_law_208 : decode cL_law 208 = .ok (.aload_n 0, 1) := dq0 (p := fun a b => decode cL_law a = .ok b) dm_cL_law_0 31 rfl
theorem dL_law_209 : decode cL_law 209 = .ok (.iload 4, 2) := dq0 (p := fun a b => decode cL_law a = .ok b) dm_cL_law_0 32 rfl
theorem dL_law_211 : decode cL_law 211 = .ok (.iconst 1, 1) := dq0 (p := fun a b => decode cL_law a = .ok b) dm_cL_law_0 33 rfl
theorem dL_law_212 : decode cL_law 212 = .ok (.iadd, 1) := dq0 (p := fun a b => decode cL_law a = .ok b) dm_cL_law_0 34 rfl
theorem dL_law_213 : decode cL_law 213 = .ok (.iaload, 1) := dq0 (p := fun a b => decode cL_law a = .ok b) dm_cL_law_0 35 rfl
theorem dL_law_214 : decode cL_law 214 = .ok (.aload_n 0, 1) := dq0 (p := fun a b => decode cL_law a = .ok b) dm_cL_law_0 36 rfl
theorem dL_law_215 : decode cL_law 215 = .ok (.iload 4, 2) := dq0 (p := fun a b => decode cL_law a = .ok b) dm_cL_law_0 37 rfl
theorem dL_law_217 : decode cL_law 217 = .ok (.iconst 2, 1) := dq0 (p := fun a b => decode cL_law a = .ok b) dm_cL_law_0 38 rfl
theorem dL_law_218 : decode cL_law 218 = .ok (.iadd, 1) := dq0 (p := fun a b => decode cL_law a = .ok b) dm_cL_law_0 39 rfl
theorem dL_law_219 : decode cL_law 219 = .ok (.iaload, 1) := dq0 (p := fun a b => decode cL_law a = .ok b) dm_cL_law_0 40 rfl
theorem dL_law_220 : decode cL_law 220 = .ok (.aload_n 0, 1) := dq0 (p := fun a b => decode cL_law a = .ok b) dm_cL_law_0 41 rfl
theorem dL_law_221 : decode cL_law 221 = .ok (.iload 4, 2) := dq0 (p := fun a b => decode cL_law a = .ok b) dm_cL_law_0 42 rfl
theorem dL_law_223 : decode cL_law 223 = .ok (.iconst 3, 1) := dq0 (p := fun a b => decode cL_law a = .ok b) dm_cL_law_0 43 rfl
theorem dL_law_224 : decode cL_law 224 = .ok (.iadd, 1) := dq0 (p := fun a b => decode cL_law a = .ok b) dm_cL_law_0 44 rfl
theorem dL_law_225 : decode cL_law 225 = .ok (.iaload, 1) := dq0 (p := fun a b => decode cL_law a = .ok b) dm_cL_law_0 45 rfl
theorem dL_law_226 : decode cL_law 226 = .ok (.ifCond .eq 7, 3) := dq0 (p := fun a b => decode cL_law a = .ok b) dm_cL_law_0 46 rfl
theorem dL_law_229 : decode cL_law 229 = .ok (.iconst 1, 1) := dq0 (p := fun a b => decode cL_law a = .ok b) dm_cL_law_0 47 rfl
theorem dL_law_230 : decode cL_law 230 = .ok (.goto 4, 3) := dq0 (p := fun a b => decode cL_law a = .ok b) dm_cL_law_0 48 rfl
theorem dL_law_233 : decode cL_law 233 = .ok (.iconst 0, 1) := dq0 (p := fun a b => decode cL_law a = .ok b) dm_cL_law_0 49 rfl
theorem dL_law_234 : decode cL_law 234 = .ok (.aload_n 3, 1) := dq0 (p := fun a b => decode cL_law a = .ok b) dm_cL_law_0 50 rfl
theorem dL_law_235 : decode cL_law 235 = .ok (.invokestatic 88, 3) := dq0 (p := fun a b => decode cL_law a = .ok b) dm_cL_law_0 51 rfl
theorem dL_law_238 : decode cL_law 238 = .ok (.istore 5, 2) := dq0 (p := fun a b => decode cL_law a = .ok b) dm_cL_law_0 52 rfl
theorem dL_law_240 : decode cL_law 240 = .ok (.aload_n 2, 1) := dq0 (p := fun a b => decode cL_law a = .ok b) dm_cL_law_0 53 rfl
theorem dL_law_241 : decode cL_law 241 = .ok (.aload_n 0, 1) := dq0 (p := fun a b => decode cL_law a = .ok b) dm_cL_law_0 54 rfl
theorem dL_law_242 : decode cL_law 242 = .ok (.iload 4, 2) := dq0 (p := fun a b => decode cL_law a = .ok b) dm_cL_law_0 55 rfl
theorem dL_law_244 : decode cL_law 244 = .ok (.iconst 1, 1) := dq0 (p := fun a b => decode cL_law a = .ok b) dm_cL_law_0 56 rfl
theorem dL_law_245 : decode cL_law 245 = .ok (.iadd, 1) := dq0 (p := fun a b => decode cL_law a = .ok b) dm_cL_law_0 57 rfl
theorem dL_law_246 : decode cL_law 246 = .ok (.iaload, 1) := dq0 (p := fun a b => decode cL_law a = .ok b) dm_cL_law_0 58 rfl
theorem dL_law_247 : decode cL_law 247 = .ok (.aload_n 0, 1) := dq0 (p := fun a b => decode cL_law a = .ok b) dm_cL_law_0 59 rfl
theorem dm_cL_law_1 : ([(248, .iload 4, 2), (250, .iconst 2, 1), (251, .iadd, 1), (252, .iaload, 1), (253, .aload_n 0, 1), (254, .iload 4, 2), (256, .iconst 3, 1), (257, .iadd, 1), (258, .iaload, 1), (259, .ifCond .eq 7, 3), (262, .iconst 1, 1), (263, .goto 4, 3), (266, .iconst 0, 1), (267, .invokevirtual 93, 3), (270, .istore 6, 2), (272, .aload_n 2, 1), (273, .invokevirtual 94, 3), (276, .iload 5, 2), (278, .if_icmp .eq 5, 3), (281, .iconst 0, 1), (282, .ireturn, 1), (283, .iload 5, 2), (285, .ifCond .ne 15, 3), (288, .aload_n 3, 1), (289, .iconst 0, 1), (290, .laload, 1), (291, .iload 6, 2), (293, .i2l, 1), (294, .lcmp, 1), (295, .ifCond .eq 5, 3), (298, .iconst 0, 1), (299, .ireturn, 1), (300, .goto 1585, 3), (303, .aload_n 1, 1), (304, .aload_n 0, 1), (305, .iload 4, 2), (307, .iconst 1, 1), (308, .iadd, 1), (309, .iaload, 1), (310, .aload_n 3, 1), (311, .invokestatic 97, 3), (314, .istore 5, 2), (316, .aload_n 2, 1), (317, .aload_n 0, 1), (318, .iload 4, 2), (320, .iconst 1, 1), (321, .iadd, 1), (322, .iaload, 1), (323, .invokevirtual 100, 3), (326, .istore 6, 2), (328, .aload_n 2, 1), (329, .invokevirtual 94, 3), (332, .iload 5, 2), (334, .if_icmp .eq 5, 3), (337, .iconst 0, 1), (338, .ireturn, 1), (339, .iload 5, 2), (341, .ifCond .ne 15, 3), (344, .aload_n 3, 1), (345, .iconst 0, 1)] : List (Nat × Instr × Nat)).all (fun t => decide (decode cL_law t.1 = .ok t.2)) = true := by decide +kernel
theorem dL_law_248 : decode cL_law 248 = .ok (.iload 4, 2) := dq0 (p := fun a b => decode cL_law a = .ok b) dm_cL_law_1 0 rfl
theorem dL_law_250 : decode cL_law 250 = .ok (.iconst 2, 1) := dq0 (p := fun a b => decode cL_law a = .ok b) dm_cL_law_1 1 rfl
theorem dL_law_251 : decode cL_law 251 = .ok (.iadd, 1) := dq0 (p := fun a b => decode cL_law a = .ok b) dm_cL_law_1 2 rfl
theorem dL_law_252 : decode cL_law 252 = .ok (.iaload, 1) := dq0 (p := fun a b => decode cL_law a = .ok b) dm_cL_law_1 3 rfl
theorem dL_law_253 : decode cL_law 253 = .ok (.aload_n 0, 1) := dq0 (p := fun a b => decode cL_law a = .ok b) dm_cL_law_1 4 rfl
theorem dL_law_254 : decode cL_law 254 = .ok (.iload 4, 2) := dq0 (p := fun a b => decode cL_law a = .ok b) dm_cL_law_1 5 rfl
theorem dL_law_256 : decode cL_law 256 = .ok (.iconst 3, 1) := dq0 (p := fun a b => decode cL_law a = .ok b) dm_cL_law_1 6 rfl
theorem dL_law_257 : decode cL_law 257 = .ok (.iadd, 1) := dq0 (p := fun a b => decode cL_law a = .ok b) dm_cL_law_1 7 rfl
theorem dL_law_258 : decode cL_law 258 = .ok (.iaload, 1) := dq0 (p := fun a b => decode cL_law a = .ok b) dm_cL_law_1 8 rfl
theorem dL_law_259 : decode cL_law 259 = .ok (.ifCond .eq 7, 3) := dq0 (p := fun a b => decode cL_law a = .ok b) dm_cL_law_1 9 rfl
theorem dL_law_262 : decode cL_law 262 = .ok (.iconst 1, 1) := dq0 (p := fun a b => decode cL_law a = .ok b) dm_cL_law_1 10 rfl
theorem dL_law_263 : decode cL_law 263 = .ok (.goto 4, 3) := dq0 (p := fun a b => decode cL_law a = .ok b) dm_cL_law_1 11 rfl
theorem dL_law_266 : decode cL_law 266 = .ok (.iconst 0, 1) := dq0 (p := fun a b => decode cL_law a = .ok b) dm_cL_law_1 12 rfl
theorem dL_law_267 : decode cL_law 267 = .ok (.invokevirtual 93, 3) := dq0 (p := fun a b => decode cL_law a = .ok b) dm_cL_law_1 13 rfl
theorem dL_law_270 : decode cL_law 270 = .ok (.istore 6, 2) := dq0 (p := fun a b => decode cL_law a = .ok b) dm_cL_law_1 14 rfl
theorem dL_law_272 : decode cL_law 272 = .ok (.aload_n 2, 1) := dq0 (p := fun a b => decode cL_law a = .ok b) dm_cL_law_1 15 rfl
theorem dL_law_273 : decode cL_law 273 = .ok (.invokevirtual 94, 3) := dq0 (p := fun a b => decode cL_law a = .ok b) dm_cL_law_1 16 rfl
theorem dL_law_276 : decode cL_law 276 = .ok (.iload 5, 2) := dq0 (p := fun a b => decode cL_law a = .ok b) dm_cL_law_1 17 rfl
theorem dL_law_278 : decode cL_law 278 = .ok (.if_icmp .eq 5, 3) := dq0 (p := fun a b => decode cL_law a = .ok b) dm_cL_law_1 18 rfl
theorem dL_law_281 : decode cL_law 281 = .ok (.iconst 0, 1) := dq0 (p := fun a b => decode cL_law a = .ok b) dm_cL_law_1 19 rfl
theorem dL_law_282 : decode cL_law 282 = .ok (.ireturn, 1) := dq0 (p := fun a b => decode cL_law a = .ok b) dm_cL_law_1 20 rfl
theorem dL_law_283 : decode cL_law 283 = .ok (.iload 5, 2) := dq0 (p := fun a b => decode cL_law a = .ok b) dm_cL_law_1 21 rfl
theorem dL_law_285 : decode cL_law 285 = .ok (.ifCond .ne 15, 3) := dq0 (p := fun a b => decode cL_law a = .ok b) dm_cL_law_1 22 rfl
theorem dL_law_288 : decode cL_law 288 = .ok (.aload_n 3, 1) := dq0 (p := fun a b => decode cL_law a = .ok b) dm_cL_law_1 23 rfl
theorem dL_law_289 : decode cL_law 289 = .ok (.iconst 0, 1) := dq0 (p := fun a b => decode cL_law a = .ok b) dm_cL_law_1 24 rfl
theorem dL_law_290 : decode cL_law 290 = .ok (.laload, 1) := dq0 (p := fun a b => decode cL_law a = .ok b) dm_cL_law_1 25 rfl
theorem dL_law_291 : decode cL_law 291 = .ok (.iload 6, 2) := dq0 (p := fun a b => decode cL_law a = .ok b) dm_cL_law_1 26 rfl
theorem dL_law_293 : decode cL_law 293 = .ok (.i2l, 1) := dq0 (p := fun a b => decode cL_law a = .ok b) dm_cL_law_1 27 rfl
theorem dL_law_294 : decode cL_law 294 = .ok (.lcmp, 1) := dq0 (p := fun a b => decode cL_law a = .ok b) dm_cL_law_1 28 rfl
theorem dL_law_295 : decode cL_law 295 = .ok (.ifCond .eq 5, 3) := dq0 (p := fun a b => decode cL_law a = .ok b) dm_cL_law_1 29 rfl
theorem dL_law_298 : decode cL_law 298 = .ok (.iconst 0, 1) := dq0 (p := fun a b => decode cL_law a = .ok b) dm_cL_law_1 30 rfl
theorem dL_law_299 : decode cL_law 299 = .ok (.ireturn, 1) := dq0 (p := fun a b => decode cL_law a = .ok b) dm_cL_law_1 31 rfl
theorem dL_law_300 : decode cL_law 300 = .ok (.goto 1585, 3) := dq0 (p := fun a b => decode cL_law a = .ok b) dm_cL_law_1 32 rfl
theorem dL_law_303 : decode cL_law 303 = .ok (.aload_n 1, 1) := dq0 (p := fun a b => decode cL_law a = .ok b) dm_cL_law_1 33 rfl
theorem dL_law_304 : decode cL_law 304 = .ok (.aload_n 0, 1) := dq0 (p := fun a b => decode cL_law a = .ok b) dm_cL_law_1 34 rfl
theorem dL_law_305 : decode cL_law 305 = .ok (.iload 4, 2) := dq0 (p := fun a b => decode cL_law a = .ok b) dm_cL_law_1 35 rfl
theorem dL_law_307 : decode cL_law 307 = .ok (.iconst 1, 1) := dq0 (p := fun a b => decode cL_law a = .ok b) dm_cL_law_1 36 rfl
theorem dL_law_308 : decode cL_law 308 = .ok (.iadd, 1) := dq0 (p := fun a b => decode cL_law a = .ok b) dm_cL_law_1 37 rfl
theorem dL_law_309 : decode cL_law 309 = .ok (.iaload, 1) := dq0 (p := fun a b => decode cL_law a = .ok b) dm_cL_law_1 38 rfl
theorem dL_law_310 : decode cL_law 310 = .ok (.aload_n 3, 1) := dq0 (p := fun a b => decode cL_law a = .ok b) dm_cL_law_1 39 rfl
theorem dL_law_311 : decode cL_law 311 = .ok (.invokestatic 97, 3) := dq0 (p := fun a b => decode cL_law a = .ok b) dm_cL_law_1 40 rfl
theorem dL_law_314 : decode cL_law 314 = .ok (.istore 5, 2) := dq0 (p := fun a b => decode cL_law a = .ok b) dm_cL_law_1 41 rfl
theorem dL_law_316 : decode cL_law 316 = .ok (.aload_n 2, 1) := dq0 (p := fun a b => decode cL_law a = .ok b) dm_cL_law_1 42 rfl
theorem dL_law_317 : decode cL_law 317 = .ok (.aload_n 0, 1) := dq0 (p := fun a b => decode cL_law a = .ok b) dm_cL_law_1 43 rfl
theorem dL_law_318 : decode cL_law 318 = .ok (.iload 4, 2) := dq0 (p := fun a b => decode cL_law a = .ok b) dm_cL_law_1 44 rfl
theorem dL_law_320 : decode cL_law 320 = .ok (.iconst 1, 1) := dq0 (p := fun a b => decode cL_law a = .ok b) dm_cL_law_1 45 rfl
theorem dL_law_321 : decode cL_law 321 = .ok (.iadd, 1) := dq0 (p := fun a b => decode cL_law a = .ok b) dm_cL_law_1 46 rfl
theorem dL_law_322 : decode cL_law 322 = .ok (.iaload, 1) := dq0 (p := fun a b => decode cL_law a = .ok b) dm_cL_law_1 47 rfl
theorem dL_law_323 : decode cL_law 323 = .ok (.invokevirtual 100, 3) := dq0 (p := fun a b => decode cL_law a = .ok b) dm_cL_law_1 48 rfl
theorem dL_law_326 : decode cL_law 326 = .ok (.istore 6, 2) := dq0 (p := fun a b => decode cL_law a = .ok b) dm_cL_law_1 49 rfl
theorem dL_law_328 : decode cL_law 328 = .ok (.aload_n 2, 1) := dq0 (p := fun a b => decode cL_law a = .ok b) dm_cL_law_1 50 rfl
theorem dL_law_329 : decode cL_law 329 = .ok (.invokevirtual 94, 3) := dq0 (p := fun a b => decode cL_law a = .ok b) dm_cL_law_1 51 rfl
theorem dL_law_332 : decode cL_law 332 = .ok (.iload 5, 2) := dq0 (p := fun a b => decode cL_law a = .ok b) dm_cL_law_1 52 rfl
theorem dL_law_334 : decode cL_law 334 = .ok (.if_icmp .eq 5, 3) := dq0 (p := fun a b => decode cL_law a = .ok b) dm_cL_law_1 53 rfl
theorem dL_law_337 : decode cL_law 337 = .ok (.iconst 0, 1) := dq0 (p := fun a b => decode cL_law a = .ok b) dm_cL_law_1 54 rfl
theorem dL_law_338 : decode cL_law 338 = .ok (.ireturn, 1) := dq0 (p := fun a b => decode cL_law a = .ok b) dm_cL_law_1 55 rfl
theorem dL_law_339 : decode cL_law 339 = .ok (.iload 5, 2) := dq0 (p := fun a b => decode cL_law a = .ok b) dm_cL_law_1 56 rfl
theorem dL_law_341 : decode cL_law 341 = .ok (.ifCond .ne 15, 3) := dq0 (p := fun a b => decode cL_law a = .ok b) dm_cL_law_1 57 rfl
theorem dL_law_344 : decode cL_law 344 = .ok (.aload_n 3, 1) := dq0 (p := fun a b => decode cL_law a = .ok b) dm_cL_law_1 58 rfl
theorem dL_law_345 : decode cL_law 345 = .ok (.iconst 0, 1) := dq0 (p := fun a b => decode cL_law a = .ok b) dm_cL_law_1 59 rfl
theorem dm_cL_law_2 : ([(346, .laload, 1), (347, .iload 6, 2), (349, .i2l, 1), (350, .lcmp, 1), (351, .ifCond .eq 5, 3), (354, .iconst 0, 1), (355, .ireturn, 1), (356, .goto 1529, 3), (359, .aload_n 1, 1), (360, .aload_n 0, 1), (361, .iload 4, 2), (363, .iconst 1, 1), (364, .iadd, 1), (365, .iaload, 1), (366, .ifCond .eq 7, 3), (369, .iconst 1, 1), (370, .goto 4, 3), (373, .iconst 0, 1), (374, .aload_n 3, 1), (375, .invokestatic 101, 3), (378, .istore 5, 2), (380, .aload_n 2, 1), (381, .aload_n 0, 1), (382, .iload 4, 2), (384, .iconst 1, 1), (385, .iadd, 1), (386, .iaload, 1), (387, .ifCond .eq 7, 3), (390, .iconst 1, 1), (391, .goto 4, 3), (394, .iconst 0, 1), (395, .invokevirtual 104, 3), (398, .istore 6, 2), (400, .aload_n 2, 1), (401, .invokevirtual 94, 3), (404, .iload 5, 2), (406, .if_icmp .eq 5, 3), (409, .iconst 0, 1), (410, .ireturn, 1), (411, .iload 5, 2), (413, .ifCond .ne 15, 3), (416, .aload_n 3, 1), (417, .iconst 0, 1), (418, .laload, 1), (419, .iload 6, 2), (421, .i2l, 1), (422, .lcmp, 1), (423, .ifCond .eq 5, 3), (426, .iconst 0, 1), (427, .ireturn, 1), (428, .goto 1457, 3), (431, .aload_n 1, 1), (432, .invokevirtual 105, 3), (435, .aload_n 2, 1), (436, .invokevirtual 109, 3), (439, .if_icmp .eq 1446, 3), (442, .iconst 0, 1), (443, .ireturn, 1), (444, .aload_n 1, 1), (445, .invokevirtual 110, 3)] : List (Nat × Instr × Nat)).all (fun t => decide (decode cL_law t.1 = .ok t.2)) = true := by decide +kernel
theorem dL_law_346 : decode cL_law 346 = .ok (.laload, 1) := dq0 (p := fun a b => decode cL_law a = .ok b) dm_cL_law_2 0 rfl
theorem dL_law_347 : decode cL_law 347 = .ok (.iload 6, 2) := dq0 (p := fun a b => decode cL_law a = .ok b) dm_cL_law_2 1 rfl
theorem dL_law_349 : decode cL_law 349 = .ok (.i2l, 1) := dq0 (p := fun a b => decode cL_law a = .ok b) dm_cL_law_2 2 rfl
theorem dL_law_350 : decode cL_law 350 = .ok (.lcmp, 1) := dq0 (p := fun a b => decode cL_law a = .ok b) dm_cL_law_2 3 rfl
theorem dL_law_351 : decode cL_law 351 = .ok (.ifCond .eq 5, 3) := dq0 (p := fun a b => decode cL_law a = .ok b) dm_cL_law_2 4 rfl
theorem dL_law_354 : decode cL_law 354 = .ok (.iconst 0, 1) := dq0 (p := fun a b => decode cL_law a = .ok b) dm_cL_law_2 5 rfl
theorem dL_law_355 : decode cL_law 355 = .ok (.ireturn, 1) := dq0 (p := fun a b => decode cL_law a = .ok b) dm_cL_law_2 6 rfl
theorem dL_law_356 : decode cL_law 356 = .ok (.goto 1529, 3) := dq0 (p := fun a b => decode cL_law a = .ok b) dm_cL_law_2 7 rfl
theorem dL_law_359 : decode cL_law 359 = .ok (.aload_n 1, 1) := dq0 (p := fun a b => decode cL_law a = .ok b) dm_cL_law_2 8 rfl
theorem dL_law_360 : decode cL_law 360 = .ok (.aload_n 0, 1) := dq0 (p := fun a b => decode cL_law a = .ok b) dm_cL_law_2 9 rfl
theorem dL_law_361 : decode cL_law 361 = .ok (.iload 4, 2) := dq0 (p := fun a b => decode cL_law a = .ok b) dm_cL_law_2 10 rfl
theorem dL_law_363 : decode cL_law 363 = .ok (.iconst 1, 1) := dq0 (p := fun a b => decode cL_law a = .ok b) dm_cL_law_2 11 rfl
theorem dL_law_364 : decode cL_law 364 = .ok (.iadd, 1) := dq0 (p := fun a b => decode cL_law a = .ok b) dm_cL_law_2 12 rfl
theorem dL_law_365 : decode cL_law 365 = .ok (.iaload, 1) := dq0 (p := fun a b => decode cL_law a = .ok b) dm_cL_law_2 13 rfl
theorem dL_law_366 : decode cL_law 366 = .ok (.ifCond .eq 7, 3) := dq0 (p := fun a b => decode cL_law a = .ok b) dm_cL_law_2 14 rfl
theorem dL_law_369 : decode cL_law 369 = .ok (.iconst 1, 1) := dq0 (p := fun a b => decode cL_law a = .ok b) dm_cL_law_2 15 rfl
theorem dL_law_370 : decode cL_law 370 = .ok (.goto 4, 3) := dq0 (p := fun a b => decode cL_law a = .ok b) dm_cL_law_2 16 rfl
theorem dL_law_373 : decode cL_law 373 = .ok (.iconst 0, 1) := dq0 (p := fun a b => decode cL_law a = .ok b) dm_cL_law_2 17 rfl
theorem dL_law_374 : decode cL_law 374 = .ok (.aload_n 3, 1) := dq0 (p := fun a b => decode cL_law a = .ok b) dm_cL_law_2 18 rfl
theorem dL_law_375 : decode cL_law 375 = .ok (.invokestatic 101, 3) := dq0 (p := fun a b => decode cL_law a = .ok b) dm_cL_law_2 19 rfl
theorem dL_law_378 : decode cL_law 378 = .ok (.istore 5, 2) := dq0 (p := fun a b => decode cL_law a = .ok b) dm_cL_law_2 20 rfl
theorem dL_law_380 : decode cL_law 380 = .ok (.aload_n 2, 1) := dq0 (p := fun a b => decode cL_law a = .ok b) dm_cL_law_2 21 rfl
theorem dL_law_381 : decode cL_law 381 = .ok (.aload_n 0, 1) := dq0 (p := fun a b => decode cL_law a = .ok b) dm_cL_law_2 22 rfl
theorem dL_law_382 : decode cL_law 382 = .ok (.iload 4, 2) := dq0 (p := fun a b => decode cL_law a = .ok b) dm_cL_law_2 23 rfl
theorem dL_law_384 : decode cL_law 384 = .ok (.iconst 1, 1) := dq0 (p := fun a b => decode cL_law a = .ok b) dm_cL_law_2 24 rfl
theorem dL_law_385 : decode cL_law 385 = .ok (.iadd, 1) := dq0 (p := fun a b => decode cL_law a = .ok b) dm_cL_law_2 25 rfl
theorem dL_law_386 : decode cL_law 386 = .ok (.iaload, 1) := dq0 (p := fun a b => decode cL_law a = .ok b) dm_cL_law_2 26 rfl
theorem dL_law_387 : decode cL_law 387 = .ok (.ifCond .eq 7, 3) := dq0 (p := fun a b => decode cL_law a = .ok b) dm_cL_law_2 27 rfl
theorem dL_law_390 : decode cL_law 390 = .ok (.iconst 1, 1) := dq0 (p := fun a b => decode cL_law a = .ok b) dm_cL_law_2 28 rfl
theorem dL_law_391 : decode cL_law 391 = .ok (.goto 4, 3) := dq0 (p := fun a b => decode cL_law a = .ok b) dm_cL_law_2 29 rfl
theorem dL_law_394 : decode cL_law 394 = .ok (.iconst 0, 1) := dq0 (p := fun a b => decode cL_law a = .ok b) dm_cL_law_2 30 rfl
theorem dL_law_395 : decode cL_law 395 = .ok (.invokevirtual 104, 3) := dq0 (p := fun a b => decode cL_law a = .ok b) dm_cL_law_2 31 rfl
theorem dL_law_398 : decode cL_law 398 = .ok (.istore 6, 2) := dq0 (p := fun a b => decode cL_law a = .ok b) dm_cL_law_2 32 rfl
theorem dL_law_400 : decode cL_law 400 = .ok (.aload_n 2, 1) := dq0 (p := fun a b => decode cL_law a = .ok b) dm_cL_law_2 33 rfl
theorem dL_law_401 : decode cL_law 401 = .ok (.invokevirtual 94, 3) := dq0 (p := fun a b => decode cL_law a = .ok b) dm_cL_law_2 34 rfl
theorem dL_law_404 : decode cL_law 404 = .ok (.iload 5, 2) := dq0 (p := fun a b => decode cL_law a = .ok b) dm_cL_law_2 35 rfl
theorem dL_law_406 : decode cL_law 406 = .ok (.if_icmp .eq 5, 3) := dq0 (p := fun a b => decode cL_law a = .ok b) dm_cL_law_2 36 rfl
theorem dL_law_409 : decode cL_law 409 = .ok (.iconst 0, 1) := dq0 (p := fun a b => decode cL_law a = .ok b) dm_cL_law_2 37 rfl
theorem dL_law_410 : decode cL_law 410 = .ok (.ireturn, 1) := dq0 (p := fun a b => decode cL_law a = .ok b) dm_cL_law_2 38 rfl
theorem dL_law_411 : decode cL_law 411 = .ok (.iload 5, 2) := dq0 (p := fun a b => decode cL_law a = .ok b) dm_cL_law_2 39 rfl
theorem dL_law_413 : decode cL_law 413 = .ok (.ifCond .ne 15, 3) := dq0 (p := fun a b => decode cL_law a = .ok b) dm_cL_law_2 40 rfl
theorem dL_law_416 : decode cL_law 416 = .ok (.aload_n 3, 1) := dq0 (p := fun a b => decode cL_law a = .ok b) dm_cL_law_2 41 rfl
theorem dL_law_417 : decode cL_law 417 = .ok (.iconst 0, 1) := dq0 (p := fun a b => decode cL_law a = .ok b) dm_cL_law_2 42 rfl
theorem dL_law_418 : decode cL_law 418 = .ok (.laload, 1) := dq0 (p := fun a b => decode cL_law a = .ok b) dm_cL_law_2 43 rfl
theorem dL_law_419 : decode cL_law 419 = .ok (.iload 6, 2) := dq0 (p := fun a b => decode cL_law a = .ok b) dm_cL_law_2 44 rfl
theorem dL_law_421 : decode cL_law 421 = .ok (.i2l, 1) := dq0 (p := fun a b => decode cL_law a = .ok b) dm_cL_law_2 45 rfl
theorem dL_law_422 : decode cL_law 422 = .ok (.lcmp, 1) := dq0 (p := fun a b => decode cL_law a = .ok b) dm_cL_law_2 46 rfl
theorem dL_law_423 : decode cL_law 423 = .ok (.ifCond .eq 5, 3) := dq0 (p := fun a b => decode cL_law a = .ok b) dm_cL_law_2 47 rfl
theorem dL_law_426 : decode cL_law 426 = .ok (.iconst 0, 1) := dq0 (p := fun a b => decode cL_law a = .ok b) dm_cL_law_2 48 rfl
theorem dL_law_427 : decode cL_law 427 = .ok (.ireturn, 1) := dq0 (p := fun a b => decode cL_law a = .ok b) dm_cL_law_2 49 rfl
theorem dL_law_428 : decode cL_law 428 = .ok (.goto 1457, 3) := dq0 (p := fun a b => decode cL_law a = .ok b) dm_cL_law_2 50 rfl
theorem dL_law_431 : decode cL_law 431 = .ok (.aload_n 1, 1) := dq0 (p := fun a b => decode cL_law a = .ok b) dm_cL_law_2 51 rfl
theorem dL_law_432 : decode cL_law 432 = .ok (.invokevirtual 105, 3) := dq0 (p := fun a b => decode cL_law a = .ok b) dm_cL_law_2 52 rfl
theorem dL_law_435 : decode cL_law 435 = .ok (.aload_n 2, 1) := dq0 (p := fun a b => decode cL_law a = .ok b) dm_cL_law_2 53 rfl
theorem dL_law_436 : decode cL_law 436 = .ok (.invokevirtual 109, 3) := dq0 (p := fun a b => decode cL_law a = .ok b) dm_cL_law_2 54 rfl
theorem dL_law_439 : decode cL_law 439 = .ok (.if_icmp .eq 1446, 3) := dq0 (p := fun a b => decode cL_law a = .ok b) dm_cL_law_2 55 rfl
theorem dL_law_442 : decode cL_law 442 = .ok (.iconst 0, 1) := dq0 (p := fun a b => decode cL_law a = .ok b) dm_cL_law_2 56 rfl
theorem dL_law_443 : decode cL_law 443 = .ok (.ireturn, 1) := dq0 (p := fun a b => decode cL_law a = .ok b) dm_cL_law_2 57 rfl
theorem dL_law_444 : decode cL_law 444 = .ok (.aload_n 1, 1) := dq0 (p := fun a b => decode cL_law a = .ok b) dm_cL_law_2 58 rfl
theorem dL_law_445 : decode cL_law 445 = .ok (.invokevirtual 110, 3) := dq0 (p := fun a b => decode cL_law a = .ok b) dm_cL_law_2 59 rfl
theorem dm_cL_law_3 : ([(448, .aload_n 2, 1), (449, .invokevirtual 113, 3), (452, .if_icmp .eq 1433, 3), (455, .iconst 0, 1), (456, .ireturn, 1), (457, .aload_n 1, 1), (458, .aload_n 0, 1), (459, .iload 4, 2), (461, .iconst 1, 1), (462, .iadd, 1), (463, .iaload, 1), (464, .aload_n 3, 1), (465, .invokestatic 114, 3), (468, .istore 5, 2), (470, .aload_n 2, 1), (471, .aload_n 0, 1), (472, .iload 4, 2), (474, .iconst 1, 1), (475, .iadd, 1), (476, .iaload, 1), (477, .invokevirtual 116, 3), (480, .istore 6, 2), (482, .aload_n 2, 1), (483, .invokevirtual 94, 3), (486, .iload 5, 2), (488, .if_icmp .eq 5, 3), (491, .iconst 0, 1), (492, .ireturn, 1), (493, .iload 5, 2), (495, .ifCond .ne 15, 3), (498, .aload_n 3, 1), (499, .iconst 0, 1), (500, .laload, 1), (501, .iload 6, 2), (503, .i2l, 1), (504, .lcmp, 1), (505, .ifCond .eq 5, 3), (508, .iconst 0, 1), (509, .ireturn, 1), (510, .goto 1375, 3), (513, .aload_n 1, 1), (514, .aload_n 0, 1), (515, .iload 4, 2), (517, .iconst 1, 1), (518, .iadd, 1), (519, .iaload, 1), (520, .aload_n 3, 1), (521, .invokestatic 117, 3), (524, .istore 5, 2), (526, .aload_n 2, 1), (527, .aload_n 0, 1), (528, .iload 4, 2), (530, .iconst 1, 1), (531, .iadd, 1), (532, .iaload, 1), (533, .invokevirtual 119, 3), (536, .istore 6, 2), (538, .aload_n 2, 1), (539, .invokevirtual 94, 3), (542, .iload 5, 2)] : List (Nat × Instr × Nat)).all (fun t => decide (decode cL_law t.1 = .ok t.2)) = true := by decide +kernel
theorem dL_law_448 : decode cL_law 448 = .ok (.aload_n 2, 1) := dq0 (p := fun a b => decode cL_law a = .ok b) dm_cL_law_3 0 rfl
theorem dL_law_449 : decode cL_law 449 = .ok (.invokevirtual 113, 3) := dq0 (p := fun a b => decode cL_law a = .ok b) dm_cL_law_3 1 rfl
theorem dL_law_452 : decode cL_law 452 = .ok (.if_icmp .eq 1433, 3) := dq0 (p := fun a b => decode cL_law a = .ok b) dm_cL_law_3 2 rfl
theorem dL_law_455 : decode cL_law 455 = .ok (.iconst 0, 1) := dq0 (p := fun a b => decode cL_law a = .ok b) dm_cL_law_3 3 rfl
theorem dL_law_456 : decode cL_law 456 = .ok (.ireturn, 1) := dq0 (p := fun a b => decode cL_law a = .ok b) dm_cL_law_3 4 rfl
theorem dL_law_457 : decode cL_law 457 = .ok (.aload_n 1, 1) := dq0 (p := fun a b => decode cL_law a = .ok b) dm_cL_law_3 5 rfl
theorem dL_law_458 : decode cL_law 458 = .ok (.aload_n 0, 1) := dq0 (p := fun a b => decode cL_law a = .ok b) dm_cL_law_3 6 rfl
theorem dL_law_459 : decode cL_law 459 = .ok (.iload 4, 2) := dq0 (p := fun a b => decode cL_law a = .ok b) dm_cL_law_3 7 rfl
theorem dL_law_461 : decode cL_law 461 = .ok (.iconst 1, 1) := dq0 (p := fun a b => decode cL_law a = .ok b) dm_cL_law_3 8 rfl
theorem dL_law_462 : decode cL_law 462 = .ok (.iadd, 1) := dq0 (p := fun a b => decode cL_law a = .ok b) dm_cL_law_3 9 rfl
theorem dL_law_463 : decode cL_law 463 = .ok (.iaload, 1) := dq0 (p := fun a b => decode cL_law a = .ok b) dm_cL_law_3 10 rfl
theorem dL_law_464 : decode cL_law 464 = .ok (.aload_n 3, 1) := dq0 (p := fun a b => decode cL_law a = .ok b) dm_cL_law_3 11 rfl
theorem dL_law_465 : decode cL_law 465 = .ok (.invokestatic 114, 3) := dq0 (p := fun a b => decode cL_law a = .ok b) dm_cL_law_3 12 rfl
theorem dL_law_468 : decode cL_law 468 = .ok (.istore 5, 2) := dq0 (p := fun a b => decode cL_law a = .ok b) dm_cL_law_3 13 rfl
theorem dL_law_470 : decode cL_law 470 = .ok (.aload_n 2, 1) := dq0 (p := fun a b => decode cL_law a = .ok b) dm_cL_law_3 14 rfl
theorem dL_law_471 : decode cL_law 471 = .ok (.aload_n 0, 1) := dq0 (p := fun a b => decode cL_law a = .ok b) dm_cL_law_3 15 rfl
theorem dL_law_472 : decode cL_law 472 = .ok (.iload 4, 2) := dq0 (p := fun a b => decode cL_law a = .ok b) dm_cL_law_3 16 rfl
theorem dL_law_474 : decode cL_law 474 = .ok (.iconst 1, 1) := dq0 (p := fun a b => decode cL_law a = .ok b) dm_cL_law_3 17 rfl
theorem dL_law_475 : decode cL_law 475 = .ok (.iadd, 1) := dq0 (p := fun a b => decode cL_law a = .ok b) dm_cL_law_3 18 rfl
theorem dL_law_476 : decode cL_law 476 = .ok (.iaload, 1) := dq0 (p := fun a b => decode cL_law a = .ok b) dm_cL_law_3 19 rfl
theorem dL_law_477 : decode cL_law 477 = .ok (.invokevirtual 116, 3) := dq0 (p := fun a b => decode cL_law a = .ok b) dm_cL_law_3 20 rfl
theorem dL_law_480 : decode cL_law 480 = .ok (.istore 6, 2) := dq0 (p := fun a b => decode cL_law a = .ok b) dm_cL_law_3 21 rfl
theorem dL_law_482 : decode cL_law 482 = .ok (.aload_n 2, 1) := dq0 (p := fun a b => decode cL_law a = .ok b) dm_cL_law_3 22 rfl
theorem dL_law_483 : decode cL_law 483 = .ok (.invokevirtual 94, 3) := dq0 (p := fun a b => decode cL_law a = .ok b) dm_cL_law_3 23 rfl
theorem dL_law_486 : decode cL_law 486 = .ok (.iload 5, 2) := dq0 (p := fun a b => decode cL_law a = .ok b) dm_cL_law_3 24 rfl
theorem dL_law_488 : decode cL_law 488 = .ok (.if_icmp .eq 5, 3) := dq0 (p := fun a b => decode cL_law a = .ok b) dm_cL_law_3 25 rfl
theorem dL_law_491 : decode cL_law 491 = .ok (.iconst 0, 1) := dq0 (p := fun a b => decode cL_law a = .ok b) dm_cL_law_3 26 rfl
theorem dL_law_492 : decode cL_law 492 = .ok (.ireturn, 1) := dq0 (p := fun a b => decode cL_law a = .ok b) dm_cL_law_3 27 rfl
theorem dL_law_493 : decode cL_law 493 = .ok (.iload 5, 2) := dq0 (p := fun a b => decode cL_law a = .ok b) dm_cL_law_3 28 rfl
theorem dL_law_495 : decode cL_law 495 = .ok (.ifCond .ne 15, 3) := dq0 (p := fun a b => decode cL_law a = .ok b) dm_cL_law_3 29 rfl
theorem dL_law_498 : decode cL_law 498 = .ok (.aload_n 3, 1) := dq0 (p := fun a b => decode cL_law a = .ok b) dm_cL_law_3 30 rfl
theorem dL_law_499 : decode cL_law 499 = .ok (.iconst 0, 1) := dq0 (p := fun a b => decode cL_law a = .ok b) dm_cL_law_3 31 rfl
theorem dL_law_500 : decode cL_law 500 = .ok (.laload, 1) := dq0 (p := fun a b => decode cL_law a = .ok b) dm_cL_law_3 32 rfl
theorem dL_law_501 : decode cL_law 501 = .ok (.iload 6, 2) := dq0 (p := fun a b => decode cL_law a = .ok b) dm_cL_law_3 33 rfl
theorem dL_law_503 : decode cL_law 503 = .ok (.i2l, 1) := dq0 (p := fun a b => decode cL_law a = .ok b) dm_cL_law_3 34 rfl
theorem dL_law_504 : decode cL_law 504 = .ok (.lcmp, 1) := dq0 (p := fun a b => decode cL_law a = .ok b) dm_cL_law_3 35 rfl
theorem dL_law_505 : decode cL_law 505 = .ok (.ifCond .eq 5, 3) := dq0 (p := fun a b => decode cL_law a = .ok b) dm_cL_law_3 36 rfl
theorem dL_law_508 : decode cL_law 508 = .ok (.iconst 0, 1) := dq0 (p := fun a b => decode cL_law a = .ok b) dm_cL_law_3 37 rfl
theorem dL_law_509 : decode cL_law 509 = .ok (.ireturn, 1) := dq0 (p := fun a b => decode cL_law a = .ok b) dm_cL_law_3 38 rfl
theorem dL_law_510 : decode cL_law 510 = .ok (.goto 1375, 3) := dq0 (p := fun a b => decode cL_law a = .ok b) dm_cL_law_3 39 rfl
theorem dL_law_513 : decode cL_law 513 = .ok (.aload_n 1, 1) := dq0 (p := fun a b => decode cL_law a = .ok b) dm_cL_law_3 40 rfl
theorem dL_law_514 : decode cL_law 514 = .ok (.aload_n 0, 1) := dq0 (p := fun a b => decode cL_law a = .ok b) dm_cL_law_3 41 rfl
theorem dL_law_515 : decode cL_law 515 = .ok (.iload 4, 2) := dq0 (p := fun a b => decode cL_law a = .ok b) dm_cL_law_3 42 rfl
theorem dL_law_517 : decode cL_law 517 = .ok (.iconst 1, 1) := dq0 (p := fun a b => decode cL_law a = .ok b) dm_cL_law_3 43 rfl
theorem dL_law_518 : decode cL_law 518 = .ok (.iadd, 1) := dq0 (p := fun a b => decode cL_law a = .ok b) dm_cL_law_3 44 rfl
theorem dL_law_519 : decode cL_law 519 = .ok (.iaload, 1) := dq0 (p := fun a b => decode cL_law a = .ok b) dm_cL_law_3 45 rfl
theorem dL_law_520 : decode cL_law 520 = .ok (.aload_n 3, 1) := dq0 (p := fun a b => decode cL_law a = .ok b) dm_cL_law_3 46 rfl
theorem dL_law_521 : decode cL_law 521 = .ok (.invokestatic 117, 3) := dq0 (p := fun a b => decode cL_law a = .ok b) dm_cL_law_3 47 rfl
theorem dL_law_524 : decode cL_law 524 = .ok (.istore 5, 2) := dq0 (p := fun a b => decode cL_law a = .ok b) dm_cL_law_3 48 rfl
theorem dL_law_526 : decode cL_law 526 = .ok (.aload_n 2, 1) := dq0 (p := fun a b => decode cL_law a = .ok b) dm_cL_law_3 49 rfl
theorem dL_law_527 : decode cL_law 527 = .ok (.aload_n 0, 1) := dq0 (p := fun a b => decode cL_law a = .ok b) dm_cL_law_3 50 rfl
theorem dL_law_528 : decode cL_law 528 = .ok (.iload 4, 2) := dq0 (p := fun a b => decode cL_law a = .ok b) dm_cL_law_3 51 rfl
theorem dL_law_530 : decode cL_law 530 = .ok (.iconst 1, 1) := dq0 (p := fun a b => decode cL_law a = .ok b) dm_cL_law_3 52 rfl
theorem dL_law_531 : decode cL_law 531 = .ok (.iadd, 1) := dq0 (p := fun a b => decode cL_law a = .ok b) dm_cL_law_3 53 rfl
theorem dL_law_532 : decode cL_law 532 = .ok (.iaload, 1) := dq0 (p := fun a b => decode cL_law a = .ok b) dm_cL_law_3 54 rfl
theorem dL_law_533 : decode cL_law 533 = .ok (.invokevirtual 119, 3) := dq0 (p := fun a b => decode cL_law a = .ok b) dm_cL_law_3 55 rfl
theorem dL_law_536 : decode cL_law 536 = .ok (.istore 6, 2) := dq0 (p := fun a b => decode cL_law a = .ok b) dm_cL_law_3 56 rfl
theorem dL_law_538 : decode cL_law 538 = .ok (.aload_n 2, 1) := dq0 (p := fun a b => decode cL_law a = .ok b) dm_cL_law_3 57 rfl
theorem dL_law_539 : decode cL_law 539 = .ok (.invokevirtual 94, 3) := dq0 (p := fun a b => decode cL_law a = .ok b) dm_cL_law_3 58 rfl
theorem dL_law_542 : decode cL_law 542 = .ok (.iload 5, 2) := dq0 (p := fun a b => decode cL_law a = .ok b) dm_cL_law_3 59 rfl
theorem dm_cL_law_4 : ([(544, .if_icmp .eq 5, 3), (547, .iconst 0, 1), (548, .ireturn, 1), (549, .iload 5, 2), (551, .ifCond .ne 22, 3), (554, .aload_n 3, 1), (555, .iconst 0, 1), (556, .laload, 1), (557, .iload 6, 2), (559, .ifCond .eq 7, 3), (562, .lconst 1, 1), (563, .goto 4, 3), (566, .lconst 0, 1), (567, .lcmp, 1), (568, .ifCond .eq 5, 3), (571, .iconst 0, 1), (572, .ireturn, 1), (573, .goto 1312, 3), (576, .aload_n 1, 1), (577, .aload_n 0, 1), (578, .iload 4, 2), (580, .iconst 1, 1), (581, .iadd, 1), (582, .iaload, 1), (583, .ifCond .eq 7, 3), (586, .iconst 1, 1), (587, .goto 4, 3), (590, .iconst 0, 1), (591, .invokevirtual 120, 3), (594, .aload_n 2, 1), (595, .aload_n 0, 1), (596, .iload 4, 2), (598, .iconst 1, 1), (599, .iadd, 1), (600, .iaload, 1), (601, .ifCond .eq 7, 3), (604, .iconst 1, 1), (605, .goto 4, 3), (608, .iconst 0, 1), (609, .invokevirtual 124, 3), (612, .lcmp, 1), (613, .ifCond .eq 1272, 3), (616, .iconst 0, 1), (617, .ireturn, 1), (618, .aload_n 1, 1), (619, .aload_n 0, 1), (620, .iload 4, 2), (622, .iconst 1, 1), (623, .iadd, 1), (624, .iaload, 1), (625, .ifCond .eq 7, 3), (628, .iconst 1, 1), (629, .goto 4, 3), (632, .iconst 0, 1), (633, .invokevirtual 125, 3), (636, .aload_n 2, 1), (637, .aload_n 0, 1), (638, .iload 4, 2), (640, .iconst 1, 1), (641, .iadd, 1)] : List (Nat × Instr × Nat)).all (fun t => decide (decode cL_law t.1 = .ok t.2)) = true := by decide +kernel
theorem dL_law_544 : decode cL_law 544 = .ok (.if_icmp .eq 5, 3) := dq0 (p := fun a b => decode cL_law a = .ok b) dm_cL_law_4 0 rfl
theorem dL_law_547 : decode cL_law 547 = .ok (.iconst 0, 1) := dq0 (p := fun a b => decode cL_law a = .ok b) dm_cL_law_4 1 rfl
theorem dL_law_548 : decode cL_law 548 = .ok (.ireturn, 1) := dq0 (p := fun a b => decode cL_law a = .ok b) dm_cL_law_4 2 rfl
theorem dL_law_549 : decode cL_law 549 = .ok (.iload 5, 2) := dq0 (p := fun a b => decode cL_law a = .ok b) dm_cL_law_4 3 rfl
theorem dL_law_551 : decode cL_law 551 = .ok (.ifCond .ne 22, 3) := dq0 (p := fun a b => decode cL_law a = .ok b) dm_cL_law_4 4 rfl
theorem dL_law_554 : decode cL_law 554 = .ok (.aload_n 3, 1) := dq0 (p := fun a b => decode cL_law a = .ok b) dm_cL_law_4 5 rfl
theorem dL_law_555 : decode cL_law 555 = .ok (.iconst 0, 1) := dq0 (p := fun a b => decode cL_law a = .ok b) dm_cL_law_4 6 rfl
theorem dL_law_556 : decode cL_law 556 = .ok (.laload, 1) := dq0 (p := fun a b => decode cL_law a = .ok b) dm_cL_law_4 7 rfl
theorem dL_law_557 : decode cL_law 557 = .ok (.iload 6, 2) := dq0 (p := fun a b => decode cL_law a = .ok b) dm_cL_law_4 8 rfl
theorem dL_law_559 : decode cL_law 559 = .ok (.ifCond .eq 7, 3) := dq0 (p := fun a b => decode cL_law a = .ok b) dm_cL_law_4 9 rfl
theorem dL_law_562 : decode cL_law 562 = .ok (.lconst 1, 1) := dq0 (p := fun a b => decode cL_law a = .ok b) dm_cL_law_4 10 rfl
theorem dL_law_563 : decode cL_law 563 = .ok (.goto 4, 3) := dq0 (p := fun a b => decode cL_law a = .ok b) dm_cL_law_4 11 rfl
theorem dL_law_566 : decode cL_law 566 = .ok (.lconst 0, 1) := dq0 (p := fun a b => decode cL_law a = .ok b) dm_cL_law_4 12 rfl
theorem dL_law_567 : decode cL_law 567 = .ok (.lcmp, 1) := dq0 (p := fun a b => decode cL_law a = .ok b) dm_cL_law_4 13 rfl
theorem dL_law_568 : decode cL_law 568 = .ok (.ifCond .eq 5, 3) := dq0 (p := fun a b => decode cL_law a = .ok b) dm_cL_law_4 14 rfl
theorem dL_law_571 : decode cL_law 571 = .ok (.iconst 0, 1) := dq0 (p := fun a b => decode cL_law a = .ok b) dm_cL_law_4 15 rfl
theorem dL_law_572 : decode cL_law 572 = .ok (.ireturn, 1) := dq0 (p := fun a b => decode cL_law a = .ok b) dm_cL_law_4 16 rfl
theorem dL_law_573 : decode cL_law 573 = .ok (.goto 1312, 3) := dq0 (p := fun a b => decode cL_law a = .ok b) dm_cL_law_4 17 rfl
theorem dL_law_576 : decode cL_law 576 = .ok (.aload_n 1, 1) := dq0 (p := fun a b => decode cL_law a = .ok b) dm_cL_law_4 18 rfl
theorem dL_law_577 : decode cL_law 577 = .ok (.aload_n 0, 1) := dq0 (p := fun a b => decode cL_law a = .ok b) dm_cL_law_4 19 rfl
theorem dL_law_578 : decode cL_law 578 = .ok (.iload 4, 2) := dq0 (p := fun a b => decode cL_law a = .ok b) dm_cL_law_4 20 rfl
theorem dL_law_580 : decode cL_law 580 = .ok (.iconst 1, 1) := dq0 (p := fun a b => decode cL_law a = .ok b) dm_cL_law_4 21 rfl
theorem dL_law_581 : decode cL_law 581 = .ok (.iadd, 1) := dq0 (p := fun a b => decode cL_law a = .ok b) dm_cL_law_4 22 rfl
theorem dL_law_582 : decode cL_law 582 = .ok (.iaload, 1) := dq0 (p := fun a b => decode cL_law a = .ok b) dm_cL_law_4 23 rfl
theorem dL_law_583 : decode cL_law 583 = .ok (.ifCond .eq 7, 3) := dq0 (p := fun a b => decode cL_law a = .ok b) dm_cL_law_4 24 rfl
theorem dL_law_586 : decode cL_law 586 = .ok (.iconst 1, 1) := dq0 (p := fun a b => decode cL_law a = .ok b) dm_cL_law_4 25 rfl
theorem dL_law_587 : decode cL_law 587 = .ok (.goto 4, 3) := dq0 (p := fun a b => decode cL_law a = .ok b) dm_cL_law_4 26 rfl
theorem dL_law_590 : decode cL_law 590 = .ok (.iconst 0, 1) := dq0 (p := fun a b => decode cL_law a = .ok b) dm_cL_law_4 27 rfl
theorem dL_law_591 : decode cL_law 591 = .ok (.invokevirtual 120, 3) := dq0 (p := fun a b => decode cL_law a = .ok b) dm_cL_law_4 28 rfl
theorem dL_law_594 : decode cL_law 594 = .ok (.aload_n 2, 1) := dq0 (p := fun a b => decode cL_law a = .ok b) dm_cL_law_4 29 rfl
theorem dL_law_595 : decode cL_law 595 = .ok (.aload_n 0, 1) := dq0 (p := fun a b => decode cL_law a = .ok b) dm_cL_law_4 30 rfl
theorem dL_law_596 : decode cL_law 596 = .ok (.iload 4, 2) := dq0 (p := fun a b => decode cL_law a = .ok b) dm_cL_law_4 31 rfl
theorem dL_law_598 : decode cL_law 598 = .ok (.iconst 1, 1) := dq0 (p := fun a b => decode cL_law a = .ok b) dm_cL_law_4 32 rfl
theorem dL_law_599 : decode cL_law 599 = .ok (.iadd, 1) := dq0 (p := fun a b => decode cL_law a = .ok b) dm_cL_law_4 33 rfl
theorem dL_law_600 : decode cL_law 600 = .ok (.iaload, 1) := dq0 (p := fun a b => decode cL_law a = .ok b) dm_cL_law_4 34 rfl
theorem dL_law_601 : decode cL_law 601 = .ok (.ifCond .eq 7, 3) := dq0 (p := fun a b => decode cL_law a = .ok b) dm_cL_law_4 35 rfl
theorem dL_law_604 : decode cL_law 604 = .ok (.iconst 1, 1) := dq0 (p := fun a b => decode cL_law a = .ok b) dm_cL_law_4 36 rfl
theorem dL_law_605 : decode cL_law 605 = .ok (.goto 4, 3) := dq0 (p := fun a b => decode cL_law a = .ok b) dm_cL_law_4 37 rfl
theorem dL_law_608 : decode cL_law 608 = .ok (.iconst 0, 1) := dq0 (p := fun a b => decode cL_law a = .ok b) dm_cL_law_4 38 rfl
theorem dL_law_609 : decode cL_law 609 = .ok (.invokevirtual 124, 3) := dq0 (p := fun a b => decode cL_law a = .ok b) dm_cL_law_4 39 rfl
theorem dL_law_612 : decode cL_law 612 = .ok (.lcmp, 1) := dq0 (p := fun a b => decode cL_law a = .ok b) dm_cL_law_4 40 rfl
theorem dL_law_613 : decode cL_law 613 = .ok (.ifCond .eq 1272, 3) := dq0 (p := fun a b => decode cL_law a = .ok b) dm_cL_law_4 41 rfl
theorem dL_law_616 : decode cL_law 616 = .ok (.iconst 0, 1) := dq0 (p := fun a b => decode cL_law a = .ok b) dm_cL_law_4 42 rfl
theorem dL_law_617 : decode cL_law 617 = .ok (.ireturn, 1) := dq0 (p := fun a b => decode cL_law a = .ok b) dm_cL_law_4 43 rfl
theorem dL_law_618 : decode cL_law 618 = .ok (.aload_n 1, 1) := dq0 (p := fun a b => decode cL_law a = .ok b) dm_cL_law_4 44 rfl
theorem dL_law_619 : decode cL_law 619 = .ok (.aload_n 0, 1) := dq0 (p := fun a b => decode cL_law a = .ok b) dm_cL_law_4 45 rfl
theorem dL_law_620 : decode cL_law 620 = .ok (.iload 4, 2) := dq0 (p := fun a b => decode cL_law a = .ok b) dm_cL_law_4 46 rfl
theorem dL_law_622 : decode cL_law 622 = .ok (.iconst 1, 1) := dq0 (p := fun a b => decode cL_law a = .ok b) dm_cL_law_4 47 rfl
theorem dL_law_623 : decode cL_law 623 = .ok (.iadd, 1) := dq0 (p := fun a b => decode cL_law a = .ok b) dm_cL_law_4 48 rfl
theorem dL_law_624 : decode cL_law 624 = .ok (.iaload, 1) := dq0 (p := fun a b => decode cL_law a = .ok b) dm_cL_law_4 49 rfl
theorem dL_law_625 : decode cL_law 625 = .ok (.ifCond .eq 7, 3) := dq0 (p := fun a b => decode cL_law a = .ok b) dm_cL_law_4 50 rfl
theorem dL_law_628 : decode cL_law 628 = .ok (.iconst 1, 1) := dq0 (p := fun a b => decode cL_law a = .ok b) dm_cL_law_4 51 rfl
theorem dL_law_629 : decode cL_law 629 = .ok (.goto 4, 3) := dq0 (p := fun a b => decode cL_law a = .ok b) dm_cL_law_4 52 rfl
theorem dL_law_632 : decode cL_law 632 = .ok (.iconst 0, 1) := dq0 (p := fun a b => decode cL_law a = .ok b) dm_cL_law_4 53 rfl
theorem dL_law_633 : decode cL_law 633 = .ok (.invokevirtual 125, 3) := dq0 (p := fun a b => decode cL_law a = .ok b) dm_cL_law_4 54 rfl
theorem dL_law_636 : decode cL_law 636 = .ok (.aload_n 2, 1) := dq0 (p := fun a b => decode cL_law a = .ok b) dm_cL_law_4 55 rfl
theorem dL_law_637 : decode cL_law 637 = .ok (.aload_n 0, 1) := dq0 (p := fun a b => decode cL_law a = .ok b) dm_cL_law_4 56 rfl
theorem dL_law_638 : decode cL_law 638 = .ok (.iload 4, 2) := dq0 (p := fun a b => decode cL_law a = .ok b) dm_cL_law_4 57 rfl
theorem dL_law_640 : decode cL_law 640 = .ok (.iconst 1, 1) := dq0 (p := fun a b => decode cL_law a = .ok b) dm_cL_law_4 58 rfl
theorem dL_law_641 : decode cL_law 641 = .ok (.iadd, 1) := dq0 (p := fun a b => decode cL_law a = .ok b) dm_cL_law_4 59 rfl
theorem dm_cL_law_5 : ([(642, .iaload, 1), (643, .ifCond .eq 7, 3), (646, .iconst 1, 1), (647, .goto 4, 3), (650, .iconst 0, 1), (651, .invokevirtual 128, 3), (654, .if_icmp .eq 1231, 3), (657, .iconst 0, 1), (658, .ireturn, 1), (659, .aload_n 1, 1), (660, .aload_n 0, 1), (661, .iload 4, 2), (663, .iconst 1, 1), (664, .iadd, 1), (665, .iaload, 1), (666, .aload_n 3, 1), (667, .invokestatic 129, 3), (670, .istore 5, 2), (672, .aload_n 2, 1), (673, .aload_n 0, 1), (674, .iload 4, 2), (676, .iconst 1, 1), (677, .iadd, 1), (678, .iaload, 1), (679, .invokevirtual 131, 3), (682, .istore 6, 2), (684, .aload_n 2, 1), (685, .invokevirtual 94, 3), (688, .iload 5, 2), (690, .if_icmp .eq 5, 3), (693, .iconst 0, 1), (694, .ireturn, 1), (695, .iload 5, 2), (697, .ifCond .ne 15, 3), (700, .aload_n 3, 1), (701, .iconst 0, 1), (702, .laload, 1), (703, .iload 6, 2), (705, .i2l, 1), (706, .lcmp, 1), (707, .ifCond .eq 5, 3), (710, .iconst 0, 1), (711, .ireturn, 1), (712, .goto 1173, 3), (715, .aload_n 1, 1), (716, .aload_n 0, 1), (717, .iload 4, 2), (719, .iconst 1, 1), (720, .iadd, 1), (721, .iaload, 1), (722, .ifCond .eq 7, 3), (725, .iconst 1, 1), (726, .goto 4, 3), (729, .iconst 0, 1), (730, .invokevirtual 132, 3), (733, .aload_n 2, 1), (734, .aload_n 0, 1), (735, .iload 4, 2), (737, .iconst 1, 1), (738, .iadd, 1)] : List (Nat × Instr × Nat)).all (fun t => decide (decode cL_law t.1 = .ok t.2)) = true := by decide +kernel
theorem dL_law_642 : decode cL_law 642 = .ok (.iaload, 1) := dq0 (p := fun a b => decode cL_law a = .ok b) dm_cL_law_5 0 rfl
theorem dL_law_643 : decode cL_law 643 = .ok (.ifCond .eq 7, 3) := dq0 (p := fun a b => decode cL_law a = .ok b) dm_cL_law_5 1 rfl
theorem dL_law_646 : decode cL_law 646 = .ok (.iconst 1, 1) := dq0 (p := fun a b => decode cL_law a = .ok b) dm_cL_law_5 2 rfl
theorem dL_law_647 : decode cL_law 647 = .ok (.goto 4, 3) := dq0 (p := fun a b => decode cL_law a = .ok b) dm_cL_law_5 3 rfl
theorem dL_law_650 : decode cL_law 650 = .ok (.iconst 0, 1) := dq0 (p := fun a b => decode cL_law a = .ok b) dm_cL_law_5 4 rfl
theorem dL_law_651 : decode cL_law 651 = .ok (.invokevirtual 128, 3) := dq0 (p := fun a b => decode cL_law a = .ok b) dm_cL_law_5 5 rfl
theorem dL_law_654 : decode cL_law 654 = .ok (.if_icmp .eq 1231, 3) := dq0 (p := fun a b => decode cL_law a = .ok b) dm_cL_law_5 6 rfl
theorem dL_law_657 : decode cL_law 657 = .ok (.iconst 0, 1) := dq0 (p := fun a b => decode cL_law a = .ok b) dm_cL_law_5 7 rfl
theorem dL_law_658 : decode cL_law 658 = .ok (.ireturn, 1) := dq0 (p := fun a b => decode cL_law a = .ok b) dm_cL_law_5 8 rfl
theorem dL_law_659 : decode cL_law 659 = .ok (.aload_n 1, 1) := dq0 (p := fun a b => decode cL_law a = .ok b) dm_cL_law_5 9 rfl
theorem dL_law_660 : decode cL_law 660 = .ok (.aload_n 0, 1) := dq0 (p := fun a b => decode cL_law a = .ok b) dm_cL_law_5 10 rfl
theorem dL_law_661 : decode cL_law 661 = .ok (.iload 4, 2) := dq0 (p := fun a b => decode cL_law a = .ok b) dm_cL_law_5 11 rfl
theorem dL_law_663 : decode cL_law 663 = .ok (.iconst 1, 1) := dq0 (p := fun a b => decode cL_law a = .ok b) dm_cL_law_5 12 rfl
theorem dL_law_664 : decode cL_law 664 = .ok (.iadd, 1) := dq0 (p := fun a b => decode cL_law a = .ok b) dm_cL_law_5 13 rfl
theorem dL_law_665 : decode cL_law 665 = .ok (.iaload, 1) := dq0 (p := fun a b => decode cL_law a = .ok b) dm_cL_law_5 14 rfl
theorem dL_law_666 : decode cL_law 666 = .ok (.aload_n 3, 1) := dq0 (p := fun a b => decode cL_law a = .ok b) dm_cL_law_5 15 rfl
theorem dL_law_667 : decode cL_law 667 = .ok (.invokestatic 129, 3) := dq0 (p := fun a b => decode cL_law a = .ok b) dm_cL_law_5 16 rfl
theorem dL_law_670 : decode cL_law 670 = .ok (.istore 5, 2) := dq0 (p := fun a b => decode cL_law a = .ok b) dm_cL_law_5 17 rfl
theorem dL_law_672 : decode cL_law 672 = .ok (.aload_n 2, 1) := dq0 (p := fun a b => decode cL_law a = .ok b) dm_cL_law_5 18 rfl
theorem dL_law_673 : decode cL_law 673 = .ok (.aload_n 0, 1) := dq0 (p := fun a b => decode cL_law a = .ok b) dm_cL_law_5 19 rfl
theorem dL_law_674 : decode cL_law 674 = .ok (.iload 4, 2) := dq0 (p := fun a b => decode cL_law a = .ok b) dm_cL_law_5 20 rfl
theorem dL_law_676 : decode cL_law 676 = .ok (.iconst 1, 1) := dq0 (p := fun a b => decode cL_law a = .ok b) dm_cL_law_5 21 rfl
theorem dL_law_677 : decode cL_law 677 = .ok (.iadd, 1) := dq0 (p := fun a b => decode cL_law a = .ok b) dm_cL_law_5 22 rfl
theorem dL_law_678 : decode cL_law 678 = .ok (.iaload, 1) := dq0 (p := fun a b => decode cL_law a = .ok b) dm_cL_law_5 23 rfl
theorem dL_law_679 : decode cL_law 679 = .ok (.invokevirtual 131, 3) := dq0 (p := fun a b => decode cL_law a = .ok b) dm_cL_law_5 24 rfl
theorem dL_law_682 : decode cL_law 682 = .ok (.istore 6, 2) := dq0 (p := fun a b => decode cL_law a = .ok b) dm_cL_law_5 25 rfl
theorem dL_law_684 : decode cL_law 684 = .ok (.aload_n 2, 1) := dq0 (p := fun a b => decode cL_law a = .ok b) dm_cL_law_5 26 rfl
theorem dL_law_685 : decode cL_law 685 = .ok (.invokevirtual 94, 3) := dq0 (p := fun a b => decode cL_law a = .ok b) dm_cL_law_5 27 rfl
theorem dL_law_688 : decode cL_law 688 = .ok (.iload 5, 2) := dq0 (p := fun a b => decode cL_law a = .ok b) dm_cL_law_5 28 rfl
theorem dL_law_690 : decode cL_law 690 = .ok (.if_icmp .eq 5, 3) := dq0 (p := fun a b => decode cL_law a = .ok b) dm_cL_law_5 29 rfl
theorem dL_law_693 : decode cL_law 693 = .ok (.iconst 0, 1) := dq0 (p := fun a b => decode cL_law a = .ok b) dm_cL_law_5 30 rfl
theorem dL_law_694 : decode cL_law 694 = .ok (.ireturn, 1) := dq0 (p := fun a b => decode cL_law a = .ok b) dm_cL_law_5 31 rfl
theorem dL_law_695 : decode cL_law 695 = .ok (.iload 5, 2) := dq0 (p := fun a b => decode cL_law a = .ok b) dm_cL_law_5 32 rfl
theorem dL_law_697 : decode cL_law 697 = .ok (.ifCond .ne 15, 3) := dq0 (p := fun a b => decode cL_law a = .ok b) dm_cL_law_5 33 rfl
theorem dL_law_700 : decode cL_law 700 = .ok (.aload_n 3, 1) := dq0 (p := fun a b => decode cL_law a = .ok b) dm_cL_law_5 34 rfl
theorem dL_law_701 : decode cL_law 701 = .ok (.iconst 0, 1) := dq0 (p := fun a b => decode cL_law a = .ok b) dm_cL_law_5 35 rfl
theorem dL_law_702 : decode cL_law 702 = .ok (.laload, 1) := dq0 (p := fun a b => decode cL_law a = .ok b) dm_cL_law_5 36 rfl
theorem dL_law_703 : decode cL_law 703 = .ok (.iload 6, 2) := dq0 (p := fun a b => decode cL_law a = .ok b) dm_cL_law_5 37 rfl
theorem dL_law_705 : decode cL_law 705 = .ok (.i2l, 1) := dq0 (p := fun a b => decode cL_law a = .ok b) dm_cL_law_5 38 rfl
theorem dL_law_706 : decode cL_law 706 = .ok (.lcmp, 1) := dq0 (p := fun a b => decode cL_law a = .ok b) dm_cL_law_5 39 rfl
theorem dL_law_707 : decode cL_law 707 = .ok (.ifCond .eq 5, 3) := dq0 (p := fun a b => decode cL_law a = .ok b) dm_cL_law_5 40 rfl
theorem dL_law_710 : decode cL_law 710 = .ok (.iconst 0, 1) := dq0 (p := fun a b => decode cL_law a = .ok b) dm_cL_law_5 41 rfl
theorem dL_law_711 : decode cL_law 711 = .ok (.ireturn, 1) := dq0 (p := fun a b => decode cL_law a = .ok b) dm_cL_law_5 42 rfl
theorem dL_law_712 : decode cL_law 712 = .ok (.goto 1173, 3) := dq0 (p := fun a b => decode cL_law a = .ok b) dm_cL_law_5 43 rfl
theorem dL_law_715 : decode cL_law 715 = .ok (.aload_n 1, 1) := dq0 (p := fun a b => decode cL_law a = .ok b) dm_cL_law_5 44 rfl
theorem dL_law_716 : decode cL_law 716 = .ok (.aload_n 0, 1) := dq0 (p := fun a b => decode cL_law a = .ok b) dm_cL_law_5 45 rfl
theorem dL_law_717 : decode cL_law 717 = .ok (.iload 4, 2) := dq0 (p := fun a b => decode cL_law a = .ok b) dm_cL_law_5 46 rfl
theorem dL_law_719 : decode cL_law 719 = .ok (.iconst 1, 1) := dq0 (p := fun a b => decode cL_law a = .ok b) dm_cL_law_5 47 rfl
theorem dL_law_720 : decode cL_law 720 = .ok (.iadd, 1) := dq0 (p := fun a b => decode cL_law a = .ok b) dm_cL_law_5 48 rfl
theorem dL_law_721 : decode cL_law 721 = .ok (.iaload, 1) := dq0 (p := fun a b => decode cL_law a = .ok b) dm_cL_law_5 49 rfl
theorem dL_law_722 : decode cL_law 722 = .ok (.ifCond .eq 7, 3) := dq0 (p := fun a b => decode cL_law a = .ok b) dm_cL_law_5 50 rfl
theorem dL_law_725 : decode cL_law 725 = .ok (.iconst 1, 1) := dq0 (p := fun a b => decode cL_law a = .ok b) dm_cL_law_5 51 rfl
theorem dL_law_726 : decode cL_law 726 = .ok (.goto 4, 3) := dq0 (p := fun a b => decode cL_law a = .ok b) dm_cL_law_5 52 rfl
theorem dL_law_729 : decode cL_law 729 = .ok (.iconst 0, 1) := dq0 (p := fun a b => decode cL_law a = .ok b) dm_cL_law_5 53 rfl
theorem dL_law_730 : decode cL_law 730 = .ok (.invokevirtual 132, 3) := dq0 (p := fun a b => decode cL_law a = .ok b) dm_cL_law_5 54 rfl
theorem dL_law_733 : decode cL_law 733 = .ok (.aload_n 2, 1) := dq0 (p := fun a b => decode cL_law a = .ok b) dm_cL_law_5 55 rfl
theorem dL_law_734 : decode cL_law 734 = .ok (.aload_n 0, 1) := dq0 (p := fun a b => decode cL_law a = .ok b) dm_cL_law_5 56 rfl
theorem dL_law_735 : decode cL_law 735 = .ok (.iload 4, 2) := dq0 (p := fun a b => decode cL_law a = .ok b) dm_cL_law_5 57 rfl
theorem dL_law_737 : decode cL_law 737 = .ok (.iconst 1, 1) := dq0 (p := fun a b => decode cL_law a = .ok b) dm_cL_law_5 58 rfl
theorem dL_law_738 : decode cL_law 738 = .ok (.iadd, 1) := dq0 (p := fun a b => decode cL_law a = .ok b) dm_cL_law_5 59 rfl
theorem dm_cL_law_6 : ([(739, .iaload, 1), (740, .ifCond .eq 7, 3), (743, .iconst 1, 1), (744, .goto 4, 3), (747, .iconst 0, 1), (748, .invokevirtual 135, 3), (751, .if_icmp .eq 1134, 3), (754, .iconst 0, 1), (755, .ireturn, 1), (756, .aload_n 1, 1), (757, .aload_n 0, 1), (758, .iload 4, 2), (760, .iconst 1, 1), (761, .iadd, 1), (762, .iaload, 1), (763, .ifCond .eq 7, 3), (766, .iconst 1, 1), (767, .goto 4, 3), (770, .iconst 0, 1), (771, .invokevirtual 136, 3), (774, .aload_n 2, 1), (775, .aload_n 0, 1), (776, .iload 4, 2), (778, .iconst 1, 1), (779, .iadd, 1), (780, .iaload, 1), (781, .ifCond .eq 7, 3), (784, .iconst 1, 1), (785, .goto 4, 3), (788, .iconst 0, 1), (789, .invokevirtual 139, 3), (792, .if_icmp .eq 1093, 3), (795, .iconst 0, 1), (796, .ireturn, 1), (797, .aload_n 1, 1), (798, .aload_n 0, 1), (799, .iload 4, 2), (801, .iconst 1, 1), (802, .iadd, 1), (803, .iaload, 1), (804, .aload_n 0, 1), (805, .iload 4, 2), (807, .iconst 2, 1), (808, .iadd, 1), (809, .iaload, 1), (810, .aload_n 3, 1), (811, .invokestatic 140, 3), (814, .istore 5, 2), (816, .aload_n 2, 1), (817, .aload_n 0, 1), (818, .iload 4, 2), (820, .iconst 1, 1), (821, .iadd, 1), (822, .iaload, 1), (823, .aload_n 0, 1), (824, .iload 4, 2), (826, .iconst 2, 1), (827, .iadd, 1), (828, .iaload, 1), (829, .invokevirtual 143, 3)] : List (Nat × Instr × Nat)).all (fun t => decide (decode cL_law t.1 = .ok t.2)) = true := by decide +kernel
theorem dL_law_739 : decode cL_law 739 = .ok (.iaload, 1) := dq0 (p := fun a b => decode cL_law a = .ok b) dm_cL_law_6 0 rfl
theorem dL_law_740 : decode cL_law 740 = .ok (.ifCond .eq 7, 3) := dq0 (p := fun a b => decode cL_law a = .ok b) dm_cL_law_6 1 rfl
theorem dL_law_743 : decode cL_law 743 = .ok (.iconst 1, 1) := dq0 (p := fun a b => decode cL_law a = .ok b) dm_cL_law_6 2 rfl
theorem dL_law_744 : decode cL_law 744 = .ok (.goto 4, 3) := dq0 (p := fun a b => decode cL_law a = .ok b) dm_cL_law_6 3 rfl
theorem dL_law_747 : decode cL_law 747 = .ok (.iconst 0, 1) := dq0 (p := fun a b => decode cL_law a = .ok b) dm_cL_law_6 4 rfl
theorem dL_law_748 : decode cL_law 748 = .ok (.invokevirtual 135, 3) := dq0 (p := fun a b => decode cL_law a = .ok b) dm_cL_law_6 5 rfl
theorem dL_law_751 : decode cL_law 751 = .ok (.if_icmp .eq 1134, 3) := dq0 (p := fun a b => decode cL_law a = .ok b) dm_cL_law_6 6 rfl
theorem dL_law_754 : decode cL_law 754 = .ok (.iconst 0, 1) := dq0 (p := fun a b => decode cL_law a = .ok b) dm_cL_law_6 7 rfl
theorem dL_law_755 : decode cL_law 755 = .ok (.ireturn, 1) := dq0 (p := fun a b => decode cL_law a = .ok b) dm_cL_law_6 8 rfl
theorem dL_law_756 : decode cL_law 756 = .ok (.aload_n 1, 1) := dq0 (p := fun a b => decode cL_law a = .ok b) dm_cL_law_6 9 rfl
theorem dL_law_757 : decode cL_law 757 = .ok (.aload_n 0, 1) := dq0 (p := fun a b => decode cL_law a = .ok b) dm_cL_law_6 10 rfl
theorem dL_law_758 : decode cL_law 758 = .ok (.iload 4, 2) := dq0 (p := fun a b => decode cL_law a = .ok b) dm_cL_law_6 11 rfl
theorem dL_law_760 : decode cL_law 760 = .ok (.iconst 1, 1) := dq0 (p := fun a b => decode cL_law a = .ok b) dm_cL_law_6 12 rfl
theorem dL_law_761 : decode cL_law 761 = .ok (.iadd, 1) := dq0 (p := fun a b => decode cL_law a = .ok b) dm_cL_law_6 13 rfl
theorem dL_law_762 : decode cL_law 762 = .ok (.iaload, 1) := dq0 (p := fun a b => decode cL_law a = .ok b) dm_cL_law_6 14 rfl
theorem dL_law_763 : decode cL_law 763 = .ok (.ifCond .eq 7, 3) := dq0 (p := fun a b => decode cL_law a = .ok b) dm_cL_law_6 15 rfl
theorem dL_law_766 : decode cL_law 766 = .ok (.iconst 1, 1) := dq0 (p := fun a b => decode cL_law a = .ok b) dm_cL_law_6 16 rfl
theorem dL_law_767 : decode cL_law 767 = .ok (.goto 4, 3) := dq0 (p := fun a b => decode cL_law a = .ok b) dm_cL_law_6 17 rfl
theorem dL_law_770 : decode cL_law 770 = .ok (.iconst 0, 1) := dq0 (p := fun a b => decode cL_law a = .ok b) dm_cL_law_6 18 rfl
theorem dL_law_771 : decode cL_law 771 = .ok (.invokevirtual 136, 3) := dq0 (p := fun a b => decode cL_law a = .ok b) dm_cL_law_6 19 rfl
theorem dL_law_774 : decode cL_law 774 = .ok (.aload_n 2, 1) := dq0 (p := fun a b => decode cL_law a = .ok b) dm_cL_law_6 20 rfl
theorem dL_law_775 : decode cL_law 775 = .ok (.aload_n 0, 1) := dq0 (p := fun a b => decode cL_law a = .ok b) dm_cL_law_6 21 rfl
theorem dL_law_776 : decode cL_law 776 = .ok (.iload 4, 2) := dq0 (p := fun a b => decode cL_law a = .ok b) dm_cL_law_6 22 rfl
theorem dL_law_778 : decode cL_law 778 = .ok (.iconst 1, 1) := dq0 (p := fun a b => decode cL_law a = .ok b) dm_cL_law_6 23 rfl
theorem dL_law_779 : decode cL_law 779 = .ok (.iadd, 1) := dq0 (p := fun a b => decode cL_law a = .ok b) dm_cL_law_6 24 rfl
theorem dL_law_780 : decode cL_law 780 = .ok (.iaload, 1) := dq0 (p := fun a b => decode cL_law a = .ok b) dm_cL_law_6 25 rfl
theorem dL_law_781 : decode cL_law 781 = .ok (.ifCond .eq 7, 3) := dq0 (p := fun a b => decode cL_law a = .ok b) dm_cL_law_6 26 rfl
theorem dL_law_784 : decode cL_law 784 = .ok (.iconst 1, 1) := dq0 (p := fun a b => decode cL_law a = .ok b) dm_cL_law_6 27 rfl
theorem dL_law_785 : decode cL_law 785 = .ok (.goto 4, 3) := dq0 (p := fun a b => decode cL_law a = .ok b) dm_cL_law_6 28 rfl
theorem dL_law_788 : decode cL_law 788 = .ok (.iconst 0, 1) := dq0 (p := fun a b => decode cL_law a = .ok b) dm_cL_law_6 29 rfl
theorem dL_law_789 : decode cL_law 789 = .ok (.invokevirtual 139, 3) := dq0 (p := fun a b => decode cL_law a = .ok b) dm_cL_law_6 30 rfl
theorem dL_law_792 : decode cL_law 792 = .ok (.if_icmp .eq 1093, 3) := dq0 (p := fun a b => decode cL_law a = .ok b) dm_cL_law_6 31 rfl
theorem dL_law_795 : decode cL_law 795 = .ok (.iconst 0, 1) := dq0 (p := fun a b => decode cL_law a = .ok b) dm_cL_law_6 32 rfl
theorem dL_law_796 : decode cL_law 796 = .ok (.ireturn, 1) := dq0 (p := fun a b => decode cL_law a = .ok b) dm_cL_law_6 33 rfl
theorem dL_law_797 : decode cL_law 797 = .ok (.aload_n 1, 1) := dq0 (p := fun a b => decode cL_law a = .ok b) dm_cL_law_6 34 rfl
theorem dL_law_798 : decode cL_law 798 = .ok (.aload_n 0, 1) := dq0 (p := fun a b => decode cL_law a = .ok b) dm_cL_law_6 35 rfl
theorem dL_law_799 : decode cL_law 799 = .ok (.iload 4, 2) := dq0 (p := fun a b => decode cL_law a = .ok b) dm_cL_law_6 36 rfl
theorem dL_law_801 : decode cL_law 801 = .ok (.iconst 1, 1) := dq0 (p := fun a b => decode cL_law a = .ok b) dm_cL_law_6 37 rfl
theorem dL_law_802 : decode cL_law 802 = .ok (.iadd, 1) := dq0 (p := fun a b => decode cL_law a = .ok b) dm_cL_law_6 38 rfl
theorem dL_law_803 : decode cL_law 803 = .ok (.iaload, 1) := dq0 (p := fun a b => decode cL_law a = .ok b) dm_cL_law_6 39 rfl
theorem dL_law_804 : decode cL_law 804 = .ok (.aload_n 0, 1) := dq0 (p := fun a b => decode cL_law a = .ok b) dm_cL_law_6 40 rfl
theorem dL_law_805 : decode cL_law 805 = .ok (.iload 4, 2) := dq0 (p := fun a b => decode cL_law a = .ok b) dm_cL_law_6 41 rfl
theorem dL_law_807 : decode cL_law 807 = .ok (.iconst 2, 1) := dq0 (p := fun a b => decode cL_law a = .ok b) dm_cL_law_6 42 rfl
theorem dL_law_808 : decode cL_law 808 = .ok (.iadd, 1) := dq0 (p := fun a b => decode cL_law a = .ok b) dm_cL_law_6 43 rfl
theorem dL_law_809 : decode cL_law 809 = .ok (.iaload, 1) := dq0 (p := fun a b => decode cL_law a = .ok b) dm_cL_law_6 44 rfl
theorem dL_law_810 : decode cL_law 810 = .ok (.aload_n 3, 1) := dq0 (p := fun a b => decode cL_law a = .ok b) dm_cL_law_6 45 rfl
theorem dL_law_811 : decode cL_law 811 = .ok (.invokestatic 140, 3) := dq0 (p := fun a b => decode cL_law a = .ok b) dm_cL_law_6 46 rfl
theorem dL_law_814 : decode cL_law 814 = .ok (.istore 5, 2) := dq0 (p := fun a b => decode cL_law a = .ok b) dm_cL_law_6 47 rfl
theorem dL_law_816 : decode cL_law 816 = .ok (.aload_n 2, 1) := dq0 (p := fun a b => decode cL_law a = .ok b) dm_cL_law_6 48 rfl
theorem dL_law_817 : decode cL_law 817 = .ok (.aload_n 0, 1) := dq0 (p := fun a b => decode cL_law a = .ok b) dm_cL_law_6 49 rfl
theorem dL_law_818 : decode cL_law 818 = .ok (.iload 4, 2) := dq0 (p := fun a b => decode cL_law a = .ok b) dm_cL_law_6 50 rfl
theorem dL_law_820 : decode cL_law 820 = .ok (.iconst 1, 1) := dq0 (p := fun a b => decode cL_law a = .ok b) dm_cL_law_6 51 rfl
theorem dL_law_821 : decode cL_law 821 = .ok (.iadd, 1) := dq0 (p := fun a b => decode cL_law a = .ok b) dm_cL_law_6 52 rfl
theorem dL_law_822 : decode cL_law 822 = .ok (.iaload, 1) := dq0 (p := fun a b => decode cL_law a = .ok b) dm_cL_law_6 53 rfl
theorem dL_law_823 : decode cL_law 823 = .ok (.aload_n 0, 1) := dq0 (p := fun a b => decode cL_law a = .ok b) dm_cL_law_6 54 rfl
theorem dL_law_824 : decode cL_law 824 = .ok (.iload 4, 2) := dq0 (p := fun a b => decode cL_law a = .ok b) dm_cL_law_6 55 rfl
theorem dL_law_826 : decode cL_law 826 = .ok (.iconst 2, 1) := dq0 (p := fun a b => decode cL_law a = .ok b) dm_cL_law_6 56 rfl
theorem dL_law_827 : decode cL_law 827 = .ok (.iadd, 1) := dq0 (p := fun a b => decode cL_law a = .ok b) dm_cL_law_6 57 rfl
theorem dL_law_828 : decode cL_law 828 = .ok (.iaload, 1) := dq0 (p := fun a b => decode cL_law a = .ok b) dm_cL_law_6 58 rfl
theorem dL_law_829 : decode cL_law 829 = .ok (.invokevirtual 143, 3) := dq0 (p := fun a b => decode cL_law a = .ok b) dm_cL_law_6 59 rfl
theorem dm_cL_law_7 : ([(832, .istore 6, 2), (834, .aload_n 2, 1), (835, .invokevirtual 94, 3), (838, .iload 5, 2), (840, .if_icmp .eq 5, 3), (843, .iconst 0, 1), (844, .ireturn, 1), (845, .iload 5, 2), (847, .ifCond .ne 15, 3), (850, .aload_n 3, 1), (851, .iconst 0, 1), (852, .laload, 1), (853, .iload 6, 2), (855, .i2l, 1), (856, .lcmp, 1), (857, .ifCond .eq 5, 3), (860, .iconst 0, 1), (861, .ireturn, 1), (862, .goto 1023, 3), (865, .aload_n 1, 1), (866, .aload_n 0, 1), (867, .iload 4, 2), (869, .iconst 1, 1), (870, .iadd, 1), (871, .iaload, 1), (872, .aload_n 0, 1), (873, .iload 4, 2), (875, .iconst 2, 1), (876, .iadd, 1), (877, .iaload, 1), (878, .ifCond .eq 7, 3), (881, .iconst 1, 1), (882, .goto 4, 3), (885, .iconst 0, 1), (886, .aload_n 3, 1), (887, .invokestatic 144, 3), (890, .istore 5, 2), (892, .aload_n 2, 1), (893, .aload_n 0, 1), (894, .iload 4, 2), (896, .iconst 1, 1), (897, .iadd, 1), (898, .iaload, 1), (899, .aload_n 0, 1), (900, .iload 4, 2), (902, .iconst 2, 1), (903, .iadd, 1), (904, .iaload, 1), (905, .ifCond .eq 7, 3), (908, .iconst 1, 1), (909, .goto 4, 3), (912, .iconst 0, 1), (913, .invokevirtual 147, 3), (916, .lstore 6, 2), (918, .aload_n 2, 1), (919, .invokevirtual 94, 3), (922, .iload 5, 2), (924, .if_icmp .eq 5, 3), (927, .iconst 0, 1), (928, .ireturn, 1)] : List (Nat × Instr × Nat)).all (fun t => decide (decode cL_law t.1 = .ok t.2)) = true := by decide +kernel
theorem dL_law_832 : decode cL_law 832 = .ok (.istore 6, 2) := dq0 (p := fun a b => decode cL_law a = .ok b) dm_cL_law_7 0 rfl
theorem dL_law_834 : decode cL_law 834 = .ok (.aload_n 2, 1) := dq0 (p := fun a b => decode cL_law a = .ok b) dm_cL_law_7 1 rfl
theorem dL_law_835 : decode cL_law 835 = .ok (.invokevirtual 94, 3) := dq0 (p := fun a b => decode cL_law a = .ok b) dm_cL_law_7 2 rfl
theorem dL_law_838 : decode cL_law 838 = .ok (.iload 5, 2) := dq0 (p := fun a b => decode cL_law a = .ok b) dm_cL_law_7 3 rfl
theorem dL_law_840 : decode cL_law 840 = .ok (.if_icmp .eq 5, 3) := dq0 (p := fun a b => decode cL_law a = .ok b) dm_cL_law_7 4 rfl
theorem dL_law_843 : decode cL_law 843 = .ok (.iconst 0, 1) := dq0 (p := fun a b => decode cL_law a = .ok b) dm_cL_law_7 5 rfl
theorem dL_law_844 : decode cL_law 844 = .ok (.ireturn, 1) := dq0 (p := fun a b => decode cL_law a = .ok b) dm_cL_law_7 6 rfl
theorem dL_law_845 : decode cL_law 845 = .ok (.iload 5, 2) := dq0 (p := fun a b => decode cL_law a = .ok b) dm_cL_law_7 7 rfl
theorem dL_law_847 : decode cL_law 847 = .ok (.ifCond .ne 15, 3) := dq0 (p := fun a b => decode cL_law a = .ok b) dm_cL_law_7 8 rfl
theorem dL_law_850 : decode cL_law 850 = .ok (.aload_n 3, 1) := dq0 (p := fun a b => decode cL_law a = .ok b) dm_cL_law_7 9 rfl
theorem dL_law_851 : decode cL_law 851 = .ok (.iconst 0, 1) := dq0 (p := fun a b => decode cL_law a = .ok b) dm_cL_law_7 10 rfl
theorem dL_law_852 : decode cL_law 852 = .ok (.laload, 1) := dq0 (p := fun a b => decode cL_law a = .ok b) dm_cL_law_7 11 rfl
theorem dL_law_853 : decode cL_law 853 = .ok (.iload 6, 2) := dq0 (p := fun a b => decode cL_law a = .ok b) dm_cL_law_7 12 rfl
theorem dL_law_855 : decode cL_law 855 = .ok (.i2l, 1) := dq0 (p := fun a b => decode cL_law a = .ok b) dm_cL_law_7 13 rfl
theorem dL_law_856 : decode cL_law 856 = .ok (.lcmp, 1) := dq0 (p := fun a b => decode cL_law a = .ok b) dm_cL_law_7 14 rfl
theorem dL_law_857 : decode cL_law 857 = .ok (.ifCond .eq 5, 3) := dq0 (p := fun a b => decode cL_law a = .ok b) dm_cL_law_7 15 rfl
theorem dL_law_860 : decode cL_law 860 = .ok (.iconst 0, 1) := dq0 (p := fun a b => decode cL_law a = .ok b) dm_cL_law_7 16 rfl
theorem dL_law_861 : decode cL_law 861 = .ok (.ireturn, 1) := dq0 (p := fun a b => decode cL_law a = .ok b) dm_cL_law_7 17 rfl
theorem dL_law_862 : decode cL_law 862 = .ok (.goto 1023, 3) := dq0 (p := fun a b => decode cL_law a = .ok b) dm_cL_law_7 18 rfl
theorem dL_law_865 : decode cL_law 865 = .ok (.aload_n 1, 1) := dq0 (p := fun a b => decode cL_law a = .ok b) dm_cL_law_7 19 rfl
theorem dL_law_866 : decode cL_law 866 = .ok (.aload_n 0, 1) := dq0 (p := fun a b => decode cL_law a = .ok b) dm_cL_law_7 20 rfl
theorem dL_law_867 : decode cL_law 867 = .ok (.iload 4, 2) := dq0 (p := fun a b => decode cL_law a = .ok b) dm_cL_law_7 21 rfl
theorem dL_law_869 : decode cL_law 869 = .ok (.iconst 1, 1) := dq0 (p := fun a b => decode cL_law a = .ok b) dm_cL_law_7 22 rfl
theorem dL_law_870 : decode cL_law 870 = .ok (.iadd, 1) := dq0 (p := fun a b => decode cL_law a = .ok b) dm_cL_law_7 23 rfl
theorem dL_law_871 : decode cL_law 871 = .ok (.iaload, 1) := dq0 (p := fun a b => decode cL_law a = .ok b) dm_cL_law_7 24 rfl
theorem dL_law_872 : decode cL_law 872 = .ok (.aload_n 0, 1) := dq0 (p := fun a b => decode cL_law a = .ok b) dm_cL_law_7 25 rfl
theorem dL_law_873 : decode cL_law 873 = .ok (.iload 4, 2) := dq0 (p := fun a b => decode cL_law a = .ok b) dm_cL_law_7 26 rfl
theorem dL_law_875 : decode cL_law 875 = .ok (.iconst 2, 1) := dq0 (p := fun a b => decode cL_law a = .ok b) dm_cL_law_7 27 rfl
theorem dL_law_876 : decode cL_law 876 = .ok (.iadd, 1) := dq0 (p := fun a b => decode cL_law a = .ok b) dm_cL_law_7 28 rfl
theorem dL_law_877 : decode cL_law 877 = .ok (.iaload, 1) := dq0 (p := fun a b => decode cL_law a = .ok b) dm_cL_law_7 29 rfl
theorem dL_law_878 : decode cL_law 878 = .ok (.ifCond .eq 7, 3) := dq0 (p := fun a b => decode cL_law a = .ok b) dm_cL_law_7 30 rfl
theorem dL_law_881 : decode cL_law 881 = .ok (.iconst 1, 1) := dq0 (p := fun a b => decode cL_law a = .ok b) dm_cL_law_7 31 rfl
theorem dL_law_882 : decode cL_law 882 = .ok (.goto 4, 3) := dq0 (p := fun a b => decode cL_law a = .ok b) dm_cL_law_7 32 rfl
theorem dL_law_885 : decode cL_law 885 = .ok (.iconst 0, 1) := dq0 (p := fun a b => decode cL_law a = .ok b) dm_cL_law_7 33 rfl
theorem dL_law_886 : decode cL_law 886 = .ok (.aload_n 3, 1) := dq0 (p := fun a b => decode cL_law a = .ok b) dm_cL_law_7 34 rfl
theorem dL_law_887 : decode cL_law 887 = .ok (.invokestatic 144, 3) := dq0 (p := fun a b => decode cL_law a = .ok b) dm_cL_law_7 35 rfl
theorem dL_law_890 : decode cL_law 890 = .ok (.istore 5, 2) := dq0 (p := fun a b => decode cL_law a = .ok b) dm_cL_law_7 36 rfl
theorem dL_law_892 : decode cL_law 892 = .ok (.aload_n 2, 1) := dq0 (p := fun a b => decode cL_law a = .ok b) dm_cL_law_7 37 rfl
theorem dL_law_893 : decode cL_law 893 = .ok (.aload_n 0, 1) := dq0 (p := fun a b => decode cL_law a = .ok b) dm_cL_law_7 38 rfl
theorem dL_law_894 : decode cL_law 894 = .ok (.iload 4, 2) := dq0 (p := fun a b => decode cL_law a = .ok b) dm_cL_law_7 39 rfl
theorem dL_law_896 : decode cL_law 896 = .ok (.iconst 1, 1) := dq0 (p := fun a b => decode cL_law a = .ok b) dm_cL_law_7 40 rfl
theorem dL_law_897 : decode cL_law 897 = .ok (.iadd, 1) := dq0 (p := fun a b => decode cL_law a = .ok b) dm_cL_law_7 41 rfl
theorem dL_law_898 : decode cL_law 898 = .ok (.iaload, 1) := dq0 (p := fun a b => decode cL_law a = .ok b) dm_cL_law_7 42 rfl
theorem dL_law_899 : decode cL_law 899 = .ok (.aload_n 0, 1) := dq0 (p := fun a b => decode cL_law a = .ok b) dm_cL_law_7 43 rfl
theorem dL_law_900 : decode cL_law 900 = .ok (.iload 4, 2) := dq0 (p := fun a b => decode cL_law a = .ok b) dm_cL_law_7 44 rfl
theorem dL_law_902 : decode cL_law 902 = .ok (.iconst 2, 1) := dq0 (p := fun a b => decode cL_law a = .ok b) dm_cL_law_7 45 rfl
theorem dL_law_903 : decode cL_law 903 = .ok (.iadd, 1) := dq0 (p := fun a b => decode cL_law a = .ok b) dm_cL_law_7 46 rfl
theorem dL_law_904 : decode cL_law 904 = .ok (.iaload, 1) := dq0 (p := fun a b => decode cL_law a = .ok b) dm_cL_law_7 47 rfl
theorem dL_law_905 : decode cL_law 905 = .ok (.ifCond .eq 7, 3) := dq0 (p := fun a b => decode cL_law a = .ok b) dm_cL_law_7 48 rfl
theorem dL_law_908 : decode cL_law 908 = .ok (.iconst 1, 1) := dq0 (p := fun a b => decode cL_law a = .ok b) dm_cL_law_7 49 rfl
theorem dL_law_909 : decode cL_law 909 = .ok (.goto 4, 3) := dq0 (p := fun a b => decode cL_law a = .ok b) dm_cL_law_7 50 rfl
theorem dL_law_912 : decode cL_law 912 = .ok (.iconst 0, 1) := dq0 (p := fun a b => decode cL_law a = .ok b) dm_cL_law_7 51 rfl
theorem dL_law_913 : decode cL_law 913 = .ok (.invokevirtual 147, 3) := dq0 (p := fun a b => decode cL_law a = .ok b) dm_cL_law_7 52 rfl
theorem dL_law_916 : decode cL_law 916 = .ok (.lstore 6, 2) := dq0 (p := fun a b => decode cL_law a = .ok b) dm_cL_law_7 53 rfl
theorem dL_law_918 : decode cL_law 918 = .ok (.aload_n 2, 1) := dq0 (p := fun a b => decode cL_law a = .ok b) dm_cL_law_7 54 rfl
theorem dL_law_919 : decode cL_law 919 = .ok (.invokevirtual 94, 3) := dq0 (p := fun a b => decode cL_law a = .ok b) dm_cL_law_7 55 rfl
theorem dL_law_922 : decode cL_law 922 = .ok (.iload 5, 2) := dq0 (p := fun a b => decode cL_law a = .ok b) dm_cL_law_7 56 rfl
theorem dL_law_924 : decode cL_law 924 = .ok (.if_icmp .eq 5, 3) := dq0 (p := fun a b => decode cL_law a = .ok b) dm_cL_law_7 57 rfl
theorem dL_law_927 : decode cL_law 927 = .ok (.iconst 0, 1) := dq0 (p := fun a b => decode cL_law a = .ok b) dm_cL_law_7 58 rfl
theorem dL_law_928 : decode cL_law 928 = .ok (.ireturn, 1) := dq0 (p := fun a b => decode cL_law a = .ok b) dm_cL_law_7 59 rfl
theorem dm_cL_law_8 : ([(929, .iload 5, 2), (931, .ifCond .ne 14, 3), (934, .aload_n 3, 1), (935, .iconst 0, 1), (936, .laload, 1), (937, .lload 6, 2), (939, .lcmp, 1), (940, .ifCond .eq 5, 3), (943, .iconst 0, 1), (944, .ireturn, 1), (945, .goto 940, 3), (948, .aload_n 1, 1), (949, .aload_n 0, 1), (950, .iload 4, 2), (952, .iconst 1, 1), (953, .iadd, 1), (954, .iaload, 1), (955, .ifCond .eq 7, 3), (958, .iconst 1, 1), (959, .goto 4, 3), (962, .iconst 0, 1), (963, .invokevirtual 148, 3), (966, .aload_n 2, 1), (967, .aload_n 0, 1), (968, .iload 4, 2), (970, .iconst 1, 1), (971, .iadd, 1), (972, .iaload, 1), (973, .ifCond .eq 7, 3), (976, .iconst 1, 1), (977, .goto 4, 3), (980, .iconst 0, 1), (981, .invokevirtual 151, 3), (984, .lcmp, 1), (985, .ifCond .eq 900, 3), (988, .iconst 0, 1), (989, .ireturn, 1), (990, .aload_n 1, 1), (991, .aload_n 0, 1), (992, .iload 4, 2), (994, .iconst 1, 1), (995, .iadd, 1), (996, .iaload, 1), (997, .ifCond .eq 7, 3), (1000, .iconst 1, 1), (1001, .goto 4, 3), (1004, .iconst 0, 1), (1005, .invokevirtual 152, 3), (1008, .aload_n 2, 1), (1009, .aload_n 0, 1), (1010, .iload 4, 2), (1012, .iconst 1, 1), (1013, .iadd, 1), (1014, .iaload, 1), (1015, .ifCond .eq 7, 3), (1018, .iconst 1, 1), (1019, .goto 4, 3), (1022, .iconst 0, 1), (1023, .invokevirtual 156, 3), (1026, .if_icmp .eq 859, 3)] : List (Nat × Instr × Nat)).all (fun t => decide (decode cL_law t.1 = .ok t.2)) = true := by decide +kernel
theorem dL_law_929 : decode cL_law 929 = .ok (.iload 5, 2) := dq0 (p := fun a b => decode cL_law a = .ok b) dm_cL_law_8 0 rfl
theorem dL_law_931 : decode cL_law 931 = .ok (.ifCond .ne 14, 3) := dq0 (p := fun a b => decode cL_law a = .ok b) dm_cL_law_8 1 rfl
theorem dL_law_934 : decode cL_law 934 = .ok (.aload_n 3, 1) := dq0 (p := fun a b => decode cL_law a = .ok b) dm_cL_law_8 2 rfl
theorem dL_law_935 : decode cL_law 935 = .ok (.iconst 0, 1) := dq0 (p := fun a b => decode cL_law a = .ok b) dm_cL_law_8 3 rfl
theorem dL_law_936 : decode cL_law 936 = .ok (.laload, 1) := dq0 (p := fun a b => decode cL_law a = .ok b) dm_cL_law_8 4 rfl
theorem dL_law_937 : decode cL_law 937 = .ok (.lload 6, 2) := dq0 (p := fun a b => decode cL_law a = .ok b) dm_cL_law_8 5 rfl
theorem dL_law_939 : decode cL_law 939 = .ok (.lcmp, 1) := dq0 (p := fun a b => decode cL_law a = .ok b) dm_cL_law_8 6 rfl
theorem dL_law_940 : decode cL_law 940 = .ok (.ifCond .eq 5, 3) := dq0 (p := fun a b => decode cL_law a = .ok b) dm_cL_law_8 7 rfl
theorem dL_law_943 : decode cL_law 943 = .ok (.iconst 0, 1) := dq0 (p := fun a b => decode cL_law a = .ok b) dm_cL_law_8 8 rfl
theorem dL_law_944 : decode cL_law 944 = .ok (.ireturn, 1) := dq0 (p := fun a b => decode cL_law a = .ok b) dm_cL_law_8 9 rfl
theorem dL_law_945 : decode cL_law 945 = .ok (.goto 940, 3) := dq0 (p := fun a b => decode cL_law a = .ok b) dm_cL_law_8 10 rfl
theorem dL_law_948 : decode cL_law 948 = .ok (.aload_n 1, 1) := dq0 (p := fun a b => decode cL_law a = .ok b) dm_cL_law_8 11 rfl
theorem dL_law_949 : decode cL_law 949 = .ok (.aload_n 0, 1) := dq0 (p := fun a b => decode cL_law a = .ok b) dm_cL_law_8 12 rfl
theorem dL_law_950 : decode cL_law 950 = .ok (.iload 4, 2) := dq0 (p := fun a b => decode cL_law a = .ok b) dm_cL_law_8 13 rfl
theorem dL_law_952 : decode cL_law 952 = .ok (.iconst 1, 1) := dq0 (p := fun a b => decode cL_law a = .ok b) dm_cL_law_8 14 rfl
theorem dL_law_953 : decode cL_law 953 = .ok (.iadd, 1) := dq0 (p := fun a b => decode cL_law a = .ok b) dm_cL_law_8 15 rfl
theorem dL_law_954 : decode cL_law 954 = .ok (.iaload, 1) := dq0 (p := fun a b => decode cL_law a = .ok b) dm_cL_law_8 16 rfl
theorem dL_law_955 : decode cL_law 955 = .ok (.ifCond .eq 7, 3) := dq0 (p := fun a b => decode cL_law a = .ok b) dm_cL_law_8 17 rfl
theorem dL_law_958 : decode cL_law 958 = .ok (.iconst 1, 1) := dq0 (p := fun a b => decode cL_law a = .ok b) dm_cL_law_8 18 rfl
theorem dL_law_959 : decode cL_law 959 = .ok (.goto 4, 3) := dq0 (p := fun a b => decode cL_law a = .ok b) dm_cL_law_8 19 rfl
theorem dL_law_962 : decode cL_law 962 = .ok (.iconst 0, 1) := dq0 (p := fun a b => decode cL_law a = .ok b) dm_cL_law_8 20 rfl
theorem dL_law_963 : decode cL_law 963 = .ok (.invokevirtual 148, 3) := dq0 (p := fun a b => decode cL_law a = .ok b) dm_cL_law_8 21 rfl
theorem dL_law_966 : decode cL_law 966 = .ok (.aload_n 2, 1) := dq0 (p := fun a b => decode cL_law a = .ok b) dm_cL_law_8 22 rfl
theorem dL_law_967 : decode cL_law 967 = .ok (.aload_n 0, 1) := dq0 (p := fun a b => decode cL_law a = .ok b) dm_cL_law_8 23 rfl
theorem dL_law_968 : decode cL_law 968 = .ok (.iload 4, 2) := dq0 (p := fun a b => decode cL_law a = .ok b) dm_cL_law_8 24 rfl
theorem dL_law_970 : decode cL_law 970 = .ok (.iconst 1, 1) := dq0 (p := fun a b => decode cL_law a = .ok b) dm_cL_law_8 25 rfl
theorem dL_law_971 : decode cL_law 971 = .ok (.iadd, 1) := dq0 (p := fun a b => decode cL_law a = .ok b) dm_cL_law_8 26 rfl
theorem dL_law_972 : decode cL_law 972 = .ok (.iaload, 1) := dq0 (p := fun a b => decode cL_law a = .ok b) dm_cL_law_8 27 rfl
theorem dL_law_973 : decode cL_law 973 = .ok (.ifCond .eq 7, 3) := dq0 (p := fun a b => decode cL_law a = .ok b) dm_cL_law_8 28 rfl
theorem dL_law_976 : decode cL_law 976 = .ok (.iconst 1, 1) := dq0 (p := fun a b => decode cL_law a = .ok b) dm_cL_law_8 29 rfl
theorem dL_law_977 : decode cL_law 977 = .ok (.goto 4, 3) := dq0 (p := fun a b => decode cL_law a = .ok b) dm_cL_law_8 30 rfl
theorem dL_law_980 : decode cL_law 980 = .ok (.iconst 0, 1) := dq0 (p := fun a b => decode cL_law a = .ok b) dm_cL_law_8 31 rfl
theorem dL_law_981 : decode cL_law 981 = .ok (.invokevirtual 151, 3) := dq0 (p := fun a b => decode cL_law a = .ok b) dm_cL_law_8 32 rfl
theorem dL_law_984 : decode cL_law 984 = .ok (.lcmp, 1) := dq0 (p := fun a b => decode cL_law a = .ok b) dm_cL_law_8 33 rfl
theorem dL_law_985 : decode cL_law 985 = .ok (.ifCond .eq 900, 3) := dq0 (p := fun a b => decode cL_law a = .ok b) dm_cL_law_8 34 rfl
theorem dL_law_988 : decode cL_law 988 = .ok (.iconst 0, 1) := dq0 (p := fun a b => decode cL_law a = .ok b) dm_cL_law_8 35 rfl
theorem dL_law_989 : decode cL_law 989 = .ok (.ireturn, 1) := dq0 (p := fun a b => decode cL_law a = .ok b) dm_cL_law_8 36 rfl
theorem dL_law_990 : decode cL_law 990 = .ok (.aload_n 1, 1) := dq0 (p := fun a b => decode cL_law a = .ok b) dm_cL_law_8 37 rfl
theorem dL_law_991 : decode cL_law 991 = .ok (.aload_n 0, 1) := dq0 (p := fun a b => decode cL_law a = .ok b) dm_cL_law_8 38 rfl
theorem dL_law_992 : decode cL_law 992 = .ok (.iload 4, 2) := dq0 (p := fun a b => decode cL_law a = .ok b) dm_cL_law_8 39 rfl
theorem dL_law_994 : decode cL_law 994 = .ok (.iconst 1, 1) := dq0 (p := fun a b => decode cL_law a = .ok b) dm_cL_law_8 40 rfl
theorem dL_law_995 : decode cL_law 995 = .ok (.iadd, 1) := dq0 (p := fun a b => decode cL_law a = .ok b) dm_cL_law_8 41 rfl
theorem dL_law_996 : decode cL_law 996 = .ok (.iaload, 1) := dq0 (p := fun a b => decode cL_law a = .ok b) dm_cL_law_8 42 rfl
theorem dL_law_997 : decode cL_law 997 = .ok (.ifCond .eq 7, 3) := dq0 (p := fun a b => decode cL_law a = .ok b) dm_cL_law_8 43 rfl
theorem dL_law_1000 : decode cL_law 1000 = .ok (.iconst 1, 1) := dq0 (p := fun a b => decode cL_law a = .ok b) dm_cL_law_8 44 rfl
theorem dL_law_1001 : decode cL_law 1001 = .ok (.goto 4, 3) := dq0 (p := fun a b => decode cL_law a = .ok b) dm_cL_law_8 45 rfl
theorem dL_law_1004 : decode cL_law 1004 = .ok (.iconst 0, 1) := dq0 (p := fun a b => decode cL_law a = .ok b) dm_cL_law_8 46 rfl
theorem dL_law_1005 : decode cL_law 1005 = .ok (.invokevirtual 152, 3) := dq0 (p := fun a b => decode cL_law a = .ok b) dm_cL_law_8 47 rfl
theorem dL_law_1008 : decode cL_law 1008 = .ok (.aload_n 2, 1) := dq0 (p := fun a b => decode cL_law a = .ok b) dm_cL_law_8 48 rfl
theorem dL_law_1009 : decode cL_law 1009 = .ok (.aload_n 0, 1) := dq0 (p := fun a b => decode cL_law a = .ok b) dm_cL_law_8 49 rfl
theorem dL_law_1010 : decode cL_law 1010 = .ok (.iload 4, 2) := dq0 (p := fun a b => decode cL_law a = .ok b) dm_cL_law_8 50 rfl
theorem dL_law_1012 : decode cL_law 1012 = .ok (.iconst 1, 1) := dq0 (p := fun a b => decode cL_law a = .ok b) dm_cL_law_8 51 rfl
theorem dL_law_1013 : decode cL_law 1013 = .ok (.iadd, 1) := dq0 (p := fun a b => decode cL_law a = .ok b) dm_cL_law_8 52 rfl
theorem dL_law_1014 : decode cL_law 1014 = .ok (.iaload, 1) := dq0 (p := fun a b => decode cL_law a = .ok b) dm_cL_law_8 53 rfl
theorem dL_law_1015 : decode cL_law 1015 = .ok (.ifCond .eq 7, 3) := dq0 (p := fun a b => decode cL_law a = .ok b) dm_cL_law_8 54 rfl
theorem dL_law_1018 : decode cL_law 1018 = .ok (.iconst 1, 1) := dq0 (p := fun a b => decode cL_law a = .ok b) dm_cL_law_8 55 rfl
theorem dL_law_1019 : decode cL_law 1019 = .ok (.goto 4, 3) := dq0 (p := fun a b => decode cL_law a = .ok b) dm_cL_law_8 56 rfl
theorem dL_law_1022 : decode cL_law 1022 = .ok (.iconst 0, 1) := dq0 (p := fun a b => decode cL_law a = .ok b) dm_cL_law_8 57 rfl
theorem dL_law_1023 : decode cL_law 1023 = .ok (.invokevirtual 156, 3) := dq0 (p := fun a b => decode cL_law a = .ok b) dm_cL_law_8 58 rfl
theorem dL_law_1026 : decode cL_law 1026 = .ok (.if_icmp .eq 859, 3) := dq0 (p := fun a b => decode cL_law a = .ok b) dm_cL_law_8 59 rfl
theorem dm_cL_law_9 : ([(1029, .iconst 0, 1), (1030, .ireturn, 1), (1031, .aload_n 1, 1), (1032, .aload_n 0, 1), (1033, .iload 4, 2), (1035, .iconst 1, 1), (1036, .iadd, 1), (1037, .iaload, 1), (1038, .aload_n 3, 1), (1039, .invokestatic 157, 3), (1042, .istore 5, 2), (1044, .aload_n 2, 1), (1045, .aload_n 0, 1), (1046, .iload 4, 2), (1048, .iconst 1, 1), (1049, .iadd, 1), (1050, .iaload, 1), (1051, .invokevirtual 159, 3), (1054, .lstore 6, 2), (1056, .aload_n 2, 1), (1057, .invokevirtual 94, 3), (1060, .iload 5, 2), (1062, .if_icmp .eq 5, 3), (1065, .iconst 0, 1), (1066, .ireturn, 1), (1067, .iload 5, 2), (1069, .ifCond .ne 14, 3), (1072, .aload_n 3, 1), (1073, .iconst 0, 1), (1074, .laload, 1), (1075, .lload 6, 2), (1077, .lcmp, 1), (1078, .ifCond .eq 5, 3), (1081, .iconst 0, 1), (1082, .ireturn, 1), (1083, .goto 802, 3), (1086, .aload_n 1, 1), (1087, .invokevirtual 160, 3), (1090, .aload_n 2, 1), (1091, .invokevirtual 163, 3), (1094, .if_icmp .eq 791, 3), (1097, .iconst 0, 1), (1098, .ireturn, 1), (1099, .aload_n 1, 1), (1100, .aload_n 0, 1), (1101, .iload 4, 2), (1103, .iconst 1, 1), (1104, .iadd, 1), (1105, .iaload, 1), (1106, .aload_n 0, 1), (1107, .iload 4, 2), (1109, .iconst 2, 1), (1110, .iadd, 1), (1111, .iaload, 1), (1112, .aload_n 3, 1), (1113, .invokestatic 164, 3), (1116, .istore 5, 2), (1118, .aload_n 2, 1), (1119, .aload_n 0, 1), (1120, .iload 4, 2)] : List (Nat × Instr × Nat)).all (fun t => decide (decode cL_law t.1 = .ok t.2)) = true := by decide +kernel
theorem dL_law_1029 : decode cL_law 1029 = .ok (.iconst 0, 1) := dq0 (p := fun a b => decode cL_law a = .ok b) dm_cL_law_9 0 rfl
theorem dL_law_1030 : decode cL_law 1030 = .ok (.ireturn, 1) := dq0 (p := fun a b => decode cL_law a = .ok b) dm_cL_law_9 1 rfl
theorem dL_law_1031 : decode cL_law 1031 = .ok (.aload_n 1, 1) := dq0 (p := fun a b => decode cL_law a = .ok b) dm_cL_law_9 2 rfl
theorem dL_law_1032 : decode cL_law 1032 = .ok (.aload_n 0, 1) := dq0 (p := fun a b => decode cL_law a = .ok b) dm_cL_law_9 3 rfl
theorem dL_law_1033 : decode cL_law 1033 = .ok (.iload 4, 2) := dq0 (p := fun a b => decode cL_law a = .ok b) dm_cL_law_9 4 rfl
theorem dL_law_1035 : decode cL_law 1035 = .ok (.iconst 1, 1) := dq0 (p := fun a b => decode cL_law a = .ok b) dm_cL_law_9 5 rfl
theorem dL_law_1036 : decode cL_law 1036 = .ok (.iadd, 1) := dq0 (p := fun a b => decode cL_law a = .ok b) dm_cL_law_9 6 rfl
theorem dL_law_1037 : decode cL_law 1037 = .ok (.iaload, 1) := dq0 (p := fun a b => decode cL_law a = .ok b) dm_cL_law_9 7 rfl
theorem dL_law_1038 : decode cL_law 1038 = .ok (.aload_n 3, 1) := dq0 (p := fun a b => decode cL_law a = .ok b) dm_cL_law_9 8 rfl
theorem dL_law_1039 : decode cL_law 1039 = .ok (.invokestatic 157, 3) := dq0 (p := fun a b => decode cL_law a = .ok b) dm_cL_law_9 9 rfl
theorem dL_law_1042 : decode cL_law 1042 = .ok (.istore 5, 2) := dq0 (p := fun a b => decode cL_law a = .ok b) dm_cL_law_9 10 rfl
theorem dL_law_1044 : decode cL_law 1044 = .ok (.aload_n 2, 1) := dq0 (p := fun a b => decode cL_law a = .ok b) dm_cL_law_9 11 rfl
theorem dL_law_1045 : decode cL_law 1045 = .ok (.aload_n 0, 1) := dq0 (p := fun a b => decode cL_law a = .ok b) dm_cL_law_9 12 rfl
theorem dL_law_1046 : decode cL_law 1046 = .ok (.iload 4, 2) := dq0 (p := fun a b => decode cL_law a = .ok b) dm_cL_law_9 13 rfl
theorem dL_law_1048 : decode cL_law 1048 = .ok (.iconst 1, 1) := dq0 (p := fun a b => decode cL_law a = .ok b) dm_cL_law_9 14 rfl
theorem dL_law_1049 : decode cL_law 1049 = .ok (.iadd, 1) := dq0 (p := fun a b => decode cL_law a = .ok b) dm_cL_law_9 15 rfl
theorem dL_law_1050 : decode cL_law 1050 = .ok (.iaload, 1) := dq0 (p := fun a b => decode cL_law a = .ok b) dm_cL_law_9 16 rfl
theorem dL_law_1051 : decode cL_law 1051 = .ok (.invokevirtual 159, 3) := dq0 (p := fun a b => decode cL_law a = .ok b) dm_cL_law_9 17 rfl
theorem dL_law_1054 : decode cL_law 1054 = .ok (.lstore 6, 2) := dq0 (p := fun a b => decode cL_law a = .ok b) dm_cL_law_9 18 rfl
theorem dL_law_1056 : decode cL_law 1056 = .ok (.aload_n 2, 1) := dq0 (p := fun a b => decode cL_law a = .ok b) dm_cL_law_9 19 rfl
theorem dL_law_1057 : decode cL_law 1057 = .ok (.invokevirtual 94, 3) := dq0 (p := fun a b => decode cL_law a = .ok b) dm_cL_law_9 20 rfl
theorem dL_law_1060 : decode cL_law 1060 = .ok (.iload 5, 2) := dq0 (p := fun a b => decode cL_law a = .ok b) dm_cL_law_9 21 rfl
theorem dL_law_1062 : decode cL_law 1062 = .ok (.if_icmp .eq 5, 3) := dq0 (p := fun a b => decode cL_law a = .ok b) dm_cL_law_9 22 rfl
theorem dL_law_1065 : decode cL_law 1065 = .ok (.iconst 0, 1) := dq0 (p := fun a b => decode cL_law a = .ok b) dm_cL_law_9 23 rfl
theorem dL_law_1066 : decode cL_law 1066 = .ok (.ireturn, 1) := dq0 (p := fun a b => decode cL_law a = .ok b) dm_cL_law_9 24 rfl
theorem dL_law_1067 : decode cL_law 1067 = .ok (.iload 5, 2) := dq0 (p := fun a b => decode cL_law a = .ok b) dm_cL_law_9 25 rfl
theorem dL_law_1069 : decode cL_law 1069 = .ok (.ifCond .ne 14, 3) := dq0 (p := fun a b => decode cL_law a = .ok b) dm_cL_law_9 26 rfl
theorem dL_law_1072 : decode cL_law 1072 = .ok (.aload_n 3, 1) := dq0 (p := fun a b => decode cL_law a = .ok b) dm_cL_law_9 27 rfl
theorem dL_law_1073 : decode cL_law 1073 = .ok (.iconst 0, 1) := dq0 (p := fun a b => decode cL_law a = .ok b) dm_cL_law_9 28 rfl
theorem dL_law_1074 : decode cL_law 1074 = .ok (.laload, 1) := dq0 (p := fun a b => decode cL_law a = .ok b) dm_cL_law_9 29 rfl
theorem dL_law_1075 : decode cL_law 1075 = .ok (.lload 6, 2) := dq0 (p := fun a b => decode cL_law a = .ok b) dm_cL_law_9 30 rfl
theorem dL_law_1077 : decode cL_law 1077 = .ok (.lcmp, 1) := dq0 (p := fun a b => decode cL_law a = .ok b) dm_cL_law_9 31 rfl
theorem dL_law_1078 : decode cL_law 1078 = .ok (.ifCond .eq 5, 3) := dq0 (p := fun a b => decode cL_law a = .ok b) dm_cL_law_9 32 rfl
theorem dL_law_1081 : decode cL_law 1081 = .ok (.iconst 0, 1) := dq0 (p := fun a b => decode cL_law a = .ok b) dm_cL_law_9 33 rfl
theorem dL_law_1082 : decode cL_law 1082 = .ok (.ireturn, 1) := dq0 (p := fun a b => decode cL_law a = .ok b) dm_cL_law_9 34 rfl
theorem dL_law_1083 : decode cL_law 1083 = .ok (.goto 802, 3) := dq0 (p := fun a b => decode cL_law a = .ok b) dm_cL_law_9 35 rfl
theorem dL_law_1086 : decode cL_law 1086 = .ok (.aload_n 1, 1) := dq0 (p := fun a b => decode cL_law a = .ok b) dm_cL_law_9 36 rfl
theorem dL_law_1087 : decode cL_law 1087 = .ok (.invokevirtual 160, 3) := dq0 (p := fun a b => decode cL_law a = .ok b) dm_cL_law_9 37 rfl
theorem dL_law_1090 : decode cL_law 1090 = .ok (.aload_n 2, 1) := dq0 (p := fun a b => decode cL_law a = .ok b) dm_cL_law_9 38 rfl
theorem dL_law_1091 : decode cL_law 1091 = .ok (.invokevirtual 163, 3) := dq0 (p := fun a b => decode cL_law a = .ok b) dm_cL_law_9 39 rfl
theorem dL_law_1094 : decode cL_law 1094 = .ok (.if_icmp .eq 791, 3) := dq0 (p := fun a b => decode cL_law a = .ok b) dm_cL_law_9 40 rfl
theorem dL_law_1097 : decode cL_law 1097 = .ok (.iconst 0, 1) := dq0 (p := fun a b => decode cL_law a = .ok b) dm_cL_law_9 41 rfl
theorem dL_law_1098 : decode cL_law 1098 = .ok (.ireturn, 1) := dq0 (p := fun a b => decode cL_law a = .ok b) dm_cL_law_9 42 rfl
theorem dL_law_1099 : decode cL_law 1099 = .ok (.aload_n 1, 1) := dq0 (p := fun a b => decode cL_law a = .ok b) dm_cL_law_9 43 rfl
theorem dL_law_1100 : decode cL_law 1100 = .ok (.aload_n 0, 1) := dq0 (p := fun a b => decode cL_law a = .ok b) dm_cL_law_9 44 rfl
theorem dL_law_1101 : decode cL_law 1101 = .ok (.iload 4, 2) := dq0 (p := fun a b => decode cL_law a = .ok b) dm_cL_law_9 45 rfl
theorem dL_law_1103 : decode cL_law 1103 = .ok (.iconst 1, 1) := dq0 (p := fun a b => decode cL_law a = .ok b) dm_cL_law_9 46 rfl
theorem dL_law_1104 : decode cL_law 1104 = .ok (.iadd, 1) := dq0 (p := fun a b => decode cL_law a = .ok b) dm_cL_law_9 47 rfl
theorem dL_law_1105 : decode cL_law 1105 = .ok (.iaload, 1) := dq0 (p := fun a b => decode cL_law a = .ok b) dm_cL_law_9 48 rfl
theorem dL_law_1106 : decode cL_law 1106 = .ok (.aload_n 0, 1) := dq0 (p := fun a b => decode cL_law a = .ok b) dm_cL_law_9 49 rfl
theorem dL_law_1107 : decode cL_law 1107 = .ok (.iload 4, 2) := dq0 (p := fun a b => decode cL_law a = .ok b) dm_cL_law_9 50 rfl
theorem dL_law_1109 : decode cL_law 1109 = .ok (.iconst 2, 1) := dq0 (p := fun a b => decode cL_law a = .ok b) dm_cL_law_9 51 rfl
theorem dL_law_1110 : decode cL_law 1110 = .ok (.iadd, 1) := dq0 (p := fun a b => decode cL_law a = .ok b) dm_cL_law_9 52 rfl
theorem dL_law_1111 : decode cL_law 1111 = .ok (.iaload, 1) := dq0 (p := fun a b => decode cL_law a = .ok b) dm_cL_law_9 53 rfl
theorem dL_law_1112 : decode cL_law 1112 = .ok (.aload_n 3, 1) := dq0 (p := fun a b => decode cL_law a = .ok b) dm_cL_law_9 54 rfl
theorem dL_law_1113 : decode cL_law 1113 = .ok (.invokestatic 164, 3) := dq0 (p := fun a b => decode cL_law a = .ok b) dm_cL_law_9 55 rfl
theorem dL_law_1116 : decode cL_law 1116 = .ok (.istore 5, 2) := dq0 (p := fun a b => decode cL_law a = .ok b) dm_cL_law_9 56 rfl
theorem dL_law_1118 : decode cL_law 1118 = .ok (.aload_n 2, 1) := dq0 (p := fun a b => decode cL_law a = .ok b) dm_cL_law_9 57 rfl
theorem dL_law_1119 : decode cL_law 1119 = .ok (.aload_n 0, 1) := dq0 (p := fun a b => decode cL_law a = .ok b) dm_cL_law_9 58 rfl
theorem dL_law_1120 : decode cL_law 1120 = .ok (.iload 4, 2) := dq0 (p := fun a b => decode cL_law a = .ok b) dm_cL_law_9 59 rfl
theorem dm_cL_law_10 : ([(1122, .iconst 1, 1), (1123, .iadd, 1), (1124, .iaload, 1), (1125, .aload_n 0, 1), (1126, .iload 4, 2), (1128, .iconst 2, 1), (1129, .iadd, 1), (1130, .iaload, 1), (1131, .invokevirtual 166, 3), (1134, .istore 6, 2), (1136, .aload_n 2, 1), (1137, .invokevirtual 94, 3), (1140, .iload 5, 2), (1142, .if_icmp .eq 5, 3), (1145, .iconst 0, 1), (1146, .ireturn, 1), (1147, .iload 5, 2), (1149, .ifCond .ne 15, 3), (1152, .aload_n 3, 1), (1153, .iconst 0, 1), (1154, .laload, 1), (1155, .iload 6, 2), (1157, .i2l, 1), (1158, .lcmp, 1), (1159, .ifCond .eq 5, 3), (1162, .iconst 0, 1), (1163, .ireturn, 1), (1164, .goto 721, 3), (1167, .aload_n 1, 1), (1168, .aload_n 0, 1), (1169, .iload 4, 2), (1171, .iconst 1, 1), (1172, .iadd, 1), (1173, .iaload, 1), (1174, .aload_n 0, 1), (1175, .iload 4, 2), (1177, .iconst 2, 1), (1178, .iadd, 1), (1179, .iaload, 1), (1180, .aload_n 3, 1), (1181, .invokestatic 167, 3), (1184, .istore 5, 2), (1186, .aload_n 2, 1), (1187, .aload_n 0, 1), (1188, .iload 4, 2), (1190, .iconst 1, 1), (1191, .iadd, 1), (1192, .iaload, 1), (1193, .aload_n 0, 1), (1194, .iload 4, 2), (1196, .iconst 2, 1), (1197, .iadd, 1), (1198, .iaload, 1), (1199, .invokevirtual 169, 3), (1202, .istore 6, 2), (1204, .aload_n 2, 1), (1205, .invokevirtual 94, 3), (1208, .iload 5, 2), (1210, .if_icmp .eq 5, 3), (1213, .iconst 0, 1)] : List (Nat × Instr × Nat)).all (fun t => decide (decode cL_law t.1 = .ok t.2)) = true := by decide +kernel
theorem dL_law_1122 : decode cL_law 1122 = .ok (.iconst 1, 1) := dq0 (p := fun a b => decode cL_law a = .ok b) dm_cL_law_10 0 rfl
theorem dL_law_1123 : decode cL_law 1123 = .ok (.iadd, 1) := dq0 (p := fun a b => decode cL_law a = .ok b) dm_cL_law_10 1 rfl
theorem dL_law_1124 : decode cL_law 1124 = .ok (.iaload, 1) := dq0 (p := fun a b => decode cL_law a = .ok b) dm_cL_law_10 2 rfl
theorem dL_law_1125 : decode cL_law 1125 = .ok (.aload_n 0, 1) := dq0 (p := fun a b => decode cL_law a = .ok b) dm_cL_law_10 3 rfl
theorem dL_law_1126 : decode cL_law 1126 = .ok (.iload 4, 2) := dq0 (p := fun a b => decode cL_law a = .ok b) dm_cL_law_10 4 rfl
theorem dL_law_1128 : decode cL_law 1128 = .ok (.iconst 2, 1) := dq0 (p := fun a b => decode cL_law a = .ok b) dm_cL_law_10 5 rfl
theorem dL_law_1129 : decode cL_law 1129 = .ok (.iadd, 1) := dq0 (p := fun a b => decode cL_law a = .ok b) dm_cL_law_10 6 rfl
theorem dL_law_1130 : decode cL_law 1130 = .ok (.iaload, 1) := dq0 (p := fun a b => decode cL_law a = .ok b) dm_cL_law_10 7 rfl
theorem dL_law_1131 : decode cL_law 1131 = .ok (.invokevirtual 166, 3) := dq0 (p := fun a b => decode cL_law a = .ok b) dm_cL_law_10 8 rfl
theorem dL_law_1134 : decode cL_law 1134 = .ok (.istore 6, 2) := dq0 (p := fun a b => decode cL_law a = .ok b) dm_cL_law_10 9 rfl
theorem dL_law_1136 : decode cL_law 1136 = .ok (.aload_n 2, 1) := dq0 (p := fun a b => decode cL_law a = .ok b) dm_cL_law_10 10 rfl
theorem dL_law_1137 : decode cL_law 1137 = .ok (.invokevirtual 94, 3) := dq0 (p := fun a b => decode cL_law a = .ok b) dm_cL_law_10 11 rfl
theorem dL_law_1140 : decode cL_law 1140 = .ok (.iload 5, 2) := dq0 (p := fun a b => decode cL_law a = .ok b) dm_cL_law_10 12 rfl
theorem dL_law_1142 : decode cL_law 1142 = .ok (.if_icmp .eq 5, 3) := dq0 (p := fun a b => decode cL_law a = .ok b) dm_cL_law_10 13 rfl
theorem dL_law_1145 : decode cL_law 1145 = .ok (.iconst 0, 1) := dq0 (p := fun a b => decode cL_law a = .ok b) dm_cL_law_10 14 rfl
theorem dL_law_1146 : decode cL_law 1146 = .ok (.ireturn, 1) := dq0 (p := fun a b => decode cL_law a = .ok b) dm_cL_law_10 15 rfl
theorem dL_law_1147 : decode cL_law 1147 = .ok (.iload 5, 2) := dq0 (p := fun a b => decode cL_law a = .ok b) dm_cL_law_10 16 rfl
theorem dL_law_1149 : decode cL_law 1149 = .ok (.ifCond .ne 15, 3) := dq0 (p := fun a b => decode cL_law a = .ok b) dm_cL_law_10 17 rfl
theorem dL_law_1152 : decode cL_law 1152 = .ok (.aload_n 3, 1) := dq0 (p := fun a b => decode cL_law a = .ok b) dm_cL_law_10 18 rfl
theorem dL_law_1153 : decode cL_law 1153 = .ok (.iconst 0, 1) := dq0 (p := fun a b => decode cL_law a = .ok b) dm_cL_law_10 19 rfl
theorem dL_law_1154 : decode cL_law 1154 = .ok (.laload, 1) := dq0 (p := fun a b => decode cL_law a = .ok b) dm_cL_law_10 20 rfl
theorem dL_law_1155 : decode cL_law 1155 = .ok (.iload 6, 2) := dq0 (p := fun a b => decode cL_law a = .ok b) dm_cL_law_10 21 rfl
theorem dL_law_1157 : decode cL_law 1157 = .ok (.i2l, 1) := dq0 (p := fun a b => decode cL_law a = .ok b) dm_cL_law_10 22 rfl
theorem dL_law_1158 : decode cL_law 1158 = .ok (.lcmp, 1) := dq0 (p := fun a b => decode cL_law a = .ok b) dm_cL_law_10 23 rfl
theorem dL_law_1159 : decode cL_law 1159 = .ok (.ifCond .eq 5, 3) := dq0 (p := fun a b => decode cL_law a = .ok b) dm_cL_law_10 24 rfl
theorem dL_law_1162 : decode cL_law 1162 = .ok (.iconst 0, 1) := dq0 (p := fun a b => decode cL_law a = .ok b) dm_cL_law_10 25 rfl
theorem dL_law_1163 : decode cL_law 1163 = .ok (.ireturn, 1) := dq0 (p := fun a b => decode cL_law a = .ok b) dm_cL_law_10 26 rfl
theorem dL_law_1164 : decode cL_law 1164 = .ok (.goto 721, 3) := dq0 (p := fun a b => decode cL_law a = .ok b) dm_cL_law_10 27 rfl
theorem dL_law_1167 : decode cL_law 1167 = .ok (.aload_n 1, 1) := dq0 (p := fun a b => decode cL_law a = .ok b) dm_cL_law_10 28 rfl
theorem dL_law_1168 : decode cL_law 1168 = .ok (.aload_n 0, 1) := dq0 (p := fun a b => decode cL_law a = .ok b) dm_cL_law_10 29 rfl
theorem dL_law_1169 : decode cL_law 1169 = .ok (.iload 4, 2) := dq0 (p := fun a b => decode cL_law a = .ok b) dm_cL_law_10 30 rfl
theorem dL_law_1171 : decode cL_law 1171 = .ok (.iconst 1, 1) := dq0 (p := fun a b => decode cL_law a = .ok b) dm_cL_law_10 31 rfl
theorem dL_law_1172 : decode cL_law 1172 = .ok (.iadd, 1) := dq0 (p := fun a b => decode cL_law a = .ok b) dm_cL_law_10 32 rfl
theorem dL_law_1173 : decode cL_law 1173 = .ok (.iaload, 1) := dq0 (p := fun a b => decode cL_law a = .ok b) dm_cL_law_10 33 rfl
theorem dL_law_1174 : decode cL_law 1174 = .ok (.aload_n 0, 1) := dq0 (p := fun a b => decode cL_law a = .ok b) dm_cL_law_10 34 rfl
theorem dL_law_1175 : decode cL_law 1175 = .ok (.iload 4, 2) := dq0 (p := fun a b => decode cL_law a = .ok b) dm_cL_law_10 35 rfl
theorem dL_law_1177 : decode cL_law 1177 = .ok (.iconst 2, 1) := dq0 (p := fun a b => decode cL_law a = .ok b) dm_cL_law_10 36 rfl
theorem dL_law_1178 : decode cL_law 1178 = .ok (.iadd, 1) := dq0 (p := fun a b => decode cL_law a = .ok b) dm_cL_law_10 37 rfl
theorem dL_law_1179 : decode cL_law 1179 = .ok (.iaload, 1) := dq0 (p := fun a b => decode cL_law a = .ok b) dm_cL_law_10 38 rfl
theorem dL_law_1180 : decode cL_law 1180 = .ok (.aload_n 3, 1) := dq0 (p := fun a b => decode cL_law a = .ok b) dm_cL_law_10 39 rfl
theorem dL_law_1181 : decode cL_law 1181 = .ok (.invokestatic 167, 3) := dq0 (p := fun a b => decode cL_law a = .ok b) dm_cL_law_10 40 rfl
theorem dL_law_1184 : decode cL_law 1184 = .ok (.istore 5, 2) := dq0 (p := fun a b => decode cL_law a = .ok b) dm_cL_law_10 41 rfl
theorem dL_law_1186 : decode cL_law 1186 = .ok (.aload_n 2, 1) := dq0 (p := fun a b => decode cL_law a = .ok b) dm_cL_law_10 42 rfl
theorem dL_law_1187 : decode cL_law 1187 = .ok (.aload_n 0, 1) := dq0 (p := fun a b => decode cL_law a = .ok b) dm_cL_law_10 43 rfl
theorem dL_law_1188 : decode cL_law 1188 = .ok (.iload 4, 2) := dq0 (p := fun a b => decode cL_law a = .ok b) dm_cL_law_10 44 rfl
theorem dL_law_1190 : decode cL_law 1190 = .ok (.iconst 1, 1) := dq0 (p := fun a b => decode cL_law a = .ok b) dm_cL_law_10 45 rfl
theorem dL_law_1191 : decode cL_law 1191 = .ok (.iadd, 1) := dq0 (p := fun a b => decode cL_law a = .ok b) dm_cL_law_10 46 rfl
theorem dL_law_1192 : decode cL_law 1192 = .ok (.iaload, 1) := dq0 (p := fun a b => decode cL_law a = .ok b) dm_cL_law_10 47 rfl
theorem dL_law_1193 : decode cL_law 1193 = .ok (.aload_n 0, 1) := dq0 (p := fun a b => decode cL_law a = .ok b) dm_cL_law_10 48 rfl
theorem dL_law_1194 : decode cL_law 1194 = .ok (.iload 4, 2) := dq0 (p := fun a b => decode cL_law a = .ok b) dm_cL_law_10 49 rfl
theorem dL_law_1196 : decode cL_law 1196 = .ok (.iconst 2, 1) := dq0 (p := fun a b => decode cL_law a = .ok b) dm_cL_law_10 50 rfl
theorem dL_law_1197 : decode cL_law 1197 = .ok (.iadd, 1) := dq0 (p := fun a b => decode cL_law a = .ok b) dm_cL_law_10 51 rfl
theorem dL_law_1198 : decode cL_law 1198 = .ok (.iaload, 1) := dq0 (p := fun a b => decode cL_law a = .ok b) dm_cL_law_10 52 rfl
theorem dL_law_1199 : decode cL_law 1199 = .ok (.invokevirtual 169, 3) := dq0 (p := fun a b => decode cL_law a = .ok b) dm_cL_law_10 53 rfl
theorem dL_law_1202 : decode cL_law 1202 = .ok (.istore 6, 2) := dq0 (p := fun a b => decode cL_law a = .ok b) dm_cL_law_10 54 rfl
theorem dL_law_1204 : decode cL_law 1204 = .ok (.aload_n 2, 1) := dq0 (p := fun a b => decode cL_law a = .ok b) dm_cL_law_10 55 rfl
theorem dL_law_1205 : decode cL_law 1205 = .ok (.invokevirtual 94, 3) := dq0 (p := fun a b => decode cL_law a = .ok b) dm_cL_law_10 56 rfl
theorem dL_law_1208 : decode cL_law 1208 = .ok (.iload 5, 2) := dq0 (p := fun a b => decode cL_law a = .ok b) dm_cL_law_10 57 rfl
theorem dL_law_1210 : decode cL_law 1210 = .ok (.if_icmp .eq 5, 3) := dq0 (p := fun a b => decode cL_law a = .ok b) dm_cL_law_10 58 rfl
theorem dL_law_1213 : decode cL_law 1213 = .ok (.iconst 0, 1) := dq0 (p := fun a b => decode cL_law a = .ok b) dm_cL_law_10 59 rfl
theorem dm_cL_law_11 : ([(1214, .ireturn, 1), (1215, .iload 5, 2), (1217, .ifCond .ne 15, 3), (1220, .aload_n 3, 1), (1221, .iconst 0, 1), (1222, .laload, 1), (1223, .iload 6, 2), (1225, .i2l, 1), (1226, .lcmp, 1), (1227, .ifCond .eq 5, 3), (1230, .iconst 0, 1), (1231, .ireturn, 1), (1232, .goto 653, 3), (1235, .aload_n 1, 1), (1236, .aload_n 0, 1), (1237, .iload 4, 2), (1239, .iconst 1, 1), (1240, .iadd, 1), (1241, .iaload, 1), (1242, .aload_n 3, 1), (1243, .invokestatic 170, 3), (1246, .istore 5, 2), (1248, .aload_n 2, 1), (1249, .aload_n 0, 1), (1250, .iload 4, 2), (1252, .iconst 1, 1), (1253, .iadd, 1), (1254, .iaload, 1), (1255, .invokevirtual 172, 3), (1258, .istore 6, 2), (1260, .aload_n 2, 1), (1261, .invokevirtual 94, 3), (1264, .iload 5, 2), (1266, .if_icmp .eq 5, 3), (1269, .iconst 0, 1), (1270, .ireturn, 1), (1271, .iload 5, 2), (1273, .ifCond .ne 15, 3), (1276, .aload_n 3, 1), (1277, .iconst 0, 1), (1278, .laload, 1), (1279, .iload 6, 2), (1281, .i2l, 1), (1282, .lcmp, 1), (1283, .ifCond .eq 5, 3), (1286, .iconst 0, 1), (1287, .ireturn, 1), (1288, .goto 597, 3), (1291, .aload_n 1, 1), (1292, .invokevirtual 173, 3), (1295, .aload_n 2, 1), (1296, .invokevirtual 176, 3), (1299, .if_icmp .eq 586, 3), (1302, .iconst 0, 1), (1303, .ireturn, 1), (1304, .aload_n 1, 1), (1305, .aload_n 0, 1), (1306, .iload 4, 2), (1308, .iconst 1, 1), (1309, .iadd, 1)] : List (Nat × Instr × Nat)).all (fun t => decide (decode cL_law t.1 = .ok t.2)) = true := by decide +kernel
theorem dL_law_1214 : decode cL_law 1214 = .ok (.ireturn, 1) := dq0 (p := fun a b => decode cL_law a = .ok b) dm_cL_law_11 0 rfl
theorem dL_law_1215 : decode cL_law 1215 = .ok (.iload 5, 2) := dq0 (p := fun a b => decode cL_law a = .ok b) dm_cL_law_11 1 rfl
theorem dL_law_1217 : decode cL_law 1217 = .ok (.ifCond .ne 15, 3) := dq0 (p := fun a b => decode cL_law a = .ok b) dm_cL_law_11 2 rfl
theorem dL_law_1220 : decode cL_law 1220 = .ok (.aload_n 3, 1) := dq0 (p := fun a b => decode cL_law a = .ok b) dm_cL_law_11 3 rfl
theorem dL_law_1221 : decode cL_law 1221 = .ok (.iconst 0, 1) := dq0 (p := fun a b => decode cL_law a = .ok b) dm_cL_law_11 4 rfl
theorem dL_law_1222 : decode cL_law 1222 = .ok (.laload, 1) := dq0 (p := fun a b => decode cL_law a = .ok b) dm_cL_law_11 5 rfl
theorem dL_law_1223 : decode cL_law 1223 = .ok (.iload 6, 2) := dq0 (p := fun a b => decode cL_law a = .ok b) dm_cL_law_11 6 rfl
theorem dL_law_1225 : decode cL_law 1225 = .ok (.i2l, 1) := dq0 (p := fun a b => decode cL_law a = .ok b) dm_cL_law_11 7 rfl
theorem dL_law_1226 : decode cL_law 1226 = .ok (.lcmp, 1) := dq0 (p := fun a b => decode cL_law a = .ok b) dm_cL_law_11 8 rfl
theorem dL_law_1227 : decode cL_law 1227 = .ok (.ifCond .eq 5, 3) := dq0 (p := fun a b => decode cL_law a = .ok b) dm_cL_law_11 9 rfl
theorem dL_law_1230 : decode cL_law 1230 = .ok (.iconst 0, 1) := dq0 (p := fun a b => decode cL_law a = .ok b) dm_cL_law_11 10 rfl
theorem dL_law_1231 : decode cL_law 1231 = .ok (.ireturn, 1) := dq0 (p := fun a b => decode cL_law a = .ok b) dm_cL_law_11 11 rfl
theorem dL_law_1232 : decode cL_law 1232 = .ok (.goto 653, 3) := dq0 (p := fun a b => decode cL_law a = .ok b) dm_cL_law_11 12 rfl
theorem dL_law_1235 : decode cL_law 1235 = .ok (.aload_n 1, 1) := dq0 (p := fun a b => decode cL_law a = .ok b) dm_cL_law_11 13 rfl
theorem dL_law_1236 : decode cL_law 1236 = .ok (.aload_n 0, 1) := dq0 (p := fun a b => decode cL_law a = .ok b) dm_cL_law_11 14 rfl
theorem dL_law_1237 : decode cL_law 1237 = .ok (.iload 4, 2) := dq0 (p := fun a b => decode cL_law a = .ok b) dm_cL_law_11 15 rfl
theorem dL_law_1239 : decode cL_law 1239 = .ok (.iconst 1, 1) := dq0 (p := fun a b => decode cL_law a = .ok b) dm_cL_law_11 16 rfl
theorem dL_law_1240 : decode cL_law 1240 = .ok (.iadd, 1) := dq0 (p := fun a b => decode cL_law a = .ok b) dm_cL_law_11 17 rfl
theorem dL_law_1241 : decode cL_law 1241 = .ok (.iaload, 1) := dq0 (p := fun a b => decode cL_law a = .ok b) dm_cL_law_11 18 rfl
theorem dL_law_1242 : decode cL_law 1242 = .ok (.aload_n 3, 1) := dq0 (p := fun a b => decode cL_law a = .ok b) dm_cL_law_11 19 rfl
theorem dL_law_1243 : decode cL_law 1243 = .ok (.invokestatic 170, 3) := dq0 (p := fun a b => decode cL_law a = .ok b) dm_cL_law_11 20 rfl
theorem dL_law_1246 : decode cL_law 1246 = .ok (.istore 5, 2) := dq0 (p := fun a b => decode cL_law a = .ok b) dm_cL_law_11 21 rfl
theorem dL_law_1248 : decode cL_law 1248 = .ok (.aload_n 2, 1) := dq0 (p := fun a b => decode cL_law a = .ok b) dm_cL_law_11 22 rfl
theorem dL_law_1249 : decode cL_law 1249 = .ok (.aload_n 0, 1) := dq0 (p := fun a b => decode cL_law a = .ok b) dm_cL_law_11 23 rfl
theorem dL_law_1250 : decode cL_law 1250 = .ok (.iload 4, 2) := dq0 (p := fun a b => decode cL_law a = .ok b) dm_cL_law_11 24 rfl
theorem dL_law_1252 : decode cL_law 1252 = .ok (.iconst 1, 1) := dq0 (p := fun a b => decode cL_law a = .ok b) dm_cL_law_11 25 rfl
theorem dL_law_1253 : decode cL_law 1253 = .ok (.iadd, 1) := dq0 (p := fun a b => decode cL_law a = .ok b) dm_cL_law_11 26 rfl
theorem dL_law_1254 : decode cL_law 1254 = .ok (.iaload, 1) := dq0 (p := fun a b => decode cL_law a = .ok b) dm_cL_law_11 27 rfl
theorem dL_law_1255 : decode cL_law 1255 = .ok (.invokevirtual 172, 3) := dq0 (p := fun a b => decode cL_law a = .ok b) dm_cL_law_11 28 rfl
theorem dL_law_1258 : decode cL_law 1258 = .ok (.istore 6, 2) := dq0 (p := fun a b => decode cL_law a = .ok b) dm_cL_law_11 29 rfl
theorem dL_law_1260 : decode cL_law 1260 = .ok (.aload_n 2, 1) := dq0 (p := fun a b => decode cL_law a = .ok b) dm_cL_law_11 30 rfl
theorem dL_law_1261 : decode cL_law 1261 = .ok (.invokevirtual 94, 3) := dq0 (p := fun a b => decode cL_law a = .ok b) dm_cL_law_11 31 rfl
theorem dL_law_1264 : decode cL_law 1264 = .ok (.iload 5, 2) := dq0 (p := fun a b => decode cL_law a = .ok b) dm_cL_law_11 32 rfl
theorem dL_law_1266 : decode cL_law 1266 = .ok (.if_icmp .eq 5, 3) := dq0 (p := fun a b => decode cL_law a = .ok b) dm_cL_law_11 33 rfl
theorem dL_law_1269 : decode cL_law 1269 = .ok (.iconst 0, 1) := dq0 (p := fun a b => decode cL_law a = .ok b) dm_cL_law_11 34 rfl
theorem dL_law_1270 : decode cL_law 1270 = .ok (.ireturn, 1) := dq0 (p := fun a b => decode cL_law a = .ok b) dm_cL_law_11 35 rfl
theorem dL_law_1271 : decode cL_law 1271 = .ok (.iload 5, 2) := dq0 (p := fun a b => decode cL_law a = .ok b) dm_cL_law_11 36 rfl
theorem dL_law_1273 : decode cL_law 1273 = .ok (.ifCond .ne 15, 3) := dq0 (p := fun a b => decode cL_law a = .ok b) dm_cL_law_11 37 rfl
theorem dL_law_1276 : decode cL_law 1276 = .ok (.aload_n 3, 1) := dq0 (p := fun a b => decode cL_law a = .ok b) dm_cL_law_11 38 rfl
theorem dL_law_1277 : decode cL_law 1277 = .ok (.iconst 0, 1) := dq0 (p := fun a b => decode cL_law a = .ok b) dm_cL_law_11 39 rfl
theorem dL_law_1278 : decode cL_law 1278 = .ok (.laload, 1) := dq0 (p := fun a b => decode cL_law a = .ok b) dm_cL_law_11 40 rfl
theorem dL_law_1279 : decode cL_law 1279 = .ok (.iload 6, 2) := dq0 (p := fun a b => decode cL_law a = .ok b) dm_cL_law_11 41 rfl
theorem dL_law_1281 : decode cL_law 1281 = .ok (.i2l, 1) := dq0 (p := fun a b => decode cL_law a = .ok b) dm_cL_law_11 42 rfl
theorem dL_law_1282 : decode cL_law 1282 = .ok (.lcmp, 1) := dq0 (p := fun a b => decode cL_law a = .ok b) dm_cL_law_11 43 rfl
theorem dL_law_1283 : decode cL_law 1283 = .ok (.ifCond .eq 5, 3) := dq0 (p := fun a b => decode cL_law a = .ok b) dm_cL_law_11 44 rfl
theorem dL_law_1286 : decode cL_law 1286 = .ok (.iconst 0, 1) := dq0 (p := fun a b => decode cL_law a = .ok b) dm_cL_law_11 45 rfl
theorem dL_law_1287 : decode cL_law 1287 = .ok (.ireturn, 1) := dq0 (p := fun a b => decode cL_law a = .ok b) dm_cL_law_11 46 rfl
theorem dL_law_1288 : decode cL_law 1288 = .ok (.goto 597, 3) := dq0 (p := fun a b => decode cL_law a = .ok b) dm_cL_law_11 47 rfl
theorem dL_law_1291 : decode cL_law 1291 = .ok (.aload_n 1, 1) := dq0 (p := fun a b => decode cL_law a = .ok b) dm_cL_law_11 48 rfl
theorem dL_law_1292 : decode cL_law 1292 = .ok (.invokevirtual 173, 3) := dq0 (p := fun a b => decode cL_law a = .ok b) dm_cL_law_11 49 rfl
theorem dL_law_1295 : decode cL_law 1295 = .ok (.aload_n 2, 1) := dq0 (p := fun a b => decode cL_law a = .ok b) dm_cL_law_11 50 rfl
theorem dL_law_1296 : decode cL_law 1296 = .ok (.invokevirtual 176, 3) := dq0 (p := fun a b => decode cL_law a = .ok b) dm_cL_law_11 51 rfl
theorem dL_law_1299 : decode cL_law 1299 = .ok (.if_icmp .eq 586, 3) := dq0 (p := fun a b => decode cL_law a = .ok b) dm_cL_law_11 52 rfl
theorem dL_law_1302 : decode cL_law 1302 = .ok (.iconst 0, 1) := dq0 (p := fun a b => decode cL_law a = .ok b) dm_cL_law_11 53 rfl
theorem dL_law_1303 : decode cL_law 1303 = .ok (.ireturn, 1) := dq0 (p := fun a b => decode cL_law a = .ok b) dm_cL_law_11 54 rfl
theorem dL_law_1304 : decode cL_law 1304 = .ok (.aload_n 1, 1) := dq0 (p := fun a b => decode cL_law a = .ok b) dm_cL_law_11 55 rfl
theorem dL_law_1305 : decode cL_law 1305 = .ok (.aload_n 0, 1) := dq0 (p := fun a b => decode cL_law a = .ok b) dm_cL_law_11 56 rfl
theorem dL_law_1306 : decode cL_law 1306 = .ok (.iload 4, 2) := dq0 (p := fun a b => decode cL_law a = .ok b) dm_cL_law_11 57 rfl
theorem dL_law_1308 : decode cL_law 1308 = .ok (.iconst 1, 1) := dq0 (p := fun a b => decode cL_law a = .ok b) dm_cL_law_11 58 rfl
theorem dL_law_1309 : decode cL_law 1309 = .ok (.iadd, 1) := dq0 (p := fun a b => decode cL_law a = .ok b) dm_cL_law_11 59 rfl
theorem dm_cL_law_12 : ([(1310, .iaload, 1), (1311, .aload_n 3, 1), (1312, .invokestatic 177, 3), (1315, .istore 5, 2), (1317, .aload_n 2, 1), (1318, .aload_n 0, 1), (1319, .iload 4, 2), (1321, .iconst 1, 1), (1322, .iadd, 1), (1323, .iaload, 1), (1324, .invokevirtual 179, 3), (1327, .istore 6, 2), (1329, .aload_n 2, 1), (1330, .invokevirtual 94, 3), (1333, .iload 5, 2), (1335, .if_icmp .eq 5, 3), (1338, .iconst 0, 1), (1339, .ireturn, 1), (1340, .iload 5, 2), (1342, .ifCond .ne 15, 3), (1345, .aload_n 3, 1), (1346, .iconst 0, 1), (1347, .laload, 1), (1348, .iload 6, 2), (1350, .i2l, 1), (1351, .lcmp, 1), (1352, .ifCond .eq 5, 3), (1355, .iconst 0, 1), (1356, .ireturn, 1), (1357, .goto 528, 3), (1360, .aload_n 1, 1), (1361, .aload_n 0, 1), (1362, .iload 4, 2), (1364, .iconst 1, 1), (1365, .iadd, 1), (1366, .iaload, 1), (1367, .aload_n 0, 1), (1368, .iload 4, 2), (1370, .iconst 2, 1), (1371, .iadd, 1), (1372, .iaload, 1), (1373, .aload_n 3, 1), (1374, .invokestatic 180, 3), (1377, .istore 5, 2), (1379, .aload_n 2, 1), (1380, .aload_n 0, 1), (1381, .iload 4, 2), (1383, .iconst 1, 1), (1384, .iadd, 1), (1385, .iaload, 1), (1386, .aload_n 0, 1), (1387, .iload 4, 2), (1389, .iconst 2, 1), (1390, .iadd, 1), (1391, .iaload, 1), (1392, .invokevirtual 182, 3), (1395, .istore 6, 2), (1397, .aload_n 2, 1), (1398, .invokevirtual 94, 3), (1401, .iload 5, 2)] : List (Nat × Instr × Nat)).all (fun t => decide (decode cL_law t.1 = .ok t.2)) = true := by decide +kernel
theorem dL_law_1310 : decode cL_law 1310 = .ok (.iaload, 1) := dq0 (p := fun a b => decode cL_law a = .ok b) dm_cL_law_12 0 rfl
theorem dL_law_1311 : decode cL_law 1311 = .ok (.aload_n 3, 1) := dq0 (p := fun a b => decode cL_law a = .ok b) dm_cL_law_12 1 rfl
theorem dL_law_1312 : decode cL_law 1312 = .ok (.invokestatic 177, 3) := dq0 (p := fun a b => decode cL_law a = .ok b) dm_cL_law_12 2 rfl
theorem dL_law_1315 : decode cL_law 1315 = .ok (.istore 5, 2) := dq0 (p := fun a b => decode cL_law a = .ok b) dm_cL_law_12 3 rfl
theorem dL_law_1317 : decode cL_law 1317 = .ok (.aload_n 2, 1) := dq0 (p := fun a b => decode cL_law a = .ok b) dm_cL_law_12 4 rfl
theorem dL_law_1318 : decode cL_law 1318 = .ok (.aload_n 0, 1) := dq0 (p := fun a b => decode cL_law a = .ok b) dm_cL_law_12 5 rfl
theorem dL_law_1319 : decode cL_law 1319 = .ok (.iload 4, 2) := dq0 (p := fun a b => decode cL_law a = .ok b) dm_cL_law_12 6 rfl
theorem dL_law_1321 : decode cL_law 1321 = .ok (.iconst 1, 1) := dq0 (p := fun a b => decode cL_law a = .ok b) dm_cL_law_12 7 rfl
theorem dL_law_1322 : decode cL_law 1322 = .ok (.iadd, 1) := dq0 (p := fun a b => decode cL_law a = .ok b) dm_cL_law_12 8 rfl
theorem dL_law_1323 : decode cL_law 1323 = .ok (.iaload, 1) := dq0 (p := fun a b => decode cL_law a = .ok b) dm_cL_law_12 9 rfl
theorem dL_law_1324 : decode cL_law 1324 = .ok (.invokevirtual 179, 3) := dq0 (p := fun a b => decode cL_law a = .ok b) dm_cL_law_12 10 rfl
theorem dL_law_1327 : decode cL_law 1327 = .ok (.istore 6, 2) := dq0 (p := fun a b => decode cL_law a = .ok b) dm_cL_law_12 11 rfl
theorem dL_law_1329 : decode cL_law 1329 = .ok (.aload_n 2, 1) := dq0 (p := fun a b => decode cL_law a = .ok b) dm_cL_law_12 12 rfl
theorem dL_law_1330 : decode cL_law 1330 = .ok (.invokevirtual 94, 3) := dq0 (p := fun a b => decode cL_law a = .ok b) dm_cL_law_12 13 rfl
theorem dL_law_1333 : decode cL_law 1333 = .ok (.iload 5, 2) := dq0 (p := fun a b => decode cL_law a = .ok b) dm_cL_law_12 14 rfl
theorem dL_law_1335 : decode cL_law 1335 = .ok (.if_icmp .eq 5, 3) := dq0 (p := fun a b => decode cL_law a = .ok b) dm_cL_law_12 15 rfl
theorem dL_law_1338 : decode cL_law 1338 = .ok (.iconst 0, 1) := dq0 (p := fun a b => decode cL_law a = .ok b) dm_cL_law_12 16 rfl
theorem dL_law_1339 : decode cL_law 1339 = .ok (.ireturn, 1) := dq0 (p := fun a b => decode cL_law a = .ok b) dm_cL_law_12 17 rfl
theorem dL_law_1340 : decode cL_law 1340 = .ok (.iload 5, 2) := dq0 (p := fun a b => decode cL_law a = .ok b) dm_cL_law_12 18 rfl
theorem dL_law_1342 : decode cL_law 1342 = .ok (.ifCond .ne 15, 3) := dq0 (p := fun a b => decode cL_law a = .ok b) dm_cL_law_12 19 rfl
theorem dL_law_1345 : decode cL_law 1345 = .ok (.aload_n 3, 1) := dq0 (p := fun a b => decode cL_law a = .ok b) dm_cL_law_12 20 rfl
theorem dL_law_1346 : decode cL_law 1346 = .ok (.iconst 0, 1) := dq0 (p := fun a b => decode cL_law a = .ok b) dm_cL_law_12 21 rfl
theorem dL_law_1347 : decode cL_law 1347 = .ok (.laload, 1) := dq0 (p := fun a b => decode cL_law a = .ok b) dm_cL_law_12 22 rfl
theorem dL_law_1348 : decode cL_law 1348 = .ok (.iload 6, 2) := dq0 (p := fun a b => decode cL_law a = .ok b) dm_cL_law_12 23 rfl
theorem dL_law_1350 : decode cL_law 1350 = .ok (.i2l, 1) := dq0 (p := fun a b => decode cL_law a = .ok b) dm_cL_law_12 24 rfl
theorem dL_law_1351 : decode cL_law 1351 = .ok (.lcmp, 1) := dq0 (p := fun a b => decode cL_law a = .ok b) dm_cL_law_12 25 rfl
theorem dL_law_1352 : decode cL_law 1352 = .ok (.ifCond .eq 5, 3) := dq0 (p := fun a b => decode cL_law a = .ok b) dm_cL_law_12 26 rfl
theorem dL_law_1355 : decode cL_law 1355 = .ok (.iconst 0, 1) := dq0 (p := fun a b => decode cL_law a = .ok b) dm_cL_law_12 27 rfl
theorem dL_law_1356 : decode cL_law 1356 = .ok (.ireturn, 1) := dq0 (p := fun a b => decode cL_law a = .ok b) dm_cL_law_12 28 rfl
theorem dL_law_1357 : decode cL_law 1357 = .ok (.goto 528, 3) := dq0 (p := fun a b => decode cL_law a = .ok b) dm_cL_law_12 29 rfl
theorem dL_law_1360 : decode cL_law 1360 = .ok (.aload_n 1, 1) := dq0 (p := fun a b => decode cL_law a = .ok b) dm_cL_law_12 30 rfl
theorem dL_law_1361 : decode cL_law 1361 = .ok (.aload_n 0, 1) := dq0 (p := fun a b => decode cL_law a = .ok b) dm_cL_law_12 31 rfl
theorem dL_law_1362 : decode cL_law 1362 = .ok (.iload 4, 2) := dq0 (p := fun a b => decode cL_law a = .ok b) dm_cL_law_12 32 rfl
theorem dL_law_1364 : decode cL_law 1364 = .ok (.iconst 1, 1) := dq0 (p := fun a b => decode cL_law a = .ok b) dm_cL_law_12 33 rfl
theorem dL_law_1365 : decode cL_law 1365 = .ok (.iadd, 1) := dq0 (p := fun a b => decode cL_law a = .ok b) dm_cL_law_12 34 rfl
theorem dL_law_1366 : decode cL_law 1366 = .ok (.iaload, 1) := dq0 (p := fun a b => decode cL_law a = .ok b) dm_cL_law_12 35 rfl
theorem dL_law_1367 : decode cL_law 1367 = .ok (.aload_n 0, 1) := dq0 (p := fun a b => decode cL_law a = .ok b) dm_cL_law_12 36 rfl
theorem dL_law_1368 : decode cL_law 1368 = .ok (.iload 4, 2) := dq0 (p := fun a b => decode cL_law a = .ok b) dm_cL_law_12 37 rfl
theorem dL_law_1370 : decode cL_law 1370 = .ok (.iconst 2, 1) := dq0 (p := fun a b => decode cL_law a = .ok b) dm_cL_law_12 38 rfl
theorem dL_law_1371 : decode cL_law 1371 = .ok (.iadd, 1) := dq0 (p := fun a b => decode cL_law a = .ok b) dm_cL_law_12 39 rfl
theorem dL_law_1372 : decode cL_law 1372 = .ok (.iaload, 1) := dq0 (p := fun a b => decode cL_law a = .ok b) dm_cL_law_12 40 rfl
theorem dL_law_1373 : decode cL_law 1373 = .ok (.aload_n 3, 1) := dq0 (p := fun a b => decode cL_law a = .ok b) dm_cL_law_12 41 rfl
theorem dL_law_1374 : decode cL_law 1374 = .ok (.invokestatic 180, 3) := dq0 (p := fun a b => decode cL_law a = .ok b) dm_cL_law_12 42 rfl
theorem dL_law_1377 : decode cL_law 1377 = .ok (.istore 5, 2) := dq0 (p := fun a b => decode cL_law a = .ok b) dm_cL_law_12 43 rfl
theorem dL_law_1379 : decode cL_law 1379 = .ok (.aload_n 2, 1) := dq0 (p := fun a b => decode cL_law a = .ok b) dm_cL_law_12 44 rfl
theorem dL_law_1380 : decode cL_law 1380 = .ok (.aload_n 0, 1) := dq0 (p := fun a b => decode cL_law a = .ok b) dm_cL_law_12 45 rfl
theorem dL_law_1381 : decode cL_law 1381 = .ok (.iload 4, 2) := dq0 (p := fun a b => decode cL_law a = .ok b) dm_cL_law_12 46 rfl
theorem dL_law_1383 : decode cL_law 1383 = .ok (.iconst 1, 1) := dq0 (p := fun a b => decode cL_law a = .ok b) dm_cL_law_12 47 rfl
theorem dL_law_1384 : decode cL_law 1384 = .ok (.iadd, 1) := dq0 (p := fun a b => decode cL_law a = .ok b) dm_cL_law_12 48 rfl
theorem dL_law_1385 : decode cL_law 1385 = .ok (.iaload, 1) := dq0 (p := fun a b => decode cL_law a = .ok b) dm_cL_law_12 49 rfl
theorem dL_law_1386 : decode cL_law 1386 = .ok (.aload_n 0, 1) := dq0 (p := fun a b => decode cL_law a = .ok b) dm_cL_law_12 50 rfl
theorem dL_law_1387 : decode cL_law 1387 = .ok (.iload 4, 2) := dq0 (p := fun a b => decode cL_law a = .ok b) dm_cL_law_12 51 rfl
theorem dL_law_1389 : decode cL_law 1389 = .ok (.iconst 2, 1) := dq0 (p := fun a b => decode cL_law a = .ok b) dm_cL_law_12 52 rfl
theorem dL_law_1390 : decode cL_law 1390 = .ok (.iadd, 1) := dq0 (p := fun a b => decode cL_law a = .ok b) dm_cL_law_12 53 rfl
theorem dL_law_1391 : decode cL_law 1391 = .ok (.iaload, 1) := dq0 (p := fun a b => decode cL_law a = .ok b) dm_cL_law_12 54 rfl
theorem dL_law_1392 : decode cL_law 1392 = .ok (.invokevirtual 182, 3) := dq0 (p := fun a b => decode cL_law a = .ok b) dm_cL_law_12 55 rfl
theorem dL_law_1395 : decode cL_law 1395 = .ok (.istore 6, 2) := dq0 (p := fun a b => decode cL_law a = .ok b) dm_cL_law_12 56 rfl
theorem dL_law_1397 : decode cL_law 1397 = .ok (.aload_n 2, 1) := dq0 (p := fun a b => decode cL_law a = .ok b) dm_cL_law_12 57 rfl
theorem dL_law_1398 : decode cL_law 1398 = .ok (.invokevirtual 94, 3) := dq0 (p := fun a b => decode cL_law a = .ok b) dm_cL_law_12 58 rfl
theorem dL_law_1401 : decode cL_law 1401 = .ok (.iload 5, 2) := dq0 (p := fun a b => decode cL_law a = .ok b) dm_cL_law_12 59 rfl
theorem dm_cL_law_13 : ([(1403, .if_icmp .eq 5, 3), (1406, .iconst 0, 1), (1407, .ireturn, 1), (1408, .iload 5, 2), (1410, .ifCond .ne 15, 3), (1413, .aload_n 3, 1), (1414, .iconst 0, 1), (1415, .laload, 1), (1416, .iload 6, 2), (1418, .i2l, 1), (1419, .lcmp, 1), (1420, .ifCond .eq 5, 3), (1423, .iconst 0, 1), (1424, .ireturn, 1), (1425, .goto 460, 3), (1428, .aload_n 1, 1), (1429, .aload_n 0, 1), (1430, .iload 4, 2), (1432, .iconst 1, 1), (1433, .iadd, 1), (1434, .iaload, 1), (1435, .aload_n 0, 1), (1436, .iload 4, 2), (1438, .iconst 2, 1), (1439, .iadd, 1), (1440, .iaload, 1), (1441, .aload_n 3, 1), (1442, .invokestatic 183, 3), (1445, .istore 5, 2), (1447, .aload_n 2, 1), (1448, .aload_n 0, 1), (1449, .iload 4, 2), (1451, .iconst 1, 1), (1452, .iadd, 1), (1453, .iaload, 1), (1454, .aload_n 0, 1), (1455, .iload 4, 2), (1457, .iconst 2, 1), (1458, .iadd, 1), (1459, .iaload, 1), (1460, .invokevirtual 185, 3), (1463, .istore 6, 2), (1465, .aload_n 2, 1), (1466, .invokevirtual 94, 3), (1469, .iload 5, 2), (1471, .if_icmp .eq 5, 3), (1474, .iconst 0, 1), (1475, .ireturn, 1), (1476, .iload 5, 2), (1478, .ifCond .ne 15, 3), (1481, .aload_n 3, 1), (1482, .iconst 0, 1), (1483, .laload, 1), (1484, .iload 6, 2), (1486, .i2l, 1), (1487, .lcmp, 1), (1488, .ifCond .eq 5, 3), (1491, .iconst 0, 1), (1492, .ireturn, 1), (1493, .goto 392, 3)] : List (Nat × Instr × Nat)).all (fun t => decide (decode cL_law t.1 = .ok t.2)) = true := by decide +kernel
theorem dL_law_1403 : decode cL_law 1403 = .ok (.if_icmp .eq 5, 3) := dq0 (p := fun a b => decode cL_law a = .ok b) dm_cL_law_13 0 rfl
theorem dL_law_1406 : decode cL_law 1406 = .ok (.iconst 0, 1) := dq0 (p := fun a b => decode cL_law a = .ok b) dm_cL_law_13 1 rfl
theorem dL_law_1407 : decode cL_law 1407 = .ok (.ireturn, 1) := dq0 (p := fun a b => decode cL_law a = .ok b) dm_cL_law_13 2 rfl
theorem dL_law_1408 : decode cL_law 1408 = .ok (.iload 5, 2) := dq0 (p := fun a b => decode cL_law a = .ok b) dm_cL_law_13 3 rfl
theorem dL_law_1410 : decode cL_law 1410 = .ok (.ifCond .ne 15, 3) := dq0 (p := fun a b => decode cL_law a = .ok b) dm_cL_law_13 4 rfl
theorem dL_law_1413 : decode cL_law 1413 = .ok (.aload_n 3, 1) := dq0 (p := fun a b => decode cL_law a = .ok b) dm_cL_law_13 5 rfl
theorem dL_law_1414 : decode cL_law 1414 = .ok (.iconst 0, 1) := dq0 (p := fun a b => decode cL_law a = .ok b) dm_cL_law_13 6 rfl
theorem dL_law_1415 : decode cL_law 1415 = .ok (.laload, 1) := dq0 (p := fun a b => decode cL_law a = .ok b) dm_cL_law_13 7 rfl
theorem dL_law_1416 : decode cL_law 1416 = .ok (.iload 6, 2) := dq0 (p := fun a b => decode cL_law a = .ok b) dm_cL_law_13 8 rfl
theorem dL_law_1418 : decode cL_law 1418 = .ok (.i2l, 1) := dq0 (p := fun a b => decode cL_law a = .ok b) dm_cL_law_13 9 rfl
theorem dL_law_1419 : decode cL_law 1419 = .ok (.lcmp, 1) := dq0 (p := fun a b => decode cL_law a = .ok b) dm_cL_law_13 10 rfl
theorem dL_law_1420 : decode cL_law 1420 = .ok (.ifCond .eq 5, 3) := dq0 (p := fun a b => decode cL_law a = .ok b) dm_cL_law_13 11 rfl
theorem dL_law_1423 : decode cL_law 1423 = .ok (.iconst 0, 1) := dq0 (p := fun a b => decode cL_law a = .ok b) dm_cL_law_13 12 rfl
theorem dL_law_1424 : decode cL_law 1424 = .ok (.ireturn, 1) := dq0 (p := fun a b => decode cL_law a = .ok b) dm_cL_law_13 13 rfl
theorem dL_law_1425 : decode cL_law 1425 = .ok (.goto 460, 3) := dq0 (p := fun a b => decode cL_law a = .ok b) dm_cL_law_13 14 rfl
theorem dL_law_1428 : decode cL_law 1428 = .ok (.aload_n 1, 1) := dq0 (p := fun a b => decode cL_law a = .ok b) dm_cL_law_13 15 rfl
theorem dL_law_1429 : decode cL_law 1429 = .ok (.aload_n 0, 1) := dq0 (p := fun a b => decode cL_law a = .ok b) dm_cL_law_13 16 rfl
theorem dL_law_1430 : decode cL_law 1430 = .ok (.iload 4, 2) := dq0 (p := fun a b => decode cL_law a = .ok b) dm_cL_law_13 17 rfl
theorem dL_law_1432 : decode cL_law 1432 = .ok (.iconst 1, 1) := dq0 (p := fun a b => decode cL_law a = .ok b) dm_cL_law_13 18 rfl
theorem dL_law_1433 : decode cL_law 1433 = .ok (.iadd, 1) := dq0 (p := fun a b => decode cL_law a = .ok b) dm_cL_law_13 19 rfl
theorem dL_law_1434 : decode cL_law 1434 = .ok (.iaload, 1) := dq0 (p := fun a b => decode cL_law a = .ok b) dm_cL_law_13 20 rfl
theorem dL_law_1435 : decode cL_law 1435 = .ok (.aload_n 0, 1) := dq0 (p := fun a b => decode cL_law a = .ok b) dm_cL_law_13 21 rfl
theorem dL_law_1436 : decode cL_law 1436 = .ok (.iload 4, 2) := dq0 (p := fun a b => decode cL_law a = .ok b) dm_cL_law_13 22 rfl
theorem dL_law_1438 : decode cL_law 1438 = .ok (.iconst 2, 1) := dq0 (p := fun a b => decode cL_law a = .ok b) dm_cL_law_13 23 rfl
theorem dL_law_1439 : decode cL_law 1439 = .ok (.iadd, 1) := dq0 (p := fun a b => decode cL_law a = .ok b) dm_cL_law_13 24 rfl
theorem dL_law_1440 : decode cL_law 1440 = .ok (.iaload, 1) := dq0 (p := fun a b => decode cL_law a = .ok b) dm_cL_law_13 25 rfl
theorem dL_law_1441 : decode cL_law 1441 = .ok (.aload_n 3, 1) := dq0 (p := fun a b => decode cL_law a = .ok b) dm_cL_law_13 26 rfl
theorem dL_law_1442 : decode cL_law 1442 = .ok (.invokestatic 183, 3) := dq0 (p := fun a b => decode cL_law a = .ok b) dm_cL_law_13 27 rfl
theorem dL_law_1445 : decode cL_law 1445 = .ok (.istore 5, 2) := dq0 (p := fun a b => decode cL_law a = .ok b) dm_cL_law_13 28 rfl
theorem dL_law_1447 : decode cL_law 1447 = .ok (.aload_n 2, 1) := dq0 (p := fun a b => decode cL_law a = .ok b) dm_cL_law_13 29 rfl
theorem dL_law_1448 : decode cL_law 1448 = .ok (.aload_n 0, 1) := dq0 (p := fun a b => decode cL_law a = .ok b) dm_cL_law_13 30 rfl
theorem dL_law_1449 : decode cL_law 1449 = .ok (.iload 4, 2) := dq0 (p := fun a b => decode cL_law a = .ok b) dm_cL_law_13 31 rfl
theorem dL_law_1451 : decode cL_law 1451 = .ok (.iconst 1, 1) := dq0 (p := fun a b => decode cL_law a = .ok b) dm_cL_law_13 32 rfl
theorem dL_law_1452 : decode cL_law 1452 = .ok (.iadd, 1) := dq0 (p := fun a b => decode cL_law a = .ok b) dm_cL_law_13 33 rfl
theorem dL_law_1453 : decode cL_law 1453 = .ok (.iaload, 1) := dq0 (p := fun a b => decode cL_law a = .ok b) dm_cL_law_13 34 rfl
theorem dL_law_1454 : decode cL_law 1454 = .ok (.aload_n 0, 1) := dq0 (p := fun a b => decode cL_law a = .ok b) dm_cL_law_13 35 rfl
theorem dL_law_1455 : decode cL_law 1455 = .ok (.iload 4, 2) := dq0 (p := fun a b => decode cL_law a = .ok b) dm_cL_law_13 36 rfl
theorem dL_law_1457 : decode cL_law 1457 = .ok (.iconst 2, 1) := dq0 (p := fun a b => decode cL_law a = .ok b) dm_cL_law_13 37 rfl
theorem dL_law_1458 : decode cL_law 1458 = .ok (.iadd, 1) := dq0 (p := fun a b => decode cL_law a = .ok b) dm_cL_law_13 38 rfl
theorem dL_law_1459 : decode cL_law 1459 = .ok (.iaload, 1) := dq0 (p := fun a b => decode cL_law a = .ok b) dm_cL_law_13 39 rfl
theorem dL_law_1460 : decode cL_law 1460 = .ok (.invokevirtual 185, 3) := dq0 (p := fun a b => decode cL_law a = .ok b) dm_cL_law_13 40 rfl
theorem dL_law_1463 : decode cL_law 1463 = .ok (.istore 6, 2) := dq0 (p := fun a b => decode cL_law a = .ok b) dm_cL_law_13 41 rfl
theorem dL_law_1465 : decode cL_law 1465 = .ok (.aload_n 2, 1) := dq0 (p := fun a b => decode cL_law a = .ok b) dm_cL_law_13 42 rfl
theorem dL_law_1466 : decode cL_law 1466 = .ok (.invokevirtual 94, 3) := dq0 (p := fun a b => decode cL_law a = .ok b) dm_cL_law_13 43 rfl
theorem dL_law_1469 : decode cL_law 1469 = .ok (.iload 5, 2) := dq0 (p := fun a b => decode cL_law a = .ok b) dm_cL_law_13 44 rfl
theorem dL_law_1471 : decode cL_law 1471 = .ok (.if_icmp .eq 5, 3) := dq0 (p := fun a b => decode cL_law a = .ok b) dm_cL_law_13 45 rfl
theorem dL_law_1474 : decode cL_law 1474 = .ok (.iconst 0, 1) := dq0 (p := fun a b => decode cL_law a = .ok b) dm_cL_law_13 46 rfl
theorem dL_law_1475 : decode cL_law 1475 = .ok (.ireturn, 1) := dq0 (p := fun a b => decode cL_law a = .ok b) dm_cL_law_13 47 rfl
theorem dL_law_1476 : decode cL_law 1476 = .ok (.iload 5, 2) := dq0 (p := fun a b => decode cL_law a = .ok b) dm_cL_law_13 48 rfl
theorem dL_law_1478 : decode cL_law 1478 = .ok (.ifCond .ne 15, 3) := dq0 (p := fun a b => decode cL_law a = .ok b) dm_cL_law_13 49 rfl
theorem dL_law_1481 : decode cL_law 1481 = .ok (.aload_n 3, 1) := dq0 (p := fun a b => decode cL_law a = .ok b) dm_cL_law_13 50 rfl
theorem dL_law_1482 : decode cL_law 1482 = .ok (.iconst 0, 1) := dq0 (p := fun a b => decode cL_law a = .ok b) dm_cL_law_13 51 rfl
theorem dL_law_1483 : decode cL_law 1483 = .ok (.laload, 1) := dq0 (p := fun a b => decode cL_law a = .ok b) dm_cL_law_13 52 rfl
theorem dL_law_1484 : decode cL_law 1484 = .ok (.iload 6, 2) := dq0 (p := fun a b => decode cL_law a = .ok b) dm_cL_law_13 53 rfl
theorem dL_law_1486 : decode cL_law 1486 = .ok (.i2l, 1) := dq0 (p := fun a b => decode cL_law a = .ok b) dm_cL_law_13 54 rfl
theorem dL_law_1487 : decode cL_law 1487 = .ok (.lcmp, 1) := dq0 (p := fun a b => decode cL_law a = .ok b) dm_cL_law_13 55 rfl
theorem dL_law_1488 : decode cL_law 1488 = .ok (.ifCond .eq 5, 3) := dq0 (p := fun a b => decode cL_law a = .ok b) dm_cL_law_13 56 rfl
theorem dL_law_1491 : decode cL_law 1491 = .ok (.iconst 0, 1) := dq0 (p := fun a b => decode cL_law a = .ok b) dm_cL_law_13 57 rfl
theorem dL_law_1492 : decode cL_law 1492 = .ok (.ireturn, 1) := dq0 (p := fun a b => decode cL_law a = .ok b) dm_cL_law_13 58 rfl
theorem dL_law_1493 : decode cL_law 1493 = .ok (.goto 392, 3) := dq0 (p := fun a b => decode cL_law a = .ok b) dm_cL_law_13 59 rfl
theorem dm_cL_law_14 : ([(1496, .aload_n 1, 1), (1497, .aload_n 0, 1), (1498, .iload 4, 2), (1500, .iconst 1, 1), (1501, .iadd, 1), (1502, .iaload, 1), (1503, .aload_n 3, 1), (1504, .invokestatic 186, 3), (1507, .istore 5, 2), (1509, .aload_n 2, 1), (1510, .aload_n 0, 1), (1511, .iload 4, 2), (1513, .iconst 1, 1), (1514, .iadd, 1), (1515, .iaload, 1), (1516, .invokevirtual 188, 3), (1519, .istore 6, 2), (1521, .aload_n 2, 1), (1522, .invokevirtual 94, 3), (1525, .iload 5, 2), (1527, .if_icmp .eq 5, 3), (1530, .iconst 0, 1), (1531, .ireturn, 1), (1532, .iload 5, 2), (1534, .ifCond .ne 15, 3), (1537, .aload_n 3, 1), (1538, .iconst 0, 1), (1539, .laload, 1), (1540, .iload 6, 2), (1542, .i2l, 1), (1543, .lcmp, 1), (1544, .ifCond .eq 5, 3), (1547, .iconst 0, 1), (1548, .ireturn, 1), (1549, .goto 336, 3), (1552, .aload_n 1, 1), (1553, .aload_n 3, 1), (1554, .invokestatic 189, 3), (1557, .istore 5, 2), (1559, .aload_n 2, 1), (1560, .invokevirtual 192, 3), (1563, .istore 6, 2), (1565, .aload_n 2, 1), (1566, .invokevirtual 94, 3), (1569, .iload 5, 2), (1571, .if_icmp .eq 5, 3), (1574, .iconst 0, 1), (1575, .ireturn, 1), (1576, .iload 5, 2), (1578, .ifCond .ne 15, 3), (1581, .aload_n 3, 1), (1582, .iconst 0, 1), (1583, .laload, 1), (1584, .iload 6, 2), (1586, .i2l, 1), (1587, .lcmp, 1), (1588, .ifCond .eq 5, 3), (1591, .iconst 0, 1), (1592, .ireturn, 1), (1593, .goto 292, 3)] : List (Nat × Instr × Nat)).all (fun t => decide (decode cL_law t.1 = .ok t.2)) = true := by decide +kernel
theorem dL_law_1496 : decode cL_law 1496 = .ok (.aload_n 1, 1) := dq0 (p := fun a b => decode cL_law a = .ok b) dm_cL_law_14 0 rfl
theorem dL_law_1497 : decode cL_law 1497 = .ok (.aload_n 0, 1) := dq0 (p := fun a b => decode cL_law a = .ok b) dm_cL_law_14 1 rfl
theorem dL_law_1498 : decode cL_law 1498 = .ok (.iload 4, 2) := dq0 (p := fun a b => decode cL_law a = .ok b) dm_cL_law_14 2 rfl
theorem dL_law_1500 : decode cL_law 1500 = .ok (.iconst 1, 1) := dq0 (p := fun a b => decode cL_law a = .ok b) dm_cL_law_14 3 rfl
theorem dL_law_1501 : decode cL_law 1501 = .ok (.iadd, 1) := dq0 (p := fun a b => decode cL_law a = .ok b) dm_cL_law_14 4 rfl
theorem dL_law_1502 : decode cL_law 1502 = .ok (.iaload, 1) := dq0 (p := fun a b => decode cL_law a = .ok b) dm_cL_law_14 5 rfl
theorem dL_law_1503 : decode cL_law 1503 = .ok (.aload_n 3, 1) := dq0 (p := fun a b => decode cL_law a = .ok b) dm_cL_law_14 6 rfl
theorem dL_law_1504 : decode cL_law 1504 = .ok (.invokestatic 186, 3) := dq0 (p := fun a b => decode cL_law a = .ok b) dm_cL_law_14 7 rfl
theorem dL_law_1507 : decode cL_law 1507 = .ok (.istore 5, 2) := dq0 (p := fun a b => decode cL_law a = .ok b) dm_cL_law_14 8 rfl
theorem dL_law_1509 : decode cL_law 1509 = .ok (.aload_n 2, 1) := dq0 (p := fun a b => decode cL_law a = .ok b) dm_cL_law_14 9 rfl
theorem dL_law_1510 : decode cL_law 1510 = .ok (.aload_n 0, 1) := dq0 (p := fun a b => decode cL_law a = .ok b) dm_cL_law_14 10 rfl
theorem dL_law_1511 : decode cL_law 1511 = .ok (.iload 4, 2) := dq0 (p := fun a b => decode cL_law a = .ok b) dm_cL_law_14 11 rfl
theorem dL_law_1513 : decode cL_law 1513 = .ok (.iconst 1, 1) := dq0 (p := fun a b => decode cL_law a = .ok b) dm_cL_law_14 12 rfl
theorem dL_law_1514 : decode cL_law 1514 = .ok (.iadd, 1) := dq0 (p := fun a b => decode cL_law a = .ok b) dm_cL_law_14 13 rfl
theorem dL_law_1515 : decode cL_law 1515 = .ok (.iaload, 1) := dq0 (p := fun a b => decode cL_law a = .ok b) dm_cL_law_14 14 rfl
theorem dL_law_1516 : decode cL_law 1516 = .ok (.invokevirtual 188, 3) := dq0 (p := fun a b => decode cL_law a = .ok b) dm_cL_law_14 15 rfl
theorem dL_law_1519 : decode cL_law 1519 = .ok (.istore 6, 2) := dq0 (p := fun a b => decode cL_law a = .ok b) dm_cL_law_14 16 rfl
theorem dL_law_1521 : decode cL_law 1521 = .ok (.aload_n 2, 1) := dq0 (p := fun a b => decode cL_law a = .ok b) dm_cL_law_14 17 rfl
theorem dL_law_1522 : decode cL_law 1522 = .ok (.invokevirtual 94, 3) := dq0 (p := fun a b => decode cL_law a = .ok b) dm_cL_law_14 18 rfl
theorem dL_law_1525 : decode cL_law 1525 = .ok (.iload 5, 2) := dq0 (p := fun a b => decode cL_law a = .ok b) dm_cL_law_14 19 rfl
theorem dL_law_1527 : decode cL_law 1527 = .ok (.if_icmp .eq 5, 3) := dq0 (p := fun a b => decode cL_law a = .ok b) dm_cL_law_14 20 rfl
theorem dL_law_1530 : decode cL_law 1530 = .ok (.iconst 0, 1) := dq0 (p := fun a b => decode cL_law a = .ok b) dm_cL_law_14 21 rfl
theorem dL_law_1531 : decode cL_law 1531 = .ok (.ireturn, 1) := dq0 (p := fun a b => decode cL_law a = .ok b) dm_cL_law_14 22 rfl
theorem dL_law_1532 : decode cL_law 1532 = .ok (.iload 5, 2) := dq0 (p := fun a b => decode cL_law a = .ok b) dm_cL_law_14 23 rfl
theorem dL_law_1534 : decode cL_law 1534 = .ok (.ifCond .ne 15, 3) := dq0 (p := fun a b => decode cL_law a = .ok b) dm_cL_law_14 24 rfl
theorem dL_law_1537 : decode cL_law 1537 = .ok (.aload_n 3, 1) := dq0 (p := fun a b => decode cL_law a = .ok b) dm_cL_law_14 25 rfl
theorem dL_law_1538 : decode cL_law 1538 = .ok (.iconst 0, 1) := dq0 (p := fun a b => decode cL_law a = .ok b) dm_cL_law_14 26 rfl
theorem dL_law_1539 : decode cL_law 1539 = .ok (.laload, 1) := dq0 (p := fun a b => decode cL_law a = .ok b) dm_cL_law_14 27 rfl
theorem dL_law_1540 : decode cL_law 1540 = .ok (.iload 6, 2) := dq0 (p := fun a b => decode cL_law a = .ok b) dm_cL_law_14 28 rfl
theorem dL_law_1542 : decode cL_law 1542 = .ok (.i2l, 1) := dq0 (p := fun a b => decode cL_law a = .ok b) dm_cL_law_14 29 rfl
theorem dL_law_1543 : decode cL_law 1543 = .ok (.lcmp, 1) := dq0 (p := fun a b => decode cL_law a = .ok b) dm_cL_law_14 30 rfl
theorem dL_law_1544 : decode cL_law 1544 = .ok (.ifCond .eq 5, 3) := dq0 (p := fun a b => decode cL_law a = .ok b) dm_cL_law_14 31 rfl
theorem dL_law_1547 : decode cL_law 1547 = .ok (.iconst 0, 1) := dq0 (p := fun a b => decode cL_law a = .ok b) dm_cL_law_14 32 rfl
theorem dL_law_1548 : decode cL_law 1548 = .ok (.ireturn, 1) := dq0 (p := fun a b => decode cL_law a = .ok b) dm_cL_law_14 33 rfl
theorem dL_law_1549 : decode cL_law 1549 = .ok (.goto 336, 3) := dq0 (p := fun a b => decode cL_law a = .ok b) dm_cL_law_14 34 rfl
theorem dL_law_1552 : decode cL_law 1552 = .ok (.aload_n 1, 1) := dq0 (p := fun a b => decode cL_law a = .ok b) dm_cL_law_14 35 rfl
theorem dL_law_1553 : decode cL_law 1553 = .ok (.aload_n 3, 1) := dq0 (p := fun a b => decode cL_law a = .ok b) dm_cL_law_14 36 rfl
theorem dL_law_1554 : decode cL_law 1554 = .ok (.invokestatic 189, 3) := dq0 (p := fun a b => decode cL_law a = .ok b) dm_cL_law_14 37 rfl
theorem dL_law_1557 : decode cL_law 1557 = .ok (.istore 5, 2) := dq0 (p := fun a b => decode cL_law a = .ok b) dm_cL_law_14 38 rfl
theorem dL_law_1559 : decode cL_law 1559 = .ok (.aload_n 2, 1) := dq0 (p := fun a b => decode cL_law a = .ok b) dm_cL_law_14 39 rfl
theorem dL_law_1560 : decode cL_law 1560 = .ok (.invokevirtual 192, 3) := dq0 (p := fun a b => decode cL_law a = .ok b) dm_cL_law_14 40 rfl
theorem dL_law_1563 : decode cL_law 1563 = .ok (.istore 6, 2) := dq0 (p := fun a b => decode cL_law a = .ok b) dm_cL_law_14 41 rfl
theorem dL_law_1565 : decode cL_law 1565 = .ok (.aload_n 2, 1) := dq0 (p := fun a b => decode cL_law a = .ok b) dm_cL_law_14 42 rfl
theorem dL_law_1566 : decode cL_law 1566 = .ok (.invokevirtual 94, 3) := dq0 (p := fun a b => decode cL_law a = .ok b) dm_cL_law_14 43 rfl
theorem dL_law_1569 : decode cL_law 1569 = .ok (.iload 5, 2) := dq0 (p := fun a b => decode cL_law a = .ok b) dm_cL_law_14 44 rfl
theorem dL_law_1571 : decode cL_law 1571 = .ok (.if_icmp .eq 5, 3) := dq0 (p := fun a b => decode cL_law a = .ok b) dm_cL_law_14 45 rfl
theorem dL_law_1574 : decode cL_law 1574 = .ok (.iconst 0, 1) := dq0 (p := fun a b => decode cL_law a = .ok b) dm_cL_law_14 46 rfl
theorem dL_law_1575 : decode cL_law 1575 = .ok (.ireturn, 1) := dq0 (p := fun a b => decode cL_law a = .ok b) dm_cL_law_14 47 rfl
theorem dL_law_1576 : decode cL_law 1576 = .ok (.iload 5, 2) := dq0 (p := fun a b => decode cL_law a = .ok b) dm_cL_law_14 48 rfl
theorem dL_law_1578 : decode cL_law 1578 = .ok (.ifCond .ne 15, 3) := dq0 (p := fun a b => decode cL_law a = .ok b) dm_cL_law_14 49 rfl
theorem dL_law_1581 : decode cL_law 1581 = .ok (.aload_n 3, 1) := dq0 (p := fun a b => decode cL_law a = .ok b) dm_cL_law_14 50 rfl
theorem dL_law_1582 : decode cL_law 1582 = .ok (.iconst 0, 1) := dq0 (p := fun a b => decode cL_law a = .ok b) dm_cL_law_14 51 rfl
theorem dL_law_1583 : decode cL_law 1583 = .ok (.laload, 1) := dq0 (p := fun a b => decode cL_law a = .ok b) dm_cL_law_14 52 rfl
theorem dL_law_1584 : decode cL_law 1584 = .ok (.iload 6, 2) := dq0 (p := fun a b => decode cL_law a = .ok b) dm_cL_law_14 53 rfl
theorem dL_law_1586 : decode cL_law 1586 = .ok (.i2l, 1) := dq0 (p := fun a b => decode cL_law a = .ok b) dm_cL_law_14 54 rfl
theorem dL_law_1587 : decode cL_law 1587 = .ok (.lcmp, 1) := dq0 (p := fun a b => decode cL_law a = .ok b) dm_cL_law_14 55 rfl
theorem dL_law_1588 : decode cL_law 1588 = .ok (.ifCond .eq 5, 3) := dq0 (p := fun a b => decode cL_law a = .ok b) dm_cL_law_14 56 rfl
theorem dL_law_1591 : decode cL_law 1591 = .ok (.iconst 0, 1) := dq0 (p := fun a b => decode cL_law a = .ok b) dm_cL_law_14 57 rfl
theorem dL_law_1592 : decode cL_law 1592 = .ok (.ireturn, 1) := dq0 (p := fun a b => decode cL_law a = .ok b) dm_cL_law_14 58 rfl
theorem dL_law_1593 : decode cL_law 1593 = .ok (.goto 292, 3) := dq0 (p := fun a b => decode cL_law a = .ok b) dm_cL_law_14 59 rfl
theorem dm_cL_law_15 : ([(1596, .aload_n 1, 1), (1597, .invokevirtual 193, 3), (1600, .aload_n 2, 1), (1601, .invokevirtual 196, 3), (1604, .if_icmp .eq 281, 3), (1607, .iconst 0, 1), (1608, .ireturn, 1), (1609, .aload_n 1, 1), (1610, .invokevirtual 197, 3), (1613, .aload_n 2, 1), (1614, .invokevirtual 200, 3), (1617, .if_icmp .eq 268, 3), (1620, .iconst 0, 1), (1621, .ireturn, 1), (1622, .aload_n 1, 1), (1623, .invokevirtual 201, 3), (1626, .aload_n 2, 1), (1627, .invokevirtual 204, 3), (1630, .if_icmp .eq 255, 3), (1633, .iconst 0, 1), (1634, .ireturn, 1), (1635, .aload_n 1, 1), (1636, .invokevirtual 205, 3), (1639, .aload_n 2, 1), (1640, .invokevirtual 208, 3), (1643, .if_icmp .eq 242, 3), (1646, .iconst 0, 1), (1647, .ireturn, 1), (1648, .aload_n 1, 1), (1649, .aload_n 0, 1), (1650, .iload 4, 2), (1652, .iconst 1, 1), (1653, .iadd, 1), (1654, .iaload, 1), (1655, .aload_n 0, 1), (1656, .iload 4, 2), (1658, .iconst 2, 1), (1659, .iadd, 1), (1660, .iaload, 1), (1661, .ifCond .eq 7, 3), (1664, .iconst 1, 1), (1665, .goto 4, 3), (1668, .iconst 0, 1), (1669, .aload_n 3, 1), (1670, .invokestatic 209, 3), (1673, .istore 5, 2), (1675, .aload_n 2, 1), (1676, .aload_n 0, 1), (1677, .iload 4, 2), (1679, .iconst 1, 1), (1680, .iadd, 1), (1681, .iaload, 1), (1682, .aload_n 0, 1), (1683, .iload 4, 2), (1685, .iconst 2, 1), (1686, .iadd, 1), (1687, .iaload, 1), (1688, .ifCond .eq 7, 3), (1691, .iconst 1, 1), (1692, .goto 4, 3)] : List (Nat × Instr × Nat)).all (fun t => decide (decode cL_law t.1 = .ok t.2)) = true := by decide +kernel
theorem dL_law_1596 : decode cL_law 1596 = .ok (.aload_n 1, 1) := dq0 (p := fun a b => decode cL_law a = .ok b) dm_cL_law_15 0 rfl
theorem dL_law_1597 : decode cL_law 1597 = .ok (.invokevirtual 193, 3) := dq0 (p := fun a b => decode cL_law a = .ok b) dm_cL_law_15 1 rfl
theorem dL_law_1600 : decode cL_law 1600 = .ok (.aload_n 2, 1) := dq0 (p := fun a b => decode cL_law a = .ok b) dm_cL_law_15 2 rfl
theorem dL_law_1601 : decode cL_law 1601 = .ok (.invokevirtual 196, 3) := dq0 (p := fun a b => decode cL_law a = .ok b) dm_cL_law_15 3 rfl
theorem dL_law_1604 : decode cL_law 1604 = .ok (.if_icmp .eq 281, 3) := dq0 (p := fun a b => decode cL_law a = .ok b) dm_cL_law_15 4 rfl
theorem dL_law_1607 : decode cL_law 1607 = .ok (.iconst 0, 1) := dq0 (p := fun a b => decode cL_law a = .ok b) dm_cL_law_15 5 rfl
theorem dL_law_1608 : decode cL_law 1608 = .ok (.ireturn, 1) := dq0 (p := fun a b => decode cL_law a = .ok b) dm_cL_law_15 6 rfl
theorem dL_law_1609 : decode cL_law 1609 = .ok (.aload_n 1, 1) := dq0 (p := fun a b => decode cL_law a = .ok b) dm_cL_law_15 7 rfl
theorem dL_law_1610 : decode cL_law 1610 = .ok (.invokevirtual 197, 3) := dq0 (p := fun a b => decode cL_law a = .ok b) dm_cL_law_15 8 rfl
theorem dL_law_1613 : decode cL_law 1613 = .ok (.aload_n 2, 1) := dq0 (p := fun a b => decode cL_law a = .ok b) dm_cL_law_15 9 rfl
theorem dL_law_1614 : decode cL_law 1614 = .ok (.invokevirtual 200, 3) := dq0 (p := fun a b => decode cL_law a = .ok b) dm_cL_law_15 10 rfl
theorem dL_law_1617 : decode cL_law 1617 = .ok (.if_icmp .eq 268, 3) := dq0 (p := fun a b => decode cL_law a = .ok b) dm_cL_law_15 11 rfl
theorem dL_law_1620 : decode cL_law 1620 = .ok (.iconst 0, 1) := dq0 (p := fun a b => decode cL_law a = .ok b) dm_cL_law_15 12 rfl
theorem dL_law_1621 : decode cL_law 1621 = .ok (.ireturn, 1) := dq0 (p := fun a b => decode cL_law a = .ok b) dm_cL_law_15 13 rfl
theorem dL_law_1622 : decode cL_law 1622 = .ok (.aload_n 1, 1) := dq0 (p := fun a b => decode cL_law a = .ok b) dm_cL_law_15 14 rfl
theorem dL_law_1623 : decode cL_law 1623 = .ok (.invokevirtual 201, 3) := dq0 (p := fun a b => decode cL_law a = .ok b) dm_cL_law_15 15 rfl
theorem dL_law_1626 : decode cL_law 1626 = .ok (.aload_n 2, 1) := dq0 (p := fun a b => decode cL_law a = .ok b) dm_cL_law_15 16 rfl
theorem dL_law_1627 : decode cL_law 1627 = .ok (.invokevirtual 204, 3) := dq0 (p := fun a b => decode cL_law a = .ok b) dm_cL_law_15 17 rfl
theorem dL_law_1630 : decode cL_law 1630 = .ok (.if_icmp .eq 255, 3) := dq0 (p := fun a b => decode cL_law a = .ok b) dm_cL_law_15 18 rfl
theorem dL_law_1633 : decode cL_law 1633 = .ok (.iconst 0, 1) := dq0 (p := fun a b => decode cL_law a = .ok b) dm_cL_law_15 19 rfl
theorem dL_law_1634 : decode cL_law 1634 = .ok (.ireturn, 1) := dq0 (p := fun a b => decode cL_law a = .ok b) dm_cL_law_15 20 rfl
theorem dL_law_1635 : decode cL_law 1635 = .ok (.aload_n 1, 1) := dq0 (p := fun a b => decode cL_law a = .ok b) dm_cL_law_15 21 rfl
theorem dL_law_1636 : decode cL_law 1636 = .ok (.invokevirtual 205, 3) := dq0 (p := fun a b => decode cL_law a = .ok b) dm_cL_law_15 22 rfl
theorem dL_law_1639 : decode cL_law 1639 = .ok (.aload_n 2, 1) := dq0 (p := fun a b => decode cL_law a = .ok b) dm_cL_law_15 23 rfl
theorem dL_law_1640 : decode cL_law 1640 = .ok (.invokevirtual 208, 3) := dq0 (p := fun a b => decode cL_law a = .ok b) dm_cL_law_15 24 rfl
theorem dL_law_1643 : decode cL_law 1643 = .ok (.if_icmp .eq 242, 3) := dq0 (p := fun a b => decode cL_law a = .ok b) dm_cL_law_15 25 rfl
theorem dL_law_1646 : decode cL_law 1646 = .ok (.iconst 0, 1) := dq0 (p := fun a b => decode cL_law a = .ok b) dm_cL_law_15 26 rfl
theorem dL_law_1647 : decode cL_law 1647 = .ok (.ireturn, 1) := dq0 (p := fun a b => decode cL_law a = .ok b) dm_cL_law_15 27 rfl
theorem dL_law_1648 : decode cL_law 1648 = .ok (.aload_n 1, 1) := dq0 (p := fun a b => decode cL_law a = .ok b) dm_cL_law_15 28 rfl
theorem dL_law_1649 : decode cL_law 1649 = .ok (.aload_n 0, 1) := dq0 (p := fun a b => decode cL_law a = .ok b) dm_cL_law_15 29 rfl
theorem dL_law_1650 : decode cL_law 1650 = .ok (.iload 4, 2) := dq0 (p := fun a b => decode cL_law a = .ok b) dm_cL_law_15 30 rfl
theorem dL_law_1652 : decode cL_law 1652 = .ok (.iconst 1, 1) := dq0 (p := fun a b => decode cL_law a = .ok b) dm_cL_law_15 31 rfl
theorem dL_law_1653 : decode cL_law 1653 = .ok (.iadd, 1) := dq0 (p := fun a b => decode cL_law a = .ok b) dm_cL_law_15 32 rfl
theorem dL_law_1654 : decode cL_law 1654 = .ok (.iaload, 1) := dq0 (p := fun a b => decode cL_law a = .ok b) dm_cL_law_15 33 rfl
theorem dL_law_1655 : decode cL_law 1655 = .ok (.aload_n 0, 1) := dq0 (p := fun a b => decode cL_law a = .ok b) dm_cL_law_15 34 rfl
theorem dL_law_1656 : decode cL_law 1656 = .ok (.iload 4, 2) := dq0 (p := fun a b => decode cL_law a = .ok b) dm_cL_law_15 35 rfl
theorem dL_law_1658 : decode cL_law 1658 = .ok (.iconst 2, 1) := dq0 (p := fun a b => decode cL_law a = .ok b) dm_cL_law_15 36 rfl
theorem dL_law_1659 : decode cL_law 1659 = .ok (.iadd, 1) := dq0 (p := fun a b => decode cL_law a = .ok b) dm_cL_law_15 37 rfl
theorem dL_law_1660 : decode cL_law 1660 = .ok (.iaload, 1) := dq0 (p := fun a b => decode cL_law a = .ok b) dm_cL_law_15 38 rfl
theorem dL_law_1661 : decode cL_law 1661 = .ok (.ifCond .eq 7, 3) := dq0 (p := fun a b => decode cL_law a = .ok b) dm_cL_law_15 39 rfl
theorem dL_law_1664 : decode cL_law 1664 = .ok (.iconst 1, 1) := dq0 (p := fun a b => decode cL_law a = .ok b) dm_cL_law_15 40 rfl
theorem dL_law_1665 : decode cL_law 1665 = .ok (.goto 4, 3) := dq0 (p := fun a b => decode cL_law a = .ok b) dm_cL_law_15 41 rfl
theorem dL_law_1668 : decode cL_law 1668 = .ok (.iconst 0, 1) := dq0 (p := fun a b => decode cL_law a = .ok b) dm_cL_law_15 42 rfl
theorem dL_law_1669 : decode cL_law 1669 = .ok (.aload_n 3, 1) := dq0 (p := fun a b => decode cL_law a = .ok b) dm_cL_law_15 43 rfl
theorem dL_law_1670 : decode cL_law 1670 = .ok (.invokestatic 209, 3) := dq0 (p := fun a b => decode cL_law a = .ok b) dm_cL_law_15 44 rfl
theorem dL_law_1673 : decode cL_law 1673 = .ok (.istore 5, 2) := dq0 (p := fun a b => decode cL_law a = .ok b) dm_cL_law_15 45 rfl
theorem dL_law_1675 : decode cL_law 1675 = .ok (.aload_n 2, 1) := dq0 (p := fun a b => decode cL_law a = .ok b) dm_cL_law_15 46 rfl
theorem dL_law_1676 : decode cL_law 1676 = .ok (.aload_n 0, 1) := dq0 (p := fun a b => decode cL_law a = .ok b) dm_cL_law_15 47 rfl
theorem dL_law_1677 : decode cL_law 1677 = .ok (.iload 4, 2) := dq0 (p := fun a b => decode cL_law a = .ok b) dm_cL_law_15 48 rfl
theorem dL_law_1679 : decode cL_law 1679 = .ok (.iconst 1, 1) := dq0 (p := fun a b => decode cL_law a = .ok b) dm_cL_law_15 49 rfl
theorem dL_law_1680 : decode cL_law 1680 = .ok (.iadd, 1) := dq0 (p := fun a b => decode cL_law a = .ok b) dm_cL_law_15 50 rfl
theorem dL_law_1681 : decode cL_law 1681 = .ok (.iaload, 1) := dq0 (p := fun a b => decode cL_law a = .ok b) dm_cL_law_15 51 rfl
theorem dL_law_1682 : decode cL_law 1682 = .ok (.aload_n 0, 1) := dq0 (p := fun a b => decode cL_law a = .ok b) dm_cL_law_15 52 rfl
theorem dL_law_1683 : decode cL_law 1683 = .ok (.iload 4, 2) := dq0 (p := fun a b => decode cL_law a = .ok b) dm_cL_law_15 53 rfl
theorem dL_law_1685 : decode cL_law 1685 = .ok (.iconst 2, 1) := dq0 (p := fun a b => decode cL_law a = .ok b) dm_cL_law_15 54 rfl
theorem dL_law_1686 : decode cL_law 1686 = .ok (.iadd, 1) := dq0 (p := fun a b => decode cL_law a = .ok b) dm_cL_law_15 55 rfl
theorem dL_law_1687 : decode cL_law 1687 = .ok (.iaload, 1) := dq0 (p := fun a b => decode cL_law a = .ok b) dm_cL_law_15 56 rfl
theorem dL_law_1688 : decode cL_law 1688 = .ok (.ifCond .eq 7, 3) := dq0 (p := fun a b => decode cL_law a = .ok b) dm_cL_law_15 57 rfl
theorem dL_law_1691 : decode cL_law 1691 = .ok (.iconst 1, 1) := dq0 (p := fun a b => decode cL_law a = .ok b) dm_cL_law_15 58 rfl
theorem dL_law_1692 : decode cL_law 1692 = .ok (.goto 4, 3) := dq0 (p := fun a b => decode cL_law a = .ok b) dm_cL_law_15 59 rfl
theorem dm_cL_law_16 : ([(1695, .iconst 0, 1), (1696, .invokevirtual 211, 3), (1699, .istore 6, 2), (1701, .aload_n 2, 1), (1702, .invokevirtual 94, 3), (1705, .iload 5, 2), (1707, .if_icmp .eq 5, 3), (1710, .iconst 0, 1), (1711, .ireturn, 1), (1712, .iload 5, 2), (1714, .ifCond .ne 15, 3), (1717, .aload_n 3, 1), (1718, .iconst 0, 1), (1719, .laload, 1), (1720, .iload 6, 2), (1722, .i2l, 1), (1723, .lcmp, 1), (1724, .ifCond .eq 5, 3), (1727, .iconst 0, 1), (1728, .ireturn, 1), (1729, .goto 156, 3), (1732, .aload_n 1, 1), (1733, .aload_n 0, 1), (1734, .iload 4, 2), (1736, .iconst 1, 1), (1737, .iadd, 1), (1738, .iaload, 1), (1739, .ifCond .eq 7, 3), (1742, .iconst 1, 1), (1743, .goto 4, 3), (1746, .iconst 0, 1), (1747, .invokevirtual 212, 3), (1750, .f2d, 1), (1751, .dstore 5, 2), (1753, .aload_n 2, 1), (1754, .aload_n 0, 1), (1755, .iload 4, 2), (1757, .iconst 1, 1), (1758, .iadd, 1), (1759, .iaload, 1), (1760, .ifCond .eq 7, 3), (1763, .iconst 1, 1), (1764, .goto 4, 3), (1767, .iconst 0, 1), (1768, .invokevirtual 216, 3), (1771, .f2d, 1), (1772, .dstore 7, 2), (1774, .dload 5, 2), (1776, .dload 7, 2), (1778, .dcmp .l, 1), (1779, .ifCond .eq 21, 3), (1782, .dload 5, 2), (1784, .dload 5, 2), (1786, .dcmp .l, 1), (1787, .ifCond .eq 11, 3), (1790, .dload 7, 2), (1792, .dload 7, 2), (1794, .dcmp .l, 1), (1795, .ifCond .ne 5, 3), (1798, .iconst 0, 1)] : List (Nat × Instr × Nat)).all (fun t => decide (decode cL_law t.1 = .ok t.2)) = true := by decide +kernel
theorem dL_law_1695 : decode cL_law 1695 = .ok (.iconst 0, 1) := dq0 (p := fun a b => decode cL_law a = .ok b) dm_cL_law_16 0 rfl
theorem dL_law_1696 : decode cL_law 1696 = .ok (.invokevirtual 211, 3) := dq0 (p := fun a b => decode cL_law a = .ok b) dm_cL_law_16 1 rfl
theorem dL_law_1699 : decode cL_law 1699 = .ok (.istore 6, 2) := dq0 (p := fun a b => decode cL_law a = .ok b) dm_cL_law_16 2 rfl
theorem dL_law_1701 : decode cL_law 1701 = .ok (.aload_n 2, 1) := dq0 (p := fun a b => decode cL_law a = .ok b) dm_cL_law_16 3 rfl
theorem dL_law_1702 : decode cL_law 1702 = .ok (.invokevirtual 94, 3) := dq0 (p := fun a b => decode cL_law a = .ok b) dm_cL_law_16 4 rfl
theorem dL_law_1705 : decode cL_law 1705 = .ok (.iload 5, 2) := dq0 (p := fun a b => decode cL_law a = .ok b) dm_cL_law_16 5 rfl
theorem dL_law_1707 : decode cL_law 1707 = .ok (.if_icmp .eq 5, 3) := dq0 (p := fun a b => decode cL_law a = .ok b) dm_cL_law_16 6 rfl
theorem dL_law_1710 : decode cL_law 1710 = .ok (.iconst 0, 1) := dq0 (p := fun a b => decode cL_law a = .ok b) dm_cL_law_16 7 rfl
theorem dL_law_1711 : decode cL_law 1711 = .ok (.ireturn, 1) := dq0 (p := fun a b => decode cL_law a = .ok b) dm_cL_law_16 8 rfl
theorem dL_law_1712 : decode cL_law 1712 = .ok (.iload 5, 2) := dq0 (p := fun a b => decode cL_law a = .ok b) dm_cL_law_16 9 rfl
theorem dL_law_1714 : decode cL_law 1714 = .ok (.ifCond .ne 15, 3) := dq0 (p := fun a b => decode cL_law a = .ok b) dm_cL_law_16 10 rfl
theorem dL_law_1717 : decode cL_law 1717 = .ok (.aload_n 3, 1) := dq0 (p := fun a b => decode cL_law a = .ok b) dm_cL_law_16 11 rfl
theorem dL_law_1718 : decode cL_law 1718 = .ok (.iconst 0, 1) := dq0 (p := fun a b => decode cL_law a = .ok b) dm_cL_law_16 12 rfl
theorem dL_law_1719 : decode cL_law 1719 = .ok (.laload, 1) := dq0 (p := fun a b => decode cL_law a = .ok b) dm_cL_law_16 13 rfl
theorem dL_law_1720 : decode cL_law 1720 = .ok (.iload 6, 2) := dq0 (p := fun a b => decode cL_law a = .ok b) dm_cL_law_16 14 rfl
theorem dL_law_1722 : decode cL_law 1722 = .ok (.i2l, 1) := dq0 (p := fun a b => decode cL_law a = .ok b) dm_cL_law_16 15 rfl
theorem dL_law_1723 : decode cL_law 1723 = .ok (.lcmp, 1) := dq0 (p := fun a b => decode cL_law a = .ok b) dm_cL_law_16 16 rfl
theorem dL_law_1724 : decode cL_law 1724 = .ok (.ifCond .eq 5, 3) := dq0 (p := fun a b => decode cL_law a = .ok b) dm_cL_law_16 17 rfl
theorem dL_law_1727 : decode cL_law 1727 = .ok (.iconst 0, 1) := dq0 (p := fun a b => decode cL_law a = .ok b) dm_cL_law_16 18 rfl
theorem dL_law_1728 : decode cL_law 1728 = .ok (.ireturn, 1) := dq0 (p := fun a b => decode cL_law a = .ok b) dm_cL_law_16 19 rfl
theorem dL_law_1729 : decode cL_law 1729 = .ok (.goto 156, 3) := dq0 (p := fun a b => decode cL_law a = .ok b) dm_cL_law_16 20 rfl
theorem dL_law_1732 : decode cL_law 1732 = .ok (.aload_n 1, 1) := dq0 (p := fun a b => decode cL_law a = .ok b) dm_cL_law_16 21 rfl
theorem dL_law_1733 : decode cL_law 1733 = .ok (.aload_n 0, 1) := dq0 (p := fun a b => decode cL_law a = .ok b) dm_cL_law_16 22 rfl
theorem dL_law_1734 : decode cL_law 1734 = .ok (.iload 4, 2) := dq0 (p := fun a b => decode cL_law a = .ok b) dm_cL_law_16 23 rfl
theorem dL_law_1736 : decode cL_law 1736 = .ok (.iconst 1, 1) := dq0 (p := fun a b => decode cL_law a = .ok b) dm_cL_law_16 24 rfl
theorem dL_law_1737 : decode cL_law 1737 = .ok (.iadd, 1) := dq0 (p := fun a b => decode cL_law a = .ok b) dm_cL_law_16 25 rfl
theorem dL_law_1738 : decode cL_law 1738 = .ok (.iaload, 1) := dq0 (p := fun a b => decode cL_law a = .ok b) dm_cL_law_16 26 rfl
theorem dL_law_1739 : decode cL_law 1739 = .ok (.ifCond .eq 7, 3) := dq0 (p := fun a b => decode cL_law a = .ok b) dm_cL_law_16 27 rfl
theorem dL_law_1742 : decode cL_law 1742 = .ok (.iconst 1, 1) := dq0 (p := fun a b => decode cL_law a = .ok b) dm_cL_law_16 28 rfl
theorem dL_law_1743 : decode cL_law 1743 = .ok (.goto 4, 3) := dq0 (p := fun a b => decode cL_law a = .ok b) dm_cL_law_16 29 rfl
theorem dL_law_1746 : decode cL_law 1746 = .ok (.iconst 0, 1) := dq0 (p := fun a b => decode cL_law a = .ok b) dm_cL_law_16 30 rfl
theorem dL_law_1747 : decode cL_law 1747 = .ok (.invokevirtual 212, 3) := dq0 (p := fun a b => decode cL_law a = .ok b) dm_cL_law_16 31 rfl
theorem dL_law_1750 : decode cL_law 1750 = .ok (.f2d, 1) := dq0 (p := fun a b => decode cL_law a = .ok b) dm_cL_law_16 32 rfl
theorem dL_law_1751 : decode cL_law 1751 = .ok (.dstore 5, 2) := dq0 (p := fun a b => decode cL_law a = .ok b) dm_cL_law_16 33 rfl
theorem dL_law_1753 : decode cL_law 1753 = .ok (.aload_n 2, 1) := dq0 (p := fun a b => decode cL_law a = .ok b) dm_cL_law_16 34 rfl
theorem dL_law_1754 : decode cL_law 1754 = .ok (.aload_n 0, 1) := dq0 (p := fun a b => decode cL_law a = .ok b) dm_cL_law_16 35 rfl
theorem dL_law_1755 : decode cL_law 1755 = .ok (.iload 4, 2) := dq0 (p := fun a b => decode cL_law a = .ok b) dm_cL_law_16 36 rfl
theorem dL_law_1757 : decode cL_law 1757 = .ok (.iconst 1, 1) := dq0 (p := fun a b => decode cL_law a = .ok b) dm_cL_law_16 37 rfl
theorem dL_law_1758 : decode cL_law 1758 = .ok (.iadd, 1) := dq0 (p := fun a b => decode cL_law a = .ok b) dm_cL_law_16 38 rfl
theorem dL_law_1759 : decode cL_law 1759 = .ok (.iaload, 1) := dq0 (p := fun a b => decode cL_law a = .ok b) dm_cL_law_16 39 rfl
theorem dL_law_1760 : decode cL_law 1760 = .ok (.ifCond .eq 7, 3) := dq0 (p := fun a b => decode cL_law a = .ok b) dm_cL_law_16 40 rfl
theorem dL_law_1763 : decode cL_law 1763 = .ok (.iconst 1, 1) := dq0 (p := fun a b => decode cL_law a = .ok b) dm_cL_law_16 41 rfl
theorem dL_law_1764 : decode cL_law 1764 = .ok (.goto 4, 3) := dq0 (p := fun a b => decode cL_law a = .ok b) dm_cL_law_16 42 rfl
theorem dL_law_1767 : decode cL_law 1767 = .ok (.iconst 0, 1) := dq0 (p := fun a b => decode cL_law a = .ok b) dm_cL_law_16 43 rfl
theorem dL_law_1768 : decode cL_law 1768 = .ok (.invokevirtual 216, 3) := dq0 (p := fun a b => decode cL_law a = .ok b) dm_cL_law_16 44 rfl
theorem dL_law_1771 : decode cL_law 1771 = .ok (.f2d, 1) := dq0 (p := fun a b => decode cL_law a = .ok b) dm_cL_law_16 45 rfl
theorem dL_law_1772 : decode cL_law 1772 = .ok (.dstore 7, 2) := dq0 (p := fun a b => decode cL_law a = .ok b) dm_cL_law_16 46 rfl
theorem dL_law_1774 : decode cL_law 1774 = .ok (.dload 5, 2) := dq0 (p := fun a b => decode cL_law a = .ok b) dm_cL_law_16 47 rfl
theorem dL_law_1776 : decode cL_law 1776 = .ok (.dload 7, 2) := dq0 (p := fun a b => decode cL_law a = .ok b) dm_cL_law_16 48 rfl
theorem dL_law_1778 : decode cL_law 1778 = .ok (.dcmp .l, 1) := dq0 (p := fun a b => decode cL_law a = .ok b) dm_cL_law_16 49 rfl
theorem dL_law_1779 : decode cL_law 1779 = .ok (.ifCond .eq 21, 3) := dq0 (p := fun a b => decode cL_law a = .ok b) dm_cL_law_16 50 rfl
theorem dL_law_1782 : decode cL_law 1782 = .ok (.dload 5, 2) := dq0 (p := fun a b => decode cL_law a = .ok b) dm_cL_law_16 51 rfl
theorem dL_law_1784 : decode cL_law 1784 = .ok (.dload 5, 2) := dq0 (p := fun a b => decode cL_law a = .ok b) dm_cL_law_16 52 rfl
theorem dL_law_1786 : decode cL_law 1786 = .ok (.dcmp .l, 1) := dq0 (p := fun a b => decode cL_law a = .ok b) dm_cL_law_16 53 rfl
theorem dL_law_1787 : decode cL_law 1787 = .ok (.ifCond .eq 11, 3) := dq0 (p := fun a b => decode cL_law a = .ok b) dm_cL_law_16 54 rfl
theorem dL_law_1790 : decode cL_law 1790 = .ok (.dload 7, 2) := dq0 (p := fun a b => decode cL_law a = .ok b) dm_cL_law_16 55 rfl
theorem dL_law_1792 : decode cL_law 1792 = .ok (.dload 7, 2) := dq0 (p := fun a b => decode cL_law a = .ok b) dm_cL_law_16 56 rfl
theorem dL_law_1794 : decode cL_law 1794 = .ok (.dcmp .l, 1) := dq0 (p := fun a b => decode cL_law a = .ok b) dm_cL_law_16 57 rfl
theorem dL_law_1795 : decode cL_law 1795 = .ok (.ifCond .ne 5, 3) := dq0 (p := fun a b => decode cL_law a = .ok b) dm_cL_law_16 58 rfl
theorem dL_law_1798 : decode cL_law 1798 = .ok (.iconst 0, 1) := dq0 (p := fun a b => decode cL_law a = .ok b) dm_cL_law_16 59 rfl
theorem dm_cL_law_17 : ([(1799, .ireturn, 1), (1800, .goto 85, 3), (1803, .aload_n 1, 1), (1804, .aload_n 0, 1), (1805, .iload 4, 2), (1807, .iconst 1, 1), (1808, .iadd, 1), (1809, .iaload, 1), (1810, .ifCond .eq 7, 3), (1813, .iconst 1, 1), (1814, .goto 4, 3), (1817, .iconst 0, 1), (1818, .invokevirtual 217, 3), (1821, .aload_n 2, 1), (1822, .aload_n 0, 1), (1823, .iload 4, 2), (1825, .iconst 1, 1), (1826, .iadd, 1), (1827, .iaload, 1), (1828, .ifCond .eq 7, 3), (1831, .iconst 1, 1), (1832, .goto 4, 3), (1835, .iconst 0, 1), (1836, .invokevirtual 220, 3), (1839, .if_icmp .eq 46, 3), (1842, .iconst 0, 1), (1843, .ireturn, 1), (1844, .aload_n 1, 1), (1845, .invokevirtual 221, 3), (1848, .dstore 5, 2), (1850, .aload_n 2, 1), (1851, .invokevirtual 225, 3), (1854, .dstore 7, 2), (1856, .dload 5, 2), (1858, .dload 7, 2), (1860, .dcmp .l, 1), (1861, .ifCond .eq 21, 3), (1864, .dload 5, 2), (1866, .dload 5, 2), (1868, .dcmp .l, 1), (1869, .ifCond .eq 11, 3), (1872, .dload 7, 2), (1874, .dload 7, 2), (1876, .dcmp .l, 1), (1877, .ifCond .ne 5, 3), (1880, .iconst 0, 1), (1881, .ireturn, 1), (1882, .goto 3, 3), (1885, .iinc 4 4, 3), (1888, .goto (-1865), 3), (1891, .iconst 1, 1), (1892, .ireturn, 1)] : List (Nat × Instr × Nat)).all (fun t => decide (decode cL_law t.1 = .ok t.2)) = true := by decide +kernel
theorem dL_law_1799 : decode cL_law 1799 = .ok (.ireturn, 1) := dq0 (p := fun a b => decode cL_law a = .ok b) dm_cL_law_17 0 rfl
theorem dL_law_1800 : decode cL_law 1800 = .ok (.goto 85, 3) := dq0 (p := fun a b => decode cL_law a = .ok b) dm_cL_law_17 1 rfl
theorem dL_law_1803 : decode cL_law 1803 = .ok (.aload_n 1, 1) := dq0 (p := fun a b => decode cL_law a = .ok b) dm_cL_law_17 2 rfl
theorem dL_law_1804 : decode cL_law 1804 = .ok (.aload_n 0, 1) := dq0 (p := fun a b => decode cL_law a = .ok b) dm_cL_law_17 3 rfl
theorem dL_law_1805 : decode cL_law 1805 = .ok (.iload 4, 2) := dq0 (p := fun a b => decode cL_law a = .ok b) dm_cL_law_17 4 rfl
theorem dL_law_1807 : decode cL_law 1807 = .ok (.iconst 1, 1) := dq0 (p := fun a b => decode cL_law a = .ok b) dm_cL_law_17 5 rfl
theorem dL_law_1808 : decode cL_law 1808 = .ok (.iadd, 1) := dq0 (p := fun a b => decode cL_law a = .ok b) dm_cL_law_17 6 rfl
theorem dL_law_1809 : decode cL_law 1809 = .ok (.iaload, 1) := dq0 (p := fun a b => decode cL_law a = .ok b) dm_cL_law_17 7 rfl
theorem dL_law_1810 : decode cL_law 1810 = .ok (.ifCond .eq 7, 3) := dq0 (p := fun a b => decode cL_law a = .ok b) dm_cL_law_17 8 rfl
theorem dL_law_1813 : decode cL_law 1813 = .ok (.iconst 1, 1) := dq0 (p := fun a b => decode cL_law a = .ok b) dm_cL_law_17 9 rfl
theorem dL_law_1814 : decode cL_law 1814 = .ok (.goto 4, 3) := dq0 (p := fun a b => decode cL_law a = .ok b) dm_cL_law_17 10 rfl
theorem dL_law_1817 : decode cL_law 1817 = .ok (.iconst 0, 1) := dq0 (p := fun a b => decode cL_law a = .ok b) dm_cL_law_17 11 rfl
theorem dL_law_1818 : decode cL_law 1818 = .ok (.invokevirtual 217, 3) := dq0 (p := fun a b => decode cL_law a = .ok b) dm_cL_law_17 12 rfl
theorem dL_law_1821 : decode cL_law 1821 = .ok (.aload_n 2, 1) := dq0 (p := fun a b => decode cL_law a = .ok b) dm_cL_law_17 13 rfl
theorem dL_law_1822 : decode cL_law 1822 = .ok (.aload_n 0, 1) := dq0 (p := fun a b => decode cL_law a = .ok b) dm_cL_law_17 14 rfl
theorem dL_law_1823 : decode cL_law 1823 = .ok (.iload 4, 2) := dq0 (p := fun a b => decode cL_law a = .ok b) dm_cL_law_17 15 rfl
theorem dL_law_1825 : decode cL_law 1825 = .ok (.iconst 1, 1) := dq0 (p := fun a b => decode cL_law a = .ok b) dm_cL_law_17 16 rfl
theorem dL_law_1826 : decode cL_law 1826 = .ok (.iadd, 1) := dq0 (p := fun a b => decode cL_law a = .ok b) dm_cL_law_17 17 rfl
theorem dL_law_1827 : decode cL_law 1827 = .ok (.iaload, 1) := dq0 (p := fun a b => decode cL_law a = .ok b) dm_cL_law_17 18 rfl
theorem dL_law_1828 : decode cL_law 1828 = .ok (.ifCond .eq 7, 3) := dq0 (p := fun a b => decode cL_law a = .ok b) dm_cL_law_17 19 rfl
theorem dL_law_1831 : decode cL_law 1831 = .ok (.iconst 1, 1) := dq0 (p := fun a b => decode cL_law a = .ok b) dm_cL_law_17 20 rfl
theorem dL_law_1832 : decode cL_law 1832 = .ok (.goto 4, 3) := dq0 (p := fun a b => decode cL_law a = .ok b) dm_cL_law_17 21 rfl
theorem dL_law_1835 : decode cL_law 1835 = .ok (.iconst 0, 1) := dq0 (p := fun a b => decode cL_law a = .ok b) dm_cL_law_17 22 rfl
theorem dL_law_1836 : decode cL_law 1836 = .ok (.invokevirtual 220, 3) := dq0 (p := fun a b => decode cL_law a = .ok b) dm_cL_law_17 23 rfl
theorem dL_law_1839 : decode cL_law 1839 = .ok (.if_icmp .eq 46, 3) := dq0 (p := fun a b => decode cL_law a = .ok b) dm_cL_law_17 24 rfl
theorem dL_law_1842 : decode cL_law 1842 = .ok (.iconst 0, 1) := dq0 (p := fun a b => decode cL_law a = .ok b) dm_cL_law_17 25 rfl
theorem dL_law_1843 : decode cL_law 1843 = .ok (.ireturn, 1) := dq0 (p := fun a b => decode cL_law a = .ok b) dm_cL_law_17 26 rfl
theorem dL_law_1844 : decode cL_law 1844 = .ok (.aload_n 1, 1) := dq0 (p := fun a b => decode cL_law a = .ok b) dm_cL_law_17 27 rfl
theorem dL_law_1845 : decode cL_law 1845 = .ok (.invokevirtual 221, 3) := dq0 (p := fun a b => decode cL_law a = .ok b) dm_cL_law_17 28 rfl
theorem dL_law_1848 : decode cL_law 1848 = .ok (.dstore 5, 2) := dq0 (p := fun a b => decode cL_law a = .ok b) dm_cL_law_17 29 rfl
theorem dL_law_1850 : decode cL_law 1850 = .ok (.aload_n 2, 1) := dq0 (p := fun a b => decode cL_law a = .ok b) dm_cL_law_17 30 rfl
theorem dL_law_1851 : decode cL_law 1851 = .ok (.invokevirtual 225, 3) := dq0 (p := fun a b => decode cL_law a = .ok b) dm_cL_law_17 31 rfl
theorem dL_law_1854 : decode cL_law 1854 = .ok (.dstore 7, 2) := dq0 (p := fun a b => decode cL_law a = .ok b) dm_cL_law_17 32 rfl
theorem dL_law_1856 : decode cL_law 1856 = .ok (.dload 5, 2) := dq0 (p := fun a b => decode cL_law a = .ok b) dm_cL_law_17 33 rfl
theorem dL_law_1858 : decode cL_law 1858 = .ok (.dload 7, 2) := dq0 (p := fun a b => decode cL_law a = .ok b) dm_cL_law_17 34 rfl
theorem dL_law_1860 : decode cL_law 1860 = .ok (.dcmp .l, 1) := dq0 (p := fun a b => decode cL_law a = .ok b) dm_cL_law_17 35 rfl
theorem dL_law_1861 : decode cL_law 1861 = .ok (.ifCond .eq 21, 3) := dq0 (p := fun a b => decode cL_law a = .ok b) dm_cL_law_17 36 rfl
theorem dL_law_1864 : decode cL_law 1864 = .ok (.dload 5, 2) := dq0 (p := fun a b => decode cL_law a = .ok b) dm_cL_law_17 37 rfl
theorem dL_law_1866 : decode cL_law 1866 = .ok (.dload 5, 2) := dq0 (p := fun a b => decode cL_law a = .ok b) dm_cL_law_17 38 rfl
theorem dL_law_1868 : decode cL_law 1868 = .ok (.dcmp .l, 1) := dq0 (p := fun a b => decode cL_law a = .ok b) dm_cL_law_17 39 rfl
theorem dL_law_1869 : decode cL_law 1869 = .ok (.ifCond .eq 11, 3) := dq0 (p := fun a b => decode cL_law a = .ok b) dm_cL_law_17 40 rfl
theorem dL_law_1872 : decode cL_law 1872 = .ok (.dload 7, 2) := dq0 (p := fun a b => decode cL_law a = .ok b) dm_cL_law_17 41 rfl
theorem dL_law_1874 : decode cL_law 1874 = .ok (.dload 7, 2) := dq0 (p := fun a b => decode cL_law a = .ok b) dm_cL_law_17 42 rfl
theorem dL_law_1876 : decode cL_law 1876 = .ok (.dcmp .l, 1) := dq0 (p := fun a b => decode cL_law a = .ok b) dm_cL_law_17 43 rfl
theorem dL_law_1877 : decode cL_law 1877 = .ok (.ifCond .ne 5, 3) := dq0 (p := fun a b => decode cL_law a = .ok b) dm_cL_law_17 44 rfl
theorem dL_law_1880 : decode cL_law 1880 = .ok (.iconst 0, 1) := dq0 (p := fun a b => decode cL_law a = .ok b) dm_cL_law_17 45 rfl
theorem dL_law_1881 : decode cL_law 1881 = .ok (.ireturn, 1) := dq0 (p := fun a b => decode cL_law a = .ok b) dm_cL_law_17 46 rfl
theorem dL_law_1882 : decode cL_law 1882 = .ok (.goto 3, 3) := dq0 (p := fun a b => decode cL_law a = .ok b) dm_cL_law_17 47 rfl
theorem dL_law_1885 : decode cL_law 1885 = .ok (.iinc 4 4, 3) := dq0 (p := fun a b => decode cL_law a = .ok b) dm_cL_law_17 48 rfl
theorem dL_law_1888 : decode cL_law 1888 = .ok (.goto (-1865), 3) := dq0 (p := fun a b => decode cL_law a = .ok b) dm_cL_law_17 49 rfl
theorem dL_law_1891 : decode cL_law 1891 = .ok (.iconst 1, 1) := dq0 (p := fun a b => decode cL_law a = .ok b) dm_cL_law_17 50 rfl
theorem dL_law_1892 : decode cL_law 1892 = .ok (.ireturn, 1) := dq0 (p := fun a b => decode cL_law a = .ok b) dm_cL_law_17 51 rfl
