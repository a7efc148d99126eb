theorem dm_cX3_init_0 : ([(0, .aload_n 0, 1), (1, .invokespecial 1, 3), (4, .aload_n 0, 1), (5, .new 7, 3), (8, .dup, 1), (9, .aconst_null, 1), (10, .invokespecial 9, 3), (13, .putfield 12, 3), (16, .aload_n 0, 1), (17, .new 18, 3), (20, .dup, 1), (21, .invokespecial 20, 3), (24, .putfield 21, 3), (27, .aload_n 0, 1), (28, .aload_n 0, 1), (29, .getfield 12, 3), (32, .putfield 25, 3), (35, .aload_n 0, 1), (36, .getfield 12, 3), (39, .getfield 28, 3), (42, .astore_n 1, 1), (43, .iconst 0, 1), (44, .istore_n 2, 1), (45, .iload_n 2, 1), (46, .getstatic 31, 3), (49, .arraylength, 1), (50, .if_icmp .ge 56, 3), (53, .aload_n 1, 1), (54, .iload_n 2, 1), (55, .getstatic 31, 3), (58, .iload_n 2, 1), (59, .iaload, 1), (60, .iconst 1, 1), (61, .invokevirtual 35, 3), (64, .aload_n 1, 1), (65, .bipush 8, 2), (67, .iload_n 2, 1), (68, .iadd, 1), (69, .bipush 6, 2), (71, .iconst 1, 1), (72, .invokevirtual 35, 3), (75, .aload_n 1, 1), (76, .bipush 48, 2), (78, .iload_n 2, 1), (79, .iadd, 1), (80, .bipush 6, 2), (82, .iconst 0, 1), (83, .invokevirtual 35, 3), (86, .aload_n 1, 1), (87, .bipush 56, 2), (89, .iload_n 2, 1), (90, .iadd, 1), (91, .getstatic 31, 3), (94, .iload_n 2, 1), (95, .iaload, 1), (96, .iconst 0, 1), (97, .invokevirtual 35, 3), (100, .iinc 2 1, 3), (103, .goto (-58), 3), (106, .aload_n 1, 1)] : List (Nat × Instr × Nat)).all (fun t => decide (decode cX3_init t.1 = .ok t.2)) = true := by decide +kernel
theorem dX3_init_0 : decode cX3_init 0 = .ok (.aload_n 0, 1) := dq0 (p := fun a b => decode cX3_init a = .ok b) dm_cX3_init_0 0 rfl
theorem dX3_init_1 : decode cX3_init 1 = .ok (.invokespecial 1, 3) := dq0 (p := fun a b => decode cX3_init a = .ok b) dm_cX3_init_0 1 rfl
theorem dX3_init_4 : decode cX3_init 4 = .ok (.aload_n 0, 1) := dq0 (p := fun a b => decode cX3_init a = .ok b) dm_cX3_init_0 2 rfl
theorem dX3_init_5 : decode cX3_init 5 = .ok (.new 7, 3) := dq0 (p := fun a b => decode cX3_init a = .ok b) dm_cX3_init_0 3 rfl
theorem dX3_init_8 : decode cX3_init 8 = .ok (.dup, 1) := dq0 (p := fun a b => decode cX3_init a = .ok b) dm_cX3_init_0 4 rfl
theorem dX3_init_9 : decode cX3_init 9 = .ok (.aconst_null, 1) := dq0 (p := fun a b => decode cX3_init a = .ok b) dm_cX3_init_0 5 rfl
theorem dX3_init_10 : decode cX3_init 10 = .ok (.invokespecial 9, 3) := dq0 (p := fun a b => decode cX3_init a = .ok b) dm_cX3_init_0 6 rfl
theorem dX3_init_13 : decode cX3_init 13 = .ok (.putfield 12, 3) := dq0 (p := fun a b => decode cX3_init a = .ok b) dm_cX3_init_0 7 rfl
theorem dX3_init_16 : decode cX3_init 16 = .ok (.aload_n 0, 1) := dq0 (p := fun a b => decode cX3_init a = .ok b) dm_cX3_init_0 8 rfl
theorem dX3_init_17 : decode cX3_init 17 = .ok (.new 18, 3) := dq0 (p := fun a b => decode cX3_init a = .ok b) dm_cX3_init_0 9 rfl
theorem dX3_init_20 : decode cX3_init 20 = .ok (.dup, 1) := dq0 (p := fun a b => decode cX3_init a = .ok b) dm_cX3_init_0 10 rfl
theorem dX3_init_21 : decode cX3_init 21 = .ok (.invokespecial 20, 3) := dq0 (p := fun a b => decode cX3_init a = .ok b) dm_cX3_init_0 11 rfl
theorem dX3_init_24 : decode cX3_init 24 = .ok (.putfield 21, 3) := dq0 (p := fun a b => decode cX3_init a = .ok b) dm_cX3_init_0 12 rfl
theorem dX3_init_27 : decode cX3_init 27 = .ok (.aload_n 0, 1) := dq0 (p := fun a b => decode cX3_init a = .ok b) dm_cX3_init_0 13 rfl
theorem dX3_init_28 : decode cX3_init 28 = .ok (.aload_n 0, 1) := dq0 (p := fun a b => decode cX3_init a = .ok b) dm_cX3_init_0 14 rfl
theorem dX3_init_29 : decode cX3_init 29 = .ok (.getfield 12, 3) := dq0 (p := fun a b => decode cX3_init a = .ok b) dm_cX3_init_0 15 rfl
theorem dX3_init_32 : decode cX3_init 32 = .ok (.putfield 25, 3) := dq0 (p := fun a b => decode cX3_init a = .ok b) dm_cX3_init_0 16 rfl
theorem dX3_init_35 : decode cX3_init 35 = .ok (.aload_n 0, 1) := dq0 (p := fun a b => decode cX3_init a = .ok b) dm_cX3_init_0 17 rfl
theorem dX3_init_36 : decode cX3_init 36 = .ok (.getfield 12, 3) := dq0 (p := fun a b => decode cX3_init a = .ok b) dm_cX3_init_0 18 rfl
theorem dX3_init_39 : decode cX3_init 39 = .ok (.getfield 28, 3) := dq0 (p := fun a b => decode cX3_init a = .ok b) dm_cX3_init_0 19 rfl
theorem dX3_init_42 : decode cX3_init 42 = .ok (.astore_n 1, 1) := dq0 (p := fun a b => decode cX3_init a = .ok b) dm_cX3_init_0 20 rfl
theorem dX3_init_43 : decode cX3_init 43 = .ok (.iconst 0, 1) := dq0 (p := fun a b => decode cX3_init a = .ok b) dm_cX3_init_0 21 rfl
theorem dX3_init_44 : decode cX3_init 44 = .ok (.istore_n 2, 1) := dq0 (p := fun a b => decode cX3_init a = .ok b) dm_cX3_init_0 22 rfl
theorem dX3_init_45 : decode cX3_init 45 = .ok (.iload_n 2, 1) := dq0 (p := fun a b => decode cX3_init a = .ok b) dm_cX3_init_0 23 rfl
theorem dX3_init_46 : decode cX3_init 46 = .ok (.getstatic 31, 3) := dq0 (p := fun a b => decode cX3_init a = .ok b) dm_cX3_init_0 24 rfl
theorem dX3_init_49 : decode cX3_init 49 = .ok (.arraylength, 1) := dq0 (p := fun a b => decode cX3_init a = .ok b) dm_cX3_init_0 25 rfl
theorem dX3_init_50 : decode cX3_init 50 = .ok (.if_icmp .ge 56, 3) := dq0 (p := fun a b => decode cX3_init a = .ok b) dm_cX3_init_0 26 rfl
theorem dX3_init_53 : decode cX3_init 53 = .ok (.aload_n 1, 1) := dq0 (p := fun a b => decode cX3_init a = .ok b) dm_cX3_init_0 27 rfl
theorem dX3_init_54 : decode cX3_init 54 = .ok (.iload_n 2, 1) := dq0 (p := fun a b => decode cX3_init a = .ok b) dm_cX3_init_0 28 rfl
theorem dX3_init_55 : decode cX3_init 55 = .ok (.getstatic 31, 3) := dq0 (p := fun a b => decode cX3_init a = .ok b) dm_cX3_init_0 29 rfl
theorem dX3_init_58 : decode cX3_init 58 = .ok (.iload_n 2, 1) := dq0 (p := fun a b => decode cX3_init a = .ok b) dm_cX3_init_0 30 rfl
theorem dX3_init_59 : decode cX3_init 59 = .ok (.iaload, 1) := dq0 (p := fun a b => decode cX3_init a = .ok b) dm_cX3_init_0 31 rfl
theorem dX3_init_60 : decode cX3_init 60 = .ok (.iconst 1, 1) := dq0 (p := fun a b => decode cX3_init a = .ok b) dm_cX3_init_0 32 rfl
theorem dX3_init_61 : decode cX3_init 61 = .ok (.invokevirtual 35, 3) := dq0 (p := fun a b => decode cX3_init a = .ok b) dm_cX3_init_0 33 rfl
theorem dX3_init_64 : decode cX3_init 64 = .ok (.aload_n 1, 1) := dq0 (p := fun a b => decode cX3_init a = .ok b) dm_cX3_init_0 34 rfl
theorem dX3_init_65 : decode cX3_init 65 = .ok (.bipush 8, 2) := dq0 (p := fun a b => decode cX3_init a = .ok b) dm_cX3_init_0 35 rfl
theorem dX3_init_67 : decode cX3_init 67 = .ok (.iload_n 2, 1) := dq0 (p := fun a b => decode cX3_init a = .ok b) dm_cX3_init_0 36 rfl
theorem dX3_init_68 : decode cX3_init 68 = .ok (.iadd, 1) := dq0 (p := fun a b => decode cX3_init a = .ok b) dm_cX3_init_0 37 rfl
theorem dX3_init_69 : decode cX3_init 69 = .ok (.bipush 6, 2) := dq0 (p := fun a b => decode cX3_init a = .ok b) dm_cX3_init_0 38 rfl
theorem dX3_init_71 : decode cX3_init 71 = .ok (.iconst 1, 1) := dq0 (p := fun a b => decode cX3_init a = .ok b) dm_cX3_init_0 39 rfl
theorem dX3_init_72 : decode cX3_init 72 = .ok (.invokevirtual 35, 3) := dq0 (p := fun a b => decode cX3_init a = .ok b) dm_cX3_init_0 40 rfl
theorem dX3_init_75 : decode cX3_init 75 = .ok (.aload_n 1, 1) := dq0 (p := fun a b => decode cX3_init a = .ok b) dm_cX3_init_0 41 rfl
theorem dX3_init_76 : decode cX3_init 76 = .ok (.bipush 48, 2) := dq0 (p := fun a b => decode cX3_init a = .ok b) dm_cX3_init_0 42 rfl
theorem dX3_init_78 : decode cX3_init 78 = .ok (.iload_n 2, 1) := dq0 (p := fun a b => decode cX3_init a = .ok b) dm_cX3_init_0 43 rfl
theorem dX3_init_79 : decode cX3_init 79 = .ok (.iadd, 1) := dq0 (p := fun a b => decode cX3_init a = .ok b) dm_cX3_init_0 44 rfl
theorem dX3_init_80 : decode cX3_init 80 = .ok (.bipush 6, 2) := dq0 (p := fun a b => decode cX3_init a = .ok b) dm_cX3_init_0 45 rfl
theorem dX3_init_82 : decode cX3_init 82 = .ok (.iconst 0, 1) := dq0 (p := fun a b => decode cX3_init a = .ok b) dm_cX3_init_0 46 rfl
theorem dX3_init_83 : decode cX3_init 83 = .ok (.invokevirtual 35, 3) := dq0 (p := fun a b => decode cX3_init a = .ok b) dm_cX3_init_0 47 rfl
theorem dX3_init_86 : decode cX3_init 86 = .ok (.aload_n 1, 1) := dq0 (p := fun a b => decode cX3_init a = .ok b) dm_cX3_init_0 48 rfl
theorem dX3_init_87 : decode cX3_init 87 = .ok (.bipush 56, 2) := dq0 (p := fun a b => decode cX3_init a = .ok b) dm_cX3_init_0 49 rfl
theorem dX3_init_89 : decode cX3_init 89 = .ok (.iload_n 2, 1) := dq0 (p := fun a b => decode cX3_init a = .ok b) dm_cX3_init_0 50 rfl
theorem dX3_init_90 : decode cX3_init 90 = .ok (.iadd, 1) := dq0 (p := fun a b => decode cX3_init a = .ok b) dm_cX3_init_0 51 rfl
theorem dX3_init_91 : decode cX3_init 91 = .ok (.getstatic 31, 3) := dq0 (p := fun a b => decode cX3_init a = .ok b) dm_cX3_init_0 52 rfl
theorem dX3_init_94 : decode cX3_init 94 = .ok (.iload_n 2, 1) := dq0 (p := fun a b => decode cX3_init a = .ok b) dm_cX3_init_0 53 rfl
theorem dX3_init_95 : decode cX3_init 95 = .ok (.iaload, 1) := dq0 (p := fun a b => decode cX3_init a = .ok b) dm_cX3_init_0 54 rfl
theorem dX3_init_96 : decode cX3_init 96 = .ok (.iconst 0, 1) := dq0 (p := fun a b => decode cX3_init a = .ok b) dm_cX3_init_0 55 rfl
theorem dX3_init_97 : decode cX3_init 97 = .ok (.invokevirtual 35, 3) := dq0 (p := fun a b => decode cX3_init a = .ok b) dm_cX3_init_0 56 rfl
theorem dX3_init_100 : decode cX3_init 100 = .ok (.iinc 2 1, 3) := dq0 (p := fun a b => decode cX3_init a = .ok b) dm_cX3_init_0 57 rfl
theorem dX3_init_103 : decode cX3_init 103 = .ok (.goto (-58), 3) := dq0 (p := fun a b => decode cX3_init a = .ok b) dm_cX3_init_0 58 rfl
theorem dX3_init_106 : decode cX3_init 106 = .ok (.aload_n 1, 1) := dq0 (p := fun a b => decode cX3_init a = .ok b) dm_cX3_init_0 59 rfl
theorem dm_cX3_init_1 : ([(107, .iconst 1, 1), (108, .bipush 6, 2), (110, .invokevirtual 39, 3), (113, .aload_n 1, 1), (114, .bipush 57, 2), (116, .bipush 62, 2), (118, .invokevirtual 39, 3), (121, .return_, 1)] : List (Nat × Instr × Nat)).all (fun t => decide (decode cX3_init t.1 = .ok t.2)) = true := by decide +kernel
theorem dX3_init_107 : decode cX3_init 107 = .ok (.iconst 1, 1) := dq0 (p := fun a b => decode cX3_init a = .ok b) dm_cX3_init_1 0 rfl
theorem dX3_init_108 : decode cX3_init 108 = .ok (.bipush 6, 2) := dq0 (p := fun a b => decode cX3_init a = .ok b) dm_cX3_init_1 1 rfl
theorem dX3_init_110 : decode cX3_init 110 = .ok (.invokevirtual 39, 3) := dq0 (p := fun a b => decode cX3_init a = .ok b) dm_cX3_init_1 2 rfl
theorem dX3_init_113 : decode cX3_init 113 = .ok (.aload_n 1, 1) := dq0 (p := fun a b => decode cX3_init a = .ok b) dm_cX3_init_1 3 rfl
theorem dX3_init_114 : decode cX3_init 114 = .ok (.bipush 57, 2) := dq0 (p := fun a b => decode cX3_init a = .ok b) dm_cX3_init_1 4 rfl
theorem dX3_init_116 : decode cX3_init 116 = .ok (.bipush 62, 2) := dq0 (p := fun a b => decode cX3_init a = .ok b) dm_cX3_init_1 5 rfl
theorem dX3_init_118 : decode cX3_init 118 = .ok (.invokevirtual 39, 3) := dq0 (p := fun a b => decode cX3_init a = .ok b) dm_cX3_init_1 6 rfl
theorem dX3_init_121 : decode cX3_init 121 = .ok (.return_, 1) := dq0 (p := fun a b => decode cX3_init a = .ok b) dm_cX3_init_1 7 rfl
theorem dm_cX3_beginSetup_0 : ([(0, .aload_n 0, 1), (1, .iconst 1, 1), (2, .putfield 43, 3), (5, .aload_n 0, 1), (6, .aload_n 0, 1), (7, .getfield 12, 3), (10, .putfield 25, 3), (13, .aload_n 0, 1), (14, .getfield 12, 3), (17, .iconst 0, 1), (18, .putfield 47, 3), (21, .aload_n 0, 1), (22, .getfield 12, 3), (25, .getfield 28, 3), (28, .invokevirtual 51, 3), (31, .return_, 1)] : List (Nat × Instr × Nat)).all (fun t => decide (decode cX3_beginSetup t.1 = .ok t.2)) = true := by decide +kernel
theorem dX3_beginSetup_0 : decode cX3_beginSetup 0 = .ok (.aload_n 0, 1) := dq0 (p := fun a b => decode cX3_beginSetup a = .ok b) dm_cX3_beginSetup_0 0 rfl
theorem dX3_beginSetup_1 : decode cX3_beginSetup 1 = .ok (.iconst 1, 1) := dq0 (p := fun a b => decode cX3_beginSetup a = .ok b) dm_cX3_beginSetup_0 1 rfl
theorem dX3_beginSetup_2 : decode cX3_beginSetup 2 = .ok (.putfield 43, 3) := dq0 (p := fun a b => decode cX3_beginSetup a = .ok b) dm_cX3_beginSetup_0 2 rfl
theorem dX3_beginSetup_5 : decode cX3_beginSetup 5 = .ok (.aload_n 0, 1) := dq0 (p := fun a b => decode cX3_beginSetup a = .ok b) dm_cX3_beginSetup_0 3 rfl
theorem dX3_beginSetup_6 : decode cX3_beginSetup 6 = .ok (.aload_n 0, 1) := dq0 (p := fun a b => decode cX3_beginSetup a = .ok b) dm_cX3_beginSetup_0 4 rfl
theorem dX3_beginSetup_7 : decode cX3_beginSetup 7 = .ok (.getfield 12, 3) := dq0 (p := fun a b => decode cX3_beginSetup a = .ok b) dm_cX3_beginSetup_0 5 rfl
theorem dX3_beginSetup_10 : decode cX3_beginSetup 10 = .ok (.putfield 25, 3) := dq0 (p := fun a b => decode cX3_beginSetup a = .ok b) dm_cX3_beginSetup_0 6 rfl
theorem dX3_beginSetup_13 : decode cX3_beginSetup 13 = .ok (.aload_n 0, 1) := dq0 (p := fun a b => decode cX3_beginSetup a = .ok b) dm_cX3_beginSetup_0 7 rfl
theorem dX3_beginSetup_14 : decode cX3_beginSetup 14 = .ok (.getfield 12, 3) := dq0 (p := fun a b => decode cX3_beginSetup a = .ok b) dm_cX3_beginSetup_0 8 rfl
theorem dX3_beginSetup_17 : decode cX3_beginSetup 17 = .ok (.iconst 0, 1) := dq0 (p := fun a b => decode cX3_beginSetup a = .ok b) dm_cX3_beginSetup_0 9 rfl
theorem dX3_beginSetup_18 : decode cX3_beginSetup 18 = .ok (.putfield 47, 3) := dq0 (p := fun a b => decode cX3_beginSetup a = .ok b) dm_cX3_beginSetup_0 10 rfl
theorem dX3_beginSetup_21 : decode cX3_beginSetup 21 = .ok (.aload_n 0, 1) := dq0 (p := fun a b => decode cX3_beginSetup a = .ok b) dm_cX3_beginSetup_0 11 rfl
theorem dX3_beginSetup_22 : decode cX3_beginSetup 22 = .ok (.getfield 12, 3) := dq0 (p := fun a b => decode cX3_beginSetup a = .ok b) dm_cX3_beginSetup_0 12 rfl
theorem dX3_beginSetup_25 : decode cX3_beginSetup 25 = .ok (.getfield 28, 3) := dq0 (p := fun a b => decode cX3_beginSetup a = .ok b) dm_cX3_beginSetup_0 13 rfl
theorem dX3_beginSetup_28 : decode cX3_beginSetup 28 = .ok (.invokevirtual 51, 3) := dq0 (p := fun a b => decode cX3_beginSetup a = .ok b) dm_cX3_beginSetup_0 14 rfl
theorem dX3_beginSetup_31 : decode cX3_beginSetup 31 = .ok (.return_, 1) := dq0 (p := fun a b => decode cX3_beginSetup a = .ok b) dm_cX3_beginSetup_0 15 rfl
theorem dm_cX3_place_0 : ([(0, .iload_n 1, 1), (1, .invokestatic 54, 3), (4, .iload_n 2, 1), (5, .invokestatic 58, 3), (8, .aload_n 0, 1), (9, .getfield 25, 3), (12, .getfield 28, 3), (15, .astore 4, 2), (17, .aload_n 0, 1), (18, .getfield 43, 3), (21, .ifCond .eq 14, 3), (24, .aload 4, 2), (26, .iload_n 1, 1), (27, .iload_n 2, 1), (28, .iload_n 3, 1), (29, .invokevirtual 61, 3), (32, .ifCond .ne 13, 3), (35, .new 65, 3), (38, .dup, 1), (39, .ldc 67, 2), (41, .invokespecial 69, 3), (44, .athrow, 1), (45, .aload 4, 2), (47, .iload_n 1, 1), (48, .iload_n 2, 1), (49, .iload_n 3, 1), (50, .invokevirtual 35, 3), (53, .aload 4, 2), (55, .invokevirtual 72, 3), (58, .invokestatic 76, 3), (61, .ireturn, 1)] : List (Nat × Instr × Nat)).all (fun t => decide (decode cX3_place t.1 = .ok t.2)) = true := by decide +kernel
theorem dX3_place_0 : decode cX3_place 0 = .ok (.iload_n 1, 1) := dq0 (p := fun a b => decode cX3_place a = .ok b) dm_cX3_place_0 0 rfl
theorem dX3_place_1 : decode cX3_place 1 = .ok (.invokestatic 54, 3) := dq0 (p := fun a b => decode cX3_place a = .ok b) dm_cX3_place_0 1 rfl
theorem dX3_place_4 : decode cX3_place 4 = .ok (.iload_n 2, 1) := dq0 (p := fun a b => decode cX3_place a = .ok b) dm_cX3_place_0 2 rfl
theorem dX3_place_5 : decode cX3_place 5 = .ok (.invokestatic 58, 3) := dq0 (p := fun a b => decode cX3_place a = .ok b) dm_cX3_place_0 3 rfl
theorem dX3_place_8 : decode cX3_place 8 = .ok (.aload_n 0, 1) := dq0 (p := fun a b => decode cX3_place a = .ok b) dm_cX3_place_0 4 rfl
theorem dX3_place_9 : decode cX3_place 9 = .ok (.getfield 25, 3) := dq0 (p := fun a b => decode cX3_place a = .ok b) dm_cX3_place_0 5 rfl
theorem dX3_place_12 : decode cX3_place 12 = .ok (.getfield 28, 3) := dq0 (p := fun a b => decode cX3_place a = .ok b) dm_cX3_place_0 6 rfl
theorem dX3_place_15 : decode cX3_place 15 = .ok (.astore 4, 2) := dq0 (p := fun a b => decode cX3_place a = .ok b) dm_cX3_place_0 7 rfl
theorem dX3_place_17 : decode cX3_place 17 = .ok (.aload_n 0, 1) := dq0 (p := fun a b => decode cX3_place a = .ok b) dm_cX3_place_0 8 rfl
theorem dX3_place_18 : decode cX3_place 18 = .ok (.getfield 43, 3) := dq0 (p := fun a b => decode cX3_place a = .ok b) dm_cX3_place_0 9 rfl
theorem dX3_place_21 : decode cX3_place 21 = .ok (.ifCond .eq 14, 3) := dq0 (p := fun a b => decode cX3_place a = .ok b) dm_cX3_place_0 10 rfl
theorem dX3_place_24 : decode cX3_place 24 = .ok (.aload 4, 2) := dq0 (p := fun a b => decode cX3_place a = .ok b) dm_cX3_place_0 11 rfl
theorem dX3_place_26 : decode cX3_place 26 = .ok (.iload_n 1, 1) := dq0 (p := fun a b => decode cX3_place a = .ok b) dm_cX3_place_0 12 rfl
theorem dX3_place_27 : decode cX3_place 27 = .ok (.iload_n 2, 1) := dq0 (p := fun a b => decode cX3_place a = .ok b) dm_cX3_place_0 13 rfl
theorem dX3_place_28 : decode cX3_place 28 = .ok (.iload_n 3, 1) := dq0 (p := fun a b => decode cX3_place a = .ok b) dm_cX3_place_0 14 rfl
theorem dX3_place_29 : decode cX3_place 29 = .ok (.invokevirtual 61, 3) := dq0 (p := fun a b => decode cX3_place a = .ok b) dm_cX3_place_0 15 rfl
theorem dX3_place_32 : decode cX3_place 32 = .ok (.ifCond .ne 13, 3) := dq0 (p := fun a b => decode cX3_place a = .ok b) dm_cX3_place_0 16 rfl
theorem dX3_place_35 : decode cX3_place 35 = .ok (.new 65, 3) := dq0 (p := fun a b => decode cX3_place a = .ok b) dm_cX3_place_0 17 rfl
theorem dX3_place_38 : decode cX3_place 38 = .ok (.dup, 1) := dq0 (p := fun a b => decode cX3_place a = .ok b) dm_cX3_place_0 18 rfl
theorem dX3_place_39 : decode cX3_place 39 = .ok (.ldc 67, 2) := dq0 (p := fun a b => decode cX3_place a = .ok b) dm_cX3_place_0 19 rfl
theorem dX3_place_41 : decode cX3_place 41 = .ok (.invokespecial 69, 3) := dq0 (p := fun a b => decode cX3_place a = .ok b) dm_cX3_place_0 20 rfl
theorem dX3_place_44 : decode cX3_place 44 = .ok (.athrow, 1) := dq0 (p := fun a b => decode cX3_place a = .ok b) dm_cX3_place_0 21 rfl
theorem dX3_place_45 : decode cX3_place 45 = .ok (.aload 4, 2) := dq0 (p := fun a b => decode cX3_place a = .ok b) dm_cX3_place_0 22 rfl
theorem dX3_place_47 : decode cX3_place 47 = .ok (.iload_n 1, 1) := dq0 (p := fun a b => decode cX3_place a = .ok b) dm_cX3_place_0 23 rfl
theorem dX3_place_48 : decode cX3_place 48 = .ok (.iload_n 2, 1) := dq0 (p := fun a b => decode cX3_place a = .ok b) dm_cX3_place_0 24 rfl
theorem dX3_place_49 : decode cX3_place 49 = .ok (.iload_n 3, 1) := dq0 (p := fun a b => decode cX3_place a = .ok b) dm_cX3_place_0 25 rfl
theorem dX3_place_50 : decode cX3_place 50 = .ok (.invokevirtual 35, 3) := dq0 (p := fun a b => decode cX3_place a = .ok b) dm_cX3_place_0 26 rfl
theorem dX3_place_53 : decode cX3_place 53 = .ok (.aload 4, 2) := dq0 (p := fun a b => decode cX3_place a = .ok b) dm_cX3_place_0 27 rfl
theorem dX3_place_55 : decode cX3_place 55 = .ok (.invokevirtual 72, 3) := dq0 (p := fun a b => decode cX3_place a = .ok b) dm_cX3_place_0 28 rfl
theorem dX3_place_58 : decode cX3_place 58 = .ok (.invokestatic 76, 3) := dq0 (p := fun a b => decode cX3_place a = .ok b) dm_cX3_place_0 29 rfl
theorem dX3_place_61 : decode cX3_place 61 = .ok (.ireturn, 1) := dq0 (p := fun a b => decode cX3_place a = .ok b) dm_cX3_place_0 30 rfl
theorem dm_cX3_remove_0 : ([(0, .iload_n 1, 1), (1, .invokestatic 54, 3), (4, .aload_n 0, 1), (5, .getfield 25, 3), (8, .getfield 28, 3), (11, .astore_n 2, 1), (12, .aload_n 2, 1), (13, .iload_n 1, 1), (14, .invokevirtual 82, 3), (17, .istore_n 3, 1), (18, .aload_n 0, 1), (19, .getfield 43, 3), (22, .ifCond .eq 7, 3), (25, .iload_n 3, 1), (26, .ifCond .ne 13, 3), (29, .new 65, 3), (32, .dup, 1), (33, .ldc 86, 2), (35, .invokespecial 69, 3), (38, .athrow, 1), (39, .aload_n 2, 1), (40, .iload_n 1, 1), (41, .invokevirtual 88, 3), (44, .iload_n 3, 1), (45, .ireturn, 1)] : List (Nat × Instr × Nat)).all (fun t => decide (decode cX3_remove t.1 = .ok t.2)) = true := by decide +kernel
theorem dX3_remove_0 : decode cX3_remove 0 = .ok (.iload_n 1, 1) := dq0 (p := fun a b => decode cX3_remove a = .ok b) dm_cX3_remove_0 0 rfl
theorem dX3_remove_1 : decode cX3_remove 1 = .ok (.invokestatic 54, 3) := dq0 (p := fun a b => decode cX3_remove a = .ok b) dm_cX3_remove_0 1 rfl
theorem dX3_remove_4 : decode cX3_remove 4 = .ok (.aload_n 0, 1) := dq0 (p := fun a b => decode cX3_remove a = .ok b) dm_cX3_remove_0 2 rfl
theorem dX3_remove_5 : decode cX3_remove 5 = .ok (.getfield 25, 3) := dq0 (p := fun a b => decode cX3_remove a = .ok b) dm_cX3_remove_0 3 rfl
theorem dX3_remove_8 : decode cX3_remove 8 = .ok (.getfield 28, 3) := dq0 (p := fun a b => decode cX3_remove a = .ok b) dm_cX3_remove_0 4 rfl
theorem dX3_remove_11 : decode cX3_remove 11 = .ok (.astore_n 2, 1) := dq0 (p := fun a b => decode cX3_remove a = .ok b) dm_cX3_remove_0 5 rfl
theorem dX3_remove_12 : decode cX3_remove 12 = .ok (.aload_n 2, 1) := dq0 (p := fun a b => decode cX3_remove a = .ok b) dm_cX3_remove_0 6 rfl
theorem dX3_remove_13 : decode cX3_remove 13 = .ok (.iload_n 1, 1) := dq0 (p := fun a b => decode cX3_remove a = .ok b) dm_cX3_remove_0 7 rfl
theorem dX3_remove_14 : decode cX3_remove 14 = .ok (.invokevirtual 82, 3) := dq0 (p := fun a b => decode cX3_remove a = .ok b) dm_cX3_remove_0 8 rfl
theorem dX3_remove_17 : decode cX3_remove 17 = .ok (.istore_n 3, 1) := dq0 (p := fun a b => decode cX3_remove a = .ok b) dm_cX3_remove_0 9 rfl
theorem dX3_remove_18 : decode cX3_remove 18 = .ok (.aload_n 0, 1) := dq0 (p := fun a b => decode cX3_remove a = .ok b) dm_cX3_remove_0 10 rfl
theorem dX3_remove_19 : decode cX3_remove 19 = .ok (.getfield 43, 3) := dq0 (p := fun a b => decode cX3_remove a = .ok b) dm_cX3_remove_0 11 rfl
theorem dX3_remove_22 : decode cX3_remove 22 = .ok (.ifCond .eq 7, 3) := dq0 (p := fun a b => decode cX3_remove a = .ok b) dm_cX3_remove_0 12 rfl
theorem dX3_remove_25 : decode cX3_remove 25 = .ok (.iload_n 3, 1) := dq0 (p := fun a b => decode cX3_remove a = .ok b) dm_cX3_remove_0 13 rfl
theorem dX3_remove_26 : decode cX3_remove 26 = .ok (.ifCond .ne 13, 3) := dq0 (p := fun a b => decode cX3_remove a = .ok b) dm_cX3_remove_0 14 rfl
theorem dX3_remove_29 : decode cX3_remove 29 = .ok (.new 65, 3) := dq0 (p := fun a b => decode cX3_remove a = .ok b) dm_cX3_remove_0 15 rfl
theorem dX3_remove_32 : decode cX3_remove 32 = .ok (.dup, 1) := dq0 (p := fun a b => decode cX3_remove a = .ok b) dm_cX3_remove_0 16 rfl
theorem dX3_remove_33 : decode cX3_remove 33 = .ok (.ldc 86, 2) := dq0 (p := fun a b => decode cX3_remove a = .ok b) dm_cX3_remove_0 17 rfl
theorem dX3_remove_35 : decode cX3_remove 35 = .ok (.invokespecial 69, 3) := dq0 (p := fun a b => decode cX3_remove a = .ok b) dm_cX3_remove_0 18 rfl
theorem dX3_remove_38 : decode cX3_remove 38 = .ok (.athrow, 1) := dq0 (p := fun a b => decode cX3_remove a = .ok b) dm_cX3_remove_0 19 rfl
theorem dX3_remove_39 : decode cX3_remove 39 = .ok (.aload_n 2, 1) := dq0 (p := fun a b => decode cX3_remove a = .ok b) dm_cX3_remove_0 20 rfl
theorem dX3_remove_40 : decode cX3_remove 40 = .ok (.iload_n 1, 1) := dq0 (p := fun a b => decode cX3_remove a = .ok b) dm_cX3_remove_0 21 rfl
theorem dX3_remove_41 : decode cX3_remove 41 = .ok (.invokevirtual 88, 3) := dq0 (p := fun a b => decode cX3_remove a = .ok b) dm_cX3_remove_0 22 rfl
theorem dX3_remove_44 : decode cX3_remove 44 = .ok (.iload_n 3, 1) := dq0 (p := fun a b => decode cX3_remove a = .ok b) dm_cX3_remove_0 23 rfl
theorem dX3_remove_45 : decode cX3_remove 45 = .ok (.ireturn, 1) := dq0 (p := fun a b => decode cX3_remove a = .ok b) dm_cX3_remove_0 24 rfl
theorem dm_cX3_endSetup_0 : ([(0, .aload_n 0, 1), (1, .getfield 25, 3), (4, .getfield 28, 3), (7, .astore_n 2, 1), (8, .aload_n 0, 1), (9, .getfield 43, 3), (12, .ifCond .eq 11, 3), (15, .aload_n 2, 1), (16, .iload_n 1, 1), (17, .invokevirtual 91, 3), (20, .ifCond .ne 13, 3), (23, .new 65, 3), (26, .dup, 1), (27, .ldc 95, 2), (29, .invokespecial 69, 3), (32, .athrow, 1), (33, .aload_n 0, 1), (34, .iconst 0, 1), (35, .putfield 43, 3), (38, .aload_n 2, 1), (39, .iload_n 1, 1), (40, .putfield 97, 3), (43, .aload_n 0, 1), (44, .getfield 25, 3), (47, .aload_n 0, 1), (48, .invokevirtual 100, 3), (51, .putfield 47, 3), (54, .aload_n 0, 1), (55, .getfield 25, 3), (58, .getfield 47, 3), (61, .ireturn, 1)] : List (Nat × Instr × Nat)).all (fun t => decide (decode cX3_endSetup t.1 = .ok t.2)) = true := by decide +kernel
theorem dX3_endSetup_0 : decode cX3_endSetup 0 = .ok (.aload_n 0, 1) := dq0 (p := fun a b => decode cX3_endSetup a = .ok b) dm_cX3_endSetup_0 0 rfl
theorem dX3_endSetup_1 : decode cX3_endSetup 1 = .ok (.getfield 25, 3) := dq0 (p := fun a b => decode cX3_endSetup a = .ok b) dm_cX3_endSetup_0 1 rfl
theorem dX3_endSetup_4 : decode cX3_endSetup 4 = .ok (.getfield 28, 3) := dq0 (p := fun a b => decode cX3_endSetup a = .ok b) dm_cX3_endSetup_0 2 rfl
theorem dX3_endSetup_7 : decode cX3_endSetup 7 = .ok (.astore_n 2, 1) := dq0 (p := fun a b => decode cX3_endSetup a = .ok b) dm_cX3_endSetup_0 3 rfl
theorem dX3_endSetup_8 : decode cX3_endSetup 8 = .ok (.aload_n 0, 1) := dq0 (p := fun a b => decode cX3_endSetup a = .ok b) dm_cX3_endSetup_0 4 rfl
theorem dX3_endSetup_9 : decode cX3_endSetup 9 = .ok (.getfield 43, 3) := dq0 (p := fun a b => decode cX3_endSetup a = .ok b) dm_cX3_endSetup_0 5 rfl
theorem dX3_endSetup_12 : decode cX3_endSetup 12 = .ok (.ifCond .eq 11, 3) := dq0 (p := fun a b => decode cX3_endSetup a = .ok b) dm_cX3_endSetup_0 6 rfl
theorem dX3_endSetup_15 : decode cX3_endSetup 15 = .ok (.aload_n 2, 1) := dq0 (p := fun a b => decode cX3_endSetup a = .ok b) dm_cX3_endSetup_0 7 rfl
theorem dX3_endSetup_16 : decode cX3_endSetup 16 = .ok (.iload_n 1, 1) := dq0 (p := fun a b => decode cX3_endSetup a = .ok b) dm_cX3_endSetup_0 8 rfl
theorem dX3_endSetup_17 : decode cX3_endSetup 17 = .ok (.invokevirtual 91, 3) := dq0 (p := fun a b => decode cX3_endSetup a = .ok b) dm_cX3_endSetup_0 9 rfl
theorem dX3_endSetup_20 : decode cX3_endSetup 20 = .ok (.ifCond .ne 13, 3) := dq0 (p := fun a b => decode cX3_endSetup a = .ok b) dm_cX3_endSetup_0 10 rfl
theorem dX3_endSetup_23 : decode cX3_endSetup 23 = .ok (.new 65, 3) := dq0 (p := fun a b => decode cX3_endSetup a = .ok b) dm_cX3_endSetup_0 11 rfl
theorem dX3_endSetup_26 : decode cX3_endSetup 26 = .ok (.dup, 1) := dq0 (p := fun a b => decode cX3_endSetup a = .ok b) dm_cX3_endSetup_0 12 rfl
theorem dX3_endSetup_27 : decode cX3_endSetup 27 = .ok (.ldc 95, 2) := dq0 (p := fun a b => decode cX3_endSetup a = .ok b) dm_cX3_endSetup_0 13 rfl
theorem dX3_endSetup_29 : decode cX3_endSetup 29 = .ok (.invokespecial 69, 3) := dq0 (p := fun a b => decode cX3_endSetup a = .ok b) dm_cX3_endSetup_0 14 rfl
theorem dX3_endSetup_32 : decode cX3_endSetup 32 = .ok (.athrow, 1) := dq0 (p := fun a b => decode cX3_endSetup a = .ok b) dm_cX3_endSetup_0 15 rfl
theorem dX3_endSetup_33 : decode cX3_endSetup 33 = .ok (.aload_n 0, 1) := dq0 (p := fun a b => decode cX3_endSetup a = .ok b) dm_cX3_endSetup_0 16 rfl
theorem dX3_endSetup_34 : decode cX3_endSetup 34 = .ok (.iconst 0, 1) := dq0 (p := fun a b => decode cX3_endSetup a = .ok b) dm_cX3_endSetup_0 17 rfl
theorem dX3_endSetup_35 : decode cX3_endSetup 35 = .ok (.putfield 43, 3) := dq0 (p := fun a b => decode cX3_endSetup a = .ok b) dm_cX3_endSetup_0 18 rfl
theorem dX3_endSetup_38 : decode cX3_endSetup 38 = .ok (.aload_n 2, 1) := dq0 (p := fun a b => decode cX3_endSetup a = .ok b) dm_cX3_endSetup_0 19 rfl
theorem dX3_endSetup_39 : decode cX3_endSetup 39 = .ok (.iload_n 1, 1) := dq0 (p := fun a b => decode cX3_endSetup a = .ok b) dm_cX3_endSetup_0 20 rfl
theorem dX3_endSetup_40 : decode cX3_endSetup 40 = .ok (.putfield 97, 3) := dq0 (p := fun a b => decode cX3_endSetup a = .ok b) dm_cX3_endSetup_0 21 rfl
theorem dX3_endSetup_43 : decode cX3_endSetup 43 = .ok (.aload_n 0, 1) := dq0 (p := fun a b => decode cX3_endSetup a = .ok b) dm_cX3_endSetup_0 22 rfl
theorem dX3_endSetup_44 : decode cX3_endSetup 44 = .ok (.getfield 25, 3) := dq0 (p := fun a b => decode cX3_endSetup a = .ok b) dm_cX3_endSetup_0 23 rfl
theorem dX3_endSetup_47 : decode cX3_endSetup 47 = .ok (.aload_n 0, 1) := dq0 (p := fun a b => decode cX3_endSetup a = .ok b) dm_cX3_endSetup_0 24 rfl
theorem dX3_endSetup_48 : decode cX3_endSetup 48 = .ok (.invokevirtual 100, 3) := dq0 (p := fun a b => decode cX3_endSetup a = .ok b) dm_cX3_endSetup_0 25 rfl
theorem dX3_endSetup_51 : decode cX3_endSetup 51 = .ok (.putfield 47, 3) := dq0 (p := fun a b => decode cX3_endSetup a = .ok b) dm_cX3_endSetup_0 26 rfl
theorem dX3_endSetup_54 : decode cX3_endSetup 54 = .ok (.aload_n 0, 1) := dq0 (p := fun a b => decode cX3_endSetup a = .ok b) dm_cX3_endSetup_0 27 rfl
theorem dX3_endSetup_55 : decode cX3_endSetup 55 = .ok (.getfield 25, 3) := dq0 (p := fun a b => decode cX3_endSetup a = .ok b) dm_cX3_endSetup_0 28 rfl
theorem dX3_endSetup_58 : decode cX3_endSetup 58 = .ok (.getfield 47, 3) := dq0 (p := fun a b => decode cX3_endSetup a = .ok b) dm_cX3_endSetup_0 29 rfl
theorem dX3_endSetup_61 : decode cX3_endSetup 61 = .ok (.ireturn, 1) := dq0 (p := fun a b => decode cX3_endSetup a = .ok b) dm_cX3_endSetup_0 30 rfl
theorem dm_cX3_isSetup_0 : ([(0, .aload_n 0, 1), (1, .getfield 43, 3), (4, .ireturn, 1)] : List (Nat × Instr × Nat)).all (fun t => decide (decode cX3_isSetup t.1 = .ok t.2)) = true := by decide +kernel
theorem dX3_isSetup_0 : decode cX3_isSetup 0 = .ok (.aload_n 0, 1) := dq0 (p := fun a b => decode cX3_isSetup a = .ok b) dm_cX3_isSetup_0 0 rfl
theorem dX3_isSetup_1 : decode cX3_isSetup 1 = .ok (.getfield 43, 3) := dq0 (p := fun a b => decode cX3_isSetup a = .ok b) dm_cX3_isSetup_0 1 rfl
theorem dX3_isSetup_4 : decode cX3_isSetup 4 = .ok (.ireturn, 1) := dq0 (p := fun a b => decode cX3_isSetup a = .ok b) dm_cX3_isSetup_0 2 rfl
theorem dm_cX3_whiteToAct_0 : ([(0, .aload_n 0, 1), (1, .getfield 25, 3), (4, .getfield 28, 3), (7, .getfield 97, 3), (10, .ireturn, 1)] : List (Nat × Instr × Nat)).all (fun t => decide (decode cX3_whiteToAct t.1 = .ok t.2)) = true := by decide +kernel
theorem dX3_whiteToAct_0 : decode cX3_whiteToAct 0 = .ok (.aload_n 0, 1) := dq0 (p := fun a b => decode cX3_whiteToAct a = .ok b) dm_cX3_whiteToAct_0 0 rfl
theorem dX3_whiteToAct_1 : decode cX3_whiteToAct 1 = .ok (.getfield 25, 3) := dq0 (p := fun a b => decode cX3_whiteToAct a = .ok b) dm_cX3_whiteToAct_0 1 rfl
theorem dX3_whiteToAct_4 : decode cX3_whiteToAct 4 = .ok (.getfield 28, 3) := dq0 (p := fun a b => decode cX3_whiteToAct a = .ok b) dm_cX3_whiteToAct_0 2 rfl
theorem dX3_whiteToAct_7 : decode cX3_whiteToAct 7 = .ok (.getfield 97, 3) := dq0 (p := fun a b => decode cX3_whiteToAct a = .ok b) dm_cX3_whiteToAct_0 3 rfl
theorem dX3_whiteToAct_10 : decode cX3_whiteToAct 10 = .ok (.ireturn, 1) := dq0 (p := fun a b => decode cX3_whiteToAct a = .ok b) dm_cX3_whiteToAct_0 4 rfl
theorem dm_cX3_pieceAt_0 : ([(0, .iload_n 1, 1), (1, .invokestatic 54, 3), (4, .aload_n 0, 1), (5, .getfield 25, 3), (8, .getfield 28, 3), (11, .iload_n 1, 1), (12, .invokevirtual 82, 3), (15, .ireturn, 1)] : List (Nat × Instr × Nat)).all (fun t => decide (decode cX3_pieceAt t.1 = .ok t.2)) = true := by decide +kernel
theorem dX3_pieceAt_0 : decode cX3_pieceAt 0 = .ok (.iload_n 1, 1) := dq0 (p := fun a b => decode cX3_pieceAt a = .ok b) dm_cX3_pieceAt_0 0 rfl
theorem dX3_pieceAt_1 : decode cX3_pieceAt 1 = .ok (.invokestatic 54, 3) := dq0 (p := fun a b => decode cX3_pieceAt a = .ok b) dm_cX3_pieceAt_0 1 rfl
theorem dX3_pieceAt_4 : decode cX3_pieceAt 4 = .ok (.aload_n 0, 1) := dq0 (p := fun a b => decode cX3_pieceAt a = .ok b) dm_cX3_pieceAt_0 2 rfl
theorem dX3_pieceAt_5 : decode cX3_pieceAt 5 = .ok (.getfield 25, 3) := dq0 (p := fun a b => decode cX3_pieceAt a = .ok b) dm_cX3_pieceAt_0 3 rfl
theorem dX3_pieceAt_8 : decode cX3_pieceAt 8 = .ok (.getfield 28, 3) := dq0 (p := fun a b => decode cX3_pieceAt a = .ok b) dm_cX3_pieceAt_0 4 rfl
theorem dX3_pieceAt_11 : decode cX3_pieceAt 11 = .ok (.iload_n 1, 1) := dq0 (p := fun a b => decode cX3_pieceAt a = .ok b) dm_cX3_pieceAt_0 5 rfl
theorem dX3_pieceAt_12 : decode cX3_pieceAt 12 = .ok (.invokevirtual 82, 3) := dq0 (p := fun a b => decode cX3_pieceAt a = .ok b) dm_cX3_pieceAt_0 6 rfl
theorem dX3_pieceAt_15 : decode cX3_pieceAt 15 = .ok (.ireturn, 1) := dq0 (p := fun a b => decode cX3_pieceAt a = .ok b) dm_cX3_pieceAt_0 7 rfl
theorem dm_cX3_isWhite_0 : ([(0, .iload_n 1, 1), (1, .invokestatic 54, 3), (4, .aload_n 0, 1), (5, .getfield 25, 3), (8, .getfield 28, 3), (11, .astore_n 2, 1), (12, .aload_n 2, 1), (13, .invokevirtual 72, 3), (16, .iload_n 1, 1), (17, .invokestatic 104, 3), (20, .ifCond .ne 13, 3), (23, .new 108, 3), (26, .dup, 1), (27, .ldc 110, 2), (29, .invokespecial 112, 3), (32, .athrow, 1), (33, .aload_n 2, 1), (34, .iconst 1, 1), (35, .invokevirtual 113, 3), (38, .iload_n 1, 1), (39, .invokestatic 104, 3), (42, .ireturn, 1)] : List (Nat × Instr × Nat)).all (fun t => decide (decode cX3_isWhite t.1 = .ok t.2)) = true := by decide +kernel
theorem dX3_isWhite_0 : decode cX3_isWhite 0 = .ok (.iload_n 1, 1) := dq0 (p := fun a b => decode cX3_isWhite a = .ok b) dm_cX3_isWhite_0 0 rfl
theorem dX3_isWhite_1 : decode cX3_isWhite 1 = .ok (.invokestatic 54, 3) := dq0 (p := fun a b => decode cX3_isWhite a = .ok b) dm_cX3_isWhite_0 1 rfl
theorem dX3_isWhite_4 : decode cX3_isWhite 4 = .ok (.aload_n 0, 1) := dq0 (p := fun a b => decode cX3_isWhite a = .ok b) dm_cX3_isWhite_0 2 rfl
theorem dX3_isWhite_5 : decode cX3_isWhite 5 = .ok (.getfield 25, 3) := dq0 (p := fun a b => decode cX3_isWhite a = .ok b) dm_cX3_isWhite_0 3 rfl
theorem dX3_isWhite_8 : decode cX3_isWhite 8 = .ok (.getfield 28, 3) := dq0 (p := fun a b => decode cX3_isWhite a = .ok b) dm_cX3_isWhite_0 4 rfl
theorem dX3_isWhite_11 : decode cX3_isWhite 11 = .ok (.astore_n 2, 1) := dq0 (p := fun a b => decode cX3_isWhite a = .ok b) dm_cX3_isWhite_0 5 rfl
theorem dX3_isWhite_12 : decode cX3_isWhite 12 = .ok (.aload_n 2, 1) := dq0 (p := fun a b => decode cX3_isWhite a = .ok b) dm_cX3_isWhite_0 6 rfl
theorem dX3_isWhite_13 : decode cX3_isWhite 13 = .ok (.invokevirtual 72, 3) := dq0 (p := fun a b => decode cX3_isWhite a = .ok b) dm_cX3_isWhite_0 7 rfl
theorem dX3_isWhite_16 : decode cX3_isWhite 16 = .ok (.iload_n 1, 1) := dq0 (p := fun a b => decode cX3_isWhite a = .ok b) dm_cX3_isWhite_0 8 rfl
theorem dX3_isWhite_17 : decode cX3_isWhite 17 = .ok (.invokestatic 104, 3) := dq0 (p := fun a b => decode cX3_isWhite a = .ok b) dm_cX3_isWhite_0 9 rfl
theorem dX3_isWhite_20 : decode cX3_isWhite 20 = .ok (.ifCond .ne 13, 3) := dq0 (p := fun a b => decode cX3_isWhite a = .ok b) dm_cX3_isWhite_0 10 rfl
theorem dX3_isWhite_23 : decode cX3_isWhite 23 = .ok (.new 108, 3) := dq0 (p := fun a b => decode cX3_isWhite a = .ok b) dm_cX3_isWhite_0 11 rfl
theorem dX3_isWhite_26 : decode cX3_isWhite 26 = .ok (.dup, 1) := dq0 (p := fun a b => decode cX3_isWhite a = .ok b) dm_cX3_isWhite_0 12 rfl
theorem dX3_isWhite_27 : decode cX3_isWhite 27 = .ok (.ldc 110, 2) := dq0 (p := fun a b => decode cX3_isWhite a = .ok b) dm_cX3_isWhite_0 13 rfl
theorem dX3_isWhite_29 : decode cX3_isWhite 29 = .ok (.invokespecial 112, 3) := dq0 (p := fun a b => decode cX3_isWhite a = .ok b) dm_cX3_isWhite_0 14 rfl
theorem dX3_isWhite_32 : decode cX3_isWhite 32 = .ok (.athrow, 1) := dq0 (p := fun a b => decode cX3_isWhite a = .ok b) dm_cX3_isWhite_0 15 rfl
theorem dX3_isWhite_33 : decode cX3_isWhite 33 = .ok (.aload_n 2, 1) := dq0 (p := fun a b => decode cX3_isWhite a = .ok b) dm_cX3_isWhite_0 16 rfl
theorem dX3_isWhite_34 : decode cX3_isWhite 34 = .ok (.iconst 1, 1) := dq0 (p := fun a b => decode cX3_isWhite a = .ok b) dm_cX3_isWhite_0 17 rfl
theorem dX3_isWhite_35 : decode cX3_isWhite 35 = .ok (.invokevirtual 113, 3) := dq0 (p := fun a b => decode cX3_isWhite a = .ok b) dm_cX3_isWhite_0 18 rfl
theorem dX3_isWhite_38 : decode cX3_isWhite 38 = .ok (.iload_n 1, 1) := dq0 (p := fun a b => decode cX3_isWhite a = .ok b) dm_cX3_isWhite_0 19 rfl
theorem dX3_isWhite_39 : decode cX3_isWhite 39 = .ok (.invokestatic 104, 3) := dq0 (p := fun a b => decode cX3_isWhite a = .ok b) dm_cX3_isWhite_0 20 rfl
theorem dX3_isWhite_42 : decode cX3_isWhite 42 = .ok (.ireturn, 1) := dq0 (p := fun a b => decode cX3_isWhite a = .ok b) dm_cX3_isWhite_0 21 rfl
theorem dm_cX3_piecesOf_0 : ([(0, .aload_n 0, 1), (1, .getfield 25, 3), (4, .getfield 28, 3), (7, .iload_n 1, 1), (8, .invokevirtual 113, 3), (11, .lreturn, 1)] : List (Nat × Instr × Nat)).all (fun t => decide (decode cX3_piecesOf t.1 = .ok t.2)) = true := by decide +kernel
theorem dX3_piecesOf_0 : decode cX3_piecesOf 0 = .ok (.aload_n 0, 1) := dq0 (p := fun a b => decode cX3_piecesOf a = .ok b) dm_cX3_piecesOf_0 0 rfl
theorem dX3_piecesOf_1 : decode cX3_piecesOf 1 = .ok (.getfield 25, 3) := dq0 (p := fun a b => decode cX3_piecesOf a = .ok b) dm_cX3_piecesOf_0 1 rfl
theorem dX3_piecesOf_4 : decode cX3_piecesOf 4 = .ok (.getfield 28, 3) := dq0 (p := fun a b => decode cX3_piecesOf a = .ok b) dm_cX3_piecesOf_0 2 rfl
theorem dX3_piecesOf_7 : decode cX3_piecesOf 7 = .ok (.iload_n 1, 1) := dq0 (p := fun a b => decode cX3_piecesOf a = .ok b) dm_cX3_piecesOf_0 3 rfl
theorem dX3_piecesOf_8 : decode cX3_piecesOf 8 = .ok (.invokevirtual 113, 3) := dq0 (p := fun a b => decode cX3_piecesOf a = .ok b) dm_cX3_piecesOf_0 4 rfl
theorem dX3_piecesOf_11 : decode cX3_piecesOf 11 = .ok (.lreturn, 1) := dq0 (p := fun a b => decode cX3_piecesOf a = .ok b) dm_cX3_piecesOf_0 5 rfl
theorem dm_cX3_kingSquare_0 : ([(0, .aload_n 0, 1), (1, .getfield 25, 3), (4, .getfield 28, 3), (7, .iconst 1, 1), (8, .iload_n 1, 1), (9, .invokevirtual 117, 3), (12, .invokestatic 121, 3), (15, .ireturn, 1)] : List (Nat × Instr × Nat)).all (fun t => decide (decode cX3_kingSquare t.1 = .ok t.2)) = true := by decide +kernel
theorem dX3_kingSquare_0 : decode cX3_kingSquare 0 = .ok (.aload_n 0, 1) := dq0 (p := fun a b => decode cX3_kingSquare a = .ok b) dm_cX3_kingSquare_0 0 rfl
theorem dX3_kingSquare_1 : decode cX3_kingSquare 1 = .ok (.getfield 25, 3) := dq0 (p := fun a b => decode cX3_kingSquare a = .ok b) dm_cX3_kingSquare_0 1 rfl
theorem dX3_kingSquare_4 : decode cX3_kingSquare 4 = .ok (.getfield 28, 3) := dq0 (p := fun a b => decode cX3_kingSquare a = .ok b) dm_cX3_kingSquare_0 2 rfl
theorem dX3_kingSquare_7 : decode cX3_kingSquare 7 = .ok (.iconst 1, 1) := dq0 (p := fun a b => decode cX3_kingSquare a = .ok b) dm_cX3_kingSquare_0 3 rfl
theorem dX3_kingSquare_8 : decode cX3_kingSquare 8 = .ok (.iload_n 1, 1) := dq0 (p := fun a b => decode cX3_kingSquare a = .ok b) dm_cX3_kingSquare_0 4 rfl
theorem dX3_kingSquare_9 : decode cX3_kingSquare 9 = .ok (.invokevirtual 117, 3) := dq0 (p := fun a b => decode cX3_kingSquare a = .ok b) dm_cX3_kingSquare_0 5 rfl
theorem dX3_kingSquare_12 : decode cX3_kingSquare 12 = .ok (.invokestatic 121, 3) := dq0 (p := fun a b => decode cX3_kingSquare a = .ok b) dm_cX3_kingSquare_0 6 rfl
theorem dX3_kingSquare_15 : decode cX3_kingSquare 15 = .ok (.ireturn, 1) := dq0 (p := fun a b => decode cX3_kingSquare a = .ok b) dm_cX3_kingSquare_0 7 rfl
theorem dm_cX3_bondOf_0 : ([(0, .iload_n 1, 1), (1, .invokestatic 54, 3), (4, .aload_n 0, 1), (5, .getfield 25, 3), (8, .getfield 28, 3), (11, .iload_n 1, 1), (12, .invokevirtual 124, 3), (15, .ireturn, 1)] : List (Nat × Instr × Nat)).all (fun t => decide (decode cX3_bondOf t.1 = .ok t.2)) = true := by decide +kernel
theorem dX3_bondOf_0 : decode cX3_bondOf 0 = .ok (.iload_n 1, 1) := dq0 (p := fun a b => decode cX3_bondOf a = .ok b) dm_cX3_bondOf_0 0 rfl
theorem dX3_bondOf_1 : decode cX3_bondOf 1 = .ok (.invokestatic 54, 3) := dq0 (p := fun a b => decode cX3_bondOf a = .ok b) dm_cX3_bondOf_0 1 rfl
theorem dX3_bondOf_4 : decode cX3_bondOf 4 = .ok (.aload_n 0, 1) := dq0 (p := fun a b => decode cX3_bondOf a = .ok b) dm_cX3_bondOf_0 2 rfl
theorem dX3_bondOf_5 : decode cX3_bondOf 5 = .ok (.getfield 25, 3) := dq0 (p := fun a b => decode cX3_bondOf a = .ok b) dm_cX3_bondOf_0 3 rfl
theorem dX3_bondOf_8 : decode cX3_bondOf 8 = .ok (.getfield 28, 3) := dq0 (p := fun a b => decode cX3_bondOf a = .ok b) dm_cX3_bondOf_0 4 rfl
theorem dX3_bondOf_11 : decode cX3_bondOf 11 = .ok (.iload_n 1, 1) := dq0 (p := fun a b => decode cX3_bondOf a = .ok b) dm_cX3_bondOf_0 5 rfl
theorem dX3_bondOf_12 : decode cX3_bondOf 12 = .ok (.invokevirtual 124, 3) := dq0 (p := fun a b => decode cX3_bondOf a = .ok b) dm_cX3_bondOf_0 6 rfl
theorem dX3_bondOf_15 : decode cX3_bondOf 15 = .ok (.ireturn, 1) := dq0 (p := fun a b => decode cX3_bondOf a = .ok b) dm_cX3_bondOf_0 7 rfl
theorem dm_cX3_bondCount_0 : ([(0, .aload_n 0, 1), (1, .getfield 25, 3), (4, .getfield 28, 3), (7, .iload_n 1, 1), (8, .invokevirtual 127, 3), (11, .invokestatic 76, 3), (14, .iconst 2, 1), (15, .idiv, 1), (16, .ireturn, 1)] : List (Nat × Instr × Nat)).all (fun t => decide (decode cX3_bondCount t.1 = .ok t.2)) = true := by decide +kernel
theorem dX3_bondCount_0 : decode cX3_bondCount 0 = .ok (.aload_n 0, 1) := dq0 (p := fun a b => decode cX3_bondCount a = .ok b) dm_cX3_bondCount_0 0 rfl
theorem dX3_bondCount_1 : decode cX3_bondCount 1 = .ok (.getfield 25, 3) := dq0 (p := fun a b => decode cX3_bondCount a = .ok b) dm_cX3_bondCount_0 1 rfl
theorem dX3_bondCount_4 : decode cX3_bondCount 4 = .ok (.getfield 28, 3) := dq0 (p := fun a b => decode cX3_bondCount a = .ok b) dm_cX3_bondCount_0 2 rfl
theorem dX3_bondCount_7 : decode cX3_bondCount 7 = .ok (.iload_n 1, 1) := dq0 (p := fun a b => decode cX3_bondCount a = .ok b) dm_cX3_bondCount_0 3 rfl
theorem dX3_bondCount_8 : decode cX3_bondCount 8 = .ok (.invokevirtual 127, 3) := dq0 (p := fun a b => decode cX3_bondCount a = .ok b) dm_cX3_bondCount_0 4 rfl
theorem dX3_bondCount_11 : decode cX3_bondCount 11 = .ok (.invokestatic 76, 3) := dq0 (p := fun a b => decode cX3_bondCount a = .ok b) dm_cX3_bondCount_0 5 rfl
theorem dX3_bondCount_14 : decode cX3_bondCount 14 = .ok (.iconst 2, 1) := dq0 (p := fun a b => decode cX3_bondCount a = .ok b) dm_cX3_bondCount_0 6 rfl
theorem dX3_bondCount_15 : decode cX3_bondCount 15 = .ok (.idiv, 1) := dq0 (p := fun a b => decode cX3_bondCount a = .ok b) dm_cX3_bondCount_0 7 rfl
theorem dX3_bondCount_16 : decode cX3_bondCount 16 = .ok (.ireturn, 1) := dq0 (p := fun a b => decode cX3_bondCount a = .ok b) dm_cX3_bondCount_0 8 rfl
theorem dm_cX3_longestBond_0 : ([(0, .aload_n 0, 1), (1, .getfield 25, 3), (4, .getfield 28, 3), (7, .astore_n 2, 1), (8, .aload_n 2, 1), (9, .iload_n 1, 1), (10, .invokevirtual 127, 3), (13, .lstore_n 3, 1), (14, .iconst 0, 1), (15, .istore 5, 2), (17, .iconst 0, 1), (18, .istore 6, 2), (20, .iload 6, 2), (22, .bipush 64, 2), (24, .if_icmp .ge 36, 3), (27, .lload_n 3, 1), (28, .iload 6, 2), (30, .invokestatic 104, 3), (33, .ifCond .eq 21, 3), (36, .iload 5, 2), (38, .iload 6, 2), (40, .aload_n 2, 1), (41, .iload 6, 2), (43, .invokevirtual 124, 3), (46, .invokestatic 130, 3), (49, .invokestatic 136, 3), (52, .istore 5, 2), (54, .iinc 6 1, 3), (57, .goto (-37), 3), (60, .iload 5, 2), (62, .ireturn, 1)] : List (Nat × Instr × Nat)).all (fun t => decide (decode cX3_longestBond t.1 = .ok t.2)) = true := by decide +kernel
theorem dX3_longestBond_0 : decode cX3_longestBond 0 = .ok (.aload_n 0, 1) := dq0 (p := fun a b => decode cX3_longestBond a = .ok b) dm_cX3_longestBond_0 0 rfl
theorem dX3_longestBond_1 : decode cX3_longestBond 1 = .ok (.getfield 25, 3) := dq0 (p := fun a b => decode cX3_longestBond a = .ok b) dm_cX3_longestBond_0 1 rfl
theorem dX3_longestBond_4 : decode cX3_longestBond 4 = .ok (.getfield 28, 3) := dq0 (p := fun a b => decode cX3_longestBond a = .ok b) dm_cX3_longestBond_0 2 rfl
theorem dX3_longestBond_7 : decode cX3_longestBond 7 = .ok (.astore_n 2, 1) := dq0 (p := fun a b => decode cX3_longestBond a = .ok b) dm_cX3_longestBond_0 3 rfl
theorem dX3_longestBond_8 : decode cX3_longestBond 8 = .ok (.aload_n 2, 1) := dq0 (p := fun a b => decode cX3_longestBond a = .ok b) dm_cX3_longestBond_0 4 rfl
theorem dX3_longestBond_9 : decode cX3_longestBond 9 = .ok (.iload_n 1, 1) := dq0 (p := fun a b => decode cX3_longestBond a = .ok b) dm_cX3_longestBond_0 5 rfl
theorem dX3_longestBond_10 : decode cX3_longestBond 10 = .ok (.invokevirtual 127, 3) := dq0 (p := fun a b => decode cX3_longestBond a = .ok b) dm_cX3_longestBond_0 6 rfl
theorem dX3_longestBond_13 : decode cX3_longestBond 13 = .ok (.lstore_n 3, 1) := dq0 (p := fun a b => decode cX3_longestBond a = .ok b) dm_cX3_longestBond_0 7 rfl
theorem dX3_longestBond_14 : decode cX3_longestBond 14 = .ok (.iconst 0, 1) := dq0 (p := fun a b => decode cX3_longestBond a = .ok b) dm_cX3_longestBond_0 8 rfl
theorem dX3_longestBond_15 : decode cX3_longestBond 15 = .ok (.istore 5, 2) := dq0 (p := fun a b => decode cX3_longestBond a = .ok b) dm_cX3_longestBond_0 9 rfl
theorem dX3_longestBond_17 : decode cX3_longestBond 17 = .ok (.iconst 0, 1) := dq0 (p := fun a b => decode cX3_longestBond a = .ok b) dm_cX3_longestBond_0 10 rfl
theorem dX3_longestBond_18 : decode cX3_longestBond 18 = .ok (.istore 6, 2) := dq0 (p := fun a b => decode cX3_longestBond a = .ok b) dm_cX3_longestBond_0 11 rfl
theorem dX3_longestBond_20 : decode cX3_longestBond 20 = .ok (.iload 6, 2) := dq0 (p := fun a b => decode cX3_longestBond a = .ok b) dm_cX3_longestBond_0 12 rfl
theorem dX3_longestBond_22 : decode cX3_longestBond 22 = .ok (.bipush 64, 2) := dq0 (p := fun a b => decode cX3_longestBond a = .ok b) dm_cX3_longestBond_0 13 rfl
theorem dX3_longestBond_24 : decode cX3_longestBond 24 = .ok (.if_icmp .ge 36, 3) := dq0 (p := fun a b => decode cX3_longestBond a = .ok b) dm_cX3_longestBond_0 14 rfl
theorem dX3_longestBond_27 : decode cX3_longestBond 27 = .ok (.lload_n 3, 1) := dq0 (p := fun a b => decode cX3_longestBond a = .ok b) dm_cX3_longestBond_0 15 rfl
theorem dX3_longestBond_28 : decode cX3_longestBond 28 = .ok (.iload 6, 2) := dq0 (p := fun a b => decode cX3_longestBond a = .ok b) dm_cX3_longestBond_0 16 rfl
theorem dX3_longestBond_30 : decode cX3_longestBond 30 = .ok (.invokestatic 104, 3) := dq0 (p := fun a b => decode cX3_longestBond a = .ok b) dm_cX3_longestBond_0 17 rfl
theorem dX3_longestBond_33 : decode cX3_longestBond 33 = .ok (.ifCond .eq 21, 3) := dq0 (p := fun a b => decode cX3_longestBond a = .ok b) dm_cX3_longestBond_0 18 rfl
theorem dX3_longestBond_36 : decode cX3_longestBond 36 = .ok (.iload 5, 2) := dq0 (p := fun a b => decode cX3_longestBond a = .ok b) dm_cX3_longestBond_0 19 rfl
theorem dX3_longestBond_38 : decode cX3_longestBond 38 = .ok (.iload 6, 2) := dq0 (p := fun a b => decode cX3_longestBond a = .ok b) dm_cX3_longestBond_0 20 rfl
theorem dX3_longestBond_40 : decode cX3_longestBond 40 = .ok (.aload_n 2, 1) := dq0 (p := fun a b => decode cX3_longestBond a = .ok b) dm_cX3_longestBond_0 21 rfl
theorem dX3_longestBond_41 : decode cX3_longestBond 41 = .ok (.iload 6, 2) := dq0 (p := fun a b => decode cX3_longestBond a = .ok b) dm_cX3_longestBond_0 22 rfl
theorem dX3_longestBond_43 : decode cX3_longestBond 43 = .ok (.invokevirtual 124, 3) := dq0 (p := fun a b => decode cX3_longestBond a = .ok b) dm_cX3_longestBond_0 23 rfl
theorem dX3_longestBond_46 : decode cX3_longestBond 46 = .ok (.invokestatic 130, 3) := dq0 (p := fun a b => decode cX3_longestBond a = .ok b) dm_cX3_longestBond_0 24 rfl
theorem dX3_longestBond_49 : decode cX3_longestBond 49 = .ok (.invokestatic 136, 3) := dq0 (p := fun a b => decode cX3_longestBond a = .ok b) dm_cX3_longestBond_0 25 rfl
theorem dX3_longestBond_52 : decode cX3_longestBond 52 = .ok (.istore 5, 2) := dq0 (p := fun a b => decode cX3_longestBond a = .ok b) dm_cX3_longestBond_0 26 rfl
theorem dX3_longestBond_54 : decode cX3_longestBond 54 = .ok (.iinc 6 1, 3) := dq0 (p := fun a b => decode cX3_longestBond a = .ok b) dm_cX3_longestBond_0 27 rfl
theorem dX3_longestBond_57 : decode cX3_longestBond 57 = .ok (.goto (-37), 3) := dq0 (p := fun a b => decode cX3_longestBond a = .ok b) dm_cX3_longestBond_0 28 rfl
theorem dX3_longestBond_60 : decode cX3_longestBond 60 = .ok (.iload 5, 2) := dq0 (p := fun a b => decode cX3_longestBond a = .ok b) dm_cX3_longestBond_0 29 rfl
theorem dX3_longestBond_62 : decode cX3_longestBond 62 = .ok (.ireturn, 1) := dq0 (p := fun a b => decode cX3_longestBond a = .ok b) dm_cX3_longestBond_0 30 rfl
theorem dm_cX3_knightDistance_0 : ([(0, .iload_n 1, 1), (1, .invokestatic 54, 3), (4, .iload_n 2, 1), (5, .invokestatic 54, 3), (8, .iload_n 1, 1), (9, .iload_n 2, 1), (10, .invokestatic 130, 3), (13, .ireturn, 1)] : List (Nat × Instr × Nat)).all (fun t => decide (decode cX3_knightDistance t.1 = .ok t.2)) = true := by decide +kernel
theorem dX3_knightDistance_0 : decode cX3_knightDistance 0 = .ok (.iload_n 1, 1) := dq0 (p := fun a b => decode cX3_knightDistance a = .ok b) dm_cX3_knightDistance_0 0 rfl
theorem dX3_knightDistance_1 : decode cX3_knightDistance 1 = .ok (.invokestatic 54, 3) := dq0 (p := fun a b => decode cX3_knightDistance a = .ok b) dm_cX3_knightDistance_0 1 rfl
theorem dX3_knightDistance_4 : decode cX3_knightDistance 4 = .ok (.iload_n 2, 1) := dq0 (p := fun a b => decode cX3_knightDistance a = .ok b) dm_cX3_knightDistance_0 2 rfl
theorem dX3_knightDistance_5 : decode cX3_knightDistance 5 = .ok (.invokestatic 54, 3) := dq0 (p := fun a b => decode cX3_knightDistance a = .ok b) dm_cX3_knightDistance_0 3 rfl
theorem dX3_knightDistance_8 : decode cX3_knightDistance 8 = .ok (.iload_n 1, 1) := dq0 (p := fun a b => decode cX3_knightDistance a = .ok b) dm_cX3_knightDistance_0 4 rfl
theorem dX3_knightDistance_9 : decode cX3_knightDistance 9 = .ok (.iload_n 2, 1) := dq0 (p := fun a b => decode cX3_knightDistance a = .ok b) dm_cX3_knightDistance_0 5 rfl
theorem dX3_knightDistance_10 : decode cX3_knightDistance 10 = .ok (.invokestatic 130, 3) := dq0 (p := fun a b => decode cX3_knightDistance a = .ok b) dm_cX3_knightDistance_0 6 rfl
theorem dX3_knightDistance_13 : decode cX3_knightDistance 13 = .ok (.ireturn, 1) := dq0 (p := fun a b => decode cX3_knightDistance a = .ok b) dm_cX3_knightDistance_0 7 rfl
theorem dm_cX3_attackers_0 : ([(0, .iload_n 1, 1), (1, .invokestatic 54, 3), (4, .aload_n 0, 1), (5, .getfield 25, 3), (8, .getfield 28, 3), (11, .astore_n 3, 1), (12, .aload_n 3, 1), (13, .iload_n 1, 1), (14, .invokestatic 141, 3), (17, .iload_n 2, 1), (18, .aload_n 3, 1), (19, .invokevirtual 72, 3), (22, .invokevirtual 145, 3), (25, .lreturn, 1)] : List (Nat × Instr × Nat)).all (fun t => decide (decode cX3_attackers t.1 = .ok t.2)) = true := by decide +kernel
theorem dX3_attackers_0 : decode cX3_attackers 0 = .ok (.iload_n 1, 1) := dq0 (p := fun a b => decode cX3_attackers a = .ok b) dm_cX3_attackers_0 0 rfl
theorem dX3_attackers_1 : decode cX3_attackers 1 = .ok (.invokestatic 54, 3) := dq0 (p := fun a b => decode cX3_attackers a = .ok b) dm_cX3_attackers_0 1 rfl
theorem dX3_attackers_4 : decode cX3_attackers 4 = .ok (.aload_n 0, 1) := dq0 (p := fun a b => decode cX3_attackers a = .ok b) dm_cX3_attackers_0 2 rfl
theorem dX3_attackers_5 : decode cX3_attackers 5 = .ok (.getfield 25, 3) := dq0 (p := fun a b => decode cX3_attackers a = .ok b) dm_cX3_attackers_0 3 rfl
theorem dX3_attackers_8 : decode cX3_attackers 8 = .ok (.getfield 28, 3) := dq0 (p := fun a b => decode cX3_attackers a = .ok b) dm_cX3_attackers_0 4 rfl
theorem dX3_attackers_11 : decode cX3_attackers 11 = .ok (.astore_n 3, 1) := dq0 (p := fun a b => decode cX3_attackers a = .ok b) dm_cX3_attackers_0 5 rfl
theorem dX3_attackers_12 : decode cX3_attackers 12 = .ok (.aload_n 3, 1) := dq0 (p := fun a b => decode cX3_attackers a = .ok b) dm_cX3_attackers_0 6 rfl
theorem dX3_attackers_13 : decode cX3_attackers 13 = .ok (.iload_n 1, 1) := dq0 (p := fun a b => decode cX3_attackers a = .ok b) dm_cX3_attackers_0 7 rfl
theorem dX3_attackers_14 : decode cX3_attackers 14 = .ok (.invokestatic 141, 3) := dq0 (p := fun a b => decode cX3_attackers a = .ok b) dm_cX3_attackers_0 8 rfl
theorem dX3_attackers_17 : decode cX3_attackers 17 = .ok (.iload_n 2, 1) := dq0 (p := fun a b => decode cX3_attackers a = .ok b) dm_cX3_attackers_0 9 rfl
theorem dX3_attackers_18 : decode cX3_attackers 18 = .ok (.aload_n 3, 1) := dq0 (p := fun a b => decode cX3_attackers a = .ok b) dm_cX3_attackers_0 10 rfl
theorem dX3_attackers_19 : decode cX3_attackers 19 = .ok (.invokevirtual 72, 3) := dq0 (p := fun a b => decode cX3_attackers a = .ok b) dm_cX3_attackers_0 11 rfl
theorem dX3_attackers_22 : decode cX3_attackers 22 = .ok (.invokevirtual 145, 3) := dq0 (p := fun a b => decode cX3_attackers a = .ok b) dm_cX3_attackers_0 12 rfl
theorem dX3_attackers_25 : decode cX3_attackers 25 = .ok (.lreturn, 1) := dq0 (p := fun a b => decode cX3_attackers a = .ok b) dm_cX3_attackers_0 13 rfl
theorem dm_cX3_attackedSquares_0 : ([(0, .aload_n 0, 1), (1, .getfield 25, 3), (4, .getfield 28, 3), (7, .iload_n 1, 1), (8, .invokevirtual 149, 3), (11, .lreturn, 1)] : List (Nat × Instr × Nat)).all (fun t => decide (decode cX3_attackedSquares t.1 = .ok t.2)) = true := by decide +kernel
theorem dX3_attackedSquares_0 : decode cX3_attackedSquares 0 = .ok (.aload_n 0, 1) := dq0 (p := fun a b => decode cX3_attackedSquares a = .ok b) dm_cX3_attackedSquares_0 0 rfl
theorem dX3_attackedSquares_1 : decode cX3_attackedSquares 1 = .ok (.getfield 25, 3) := dq0 (p := fun a b => decode cX3_attackedSquares a = .ok b) dm_cX3_attackedSquares_0 1 rfl
theorem dX3_attackedSquares_4 : decode cX3_attackedSquares 4 = .ok (.getfield 28, 3) := dq0 (p := fun a b => decode cX3_attackedSquares a = .ok b) dm_cX3_attackedSquares_0 2 rfl
theorem dX3_attackedSquares_7 : decode cX3_attackedSquares 7 = .ok (.iload_n 1, 1) := dq0 (p := fun a b => decode cX3_attackedSquares a = .ok b) dm_cX3_attackedSquares_0 3 rfl
theorem dX3_attackedSquares_8 : decode cX3_attackedSquares 8 = .ok (.invokevirtual 149, 3) := dq0 (p := fun a b => decode cX3_attackedSquares a = .ok b) dm_cX3_attackedSquares_0 4 rfl
theorem dX3_attackedSquares_11 : decode cX3_attackedSquares 11 = .ok (.lreturn, 1) := dq0 (p := fun a b => decode cX3_attackedSquares a = .ok b) dm_cX3_attackedSquares_0 5 rfl
theorem dm_cX3_isInCheck_0 : ([(0, .aload_n 0, 1), (1, .getfield 25, 3), (4, .getfield 28, 3), (7, .iload_n 1, 1), (8, .invokevirtual 152, 3), (11, .ireturn, 1)] : List (Nat × Instr × Nat)).all (fun t => decide (decode cX3_isInCheck t.1 = .ok t.2)) = true := by decide +kernel
theorem dX3_isInCheck_0 : decode cX3_isInCheck 0 = .ok (.aload_n 0, 1) := dq0 (p := fun a b => decode cX3_isInCheck a = .ok b) dm_cX3_isInCheck_0 0 rfl
theorem dX3_isInCheck_1 : decode cX3_isInCheck 1 = .ok (.getfield 25, 3) := dq0 (p := fun a b => decode cX3_isInCheck a = .ok b) dm_cX3_isInCheck_0 1 rfl
theorem dX3_isInCheck_4 : decode cX3_isInCheck 4 = .ok (.getfield 28, 3) := dq0 (p := fun a b => decode cX3_isInCheck a = .ok b) dm_cX3_isInCheck_0 2 rfl
theorem dX3_isInCheck_7 : decode cX3_isInCheck 7 = .ok (.iload_n 1, 1) := dq0 (p := fun a b => decode cX3_isInCheck a = .ok b) dm_cX3_isInCheck_0 3 rfl
theorem dX3_isInCheck_8 : decode cX3_isInCheck 8 = .ok (.invokevirtual 152, 3) := dq0 (p := fun a b => decode cX3_isInCheck a = .ok b) dm_cX3_isInCheck_0 4 rfl
theorem dX3_isInCheck_11 : decode cX3_isInCheck 11 = .ok (.ireturn, 1) := dq0 (p := fun a b => decode cX3_isInCheck a = .ok b) dm_cX3_isInCheck_0 5 rfl
theorem dm_cX3_legalMoves_0 : ([(0, .iload_n 1, 1), (1, .invokestatic 54, 3), (4, .aload_n 0, 1), (5, .getfield 25, 3), (8, .getfield 28, 3), (11, .astore_n 2, 1), (12, .aload_n 0, 1), (13, .invokevirtual 155, 3), (16, .ifCond .eq 14, 3), (19, .aload_n 2, 1), (20, .invokevirtual 159, 3), (23, .iload_n 1, 1), (24, .invokestatic 104, 3), (27, .ifCond .ne 5, 3), (30, .lconst 0, 1), (31, .lreturn, 1), (32, .aload_n 2, 1), (33, .iload_n 1, 1), (34, .aload_n 2, 1), (35, .invokevirtual 162, 3), (38, .invokevirtual 165, 3), (41, .lreturn, 1)] : List (Nat × Instr × Nat)).all (fun t => decide (decode cX3_legalMoves t.1 = .ok t.2)) = true := by decide +kernel
theorem dX3_legalMoves_0 : decode cX3_legalMoves 0 = .ok (.iload_n 1, 1) := dq0 (p := fun a b => decode cX3_legalMoves a = .ok b) dm_cX3_legalMoves_0 0 rfl
theorem dX3_legalMoves_1 : decode cX3_legalMoves 1 = .ok (.invokestatic 54, 3) := dq0 (p := fun a b => decode cX3_legalMoves a = .ok b) dm_cX3_legalMoves_0 1 rfl
theorem dX3_legalMoves_4 : decode cX3_legalMoves 4 = .ok (.aload_n 0, 1) := dq0 (p := fun a b => decode cX3_legalMoves a = .ok b) dm_cX3_legalMoves_0 2 rfl
theorem dX3_legalMoves_5 : decode cX3_legalMoves 5 = .ok (.getfield 25, 3) := dq0 (p := fun a b => decode cX3_legalMoves a = .ok b) dm_cX3_legalMoves_0 3 rfl
theorem dX3_legalMoves_8 : decode cX3_legalMoves 8 = .ok (.getfield 28, 3) := dq0 (p := fun a b => decode cX3_legalMoves a = .ok b) dm_cX3_legalMoves_0 4 rfl
theorem dX3_legalMoves_11 : decode cX3_legalMoves 11 = .ok (.astore_n 2, 1) := dq0 (p := fun a b => decode cX3_legalMoves a = .ok b) dm_cX3_legalMoves_0 5 rfl
theorem dX3_legalMoves_12 : decode cX3_legalMoves 12 = .ok (.aload_n 0, 1) := dq0 (p := fun a b => decode cX3_legalMoves a = .ok b) dm_cX3_legalMoves_0 6 rfl
theorem dX3_legalMoves_13 : decode cX3_legalMoves 13 = .ok (.invokevirtual 155, 3) := dq0 (p := fun a b => decode cX3_legalMoves a = .ok b) dm_cX3_legalMoves_0 7 rfl
theorem dX3_legalMoves_16 : decode cX3_legalMoves 16 = .ok (.ifCond .eq 14, 3) := dq0 (p := fun a b => decode cX3_legalMoves a = .ok b) dm_cX3_legalMoves_0 8 rfl
theorem dX3_legalMoves_19 : decode cX3_legalMoves 19 = .ok (.aload_n 2, 1) := dq0 (p := fun a b => decode cX3_legalMoves a = .ok b) dm_cX3_legalMoves_0 9 rfl
theorem dX3_legalMoves_20 : decode cX3_legalMoves 20 = .ok (.invokevirtual 159, 3) := dq0 (p := fun a b => decode cX3_legalMoves a = .ok b) dm_cX3_legalMoves_0 10 rfl
theorem dX3_legalMoves_23 : decode cX3_legalMoves 23 = .ok (.iload_n 1, 1) := dq0 (p := fun a b => decode cX3_legalMoves a = .ok b) dm_cX3_legalMoves_0 11 rfl
theorem dX3_legalMoves_24 : decode cX3_legalMoves 24 = .ok (.invokestatic 104, 3) := dq0 (p := fun a b => decode cX3_legalMoves a = .ok b) dm_cX3_legalMoves_0 12 rfl
theorem dX3_legalMoves_27 : decode cX3_legalMoves 27 = .ok (.ifCond .ne 5, 3) := dq0 (p := fun a b => decode cX3_legalMoves a = .ok b) dm_cX3_legalMoves_0 13 rfl
theorem dX3_legalMoves_30 : decode cX3_legalMoves 30 = .ok (.lconst 0, 1) := dq0 (p := fun a b => decode cX3_legalMoves a = .ok b) dm_cX3_legalMoves_0 14 rfl
theorem dX3_legalMoves_31 : decode cX3_legalMoves 31 = .ok (.lreturn, 1) := dq0 (p := fun a b => decode cX3_legalMoves a = .ok b) dm_cX3_legalMoves_0 15 rfl
theorem dX3_legalMoves_32 : decode cX3_legalMoves 32 = .ok (.aload_n 2, 1) := dq0 (p := fun a b => decode cX3_legalMoves a = .ok b) dm_cX3_legalMoves_0 16 rfl
theorem dX3_legalMoves_33 : decode cX3_legalMoves 33 = .ok (.iload_n 1, 1) := dq0 (p := fun a b => decode cX3_legalMoves a = .ok b) dm_cX3_legalMoves_0 17 rfl
theorem dX3_legalMoves_34 : decode cX3_legalMoves 34 = .ok (.aload_n 2, 1) := dq0 (p := fun a b => decode cX3_legalMoves a = .ok b) dm_cX3_legalMoves_0 18 rfl
theorem dX3_legalMoves_35 : decode cX3_legalMoves 35 = .ok (.invokevirtual 162, 3) := dq0 (p := fun a b => decode cX3_legalMoves a = .ok b) dm_cX3_legalMoves_0 19 rfl
theorem dX3_legalMoves_38 : decode cX3_legalMoves 38 = .ok (.invokevirtual 165, 3) := dq0 (p := fun a b => decode cX3_legalMoves a = .ok b) dm_cX3_legalMoves_0 20 rfl
theorem dX3_legalMoves_41 : decode cX3_legalMoves 41 = .ok (.lreturn, 1) := dq0 (p := fun a b => decode cX3_legalMoves a = .ok b) dm_cX3_legalMoves_0 21 rfl
theorem dm_cX3_legalMoveCount_0 : ([(0, .aload_n 0, 1), (1, .invokevirtual 155, 3), (4, .ifCond .eq 16, 3), (7, .aload_n 0, 1), (8, .getfield 25, 3), (11, .getfield 28, 3), (14, .invokevirtual 169, 3), (17, .goto 4, 3), (20, .iconst 0, 1), (21, .ireturn, 1)] : List (Nat × Instr × Nat)).all (fun t => decide (decode cX3_legalMoveCount t.1 = .ok t.2)) = true := by decide +kernel
theorem dX3_legalMoveCount_0 : decode cX3_legalMoveCount 0 = .ok (.aload_n 0, 1) := dq0 (p := fun a b => decode cX3_legalMoveCount a = .ok b) dm_cX3_legalMoveCount_0 0 rfl
theorem dX3_legalMoveCount_1 : decode cX3_legalMoveCount 1 = .ok (.invokevirtual 155, 3) := dq0 (p := fun a b => decode cX3_legalMoveCount a = .ok b) dm_cX3_legalMoveCount_0 1 rfl
theorem dX3_legalMoveCount_4 : decode cX3_legalMoveCount 4 = .ok (.ifCond .eq 16, 3) := dq0 (p := fun a b => decode cX3_legalMoveCount a = .ok b) dm_cX3_legalMoveCount_0 2 rfl
theorem dX3_legalMoveCount_7 : decode cX3_legalMoveCount 7 = .ok (.aload_n 0, 1) := dq0 (p := fun a b => decode cX3_legalMoveCount a = .ok b) dm_cX3_legalMoveCount_0 3 rfl
theorem dX3_legalMoveCount_8 : decode cX3_legalMoveCount 8 = .ok (.getfield 25, 3) := dq0 (p := fun a b => decode cX3_legalMoveCount a = .ok b) dm_cX3_legalMoveCount_0 4 rfl
theorem dX3_legalMoveCount_11 : decode cX3_legalMoveCount 11 = .ok (.getfield 28, 3) := dq0 (p := fun a b => decode cX3_legalMoveCount a = .ok b) dm_cX3_legalMoveCount_0 5 rfl
theorem dX3_legalMoveCount_14 : decode cX3_legalMoveCount 14 = .ok (.invokevirtual 169, 3) := dq0 (p := fun a b => decode cX3_legalMoveCount a = .ok b) dm_cX3_legalMoveCount_0 6 rfl
theorem dX3_legalMoveCount_17 : decode cX3_legalMoveCount 17 = .ok (.goto 4, 3) := dq0 (p := fun a b => decode cX3_legalMoveCount a = .ok b) dm_cX3_legalMoveCount_0 7 rfl
theorem dX3_legalMoveCount_20 : decode cX3_legalMoveCount 20 = .ok (.iconst 0, 1) := dq0 (p := fun a b => decode cX3_legalMoveCount a = .ok b) dm_cX3_legalMoveCount_0 8 rfl
theorem dX3_legalMoveCount_21 : decode cX3_legalMoveCount 21 = .ok (.ireturn, 1) := dq0 (p := fun a b => decode cX3_legalMoveCount a = .ok b) dm_cX3_legalMoveCount_0 9 rfl
theorem dm_cX3_moveRefusal_0 : ([(0, .iload_n 1, 1), (1, .invokestatic 54, 3), (4, .iload_n 2, 1), (5, .invokestatic 54, 3), (8, .aload_n 0, 1), (9, .getfield 25, 3), (12, .getfield 28, 3), (15, .astore_n 3, 1), (16, .aload_n 0, 1), (17, .invokevirtual 155, 3), (20, .ifCond .ne 5, 3), (23, .iconst 1, 1), (24, .ireturn, 1), (25, .aload_n 3, 1), (26, .invokevirtual 159, 3), (29, .iload_n 1, 1), (30, .invokestatic 104, 3), (33, .ifCond .ne 5, 3), (36, .iconst 2, 1), (37, .ireturn, 1), (38, .aload_n 3, 1), (39, .iload_n 1, 1), (40, .invokevirtual 172, 3), (43, .iload_n 2, 1), (44, .invokestatic 104, 3), (47, .ifCond .ne 5, 3), (50, .iconst 3, 1), (51, .ireturn, 1), (52, .aload_n 3, 1), (53, .iload_n 1, 1), (54, .iload_n 2, 1), (55, .invokevirtual 175, 3), (58, .ifCond .ne 5, 3), (61, .iconst 4, 1), (62, .ireturn, 1), (63, .aload_n 3, 1), (64, .iload_n 1, 1), (65, .invokevirtual 179, 3), (68, .iload_n 2, 1), (69, .invokestatic 104, 3), (72, .ifCond .eq 7, 3), (75, .iconst 0, 1), (76, .goto 4, 3), (79, .iconst 5, 1), (80, .ireturn, 1)] : List (Nat × Instr × Nat)).all (fun t => decide (decode cX3_moveRefusal t.1 = .ok t.2)) = true := by decide +kernel
theorem dX3_moveRefusal_0 : decode cX3_moveRefusal 0 = .ok (.iload_n 1, 1) := dq0 (p := fun a b => decode cX3_moveRefusal a = .ok b) dm_cX3_moveRefusal_0 0 rfl
theorem dX3_moveRefusal_1 : decode cX3_moveRefusal 1 = .ok (.invokestatic 54, 3) := dq0 (p := fun a b => decode cX3_moveRefusal a = .ok b) dm_cX3_moveRefusal_0 1 rfl
theorem dX3_moveRefusal_4 : decode cX3_moveRefusal 4 = .ok (.iload_n 2, 1) := dq0 (p := fun a b => decode cX3_moveRefusal a = .ok b) dm_cX3_moveRefusal_0 2 rfl
theorem dX3_moveRefusal_5 : decode cX3_moveRefusal 5 = .ok (.invokestatic 54, 3) := dq0 (p := fun a b => decode cX3_moveRefusal a = .ok b) dm_cX3_moveRefusal_0 3 rfl
theorem dX3_moveRefusal_8 : decode cX3_moveRefusal 8 = .ok (.aload_n 0, 1) := dq0 (p := fun a b => decode cX3_moveRefusal a = .ok b) dm_cX3_moveRefusal_0 4 rfl
theorem dX3_moveRefusal_9 : decode cX3_moveRefusal 9 = .ok (.getfield 25, 3) := dq0 (p := fun a b => decode cX3_moveRefusal a = .ok b) dm_cX3_moveRefusal_0 5 rfl
theorem dX3_moveRefusal_12 : decode cX3_moveRefusal 12 = .ok (.getfield 28, 3) := dq0 (p := fun a b => decode cX3_moveRefusal a = .ok b) dm_cX3_moveRefusal_0 6 rfl
theorem dX3_moveRefusal_15 : decode cX3_moveRefusal 15 = .ok (.astore_n 3, 1) := dq0 (p := fun a b => decode cX3_moveRefusal a = .ok b) dm_cX3_moveRefusal_0 7 rfl
theorem dX3_moveRefusal_16 : decode cX3_moveRefusal 16 = .ok (.aload_n 0, 1) := dq0 (p := fun a b => decode cX3_moveRefusal a = .ok b) dm_cX3_moveRefusal_0 8 rfl
theorem dX3_moveRefusal_17 : decode cX3_moveRefusal 17 = .ok (.invokevirtual 155, 3) := dq0 (p := fun a b => decode cX3_moveRefusal a = .ok b) dm_cX3_moveRefusal_0 9 rfl
theorem dX3_moveRefusal_20 : decode cX3_moveRefusal 20 = .ok (.ifCond .ne 5, 3) := dq0 (p := fun a b => decode cX3_moveRefusal a = .ok b) dm_cX3_moveRefusal_0 10 rfl
theorem dX3_moveRefusal_23 : decode cX3_moveRefusal 23 = .ok (.iconst 1, 1) := dq0 (p := fun a b => decode cX3_moveRefusal a = .ok b) dm_cX3_moveRefusal_0 11 rfl
theorem dX3_moveRefusal_24 : decode cX3_moveRefusal 24 = .ok (.ireturn, 1) := dq0 (p := fun a b => decode cX3_moveRefusal a = .ok b) dm_cX3_moveRefusal_0 12 rfl
theorem dX3_moveRefusal_25 : decode cX3_moveRefusal 25 = .ok (.aload_n 3, 1) := dq0 (p := fun a b => decode cX3_moveRefusal a = .ok b) dm_cX3_moveRefusal_0 13 rfl
theorem dX3_moveRefusal_26 : decode cX3_moveRefusal 26 = .ok (.invokevirtual 159, 3) := dq0 (p := fun a b => decode cX3_moveRefusal a = .ok b) dm_cX3_moveRefusal_0 14 rfl
theorem dX3_moveRefusal_29 : decode cX3_moveRefusal 29 = .ok (.iload_n 1, 1) := dq0 (p := fun a b => decode cX3_moveRefusal a = .ok b) dm_cX3_moveRefusal_0 15 rfl
theorem dX3_moveRefusal_30 : decode cX3_moveRefusal 30 = .ok (.invokestatic 104, 3) := dq0 (p := fun a b => decode cX3_moveRefusal a = .ok b) dm_cX3_moveRefusal_0 16 rfl
theorem dX3_moveRefusal_33 : decode cX3_moveRefusal 33 = .ok (.ifCond .ne 5, 3) := dq0 (p := fun a b => decode cX3_moveRefusal a = .ok b) dm_cX3_moveRefusal_0 17 rfl
theorem dX3_moveRefusal_36 : decode cX3_moveRefusal 36 = .ok (.iconst 2, 1) := dq0 (p := fun a b => decode cX3_moveRefusal a = .ok b) dm_cX3_moveRefusal_0 18 rfl
theorem dX3_moveRefusal_37 : decode cX3_moveRefusal 37 = .ok (.ireturn, 1) := dq0 (p := fun a b => decode cX3_moveRefusal a = .ok b) dm_cX3_moveRefusal_0 19 rfl
theorem dX3_moveRefusal_38 : decode cX3_moveRefusal 38 = .ok (.aload_n 3, 1) := dq0 (p := fun a b => decode cX3_moveRefusal a = .ok b) dm_cX3_moveRefusal_0 20 rfl
theorem dX3_moveRefusal_39 : decode cX3_moveRefusal 39 = .ok (.iload_n 1, 1) := dq0 (p := fun a b => decode cX3_moveRefusal a = .ok b) dm_cX3_moveRefusal_0 21 rfl
theorem dX3_moveRefusal_40 : decode cX3_moveRefusal 40 = .ok (.invokevirtual 172, 3) := dq0 (p := fun a b => decode cX3_moveRefusal a = .ok b) dm_cX3_moveRefusal_0 22 rfl
theorem dX3_moveRefusal_43 : decode cX3_moveRefusal 43 = .ok (.iload_n 2, 1) := dq0 (p := fun a b => decode cX3_moveRefusal a = .ok b) dm_cX3_moveRefusal_0 23 rfl
theorem dX3_moveRefusal_44 : decode cX3_moveRefusal 44 = .ok (.invokestatic 104, 3) := dq0 (p := fun a b => decode cX3_moveRefusal a = .ok b) dm_cX3_moveRefusal_0 24 rfl
theorem dX3_moveRefusal_47 : decode cX3_moveRefusal 47 = .ok (.ifCond .ne 5, 3) := dq0 (p := fun a b => decode cX3_moveRefusal a = .ok b) dm_cX3_moveRefusal_0 25 rfl
theorem dX3_moveRefusal_50 : decode cX3_moveRefusal 50 = .ok (.iconst 3, 1) := dq0 (p := fun a b => decode cX3_moveRefusal a = .ok b) dm_cX3_moveRefusal_0 26 rfl
theorem dX3_moveRefusal_51 : decode cX3_moveRefusal 51 = .ok (.ireturn, 1) := dq0 (p := fun a b => decode cX3_moveRefusal a = .ok b) dm_cX3_moveRefusal_0 27 rfl
theorem dX3_moveRefusal_52 : decode cX3_moveRefusal 52 = .ok (.aload_n 3, 1) := dq0 (p := fun a b => decode cX3_moveRefusal a = .ok b) dm_cX3_moveRefusal_0 28 rfl
theorem dX3_moveRefusal_53 : decode cX3_moveRefusal 53 = .ok (.iload_n 1, 1) := dq0 (p := fun a b => decode cX3_moveRefusal a = .ok b) dm_cX3_moveRefusal_0 29 rfl
theorem dX3_moveRefusal_54 : decode cX3_moveRefusal 54 = .ok (.iload_n 2, 1) := dq0 (p := fun a b => decode cX3_moveRefusal a = .ok b) dm_cX3_moveRefusal_0 30 rfl
theorem dX3_moveRefusal_55 : decode cX3_moveRefusal 55 = .ok (.invokevirtual 175, 3) := dq0 (p := fun a b => decode cX3_moveRefusal a = .ok b) dm_cX3_moveRefusal_0 31 rfl
theorem dX3_moveRefusal_58 : decode cX3_moveRefusal 58 = .ok (.ifCond .ne 5, 3) := dq0 (p := fun a b => decode cX3_moveRefusal a = .ok b) dm_cX3_moveRefusal_0 32 rfl
theorem dX3_moveRefusal_61 : decode cX3_moveRefusal 61 = .ok (.iconst 4, 1) := dq0 (p := fun a b => decode cX3_moveRefusal a = .ok b) dm_cX3_moveRefusal_0 33 rfl
theorem dX3_moveRefusal_62 : decode cX3_moveRefusal 62 = .ok (.ireturn, 1) := dq0 (p := fun a b => decode cX3_moveRefusal a = .ok b) dm_cX3_moveRefusal_0 34 rfl
theorem dX3_moveRefusal_63 : decode cX3_moveRefusal 63 = .ok (.aload_n 3, 1) := dq0 (p := fun a b => decode cX3_moveRefusal a = .ok b) dm_cX3_moveRefusal_0 35 rfl
theorem dX3_moveRefusal_64 : decode cX3_moveRefusal 64 = .ok (.iload_n 1, 1) := dq0 (p := fun a b => decode cX3_moveRefusal a = .ok b) dm_cX3_moveRefusal_0 36 rfl
theorem dX3_moveRefusal_65 : decode cX3_moveRefusal 65 = .ok (.invokevirtual 179, 3) := dq0 (p := fun a b => decode cX3_moveRefusal a = .ok b) dm_cX3_moveRefusal_0 37 rfl
theorem dX3_moveRefusal_68 : decode cX3_moveRefusal 68 = .ok (.iload_n 2, 1) := dq0 (p := fun a b => decode cX3_moveRefusal a = .ok b) dm_cX3_moveRefusal_0 38 rfl
theorem dX3_moveRefusal_69 : decode cX3_moveRefusal 69 = .ok (.invokestatic 104, 3) := dq0 (p := fun a b => decode cX3_moveRefusal a = .ok b) dm_cX3_moveRefusal_0 39 rfl
theorem dX3_moveRefusal_72 : decode cX3_moveRefusal 72 = .ok (.ifCond .eq 7, 3) := dq0 (p := fun a b => decode cX3_moveRefusal a = .ok b) dm_cX3_moveRefusal_0 40 rfl
theorem dX3_moveRefusal_75 : decode cX3_moveRefusal 75 = .ok (.iconst 0, 1) := dq0 (p := fun a b => decode cX3_moveRefusal a = .ok b) dm_cX3_moveRefusal_0 41 rfl
theorem dX3_moveRefusal_76 : decode cX3_moveRefusal 76 = .ok (.goto 4, 3) := dq0 (p := fun a b => decode cX3_moveRefusal a = .ok b) dm_cX3_moveRefusal_0 42 rfl
theorem dX3_moveRefusal_79 : decode cX3_moveRefusal 79 = .ok (.iconst 5, 1) := dq0 (p := fun a b => decode cX3_moveRefusal a = .ok b) dm_cX3_moveRefusal_0 43 rfl
theorem dX3_moveRefusal_80 : decode cX3_moveRefusal 80 = .ok (.ireturn, 1) := dq0 (p := fun a b => decode cX3_moveRefusal a = .ok b) dm_cX3_moveRefusal_0 44 rfl
theorem dm_cX3_bondRefusal_0 : ([(0, .iload_n 1, 1), (1, .invokestatic 54, 3), (4, .iload_n 2, 1), (5, .invokestatic 54, 3), (8, .aload_n 0, 1), (9, .getfield 25, 3), (12, .getfield 28, 3), (15, .astore_n 3, 1), (16, .aload_n 0, 1), (17, .invokevirtual 155, 3), (20, .ifCond .ne 5, 3), (23, .iconst 1, 1), (24, .ireturn, 1), (25, .aload_n 3, 1), (26, .iconst 5, 1), (27, .aload_n 3, 1), (28, .getfield 97, 3), (31, .invokevirtual 117, 3), (34, .lstore 4, 2), (36, .iload_n 1, 1), (37, .iload_n 2, 1), (38, .if_icmp .eq 21, 3), (41, .lload 4, 2), (43, .iload_n 1, 1), (44, .invokestatic 104, 3), (47, .ifCond .eq 12, 3), (50, .lload 4, 2), (52, .iload_n 2, 1), (53, .invokestatic 104, 3), (56, .ifCond .ne 5, 3), (59, .iconst 2, 1), (60, .ireturn, 1), (61, .aload_n 3, 1), (62, .iload_n 1, 1), (63, .invokevirtual 124, 3), (66, .iconst (-1), 1), (67, .if_icmp .ne 12, 3), (70, .aload_n 3, 1), (71, .iload_n 2, 1), (72, .invokevirtual 124, 3), (75, .iconst (-1), 1), (76, .if_icmp .eq 6, 3), (79, .bipush 6, 2), (81, .ireturn, 1), (82, .iload_n 1, 1), (83, .iload_n 2, 1), (84, .invokestatic 130, 3), (87, .iconst 3, 1), (88, .if_icmp .le 5, 3), (91, .iconst 5, 1), (92, .ireturn, 1), (93, .aload_n 3, 1), (94, .aload_n 3, 1), (95, .getfield 97, 3), (98, .invokevirtual 152, 3), (101, .ifCond .eq 7, 3), (104, .iconst 4, 1), (105, .goto 4, 3), (108, .iconst 0, 1), (109, .ireturn, 1)] : List (Nat × Instr × Nat)).all (fun t => decide (decode cX3_bondRefusal t.1 = .ok t.2)) = true := by decide +kernel
theorem dX3_bondRefusal_0 : decode cX3_bondRefusal 0 = .ok (.iload_n 1, 1) := dq0 (p := fun a b => decode cX3_bondRefusal a = .ok b) dm_cX3_bondRefusal_0 0 rfl
theorem dX3_bondRefusal_1 : decode cX3_bondRefusal 1 = .ok (.invokestatic 54, 3) := dq0 (p := fun a b => decode cX3_bondRefusal a = .ok b) dm_cX3_bondRefusal_0 1 rfl
theorem dX3_bondRefusal_4 : decode cX3_bondRefusal 4 = .ok (.iload_n 2, 1) := dq0 (p := fun a b => decode cX3_bondRefusal a = .ok b) dm_cX3_bondRefusal_0 2 rfl
theorem dX3_bondRefusal_5 : decode cX3_bondRefusal 5 = .ok (.invokestatic 54, 3) := dq0 (p := fun a b => decode cX3_bondRefusal a = .ok b) dm_cX3_bondRefusal_0 3 rfl
theorem dX3_bondRefusal_8 : decode cX3_bondRefusal 8 = .ok (.aload_n 0, 1) := dq0 (p := fun a b => decode cX3_bondRefusal a = .ok b) dm_cX3_bondRefusal_0 4 rfl
theorem dX3_bondRefusal_9 : decode cX3_bondRefusal 9 = .ok (.getfield 25, 3) := dq0 (p := fun a b => decode cX3_bondRefusal a = .ok b) dm_cX3_bondRefusal_0 5 rfl
theorem dX3_bondRefusal_12 : decode cX3_bondRefusal 12 = .ok (.getfield 28, 3) := dq0 (p := fun a b => decode cX3_bondRefusal a = .ok b) dm_cX3_bondRefusal_0 6 rfl
theorem dX3_bondRefusal_15 : decode cX3_bondRefusal 15 = .ok (.astore_n 3, 1) := dq0 (p := fun a b => decode cX3_bondRefusal a = .ok b) dm_cX3_bondRefusal_0 7 rfl
theorem dX3_bondRefusal_16 : decode cX3_bondRefusal 16 = .ok (.aload_n 0, 1) := dq0 (p := fun a b => decode cX3_bondRefusal a = .ok b) dm_cX3_bondRefusal_0 8 rfl
theorem dX3_bondRefusal_17 : decode cX3_bondRefusal 17 = .ok (.invokevirtual 155, 3) := dq0 (p := fun a b => decode cX3_bondRefusal a = .ok b) dm_cX3_bondRefusal_0 9 rfl
theorem dX3_bondRefusal_20 : decode cX3_bondRefusal 20 = .ok (.ifCond .ne 5, 3) := dq0 (p := fun a b => decode cX3_bondRefusal a = .ok b) dm_cX3_bondRefusal_0 10 rfl
theorem dX3_bondRefusal_23 : decode cX3_bondRefusal 23 = .ok (.iconst 1, 1) := dq0 (p := fun a b => decode cX3_bondRefusal a = .ok b) dm_cX3_bondRefusal_0 11 rfl
theorem dX3_bondRefusal_24 : decode cX3_bondRefusal 24 = .ok (.ireturn, 1) := dq0 (p := fun a b => decode cX3_bondRefusal a = .ok b) dm_cX3_bondRefusal_0 12 rfl
theorem dX3_bondRefusal_25 : decode cX3_bondRefusal 25 = .ok (.aload_n 3, 1) := dq0 (p := fun a b => decode cX3_bondRefusal a = .ok b) dm_cX3_bondRefusal_0 13 rfl
theorem dX3_bondRefusal_26 : decode cX3_bondRefusal 26 = .ok (.iconst 5, 1) := dq0 (p := fun a b => decode cX3_bondRefusal a = .ok b) dm_cX3_bondRefusal_0 14 rfl
theorem dX3_bondRefusal_27 : decode cX3_bondRefusal 27 = .ok (.aload_n 3, 1) := dq0 (p := fun a b => decode cX3_bondRefusal a = .ok b) dm_cX3_bondRefusal_0 15 rfl
theorem dX3_bondRefusal_28 : decode cX3_bondRefusal 28 = .ok (.getfield 97, 3) := dq0 (p := fun a b => decode cX3_bondRefusal a = .ok b) dm_cX3_bondRefusal_0 16 rfl
theorem dX3_bondRefusal_31 : decode cX3_bondRefusal 31 = .ok (.invokevirtual 117, 3) := dq0 (p := fun a b => decode cX3_bondRefusal a = .ok b) dm_cX3_bondRefusal_0 17 rfl
theorem dX3_bondRefusal_34 : decode cX3_bondRefusal 34 = .ok (.lstore 4, 2) := dq0 (p := fun a b => decode cX3_bondRefusal a = .ok b) dm_cX3_bondRefusal_0 18 rfl
theorem dX3_bondRefusal_36 : decode cX3_bondRefusal 36 = .ok (.iload_n 1, 1) := dq0 (p := fun a b => decode cX3_bondRefusal a = .ok b) dm_cX3_bondRefusal_0 19 rfl
theorem dX3_bondRefusal_37 : decode cX3_bondRefusal 37 = .ok (.iload_n 2, 1) := dq0 (p := fun a b => decode cX3_bondRefusal a = .ok b) dm_cX3_bondRefusal_0 20 rfl
theorem dX3_bondRefusal_38 : decode cX3_bondRefusal 38 = .ok (.if_icmp .eq 21, 3) := dq0 (p := fun a b => decode cX3_bondRefusal a = .ok b) dm_cX3_bondRefusal_0 21 rfl
theorem dX3_bondRefusal_41 : decode cX3_bondRefusal 41 = .ok (.lload 4, 2) := dq0 (p := fun a b => decode cX3_bondRefusal a = .ok b) dm_cX3_bondRefusal_0 22 rfl
theorem dX3_bondRefusal_43 : decode cX3_bondRefusal 43 = .ok (.iload_n 1, 1) := dq0 (p := fun a b => decode cX3_bondRefusal a = .ok b) dm_cX3_bondRefusal_0 23 rfl
theorem dX3_bondRefusal_44 : decode cX3_bondRefusal 44 = .ok (.invokestatic 104, 3) := dq0 (p := fun a b => decode cX3_bondRefusal a = .ok b) dm_cX3_bondRefusal_0 24 rfl
theorem dX3_bondRefusal_47 : decode cX3_bondRefusal 47 = .ok (.ifCond .eq 12, 3) := dq0 (p := fun a b => decode cX3_bondRefusal a = .ok b) dm_cX3_bondRefusal_0 25 rfl
theorem dX3_bondRefusal_50 : decode cX3_bondRefusal 50 = .ok (.lload 4, 2) := dq0 (p := fun a b => decode cX3_bondRefusal a = .ok b) dm_cX3_bondRefusal_0 26 rfl
theorem dX3_bondRefusal_52 : decode cX3_bondRefusal 52 = .ok (.iload_n 2, 1) := dq0 (p := fun a b => decode cX3_bondRefusal a = .ok b) dm_cX3_bondRefusal_0 27 rfl
theorem dX3_bondRefusal_53 : decode cX3_bondRefusal 53 = .ok (.invokestatic 104, 3) := dq0 (p := fun a b => decode cX3_bondRefusal a = .ok b) dm_cX3_bondRefusal_0 28 rfl
theorem dX3_bondRefusal_56 : decode cX3_bondRefusal 56 = .ok (.ifCond .ne 5, 3) := dq0 (p := fun a b => decode cX3_bondRefusal a = .ok b) dm_cX3_bondRefusal_0 29 rfl
theorem dX3_bondRefusal_59 : decode cX3_bondRefusal 59 = .ok (.iconst 2, 1) := dq0 (p := fun a b => decode cX3_bondRefusal a = .ok b) dm_cX3_bondRefusal_0 30 rfl
theorem dX3_bondRefusal_60 : decode cX3_bondRefusal 60 = .ok (.ireturn, 1) := dq0 (p := fun a b => decode cX3_bondRefusal a = .ok b) dm_cX3_bondRefusal_0 31 rfl
theorem dX3_bondRefusal_61 : decode cX3_bondRefusal 61 = .ok (.aload_n 3, 1) := dq0 (p := fun a b => decode cX3_bondRefusal a = .ok b) dm_cX3_bondRefusal_0 32 rfl
theorem dX3_bondRefusal_62 : decode cX3_bondRefusal 62 = .ok (.iload_n 1, 1) := dq0 (p := fun a b => decode cX3_bondRefusal a = .ok b) dm_cX3_bondRefusal_0 33 rfl
theorem dX3_bondRefusal_63 : decode cX3_bondRefusal 63 = .ok (.invokevirtual 124, 3) := dq0 (p := fun a b => decode cX3_bondRefusal a = .ok b) dm_cX3_bondRefusal_0 34 rfl
theorem dX3_bondRefusal_66 : decode cX3_bondRefusal 66 = .ok (.iconst (-1), 1) := dq0 (p := fun a b => decode cX3_bondRefusal a = .ok b) dm_cX3_bondRefusal_0 35 rfl
theorem dX3_bondRefusal_67 : decode cX3_bondRefusal 67 = .ok (.if_icmp .ne 12, 3) := dq0 (p := fun a b => decode cX3_bondRefusal a = .ok b) dm_cX3_bondRefusal_0 36 rfl
theorem dX3_bondRefusal_70 : decode cX3_bondRefusal 70 = .ok (.aload_n 3, 1) := dq0 (p := fun a b => decode cX3_bondRefusal a = .ok b) dm_cX3_bondRefusal_0 37 rfl
theorem dX3_bondRefusal_71 : decode cX3_bondRefusal 71 = .ok (.iload_n 2, 1) := dq0 (p := fun a b => decode cX3_bondRefusal a = .ok b) dm_cX3_bondRefusal_0 38 rfl
theorem dX3_bondRefusal_72 : decode cX3_bondRefusal 72 = .ok (.invokevirtual 124, 3) := dq0 (p := fun a b => decode cX3_bondRefusal a = .ok b) dm_cX3_bondRefusal_0 39 rfl
theorem dX3_bondRefusal_75 : decode cX3_bondRefusal 75 = .ok (.iconst (-1), 1) := dq0 (p := fun a b => decode cX3_bondRefusal a = .ok b) dm_cX3_bondRefusal_0 40 rfl
theorem dX3_bondRefusal_76 : decode cX3_bondRefusal 76 = .ok (.if_icmp .eq 6, 3) := dq0 (p := fun a b => decode cX3_bondRefusal a = .ok b) dm_cX3_bondRefusal_0 41 rfl
theorem dX3_bondRefusal_79 : decode cX3_bondRefusal 79 = .ok (.bipush 6, 2) := dq0 (p := fun a b => decode cX3_bondRefusal a = .ok b) dm_cX3_bondRefusal_0 42 rfl
theorem dX3_bondRefusal_81 : decode cX3_bondRefusal 81 = .ok (.ireturn, 1) := dq0 (p := fun a b => decode cX3_bondRefusal a = .ok b) dm_cX3_bondRefusal_0 43 rfl
theorem dX3_bondRefusal_82 : decode cX3_bondRefusal 82 = .ok (.iload_n 1, 1) := dq0 (p := fun a b => decode cX3_bondRefusal a = .ok b) dm_cX3_bondRefusal_0 44 rfl
theorem dX3_bondRefusal_83 : decode cX3_bondRefusal 83 = .ok (.iload_n 2, 1) := dq0 (p := fun a b => decode cX3_bondRefusal a = .ok b) dm_cX3_bondRefusal_0 45 rfl
theorem dX3_bondRefusal_84 : decode cX3_bondRefusal 84 = .ok (.invokestatic 130, 3) := dq0 (p := fun a b => decode cX3_bondRefusal a = .ok b) dm_cX3_bondRefusal_0 46 rfl
theorem dX3_bondRefusal_87 : decode cX3_bondRefusal 87 = .ok (.iconst 3, 1) := dq0 (p := fun a b => decode cX3_bondRefusal a = .ok b) dm_cX3_bondRefusal_0 47 rfl
theorem dX3_bondRefusal_88 : decode cX3_bondRefusal 88 = .ok (.if_icmp .le 5, 3) := dq0 (p := fun a b => decode cX3_bondRefusal a = .ok b) dm_cX3_bondRefusal_0 48 rfl
theorem dX3_bondRefusal_91 : decode cX3_bondRefusal 91 = .ok (.iconst 5, 1) := dq0 (p := fun a b => decode cX3_bondRefusal a = .ok b) dm_cX3_bondRefusal_0 49 rfl
theorem dX3_bondRefusal_92 : decode cX3_bondRefusal 92 = .ok (.ireturn, 1) := dq0 (p := fun a b => decode cX3_bondRefusal a = .ok b) dm_cX3_bondRefusal_0 50 rfl
theorem dX3_bondRefusal_93 : decode cX3_bondRefusal 93 = .ok (.aload_n 3, 1) := dq0 (p := fun a b => decode cX3_bondRefusal a = .ok b) dm_cX3_bondRefusal_0 51 rfl
theorem dX3_bondRefusal_94 : decode cX3_bondRefusal 94 = .ok (.aload_n 3, 1) := dq0 (p := fun a b => decode cX3_bondRefusal a = .ok b) dm_cX3_bondRefusal_0 52 rfl
theorem dX3_bondRefusal_95 : decode cX3_bondRefusal 95 = .ok (.getfield 97, 3) := dq0 (p := fun a b => decode cX3_bondRefusal a = .ok b) dm_cX3_bondRefusal_0 53 rfl
theorem dX3_bondRefusal_98 : decode cX3_bondRefusal 98 = .ok (.invokevirtual 152, 3) := dq0 (p := fun a b => decode cX3_bondRefusal a = .ok b) dm_cX3_bondRefusal_0 54 rfl
theorem dX3_bondRefusal_101 : decode cX3_bondRefusal 101 = .ok (.ifCond .eq 7, 3) := dq0 (p := fun a b => decode cX3_bondRefusal a = .ok b) dm_cX3_bondRefusal_0 55 rfl
theorem dX3_bondRefusal_104 : decode cX3_bondRefusal 104 = .ok (.iconst 4, 1) := dq0 (p := fun a b => decode cX3_bondRefusal a = .ok b) dm_cX3_bondRefusal_0 56 rfl
theorem dX3_bondRefusal_105 : decode cX3_bondRefusal 105 = .ok (.goto 4, 3) := dq0 (p := fun a b => decode cX3_bondRefusal a = .ok b) dm_cX3_bondRefusal_0 57 rfl
theorem dX3_bondRefusal_108 : decode cX3_bondRefusal 108 = .ok (.iconst 0, 1) := dq0 (p := fun a b => decode cX3_bondRefusal a = .ok b) dm_cX3_bondRefusal_0 58 rfl
theorem dX3_bondRefusal_109 : decode cX3_bondRefusal 109 = .ok (.ireturn, 1) := dq0 (p := fun a b => decode cX3_bondRefusal a = .ok b) dm_cX3_bondRefusal_0 59 rfl
theorem dm_cX3_dissolveRefusal_0 : ([(0, .iload_n 1, 1), (1, .invokestatic 54, 3), (4, .aload_n 0, 1), (5, .getfield 25, 3), (8, .getfield 28, 3), (11, .astore_n 2, 1), (12, .aload_n 0, 1), (13, .invokevirtual 155, 3), (16, .ifCond .ne 5, 3), (19, .iconst 1, 1), (20, .ireturn, 1), (21, .aload_n 2, 1), (22, .iconst 5, 1), (23, .aload_n 2, 1), (24, .getfield 97, 3), (27, .invokevirtual 117, 3), (30, .iload_n 1, 1), (31, .invokestatic 104, 3), (34, .ifCond .ne 5, 3), (37, .iconst 2, 1), (38, .ireturn, 1), (39, .aload_n 2, 1), (40, .iload_n 1, 1), (41, .invokevirtual 124, 3), (44, .iconst (-1), 1), (45, .if_icmp .ne 6, 3), (48, .bipush 7, 2), (50, .ireturn, 1), (51, .aload_n 2, 1), (52, .aload_n 2, 1), (53, .getfield 97, 3), (56, .invokevirtual 152, 3), (59, .ifCond .eq 7, 3), (62, .iconst 4, 1), (63, .goto 4, 3), (66, .iconst 0, 1), (67, .ireturn, 1)] : List (Nat × Instr × Nat)).all (fun t => decide (decode cX3_dissolveRefusal t.1 = .ok t.2)) = true := by decide +kernel
theorem dX3_dissolveRefusal_0 : decode cX3_dissolveRefusal 0 = .ok (.iload_n 1, 1) := dq0 (p := fun a b => decode cX3_dissolveRefusal a = .ok b) dm_cX3_dissolveRefusal_0 0 rfl
theorem dX3_dissolveRefusal_1 : decode cX3_dissolveRefusal 1 = .ok (.invokestatic 54, 3) := dq0 (p := fun a b => decode cX3_dissolveRefusal a = .ok b) dm_cX3_dissolveRefusal_0 1 rfl
theorem dX3_dissolveRefusal_4 : decode cX3_dissolveRefusal 4 = .ok (.aload_n 0, 1) := dq0 (p := fun a b => decode cX3_dissolveRefusal a = .ok b) dm_cX3_dissolveRefusal_0 2 rfl
theorem dX3_dissolveRefusal_5 : decode cX3_dissolveRefusal 5 = .ok (.getfield 25, 3) := dq0 (p := fun a b => decode cX3_dissolveRefusal a = .ok b) dm_cX3_dissolveRefusal_0 3 rfl
theorem dX3_dissolveRefusal_8 : decode cX3_dissolveRefusal 8 = .ok (.getfield 28, 3) := dq0 (p := fun a b => decode cX3_dissolveRefusal a = .ok b) dm_cX3_dissolveRefusal_0 4 rfl
theorem dX3_dissolveRefusal_11 : decode cX3_dissolveRefusal 11 = .ok (.astore_n 2, 1) := dq0 (p := fun a b => decode cX3_dissolveRefusal a = .ok b) dm_cX3_dissolveRefusal_0 5 rfl
theorem dX3_dissolveRefusal_12 : decode cX3_dissolveRefusal 12 = .ok (.aload_n 0, 1) := dq0 (p := fun a b => decode cX3_dissolveRefusal a = .ok b) dm_cX3_dissolveRefusal_0 6 rfl
theorem dX3_dissolveRefusal_13 : decode cX3_dissolveRefusal 13 = .ok (.invokevirtual 155, 3) := dq0 (p := fun a b => decode cX3_dissolveRefusal a = .ok b) dm_cX3_dissolveRefusal_0 7 rfl
theorem dX3_dissolveRefusal_16 : decode cX3_dissolveRefusal 16 = .ok (.ifCond .ne 5, 3) := dq0 (p := fun a b => decode cX3_dissolveRefusal a = .ok b) dm_cX3_dissolveRefusal_0 8 rfl
theorem dX3_dissolveRefusal_19 : decode cX3_dissolveRefusal 19 = .ok (.iconst 1, 1) := dq0 (p := fun a b => decode cX3_dissolveRefusal a = .ok b) dm_cX3_dissolveRefusal_0 9 rfl
theorem dX3_dissolveRefusal_20 : decode cX3_dissolveRefusal 20 = .ok (.ireturn, 1) := dq0 (p := fun a b => decode cX3_dissolveRefusal a = .ok b) dm_cX3_dissolveRefusal_0 10 rfl
theorem dX3_dissolveRefusal_21 : decode cX3_dissolveRefusal 21 = .ok (.aload_n 2, 1) := dq0 (p := fun a b => decode cX3_dissolveRefusal a = .ok b) dm_cX3_dissolveRefusal_0 11 rfl
theorem dX3_dissolveRefusal_22 : decode cX3_dissolveRefusal 22 = .ok (.iconst 5, 1) := dq0 (p := fun a b => decode cX3_dissolveRefusal a = .ok b) dm_cX3_dissolveRefusal_0 12 rfl
theorem dX3_dissolveRefusal_23 : decode cX3_dissolveRefusal 23 = .ok (.aload_n 2, 1) := dq0 (p := fun a b => decode cX3_dissolveRefusal a = .ok b) dm_cX3_dissolveRefusal_0 13 rfl
theorem dX3_dissolveRefusal_24 : decode cX3_dissolveRefusal 24 = .ok (.getfield 97, 3) := dq0 (p := fun a b => decode cX3_dissolveRefusal a = .ok b) dm_cX3_dissolveRefusal_0 14 rfl
theorem dX3_dissolveRefusal_27 : decode cX3_dissolveRefusal 27 = .ok (.invokevirtual 117, 3) := dq0 (p := fun a b => decode cX3_dissolveRefusal a = .ok b) dm_cX3_dissolveRefusal_0 15 rfl
theorem dX3_dissolveRefusal_30 : decode cX3_dissolveRefusal 30 = .ok (.iload_n 1, 1) := dq0 (p := fun a b => decode cX3_dissolveRefusal a = .ok b) dm_cX3_dissolveRefusal_0 16 rfl
theorem dX3_dissolveRefusal_31 : decode cX3_dissolveRefusal 31 = .ok (.invokestatic 104, 3) := dq0 (p := fun a b => decode cX3_dissolveRefusal a = .ok b) dm_cX3_dissolveRefusal_0 17 rfl
theorem dX3_dissolveRefusal_34 : decode cX3_dissolveRefusal 34 = .ok (.ifCond .ne 5, 3) := dq0 (p := fun a b => decode cX3_dissolveRefusal a = .ok b) dm_cX3_dissolveRefusal_0 18 rfl
theorem dX3_dissolveRefusal_37 : decode cX3_dissolveRefusal 37 = .ok (.iconst 2, 1) := dq0 (p := fun a b => decode cX3_dissolveRefusal a = .ok b) dm_cX3_dissolveRefusal_0 19 rfl
theorem dX3_dissolveRefusal_38 : decode cX3_dissolveRefusal 38 = .ok (.ireturn, 1) := dq0 (p := fun a b => decode cX3_dissolveRefusal a = .ok b) dm_cX3_dissolveRefusal_0 20 rfl
theorem dX3_dissolveRefusal_39 : decode cX3_dissolveRefusal 39 = .ok (.aload_n 2, 1) := dq0 (p := fun a b => decode cX3_dissolveRefusal a = .ok b) dm_cX3_dissolveRefusal_0 21 rfl
theorem dX3_dissolveRefusal_40 : decode cX3_dissolveRefusal 40 = .ok (.iload_n 1, 1) := dq0 (p := fun a b => decode cX3_dissolveRefusal a = .ok b) dm_cX3_dissolveRefusal_0 22 rfl
theorem dX3_dissolveRefusal_41 : decode cX3_dissolveRefusal 41 = .ok (.invokevirtual 124, 3) := dq0 (p := fun a b => decode cX3_dissolveRefusal a = .ok b) dm_cX3_dissolveRefusal_0 23 rfl
theorem dX3_dissolveRefusal_44 : decode cX3_dissolveRefusal 44 = .ok (.iconst (-1), 1) := dq0 (p := fun a b => decode cX3_dissolveRefusal a = .ok b) dm_cX3_dissolveRefusal_0 24 rfl
theorem dX3_dissolveRefusal_45 : decode cX3_dissolveRefusal 45 = .ok (.if_icmp .ne 6, 3) := dq0 (p := fun a b => decode cX3_dissolveRefusal a = .ok b) dm_cX3_dissolveRefusal_0 25 rfl
theorem dX3_dissolveRefusal_48 : decode cX3_dissolveRefusal 48 = .ok (.bipush 7, 2) := dq0 (p := fun a b => decode cX3_dissolveRefusal a = .ok b) dm_cX3_dissolveRefusal_0 26 rfl
theorem dX3_dissolveRefusal_50 : decode cX3_dissolveRefusal 50 = .ok (.ireturn, 1) := dq0 (p := fun a b => decode cX3_dissolveRefusal a = .ok b) dm_cX3_dissolveRefusal_0 27 rfl
theorem dX3_dissolveRefusal_51 : decode cX3_dissolveRefusal 51 = .ok (.aload_n 2, 1) := dq0 (p := fun a b => decode cX3_dissolveRefusal a = .ok b) dm_cX3_dissolveRefusal_0 28 rfl
theorem dX3_dissolveRefusal_52 : decode cX3_dissolveRefusal 52 = .ok (.aload_n 2, 1) := dq0 (p := fun a b => decode cX3_dissolveRefusal a = .ok b) dm_cX3_dissolveRefusal_0 29 rfl
theorem dX3_dissolveRefusal_53 : decode cX3_dissolveRefusal 53 = .ok (.getfield 97, 3) := dq0 (p := fun a b => decode cX3_dissolveRefusal a = .ok b) dm_cX3_dissolveRefusal_0 30 rfl
theorem dX3_dissolveRefusal_56 : decode cX3_dissolveRefusal 56 = .ok (.invokevirtual 152, 3) := dq0 (p := fun a b => decode cX3_dissolveRefusal a = .ok b) dm_cX3_dissolveRefusal_0 31 rfl
theorem dX3_dissolveRefusal_59 : decode cX3_dissolveRefusal 59 = .ok (.ifCond .eq 7, 3) := dq0 (p := fun a b => decode cX3_dissolveRefusal a = .ok b) dm_cX3_dissolveRefusal_0 32 rfl
theorem dX3_dissolveRefusal_62 : decode cX3_dissolveRefusal 62 = .ok (.iconst 4, 1) := dq0 (p := fun a b => decode cX3_dissolveRefusal a = .ok b) dm_cX3_dissolveRefusal_0 33 rfl
theorem dX3_dissolveRefusal_63 : decode cX3_dissolveRefusal 63 = .ok (.goto 4, 3) := dq0 (p := fun a b => decode cX3_dissolveRefusal a = .ok b) dm_cX3_dissolveRefusal_0 34 rfl
theorem dX3_dissolveRefusal_66 : decode cX3_dissolveRefusal 66 = .ok (.iconst 0, 1) := dq0 (p := fun a b => decode cX3_dissolveRefusal a = .ok b) dm_cX3_dissolveRefusal_0 35 rfl
theorem dX3_dissolveRefusal_67 : decode cX3_dissolveRefusal 67 = .ok (.ireturn, 1) := dq0 (p := fun a b => decode cX3_dissolveRefusal a = .ok b) dm_cX3_dissolveRefusal_0 36 rfl
theorem dm_cX3_matingMove_0 : ([(0, .aload_n 0, 1), (1, .invokevirtual 155, 3), (4, .ifCond .ne 5, 3), (7, .iconst (-1), 1), (8, .ireturn, 1), (9, .aload_n 0, 1), (10, .getfield 25, 3), (13, .getfield 28, 3), (16, .astore_n 1, 1), (17, .aload_n 1, 1), (18, .invokevirtual 162, 3), (21, .lstore_n 2, 1), (22, .iconst 0, 1), (23, .istore 4, 2), (25, .iload 4, 2), (27, .bipush 64, 2), (29, .if_icmp .ge 94, 3), (32, .aload_n 1, 1), (33, .invokevirtual 159, 3), (36, .iload 4, 2), (38, .invokestatic 104, 3), (41, .ifCond .eq 13, 3), (44, .aload_n 1, 1), (45, .iload 4, 2), (47, .lload_n 2, 1), (48, .invokevirtual 165, 3), (51, .goto 4, 3), (54, .lconst 0, 1), (55, .lstore 5, 2), (57, .iconst 0, 1), (58, .istore 7, 2), (60, .iload 7, 2), (62, .bipush 64, 2), (64, .if_icmp .ge 53, 3), (67, .lload 5, 2), (69, .lconst 0, 1), (70, .lcmp, 1), (71, .ifCond .eq 46, 3), (74, .lload 5, 2), (76, .iload 7, 2), (78, .invokestatic 104, 3), (81, .ifCond .eq 30, 3), (84, .aload_n 0, 1), (85, .iload 4, 2), (87, .iload 7, 2), (89, .invokevirtual 182, 3), (92, .aload_n 0, 1), (93, .getfield 21, 3), (96, .invokevirtual 185, 3), (99, .ifCond .eq 12, 3), (102, .bipush 64, 2), (104, .iload 4, 2), (106, .imul, 1), (107, .iload 7, 2), (109, .iadd, 1), (110, .ireturn, 1), (111, .iinc 7 1, 3), (114, .goto (-54), 3), (117, .iinc 4 1, 3), (120, .goto (-95), 3)] : List (Nat × Instr × Nat)).all (fun t => decide (decode cX3_matingMove t.1 = .ok t.2)) = true := by decide +kernel
theorem dX3_matingMove_0 : decode cX3_matingMove 0 = .ok (.aload_n 0, 1) := dq0 (p := fun a b => decode cX3_matingMove a = .ok b) dm_cX3_matingMove_0 0 rfl
theorem dX3_matingMove_1 : decode cX3_matingMove 1 = .ok (.invokevirtual 155, 3) := dq0 (p := fun a b => decode cX3_matingMove a = .ok b) dm_cX3_matingMove_0 1 rfl
theorem dX3_matingMove_4 : decode cX3_matingMove 4 = .ok (.ifCond .ne 5, 3) := dq0 (p := fun a b => decode cX3_matingMove a = .ok b) dm_cX3_matingMove_0 2 rfl
theorem dX3_matingMove_7 : decode cX3_matingMove 7 = .ok (.iconst (-1), 1) := dq0 (p := fun a b => decode cX3_matingMove a = .ok b) dm_cX3_matingMove_0 3 rfl
theorem dX3_matingMove_8 : decode cX3_matingMove 8 = .ok (.ireturn, 1) := dq0 (p := fun a b => decode cX3_matingMove a = .ok b) dm_cX3_matingMove_0 4 rfl
theorem dX3_matingMove_9 : decode cX3_matingMove 9 = .ok (.aload_n 0, 1) := dq0 (p := fun a b => decode cX3_matingMove a = .ok b) dm_cX3_matingMove_0 5 rfl
theorem dX3_matingMove_10 : decode cX3_matingMove 10 = .ok (.getfield 25, 3) := dq0 (p := fun a b => decode cX3_matingMove a = .ok b) dm_cX3_matingMove_0 6 rfl
theorem dX3_matingMove_13 : decode cX3_matingMove 13 = .ok (.getfield 28, 3) := dq0 (p := fun a b => decode cX3_matingMove a = .ok b) dm_cX3_matingMove_0 7 rfl
theorem dX3_matingMove_16 : decode cX3_matingMove 16 = .ok (.astore_n 1, 1) := dq0 (p := fun a b => decode cX3_matingMove a = .ok b) dm_cX3_matingMove_0 8 rfl
theorem dX3_matingMove_17 : decode cX3_matingMove 17 = .ok (.aload_n 1, 1) := dq0 (p := fun a b => decode cX3_matingMove a = .ok b) dm_cX3_matingMove_0 9 rfl
theorem dX3_matingMove_18 : decode cX3_matingMove 18 = .ok (.invokevirtual 162, 3) := dq0 (p := fun a b => decode cX3_matingMove a = .ok b) dm_cX3_matingMove_0 10 rfl
theorem dX3_matingMove_21 : decode cX3_matingMove 21 = .ok (.lstore_n 2, 1) := dq0 (p := fun a b => decode cX3_matingMove a = .ok b) dm_cX3_matingMove_0 11 rfl
theorem dX3_matingMove_22 : decode cX3_matingMove 22 = .ok (.iconst 0, 1) := dq0 (p := fun a b => decode cX3_matingMove a = .ok b) dm_cX3_matingMove_0 12 rfl
theorem dX3_matingMove_23 : decode cX3_matingMove 23 = .ok (.istore 4, 2) := dq0 (p := fun a b => decode cX3_matingMove a = .ok b) dm_cX3_matingMove_0 13 rfl
theorem dX3_matingMove_25 : decode cX3_matingMove 25 = .ok (.iload 4, 2) := dq0 (p := fun a b => decode cX3_matingMove a = .ok b) dm_cX3_matingMove_0 14 rfl
theorem dX3_matingMove_27 : decode cX3_matingMove 27 = .ok (.bipush 64, 2) := dq0 (p := fun a b => decode cX3_matingMove a = .ok b) dm_cX3_matingMove_0 15 rfl
theorem dX3_matingMove_29 : decode cX3_matingMove 29 = .ok (.if_icmp .ge 94, 3) := dq0 (p := fun a b => decode cX3_matingMove a = .ok b) dm_cX3_matingMove_0 16 rfl
theorem dX3_matingMove_32 : decode cX3_matingMove 32 = .ok (.aload_n 1, 1) := dq0 (p := fun a b => decode cX3_matingMove a = .ok b) dm_cX3_matingMove_0 17 rfl
theorem dX3_matingMove_33 : decode cX3_matingMove 33 = .ok (.invokevirtual 159, 3) := dq0 (p := fun a b => decode cX3_matingMove a = .ok b) dm_cX3_matingMove_0 18 rfl
theorem dX3_matingMove_36 : decode cX3_matingMove 36 = .ok (.iload 4, 2) := dq0 (p := fun a b => decode cX3_matingMove a = .ok b) dm_cX3_matingMove_0 19 rfl
theorem dX3_matingMove_38 : decode cX3_matingMove 38 = .ok (.invokestatic 104, 3) := dq0 (p := fun a b => decode cX3_matingMove a = .ok b) dm_cX3_matingMove_0 20 rfl
theorem dX3_matingMove_41 : decode cX3_matingMove 41 = .ok (.ifCond .eq 13, 3) := dq0 (p := fun a b => decode cX3_matingMove a = .ok b) dm_cX3_matingMove_0 21 rfl
theorem dX3_matingMove_44 : decode cX3_matingMove 44 = .ok (.aload_n 1, 1) := dq0 (p := fun a b => decode cX3_matingMove a = .ok b) dm_cX3_matingMove_0 22 rfl
theorem dX3_matingMove_45 : decode cX3_matingMove 45 = .ok (.iload 4, 2) := dq0 (p := fun a b => decode cX3_matingMove a = .ok b) dm_cX3_matingMove_0 23 rfl
theorem dX3_matingMove_47 : decode cX3_matingMove 47 = .ok (.lload_n 2, 1) := dq0 (p := fun a b => decode cX3_matingMove a = .ok b) dm_cX3_matingMove_0 24 rfl
theorem dX3_matingMove_48 : decode cX3_matingMove 48 = .ok (.invokevirtual 165, 3) := dq0 (p := fun a b => decode cX3_matingMove a = .ok b) dm_cX3_matingMove_0 25 rfl
theorem dX3_matingMove_51 : decode cX3_matingMove 51 = .ok (.goto 4, 3) := dq0 (p := fun a b => decode cX3_matingMove a = .ok b) dm_cX3_matingMove_0 26 rfl
theorem dX3_matingMove_54 : decode cX3_matingMove 54 = .ok (.lconst 0, 1) := dq0 (p := fun a b => decode cX3_matingMove a = .ok b) dm_cX3_matingMove_0 27 rfl
theorem dX3_matingMove_55 : decode cX3_matingMove 55 = .ok (.lstore 5, 2) := dq0 (p := fun a b => decode cX3_matingMove a = .ok b) dm_cX3_matingMove_0 28 rfl
theorem dX3_matingMove_57 : decode cX3_matingMove 57 = .ok (.iconst 0, 1) := dq0 (p := fun a b => decode cX3_matingMove a = .ok b) dm_cX3_matingMove_0 29 rfl
theorem dX3_matingMove_58 : decode cX3_matingMove 58 = .ok (.istore 7, 2) := dq0 (p := fun a b => decode cX3_matingMove a = .ok b) dm_cX3_matingMove_0 30 rfl
theorem dX3_matingMove_60 : decode cX3_matingMove 60 = .ok (.iload 7, 2) := dq0 (p := fun a b => decode cX3_matingMove a = .ok b) dm_cX3_matingMove_0 31 rfl
theorem dX3_matingMove_62 : decode cX3_matingMove 62 = .ok (.bipush 64, 2) := dq0 (p := fun a b => decode cX3_matingMove a = .ok b) dm_cX3_matingMove_0 32 rfl
theorem dX3_matingMove_64 : decode cX3_matingMove 64 = .ok (.if_icmp .ge 53, 3) := dq0 (p := fun a b => decode cX3_matingMove a = .ok b) dm_cX3_matingMove_0 33 rfl
theorem dX3_matingMove_67 : decode cX3_matingMove 67 = .ok (.lload 5, 2) := dq0 (p := fun a b => decode cX3_matingMove a = .ok b) dm_cX3_matingMove_0 34 rfl
theorem dX3_matingMove_69 : decode cX3_matingMove 69 = .ok (.lconst 0, 1) := dq0 (p := fun a b => decode cX3_matingMove a = .ok b) dm_cX3_matingMove_0 35 rfl
theorem dX3_matingMove_70 : decode cX3_matingMove 70 = .ok (.lcmp, 1) := dq0 (p := fun a b => decode cX3_matingMove a = .ok b) dm_cX3_matingMove_0 36 rfl
theorem dX3_matingMove_71 : decode cX3_matingMove 71 = .ok (.ifCond .eq 46, 3) := dq0 (p := fun a b => decode cX3_matingMove a = .ok b) dm_cX3_matingMove_0 37 rfl
theorem dX3_matingMove_74 : decode cX3_matingMove 74 = .ok (.lload 5, 2) := dq0 (p := fun a b => decode cX3_matingMove a = .ok b) dm_cX3_matingMove_0 38 rfl
theorem dX3_matingMove_76 : decode cX3_matingMove 76 = .ok (.iload 7, 2) := dq0 (p := fun a b => decode cX3_matingMove a = .ok b) dm_cX3_matingMove_0 39 rfl
theorem dX3_matingMove_78 : decode cX3_matingMove 78 = .ok (.invokestatic 104, 3) := dq0 (p := fun a b => decode cX3_matingMove a = .ok b) dm_cX3_matingMove_0 40 rfl
theorem dX3_matingMove_81 : decode cX3_matingMove 81 = .ok (.ifCond .eq 30, 3) := dq0 (p := fun a b => decode cX3_matingMove a = .ok b) dm_cX3_matingMove_0 41 rfl
theorem dX3_matingMove_84 : decode cX3_matingMove 84 = .ok (.aload_n 0, 1) := dq0 (p := fun a b => decode cX3_matingMove a = .ok b) dm_cX3_matingMove_0 42 rfl
theorem dX3_matingMove_85 : decode cX3_matingMove 85 = .ok (.iload 4, 2) := dq0 (p := fun a b => decode cX3_matingMove a = .ok b) dm_cX3_matingMove_0 43 rfl
theorem dX3_matingMove_87 : decode cX3_matingMove 87 = .ok (.iload 7, 2) := dq0 (p := fun a b => decode cX3_matingMove a = .ok b) dm_cX3_matingMove_0 44 rfl
theorem dX3_matingMove_89 : decode cX3_matingMove 89 = .ok (.invokevirtual 182, 3) := dq0 (p := fun a b => decode cX3_matingMove a = .ok b) dm_cX3_matingMove_0 45 rfl
theorem dX3_matingMove_92 : decode cX3_matingMove 92 = .ok (.aload_n 0, 1) := dq0 (p := fun a b => decode cX3_matingMove a = .ok b) dm_cX3_matingMove_0 46 rfl
theorem dX3_matingMove_93 : decode cX3_matingMove 93 = .ok (.getfield 21, 3) := dq0 (p := fun a b => decode cX3_matingMove a = .ok b) dm_cX3_matingMove_0 47 rfl
theorem dX3_matingMove_96 : decode cX3_matingMove 96 = .ok (.invokevirtual 185, 3) := dq0 (p := fun a b => decode cX3_matingMove a = .ok b) dm_cX3_matingMove_0 48 rfl
theorem dX3_matingMove_99 : decode cX3_matingMove 99 = .ok (.ifCond .eq 12, 3) := dq0 (p := fun a b => decode cX3_matingMove a = .ok b) dm_cX3_matingMove_0 49 rfl
theorem dX3_matingMove_102 : decode cX3_matingMove 102 = .ok (.bipush 64, 2) := dq0 (p := fun a b => decode cX3_matingMove a = .ok b) dm_cX3_matingMove_0 50 rfl
theorem dX3_matingMove_104 : decode cX3_matingMove 104 = .ok (.iload 4, 2) := dq0 (p := fun a b => decode cX3_matingMove a = .ok b) dm_cX3_matingMove_0 51 rfl
theorem dX3_matingMove_106 : decode cX3_matingMove 106 = .ok (.imul, 1) := dq0 (p := fun a b => decode cX3_matingMove a = .ok b) dm_cX3_matingMove_0 52 rfl
theorem dX3_matingMove_107 : decode cX3_matingMove 107 = .ok (.iload 7, 2) := dq0 (p := fun a b => decode cX3_matingMove a = .ok b) dm_cX3_matingMove_0 53 rfl
theorem dX3_matingMove_109 : decode cX3_matingMove 109 = .ok (.iadd, 1) := dq0 (p := fun a b => decode cX3_matingMove a = .ok b) dm_cX3_matingMove_0 54 rfl
theorem dX3_matingMove_110 : decode cX3_matingMove 110 = .ok (.ireturn, 1) := dq0 (p := fun a b => decode cX3_matingMove a = .ok b) dm_cX3_matingMove_0 55 rfl
theorem dX3_matingMove_111 : decode cX3_matingMove 111 = .ok (.iinc 7 1, 3) := dq0 (p := fun a b => decode cX3_matingMove a = .ok b) dm_cX3_matingMove_0 56 rfl
theorem dX3_matingMove_114 : decode cX3_matingMove 114 = .ok (.goto (-54), 3) := dq0 (p := fun a b => decode cX3_matingMove a = .ok b) dm_cX3_matingMove_0 57 rfl
theorem dX3_matingMove_117 : decode cX3_matingMove 117 = .ok (.iinc 4 1, 3) := dq0 (p := fun a b => decode cX3_matingMove a = .ok b) dm_cX3_matingMove_0 58 rfl
theorem dX3_matingMove_120 : decode cX3_matingMove 120 = .ok (.goto (-95), 3) := dq0 (p := fun a b => decode cX3_matingMove a = .ok b) dm_cX3_matingMove_0 59 rfl
theorem dm_cX3_matingMove_1 : ([(123, .iconst (-1), 1), (124, .ireturn, 1)] : List (Nat × Instr × Nat)).all (fun t => decide (decode cX3_matingMove t.1 = .ok t.2)) = true := by decide +kernel
theorem dX3_matingMove_123 : decode cX3_matingMove 123 = .ok (.iconst (-1), 1) := dq0 (p := fun a b => decode cX3_matingMove a = .ok b) dm_cX3_matingMove_1 0 rfl
theorem dX3_matingMove_124 : decode cX3_matingMove 124 = .ok (.ireturn, 1) := dq0 (p := fun a b => decode cX3_matingMove a = .ok b) dm_cX3_matingMove_1 1 rfl
theorem dm_cX3_countSequences_0 : ([(0, .iload_n 1, 1), (1, .iconst 1, 1), (2, .if_icmp .eq 18, 3), (5, .iload_n 1, 1), (6, .iconst 2, 1), (7, .if_icmp .eq 13, 3), (10, .new 188, 3), (13, .dup, 1), (14, .ldc 190, 2), (16, .invokespecial 192, 3), (19, .athrow, 1), (20, .aload_n 0, 1), (21, .getfield 43, 3), (24, .ifCond .eq 5, 3), (27, .iconst 0, 1), (28, .ireturn, 1), (29, .iload_n 1, 1), (30, .iconst 1, 1), (31, .if_icmp .ne 16, 3), (34, .aload_n 0, 1), (35, .getfield 25, 3), (38, .getfield 28, 3), (41, .invokevirtual 169, 3), (44, .goto 7, 3), (47, .aload_n 0, 1), (48, .invokevirtual 193, 3), (51, .ireturn, 1)] : List (Nat × Instr × Nat)).all (fun t => decide (decode cX3_countSequences t.1 = .ok t.2)) = true := by decide +kernel
theorem dX3_countSequences_0 : decode cX3_countSequences 0 = .ok (.iload_n 1, 1) := dq0 (p := fun a b => decode cX3_countSequences a = .ok b) dm_cX3_countSequences_0 0 rfl
theorem dX3_countSequences_1 : decode cX3_countSequences 1 = .ok (.iconst 1, 1) := dq0 (p := fun a b => decode cX3_countSequences a = .ok b) dm_cX3_countSequences_0 1 rfl
theorem dX3_countSequences_2 : decode cX3_countSequences 2 = .ok (.if_icmp .eq 18, 3) := dq0 (p := fun a b => decode cX3_countSequences a = .ok b) dm_cX3_countSequences_0 2 rfl
theorem dX3_countSequences_5 : decode cX3_countSequences 5 = .ok (.iload_n 1, 1) := dq0 (p := fun a b => decode cX3_countSequences a = .ok b) dm_cX3_countSequences_0 3 rfl
theorem dX3_countSequences_6 : decode cX3_countSequences 6 = .ok (.iconst 2, 1) := dq0 (p := fun a b => decode cX3_countSequences a = .ok b) dm_cX3_countSequences_0 4 rfl
theorem dX3_countSequences_7 : decode cX3_countSequences 7 = .ok (.if_icmp .eq 13, 3) := dq0 (p := fun a b => decode cX3_countSequences a = .ok b) dm_cX3_countSequences_0 5 rfl
theorem dX3_countSequences_10 : decode cX3_countSequences 10 = .ok (.new 188, 3) := dq0 (p := fun a b => decode cX3_countSequences a = .ok b) dm_cX3_countSequences_0 6 rfl
theorem dX3_countSequences_13 : decode cX3_countSequences 13 = .ok (.dup, 1) := dq0 (p := fun a b => decode cX3_countSequences a = .ok b) dm_cX3_countSequences_0 7 rfl
theorem dX3_countSequences_14 : decode cX3_countSequences 14 = .ok (.ldc 190, 2) := dq0 (p := fun a b => decode cX3_countSequences a = .ok b) dm_cX3_countSequences_0 8 rfl
theorem dX3_countSequences_16 : decode cX3_countSequences 16 = .ok (.invokespecial 192, 3) := dq0 (p := fun a b => decode cX3_countSequences a = .ok b) dm_cX3_countSequences_0 9 rfl
theorem dX3_countSequences_19 : decode cX3_countSequences 19 = .ok (.athrow, 1) := dq0 (p := fun a b => decode cX3_countSequences a = .ok b) dm_cX3_countSequences_0 10 rfl
theorem dX3_countSequences_20 : decode cX3_countSequences 20 = .ok (.aload_n 0, 1) := dq0 (p := fun a b => decode cX3_countSequences a = .ok b) dm_cX3_countSequences_0 11 rfl
theorem dX3_countSequences_21 : decode cX3_countSequences 21 = .ok (.getfield 43, 3) := dq0 (p := fun a b => decode cX3_countSequences a = .ok b) dm_cX3_countSequences_0 12 rfl
theorem dX3_countSequences_24 : decode cX3_countSequences 24 = .ok (.ifCond .eq 5, 3) := dq0 (p := fun a b => decode cX3_countSequences a = .ok b) dm_cX3_countSequences_0 13 rfl
theorem dX3_countSequences_27 : decode cX3_countSequences 27 = .ok (.iconst 0, 1) := dq0 (p := fun a b => decode cX3_countSequences a = .ok b) dm_cX3_countSequences_0 14 rfl
theorem dX3_countSequences_28 : decode cX3_countSequences 28 = .ok (.ireturn, 1) := dq0 (p := fun a b => decode cX3_countSequences a = .ok b) dm_cX3_countSequences_0 15 rfl
theorem dX3_countSequences_29 : decode cX3_countSequences 29 = .ok (.iload_n 1, 1) := dq0 (p := fun a b => decode cX3_countSequences a = .ok b) dm_cX3_countSequences_0 16 rfl
theorem dX3_countSequences_30 : decode cX3_countSequences 30 = .ok (.iconst 1, 1) := dq0 (p := fun a b => decode cX3_countSequences a = .ok b) dm_cX3_countSequences_0 17 rfl
theorem dX3_countSequences_31 : decode cX3_countSequences 31 = .ok (.if_icmp .ne 16, 3) := dq0 (p := fun a b => decode cX3_countSequences a = .ok b) dm_cX3_countSequences_0 18 rfl
theorem dX3_countSequences_34 : decode cX3_countSequences 34 = .ok (.aload_n 0, 1) := dq0 (p := fun a b => decode cX3_countSequences a = .ok b) dm_cX3_countSequences_0 19 rfl
theorem dX3_countSequences_35 : decode cX3_countSequences 35 = .ok (.getfield 25, 3) := dq0 (p := fun a b => decode cX3_countSequences a = .ok b) dm_cX3_countSequences_0 20 rfl
theorem dX3_countSequences_38 : decode cX3_countSequences 38 = .ok (.getfield 28, 3) := dq0 (p := fun a b => decode cX3_countSequences a = .ok b) dm_cX3_countSequences_0 21 rfl
theorem dX3_countSequences_41 : decode cX3_countSequences 41 = .ok (.invokevirtual 169, 3) := dq0 (p := fun a b => decode cX3_countSequences a = .ok b) dm_cX3_countSequences_0 22 rfl
theorem dX3_countSequences_44 : decode cX3_countSequences 44 = .ok (.goto 7, 3) := dq0 (p := fun a b => decode cX3_countSequences a = .ok b) dm_cX3_countSequences_0 23 rfl
theorem dX3_countSequences_47 : decode cX3_countSequences 47 = .ok (.aload_n 0, 1) := dq0 (p := fun a b => decode cX3_countSequences a = .ok b) dm_cX3_countSequences_0 24 rfl
theorem dX3_countSequences_48 : decode cX3_countSequences 48 = .ok (.invokevirtual 193, 3) := dq0 (p := fun a b => decode cX3_countSequences a = .ok b) dm_cX3_countSequences_0 25 rfl
theorem dX3_countSequences_51 : decode cX3_countSequences 51 = .ok (.ireturn, 1) := dq0 (p := fun a b => decode cX3_countSequences a = .ok b) dm_cX3_countSequences_0 26 rfl
theorem dm_cX3_move_0 : ([(0, .aload_n 0, 1), (1, .iload_n 1, 1), (2, .iload_n 2, 1), (3, .invokevirtual 196, 3), (6, .ifCond .ne 10, 3), (9, .aload_n 0, 1), (10, .invokevirtual 199, 3), (13, .ifCond .eq 13, 3), (16, .new 65, 3), (19, .dup, 1), (20, .ldc 202, 2), (22, .invokespecial 69, 3), (25, .athrow, 1), (26, .aload_n 0, 1), (27, .getfield 25, 3), (30, .getfield 28, 3), (33, .iload_n 1, 1), (34, .invokevirtual 82, 3), (37, .bipush 6, 2), (39, .if_icmp .ne 7, 3), (42, .iconst 1, 1), (43, .goto 4, 3), (46, .iconst 0, 1), (47, .istore_n 3, 1), (48, .aload_n 0, 1), (49, .invokevirtual 204, 3), (52, .aload_n 0, 1), (53, .getfield 25, 3), (56, .getfield 28, 3), (59, .iload_n 1, 1), (60, .iload_n 2, 1), (61, .invokevirtual 207, 3), (64, .istore 4, 2), (66, .aload_n 0, 1), (67, .getfield 25, 3), (70, .iload 4, 2), (72, .putfield 210, 3), (75, .iload 4, 2), (77, .ifCond .ne 7, 3), (80, .iload_n 3, 1), (81, .ifCond .eq 11, 3), (84, .aload_n 0, 1), (85, .getfield 25, 3), (88, .iconst 0, 1), (89, .putfield 213, 3), (92, .aload_n 0, 1), (93, .getfield 25, 3), (96, .getfield 28, 3), (99, .invokevirtual 216, 3), (102, .aload_n 0, 1), (103, .getfield 25, 3), (106, .aload_n 0, 1), (107, .invokevirtual 100, 3), (110, .putfield 47, 3), (113, .iload 4, 2), (115, .ireturn, 1)] : List (Nat × Instr × Nat)).all (fun t => decide (decode cX3_move t.1 = .ok t.2)) = true := by decide +kernel
theorem dX3_move_0 : decode cX3_move 0 = .ok (.aload_n 0, 1) := dq0 (p := fun a b => decode cX3_move a = .ok b) dm_cX3_move_0 0 rfl
theorem dX3_move_1 : decode cX3_move 1 = .ok (.iload_n 1, 1) := dq0 (p := fun a b => decode cX3_move a = .ok b) dm_cX3_move_0 1 rfl
theorem dX3_move_2 : decode cX3_move 2 = .ok (.iload_n 2, 1) := dq0 (p := fun a b => decode cX3_move a = .ok b) dm_cX3_move_0 2 rfl
theorem dX3_move_3 : decode cX3_move 3 = .ok (.invokevirtual 196, 3) := dq0 (p := fun a b => decode cX3_move a = .ok b) dm_cX3_move_0 3 rfl
theorem dX3_move_6 : decode cX3_move 6 = .ok (.ifCond .ne 10, 3) := dq0 (p := fun a b => decode cX3_move a = .ok b) dm_cX3_move_0 4 rfl
theorem dX3_move_9 : decode cX3_move 9 = .ok (.aload_n 0, 1) := dq0 (p := fun a b => decode cX3_move a = .ok b) dm_cX3_move_0 5 rfl
theorem dX3_move_10 : decode cX3_move 10 = .ok (.invokevirtual 199, 3) := dq0 (p := fun a b => decode cX3_move a = .ok b) dm_cX3_move_0 6 rfl
theorem dX3_move_13 : decode cX3_move 13 = .ok (.ifCond .eq 13, 3) := dq0 (p := fun a b => decode cX3_move a = .ok b) dm_cX3_move_0 7 rfl
theorem dX3_move_16 : decode cX3_move 16 = .ok (.new 65, 3) := dq0 (p := fun a b => decode cX3_move a = .ok b) dm_cX3_move_0 8 rfl
theorem dX3_move_19 : decode cX3_move 19 = .ok (.dup, 1) := dq0 (p := fun a b => decode cX3_move a = .ok b) dm_cX3_move_0 9 rfl
theorem dX3_move_20 : decode cX3_move 20 = .ok (.ldc 202, 2) := dq0 (p := fun a b => decode cX3_move a = .ok b) dm_cX3_move_0 10 rfl
theorem dX3_move_22 : decode cX3_move 22 = .ok (.invokespecial 69, 3) := dq0 (p := fun a b => decode cX3_move a = .ok b) dm_cX3_move_0 11 rfl
theorem dX3_move_25 : decode cX3_move 25 = .ok (.athrow, 1) := dq0 (p := fun a b => decode cX3_move a = .ok b) dm_cX3_move_0 12 rfl
theorem dX3_move_26 : decode cX3_move 26 = .ok (.aload_n 0, 1) := dq0 (p := fun a b => decode cX3_move a = .ok b) dm_cX3_move_0 13 rfl
theorem dX3_move_27 : decode cX3_move 27 = .ok (.getfield 25, 3) := dq0 (p := fun a b => decode cX3_move a = .ok b) dm_cX3_move_0 14 rfl
theorem dX3_move_30 : decode cX3_move 30 = .ok (.getfield 28, 3) := dq0 (p := fun a b => decode cX3_move a = .ok b) dm_cX3_move_0 15 rfl
theorem dX3_move_33 : decode cX3_move 33 = .ok (.iload_n 1, 1) := dq0 (p := fun a b => decode cX3_move a = .ok b) dm_cX3_move_0 16 rfl
theorem dX3_move_34 : decode cX3_move 34 = .ok (.invokevirtual 82, 3) := dq0 (p := fun a b => decode cX3_move a = .ok b) dm_cX3_move_0 17 rfl
theorem dX3_move_37 : decode cX3_move 37 = .ok (.bipush 6, 2) := dq0 (p := fun a b => decode cX3_move a = .ok b) dm_cX3_move_0 18 rfl
theorem dX3_move_39 : decode cX3_move 39 = .ok (.if_icmp .ne 7, 3) := dq0 (p := fun a b => decode cX3_move a = .ok b) dm_cX3_move_0 19 rfl
theorem dX3_move_42 : decode cX3_move 42 = .ok (.iconst 1, 1) := dq0 (p := fun a b => decode cX3_move a = .ok b) dm_cX3_move_0 20 rfl
theorem dX3_move_43 : decode cX3_move 43 = .ok (.goto 4, 3) := dq0 (p := fun a b => decode cX3_move a = .ok b) dm_cX3_move_0 21 rfl
theorem dX3_move_46 : decode cX3_move 46 = .ok (.iconst 0, 1) := dq0 (p := fun a b => decode cX3_move a = .ok b) dm_cX3_move_0 22 rfl
theorem dX3_move_47 : decode cX3_move 47 = .ok (.istore_n 3, 1) := dq0 (p := fun a b => decode cX3_move a = .ok b) dm_cX3_move_0 23 rfl
theorem dX3_move_48 : decode cX3_move 48 = .ok (.aload_n 0, 1) := dq0 (p := fun a b => decode cX3_move a = .ok b) dm_cX3_move_0 24 rfl
theorem dX3_move_49 : decode cX3_move 49 = .ok (.invokevirtual 204, 3) := dq0 (p := fun a b => decode cX3_move a = .ok b) dm_cX3_move_0 25 rfl
theorem dX3_move_52 : decode cX3_move 52 = .ok (.aload_n 0, 1) := dq0 (p := fun a b => decode cX3_move a = .ok b) dm_cX3_move_0 26 rfl
theorem dX3_move_53 : decode cX3_move 53 = .ok (.getfield 25, 3) := dq0 (p := fun a b => decode cX3_move a = .ok b) dm_cX3_move_0 27 rfl
theorem dX3_move_56 : decode cX3_move 56 = .ok (.getfield 28, 3) := dq0 (p := fun a b => decode cX3_move a = .ok b) dm_cX3_move_0 28 rfl
theorem dX3_move_59 : decode cX3_move 59 = .ok (.iload_n 1, 1) := dq0 (p := fun a b => decode cX3_move a = .ok b) dm_cX3_move_0 29 rfl
theorem dX3_move_60 : decode cX3_move 60 = .ok (.iload_n 2, 1) := dq0 (p := fun a b => decode cX3_move a = .ok b) dm_cX3_move_0 30 rfl
theorem dX3_move_61 : decode cX3_move 61 = .ok (.invokevirtual 207, 3) := dq0 (p := fun a b => decode cX3_move a = .ok b) dm_cX3_move_0 31 rfl
theorem dX3_move_64 : decode cX3_move 64 = .ok (.istore 4, 2) := dq0 (p := fun a b => decode cX3_move a = .ok b) dm_cX3_move_0 32 rfl
theorem dX3_move_66 : decode cX3_move 66 = .ok (.aload_n 0, 1) := dq0 (p := fun a b => decode cX3_move a = .ok b) dm_cX3_move_0 33 rfl
theorem dX3_move_67 : decode cX3_move 67 = .ok (.getfield 25, 3) := dq0 (p := fun a b => decode cX3_move a = .ok b) dm_cX3_move_0 34 rfl
theorem dX3_move_70 : decode cX3_move 70 = .ok (.iload 4, 2) := dq0 (p := fun a b => decode cX3_move a = .ok b) dm_cX3_move_0 35 rfl
theorem dX3_move_72 : decode cX3_move 72 = .ok (.putfield 210, 3) := dq0 (p := fun a b => decode cX3_move a = .ok b) dm_cX3_move_0 36 rfl
theorem dX3_move_75 : decode cX3_move 75 = .ok (.iload 4, 2) := dq0 (p := fun a b => decode cX3_move a = .ok b) dm_cX3_move_0 37 rfl
theorem dX3_move_77 : decode cX3_move 77 = .ok (.ifCond .ne 7, 3) := dq0 (p := fun a b => decode cX3_move a = .ok b) dm_cX3_move_0 38 rfl
theorem dX3_move_80 : decode cX3_move 80 = .ok (.iload_n 3, 1) := dq0 (p := fun a b => decode cX3_move a = .ok b) dm_cX3_move_0 39 rfl
theorem dX3_move_81 : decode cX3_move 81 = .ok (.ifCond .eq 11, 3) := dq0 (p := fun a b => decode cX3_move a = .ok b) dm_cX3_move_0 40 rfl
theorem dX3_move_84 : decode cX3_move 84 = .ok (.aload_n 0, 1) := dq0 (p := fun a b => decode cX3_move a = .ok b) dm_cX3_move_0 41 rfl
theorem dX3_move_85 : decode cX3_move 85 = .ok (.getfield 25, 3) := dq0 (p := fun a b => decode cX3_move a = .ok b) dm_cX3_move_0 42 rfl
theorem dX3_move_88 : decode cX3_move 88 = .ok (.iconst 0, 1) := dq0 (p := fun a b => decode cX3_move a = .ok b) dm_cX3_move_0 43 rfl
theorem dX3_move_89 : decode cX3_move 89 = .ok (.putfield 213, 3) := dq0 (p := fun a b => decode cX3_move a = .ok b) dm_cX3_move_0 44 rfl
theorem dX3_move_92 : decode cX3_move 92 = .ok (.aload_n 0, 1) := dq0 (p := fun a b => decode cX3_move a = .ok b) dm_cX3_move_0 45 rfl
theorem dX3_move_93 : decode cX3_move 93 = .ok (.getfield 25, 3) := dq0 (p := fun a b => decode cX3_move a = .ok b) dm_cX3_move_0 46 rfl
theorem dX3_move_96 : decode cX3_move 96 = .ok (.getfield 28, 3) := dq0 (p := fun a b => decode cX3_move a = .ok b) dm_cX3_move_0 47 rfl
theorem dX3_move_99 : decode cX3_move 99 = .ok (.invokevirtual 216, 3) := dq0 (p := fun a b => decode cX3_move a = .ok b) dm_cX3_move_0 48 rfl
theorem dX3_move_102 : decode cX3_move 102 = .ok (.aload_n 0, 1) := dq0 (p := fun a b => decode cX3_move a = .ok b) dm_cX3_move_0 49 rfl
theorem dX3_move_103 : decode cX3_move 103 = .ok (.getfield 25, 3) := dq0 (p := fun a b => decode cX3_move a = .ok b) dm_cX3_move_0 50 rfl
theorem dX3_move_106 : decode cX3_move 106 = .ok (.aload_n 0, 1) := dq0 (p := fun a b => decode cX3_move a = .ok b) dm_cX3_move_0 51 rfl
theorem dX3_move_107 : decode cX3_move 107 = .ok (.invokevirtual 100, 3) := dq0 (p := fun a b => decode cX3_move a = .ok b) dm_cX3_move_0 52 rfl
theorem dX3_move_110 : decode cX3_move 110 = .ok (.putfield 47, 3) := dq0 (p := fun a b => decode cX3_move a = .ok b) dm_cX3_move_0 53 rfl
theorem dX3_move_113 : decode cX3_move 113 = .ok (.iload 4, 2) := dq0 (p := fun a b => decode cX3_move a = .ok b) dm_cX3_move_0 54 rfl
theorem dX3_move_115 : decode cX3_move 115 = .ok (.ireturn, 1) := dq0 (p := fun a b => decode cX3_move a = .ok b) dm_cX3_move_0 55 rfl
theorem dm_cX3_bond_0 : ([(0, .aload_n 0, 1), (1, .iload_n 1, 1), (2, .iload_n 2, 1), (3, .invokevirtual 219, 3), (6, .ifCond .ne 10, 3), (9, .aload_n 0, 1), (10, .invokevirtual 199, 3), (13, .ifCond .eq 13, 3), (16, .new 65, 3), (19, .dup, 1), (20, .ldc 222, 2), (22, .invokespecial 69, 3), (25, .athrow, 1), (26, .aload_n 0, 1), (27, .invokevirtual 204, 3), (30, .aload_n 0, 1), (31, .getfield 25, 3), (34, .getfield 28, 3), (37, .iload_n 1, 1), (38, .iload_n 2, 1), (39, .invokevirtual 39, 3), (42, .aload_n 0, 1), (43, .getfield 25, 3), (46, .getfield 28, 3), (49, .invokevirtual 216, 3), (52, .aload_n 0, 1), (53, .getfield 25, 3), (56, .aload_n 0, 1), (57, .invokevirtual 100, 3), (60, .putfield 47, 3), (63, .iload_n 1, 1), (64, .iload_n 2, 1), (65, .invokestatic 130, 3), (68, .ireturn, 1)] : List (Nat × Instr × Nat)).all (fun t => decide (decode cX3_bond t.1 = .ok t.2)) = true := by decide +kernel
theorem dX3_bond_0 : decode cX3_bond 0 = .ok (.aload_n 0, 1) := dq0 (p := fun a b => decode cX3_bond a = .ok b) dm_cX3_bond_0 0 rfl
theorem dX3_bond_1 : decode cX3_bond 1 = .ok (.iload_n 1, 1) := dq0 (p := fun a b => decode cX3_bond a = .ok b) dm_cX3_bond_0 1 rfl
theorem dX3_bond_2 : decode cX3_bond 2 = .ok (.iload_n 2, 1) := dq0 (p := fun a b => decode cX3_bond a = .ok b) dm_cX3_bond_0 2 rfl
theorem dX3_bond_3 : decode cX3_bond 3 = .ok (.invokevirtual 219, 3) := dq0 (p := fun a b => decode cX3_bond a = .ok b) dm_cX3_bond_0 3 rfl
theorem dX3_bond_6 : decode cX3_bond 6 = .ok (.ifCond .ne 10, 3) := dq0 (p := fun a b => decode cX3_bond a = .ok b) dm_cX3_bond_0 4 rfl
theorem dX3_bond_9 : decode cX3_bond 9 = .ok (.aload_n 0, 1) := dq0 (p := fun a b => decode cX3_bond a = .ok b) dm_cX3_bond_0 5 rfl
theorem dX3_bond_10 : decode cX3_bond 10 = .ok (.invokevirtual 199, 3) := dq0 (p := fun a b => decode cX3_bond a = .ok b) dm_cX3_bond_0 6 rfl
theorem dX3_bond_13 : decode cX3_bond 13 = .ok (.ifCond .eq 13, 3) := dq0 (p := fun a b => decode cX3_bond a = .ok b) dm_cX3_bond_0 7 rfl
theorem dX3_bond_16 : decode cX3_bond 16 = .ok (.new 65, 3) := dq0 (p := fun a b => decode cX3_bond a = .ok b) dm_cX3_bond_0 8 rfl
theorem dX3_bond_19 : decode cX3_bond 19 = .ok (.dup, 1) := dq0 (p := fun a b => decode cX3_bond a = .ok b) dm_cX3_bond_0 9 rfl
theorem dX3_bond_20 : decode cX3_bond 20 = .ok (.ldc 222, 2) := dq0 (p := fun a b => decode cX3_bond a = .ok b) dm_cX3_bond_0 10 rfl
theorem dX3_bond_22 : decode cX3_bond 22 = .ok (.invokespecial 69, 3) := dq0 (p := fun a b => decode cX3_bond a = .ok b) dm_cX3_bond_0 11 rfl
theorem dX3_bond_25 : decode cX3_bond 25 = .ok (.athrow, 1) := dq0 (p := fun a b => decode cX3_bond a = .ok b) dm_cX3_bond_0 12 rfl
theorem dX3_bond_26 : decode cX3_bond 26 = .ok (.aload_n 0, 1) := dq0 (p := fun a b => decode cX3_bond a = .ok b) dm_cX3_bond_0 13 rfl
theorem dX3_bond_27 : decode cX3_bond 27 = .ok (.invokevirtual 204, 3) := dq0 (p := fun a b => decode cX3_bond a = .ok b) dm_cX3_bond_0 14 rfl
theorem dX3_bond_30 : decode cX3_bond 30 = .ok (.aload_n 0, 1) := dq0 (p := fun a b => decode cX3_bond a = .ok b) dm_cX3_bond_0 15 rfl
theorem dX3_bond_31 : decode cX3_bond 31 = .ok (.getfield 25, 3) := dq0 (p := fun a b => decode cX3_bond a = .ok b) dm_cX3_bond_0 16 rfl
theorem dX3_bond_34 : decode cX3_bond 34 = .ok (.getfield 28, 3) := dq0 (p := fun a b => decode cX3_bond a = .ok b) dm_cX3_bond_0 17 rfl
theorem dX3_bond_37 : decode cX3_bond 37 = .ok (.iload_n 1, 1) := dq0 (p := fun a b => decode cX3_bond a = .ok b) dm_cX3_bond_0 18 rfl
theorem dX3_bond_38 : decode cX3_bond 38 = .ok (.iload_n 2, 1) := dq0 (p := fun a b => decode cX3_bond a = .ok b) dm_cX3_bond_0 19 rfl
theorem dX3_bond_39 : decode cX3_bond 39 = .ok (.invokevirtual 39, 3) := dq0 (p := fun a b => decode cX3_bond a = .ok b) dm_cX3_bond_0 20 rfl
theorem dX3_bond_42 : decode cX3_bond 42 = .ok (.aload_n 0, 1) := dq0 (p := fun a b => decode cX3_bond a = .ok b) dm_cX3_bond_0 21 rfl
theorem dX3_bond_43 : decode cX3_bond 43 = .ok (.getfield 25, 3) := dq0 (p := fun a b => decode cX3_bond a = .ok b) dm_cX3_bond_0 22 rfl
theorem dX3_bond_46 : decode cX3_bond 46 = .ok (.getfield 28, 3) := dq0 (p := fun a b => decode cX3_bond a = .ok b) dm_cX3_bond_0 23 rfl
theorem dX3_bond_49 : decode cX3_bond 49 = .ok (.invokevirtual 216, 3) := dq0 (p := fun a b => decode cX3_bond a = .ok b) dm_cX3_bond_0 24 rfl
theorem dX3_bond_52 : decode cX3_bond 52 = .ok (.aload_n 0, 1) := dq0 (p := fun a b => decode cX3_bond a = .ok b) dm_cX3_bond_0 25 rfl
theorem dX3_bond_53 : decode cX3_bond 53 = .ok (.getfield 25, 3) := dq0 (p := fun a b => decode cX3_bond a = .ok b) dm_cX3_bond_0 26 rfl
theorem dX3_bond_56 : decode cX3_bond 56 = .ok (.aload_n 0, 1) := dq0 (p := fun a b => decode cX3_bond a = .ok b) dm_cX3_bond_0 27 rfl
theorem dX3_bond_57 : decode cX3_bond 57 = .ok (.invokevirtual 100, 3) := dq0 (p := fun a b => decode cX3_bond a = .ok b) dm_cX3_bond_0 28 rfl
theorem dX3_bond_60 : decode cX3_bond 60 = .ok (.putfield 47, 3) := dq0 (p := fun a b => decode cX3_bond a = .ok b) dm_cX3_bond_0 29 rfl
theorem dX3_bond_63 : decode cX3_bond 63 = .ok (.iload_n 1, 1) := dq0 (p := fun a b => decode cX3_bond a = .ok b) dm_cX3_bond_0 30 rfl
theorem dX3_bond_64 : decode cX3_bond 64 = .ok (.iload_n 2, 1) := dq0 (p := fun a b => decode cX3_bond a = .ok b) dm_cX3_bond_0 31 rfl
theorem dX3_bond_65 : decode cX3_bond 65 = .ok (.invokestatic 130, 3) := dq0 (p := fun a b => decode cX3_bond a = .ok b) dm_cX3_bond_0 32 rfl
theorem dX3_bond_68 : decode cX3_bond 68 = .ok (.ireturn, 1) := dq0 (p := fun a b => decode cX3_bond a = .ok b) dm_cX3_bond_0 33 rfl
theorem dm_cX3_dissolve_0 : ([(0, .aload_n 0, 1), (1, .iload_n 1, 1), (2, .invokevirtual 224, 3), (5, .ifCond .ne 10, 3), (8, .aload_n 0, 1), (9, .invokevirtual 199, 3), (12, .ifCond .eq 13, 3), (15, .new 65, 3), (18, .dup, 1), (19, .ldc 227, 2), (21, .invokespecial 69, 3), (24, .athrow, 1), (25, .aload_n 0, 1), (26, .invokevirtual 204, 3), (29, .aload_n 0, 1), (30, .getfield 25, 3), (33, .getfield 28, 3), (36, .iload_n 1, 1), (37, .invokevirtual 229, 3), (40, .istore_n 2, 1), (41, .aload_n 0, 1), (42, .getfield 25, 3), (45, .getfield 28, 3), (48, .invokevirtual 216, 3), (51, .aload_n 0, 1), (52, .getfield 25, 3), (55, .aload_n 0, 1), (56, .invokevirtual 100, 3), (59, .putfield 47, 3), (62, .iload_n 2, 1), (63, .ireturn, 1)] : List (Nat × Instr × Nat)).all (fun t => decide (decode cX3_dissolve t.1 = .ok t.2)) = true := by decide +kernel
theorem dX3_dissolve_0 : decode cX3_dissolve 0 = .ok (.aload_n 0, 1) := dq0 (p := fun a b => decode cX3_dissolve a = .ok b) dm_cX3_dissolve_0 0 rfl
theorem dX3_dissolve_1 : decode cX3_dissolve 1 = .ok (.iload_n 1, 1) := dq0 (p := fun a b => decode cX3_dissolve a = .ok b) dm_cX3_dissolve_0 1 rfl
theorem dX3_dissolve_2 : decode cX3_dissolve 2 = .ok (.invokevirtual 224, 3) := dq0 (p := fun a b => decode cX3_dissolve a = .ok b) dm_cX3_dissolve_0 2 rfl
theorem dX3_dissolve_5 : decode cX3_dissolve 5 = .ok (.ifCond .ne 10, 3) := dq0 (p := fun a b => decode cX3_dissolve a = .ok b) dm_cX3_dissolve_0 3 rfl
theorem dX3_dissolve_8 : decode cX3_dissolve 8 = .ok (.aload_n 0, 1) := dq0 (p := fun a b => decode cX3_dissolve a = .ok b) dm_cX3_dissolve_0 4 rfl
theorem dX3_dissolve_9 : decode cX3_dissolve 9 = .ok (.invokevirtual 199, 3) := dq0 (p := fun a b => decode cX3_dissolve a = .ok b) dm_cX3_dissolve_0 5 rfl
theorem dX3_dissolve_12 : decode cX3_dissolve 12 = .ok (.ifCond .eq 13, 3) := dq0 (p := fun a b => decode cX3_dissolve a = .ok b) dm_cX3_dissolve_0 6 rfl
theorem dX3_dissolve_15 : decode cX3_dissolve 15 = .ok (.new 65, 3) := dq0 (p := fun a b => decode cX3_dissolve a = .ok b) dm_cX3_dissolve_0 7 rfl
theorem dX3_dissolve_18 : decode cX3_dissolve 18 = .ok (.dup, 1) := dq0 (p := fun a b => decode cX3_dissolve a = .ok b) dm_cX3_dissolve_0 8 rfl
theorem dX3_dissolve_19 : decode cX3_dissolve 19 = .ok (.ldc 227, 2) := dq0 (p := fun a b => decode cX3_dissolve a = .ok b) dm_cX3_dissolve_0 9 rfl
theorem dX3_dissolve_21 : decode cX3_dissolve 21 = .ok (.invokespecial 69, 3) := dq0 (p := fun a b => decode cX3_dissolve a = .ok b) dm_cX3_dissolve_0 10 rfl
theorem dX3_dissolve_24 : decode cX3_dissolve 24 = .ok (.athrow, 1) := dq0 (p := fun a b => decode cX3_dissolve a = .ok b) dm_cX3_dissolve_0 11 rfl
theorem dX3_dissolve_25 : decode cX3_dissolve 25 = .ok (.aload_n 0, 1) := dq0 (p := fun a b => decode cX3_dissolve a = .ok b) dm_cX3_dissolve_0 12 rfl
theorem dX3_dissolve_26 : decode cX3_dissolve 26 = .ok (.invokevirtual 204, 3) := dq0 (p := fun a b => decode cX3_dissolve a = .ok b) dm_cX3_dissolve_0 13 rfl
theorem dX3_dissolve_29 : decode cX3_dissolve 29 = .ok (.aload_n 0, 1) := dq0 (p := fun a b => decode cX3_dissolve a = .ok b) dm_cX3_dissolve_0 14 rfl
theorem dX3_dissolve_30 : decode cX3_dissolve 30 = .ok (.getfield 25, 3) := dq0 (p := fun a b => decode cX3_dissolve a = .ok b) dm_cX3_dissolve_0 15 rfl
theorem dX3_dissolve_33 : decode cX3_dissolve 33 = .ok (.getfield 28, 3) := dq0 (p := fun a b => decode cX3_dissolve a = .ok b) dm_cX3_dissolve_0 16 rfl
theorem dX3_dissolve_36 : decode cX3_dissolve 36 = .ok (.iload_n 1, 1) := dq0 (p := fun a b => decode cX3_dissolve a = .ok b) dm_cX3_dissolve_0 17 rfl
theorem dX3_dissolve_37 : decode cX3_dissolve 37 = .ok (.invokevirtual 229, 3) := dq0 (p := fun a b => decode cX3_dissolve a = .ok b) dm_cX3_dissolve_0 18 rfl
theorem dX3_dissolve_40 : decode cX3_dissolve 40 = .ok (.istore_n 2, 1) := dq0 (p := fun a b => decode cX3_dissolve a = .ok b) dm_cX3_dissolve_0 19 rfl
theorem dX3_dissolve_41 : decode cX3_dissolve 41 = .ok (.aload_n 0, 1) := dq0 (p := fun a b => decode cX3_dissolve a = .ok b) dm_cX3_dissolve_0 20 rfl
theorem dX3_dissolve_42 : decode cX3_dissolve 42 = .ok (.getfield 25, 3) := dq0 (p := fun a b => decode cX3_dissolve a = .ok b) dm_cX3_dissolve_0 21 rfl
theorem dX3_dissolve_45 : decode cX3_dissolve 45 = .ok (.getfield 28, 3) := dq0 (p := fun a b => decode cX3_dissolve a = .ok b) dm_cX3_dissolve_0 22 rfl
theorem dX3_dissolve_48 : decode cX3_dissolve 48 = .ok (.invokevirtual 216, 3) := dq0 (p := fun a b => decode cX3_dissolve a = .ok b) dm_cX3_dissolve_0 23 rfl
theorem dX3_dissolve_51 : decode cX3_dissolve 51 = .ok (.aload_n 0, 1) := dq0 (p := fun a b => decode cX3_dissolve a = .ok b) dm_cX3_dissolve_0 24 rfl
theorem dX3_dissolve_52 : decode cX3_dissolve 52 = .ok (.getfield 25, 3) := dq0 (p := fun a b => decode cX3_dissolve a = .ok b) dm_cX3_dissolve_0 25 rfl
theorem dX3_dissolve_55 : decode cX3_dissolve 55 = .ok (.aload_n 0, 1) := dq0 (p := fun a b => decode cX3_dissolve a = .ok b) dm_cX3_dissolve_0 26 rfl
theorem dX3_dissolve_56 : decode cX3_dissolve 56 = .ok (.invokevirtual 100, 3) := dq0 (p := fun a b => decode cX3_dissolve a = .ok b) dm_cX3_dissolve_0 27 rfl
theorem dX3_dissolve_59 : decode cX3_dissolve 59 = .ok (.putfield 47, 3) := dq0 (p := fun a b => decode cX3_dissolve a = .ok b) dm_cX3_dissolve_0 28 rfl
theorem dX3_dissolve_62 : decode cX3_dissolve 62 = .ok (.iload_n 2, 1) := dq0 (p := fun a b => decode cX3_dissolve a = .ok b) dm_cX3_dissolve_0 29 rfl
theorem dX3_dissolve_63 : decode cX3_dissolve 63 = .ok (.ireturn, 1) := dq0 (p := fun a b => decode cX3_dissolve a = .ok b) dm_cX3_dissolve_0 30 rfl
theorem dm_cX3_takeBack_0 : ([(0, .aload_n 0, 1), (1, .getfield 25, 3), (4, .getfield 232, 3), (7, .astore_n 1, 1), (8, .aload_n 0, 1), (9, .getfield 43, 3), (12, .ifCond .ne 7, 3), (15, .aload_n 1, 1), (16, .ifnonnull 13, 3), (19, .new 65, 3), (22, .dup, 1), (23, .ldc 235, 2), (25, .invokespecial 69, 3), (28, .athrow, 1), (29, .aload_n 0, 1), (30, .aload_n 1, 1), (31, .putfield 25, 3), (34, .aload_n 0, 1), (35, .getfield 25, 3), (38, .getfield 237, 3), (41, .ireturn, 1)] : List (Nat × Instr × Nat)).all (fun t => decide (decode cX3_takeBack t.1 = .ok t.2)) = true := by decide +kernel
theorem dX3_takeBack_0 : decode cX3_takeBack 0 = .ok (.aload_n 0, 1) := dq0 (p := fun a b => decode cX3_takeBack a = .ok b) dm_cX3_takeBack_0 0 rfl
theorem dX3_takeBack_1 : decode cX3_takeBack 1 = .ok (.getfield 25, 3) := dq0 (p := fun a b => decode cX3_takeBack a = .ok b) dm_cX3_takeBack_0 1 rfl
theorem dX3_takeBack_4 : decode cX3_takeBack 4 = .ok (.getfield 232, 3) := dq0 (p := fun a b => decode cX3_takeBack a = .ok b) dm_cX3_takeBack_0 2 rfl
theorem dX3_takeBack_7 : decode cX3_takeBack 7 = .ok (.astore_n 1, 1) := dq0 (p := fun a b => decode cX3_takeBack a = .ok b) dm_cX3_takeBack_0 3 rfl
theorem dX3_takeBack_8 : decode cX3_takeBack 8 = .ok (.aload_n 0, 1) := dq0 (p := fun a b => decode cX3_takeBack a = .ok b) dm_cX3_takeBack_0 4 rfl
theorem dX3_takeBack_9 : decode cX3_takeBack 9 = .ok (.getfield 43, 3) := dq0 (p := fun a b => decode cX3_takeBack a = .ok b) dm_cX3_takeBack_0 5 rfl
theorem dX3_takeBack_12 : decode cX3_takeBack 12 = .ok (.ifCond .ne 7, 3) := dq0 (p := fun a b => decode cX3_takeBack a = .ok b) dm_cX3_takeBack_0 6 rfl
theorem dX3_takeBack_15 : decode cX3_takeBack 15 = .ok (.aload_n 1, 1) := dq0 (p := fun a b => decode cX3_takeBack a = .ok b) dm_cX3_takeBack_0 7 rfl
theorem dX3_takeBack_16 : decode cX3_takeBack 16 = .ok (.ifnonnull 13, 3) := dq0 (p := fun a b => decode cX3_takeBack a = .ok b) dm_cX3_takeBack_0 8 rfl
theorem dX3_takeBack_19 : decode cX3_takeBack 19 = .ok (.new 65, 3) := dq0 (p := fun a b => decode cX3_takeBack a = .ok b) dm_cX3_takeBack_0 9 rfl
theorem dX3_takeBack_22 : decode cX3_takeBack 22 = .ok (.dup, 1) := dq0 (p := fun a b => decode cX3_takeBack a = .ok b) dm_cX3_takeBack_0 10 rfl
theorem dX3_takeBack_23 : decode cX3_takeBack 23 = .ok (.ldc 235, 2) := dq0 (p := fun a b => decode cX3_takeBack a = .ok b) dm_cX3_takeBack_0 11 rfl
theorem dX3_takeBack_25 : decode cX3_takeBack 25 = .ok (.invokespecial 69, 3) := dq0 (p := fun a b => decode cX3_takeBack a = .ok b) dm_cX3_takeBack_0 12 rfl
theorem dX3_takeBack_28 : decode cX3_takeBack 28 = .ok (.athrow, 1) := dq0 (p := fun a b => decode cX3_takeBack a = .ok b) dm_cX3_takeBack_0 13 rfl
theorem dX3_takeBack_29 : decode cX3_takeBack 29 = .ok (.aload_n 0, 1) := dq0 (p := fun a b => decode cX3_takeBack a = .ok b) dm_cX3_takeBack_0 14 rfl
theorem dX3_takeBack_30 : decode cX3_takeBack 30 = .ok (.aload_n 1, 1) := dq0 (p := fun a b => decode cX3_takeBack a = .ok b) dm_cX3_takeBack_0 15 rfl
theorem dX3_takeBack_31 : decode cX3_takeBack 31 = .ok (.putfield 25, 3) := dq0 (p := fun a b => decode cX3_takeBack a = .ok b) dm_cX3_takeBack_0 16 rfl
theorem dX3_takeBack_34 : decode cX3_takeBack 34 = .ok (.aload_n 0, 1) := dq0 (p := fun a b => decode cX3_takeBack a = .ok b) dm_cX3_takeBack_0 17 rfl
theorem dX3_takeBack_35 : decode cX3_takeBack 35 = .ok (.getfield 25, 3) := dq0 (p := fun a b => decode cX3_takeBack a = .ok b) dm_cX3_takeBack_0 18 rfl
theorem dX3_takeBack_38 : decode cX3_takeBack 38 = .ok (.getfield 237, 3) := dq0 (p := fun a b => decode cX3_takeBack a = .ok b) dm_cX3_takeBack_0 19 rfl
theorem dX3_takeBack_41 : decode cX3_takeBack 41 = .ok (.ireturn, 1) := dq0 (p := fun a b => decode cX3_takeBack a = .ok b) dm_cX3_takeBack_0 20 rfl
theorem dm_cX3_actionCount_0 : ([(0, .aload_n 0, 1), (1, .getfield 25, 3), (4, .getfield 237, 3), (7, .ireturn, 1)] : List (Nat × Instr × Nat)).all (fun t => decide (decode cX3_actionCount t.1 = .ok t.2)) = true := by decide +kernel
theorem dX3_actionCount_0 : decode cX3_actionCount 0 = .ok (.aload_n 0, 1) := dq0 (p := fun a b => decode cX3_actionCount a = .ok b) dm_cX3_actionCount_0 0 rfl
theorem dX3_actionCount_1 : decode cX3_actionCount 1 = .ok (.getfield 25, 3) := dq0 (p := fun a b => decode cX3_actionCount a = .ok b) dm_cX3_actionCount_0 1 rfl
theorem dX3_actionCount_4 : decode cX3_actionCount 4 = .ok (.getfield 237, 3) := dq0 (p := fun a b => decode cX3_actionCount a = .ok b) dm_cX3_actionCount_0 2 rfl
theorem dX3_actionCount_7 : decode cX3_actionCount 7 = .ok (.ireturn, 1) := dq0 (p := fun a b => decode cX3_actionCount a = .ok b) dm_cX3_actionCount_0 3 rfl
theorem dm_cX3_outcome_0 : ([(0, .aload_n 0, 1), (1, .getfield 25, 3), (4, .getfield 47, 3), (7, .ireturn, 1)] : List (Nat × Instr × Nat)).all (fun t => decide (decode cX3_outcome t.1 = .ok t.2)) = true := by decide +kernel
theorem dX3_outcome_0 : decode cX3_outcome 0 = .ok (.aload_n 0, 1) := dq0 (p := fun a b => decode cX3_outcome a = .ok b) dm_cX3_outcome_0 0 rfl
theorem dX3_outcome_1 : decode cX3_outcome 1 = .ok (.getfield 25, 3) := dq0 (p := fun a b => decode cX3_outcome a = .ok b) dm_cX3_outcome_0 1 rfl
theorem dX3_outcome_4 : decode cX3_outcome 4 = .ok (.getfield 47, 3) := dq0 (p := fun a b => decode cX3_outcome a = .ok b) dm_cX3_outcome_0 2 rfl
theorem dX3_outcome_7 : decode cX3_outcome 7 = .ok (.ireturn, 1) := dq0 (p := fun a b => decode cX3_outcome a = .ok b) dm_cX3_outcome_0 3 rfl
theorem dm_cX3_occurrences_0 : ([(0, .aload_n 0, 1), (1, .getfield 43, 3), (4, .ifCond .eq 7, 3), (7, .iconst 0, 1), (8, .goto 7, 3), (11, .aload_n 0, 1), (12, .invokevirtual 240, 3), (15, .ireturn, 1)] : List (Nat × Instr × Nat)).all (fun t => decide (decode cX3_occurrences t.1 = .ok t.2)) = true := by decide +kernel
theorem dX3_occurrences_0 : decode cX3_occurrences 0 = .ok (.aload_n 0, 1) := dq0 (p := fun a b => decode cX3_occurrences a = .ok b) dm_cX3_occurrences_0 0 rfl
theorem dX3_occurrences_1 : decode cX3_occurrences 1 = .ok (.getfield 43, 3) := dq0 (p := fun a b => decode cX3_occurrences a = .ok b) dm_cX3_occurrences_0 1 rfl
theorem dX3_occurrences_4 : decode cX3_occurrences 4 = .ok (.ifCond .eq 7, 3) := dq0 (p := fun a b => decode cX3_occurrences a = .ok b) dm_cX3_occurrences_0 2 rfl
theorem dX3_occurrences_7 : decode cX3_occurrences 7 = .ok (.iconst 0, 1) := dq0 (p := fun a b => decode cX3_occurrences a = .ok b) dm_cX3_occurrences_0 3 rfl
theorem dX3_occurrences_8 : decode cX3_occurrences 8 = .ok (.goto 7, 3) := dq0 (p := fun a b => decode cX3_occurrences a = .ok b) dm_cX3_occurrences_0 4 rfl
theorem dX3_occurrences_11 : decode cX3_occurrences 11 = .ok (.aload_n 0, 1) := dq0 (p := fun a b => decode cX3_occurrences a = .ok b) dm_cX3_occurrences_0 5 rfl
theorem dX3_occurrences_12 : decode cX3_occurrences 12 = .ok (.invokevirtual 240, 3) := dq0 (p := fun a b => decode cX3_occurrences a = .ok b) dm_cX3_occurrences_0 6 rfl
theorem dX3_occurrences_15 : decode cX3_occurrences 15 = .ok (.ireturn, 1) := dq0 (p := fun a b => decode cX3_occurrences a = .ok b) dm_cX3_occurrences_0 7 rfl
theorem dm_cX3_quietActions_0 : ([(0, .aload_n 0, 1), (1, .getfield 25, 3), (4, .getfield 213, 3), (7, .ireturn, 1)] : List (Nat × Instr × Nat)).all (fun t => decide (decode cX3_quietActions t.1 = .ok t.2)) = true := by decide +kernel
theorem dX3_quietActions_0 : decode cX3_quietActions 0 = .ok (.aload_n 0, 1) := dq0 (p := fun a b => decode cX3_quietActions a = .ok b) dm_cX3_quietActions_0 0 rfl
theorem dX3_quietActions_1 : decode cX3_quietActions 1 = .ok (.getfield 25, 3) := dq0 (p := fun a b => decode cX3_quietActions a = .ok b) dm_cX3_quietActions_0 1 rfl
theorem dX3_quietActions_4 : decode cX3_quietActions 4 = .ok (.getfield 213, 3) := dq0 (p := fun a b => decode cX3_quietActions a = .ok b) dm_cX3_quietActions_0 2 rfl
theorem dX3_quietActions_7 : decode cX3_quietActions 7 = .ok (.ireturn, 1) := dq0 (p := fun a b => decode cX3_quietActions a = .ok b) dm_cX3_quietActions_0 3 rfl
theorem dm_cX3_capturedCount_0 : ([(0, .iload_n 1, 1), (1, .invokestatic 58, 3), (4, .iconst 0, 1), (5, .istore_n 3, 1), (6, .aload_n 0, 1), (7, .getfield 25, 3), (10, .astore 4, 2), (12, .aload 4, 2), (14, .ifnull 37, 3), (17, .aload 4, 2), (19, .getfield 210, 3), (22, .iload_n 1, 1), (23, .if_icmp .ne 18, 3), (26, .aload 4, 2), (28, .getfield 28, 3), (31, .getfield 97, 3), (34, .iload_n 2, 1), (35, .if_icmp .ne 6, 3), (38, .iinc 3 1, 3), (41, .aload 4, 2), (43, .getfield 232, 3), (46, .astore 4, 2), (48, .goto (-36), 3), (51, .iload_n 3, 1), (52, .ireturn, 1)] : List (Nat × Instr × Nat)).all (fun t => decide (decode cX3_capturedCount t.1 = .ok t.2)) = true := by decide +kernel
theorem dX3_capturedCount_0 : decode cX3_capturedCount 0 = .ok (.iload_n 1, 1) := dq0 (p := fun a b => decode cX3_capturedCount a = .ok b) dm_cX3_capturedCount_0 0 rfl
theorem dX3_capturedCount_1 : decode cX3_capturedCount 1 = .ok (.invokestatic 58, 3) := dq0 (p := fun a b => decode cX3_capturedCount a = .ok b) dm_cX3_capturedCount_0 1 rfl
theorem dX3_capturedCount_4 : decode cX3_capturedCount 4 = .ok (.iconst 0, 1) := dq0 (p := fun a b => decode cX3_capturedCount a = .ok b) dm_cX3_capturedCount_0 2 rfl
theorem dX3_capturedCount_5 : decode cX3_capturedCount 5 = .ok (.istore_n 3, 1) := dq0 (p := fun a b => decode cX3_capturedCount a = .ok b) dm_cX3_capturedCount_0 3 rfl
theorem dX3_capturedCount_6 : decode cX3_capturedCount 6 = .ok (.aload_n 0, 1) := dq0 (p := fun a b => decode cX3_capturedCount a = .ok b) dm_cX3_capturedCount_0 4 rfl
theorem dX3_capturedCount_7 : decode cX3_capturedCount 7 = .ok (.getfield 25, 3) := dq0 (p := fun a b => decode cX3_capturedCount a = .ok b) dm_cX3_capturedCount_0 5 rfl
theorem dX3_capturedCount_10 : decode cX3_capturedCount 10 = .ok (.astore 4, 2) := dq0 (p := fun a b => decode cX3_capturedCount a = .ok b) dm_cX3_capturedCount_0 6 rfl
theorem dX3_capturedCount_12 : decode cX3_capturedCount 12 = .ok (.aload 4, 2) := dq0 (p := fun a b => decode cX3_capturedCount a = .ok b) dm_cX3_capturedCount_0 7 rfl
theorem dX3_capturedCount_14 : decode cX3_capturedCount 14 = .ok (.ifnull 37, 3) := dq0 (p := fun a b => decode cX3_capturedCount a = .ok b) dm_cX3_capturedCount_0 8 rfl
theorem dX3_capturedCount_17 : decode cX3_capturedCount 17 = .ok (.aload 4, 2) := dq0 (p := fun a b => decode cX3_capturedCount a = .ok b) dm_cX3_capturedCount_0 9 rfl
theorem dX3_capturedCount_19 : decode cX3_capturedCount 19 = .ok (.getfield 210, 3) := dq0 (p := fun a b => decode cX3_capturedCount a = .ok b) dm_cX3_capturedCount_0 10 rfl
theorem dX3_capturedCount_22 : decode cX3_capturedCount 22 = .ok (.iload_n 1, 1) := dq0 (p := fun a b => decode cX3_capturedCount a = .ok b) dm_cX3_capturedCount_0 11 rfl
theorem dX3_capturedCount_23 : decode cX3_capturedCount 23 = .ok (.if_icmp .ne 18, 3) := dq0 (p := fun a b => decode cX3_capturedCount a = .ok b) dm_cX3_capturedCount_0 12 rfl
theorem dX3_capturedCount_26 : decode cX3_capturedCount 26 = .ok (.aload 4, 2) := dq0 (p := fun a b => decode cX3_capturedCount a = .ok b) dm_cX3_capturedCount_0 13 rfl
theorem dX3_capturedCount_28 : decode cX3_capturedCount 28 = .ok (.getfield 28, 3) := dq0 (p := fun a b => decode cX3_capturedCount a = .ok b) dm_cX3_capturedCount_0 14 rfl
theorem dX3_capturedCount_31 : decode cX3_capturedCount 31 = .ok (.getfield 97, 3) := dq0 (p := fun a b => decode cX3_capturedCount a = .ok b) dm_cX3_capturedCount_0 15 rfl
theorem dX3_capturedCount_34 : decode cX3_capturedCount 34 = .ok (.iload_n 2, 1) := dq0 (p := fun a b => decode cX3_capturedCount a = .ok b) dm_cX3_capturedCount_0 16 rfl
theorem dX3_capturedCount_35 : decode cX3_capturedCount 35 = .ok (.if_icmp .ne 6, 3) := dq0 (p := fun a b => decode cX3_capturedCount a = .ok b) dm_cX3_capturedCount_0 17 rfl
theorem dX3_capturedCount_38 : decode cX3_capturedCount 38 = .ok (.iinc 3 1, 3) := dq0 (p := fun a b => decode cX3_capturedCount a = .ok b) dm_cX3_capturedCount_0 18 rfl
theorem dX3_capturedCount_41 : decode cX3_capturedCount 41 = .ok (.aload 4, 2) := dq0 (p := fun a b => decode cX3_capturedCount a = .ok b) dm_cX3_capturedCount_0 19 rfl
theorem dX3_capturedCount_43 : decode cX3_capturedCount 43 = .ok (.getfield 232, 3) := dq0 (p := fun a b => decode cX3_capturedCount a = .ok b) dm_cX3_capturedCount_0 20 rfl
theorem dX3_capturedCount_46 : decode cX3_capturedCount 46 = .ok (.astore 4, 2) := dq0 (p := fun a b => decode cX3_capturedCount a = .ok b) dm_cX3_capturedCount_0 21 rfl
theorem dX3_capturedCount_48 : decode cX3_capturedCount 48 = .ok (.goto (-36), 3) := dq0 (p := fun a b => decode cX3_capturedCount a = .ok b) dm_cX3_capturedCount_0 22 rfl
theorem dX3_capturedCount_51 : decode cX3_capturedCount 51 = .ok (.iload_n 3, 1) := dq0 (p := fun a b => decode cX3_capturedCount a = .ok b) dm_cX3_capturedCount_0 23 rfl
theorem dX3_capturedCount_52 : decode cX3_capturedCount 52 = .ok (.ireturn, 1) := dq0 (p := fun a b => decode cX3_capturedCount a = .ok b) dm_cX3_capturedCount_0 24 rfl
theorem dm_cX3_strengthOf_0 : ([(0, .aload_n 0, 1), (1, .getfield 25, 3), (4, .getfield 28, 3), (7, .astore_n 2, 1), (8, .aload_n 2, 1), (9, .iload_n 1, 1), (10, .invokevirtual 113, 3), (13, .lstore_n 3, 1), (14, .fconst 0, 1), (15, .fstore 5, 2), (17, .iconst 0, 1), (18, .istore 6, 2), (20, .iload 6, 2), (22, .bipush 64, 2), (24, .if_icmp .ge 47, 3), (27, .lload_n 3, 1), (28, .iload 6, 2), (30, .invokestatic 104, 3), (33, .ifCond .eq 32, 3), (36, .fload 5, 2), (38, .aload_n 2, 1), (39, .iload 6, 2), (41, .invokevirtual 82, 3), (44, .aload_n 2, 1), (45, .iload 6, 2), (47, .invokevirtual 124, 3), (50, .iconst (-1), 1), (51, .if_icmp .eq 7, 3), (54, .iconst 1, 1), (55, .goto 4, 3), (58, .iconst 0, 1), (59, .invokestatic 243, 3), (62, .fadd, 1), (63, .fstore 5, 2), (65, .iinc 6 1, 3), (68, .goto (-48), 3), (71, .fload 5, 2), (73, .ldc 247, 2), (75, .aload_n 2, 1), (76, .iload_n 1, 1), (77, .invokevirtual 149, 3), (80, .invokestatic 76, 3), (83, .i2f, 1), (84, .fmul, 1), (85, .fadd, 1), (86, .freturn, 1)] : List (Nat × Instr × Nat)).all (fun t => decide (decode cX3_strengthOf t.1 = .ok t.2)) = true := by decide +kernel
theorem dX3_strengthOf_0 : decode cX3_strengthOf 0 = .ok (.aload_n 0, 1) := dq0 (p := fun a b => decode cX3_strengthOf a = .ok b) dm_cX3_strengthOf_0 0 rfl
theorem dX3_strengthOf_1 : decode cX3_strengthOf 1 = .ok (.getfield 25, 3) := dq0 (p := fun a b => decode cX3_strengthOf a = .ok b) dm_cX3_strengthOf_0 1 rfl
theorem dX3_strengthOf_4 : decode cX3_strengthOf 4 = .ok (.getfield 28, 3) := dq0 (p := fun a b => decode cX3_strengthOf a = .ok b) dm_cX3_strengthOf_0 2 rfl
theorem dX3_strengthOf_7 : decode cX3_strengthOf 7 = .ok (.astore_n 2, 1) := dq0 (p := fun a b => decode cX3_strengthOf a = .ok b) dm_cX3_strengthOf_0 3 rfl
theorem dX3_strengthOf_8 : decode cX3_strengthOf 8 = .ok (.aload_n 2, 1) := dq0 (p := fun a b => decode cX3_strengthOf a = .ok b) dm_cX3_strengthOf_0 4 rfl
theorem dX3_strengthOf_9 : decode cX3_strengthOf 9 = .ok (.iload_n 1, 1) := dq0 (p := fun a b => decode cX3_strengthOf a = .ok b) dm_cX3_strengthOf_0 5 rfl
theorem dX3_strengthOf_10 : decode cX3_strengthOf 10 = .ok (.invokevirtual 113, 3) := dq0 (p := fun a b => decode cX3_strengthOf a = .ok b) dm_cX3_strengthOf_0 6 rfl
theorem dX3_strengthOf_13 : decode cX3_strengthOf 13 = .ok (.lstore_n 3, 1) := dq0 (p := fun a b => decode cX3_strengthOf a = .ok b) dm_cX3_strengthOf_0 7 rfl
theorem dX3_strengthOf_14 : decode cX3_strengthOf 14 = .ok (.fconst 0, 1) := dq0 (p := fun a b => decode cX3_strengthOf a = .ok b) dm_cX3_strengthOf_0 8 rfl
theorem dX3_strengthOf_15 : decode cX3_strengthOf 15 = .ok (.fstore 5, 2) := dq0 (p := fun a b => decode cX3_strengthOf a = .ok b) dm_cX3_strengthOf_0 9 rfl
theorem dX3_strengthOf_17 : decode cX3_strengthOf 17 = .ok (.iconst 0, 1) := dq0 (p := fun a b => decode cX3_strengthOf a = .ok b) dm_cX3_strengthOf_0 10 rfl
theorem dX3_strengthOf_18 : decode cX3_strengthOf 18 = .ok (.istore 6, 2) := dq0 (p := fun a b => decode cX3_strengthOf a = .ok b) dm_cX3_strengthOf_0 11 rfl
theorem dX3_strengthOf_20 : decode cX3_strengthOf 20 = .ok (.iload 6, 2) := dq0 (p := fun a b => decode cX3_strengthOf a = .ok b) dm_cX3_strengthOf_0 12 rfl
theorem dX3_strengthOf_22 : decode cX3_strengthOf 22 = .ok (.bipush 64, 2) := dq0 (p := fun a b => decode cX3_strengthOf a = .ok b) dm_cX3_strengthOf_0 13 rfl
theorem dX3_strengthOf_24 : decode cX3_strengthOf 24 = .ok (.if_icmp .ge 47, 3) := dq0 (p := fun a b => decode cX3_strengthOf a = .ok b) dm_cX3_strengthOf_0 14 rfl
theorem dX3_strengthOf_27 : decode cX3_strengthOf 27 = .ok (.lload_n 3, 1) := dq0 (p := fun a b => decode cX3_strengthOf a = .ok b) dm_cX3_strengthOf_0 15 rfl
theorem dX3_strengthOf_28 : decode cX3_strengthOf 28 = .ok (.iload 6, 2) := dq0 (p := fun a b => decode cX3_strengthOf a = .ok b) dm_cX3_strengthOf_0 16 rfl
theorem dX3_strengthOf_30 : decode cX3_strengthOf 30 = .ok (.invokestatic 104, 3) := dq0 (p := fun a b => decode cX3_strengthOf a = .ok b) dm_cX3_strengthOf_0 17 rfl
theorem dX3_strengthOf_33 : decode cX3_strengthOf 33 = .ok (.ifCond .eq 32, 3) := dq0 (p := fun a b => decode cX3_strengthOf a = .ok b) dm_cX3_strengthOf_0 18 rfl
theorem dX3_strengthOf_36 : decode cX3_strengthOf 36 = .ok (.fload 5, 2) := dq0 (p := fun a b => decode cX3_strengthOf a = .ok b) dm_cX3_strengthOf_0 19 rfl
theorem dX3_strengthOf_38 : decode cX3_strengthOf 38 = .ok (.aload_n 2, 1) := dq0 (p := fun a b => decode cX3_strengthOf a = .ok b) dm_cX3_strengthOf_0 20 rfl
theorem dX3_strengthOf_39 : decode cX3_strengthOf 39 = .ok (.iload 6, 2) := dq0 (p := fun a b => decode cX3_strengthOf a = .ok b) dm_cX3_strengthOf_0 21 rfl
theorem dX3_strengthOf_41 : decode cX3_strengthOf 41 = .ok (.invokevirtual 82, 3) := dq0 (p := fun a b => decode cX3_strengthOf a = .ok b) dm_cX3_strengthOf_0 22 rfl
theorem dX3_strengthOf_44 : decode cX3_strengthOf 44 = .ok (.aload_n 2, 1) := dq0 (p := fun a b => decode cX3_strengthOf a = .ok b) dm_cX3_strengthOf_0 23 rfl
theorem dX3_strengthOf_45 : decode cX3_strengthOf 45 = .ok (.iload 6, 2) := dq0 (p := fun a b => decode cX3_strengthOf a = .ok b) dm_cX3_strengthOf_0 24 rfl
theorem dX3_strengthOf_47 : decode cX3_strengthOf 47 = .ok (.invokevirtual 124, 3) := dq0 (p := fun a b => decode cX3_strengthOf a = .ok b) dm_cX3_strengthOf_0 25 rfl
theorem dX3_strengthOf_50 : decode cX3_strengthOf 50 = .ok (.iconst (-1), 1) := dq0 (p := fun a b => decode cX3_strengthOf a = .ok b) dm_cX3_strengthOf_0 26 rfl
theorem dX3_strengthOf_51 : decode cX3_strengthOf 51 = .ok (.if_icmp .eq 7, 3) := dq0 (p := fun a b => decode cX3_strengthOf a = .ok b) dm_cX3_strengthOf_0 27 rfl
theorem dX3_strengthOf_54 : decode cX3_strengthOf 54 = .ok (.iconst 1, 1) := dq0 (p := fun a b => decode cX3_strengthOf a = .ok b) dm_cX3_strengthOf_0 28 rfl
theorem dX3_strengthOf_55 : decode cX3_strengthOf 55 = .ok (.goto 4, 3) := dq0 (p := fun a b => decode cX3_strengthOf a = .ok b) dm_cX3_strengthOf_0 29 rfl
theorem dX3_strengthOf_58 : decode cX3_strengthOf 58 = .ok (.iconst 0, 1) := dq0 (p := fun a b => decode cX3_strengthOf a = .ok b) dm_cX3_strengthOf_0 30 rfl
theorem dX3_strengthOf_59 : decode cX3_strengthOf 59 = .ok (.invokestatic 243, 3) := dq0 (p := fun a b => decode cX3_strengthOf a = .ok b) dm_cX3_strengthOf_0 31 rfl
theorem dX3_strengthOf_62 : decode cX3_strengthOf 62 = .ok (.fadd, 1) := dq0 (p := fun a b => decode cX3_strengthOf a = .ok b) dm_cX3_strengthOf_0 32 rfl
theorem dX3_strengthOf_63 : decode cX3_strengthOf 63 = .ok (.fstore 5, 2) := dq0 (p := fun a b => decode cX3_strengthOf a = .ok b) dm_cX3_strengthOf_0 33 rfl
theorem dX3_strengthOf_65 : decode cX3_strengthOf 65 = .ok (.iinc 6 1, 3) := dq0 (p := fun a b => decode cX3_strengthOf a = .ok b) dm_cX3_strengthOf_0 34 rfl
theorem dX3_strengthOf_68 : decode cX3_strengthOf 68 = .ok (.goto (-48), 3) := dq0 (p := fun a b => decode cX3_strengthOf a = .ok b) dm_cX3_strengthOf_0 35 rfl
theorem dX3_strengthOf_71 : decode cX3_strengthOf 71 = .ok (.fload 5, 2) := dq0 (p := fun a b => decode cX3_strengthOf a = .ok b) dm_cX3_strengthOf_0 36 rfl
theorem dX3_strengthOf_73 : decode cX3_strengthOf 73 = .ok (.ldc 247, 2) := dq0 (p := fun a b => decode cX3_strengthOf a = .ok b) dm_cX3_strengthOf_0 37 rfl
theorem dX3_strengthOf_75 : decode cX3_strengthOf 75 = .ok (.aload_n 2, 1) := dq0 (p := fun a b => decode cX3_strengthOf a = .ok b) dm_cX3_strengthOf_0 38 rfl
theorem dX3_strengthOf_76 : decode cX3_strengthOf 76 = .ok (.iload_n 1, 1) := dq0 (p := fun a b => decode cX3_strengthOf a = .ok b) dm_cX3_strengthOf_0 39 rfl
theorem dX3_strengthOf_77 : decode cX3_strengthOf 77 = .ok (.invokevirtual 149, 3) := dq0 (p := fun a b => decode cX3_strengthOf a = .ok b) dm_cX3_strengthOf_0 40 rfl
theorem dX3_strengthOf_80 : decode cX3_strengthOf 80 = .ok (.invokestatic 76, 3) := dq0 (p := fun a b => decode cX3_strengthOf a = .ok b) dm_cX3_strengthOf_0 41 rfl
theorem dX3_strengthOf_83 : decode cX3_strengthOf 83 = .ok (.i2f, 1) := dq0 (p := fun a b => decode cX3_strengthOf a = .ok b) dm_cX3_strengthOf_0 42 rfl
theorem dX3_strengthOf_84 : decode cX3_strengthOf 84 = .ok (.fmul, 1) := dq0 (p := fun a b => decode cX3_strengthOf a = .ok b) dm_cX3_strengthOf_0 43 rfl
theorem dX3_strengthOf_85 : decode cX3_strengthOf 85 = .ok (.fadd, 1) := dq0 (p := fun a b => decode cX3_strengthOf a = .ok b) dm_cX3_strengthOf_0 44 rfl
theorem dX3_strengthOf_86 : decode cX3_strengthOf 86 = .ok (.freturn, 1) := dq0 (p := fun a b => decode cX3_strengthOf a = .ok b) dm_cX3_strengthOf_0 45 rfl
theorem dm_cX3_strengthBits_0 : ([(0, .aload_n 0, 1), (1, .iload_n 1, 1), (2, .invokevirtual 248, 3), (5, .invokestatic 252, 3), (8, .ireturn, 1)] : List (Nat × Instr × Nat)).all (fun t => decide (decode cX3_strengthBits t.1 = .ok t.2)) = true := by decide +kernel
theorem dX3_strengthBits_0 : decode cX3_strengthBits 0 = .ok (.aload_n 0, 1) := dq0 (p := fun a b => decode cX3_strengthBits a = .ok b) dm_cX3_strengthBits_0 0 rfl
theorem dX3_strengthBits_1 : decode cX3_strengthBits 1 = .ok (.iload_n 1, 1) := dq0 (p := fun a b => decode cX3_strengthBits a = .ok b) dm_cX3_strengthBits_0 1 rfl
theorem dX3_strengthBits_2 : decode cX3_strengthBits 2 = .ok (.invokevirtual 248, 3) := dq0 (p := fun a b => decode cX3_strengthBits a = .ok b) dm_cX3_strengthBits_0 2 rfl
theorem dX3_strengthBits_5 : decode cX3_strengthBits 5 = .ok (.invokestatic 252, 3) := dq0 (p := fun a b => decode cX3_strengthBits a = .ok b) dm_cX3_strengthBits_0 3 rfl
theorem dX3_strengthBits_8 : decode cX3_strengthBits 8 = .ok (.ireturn, 1) := dq0 (p := fun a b => decode cX3_strengthBits a = .ok b) dm_cX3_strengthBits_0 4 rfl
theorem dm_cX3_balance_0 : ([(0, .aload_n 0, 1), (1, .iconst 1, 1), (2, .invokevirtual 248, 3), (5, .f2d, 1), (6, .aload_n 0, 1), (7, .iconst 0, 1), (8, .invokevirtual 248, 3), (11, .f2d, 1), (12, .dsub, 1), (13, .dreturn, 1)] : List (Nat × Instr × Nat)).all (fun t => decide (decode cX3_balance t.1 = .ok t.2)) = true := by decide +kernel
theorem dX3_balance_0 : decode cX3_balance 0 = .ok (.aload_n 0, 1) := dq0 (p := fun a b => decode cX3_balance a = .ok b) dm_cX3_balance_0 0 rfl
theorem dX3_balance_1 : decode cX3_balance 1 = .ok (.iconst 1, 1) := dq0 (p := fun a b => decode cX3_balance a = .ok b) dm_cX3_balance_0 1 rfl
theorem dX3_balance_2 : decode cX3_balance 2 = .ok (.invokevirtual 248, 3) := dq0 (p := fun a b => decode cX3_balance a = .ok b) dm_cX3_balance_0 2 rfl
theorem dX3_balance_5 : decode cX3_balance 5 = .ok (.f2d, 1) := dq0 (p := fun a b => decode cX3_balance a = .ok b) dm_cX3_balance_0 3 rfl
theorem dX3_balance_6 : decode cX3_balance 6 = .ok (.aload_n 0, 1) := dq0 (p := fun a b => decode cX3_balance a = .ok b) dm_cX3_balance_0 4 rfl
theorem dX3_balance_7 : decode cX3_balance 7 = .ok (.iconst 0, 1) := dq0 (p := fun a b => decode cX3_balance a = .ok b) dm_cX3_balance_0 5 rfl
theorem dX3_balance_8 : decode cX3_balance 8 = .ok (.invokevirtual 248, 3) := dq0 (p := fun a b => decode cX3_balance a = .ok b) dm_cX3_balance_0 6 rfl
theorem dX3_balance_11 : decode cX3_balance 11 = .ok (.f2d, 1) := dq0 (p := fun a b => decode cX3_balance a = .ok b) dm_cX3_balance_0 7 rfl
theorem dX3_balance_12 : decode cX3_balance 12 = .ok (.dsub, 1) := dq0 (p := fun a b => decode cX3_balance a = .ok b) dm_cX3_balance_0 8 rfl
theorem dX3_balance_13 : decode cX3_balance 13 = .ok (.dreturn, 1) := dq0 (p := fun a b => decode cX3_balance a = .ok b) dm_cX3_balance_0 9 rfl
theorem dm_cX3_isPlayed_0 : ([(0, .aload_n 0, 1), (1, .getfield 43, 3), (4, .ifCond .ne 17, 3), (7, .aload_n 0, 1), (8, .getfield 25, 3), (11, .getfield 47, 3), (14, .ifCond .ne 7, 3), (17, .iconst 1, 1), (18, .goto 4, 3), (21, .iconst 0, 1), (22, .ireturn, 1)] : List (Nat × Instr × Nat)).all (fun t => decide (decode cX3_isPlayed t.1 = .ok t.2)) = true := by decide +kernel
theorem dX3_isPlayed_0 : decode cX3_isPlayed 0 = .ok (.aload_n 0, 1) := dq0 (p := fun a b => decode cX3_isPlayed a = .ok b) dm_cX3_isPlayed_0 0 rfl
theorem dX3_isPlayed_1 : decode cX3_isPlayed 1 = .ok (.getfield 43, 3) := dq0 (p := fun a b => decode cX3_isPlayed a = .ok b) dm_cX3_isPlayed_0 1 rfl
theorem dX3_isPlayed_4 : decode cX3_isPlayed 4 = .ok (.ifCond .ne 17, 3) := dq0 (p := fun a b => decode cX3_isPlayed a = .ok b) dm_cX3_isPlayed_0 2 rfl
theorem dX3_isPlayed_7 : decode cX3_isPlayed 7 = .ok (.aload_n 0, 1) := dq0 (p := fun a b => decode cX3_isPlayed a = .ok b) dm_cX3_isPlayed_0 3 rfl
theorem dX3_isPlayed_8 : decode cX3_isPlayed 8 = .ok (.getfield 25, 3) := dq0 (p := fun a b => decode cX3_isPlayed a = .ok b) dm_cX3_isPlayed_0 4 rfl
theorem dX3_isPlayed_11 : decode cX3_isPlayed 11 = .ok (.getfield 47, 3) := dq0 (p := fun a b => decode cX3_isPlayed a = .ok b) dm_cX3_isPlayed_0 5 rfl
theorem dX3_isPlayed_14 : decode cX3_isPlayed 14 = .ok (.ifCond .ne 7, 3) := dq0 (p := fun a b => decode cX3_isPlayed a = .ok b) dm_cX3_isPlayed_0 6 rfl
theorem dX3_isPlayed_17 : decode cX3_isPlayed 17 = .ok (.iconst 1, 1) := dq0 (p := fun a b => decode cX3_isPlayed a = .ok b) dm_cX3_isPlayed_0 7 rfl
theorem dX3_isPlayed_18 : decode cX3_isPlayed 18 = .ok (.goto 4, 3) := dq0 (p := fun a b => decode cX3_isPlayed a = .ok b) dm_cX3_isPlayed_0 8 rfl
theorem dX3_isPlayed_21 : decode cX3_isPlayed 21 = .ok (.iconst 0, 1) := dq0 (p := fun a b => decode cX3_isPlayed a = .ok b) dm_cX3_isPlayed_0 9 rfl
theorem dX3_isPlayed_22 : decode cX3_isPlayed 22 = .ok (.ireturn, 1) := dq0 (p := fun a b => decode cX3_isPlayed a = .ok b) dm_cX3_isPlayed_0 10 rfl
theorem dm_cX3_isFull_0 : ([(0, .aload_n 0, 1), (1, .getfield 25, 3), (4, .getfield 237, 3), (7, .sipush 512, 3), (10, .if_icmp .lt 7, 3), (13, .iconst 1, 1), (14, .goto 4, 3), (17, .iconst 0, 1), (18, .ireturn, 1)] : List (Nat × Instr × Nat)).all (fun t => decide (decode cX3_isFull t.1 = .ok t.2)) = true := by decide +kernel
theorem dX3_isFull_0 : decode cX3_isFull 0 = .ok (.aload_n 0, 1) := dq0 (p := fun a b => decode cX3_isFull a = .ok b) dm_cX3_isFull_0 0 rfl
theorem dX3_isFull_1 : decode cX3_isFull 1 = .ok (.getfield 25, 3) := dq0 (p := fun a b => decode cX3_isFull a = .ok b) dm_cX3_isFull_0 1 rfl
theorem dX3_isFull_4 : decode cX3_isFull 4 = .ok (.getfield 237, 3) := dq0 (p := fun a b => decode cX3_isFull a = .ok b) dm_cX3_isFull_0 2 rfl
theorem dX3_isFull_7 : decode cX3_isFull 7 = .ok (.sipush 512, 3) := dq0 (p := fun a b => decode cX3_isFull a = .ok b) dm_cX3_isFull_0 3 rfl
theorem dX3_isFull_10 : decode cX3_isFull 10 = .ok (.if_icmp .lt 7, 3) := dq0 (p := fun a b => decode cX3_isFull a = .ok b) dm_cX3_isFull_0 4 rfl
theorem dX3_isFull_13 : decode cX3_isFull 13 = .ok (.iconst 1, 1) := dq0 (p := fun a b => decode cX3_isFull a = .ok b) dm_cX3_isFull_0 5 rfl
theorem dX3_isFull_14 : decode cX3_isFull 14 = .ok (.goto 4, 3) := dq0 (p := fun a b => decode cX3_isFull a = .ok b) dm_cX3_isFull_0 6 rfl
theorem dX3_isFull_17 : decode cX3_isFull 17 = .ok (.iconst 0, 1) := dq0 (p := fun a b => decode cX3_isFull a = .ok b) dm_cX3_isFull_0 7 rfl
theorem dX3_isFull_18 : decode cX3_isFull 18 = .ok (.ireturn, 1) := dq0 (p := fun a b => decode cX3_isFull a = .ok b) dm_cX3_isFull_0 8 rfl
theorem dm_cX3_turnPage_0 : ([(0, .aload_n 0, 1), (1, .getfield 25, 3), (4, .astore_n 1, 1), (5, .aload_n 1, 1), (6, .getfield 256, 3), (9, .astore_n 2, 1), (10, .aload_n 2, 1), (11, .ifnonnull 17, 3), (14, .new 7, 3), (17, .dup, 1), (18, .aload_n 1, 1), (19, .invokespecial 9, 3), (22, .astore_n 2, 1), (23, .aload_n 1, 1), (24, .aload_n 2, 1), (25, .putfield 256, 3), (28, .aload_n 2, 1), (29, .getfield 28, 3), (32, .aload_n 1, 1), (33, .getfield 28, 3), (36, .invokevirtual 259, 3), (39, .aload_n 2, 1), (40, .aload_n 1, 1), (41, .getfield 213, 3), (44, .iconst 1, 1), (45, .iadd, 1), (46, .putfield 213, 3), (49, .aload_n 2, 1), (50, .iconst 0, 1), (51, .putfield 210, 3), (54, .aload_n 0, 1), (55, .aload_n 2, 1), (56, .putfield 25, 3), (59, .return_, 1)] : List (Nat × Instr × Nat)).all (fun t => decide (decode cX3_turnPage t.1 = .ok t.2)) = true := by decide +kernel
theorem dX3_turnPage_0 : decode cX3_turnPage 0 = .ok (.aload_n 0, 1) := dq0 (p := fun a b => decode cX3_turnPage a = .ok b) dm_cX3_turnPage_0 0 rfl
theorem dX3_turnPage_1 : decode cX3_turnPage 1 = .ok (.getfield 25, 3) := dq0 (p := fun a b => decode cX3_turnPage a = .ok b) dm_cX3_turnPage_0 1 rfl
theorem dX3_turnPage_4 : decode cX3_turnPage 4 = .ok (.astore_n 1, 1) := dq0 (p := fun a b => decode cX3_turnPage a = .ok b) dm_cX3_turnPage_0 2 rfl
theorem dX3_turnPage_5 : decode cX3_turnPage 5 = .ok (.aload_n 1, 1) := dq0 (p := fun a b => decode cX3_turnPage a = .ok b) dm_cX3_turnPage_0 3 rfl
theorem dX3_turnPage_6 : decode cX3_turnPage 6 = .ok (.getfield 256, 3) := dq0 (p := fun a b => decode cX3_turnPage a = .ok b) dm_cX3_turnPage_0 4 rfl
theorem dX3_turnPage_9 : decode cX3_turnPage 9 = .ok (.astore_n 2, 1) := dq0 (p := fun a b => decode cX3_turnPage a = .ok b) dm_cX3_turnPage_0 5 rfl
theorem dX3_turnPage_10 : decode cX3_turnPage 10 = .ok (.aload_n 2, 1) := dq0 (p := fun a b => decode cX3_turnPage a = .ok b) dm_cX3_turnPage_0 6 rfl
theorem dX3_turnPage_11 : decode cX3_turnPage 11 = .ok (.ifnonnull 17, 3) := dq0 (p := fun a b => decode cX3_turnPage a = .ok b) dm_cX3_turnPage_0 7 rfl
theorem dX3_turnPage_14 : decode cX3_turnPage 14 = .ok (.new 7, 3) := dq0 (p := fun a b => decode cX3_turnPage a = .ok b) dm_cX3_turnPage_0 8 rfl
theorem dX3_turnPage_17 : decode cX3_turnPage 17 = .ok (.dup, 1) := dq0 (p := fun a b => decode cX3_turnPage a = .ok b) dm_cX3_turnPage_0 9 rfl
theorem dX3_turnPage_18 : decode cX3_turnPage 18 = .ok (.aload_n 1, 1) := dq0 (p := fun a b => decode cX3_turnPage a = .ok b) dm_cX3_turnPage_0 10 rfl
theorem dX3_turnPage_19 : decode cX3_turnPage 19 = .ok (.invokespecial 9, 3) := dq0 (p := fun a b => decode cX3_turnPage a = .ok b) dm_cX3_turnPage_0 11 rfl
theorem dX3_turnPage_22 : decode cX3_turnPage 22 = .ok (.astore_n 2, 1) := dq0 (p := fun a b => decode cX3_turnPage a = .ok b) dm_cX3_turnPage_0 12 rfl
theorem dX3_turnPage_23 : decode cX3_turnPage 23 = .ok (.aload_n 1, 1) := dq0 (p := fun a b => decode cX3_turnPage a = .ok b) dm_cX3_turnPage_0 13 rfl
theorem dX3_turnPage_24 : decode cX3_turnPage 24 = .ok (.aload_n 2, 1) := dq0 (p := fun a b => decode cX3_turnPage a = .ok b) dm_cX3_turnPage_0 14 rfl
theorem dX3_turnPage_25 : decode cX3_turnPage 25 = .ok (.putfield 256, 3) := dq0 (p := fun a b => decode cX3_turnPage a = .ok b) dm_cX3_turnPage_0 15 rfl
theorem dX3_turnPage_28 : decode cX3_turnPage 28 = .ok (.aload_n 2, 1) := dq0 (p := fun a b => decode cX3_turnPage a = .ok b) dm_cX3_turnPage_0 16 rfl
theorem dX3_turnPage_29 : decode cX3_turnPage 29 = .ok (.getfield 28, 3) := dq0 (p := fun a b => decode cX3_turnPage a = .ok b) dm_cX3_turnPage_0 17 rfl
theorem dX3_turnPage_32 : decode cX3_turnPage 32 = .ok (.aload_n 1, 1) := dq0 (p := fun a b => decode cX3_turnPage a = .ok b) dm_cX3_turnPage_0 18 rfl
theorem dX3_turnPage_33 : decode cX3_turnPage 33 = .ok (.getfield 28, 3) := dq0 (p := fun a b => decode cX3_turnPage a = .ok b) dm_cX3_turnPage_0 19 rfl
theorem dX3_turnPage_36 : decode cX3_turnPage 36 = .ok (.invokevirtual 259, 3) := dq0 (p := fun a b => decode cX3_turnPage a = .ok b) dm_cX3_turnPage_0 20 rfl
theorem dX3_turnPage_39 : decode cX3_turnPage 39 = .ok (.aload_n 2, 1) := dq0 (p := fun a b => decode cX3_turnPage a = .ok b) dm_cX3_turnPage_0 21 rfl
theorem dX3_turnPage_40 : decode cX3_turnPage 40 = .ok (.aload_n 1, 1) := dq0 (p := fun a b => decode cX3_turnPage a = .ok b) dm_cX3_turnPage_0 22 rfl
theorem dX3_turnPage_41 : decode cX3_turnPage 41 = .ok (.getfield 213, 3) := dq0 (p := fun a b => decode cX3_turnPage a = .ok b) dm_cX3_turnPage_0 23 rfl
theorem dX3_turnPage_44 : decode cX3_turnPage 44 = .ok (.iconst 1, 1) := dq0 (p := fun a b => decode cX3_turnPage a = .ok b) dm_cX3_turnPage_0 24 rfl
theorem dX3_turnPage_45 : decode cX3_turnPage 45 = .ok (.iadd, 1) := dq0 (p := fun a b => decode cX3_turnPage a = .ok b) dm_cX3_turnPage_0 25 rfl
theorem dX3_turnPage_46 : decode cX3_turnPage 46 = .ok (.putfield 213, 3) := dq0 (p := fun a b => decode cX3_turnPage a = .ok b) dm_cX3_turnPage_0 26 rfl
theorem dX3_turnPage_49 : decode cX3_turnPage 49 = .ok (.aload_n 2, 1) := dq0 (p := fun a b => decode cX3_turnPage a = .ok b) dm_cX3_turnPage_0 27 rfl
theorem dX3_turnPage_50 : decode cX3_turnPage 50 = .ok (.iconst 0, 1) := dq0 (p := fun a b => decode cX3_turnPage a = .ok b) dm_cX3_turnPage_0 28 rfl
theorem dX3_turnPage_51 : decode cX3_turnPage 51 = .ok (.putfield 210, 3) := dq0 (p := fun a b => decode cX3_turnPage a = .ok b) dm_cX3_turnPage_0 29 rfl
theorem dX3_turnPage_54 : decode cX3_turnPage 54 = .ok (.aload_n 0, 1) := dq0 (p := fun a b => decode cX3_turnPage a = .ok b) dm_cX3_turnPage_0 30 rfl
theorem dX3_turnPage_55 : decode cX3_turnPage 55 = .ok (.aload_n 2, 1) := dq0 (p := fun a b => decode cX3_turnPage a = .ok b) dm_cX3_turnPage_0 31 rfl
theorem dX3_turnPage_56 : decode cX3_turnPage 56 = .ok (.putfield 25, 3) := dq0 (p := fun a b => decode cX3_turnPage a = .ok b) dm_cX3_turnPage_0 32 rfl
theorem dX3_turnPage_59 : decode cX3_turnPage 59 = .ok (.return_, 1) := dq0 (p := fun a b => decode cX3_turnPage a = .ok b) dm_cX3_turnPage_0 33 rfl
theorem dm_cX3_verdictNow_0 : ([(0, .aload_n 0, 1), (1, .getfield 25, 3), (4, .getfield 28, 3), (7, .astore_n 1, 1), (8, .aload_n 1, 1), (9, .aload_n 1, 1), (10, .getfield 97, 3), (13, .invokevirtual 152, 3), (16, .istore_n 2, 1), (17, .aload_n 1, 1), (18, .invokevirtual 263, 3), (21, .ifCond .ne 18, 3), (24, .iload_n 2, 1), (25, .ifCond .eq 5, 3), (28, .iconst 1, 1), (29, .ireturn, 1), (30, .aload_n 1, 1), (31, .invokevirtual 266, 3), (34, .ifCond .ne 5, 3), (37, .iconst 2, 1), (38, .ireturn, 1), (39, .aload_n 1, 1), (40, .invokevirtual 72, 3), (43, .aload_n 1, 1), (44, .invokevirtual 269, 3), (47, .lcmp, 1), (48, .ifCond .ne 5, 3), (51, .iconst 3, 1), (52, .ireturn, 1), (53, .aload_n 0, 1), (54, .invokevirtual 240, 3), (57, .iconst 3, 1), (58, .if_icmp .lt 5, 3), (61, .iconst 4, 1), (62, .ireturn, 1), (63, .aload_n 0, 1), (64, .getfield 25, 3), (67, .getfield 213, 3), (70, .bipush 40, 2), (72, .if_icmp .lt 7, 3), (75, .iconst 5, 1), (76, .goto 4, 3), (79, .iconst 0, 1), (80, .ireturn, 1)] : List (Nat × Instr × Nat)).all (fun t => decide (decode cX3_verdictNow t.1 = .ok t.2)) = true := by decide +kernel
theorem dX3_verdictNow_0 : decode cX3_verdictNow 0 = .ok (.aload_n 0, 1) := dq0 (p := fun a b => decode cX3_verdictNow a = .ok b) dm_cX3_verdictNow_0 0 rfl
theorem dX3_verdictNow_1 : decode cX3_verdictNow 1 = .ok (.getfield 25, 3) := dq0 (p := fun a b => decode cX3_verdictNow a = .ok b) dm_cX3_verdictNow_0 1 rfl
theorem dX3_verdictNow_4 : decode cX3_verdictNow 4 = .ok (.getfield 28, 3) := dq0 (p := fun a b => decode cX3_verdictNow a = .ok b) dm_cX3_verdictNow_0 2 rfl
theorem dX3_verdictNow_7 : decode cX3_verdictNow 7 = .ok (.astore_n 1, 1) := dq0 (p := fun a b => decode cX3_verdictNow a = .ok b) dm_cX3_verdictNow_0 3 rfl
theorem dX3_verdictNow_8 : decode cX3_verdictNow 8 = .ok (.aload_n 1, 1) := dq0 (p := fun a b => decode cX3_verdictNow a = .ok b) dm_cX3_verdictNow_0 4 rfl
theorem dX3_verdictNow_9 : decode cX3_verdictNow 9 = .ok (.aload_n 1, 1) := dq0 (p := fun a b => decode cX3_verdictNow a = .ok b) dm_cX3_verdictNow_0 5 rfl
theorem dX3_verdictNow_10 : decode cX3_verdictNow 10 = .ok (.getfield 97, 3) := dq0 (p := fun a b => decode cX3_verdictNow a = .ok b) dm_cX3_verdictNow_0 6 rfl
theorem dX3_verdictNow_13 : decode cX3_verdictNow 13 = .ok (.invokevirtual 152, 3) := dq0 (p := fun a b => decode cX3_verdictNow a = .ok b) dm_cX3_verdictNow_0 7 rfl
theorem dX3_verdictNow_16 : decode cX3_verdictNow 16 = .ok (.istore_n 2, 1) := dq0 (p := fun a b => decode cX3_verdictNow a = .ok b) dm_cX3_verdictNow_0 8 rfl
theorem dX3_verdictNow_17 : decode cX3_verdictNow 17 = .ok (.aload_n 1, 1) := dq0 (p := fun a b => decode cX3_verdictNow a = .ok b) dm_cX3_verdictNow_0 9 rfl
theorem dX3_verdictNow_18 : decode cX3_verdictNow 18 = .ok (.invokevirtual 263, 3) := dq0 (p := fun a b => decode cX3_verdictNow a = .ok b) dm_cX3_verdictNow_0 10 rfl
theorem dX3_verdictNow_21 : decode cX3_verdictNow 21 = .ok (.ifCond .ne 18, 3) := dq0 (p := fun a b => decode cX3_verdictNow a = .ok b) dm_cX3_verdictNow_0 11 rfl
theorem dX3_verdictNow_24 : decode cX3_verdictNow 24 = .ok (.iload_n 2, 1) := dq0 (p := fun a b => decode cX3_verdictNow a = .ok b) dm_cX3_verdictNow_0 12 rfl
theorem dX3_verdictNow_25 : decode cX3_verdictNow 25 = .ok (.ifCond .eq 5, 3) := dq0 (p := fun a b => decode cX3_verdictNow a = .ok b) dm_cX3_verdictNow_0 13 rfl
theorem dX3_verdictNow_28 : decode cX3_verdictNow 28 = .ok (.iconst 1, 1) := dq0 (p := fun a b => decode cX3_verdictNow a = .ok b) dm_cX3_verdictNow_0 14 rfl
theorem dX3_verdictNow_29 : decode cX3_verdictNow 29 = .ok (.ireturn, 1) := dq0 (p := fun a b => decode cX3_verdictNow a = .ok b) dm_cX3_verdictNow_0 15 rfl
theorem dX3_verdictNow_30 : decode cX3_verdictNow 30 = .ok (.aload_n 1, 1) := dq0 (p := fun a b => decode cX3_verdictNow a = .ok b) dm_cX3_verdictNow_0 16 rfl
theorem dX3_verdictNow_31 : decode cX3_verdictNow 31 = .ok (.invokevirtual 266, 3) := dq0 (p := fun a b => decode cX3_verdictNow a = .ok b) dm_cX3_verdictNow_0 17 rfl
theorem dX3_verdictNow_34 : decode cX3_verdictNow 34 = .ok (.ifCond .ne 5, 3) := dq0 (p := fun a b => decode cX3_verdictNow a = .ok b) dm_cX3_verdictNow_0 18 rfl
theorem dX3_verdictNow_37 : decode cX3_verdictNow 37 = .ok (.iconst 2, 1) := dq0 (p := fun a b => decode cX3_verdictNow a = .ok b) dm_cX3_verdictNow_0 19 rfl
theorem dX3_verdictNow_38 : decode cX3_verdictNow 38 = .ok (.ireturn, 1) := dq0 (p := fun a b => decode cX3_verdictNow a = .ok b) dm_cX3_verdictNow_0 20 rfl
theorem dX3_verdictNow_39 : decode cX3_verdictNow 39 = .ok (.aload_n 1, 1) := dq0 (p := fun a b => decode cX3_verdictNow a = .ok b) dm_cX3_verdictNow_0 21 rfl
theorem dX3_verdictNow_40 : decode cX3_verdictNow 40 = .ok (.invokevirtual 72, 3) := dq0 (p := fun a b => decode cX3_verdictNow a = .ok b) dm_cX3_verdictNow_0 22 rfl
theorem dX3_verdictNow_43 : decode cX3_verdictNow 43 = .ok (.aload_n 1, 1) := dq0 (p := fun a b => decode cX3_verdictNow a = .ok b) dm_cX3_verdictNow_0 23 rfl
theorem dX3_verdictNow_44 : decode cX3_verdictNow 44 = .ok (.invokevirtual 269, 3) := dq0 (p := fun a b => decode cX3_verdictNow a = .ok b) dm_cX3_verdictNow_0 24 rfl
theorem dX3_verdictNow_47 : decode cX3_verdictNow 47 = .ok (.lcmp, 1) := dq0 (p := fun a b => decode cX3_verdictNow a = .ok b) dm_cX3_verdictNow_0 25 rfl
theorem dX3_verdictNow_48 : decode cX3_verdictNow 48 = .ok (.ifCond .ne 5, 3) := dq0 (p := fun a b => decode cX3_verdictNow a = .ok b) dm_cX3_verdictNow_0 26 rfl
theorem dX3_verdictNow_51 : decode cX3_verdictNow 51 = .ok (.iconst 3, 1) := dq0 (p := fun a b => decode cX3_verdictNow a = .ok b) dm_cX3_verdictNow_0 27 rfl
theorem dX3_verdictNow_52 : decode cX3_verdictNow 52 = .ok (.ireturn, 1) := dq0 (p := fun a b => decode cX3_verdictNow a = .ok b) dm_cX3_verdictNow_0 28 rfl
theorem dX3_verdictNow_53 : decode cX3_verdictNow 53 = .ok (.aload_n 0, 1) := dq0 (p := fun a b => decode cX3_verdictNow a = .ok b) dm_cX3_verdictNow_0 29 rfl
theorem dX3_verdictNow_54 : decode cX3_verdictNow 54 = .ok (.invokevirtual 240, 3) := dq0 (p := fun a b => decode cX3_verdictNow a = .ok b) dm_cX3_verdictNow_0 30 rfl
theorem dX3_verdictNow_57 : decode cX3_verdictNow 57 = .ok (.iconst 3, 1) := dq0 (p := fun a b => decode cX3_verdictNow a = .ok b) dm_cX3_verdictNow_0 31 rfl
theorem dX3_verdictNow_58 : decode cX3_verdictNow 58 = .ok (.if_icmp .lt 5, 3) := dq0 (p := fun a b => decode cX3_verdictNow a = .ok b) dm_cX3_verdictNow_0 32 rfl
theorem dX3_verdictNow_61 : decode cX3_verdictNow 61 = .ok (.iconst 4, 1) := dq0 (p := fun a b => decode cX3_verdictNow a = .ok b) dm_cX3_verdictNow_0 33 rfl
theorem dX3_verdictNow_62 : decode cX3_verdictNow 62 = .ok (.ireturn, 1) := dq0 (p := fun a b => decode cX3_verdictNow a = .ok b) dm_cX3_verdictNow_0 34 rfl
theorem dX3_verdictNow_63 : decode cX3_verdictNow 63 = .ok (.aload_n 0, 1) := dq0 (p := fun a b => decode cX3_verdictNow a = .ok b) dm_cX3_verdictNow_0 35 rfl
theorem dX3_verdictNow_64 : decode cX3_verdictNow 64 = .ok (.getfield 25, 3) := dq0 (p := fun a b => decode cX3_verdictNow a = .ok b) dm_cX3_verdictNow_0 36 rfl
theorem dX3_verdictNow_67 : decode cX3_verdictNow 67 = .ok (.getfield 213, 3) := dq0 (p := fun a b => decode cX3_verdictNow a = .ok b) dm_cX3_verdictNow_0 37 rfl
theorem dX3_verdictNow_70 : decode cX3_verdictNow 70 = .ok (.bipush 40, 2) := dq0 (p := fun a b => decode cX3_verdictNow a = .ok b) dm_cX3_verdictNow_0 38 rfl
theorem dX3_verdictNow_72 : decode cX3_verdictNow 72 = .ok (.if_icmp .lt 7, 3) := dq0 (p := fun a b => decode cX3_verdictNow a = .ok b) dm_cX3_verdictNow_0 39 rfl
theorem dX3_verdictNow_75 : decode cX3_verdictNow 75 = .ok (.iconst 5, 1) := dq0 (p := fun a b => decode cX3_verdictNow a = .ok b) dm_cX3_verdictNow_0 40 rfl
theorem dX3_verdictNow_76 : decode cX3_verdictNow 76 = .ok (.goto 4, 3) := dq0 (p := fun a b => decode cX3_verdictNow a = .ok b) dm_cX3_verdictNow_0 41 rfl
theorem dX3_verdictNow_79 : decode cX3_verdictNow 79 = .ok (.iconst 0, 1) := dq0 (p := fun a b => decode cX3_verdictNow a = .ok b) dm_cX3_verdictNow_0 42 rfl
theorem dX3_verdictNow_80 : decode cX3_verdictNow 80 = .ok (.ireturn, 1) := dq0 (p := fun a b => decode cX3_verdictNow a = .ok b) dm_cX3_verdictNow_0 43 rfl
theorem dm_cX3_timesOccurred_0 : ([(0, .iconst 0, 1), (1, .istore_n 1, 1), (2, .aload_n 0, 1), (3, .getfield 25, 3), (6, .astore_n 2, 1), (7, .aload_n 2, 1), (8, .ifnull 31, 3), (11, .aload_n 2, 1), (12, .getfield 28, 3), (15, .aload_n 0, 1), (16, .getfield 25, 3), (19, .getfield 28, 3), (22, .invokevirtual 272, 3), (25, .ifCond .eq 6, 3), (28, .iinc 1 1, 3), (31, .aload_n 2, 1), (32, .getfield 232, 3), (35, .astore_n 2, 1), (36, .goto (-29), 3), (39, .iload_n 1, 1), (40, .ireturn, 1)] : List (Nat × Instr × Nat)).all (fun t => decide (decode cX3_timesOccurred t.1 = .ok t.2)) = true := by decide +kernel
theorem dX3_timesOccurred_0 : decode cX3_timesOccurred 0 = .ok (.iconst 0, 1) := dq0 (p := fun a b => decode cX3_timesOccurred a = .ok b) dm_cX3_timesOccurred_0 0 rfl
theorem dX3_timesOccurred_1 : decode cX3_timesOccurred 1 = .ok (.istore_n 1, 1) := dq0 (p := fun a b => decode cX3_timesOccurred a = .ok b) dm_cX3_timesOccurred_0 1 rfl
theorem dX3_timesOccurred_2 : decode cX3_timesOccurred 2 = .ok (.aload_n 0, 1) := dq0 (p := fun a b => decode cX3_timesOccurred a = .ok b) dm_cX3_timesOccurred_0 2 rfl
theorem dX3_timesOccurred_3 : decode cX3_timesOccurred 3 = .ok (.getfield 25, 3) := dq0 (p := fun a b => decode cX3_timesOccurred a = .ok b) dm_cX3_timesOccurred_0 3 rfl
theorem dX3_timesOccurred_6 : decode cX3_timesOccurred 6 = .ok (.astore_n 2, 1) := dq0 (p := fun a b => decode cX3_timesOccurred a = .ok b) dm_cX3_timesOccurred_0 4 rfl
theorem dX3_timesOccurred_7 : decode cX3_timesOccurred 7 = .ok (.aload_n 2, 1) := dq0 (p := fun a b => decode cX3_timesOccurred a = .ok b) dm_cX3_timesOccurred_0 5 rfl
theorem dX3_timesOccurred_8 : decode cX3_timesOccurred 8 = .ok (.ifnull 31, 3) := dq0 (p := fun a b => decode cX3_timesOccurred a = .ok b) dm_cX3_timesOccurred_0 6 rfl
theorem dX3_timesOccurred_11 : decode cX3_timesOccurred 11 = .ok (.aload_n 2, 1) := dq0 (p := fun a b => decode cX3_timesOccurred a = .ok b) dm_cX3_timesOccurred_0 7 rfl
theorem dX3_timesOccurred_12 : decode cX3_timesOccurred 12 = .ok (.getfield 28, 3) := dq0 (p := fun a b => decode cX3_timesOccurred a = .ok b) dm_cX3_timesOccurred_0 8 rfl
theorem dX3_timesOccurred_15 : decode cX3_timesOccurred 15 = .ok (.aload_n 0, 1) := dq0 (p := fun a b => decode cX3_timesOccurred a = .ok b) dm_cX3_timesOccurred_0 9 rfl
theorem dX3_timesOccurred_16 : decode cX3_timesOccurred 16 = .ok (.getfield 25, 3) := dq0 (p := fun a b => decode cX3_timesOccurred a = .ok b) dm_cX3_timesOccurred_0 10 rfl
theorem dX3_timesOccurred_19 : decode cX3_timesOccurred 19 = .ok (.getfield 28, 3) := dq0 (p := fun a b => decode cX3_timesOccurred a = .ok b) dm_cX3_timesOccurred_0 11 rfl
theorem dX3_timesOccurred_22 : decode cX3_timesOccurred 22 = .ok (.invokevirtual 272, 3) := dq0 (p := fun a b => decode cX3_timesOccurred a = .ok b) dm_cX3_timesOccurred_0 12 rfl
theorem dX3_timesOccurred_25 : decode cX3_timesOccurred 25 = .ok (.ifCond .eq 6, 3) := dq0 (p := fun a b => decode cX3_timesOccurred a = .ok b) dm_cX3_timesOccurred_0 13 rfl
theorem dX3_timesOccurred_28 : decode cX3_timesOccurred 28 = .ok (.iinc 1 1, 3) := dq0 (p := fun a b => decode cX3_timesOccurred a = .ok b) dm_cX3_timesOccurred_0 14 rfl
theorem dX3_timesOccurred_31 : decode cX3_timesOccurred 31 = .ok (.aload_n 2, 1) := dq0 (p := fun a b => decode cX3_timesOccurred a = .ok b) dm_cX3_timesOccurred_0 15 rfl
theorem dX3_timesOccurred_32 : decode cX3_timesOccurred 32 = .ok (.getfield 232, 3) := dq0 (p := fun a b => decode cX3_timesOccurred a = .ok b) dm_cX3_timesOccurred_0 16 rfl
theorem dX3_timesOccurred_35 : decode cX3_timesOccurred 35 = .ok (.astore_n 2, 1) := dq0 (p := fun a b => decode cX3_timesOccurred a = .ok b) dm_cX3_timesOccurred_0 17 rfl
theorem dX3_timesOccurred_36 : decode cX3_timesOccurred 36 = .ok (.goto (-29), 3) := dq0 (p := fun a b => decode cX3_timesOccurred a = .ok b) dm_cX3_timesOccurred_0 18 rfl
theorem dX3_timesOccurred_39 : decode cX3_timesOccurred 39 = .ok (.iload_n 1, 1) := dq0 (p := fun a b => decode cX3_timesOccurred a = .ok b) dm_cX3_timesOccurred_0 19 rfl
theorem dX3_timesOccurred_40 : decode cX3_timesOccurred 40 = .ok (.ireturn, 1) := dq0 (p := fun a b => decode cX3_timesOccurred a = .ok b) dm_cX3_timesOccurred_0 20 rfl
theorem dm_cX3_tryMove_0 : ([(0, .aload_n 0, 1), (1, .getfield 21, 3), (4, .aload_n 0, 1), (5, .getfield 25, 3), (8, .getfield 28, 3), (11, .invokevirtual 259, 3), (14, .aload_n 0, 1), (15, .getfield 21, 3), (18, .iload_n 1, 1), (19, .iload_n 2, 1), (20, .invokevirtual 207, 3), (23, .pop, 1), (24, .aload_n 0, 1), (25, .getfield 21, 3), (28, .invokevirtual 216, 3), (31, .return_, 1)] : List (Nat × Instr × Nat)).all (fun t => decide (decode cX3_tryMove t.1 = .ok t.2)) = true := by decide +kernel
theorem dX3_tryMove_0 : decode cX3_tryMove 0 = .ok (.aload_n 0, 1) := dq0 (p := fun a b => decode cX3_tryMove a = .ok b) dm_cX3_tryMove_0 0 rfl
theorem dX3_tryMove_1 : decode cX3_tryMove 1 = .ok (.getfield 21, 3) := dq0 (p := fun a b => decode cX3_tryMove a = .ok b) dm_cX3_tryMove_0 1 rfl
theorem dX3_tryMove_4 : decode cX3_tryMove 4 = .ok (.aload_n 0, 1) := dq0 (p := fun a b => decode cX3_tryMove a = .ok b) dm_cX3_tryMove_0 2 rfl
theorem dX3_tryMove_5 : decode cX3_tryMove 5 = .ok (.getfield 25, 3) := dq0 (p := fun a b => decode cX3_tryMove a = .ok b) dm_cX3_tryMove_0 3 rfl
theorem dX3_tryMove_8 : decode cX3_tryMove 8 = .ok (.getfield 28, 3) := dq0 (p := fun a b => decode cX3_tryMove a = .ok b) dm_cX3_tryMove_0 4 rfl
theorem dX3_tryMove_11 : decode cX3_tryMove 11 = .ok (.invokevirtual 259, 3) := dq0 (p := fun a b => decode cX3_tryMove a = .ok b) dm_cX3_tryMove_0 5 rfl
theorem dX3_tryMove_14 : decode cX3_tryMove 14 = .ok (.aload_n 0, 1) := dq0 (p := fun a b => decode cX3_tryMove a = .ok b) dm_cX3_tryMove_0 6 rfl
theorem dX3_tryMove_15 : decode cX3_tryMove 15 = .ok (.getfield 21, 3) := dq0 (p := fun a b => decode cX3_tryMove a = .ok b) dm_cX3_tryMove_0 7 rfl
theorem dX3_tryMove_18 : decode cX3_tryMove 18 = .ok (.iload_n 1, 1) := dq0 (p := fun a b => decode cX3_tryMove a = .ok b) dm_cX3_tryMove_0 8 rfl
theorem dX3_tryMove_19 : decode cX3_tryMove 19 = .ok (.iload_n 2, 1) := dq0 (p := fun a b => decode cX3_tryMove a = .ok b) dm_cX3_tryMove_0 9 rfl
theorem dX3_tryMove_20 : decode cX3_tryMove 20 = .ok (.invokevirtual 207, 3) := dq0 (p := fun a b => decode cX3_tryMove a = .ok b) dm_cX3_tryMove_0 10 rfl
theorem dX3_tryMove_23 : decode cX3_tryMove 23 = .ok (.pop, 1) := dq0 (p := fun a b => decode cX3_tryMove a = .ok b) dm_cX3_tryMove_0 11 rfl
theorem dX3_tryMove_24 : decode cX3_tryMove 24 = .ok (.aload_n 0, 1) := dq0 (p := fun a b => decode cX3_tryMove a = .ok b) dm_cX3_tryMove_0 12 rfl
theorem dX3_tryMove_25 : decode cX3_tryMove 25 = .ok (.getfield 21, 3) := dq0 (p := fun a b => decode cX3_tryMove a = .ok b) dm_cX3_tryMove_0 13 rfl
theorem dX3_tryMove_28 : decode cX3_tryMove 28 = .ok (.invokevirtual 216, 3) := dq0 (p := fun a b => decode cX3_tryMove a = .ok b) dm_cX3_tryMove_0 14 rfl
theorem dX3_tryMove_31 : decode cX3_tryMove 31 = .ok (.return_, 1) := dq0 (p := fun a b => decode cX3_tryMove a = .ok b) dm_cX3_tryMove_0 15 rfl
theorem dm_cX3_countPairsOfMoves_0 : ([(0, .aload_n 0, 1), (1, .getfield 25, 3), (4, .getfield 28, 3), (7, .astore_n 1, 1), (8, .aload_n 1, 1), (9, .invokevirtual 162, 3), (12, .lstore_n 2, 1), (13, .iconst 0, 1), (14, .istore 4, 2), (16, .iconst 0, 1), (17, .istore 5, 2), (19, .iload 5, 2), (21, .bipush 64, 2), (23, .if_icmp .ge 87, 3), (26, .aload_n 1, 1), (27, .invokevirtual 159, 3), (30, .iload 5, 2), (32, .invokestatic 104, 3), (35, .ifCond .eq 13, 3), (38, .aload_n 1, 1), (39, .iload 5, 2), (41, .lload_n 2, 1), (42, .invokevirtual 165, 3), (45, .goto 4, 3), (48, .lconst 0, 1), (49, .lstore 6, 2), (51, .iconst 0, 1), (52, .istore 8, 2), (54, .iload 8, 2), (56, .bipush 64, 2), (58, .if_icmp .ge 46, 3), (61, .lload 6, 2), (63, .lconst 0, 1), (64, .lcmp, 1), (65, .ifCond .eq 39, 3), (68, .lload 6, 2), (70, .iload 8, 2), (72, .invokestatic 104, 3), (75, .ifCond .eq 23, 3), (78, .aload_n 0, 1), (79, .iload 5, 2), (81, .iload 8, 2), (83, .invokevirtual 182, 3), (86, .iload 4, 2), (88, .aload_n 0, 1), (89, .getfield 21, 3), (92, .invokevirtual 169, 3), (95, .iadd, 1), (96, .istore 4, 2), (98, .iinc 8 1, 3), (101, .goto (-47), 3), (104, .iinc 5 1, 3), (107, .goto (-88), 3), (110, .iload 4, 2), (112, .ireturn, 1)] : List (Nat × Instr × Nat)).all (fun t => decide (decode cX3_countPairsOfMoves t.1 = .ok t.2)) = true := by decide +kernel
theorem dX3_countPairsOfMoves_0 : decode cX3_countPairsOfMoves 0 = .ok (.aload_n 0, 1) := dq0 (p := fun a b => decode cX3_countPairsOfMoves a = .ok b) dm_cX3_countPairsOfMoves_0 0 rfl
theorem dX3_countPairsOfMoves_1 : decode cX3_countPairsOfMoves 1 = .ok (.getfield 25, 3) := dq0 (p := fun a b => decode cX3_countPairsOfMoves a = .ok b) dm_cX3_countPairsOfMoves_0 1 rfl
theorem dX3_countPairsOfMoves_4 : decode cX3_countPairsOfMoves 4 = .ok (.getfield 28, 3) := dq0 (p := fun a b => decode cX3_countPairsOfMoves a = .ok b) dm_cX3_countPairsOfMoves_0 2 rfl
theorem dX3_countPairsOfMoves_7 : decode cX3_countPairsOfMoves 7 = .ok (.astore_n 1, 1) := dq0 (p := fun a b => decode cX3_countPairsOfMoves a = .ok b) dm_cX3_countPairsOfMoves_0 3 rfl
theorem dX3_countPairsOfMoves_8 : decode cX3_countPairsOfMoves 8 = .ok (.aload_n 1, 1) := dq0 (p := fun a b => decode cX3_countPairsOfMoves a = .ok b) dm_cX3_countPairsOfMoves_0 4 rfl
theorem dX3_countPairsOfMoves_9 : decode cX3_countPairsOfMoves 9 = .ok (.invokevirtual 162, 3) := dq0 (p := fun a b => decode cX3_countPairsOfMoves a = .ok b) dm_cX3_countPairsOfMoves_0 5 rfl
theorem dX3_countPairsOfMoves_12 : decode cX3_countPairsOfMoves 12 = .ok (.lstore_n 2, 1) := dq0 (p := fun a b => decode cX3_countPairsOfMoves a = .ok b) dm_cX3_countPairsOfMoves_0 6 rfl
theorem dX3_countPairsOfMoves_13 : decode cX3_countPairsOfMoves 13 = .ok (.iconst 0, 1) := dq0 (p := fun a b => decode cX3_countPairsOfMoves a = .ok b) dm_cX3_countPairsOfMoves_0 7 rfl
theorem dX3_countPairsOfMoves_14 : decode cX3_countPairsOfMoves 14 = .ok (.istore 4, 2) := dq0 (p := fun a b => decode cX3_countPairsOfMoves a = .ok b) dm_cX3_countPairsOfMoves_0 8 rfl
theorem dX3_countPairsOfMoves_16 : decode cX3_countPairsOfMoves 16 = .ok (.iconst 0, 1) := dq0 (p := fun a b => decode cX3_countPairsOfMoves a = .ok b) dm_cX3_countPairsOfMoves_0 9 rfl
theorem dX3_countPairsOfMoves_17 : decode cX3_countPairsOfMoves 17 = .ok (.istore 5, 2) := dq0 (p := fun a b => decode cX3_countPairsOfMoves a = .ok b) dm_cX3_countPairsOfMoves_0 10 rfl
theorem dX3_countPairsOfMoves_19 : decode cX3_countPairsOfMoves 19 = .ok (.iload 5, 2) := dq0 (p := fun a b => decode cX3_countPairsOfMoves a = .ok b) dm_cX3_countPairsOfMoves_0 11 rfl
theorem dX3_countPairsOfMoves_21 : decode cX3_countPairsOfMoves 21 = .ok (.bipush 64, 2) := dq0 (p := fun a b => decode cX3_countPairsOfMoves a = .ok b) dm_cX3_countPairsOfMoves_0 12 rfl
theorem dX3_countPairsOfMoves_23 : decode cX3_countPairsOfMoves 23 = .ok (.if_icmp .ge 87, 3) := dq0 (p := fun a b => decode cX3_countPairsOfMoves a = .ok b) dm_cX3_countPairsOfMoves_0 13 rfl
theorem dX3_countPairsOfMoves_26 : decode cX3_countPairsOfMoves 26 = .ok (.aload_n 1, 1) := dq0 (p := fun a b => decode cX3_countPairsOfMoves a = .ok b) dm_cX3_countPairsOfMoves_0 14 rfl
theorem dX3_countPairsOfMoves_27 : decode cX3_countPairsOfMoves 27 = .ok (.invokevirtual 159, 3) := dq0 (p := fun a b => decode cX3_countPairsOfMoves a = .ok b) dm_cX3_countPairsOfMoves_0 15 rfl
theorem dX3_countPairsOfMoves_30 : decode cX3_countPairsOfMoves 30 = .ok (.iload 5, 2) := dq0 (p := fun a b => decode cX3_countPairsOfMoves a = .ok b) dm_cX3_countPairsOfMoves_0 16 rfl
theorem dX3_countPairsOfMoves_32 : decode cX3_countPairsOfMoves 32 = .ok (.invokestatic 104, 3) := dq0 (p := fun a b => decode cX3_countPairsOfMoves a = .ok b) dm_cX3_countPairsOfMoves_0 17 rfl
theorem dX3_countPairsOfMoves_35 : decode cX3_countPairsOfMoves 35 = .ok (.ifCond .eq 13, 3) := dq0 (p := fun a b => decode cX3_countPairsOfMoves a = .ok b) dm_cX3_countPairsOfMoves_0 18 rfl
theorem dX3_countPairsOfMoves_38 : decode cX3_countPairsOfMoves 38 = .ok (.aload_n 1, 1) := dq0 (p := fun a b => decode cX3_countPairsOfMoves a = .ok b) dm_cX3_countPairsOfMoves_0 19 rfl
theorem dX3_countPairsOfMoves_39 : decode cX3_countPairsOfMoves 39 = .ok (.iload 5, 2) := dq0 (p := fun a b => decode cX3_countPairsOfMoves a = .ok b) dm_cX3_countPairsOfMoves_0 20 rfl
theorem dX3_countPairsOfMoves_41 : decode cX3_countPairsOfMoves 41 = .ok (.lload_n 2, 1) := dq0 (p := fun a b => decode cX3_countPairsOfMoves a = .ok b) dm_cX3_countPairsOfMoves_0 21 rfl
theorem dX3_countPairsOfMoves_42 : decode cX3_countPairsOfMoves 42 = .ok (.invokevirtual 165, 3) := dq0 (p := fun a b => decode cX3_countPairsOfMoves a = .ok b) dm_cX3_countPairsOfMoves_0 22 rfl
theorem dX3_countPairsOfMoves_45 : decode cX3_countPairsOfMoves 45 = .ok (.goto 4, 3) := dq0 (p := fun a b => decode cX3_countPairsOfMoves a = .ok b) dm_cX3_countPairsOfMoves_0 23 rfl
theorem dX3_countPairsOfMoves_48 : decode cX3_countPairsOfMoves 48 = .ok (.lconst 0, 1) := dq0 (p := fun a b => decode cX3_countPairsOfMoves a = .ok b) dm_cX3_countPairsOfMoves_0 24 rfl
theorem dX3_countPairsOfMoves_49 : decode cX3_countPairsOfMoves 49 = .ok (.lstore 6, 2) := dq0 (p := fun a b => decode cX3_countPairsOfMoves a = .ok b) dm_cX3_countPairsOfMoves_0 25 rfl
theorem dX3_countPairsOfMoves_51 : decode cX3_countPairsOfMoves 51 = .ok (.iconst 0, 1) := dq0 (p := fun a b => decode cX3_countPairsOfMoves a = .ok b) dm_cX3_countPairsOfMoves_0 26 rfl
theorem dX3_countPairsOfMoves_52 : decode cX3_countPairsOfMoves 52 = .ok (.istore 8, 2) := dq0 (p := fun a b => decode cX3_countPairsOfMoves a = .ok b) dm_cX3_countPairsOfMoves_0 27 rfl
theorem dX3_countPairsOfMoves_54 : decode cX3_countPairsOfMoves 54 = .ok (.iload 8, 2) := dq0 (p := fun a b => decode cX3_countPairsOfMoves a = .ok b) dm_cX3_countPairsOfMoves_0 28 rfl
theorem dX3_countPairsOfMoves_56 : decode cX3_countPairsOfMoves 56 = .ok (.bipush 64, 2) := dq0 (p := fun a b => decode cX3_countPairsOfMoves a = .ok b) dm_cX3_countPairsOfMoves_0 29 rfl
theorem dX3_countPairsOfMoves_58 : decode cX3_countPairsOfMoves 58 = .ok (.if_icmp .ge 46, 3) := dq0 (p := fun a b => decode cX3_countPairsOfMoves a = .ok b) dm_cX3_countPairsOfMoves_0 30 rfl
theorem dX3_countPairsOfMoves_61 : decode cX3_countPairsOfMoves 61 = .ok (.lload 6, 2) := dq0 (p := fun a b => decode cX3_countPairsOfMoves a = .ok b) dm_cX3_countPairsOfMoves_0 31 rfl
theorem dX3_countPairsOfMoves_63 : decode cX3_countPairsOfMoves 63 = .ok (.lconst 0, 1) := dq0 (p := fun a b => decode cX3_countPairsOfMoves a = .ok b) dm_cX3_countPairsOfMoves_0 32 rfl
theorem dX3_countPairsOfMoves_64 : decode cX3_countPairsOfMoves 64 = .ok (.lcmp, 1) := dq0 (p := fun a b => decode cX3_countPairsOfMoves a = .ok b) dm_cX3_countPairsOfMoves_0 33 rfl
theorem dX3_countPairsOfMoves_65 : decode cX3_countPairsOfMoves 65 = .ok (.ifCond .eq 39, 3) := dq0 (p := fun a b => decode cX3_countPairsOfMoves a = .ok b) dm_cX3_countPairsOfMoves_0 34 rfl
theorem dX3_countPairsOfMoves_68 : decode cX3_countPairsOfMoves 68 = .ok (.lload 6, 2) := dq0 (p := fun a b => decode cX3_countPairsOfMoves a = .ok b) dm_cX3_countPairsOfMoves_0 35 rfl
theorem dX3_countPairsOfMoves_70 : decode cX3_countPairsOfMoves 70 = .ok (.iload 8, 2) := dq0 (p := fun a b => decode cX3_countPairsOfMoves a = .ok b) dm_cX3_countPairsOfMoves_0 36 rfl
theorem dX3_countPairsOfMoves_72 : decode cX3_countPairsOfMoves 72 = .ok (.invokestatic 104, 3) := dq0 (p := fun a b => decode cX3_countPairsOfMoves a = .ok b) dm_cX3_countPairsOfMoves_0 37 rfl
theorem dX3_countPairsOfMoves_75 : decode cX3_countPairsOfMoves 75 = .ok (.ifCond .eq 23, 3) := dq0 (p := fun a b => decode cX3_countPairsOfMoves a = .ok b) dm_cX3_countPairsOfMoves_0 38 rfl
theorem dX3_countPairsOfMoves_78 : decode cX3_countPairsOfMoves 78 = .ok (.aload_n 0, 1) := dq0 (p := fun a b => decode cX3_countPairsOfMoves a = .ok b) dm_cX3_countPairsOfMoves_0 39 rfl
theorem dX3_countPairsOfMoves_79 : decode cX3_countPairsOfMoves 79 = .ok (.iload 5, 2) := dq0 (p := fun a b => decode cX3_countPairsOfMoves a = .ok b) dm_cX3_countPairsOfMoves_0 40 rfl
theorem dX3_countPairsOfMoves_81 : decode cX3_countPairsOfMoves 81 = .ok (.iload 8, 2) := dq0 (p := fun a b => decode cX3_countPairsOfMoves a = .ok b) dm_cX3_countPairsOfMoves_0 41 rfl
theorem dX3_countPairsOfMoves_83 : decode cX3_countPairsOfMoves 83 = .ok (.invokevirtual 182, 3) := dq0 (p := fun a b => decode cX3_countPairsOfMoves a = .ok b) dm_cX3_countPairsOfMoves_0 42 rfl
theorem dX3_countPairsOfMoves_86 : decode cX3_countPairsOfMoves 86 = .ok (.iload 4, 2) := dq0 (p := fun a b => decode cX3_countPairsOfMoves a = .ok b) dm_cX3_countPairsOfMoves_0 43 rfl
theorem dX3_countPairsOfMoves_88 : decode cX3_countPairsOfMoves 88 = .ok (.aload_n 0, 1) := dq0 (p := fun a b => decode cX3_countPairsOfMoves a = .ok b) dm_cX3_countPairsOfMoves_0 44 rfl
theorem dX3_countPairsOfMoves_89 : decode cX3_countPairsOfMoves 89 = .ok (.getfield 21, 3) := dq0 (p := fun a b => decode cX3_countPairsOfMoves a = .ok b) dm_cX3_countPairsOfMoves_0 45 rfl
theorem dX3_countPairsOfMoves_92 : decode cX3_countPairsOfMoves 92 = .ok (.invokevirtual 169, 3) := dq0 (p := fun a b => decode cX3_countPairsOfMoves a = .ok b) dm_cX3_countPairsOfMoves_0 46 rfl
theorem dX3_countPairsOfMoves_95 : decode cX3_countPairsOfMoves 95 = .ok (.iadd, 1) := dq0 (p := fun a b => decode cX3_countPairsOfMoves a = .ok b) dm_cX3_countPairsOfMoves_0 47 rfl
theorem dX3_countPairsOfMoves_96 : decode cX3_countPairsOfMoves 96 = .ok (.istore 4, 2) := dq0 (p := fun a b => decode cX3_countPairsOfMoves a = .ok b) dm_cX3_countPairsOfMoves_0 48 rfl
theorem dX3_countPairsOfMoves_98 : decode cX3_countPairsOfMoves 98 = .ok (.iinc 8 1, 3) := dq0 (p := fun a b => decode cX3_countPairsOfMoves a = .ok b) dm_cX3_countPairsOfMoves_0 49 rfl
theorem dX3_countPairsOfMoves_101 : decode cX3_countPairsOfMoves 101 = .ok (.goto (-47), 3) := dq0 (p := fun a b => decode cX3_countPairsOfMoves a = .ok b) dm_cX3_countPairsOfMoves_0 50 rfl
theorem dX3_countPairsOfMoves_104 : decode cX3_countPairsOfMoves 104 = .ok (.iinc 5 1, 3) := dq0 (p := fun a b => decode cX3_countPairsOfMoves a = .ok b) dm_cX3_countPairsOfMoves_0 51 rfl
theorem dX3_countPairsOfMoves_107 : decode cX3_countPairsOfMoves 107 = .ok (.goto (-88), 3) := dq0 (p := fun a b => decode cX3_countPairsOfMoves a = .ok b) dm_cX3_countPairsOfMoves_0 52 rfl
theorem dX3_countPairsOfMoves_110 : decode cX3_countPairsOfMoves 110 = .ok (.iload 4, 2) := dq0 (p := fun a b => decode cX3_countPairsOfMoves a = .ok b) dm_cX3_countPairsOfMoves_0 53 rfl
theorem dX3_countPairsOfMoves_112 : decode cX3_countPairsOfMoves 112 = .ok (.ireturn, 1) := dq0 (p := fun a b => decode cX3_countPairsOfMoves a = .ok b) dm_cX3_countPairsOfMoves_0 54 rfl
theorem dm_cX3_requireSquare_0 : ([(0, .iload_n 0, 1), (1, .ifCond .lt 9, 3), (4, .iload_n 0, 1), (5, .bipush 64, 2), (7, .if_icmp .lt 14, 3), (10, .new 276, 3), (13, .dup, 1), (14, .ldc_w 278, 3), (17, .invokespecial 280, 3), (20, .athrow, 1), (21, .return_, 1)] : List (Nat × Instr × Nat)).all (fun t => decide (decode cX3_requireSquare t.1 = .ok t.2)) = true := by decide +kernel
theorem dX3_requireSquare_0 : decode cX3_requireSquare 0 = .ok (.iload_n 0, 1) := dq0 (p := fun a b => decode cX3_requireSquare a = .ok b) dm_cX3_requireSquare_0 0 rfl
theorem dX3_requireSquare_1 : decode cX3_requireSquare 1 = .ok (.ifCond .lt 9, 3) := dq0 (p := fun a b => decode cX3_requireSquare a = .ok b) dm_cX3_requireSquare_0 1 rfl
theorem dX3_requireSquare_4 : decode cX3_requireSquare 4 = .ok (.iload_n 0, 1) := dq0 (p := fun a b => decode cX3_requireSquare a = .ok b) dm_cX3_requireSquare_0 2 rfl
theorem dX3_requireSquare_5 : decode cX3_requireSquare 5 = .ok (.bipush 64, 2) := dq0 (p := fun a b => decode cX3_requireSquare a = .ok b) dm_cX3_requireSquare_0 3 rfl
theorem dX3_requireSquare_7 : decode cX3_requireSquare 7 = .ok (.if_icmp .lt 14, 3) := dq0 (p := fun a b => decode cX3_requireSquare a = .ok b) dm_cX3_requireSquare_0 4 rfl
theorem dX3_requireSquare_10 : decode cX3_requireSquare 10 = .ok (.new 276, 3) := dq0 (p := fun a b => decode cX3_requireSquare a = .ok b) dm_cX3_requireSquare_0 5 rfl
theorem dX3_requireSquare_13 : decode cX3_requireSquare 13 = .ok (.dup, 1) := dq0 (p := fun a b => decode cX3_requireSquare a = .ok b) dm_cX3_requireSquare_0 6 rfl
theorem dX3_requireSquare_14 : decode cX3_requireSquare 14 = .ok (.ldc_w 278, 3) := dq0 (p := fun a b => decode cX3_requireSquare a = .ok b) dm_cX3_requireSquare_0 7 rfl
theorem dX3_requireSquare_17 : decode cX3_requireSquare 17 = .ok (.invokespecial 280, 3) := dq0 (p := fun a b => decode cX3_requireSquare a = .ok b) dm_cX3_requireSquare_0 8 rfl
theorem dX3_requireSquare_20 : decode cX3_requireSquare 20 = .ok (.athrow, 1) := dq0 (p := fun a b => decode cX3_requireSquare a = .ok b) dm_cX3_requireSquare_0 9 rfl
theorem dX3_requireSquare_21 : decode cX3_requireSquare 21 = .ok (.return_, 1) := dq0 (p := fun a b => decode cX3_requireSquare a = .ok b) dm_cX3_requireSquare_0 10 rfl
theorem dm_cX3_requireKind_0 : ([(0, .iload_n 0, 1), (1, .iconst 1, 1), (2, .if_icmp .lt 9, 3), (5, .iload_n 0, 1), (6, .bipush 6, 2), (8, .if_icmp .le 14, 3), (11, .new 188, 3), (14, .dup, 1), (15, .ldc_w 281, 3), (18, .invokespecial 192, 3), (21, .athrow, 1), (22, .return_, 1)] : List (Nat × Instr × Nat)).all (fun t => decide (decode cX3_requireKind t.1 = .ok t.2)) = true := by decide +kernel
theorem dX3_requireKind_0 : decode cX3_requireKind 0 = .ok (.iload_n 0, 1) := dq0 (p := fun a b => decode cX3_requireKind a = .ok b) dm_cX3_requireKind_0 0 rfl
theorem dX3_requireKind_1 : decode cX3_requireKind 1 = .ok (.iconst 1, 1) := dq0 (p := fun a b => decode cX3_requireKind a = .ok b) dm_cX3_requireKind_0 1 rfl
theorem dX3_requireKind_2 : decode cX3_requireKind 2 = .ok (.if_icmp .lt 9, 3) := dq0 (p := fun a b => decode cX3_requireKind a = .ok b) dm_cX3_requireKind_0 2 rfl
theorem dX3_requireKind_5 : decode cX3_requireKind 5 = .ok (.iload_n 0, 1) := dq0 (p := fun a b => decode cX3_requireKind a = .ok b) dm_cX3_requireKind_0 3 rfl
theorem dX3_requireKind_6 : decode cX3_requireKind 6 = .ok (.bipush 6, 2) := dq0 (p := fun a b => decode cX3_requireKind a = .ok b) dm_cX3_requireKind_0 4 rfl
theorem dX3_requireKind_8 : decode cX3_requireKind 8 = .ok (.if_icmp .le 14, 3) := dq0 (p := fun a b => decode cX3_requireKind a = .ok b) dm_cX3_requireKind_0 5 rfl
theorem dX3_requireKind_11 : decode cX3_requireKind 11 = .ok (.new 188, 3) := dq0 (p := fun a b => decode cX3_requireKind a = .ok b) dm_cX3_requireKind_0 6 rfl
theorem dX3_requireKind_14 : decode cX3_requireKind 14 = .ok (.dup, 1) := dq0 (p := fun a b => decode cX3_requireKind a = .ok b) dm_cX3_requireKind_0 7 rfl
theorem dX3_requireKind_15 : decode cX3_requireKind 15 = .ok (.ldc_w 281, 3) := dq0 (p := fun a b => decode cX3_requireKind a = .ok b) dm_cX3_requireKind_0 8 rfl
theorem dX3_requireKind_18 : decode cX3_requireKind 18 = .ok (.invokespecial 192, 3) := dq0 (p := fun a b => decode cX3_requireKind a = .ok b) dm_cX3_requireKind_0 9 rfl
theorem dX3_requireKind_21 : decode cX3_requireKind 21 = .ok (.athrow, 1) := dq0 (p := fun a b => decode cX3_requireKind a = .ok b) dm_cX3_requireKind_0 10 rfl
theorem dX3_requireKind_22 : decode cX3_requireKind 22 = .ok (.return_, 1) := dq0 (p := fun a b => decode cX3_requireKind a = .ok b) dm_cX3_requireKind_0 11 rfl
theorem dm_cX3_weightOf_0 : ([(0, .iload_n 0, 1), (1, .tableswitch 63 2 6 #[35, 39, 43, 47, 61], 35), (36, .ldc_w 283, 3), (39, .freturn, 1), (40, .ldc_w 284, 3), (43, .freturn, 1), (44, .ldc_w 285, 3), (47, .freturn, 1), (48, .iload_n 1, 1), (49, .ifCond .eq 9, 3), (52, .ldc_w 286, 3), (55, .goto 6, 3), (58, .ldc_w 287, 3), (61, .freturn, 1), (62, .fconst 1, 1), (63, .freturn, 1), (64, .fconst 0, 1), (65, .freturn, 1)] : List (Nat × Instr × Nat)).all (fun t => decide (decode cX3_weightOf t.1 = .ok t.2)) = true := by decide +kernel
theorem dX3_weightOf_0 : decode cX3_weightOf 0 = .ok (.iload_n 0, 1) := dq0 (p := fun a b => decode cX3_weightOf a = .ok b) dm_cX3_weightOf_0 0 rfl
theorem dX3_weightOf_1 : decode cX3_weightOf 1 = .ok (.tableswitch 63 2 6 #[35, 39, 43, 47, 61], 35) := dq0 (p := fun a b => decode cX3_weightOf a = .ok b) dm_cX3_weightOf_0 1 rfl
theorem dX3_weightOf_36 : decode cX3_weightOf 36 = .ok (.ldc_w 283, 3) := dq0 (p := fun a b => decode cX3_weightOf a = .ok b) dm_cX3_weightOf_0 2 rfl
theorem dX3_weightOf_39 : decode cX3_weightOf 39 = .ok (.freturn, 1) := dq0 (p := fun a b => decode cX3_weightOf a = .ok b) dm_cX3_weightOf_0 3 rfl
theorem dX3_weightOf_40 : decode cX3_weightOf 40 = .ok (.ldc_w 284, 3) := dq0 (p := fun a b => decode cX3_weightOf a = .ok b) dm_cX3_weightOf_0 4 rfl
theorem dX3_weightOf_43 : decode cX3_weightOf 43 = .ok (.freturn, 1) := dq0 (p := fun a b => decode cX3_weightOf a = .ok b) dm_cX3_weightOf_0 5 rfl
theorem dX3_weightOf_44 : decode cX3_weightOf 44 = .ok (.ldc_w 285, 3) := dq0 (p := fun a b => decode cX3_weightOf a = .ok b) dm_cX3_weightOf_0 6 rfl
theorem dX3_weightOf_47 : decode cX3_weightOf 47 = .ok (.freturn, 1) := dq0 (p := fun a b => decode cX3_weightOf a = .ok b) dm_cX3_weightOf_0 7 rfl
theorem dX3_weightOf_48 : decode cX3_weightOf 48 = .ok (.iload_n 1, 1) := dq0 (p := fun a b => decode cX3_weightOf a = .ok b) dm_cX3_weightOf_0 8 rfl
theorem dX3_weightOf_49 : decode cX3_weightOf 49 = .ok (.ifCond .eq 9, 3) := dq0 (p := fun a b => decode cX3_weightOf a = .ok b) dm_cX3_weightOf_0 9 rfl
theorem dX3_weightOf_52 : decode cX3_weightOf 52 = .ok (.ldc_w 286, 3) := dq0 (p := fun a b => decode cX3_weightOf a = .ok b) dm_cX3_weightOf_0 10 rfl
theorem dX3_weightOf_55 : decode cX3_weightOf 55 = .ok (.goto 6, 3) := dq0 (p := fun a b => decode cX3_weightOf a = .ok b) dm_cX3_weightOf_0 11 rfl
theorem dX3_weightOf_58 : decode cX3_weightOf 58 = .ok (.ldc_w 287, 3) := dq0 (p := fun a b => decode cX3_weightOf a = .ok b) dm_cX3_weightOf_0 12 rfl
theorem dX3_weightOf_61 : decode cX3_weightOf 61 = .ok (.freturn, 1) := dq0 (p := fun a b => decode cX3_weightOf a = .ok b) dm_cX3_weightOf_0 13 rfl
theorem dX3_weightOf_62 : decode cX3_weightOf 62 = .ok (.fconst 1, 1) := dq0 (p := fun a b => decode cX3_weightOf a = .ok b) dm_cX3_weightOf_0 14 rfl
theorem dX3_weightOf_63 : decode cX3_weightOf 63 = .ok (.freturn, 1) := dq0 (p := fun a b => decode cX3_weightOf a = .ok b) dm_cX3_weightOf_0 15 rfl
theorem dX3_weightOf_64 : decode cX3_weightOf 64 = .ok (.fconst 0, 1) := dq0 (p := fun a b => decode cX3_weightOf a = .ok b) dm_cX3_weightOf_0 16 rfl
theorem dX3_weightOf_65 : decode cX3_weightOf 65 = .ok (.freturn, 1) := dq0 (p := fun a b => decode cX3_weightOf a = .ok b) dm_cX3_weightOf_0 17 rfl
theorem dm_cX3_bitsOf_0 : ([(0, .fload_n 0, 1), (1, .fconst 0, 1), (2, .fcmp .l, 1), (3, .ifCond .gt 5, 3), (6, .iconst 0, 1), (7, .ireturn, 1), (8, .bipush 127, 2), (10, .istore_n 1, 1), (11, .fload_n 0, 1), (12, .fstore_n 2, 1), (13, .fload_n 2, 1), (14, .fconst 2, 1), (15, .fcmp .l, 1), (16, .ifCond .lt 20, 3), (19, .iload_n 1, 1), (20, .sipush 254, 3), (23, .if_icmp .ge 13, 3), (26, .fload_n 2, 1), (27, .fconst 2, 1), (28, .fdiv, 1), (29, .fstore_n 2, 1), (30, .iinc 1 1, 3), (33, .goto (-20), 3), (36, .fload_n 2, 1), (37, .fconst 1, 1), (38, .fcmp .g, 1), (39, .ifCond .ge 18, 3), (42, .iload_n 1, 1), (43, .iconst 1, 1), (44, .if_icmp .le 13, 3), (47, .fload_n 2, 1), (48, .fconst 2, 1), (49, .fmul, 1), (50, .fstore_n 2, 1), (51, .iinc 1 (-1), 3), (54, .goto (-18), 3), (57, .iload_n 1, 1), (58, .bipush 23, 2), (60, .ishl, 1), (61, .fload_n 2, 1), (62, .fconst 1, 1), (63, .fsub, 1), (64, .ldc_w 288, 3), (67, .fmul, 1), (68, .f2i, 1), (69, .iadd, 1), (70, .ireturn, 1)] : List (Nat × Instr × Nat)).all (fun t => decide (decode cX3_bitsOf t.1 = .ok t.2)) = true := by decide +kernel
theorem dX3_bitsOf_0 : decode cX3_bitsOf 0 = .ok (.fload_n 0, 1) := dq0 (p := fun a b => decode cX3_bitsOf a = .ok b) dm_cX3_bitsOf_0 0 rfl
theorem dX3_bitsOf_1 : decode cX3_bitsOf 1 = .ok (.fconst 0, 1) := dq0 (p := fun a b => decode cX3_bitsOf a = .ok b) dm_cX3_bitsOf_0 1 rfl
theorem dX3_bitsOf_2 : decode cX3_bitsOf 2 = .ok (.fcmp .l, 1) := dq0 (p := fun a b => decode cX3_bitsOf a = .ok b) dm_cX3_bitsOf_0 2 rfl
theorem dX3_bitsOf_3 : decode cX3_bitsOf 3 = .ok (.ifCond .gt 5, 3) := dq0 (p := fun a b => decode cX3_bitsOf a = .ok b) dm_cX3_bitsOf_0 3 rfl
theorem dX3_bitsOf_6 : decode cX3_bitsOf 6 = .ok (.iconst 0, 1) := dq0 (p := fun a b => decode cX3_bitsOf a = .ok b) dm_cX3_bitsOf_0 4 rfl
theorem dX3_bitsOf_7 : decode cX3_bitsOf 7 = .ok (.ireturn, 1) := dq0 (p := fun a b => decode cX3_bitsOf a = .ok b) dm_cX3_bitsOf_0 5 rfl
theorem dX3_bitsOf_8 : decode cX3_bitsOf 8 = .ok (.bipush 127, 2) := dq0 (p := fun a b => decode cX3_bitsOf a = .ok b) dm_cX3_bitsOf_0 6 rfl
theorem dX3_bitsOf_10 : decode cX3_bitsOf 10 = .ok (.istore_n 1, 1) := dq0 (p := fun a b => decode cX3_bitsOf a = .ok b) dm_cX3_bitsOf_0 7 rfl
theorem dX3_bitsOf_11 : decode cX3_bitsOf 11 = .ok (.fload_n 0, 1) := dq0 (p := fun a b => decode cX3_bitsOf a = .ok b) dm_cX3_bitsOf_0 8 rfl
theorem dX3_bitsOf_12 : decode cX3_bitsOf 12 = .ok (.fstore_n 2, 1) := dq0 (p := fun a b => decode cX3_bitsOf a = .ok b) dm_cX3_bitsOf_0 9 rfl
theorem dX3_bitsOf_13 : decode cX3_bitsOf 13 = .ok (.fload_n 2, 1) := dq0 (p := fun a b => decode cX3_bitsOf a = .ok b) dm_cX3_bitsOf_0 10 rfl
theorem dX3_bitsOf_14 : decode cX3_bitsOf 14 = .ok (.fconst 2, 1) := dq0 (p := fun a b => decode cX3_bitsOf a = .ok b) dm_cX3_bitsOf_0 11 rfl
theorem dX3_bitsOf_15 : decode cX3_bitsOf 15 = .ok (.fcmp .l, 1) := dq0 (p := fun a b => decode cX3_bitsOf a = .ok b) dm_cX3_bitsOf_0 12 rfl
theorem dX3_bitsOf_16 : decode cX3_bitsOf 16 = .ok (.ifCond .lt 20, 3) := dq0 (p := fun a b => decode cX3_bitsOf a = .ok b) dm_cX3_bitsOf_0 13 rfl
theorem dX3_bitsOf_19 : decode cX3_bitsOf 19 = .ok (.iload_n 1, 1) := dq0 (p := fun a b => decode cX3_bitsOf a = .ok b) dm_cX3_bitsOf_0 14 rfl
theorem dX3_bitsOf_20 : decode cX3_bitsOf 20 = .ok (.sipush 254, 3) := dq0 (p := fun a b => decode cX3_bitsOf a = .ok b) dm_cX3_bitsOf_0 15 rfl
theorem dX3_bitsOf_23 : decode cX3_bitsOf 23 = .ok (.if_icmp .ge 13, 3) := dq0 (p := fun a b => decode cX3_bitsOf a = .ok b) dm_cX3_bitsOf_0 16 rfl
theorem dX3_bitsOf_26 : decode cX3_bitsOf 26 = .ok (.fload_n 2, 1) := dq0 (p := fun a b => decode cX3_bitsOf a = .ok b) dm_cX3_bitsOf_0 17 rfl
theorem dX3_bitsOf_27 : decode cX3_bitsOf 27 = .ok (.fconst 2, 1) := dq0 (p := fun a b => decode cX3_bitsOf a = .ok b) dm_cX3_bitsOf_0 18 rfl
theorem dX3_bitsOf_28 : decode cX3_bitsOf 28 = .ok (.fdiv, 1) := dq0 (p := fun a b => decode cX3_bitsOf a = .ok b) dm_cX3_bitsOf_0 19 rfl
theorem dX3_bitsOf_29 : decode cX3_bitsOf 29 = .ok (.fstore_n 2, 1) := dq0 (p := fun a b => decode cX3_bitsOf a = .ok b) dm_cX3_bitsOf_0 20 rfl
theorem dX3_bitsOf_30 : decode cX3_bitsOf 30 = .ok (.iinc 1 1, 3) := dq0 (p := fun a b => decode cX3_bitsOf a = .ok b) dm_cX3_bitsOf_0 21 rfl
theorem dX3_bitsOf_33 : decode cX3_bitsOf 33 = .ok (.goto (-20), 3) := dq0 (p := fun a b => decode cX3_bitsOf a = .ok b) dm_cX3_bitsOf_0 22 rfl
theorem dX3_bitsOf_36 : decode cX3_bitsOf 36 = .ok (.fload_n 2, 1) := dq0 (p := fun a b => decode cX3_bitsOf a = .ok b) dm_cX3_bitsOf_0 23 rfl
theorem dX3_bitsOf_37 : decode cX3_bitsOf 37 = .ok (.fconst 1, 1) := dq0 (p := fun a b => decode cX3_bitsOf a = .ok b) dm_cX3_bitsOf_0 24 rfl
theorem dX3_bitsOf_38 : decode cX3_bitsOf 38 = .ok (.fcmp .g, 1) := dq0 (p := fun a b => decode cX3_bitsOf a = .ok b) dm_cX3_bitsOf_0 25 rfl
theorem dX3_bitsOf_39 : decode cX3_bitsOf 39 = .ok (.ifCond .ge 18, 3) := dq0 (p := fun a b => decode cX3_bitsOf a = .ok b) dm_cX3_bitsOf_0 26 rfl
theorem dX3_bitsOf_42 : decode cX3_bitsOf 42 = .ok (.iload_n 1, 1) := dq0 (p := fun a b => decode cX3_bitsOf a = .ok b) dm_cX3_bitsOf_0 27 rfl
theorem dX3_bitsOf_43 : decode cX3_bitsOf 43 = .ok (.iconst 1, 1) := dq0 (p := fun a b => decode cX3_bitsOf a = .ok b) dm_cX3_bitsOf_0 28 rfl
theorem dX3_bitsOf_44 : decode cX3_bitsOf 44 = .ok (.if_icmp .le 13, 3) := dq0 (p := fun a b => decode cX3_bitsOf a = .ok b) dm_cX3_bitsOf_0 29 rfl
theorem dX3_bitsOf_47 : decode cX3_bitsOf 47 = .ok (.fload_n 2, 1) := dq0 (p := fun a b => decode cX3_bitsOf a = .ok b) dm_cX3_bitsOf_0 30 rfl
theorem dX3_bitsOf_48 : decode cX3_bitsOf 48 = .ok (.fconst 2, 1) := dq0 (p := fun a b => decode cX3_bitsOf a = .ok b) dm_cX3_bitsOf_0 31 rfl
theorem dX3_bitsOf_49 : decode cX3_bitsOf 49 = .ok (.fmul, 1) := dq0 (p := fun a b => decode cX3_bitsOf a = .ok b) dm_cX3_bitsOf_0 32 rfl
theorem dX3_bitsOf_50 : decode cX3_bitsOf 50 = .ok (.fstore_n 2, 1) := dq0 (p := fun a b => decode cX3_bitsOf a = .ok b) dm_cX3_bitsOf_0 33 rfl
theorem dX3_bitsOf_51 : decode cX3_bitsOf 51 = .ok (.iinc 1 (-1), 3) := dq0 (p := fun a b => decode cX3_bitsOf a = .ok b) dm_cX3_bitsOf_0 34 rfl
theorem dX3_bitsOf_54 : decode cX3_bitsOf 54 = .ok (.goto (-18), 3) := dq0 (p := fun a b => decode cX3_bitsOf a = .ok b) dm_cX3_bitsOf_0 35 rfl
theorem dX3_bitsOf_57 : decode cX3_bitsOf 57 = .ok (.iload_n 1, 1) := dq0 (p := fun a b => decode cX3_bitsOf a = .ok b) dm_cX3_bitsOf_0 36 rfl
theorem dX3_bitsOf_58 : decode cX3_bitsOf 58 = .ok (.bipush 23, 2) := dq0 (p := fun a b => decode cX3_bitsOf a = .ok b) dm_cX3_bitsOf_0 37 rfl
theorem dX3_bitsOf_60 : decode cX3_bitsOf 60 = .ok (.ishl, 1) := dq0 (p := fun a b => decode cX3_bitsOf a = .ok b) dm_cX3_bitsOf_0 38 rfl
theorem dX3_bitsOf_61 : decode cX3_bitsOf 61 = .ok (.fload_n 2, 1) := dq0 (p := fun a b => decode cX3_bitsOf a = .ok b) dm_cX3_bitsOf_0 39 rfl
theorem dX3_bitsOf_62 : decode cX3_bitsOf 62 = .ok (.fconst 1, 1) := dq0 (p := fun a b => decode cX3_bitsOf a = .ok b) dm_cX3_bitsOf_0 40 rfl
theorem dX3_bitsOf_63 : decode cX3_bitsOf 63 = .ok (.fsub, 1) := dq0 (p := fun a b => decode cX3_bitsOf a = .ok b) dm_cX3_bitsOf_0 41 rfl
theorem dX3_bitsOf_64 : decode cX3_bitsOf 64 = .ok (.ldc_w 288, 3) := dq0 (p := fun a b => decode cX3_bitsOf a = .ok b) dm_cX3_bitsOf_0 42 rfl
theorem dX3_bitsOf_67 : decode cX3_bitsOf 67 = .ok (.fmul, 1) := dq0 (p := fun a b => decode cX3_bitsOf a = .ok b) dm_cX3_bitsOf_0 43 rfl
theorem dX3_bitsOf_68 : decode cX3_bitsOf 68 = .ok (.f2i, 1) := dq0 (p := fun a b => decode cX3_bitsOf a = .ok b) dm_cX3_bitsOf_0 44 rfl
theorem dX3_bitsOf_69 : decode cX3_bitsOf 69 = .ok (.iadd, 1) := dq0 (p := fun a b => decode cX3_bitsOf a = .ok b) dm_cX3_bitsOf_0 45 rfl
theorem dX3_bitsOf_70 : decode cX3_bitsOf 70 = .ok (.ireturn, 1) := dq0 (p := fun a b => decode cX3_bitsOf a = .ok b) dm_cX3_bitsOf_0 46 rfl
theorem dm_cX3_bit_0 : ([(0, .lconst 1, 1), (1, .iload_n 0, 1), (2, .lshl, 1), (3, .lreturn, 1)] : List (Nat × Instr × Nat)).all (fun t => decide (decode cX3_bit t.1 = .ok t.2)) = true := by decide +kernel
theorem dX3_bit_0 : decode cX3_bit 0 = .ok (.lconst 1, 1) := dq0 (p := fun a b => decode cX3_bit a = .ok b) dm_cX3_bit_0 0 rfl
theorem dX3_bit_1 : decode cX3_bit 1 = .ok (.iload_n 0, 1) := dq0 (p := fun a b => decode cX3_bit a = .ok b) dm_cX3_bit_0 1 rfl
theorem dX3_bit_2 : decode cX3_bit 2 = .ok (.lshl, 1) := dq0 (p := fun a b => decode cX3_bit a = .ok b) dm_cX3_bit_0 2 rfl
theorem dX3_bit_3 : decode cX3_bit 3 = .ok (.lreturn, 1) := dq0 (p := fun a b => decode cX3_bit a = .ok b) dm_cX3_bit_0 3 rfl
theorem dm_cX3_has_0 : ([(0, .lload_n 0, 1), (1, .iload_n 2, 1), (2, .lushr, 1), (3, .lconst 1, 1), (4, .land, 1), (5, .lconst 0, 1), (6, .lcmp, 1), (7, .ifCond .eq 7, 3), (10, .iconst 1, 1), (11, .goto 4, 3), (14, .iconst 0, 1), (15, .ireturn, 1)] : List (Nat × Instr × Nat)).all (fun t => decide (decode cX3_has t.1 = .ok t.2)) = true := by decide +kernel
theorem dX3_has_0 : decode cX3_has 0 = .ok (.lload_n 0, 1) := dq0 (p := fun a b => decode cX3_has a = .ok b) dm_cX3_has_0 0 rfl
theorem dX3_has_1 : decode cX3_has 1 = .ok (.iload_n 2, 1) := dq0 (p := fun a b => decode cX3_has a = .ok b) dm_cX3_has_0 1 rfl
theorem dX3_has_2 : decode cX3_has 2 = .ok (.lushr, 1) := dq0 (p := fun a b => decode cX3_has a = .ok b) dm_cX3_has_0 2 rfl
theorem dX3_has_3 : decode cX3_has 3 = .ok (.lconst 1, 1) := dq0 (p := fun a b => decode cX3_has a = .ok b) dm_cX3_has_0 3 rfl
theorem dX3_has_4 : decode cX3_has 4 = .ok (.land, 1) := dq0 (p := fun a b => decode cX3_has a = .ok b) dm_cX3_has_0 4 rfl
theorem dX3_has_5 : decode cX3_has 5 = .ok (.lconst 0, 1) := dq0 (p := fun a b => decode cX3_has a = .ok b) dm_cX3_has_0 5 rfl
theorem dX3_has_6 : decode cX3_has 6 = .ok (.lcmp, 1) := dq0 (p := fun a b => decode cX3_has a = .ok b) dm_cX3_has_0 6 rfl
theorem dX3_has_7 : decode cX3_has 7 = .ok (.ifCond .eq 7, 3) := dq0 (p := fun a b => decode cX3_has a = .ok b) dm_cX3_has_0 7 rfl
theorem dX3_has_10 : decode cX3_has 10 = .ok (.iconst 1, 1) := dq0 (p := fun a b => decode cX3_has a = .ok b) dm_cX3_has_0 8 rfl
theorem dX3_has_11 : decode cX3_has 11 = .ok (.goto 4, 3) := dq0 (p := fun a b => decode cX3_has a = .ok b) dm_cX3_has_0 9 rfl
theorem dX3_has_14 : decode cX3_has 14 = .ok (.iconst 0, 1) := dq0 (p := fun a b => decode cX3_has a = .ok b) dm_cX3_has_0 10 rfl
theorem dX3_has_15 : decode cX3_has 15 = .ok (.ireturn, 1) := dq0 (p := fun a b => decode cX3_has a = .ok b) dm_cX3_has_0 11 rfl
theorem dm_cX3_lowestOf_0 : ([(0, .lload_n 0, 1), (1, .lconst 0, 1), (2, .lcmp, 1), (3, .ifCond .ne 7, 3), (6, .iconst (-1), 1), (7, .goto 12, 3), (10, .lload_n 0, 1), (11, .lload_n 0, 1), (12, .lneg, 1), (13, .land, 1), (14, .lconst 1, 1), (15, .lsub, 1), (16, .invokestatic 76, 3), (19, .ireturn, 1)] : List (Nat × Instr × Nat)).all (fun t => decide (decode cX3_lowestOf t.1 = .ok t.2)) = true := by decide +kernel
theorem dX3_lowestOf_0 : decode cX3_lowestOf 0 = .ok (.lload_n 0, 1) := dq0 (p := fun a b => decode cX3_lowestOf a = .ok b) dm_cX3_lowestOf_0 0 rfl
theorem dX3_lowestOf_1 : decode cX3_lowestOf 1 = .ok (.lconst 0, 1) := dq0 (p := fun a b => decode cX3_lowestOf a = .ok b) dm_cX3_lowestOf_0 1 rfl
theorem dX3_lowestOf_2 : decode cX3_lowestOf 2 = .ok (.lcmp, 1) := dq0 (p := fun a b => decode cX3_lowestOf a = .ok b) dm_cX3_lowestOf_0 2 rfl
theorem dX3_lowestOf_3 : decode cX3_lowestOf 3 = .ok (.ifCond .ne 7, 3) := dq0 (p := fun a b => decode cX3_lowestOf a = .ok b) dm_cX3_lowestOf_0 3 rfl
theorem dX3_lowestOf_6 : decode cX3_lowestOf 6 = .ok (.iconst (-1), 1) := dq0 (p := fun a b => decode cX3_lowestOf a = .ok b) dm_cX3_lowestOf_0 4 rfl
theorem dX3_lowestOf_7 : decode cX3_lowestOf 7 = .ok (.goto 12, 3) := dq0 (p := fun a b => decode cX3_lowestOf a = .ok b) dm_cX3_lowestOf_0 5 rfl
theorem dX3_lowestOf_10 : decode cX3_lowestOf 10 = .ok (.lload_n 0, 1) := dq0 (p := fun a b => decode cX3_lowestOf a = .ok b) dm_cX3_lowestOf_0 6 rfl
theorem dX3_lowestOf_11 : decode cX3_lowestOf 11 = .ok (.lload_n 0, 1) := dq0 (p := fun a b => decode cX3_lowestOf a = .ok b) dm_cX3_lowestOf_0 7 rfl
theorem dX3_lowestOf_12 : decode cX3_lowestOf 12 = .ok (.lneg, 1) := dq0 (p := fun a b => decode cX3_lowestOf a = .ok b) dm_cX3_lowestOf_0 8 rfl
theorem dX3_lowestOf_13 : decode cX3_lowestOf 13 = .ok (.land, 1) := dq0 (p := fun a b => decode cX3_lowestOf a = .ok b) dm_cX3_lowestOf_0 9 rfl
theorem dX3_lowestOf_14 : decode cX3_lowestOf 14 = .ok (.lconst 1, 1) := dq0 (p := fun a b => decode cX3_lowestOf a = .ok b) dm_cX3_lowestOf_0 10 rfl
theorem dX3_lowestOf_15 : decode cX3_lowestOf 15 = .ok (.lsub, 1) := dq0 (p := fun a b => decode cX3_lowestOf a = .ok b) dm_cX3_lowestOf_0 11 rfl
theorem dX3_lowestOf_16 : decode cX3_lowestOf 16 = .ok (.invokestatic 76, 3) := dq0 (p := fun a b => decode cX3_lowestOf a = .ok b) dm_cX3_lowestOf_0 12 rfl
theorem dX3_lowestOf_19 : decode cX3_lowestOf 19 = .ok (.ireturn, 1) := dq0 (p := fun a b => decode cX3_lowestOf a = .ok b) dm_cX3_lowestOf_0 13 rfl
theorem dm_cX4_init_0 : ([(0, .aload_n 0, 1), (1, .invokespecial 1, 3), (4, .aload_n 0, 1), (5, .sipush 2336, 3), (8, .newarray .int, 2), (10, .putfield 7, 3), (13, .aload_n 0, 1), (14, .sipush 146, 3), (17, .newarray .int, 2), (19, .putfield 13, 3), (22, .aload_n 0, 1), (23, .sipush 146, 3), (26, .newarray .int, 2), (28, .putfield 16, 3), (31, .aload_n 0, 1), (32, .sipush 146, 3), (35, .newarray .int, 2), (37, .putfield 19, 3), (40, .aload_n 0, 1), (41, .sipush 146, 3), (44, .newarray .int, 2), (46, .putfield 22, 3), (49, .aload_n 0, 1), (50, .sipush 4096, 3), (53, .newarray .int, 2), (55, .putfield 25, 3), (58, .aload_n 0, 1), (59, .bipush 8, 2), (61, .newarray .int, 2), (63, .dup, 1), (64, .iconst 0, 1), (65, .iconst 3, 1), (66, .iastore, 1), (67, .dup, 1), (68, .iconst 1, 1), (69, .iconst 5, 1), (70, .iastore, 1), (71, .dup, 1), (72, .iconst 2, 1), (73, .iconst 4, 1), (74, .iastore, 1), (75, .dup, 1), (76, .iconst 3, 1), (77, .iconst 2, 1), (78, .iastore, 1), (79, .dup, 1), (80, .iconst 4, 1), (81, .iconst 1, 1), (82, .iastore, 1), (83, .dup, 1), (84, .iconst 5, 1), (85, .iconst 4, 1), (86, .iastore, 1), (87, .dup, 1), (88, .bipush 6, 2), (90, .iconst 5, 1), (91, .iastore, 1), (92, .dup, 1), (93, .bipush 7, 2), (95, .iconst 3, 1)] : List (Nat × Instr × Nat)).all (fun t => decide (decode cX4_init t.1 = .ok t.2)) = true := by decide +kernel
theorem dX4_init_0 : decode cX4_init 0 = .ok (.aload_n 0, 1) := dq0 (p := fun a b => decode cX4_init a = .ok b) dm_cX4_init_0 0 rfl
theorem dX4_init_1 : decode cX4_init 1 = .ok (.invokespecial 1, 3) := dq0 (p := fun a b => decode cX4_init a = .ok b) dm_cX4_init_0 1 rfl
theorem dX4_init_4 : decode cX4_init 4 = .ok (.aload_n 0, 1) := dq0 (p := fun a b => decode cX4_init a = .ok b) dm_cX4_init_0 2 rfl
theorem dX4_init_5 : decode cX4_init 5 = .ok (.sipush 2336, 3) := dq0 (p := fun a b => decode cX4_init a = .ok b) dm_cX4_init_0 3 rfl
theorem dX4_init_8 : decode cX4_init 8 = .ok (.newarray .int, 2) := dq0 (p := fun a b => decode cX4_init a = .ok b) dm_cX4_init_0 4 rfl
theorem dX4_init_10 : decode cX4_init 10 = .ok (.putfield 7, 3) := dq0 (p := fun a b => decode cX4_init a = .ok b) dm_cX4_init_0 5 rfl
theorem dX4_init_13 : decode cX4_init 13 = .ok (.aload_n 0, 1) := dq0 (p := fun a b => decode cX4_init a = .ok b) dm_cX4_init_0 6 rfl
theorem dX4_init_14 : decode cX4_init 14 = .ok (.sipush 146, 3) := dq0 (p := fun a b => decode cX4_init a = .ok b) dm_cX4_init_0 7 rfl
theorem dX4_init_17 : decode cX4_init 17 = .ok (.newarray .int, 2) := dq0 (p := fun a b => decode cX4_init a = .ok b) dm_cX4_init_0 8 rfl
theorem dX4_init_19 : decode cX4_init 19 = .ok (.putfield 13, 3) := dq0 (p := fun a b => decode cX4_init a = .ok b) dm_cX4_init_0 9 rfl
theorem dX4_init_22 : decode cX4_init 22 = .ok (.aload_n 0, 1) := dq0 (p := fun a b => decode cX4_init a = .ok b) dm_cX4_init_0 10 rfl
theorem dX4_init_23 : decode cX4_init 23 = .ok (.sipush 146, 3) := dq0 (p := fun a b => decode cX4_init a = .ok b) dm_cX4_init_0 11 rfl
theorem dX4_init_26 : decode cX4_init 26 = .ok (.newarray .int, 2) := dq0 (p := fun a b => decode cX4_init a = .ok b) dm_cX4_init_0 12 rfl
theorem dX4_init_28 : decode cX4_init 28 = .ok (.putfield 16, 3) := dq0 (p := fun a b => decode cX4_init a = .ok b) dm_cX4_init_0 13 rfl
theorem dX4_init_31 : decode cX4_init 31 = .ok (.aload_n 0, 1) := dq0 (p := fun a b => decode cX4_init a = .ok b) dm_cX4_init_0 14 rfl
theorem dX4_init_32 : decode cX4_init 32 = .ok (.sipush 146, 3) := dq0 (p := fun a b => decode cX4_init a = .ok b) dm_cX4_init_0 15 rfl
theorem dX4_init_35 : decode cX4_init 35 = .ok (.newarray .int, 2) := dq0 (p := fun a b => decode cX4_init a = .ok b) dm_cX4_init_0 16 rfl
theorem dX4_init_37 : decode cX4_init 37 = .ok (.putfield 19, 3) := dq0 (p := fun a b => decode cX4_init a = .ok b) dm_cX4_init_0 17 rfl
theorem dX4_init_40 : decode cX4_init 40 = .ok (.aload_n 0, 1) := dq0 (p := fun a b => decode cX4_init a = .ok b) dm_cX4_init_0 18 rfl
theorem dX4_init_41 : decode cX4_init 41 = .ok (.sipush 146, 3) := dq0 (p := fun a b => decode cX4_init a = .ok b) dm_cX4_init_0 19 rfl
theorem dX4_init_44 : decode cX4_init 44 = .ok (.newarray .int, 2) := dq0 (p := fun a b => decode cX4_init a = .ok b) dm_cX4_init_0 20 rfl
theorem dX4_init_46 : decode cX4_init 46 = .ok (.putfield 22, 3) := dq0 (p := fun a b => decode cX4_init a = .ok b) dm_cX4_init_0 21 rfl
theorem dX4_init_49 : decode cX4_init 49 = .ok (.aload_n 0, 1) := dq0 (p := fun a b => decode cX4_init a = .ok b) dm_cX4_init_0 22 rfl
theorem dX4_init_50 : decode cX4_init 50 = .ok (.sipush 4096, 3) := dq0 (p := fun a b => decode cX4_init a = .ok b) dm_cX4_init_0 23 rfl
theorem dX4_init_53 : decode cX4_init 53 = .ok (.newarray .int, 2) := dq0 (p := fun a b => decode cX4_init a = .ok b) dm_cX4_init_0 24 rfl
theorem dX4_init_55 : decode cX4_init 55 = .ok (.putfield 25, 3) := dq0 (p := fun a b => decode cX4_init a = .ok b) dm_cX4_init_0 25 rfl
theorem dX4_init_58 : decode cX4_init 58 = .ok (.aload_n 0, 1) := dq0 (p := fun a b => decode cX4_init a = .ok b) dm_cX4_init_0 26 rfl
theorem dX4_init_59 : decode cX4_init 59 = .ok (.bipush 8, 2) := dq0 (p := fun a b => decode cX4_init a = .ok b) dm_cX4_init_0 27 rfl
theorem dX4_init_61 : decode cX4_init 61 = .ok (.newarray .int, 2) := dq0 (p := fun a b => decode cX4_init a = .ok b) dm_cX4_init_0 28 rfl
theorem dX4_init_63 : decode cX4_init 63 = .ok (.dup, 1) := dq0 (p := fun a b => decode cX4_init a = .ok b) dm_cX4_init_0 29 rfl
theorem dX4_init_64 : decode cX4_init 64 = .ok (.iconst 0, 1) := dq0 (p := fun a b => decode cX4_init a = .ok b) dm_cX4_init_0 30 rfl
theorem dX4_init_65 : decode cX4_init 65 = .ok (.iconst 3, 1) := dq0 (p := fun a b => decode cX4_init a = .ok b) dm_cX4_init_0 31 rfl
theorem dX4_init_66 : decode cX4_init 66 = .ok (.iastore, 1) := dq0 (p := fun a b => decode cX4_init a = .ok b) dm_cX4_init_0 32 rfl
theorem dX4_init_67 : decode cX4_init 67 = .ok (.dup, 1) := dq0 (p := fun a b => decode cX4_init a = .ok b) dm_cX4_init_0 33 rfl
theorem dX4_init_68 : decode cX4_init 68 = .ok (.iconst 1, 1) := dq0 (p := fun a b => decode cX4_init a = .ok b) dm_cX4_init_0 34 rfl
theorem dX4_init_69 : decode cX4_init 69 = .ok (.iconst 5, 1) := dq0 (p := fun a b => decode cX4_init a = .ok b) dm_cX4_init_0 35 rfl
theorem dX4_init_70 : decode cX4_init 70 = .ok (.iastore, 1) := dq0 (p := fun a b => decode cX4_init a = .ok b) dm_cX4_init_0 36 rfl
theorem dX4_init_71 : decode cX4_init 71 = .ok (.dup, 1) := dq0 (p := fun a b => decode cX4_init a = .ok b) dm_cX4_init_0 37 rfl
theorem dX4_init_72 : decode cX4_init 72 = .ok (.iconst 2, 1) := dq0 (p := fun a b => decode cX4_init a = .ok b) dm_cX4_init_0 38 rfl
theorem dX4_init_73 : decode cX4_init 73 = .ok (.iconst 4, 1) := dq0 (p := fun a b => decode cX4_init a = .ok b) dm_cX4_init_0 39 rfl
theorem dX4_init_74 : decode cX4_init 74 = .ok (.iastore, 1) := dq0 (p := fun a b => decode cX4_init a = .ok b) dm_cX4_init_0 40 rfl
theorem dX4_init_75 : decode cX4_init 75 = .ok (.dup, 1) := dq0 (p := fun a b => decode cX4_init a = .ok b) dm_cX4_init_0 41 rfl
theorem dX4_init_76 : decode cX4_init 76 = .ok (.iconst 3, 1) := dq0 (p := fun a b => decode cX4_init a = .ok b) dm_cX4_init_0 42 rfl
theorem dX4_init_77 : decode cX4_init 77 = .ok (.iconst 2, 1) := dq0 (p := fun a b => decode cX4_init a = .ok b) dm_cX4_init_0 43 rfl
theorem dX4_init_78 : decode cX4_init 78 = .ok (.iastore, 1) := dq0 (p := fun a b => decode cX4_init a = .ok b) dm_cX4_init_0 44 rfl
theorem dX4_init_79 : decode cX4_init 79 = .ok (.dup, 1) := dq0 (p := fun a b => decode cX4_init a = .ok b) dm_cX4_init_0 45 rfl
theorem dX4_init_80 : decode cX4_init 80 = .ok (.iconst 4, 1) := dq0 (p := fun a b => decode cX4_init a = .ok b) dm_cX4_init_0 46 rfl
theorem dX4_init_81 : decode cX4_init 81 = .ok (.iconst 1, 1) := dq0 (p := fun a b => decode cX4_init a = .ok b) dm_cX4_init_0 47 rfl
theorem dX4_init_82 : decode cX4_init 82 = .ok (.iastore, 1) := dq0 (p := fun a b => decode cX4_init a = .ok b) dm_cX4_init_0 48 rfl
theorem dX4_init_83 : decode cX4_init 83 = .ok (.dup, 1) := dq0 (p := fun a b => decode cX4_init a = .ok b) dm_cX4_init_0 49 rfl
theorem dX4_init_84 : decode cX4_init 84 = .ok (.iconst 5, 1) := dq0 (p := fun a b => decode cX4_init a = .ok b) dm_cX4_init_0 50 rfl
theorem dX4_init_85 : decode cX4_init 85 = .ok (.iconst 4, 1) := dq0 (p := fun a b => decode cX4_init a = .ok b) dm_cX4_init_0 51 rfl
theorem dX4_init_86 : decode cX4_init 86 = .ok (.iastore, 1) := dq0 (p := fun a b => decode cX4_init a = .ok b) dm_cX4_init_0 52 rfl
theorem dX4_init_87 : decode cX4_init 87 = .ok (.dup, 1) := dq0 (p := fun a b => decode cX4_init a = .ok b) dm_cX4_init_0 53 rfl
theorem dX4_init_88 : decode cX4_init 88 = .ok (.bipush 6, 2) := dq0 (p := fun a b => decode cX4_init a = .ok b) dm_cX4_init_0 54 rfl
theorem dX4_init_90 : decode cX4_init 90 = .ok (.iconst 5, 1) := dq0 (p := fun a b => decode cX4_init a = .ok b) dm_cX4_init_0 55 rfl
theorem dX4_init_91 : decode cX4_init 91 = .ok (.iastore, 1) := dq0 (p := fun a b => decode cX4_init a = .ok b) dm_cX4_init_0 56 rfl
theorem dX4_init_92 : decode cX4_init 92 = .ok (.dup, 1) := dq0 (p := fun a b => decode cX4_init a = .ok b) dm_cX4_init_0 57 rfl
theorem dX4_init_93 : decode cX4_init 93 = .ok (.bipush 7, 2) := dq0 (p := fun a b => decode cX4_init a = .ok b) dm_cX4_init_0 58 rfl
theorem dX4_init_95 : decode cX4_init 95 = .ok (.iconst 3, 1) := dq0 (p := fun a b => decode cX4_init a = .ok b) dm_cX4_init_0 59 rfl
theorem dm_cX4_init_1 : ([(96, .iastore, 1), (97, .putfield 28, 3), (100, .aload_n 0, 1), (101, .invokevirtual 31, 3), (104, .aload_n 0, 1), (105, .invokevirtual 34, 3), (108, .iconst 0, 1), (109, .istore_n 1, 1), (110, .iload_n 1, 1), (111, .bipush 8, 2), (113, .if_icmp .ge 61, 3), (116, .aload_n 0, 1), (117, .getfield 13, 3), (120, .iload_n 1, 1), (121, .bipush 8, 2), (123, .aload_n 0, 1), (124, .getfield 28, 3), (127, .iload_n 1, 1), (128, .iaload, 1), (129, .iadd, 1), (130, .iastore, 1), (131, .aload_n 0, 1), (132, .getfield 13, 3), (135, .bipush 8, 2), (137, .iload_n 1, 1), (138, .iadd, 1), (139, .bipush 14, 2), (141, .iastore, 1), (142, .aload_n 0, 1), (143, .getfield 13, 3), (146, .bipush 48, 2), (148, .iload_n 1, 1), (149, .iadd, 1), (150, .bipush 6, 2), (152, .iastore, 1), (153, .aload_n 0, 1), (154, .getfield 13, 3), (157, .bipush 56, 2), (159, .iload_n 1, 1), (160, .iadd, 1), (161, .aload_n 0, 1), (162, .getfield 28, 3), (165, .iload_n 1, 1), (166, .iaload, 1), (167, .iastore, 1), (168, .iinc 1 1, 3), (171, .goto (-61), 3), (174, .aload_n 0, 1), (175, .getfield 13, 3), (178, .iconst 1, 1), (179, .bipush 6, 2), (181, .invokestatic 37, 3), (184, .aload_n 0, 1), (185, .getfield 13, 3), (188, .bipush 57, 2), (190, .bipush 62, 2), (192, .invokestatic 37, 3), (195, .aload_n 0, 1), (196, .getfield 13, 3), (199, .sipush 128, 3)] : List (Nat × Instr × Nat)).all (fun t => decide (decode cX4_init t.1 = .ok t.2)) = true := by decide +kernel
theorem dX4_init_96 : decode cX4_init 96 = .ok (.iastore, 1) := dq0 (p := fun a b => decode cX4_init a = .ok b) dm_cX4_init_1 0 rfl
theorem dX4_init_97 : decode cX4_init 97 = .ok (.putfield 28, 3) := dq0 (p := fun a b => decode cX4_init a = .ok b) dm_cX4_init_1 1 rfl
theorem dX4_init_100 : decode cX4_init 100 = .ok (.aload_n 0, 1) := dq0 (p := fun a b => decode cX4_init a = .ok b) dm_cX4_init_1 2 rfl
theorem dX4_init_101 : decode cX4_init 101 = .ok (.invokevirtual 31, 3) := dq0 (p := fun a b => decode cX4_init a = .ok b) dm_cX4_init_1 3 rfl
theorem dX4_init_104 : decode cX4_init 104 = .ok (.aload_n 0, 1) := dq0 (p := fun a b => decode cX4_init a = .ok b) dm_cX4_init_1 4 rfl
theorem dX4_init_105 : decode cX4_init 105 = .ok (.invokevirtual 34, 3) := dq0 (p := fun a b => decode cX4_init a = .ok b) dm_cX4_init_1 5 rfl
theorem dX4_init_108 : decode cX4_init 108 = .ok (.iconst 0, 1) := dq0 (p := fun a b => decode cX4_init a = .ok b) dm_cX4_init_1 6 rfl
theorem dX4_init_109 : decode cX4_init 109 = .ok (.istore_n 1, 1) := dq0 (p := fun a b => decode cX4_init a = .ok b) dm_cX4_init_1 7 rfl
theorem dX4_init_110 : decode cX4_init 110 = .ok (.iload_n 1, 1) := dq0 (p := fun a b => decode cX4_init a = .ok b) dm_cX4_init_1 8 rfl
theorem dX4_init_111 : decode cX4_init 111 = .ok (.bipush 8, 2) := dq0 (p := fun a b => decode cX4_init a = .ok b) dm_cX4_init_1 9 rfl
theorem dX4_init_113 : decode cX4_init 113 = .ok (.if_icmp .ge 61, 3) := dq0 (p := fun a b => decode cX4_init a = .ok b) dm_cX4_init_1 10 rfl
theorem dX4_init_116 : decode cX4_init 116 = .ok (.aload_n 0, 1) := dq0 (p := fun a b => decode cX4_init a = .ok b) dm_cX4_init_1 11 rfl
theorem dX4_init_117 : decode cX4_init 117 = .ok (.getfield 13, 3) := dq0 (p := fun a b => decode cX4_init a = .ok b) dm_cX4_init_1 12 rfl
theorem dX4_init_120 : decode cX4_init 120 = .ok (.iload_n 1, 1) := dq0 (p := fun a b => decode cX4_init a = .ok b) dm_cX4_init_1 13 rfl
theorem dX4_init_121 : decode cX4_init 121 = .ok (.bipush 8, 2) := dq0 (p := fun a b => decode cX4_init a = .ok b) dm_cX4_init_1 14 rfl
theorem dX4_init_123 : decode cX4_init 123 = .ok (.aload_n 0, 1) := dq0 (p := fun a b => decode cX4_init a = .ok b) dm_cX4_init_1 15 rfl
theorem dX4_init_124 : decode cX4_init 124 = .ok (.getfield 28, 3) := dq0 (p := fun a b => decode cX4_init a = .ok b) dm_cX4_init_1 16 rfl
theorem dX4_init_127 : decode cX4_init 127 = .ok (.iload_n 1, 1) := dq0 (p := fun a b => decode cX4_init a = .ok b) dm_cX4_init_1 17 rfl
theorem dX4_init_128 : decode cX4_init 128 = .ok (.iaload, 1) := dq0 (p := fun a b => decode cX4_init a = .ok b) dm_cX4_init_1 18 rfl
theorem dX4_init_129 : decode cX4_init 129 = .ok (.iadd, 1) := dq0 (p := fun a b => decode cX4_init a = .ok b) dm_cX4_init_1 19 rfl
theorem dX4_init_130 : decode cX4_init 130 = .ok (.iastore, 1) := dq0 (p := fun a b => decode cX4_init a = .ok b) dm_cX4_init_1 20 rfl
theorem dX4_init_131 : decode cX4_init 131 = .ok (.aload_n 0, 1) := dq0 (p := fun a b => decode cX4_init a = .ok b) dm_cX4_init_1 21 rfl
theorem dX4_init_132 : decode cX4_init 132 = .ok (.getfield 13, 3) := dq0 (p := fun a b => decode cX4_init a = .ok b) dm_cX4_init_1 22 rfl
theorem dX4_init_135 : decode cX4_init 135 = .ok (.bipush 8, 2) := dq0 (p := fun a b => decode cX4_init a = .ok b) dm_cX4_init_1 23 rfl
theorem dX4_init_137 : decode cX4_init 137 = .ok (.iload_n 1, 1) := dq0 (p := fun a b => decode cX4_init a = .ok b) dm_cX4_init_1 24 rfl
theorem dX4_init_138 : decode cX4_init 138 = .ok (.iadd, 1) := dq0 (p := fun a b => decode cX4_init a = .ok b) dm_cX4_init_1 25 rfl
theorem dX4_init_139 : decode cX4_init 139 = .ok (.bipush 14, 2) := dq0 (p := fun a b => decode cX4_init a = .ok b) dm_cX4_init_1 26 rfl
theorem dX4_init_141 : decode cX4_init 141 = .ok (.iastore, 1) := dq0 (p := fun a b => decode cX4_init a = .ok b) dm_cX4_init_1 27 rfl
theorem dX4_init_142 : decode cX4_init 142 = .ok (.aload_n 0, 1) := dq0 (p := fun a b => decode cX4_init a = .ok b) dm_cX4_init_1 28 rfl
theorem dX4_init_143 : decode cX4_init 143 = .ok (.getfield 13, 3) := dq0 (p := fun a b => decode cX4_init a = .ok b) dm_cX4_init_1 29 rfl
theorem dX4_init_146 : decode cX4_init 146 = .ok (.bipush 48, 2) := dq0 (p := fun a b => decode cX4_init a = .ok b) dm_cX4_init_1 30 rfl
theorem dX4_init_148 : decode cX4_init 148 = .ok (.iload_n 1, 1) := dq0 (p := fun a b => decode cX4_init a = .ok b) dm_cX4_init_1 31 rfl
theorem dX4_init_149 : decode cX4_init 149 = .ok (.iadd, 1) := dq0 (p := fun a b => decode cX4_init a = .ok b) dm_cX4_init_1 32 rfl
theorem dX4_init_150 : decode cX4_init 150 = .ok (.bipush 6, 2) := dq0 (p := fun a b => decode cX4_init a = .ok b) dm_cX4_init_1 33 rfl
theorem dX4_init_152 : decode cX4_init 152 = .ok (.iastore, 1) := dq0 (p := fun a b => decode cX4_init a = .ok b) dm_cX4_init_1 34 rfl
theorem dX4_init_153 : decode cX4_init 153 = .ok (.aload_n 0, 1) := dq0 (p := fun a b => decode cX4_init a = .ok b) dm_cX4_init_1 35 rfl
theorem dX4_init_154 : decode cX4_init 154 = .ok (.getfield 13, 3) := dq0 (p := fun a b => decode cX4_init a = .ok b) dm_cX4_init_1 36 rfl
theorem dX4_init_157 : decode cX4_init 157 = .ok (.bipush 56, 2) := dq0 (p := fun a b => decode cX4_init a = .ok b) dm_cX4_init_1 37 rfl
theorem dX4_init_159 : decode cX4_init 159 = .ok (.iload_n 1, 1) := dq0 (p := fun a b => decode cX4_init a = .ok b) dm_cX4_init_1 38 rfl
theorem dX4_init_160 : decode cX4_init 160 = .ok (.iadd, 1) := dq0 (p := fun a b => decode cX4_init a = .ok b) dm_cX4_init_1 39 rfl
theorem dX4_init_161 : decode cX4_init 161 = .ok (.aload_n 0, 1) := dq0 (p := fun a b => decode cX4_init a = .ok b) dm_cX4_init_1 40 rfl
theorem dX4_init_162 : decode cX4_init 162 = .ok (.getfield 28, 3) := dq0 (p := fun a b => decode cX4_init a = .ok b) dm_cX4_init_1 41 rfl
theorem dX4_init_165 : decode cX4_init 165 = .ok (.iload_n 1, 1) := dq0 (p := fun a b => decode cX4_init a = .ok b) dm_cX4_init_1 42 rfl
theorem dX4_init_166 : decode cX4_init 166 = .ok (.iaload, 1) := dq0 (p := fun a b => decode cX4_init a = .ok b) dm_cX4_init_1 43 rfl
theorem dX4_init_167 : decode cX4_init 167 = .ok (.iastore, 1) := dq0 (p := fun a b => decode cX4_init a = .ok b) dm_cX4_init_1 44 rfl
theorem dX4_init_168 : decode cX4_init 168 = .ok (.iinc 1 1, 3) := dq0 (p := fun a b => decode cX4_init a = .ok b) dm_cX4_init_1 45 rfl
theorem dX4_init_171 : decode cX4_init 171 = .ok (.goto (-61), 3) := dq0 (p := fun a b => decode cX4_init a = .ok b) dm_cX4_init_1 46 rfl
theorem dX4_init_174 : decode cX4_init 174 = .ok (.aload_n 0, 1) := dq0 (p := fun a b => decode cX4_init a = .ok b) dm_cX4_init_1 47 rfl
theorem dX4_init_175 : decode cX4_init 175 = .ok (.getfield 13, 3) := dq0 (p := fun a b => decode cX4_init a = .ok b) dm_cX4_init_1 48 rfl
theorem dX4_init_178 : decode cX4_init 178 = .ok (.iconst 1, 1) := dq0 (p := fun a b => decode cX4_init a = .ok b) dm_cX4_init_1 49 rfl
theorem dX4_init_179 : decode cX4_init 179 = .ok (.bipush 6, 2) := dq0 (p := fun a b => decode cX4_init a = .ok b) dm_cX4_init_1 50 rfl
theorem dX4_init_181 : decode cX4_init 181 = .ok (.invokestatic 37, 3) := dq0 (p := fun a b => decode cX4_init a = .ok b) dm_cX4_init_1 51 rfl
theorem dX4_init_184 : decode cX4_init 184 = .ok (.aload_n 0, 1) := dq0 (p := fun a b => decode cX4_init a = .ok b) dm_cX4_init_1 52 rfl
theorem dX4_init_185 : decode cX4_init 185 = .ok (.getfield 13, 3) := dq0 (p := fun a b => decode cX4_init a = .ok b) dm_cX4_init_1 53 rfl
theorem dX4_init_188 : decode cX4_init 188 = .ok (.bipush 57, 2) := dq0 (p := fun a b => decode cX4_init a = .ok b) dm_cX4_init_1 54 rfl
theorem dX4_init_190 : decode cX4_init 190 = .ok (.bipush 62, 2) := dq0 (p := fun a b => decode cX4_init a = .ok b) dm_cX4_init_1 55 rfl
theorem dX4_init_192 : decode cX4_init 192 = .ok (.invokestatic 37, 3) := dq0 (p := fun a b => decode cX4_init a = .ok b) dm_cX4_init_1 56 rfl
theorem dX4_init_195 : decode cX4_init 195 = .ok (.aload_n 0, 1) := dq0 (p := fun a b => decode cX4_init a = .ok b) dm_cX4_init_1 57 rfl
theorem dX4_init_196 : decode cX4_init 196 = .ok (.getfield 13, 3) := dq0 (p := fun a b => decode cX4_init a = .ok b) dm_cX4_init_1 58 rfl
theorem dX4_init_199 : decode cX4_init 199 = .ok (.sipush 128, 3) := dq0 (p := fun a b => decode cX4_init a = .ok b) dm_cX4_init_1 59 rfl
theorem dm_cX4_init_2 : ([(202, .bipush 8, 2), (204, .iastore, 1), (205, .aload_n 0, 1), (206, .invokevirtual 41, 3), (209, .return_, 1)] : List (Nat × Instr × Nat)).all (fun t => decide (decode cX4_init t.1 = .ok t.2)) = true := by decide +kernel
theorem dX4_init_202 : decode cX4_init 202 = .ok (.bipush 8, 2) := dq0 (p := fun a b => decode cX4_init a = .ok b) dm_cX4_init_2 0 rfl
theorem dX4_init_204 : decode cX4_init 204 = .ok (.iastore, 1) := dq0 (p := fun a b => decode cX4_init a = .ok b) dm_cX4_init_2 1 rfl
theorem dX4_init_205 : decode cX4_init 205 = .ok (.aload_n 0, 1) := dq0 (p := fun a b => decode cX4_init a = .ok b) dm_cX4_init_2 2 rfl
theorem dX4_init_206 : decode cX4_init 206 = .ok (.invokevirtual 41, 3) := dq0 (p := fun a b => decode cX4_init a = .ok b) dm_cX4_init_2 3 rfl
theorem dX4_init_209 : decode cX4_init 209 = .ok (.return_, 1) := dq0 (p := fun a b => decode cX4_init a = .ok b) dm_cX4_init_2 4 rfl
